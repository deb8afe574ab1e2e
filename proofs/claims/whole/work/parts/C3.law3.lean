/-! the law's cases -/
section LC2
variable {p : Program} {l : Launch} {e : Env} {s : State} {m : MethodId} {below : List Frame} {meth : Method} {c : Code} {D : va_G} {dA : Nat → ClassId} {b L : Nat} {xs : Nat → Int32} {M : pm_M} {a : As}
theorem lc_16 (hS : LwS p s m meth c D dA b L xs) (hL : L ≤ 3072) (ha : aw a) (hC : IC a M) (hI : IM a M) {i : Nat} (hi : i + 6 ≤ L) (K : ∀ a' M', aw a' → IC a' M' → IM a' M' → LG p l e s m below meth c D dA b M' (LL s b (nI i)) 1513 []) : LG p l e s m below meth c D dA b M (LL s b (nI i)) 740 [] := by
  obtain ⟨x, a', ha', hc, hm⟩ := b_rope ha (xs (i + 1))
  obtain ⟨M1, k1, c1, f1⟩ := hc 0 M hC
  have i1 : IM a M1 := hI.kept c1.1 f1
  obtain ⟨M2, k2, c2, f2⟩ := hm 0 M1 i1
  have ic2 : IC a' M2 := c1.kept c2.1 f2
  obtain ⟨v, hv⟩ := wp_Ri ri_106 k1.2.2
  have hv := Option.some.inj hv
  subst hv
  refine lg_a1 hS (by decide +kernel) ?_
  refine lg_arg (k := 1) (v := nI 1) hS (by decide +kernel) (by decide +kernel) (by decide +kernel) (by decide +kernel) (by decide +kernel) (by decide) (nI_ar (by omega) hL).1 ?_
  rw [(nI_ar (i := i) (k := 1) (L := L) (by omega) hL).2]
  refine lg_callV (As := [.int (xs (i + 1))]) (rest := []) (k := 0) (j := 106) (na := 1) (y := yX10_rope) (bytes := cX10_rope) (mL := 2) (rt := (some .int)) (C0 := RX10) (T := TX10) (cn := 10) (N := 20) (index := 81) hS (by decide +kernel) ck_10 (tT hC.1 rfl) rfl (pm_gw_of (i := 711) (by decide +kernel) rfl) (pm_gw_of (i := 95) (by decide +kernel) rfl) (by decide +kernel) (by decide) (pm_gw_of (i := 708) (by decide +kernel) rfl) (pm_gw_of (i := 709) (by decide +kernel) rfl) (pm_gw_of (i := 710) (by decide +kernel) rfl) (by decide) k1 rfl (Nat.le_of_ble_eq_true rfl) (ok_z c1.1).1 (ok_z c1.1).2 ?_
  refine lg_a2 hS (by decide +kernel) ?_
  refine lg_arg (k := 1) (v := nI 1) hS (by decide +kernel) (by decide +kernel) (by decide +kernel) (by decide +kernel) (by decide +kernel) (by decide) (nI_ar (by omega) hL).1 ?_
  rw [(nI_ar (i := i) (k := 1) (L := L) (by omega) hL).2]
  refine lg_callV (As := [.int (xs (i + 1))]) (rest := [.int v]) (k := 132) (j := 205) (na := 1) (y := yX11_rope) (bytes := cX11_rope) (mL := 2) (rt := (some .int)) (C0 := RX11) (T := TX11) (cn := 11) (N := 57) (index := 84) hS (by decide +kernel) ck_11 (tT c1.1 rfl) rfl (pm_gw_of (i := 1482) (by decide +kernel) rfl) (pm_gw_of (i := 106) (by decide +kernel) rfl) (by decide +kernel) (by decide) (pm_gw_of (i := 1479) (by decide +kernel) rfl) (pm_gw_of (i := 1480) (by decide +kernel) rfl) (pm_gw_of (i := 1481) (by decide +kernel) rfl) (by decide) k2 rfl (Nat.le_of_ble_eq_true rfl) (ok_z c2.1).1 (ok_z c2.1).2 ?_
  exact lg_eqI (x := v) (off := 755) hS (by decide +kernel) (tgt := 1513) (by decide) (K a' M2 ha' ic2 c2)
theorem lc_17 (hS : LwS p s m meth c D dA b L xs) (hL : L ≤ 3072) (ha : aw a) (hC : IC a M) (hI : IM a M) {i : Nat} (hi : i + 6 ≤ L) (K : ∀ a' M', aw a' → IC a' M' → IM a' M' → LG p l e s m below meth c D dA b M' (LL s b (nI i)) 1513 []) : LG p l e s m below meth c D dA b M (LL s b (nI i)) 763 [] := by
  obtain ⟨x, a', ha', hc, hm⟩ := b_left ha
  obtain ⟨M1, k1, c1, f1⟩ := hc 0 M hC
  have i1 : IM a M1 := hI.kept c1.1 f1
  obtain ⟨M2, k2, c2, f2⟩ := hm 0 M1 i1
  have ic2 : IC a' M2 := c1.kept c2.1 f2
  obtain ⟨v, hv⟩ := wp_Ri ri_107 k1.2.2
  have hv := Option.some.inj hv
  subst hv
  refine lg_a1 hS (by decide +kernel) ?_
  refine lg_callV (As := []) (rest := []) (k := 0) (j := 107) (na := 0) (y := yX10_left) (bytes := cX10_left) (mL := 1) (rt := (some .int)) (C0 := RX10) (T := TX10) (cn := 10) (N := 20) (index := 85) hS (by decide +kernel) ck_10 (tT hC.1 rfl) rfl (pm_gw_of (i := 715) (by decide +kernel) rfl) (pm_gw_of (i := 95) (by decide +kernel) rfl) (by decide +kernel) (by decide) (pm_gw_of (i := 712) (by decide +kernel) rfl) (pm_gw_of (i := 713) (by decide +kernel) rfl) (pm_gw_of (i := 714) (by decide +kernel) rfl) (by decide) k1 rfl (Nat.le_of_ble_eq_true rfl) (ok_z c1.1).1 (ok_z c1.1).2 ?_
  refine lg_a2 hS (by decide +kernel) ?_
  refine lg_callV (As := []) (rest := [.int v]) (k := 132) (j := 206) (na := 0) (y := yX11_left) (bytes := cX11_left) (mL := 1) (rt := (some .int)) (C0 := RX11) (T := TX11) (cn := 11) (N := 57) (index := 89) hS (by decide +kernel) ck_11 (tT c1.1 rfl) rfl (pm_gw_of (i := 1486) (by decide +kernel) rfl) (pm_gw_of (i := 106) (by decide +kernel) rfl) (by decide +kernel) (by decide) (pm_gw_of (i := 1483) (by decide +kernel) rfl) (pm_gw_of (i := 1484) (by decide +kernel) rfl) (pm_gw_of (i := 1485) (by decide +kernel) rfl) (by decide) k2 rfl (Nat.le_of_ble_eq_true rfl) (ok_z c2.1).1 (ok_z c2.1).2 ?_
  exact lg_eqI (x := v) (off := 742) hS (by decide +kernel) (tgt := 1513) (by decide) (K a' M2 ha' ic2 c2)
theorem lc_18 (hS : LwS p s m meth c D dA b L xs) (hL : L ≤ 3072) (ha : aw a) (hC : IC a M) (hI : IM a M) {i : Nat} (hi : i + 6 ≤ L) (K : ∀ a' M', aw a' → IC a' M' → IM a' M' → LG p l e s m below meth c D dA b M' (LL s b (nI i)) 1513 []) : LG p l e s m below meth c D dA b M (LL s b (nI i)) 776 [] := by
  obtain ⟨x, a', ha', hc, hm⟩ := b_reads ha (xs (i + 1))
  obtain ⟨M1, k1, c1, f1⟩ := hc 0 M hC
  have i1 : IM a M1 := hI.kept c1.1 f1
  obtain ⟨M2, k2, c2, f2⟩ := hm 0 M1 i1
  have ic2 : IC a' M2 := c1.kept c2.1 f2
  obtain ⟨v, hv⟩ := wp_Ri ri_108 k1.2.2
  have hv := Option.some.inj hv
  subst hv
  refine lg_a1 hS (by decide +kernel) ?_
  refine lg_arg (k := 1) (v := nI 1) hS (by decide +kernel) (by decide +kernel) (by decide +kernel) (by decide +kernel) (by decide +kernel) (by decide) (nI_ar (by omega) hL).1 ?_
  rw [(nI_ar (i := i) (k := 1) (L := L) (by omega) hL).2]
  refine lg_callV (As := [.int (xs (i + 1))]) (rest := []) (k := 0) (j := 108) (na := 1) (y := yX10_reads) (bytes := cX10_reads) (mL := 2) (rt := (some .int)) (C0 := RX10) (T := TX10) (cn := 10) (N := 20) (index := 90) hS (by decide +kernel) ck_10 (tT hC.1 rfl) rfl (pm_gw_of (i := 719) (by decide +kernel) rfl) (pm_gw_of (i := 95) (by decide +kernel) rfl) (by decide +kernel) (by decide) (pm_gw_of (i := 716) (by decide +kernel) rfl) (pm_gw_of (i := 717) (by decide +kernel) rfl) (pm_gw_of (i := 718) (by decide +kernel) rfl) (by decide) k1 rfl (Nat.le_of_ble_eq_true rfl) (ok_z c1.1).1 (ok_z c1.1).2 ?_
  refine lg_a2 hS (by decide +kernel) ?_
  refine lg_arg (k := 1) (v := nI 1) hS (by decide +kernel) (by decide +kernel) (by decide +kernel) (by decide +kernel) (by decide +kernel) (by decide) (nI_ar (by omega) hL).1 ?_
  rw [(nI_ar (i := i) (k := 1) (L := L) (by omega) hL).2]
  refine lg_callV (As := [.int (xs (i + 1))]) (rest := [.int v]) (k := 132) (j := 207) (na := 1) (y := yX11_reads) (bytes := cX11_reads) (mL := 2) (rt := (some .int)) (C0 := RX11) (T := TX11) (cn := 11) (N := 57) (index := 93) hS (by decide +kernel) ck_11 (tT c1.1 rfl) rfl (pm_gw_of (i := 1490) (by decide +kernel) rfl) (pm_gw_of (i := 106) (by decide +kernel) rfl) (by decide +kernel) (by decide) (pm_gw_of (i := 1487) (by decide +kernel) rfl) (pm_gw_of (i := 1488) (by decide +kernel) rfl) (pm_gw_of (i := 1489) (by decide +kernel) rfl) (by decide) k2 rfl (Nat.le_of_ble_eq_true rfl) (ok_z c2.1).1 (ok_z c2.1).2 ?_
  exact lg_eqI (x := v) (off := 719) hS (by decide +kernel) (tgt := 1513) (by decide) (K a' M2 ha' ic2 c2)
theorem lc_19 (hS : LwS p s m meth c D dA b L xs) (hL : L ≤ 3072) (ha : aw a) (hC : IC a M) (hI : IM a M) {i : Nat} (hi : i + 6 ≤ L) (K : ∀ a' M', aw a' → IC a' M' → IM a' M' → LG p l e s m below meth c D dA b M' (LL s b (nI i)) 1513 []) : LG p l e s m below meth c D dA b M (LL s b (nI i)) 799 [] := by
  obtain ⟨x, a', ha', hc, hm⟩ := b_lies ha (xs (i + 1))
  obtain ⟨M1, k1, c1, f1⟩ := hc 0 M hC
  have i1 : IM a M1 := hI.kept c1.1 f1
  obtain ⟨M2, k2, c2, f2⟩ := hm 0 M1 i1
  have ic2 : IC a' M2 := c1.kept c2.1 f2
  obtain ⟨v, hv⟩ := wp_Ri ri_109 k1.2.2
  have hv := Option.some.inj hv
  subst hv
  refine lg_a1 hS (by decide +kernel) ?_
  refine lg_arg (k := 1) (v := nI 1) hS (by decide +kernel) (by decide +kernel) (by decide +kernel) (by decide +kernel) (by decide +kernel) (by decide) (nI_ar (by omega) hL).1 ?_
  rw [(nI_ar (i := i) (k := 1) (L := L) (by omega) hL).2]
  refine lg_callV (As := [.int (xs (i + 1))]) (rest := []) (k := 0) (j := 109) (na := 1) (y := yX10_lies) (bytes := cX10_lies) (mL := 2) (rt := (some .int)) (C0 := RX10) (T := TX10) (cn := 10) (N := 20) (index := 94) hS (by decide +kernel) ck_10 (tT hC.1 rfl) rfl (pm_gw_of (i := 732) (by decide +kernel) rfl) (pm_gw_of (i := 95) (by decide +kernel) rfl) (by decide +kernel) (by decide) (pm_gw_of (i := 729) (by decide +kernel) rfl) (pm_gw_of (i := 730) (by decide +kernel) rfl) (pm_gw_of (i := 731) (by decide +kernel) rfl) (by decide) k1 rfl (Nat.le_of_ble_eq_true rfl) (ok_z c1.1).1 (ok_z c1.1).2 ?_
  refine lg_a2 hS (by decide +kernel) ?_
  refine lg_arg (k := 1) (v := nI 1) hS (by decide +kernel) (by decide +kernel) (by decide +kernel) (by decide +kernel) (by decide +kernel) (by decide) (nI_ar (by omega) hL).1 ?_
  rw [(nI_ar (i := i) (k := 1) (L := L) (by omega) hL).2]
  refine lg_callV (As := [.int (xs (i + 1))]) (rest := [.int v]) (k := 132) (j := 208) (na := 1) (y := yX11_lies) (bytes := cX11_lies) (mL := 2) (rt := (some .int)) (C0 := RX11) (T := TX11) (cn := 11) (N := 57) (index := 97) hS (by decide +kernel) ck_11 (tT c1.1 rfl) rfl (pm_gw_of (i := 1506) (by decide +kernel) rfl) (pm_gw_of (i := 106) (by decide +kernel) rfl) (by decide +kernel) (by decide) (pm_gw_of (i := 1503) (by decide +kernel) rfl) (pm_gw_of (i := 1504) (by decide +kernel) rfl) (pm_gw_of (i := 1505) (by decide +kernel) rfl) (by decide) k2 rfl (Nat.le_of_ble_eq_true rfl) (ok_z c2.1).1 (ok_z c2.1).2 ?_
  exact lg_eqI (x := v) (off := 696) hS (by decide +kernel) (tgt := 1513) (by decide) (K a' M2 ha' ic2 c2)
theorem lc_20 (hS : LwS p s m meth c D dA b L xs) (hL : L ≤ 3072) (ha : aw a) (hC : IC a M) (hI : IM a M) {i : Nat} (hi : i + 6 ≤ L) (K : ∀ a' M', aw a' → IC a' M' → IM a' M' → LG p l e s m below meth c D dA b M' (LL s b (nI i)) 1513 []) : LG p l e s m below meth c D dA b M (LL s b (nI i)) 822 [] := by
  obtain ⟨x, a', ha', hc, hm⟩ := b_keep ha (xs (i + 1))
  obtain ⟨M1, k1, c1, f1⟩ := hc 0 M hC
  have i1 : IM a M1 := hI.kept c1.1 f1
  obtain ⟨M2, k2, c2, f2⟩ := hm 0 M1 i1
  have ic2 : IC a' M2 := c1.kept c2.1 f2
  obtain ⟨v, hv⟩ := wp_Ri ri_110 k1.2.2
  have hv := Option.some.inj hv
  subst hv
  refine lg_a1 hS (by decide +kernel) ?_
  refine lg_arg (k := 1) (v := nI 1) hS (by decide +kernel) (by decide +kernel) (by decide +kernel) (by decide +kernel) (by decide +kernel) (by decide) (nI_ar (by omega) hL).1 ?_
  rw [(nI_ar (i := i) (k := 1) (L := L) (by omega) hL).2]
  refine lg_callV (As := [.int (xs (i + 1))]) (rest := []) (k := 0) (j := 110) (na := 1) (y := yX10_keep) (bytes := cX10_keep) (mL := 2) (rt := (some .int)) (C0 := RX10) (T := TX10) (cn := 10) (N := 20) (index := 98) hS (by decide +kernel) ck_10 (tT hC.1 rfl) rfl (pm_gw_of (i := 736) (by decide +kernel) rfl) (pm_gw_of (i := 95) (by decide +kernel) rfl) (by decide +kernel) (by decide) (pm_gw_of (i := 733) (by decide +kernel) rfl) (pm_gw_of (i := 734) (by decide +kernel) rfl) (pm_gw_of (i := 735) (by decide +kernel) rfl) (by decide) k1 rfl (Nat.le_of_ble_eq_true rfl) (ok_z c1.1).1 (ok_z c1.1).2 ?_
  refine lg_a2 hS (by decide +kernel) ?_
  refine lg_arg (k := 1) (v := nI 1) hS (by decide +kernel) (by decide +kernel) (by decide +kernel) (by decide +kernel) (by decide +kernel) (by decide) (nI_ar (by omega) hL).1 ?_
  rw [(nI_ar (i := i) (k := 1) (L := L) (by omega) hL).2]
  refine lg_callV (As := [.int (xs (i + 1))]) (rest := [.int v]) (k := 132) (j := 210) (na := 1) (y := yX11_keep) (bytes := cX11_keep) (mL := 3) (rt := (some .int)) (C0 := RX11) (T := TX11) (cn := 11) (N := 57) (index := 101) hS (by decide +kernel) ck_11 (tT c1.1 rfl) rfl (pm_gw_of (i := 1510) (by decide +kernel) rfl) (pm_gw_of (i := 106) (by decide +kernel) rfl) (by decide +kernel) (by decide) (pm_gw_of (i := 1507) (by decide +kernel) rfl) (pm_gw_of (i := 1508) (by decide +kernel) rfl) (pm_gw_of (i := 1509) (by decide +kernel) rfl) (by decide) k2 rfl (Nat.le_of_ble_eq_true rfl) (ok_z c2.1).1 (ok_z c2.1).2 ?_
  exact lg_eqI (x := v) (off := 673) hS (by decide +kernel) (tgt := 1513) (by decide) (K a' M2 ha' ic2 c2)
theorem lc_21 (hS : LwS p s m meth c D dA b L xs) (hL : L ≤ 3072) (ha : aw a) (hC : IC a M) (hI : IM a M) {i : Nat} (hi : i + 6 ≤ L) (K : ∀ a' M', aw a' → IC a' M' → IM a' M' → LG p l e s m below meth c D dA b M' (LL s b (nI i)) 1513 []) : LG p l e s m below meth c D dA b M (LL s b (nI i)) 845 [] := by
  obtain ⟨x, a', ha', hc, hm⟩ := b_on ha (xs (i + 1))
  obtain ⟨M1, k1, c1, f1⟩ := hc 0 M hC
  have i1 : IM a M1 := hI.kept c1.1 f1
  obtain ⟨M2, k2, c2, f2⟩ := hm 0 M1 i1
  have ic2 : IC a' M2 := c1.kept c2.1 f2
  obtain ⟨v, hv⟩ := wp_Ri ri_111 k1.2.2
  have hv := Option.some.inj hv
  subst hv
  refine lg_a1 hS (by decide +kernel) ?_
  refine lg_arg (k := 1) (v := nI 1) hS (by decide +kernel) (by decide +kernel) (by decide +kernel) (by decide +kernel) (by decide +kernel) (by decide) (nI_ar (by omega) hL).1 ?_
  rw [(nI_ar (i := i) (k := 1) (L := L) (by omega) hL).2]
  refine lg_callV (As := [.int (xs (i + 1))]) (rest := []) (k := 0) (j := 111) (na := 1) (y := yX10_on) (bytes := cX10_on) (mL := 2) (rt := (some .int)) (C0 := RX10) (T := TX10) (cn := 10) (N := 20) (index := 102) hS (by decide +kernel) ck_10 (tT hC.1 rfl) rfl (pm_gw_of (i := 740) (by decide +kernel) rfl) (pm_gw_of (i := 95) (by decide +kernel) rfl) (by decide +kernel) (by decide) (pm_gw_of (i := 737) (by decide +kernel) rfl) (pm_gw_of (i := 738) (by decide +kernel) rfl) (pm_gw_of (i := 739) (by decide +kernel) rfl) (by decide) k1 rfl (Nat.le_of_ble_eq_true rfl) (ok_z c1.1).1 (ok_z c1.1).2 ?_
  refine lg_a2 hS (by decide +kernel) ?_
  refine lg_arg (k := 1) (v := nI 1) hS (by decide +kernel) (by decide +kernel) (by decide +kernel) (by decide +kernel) (by decide +kernel) (by decide) (nI_ar (by omega) hL).1 ?_
  rw [(nI_ar (i := i) (k := 1) (L := L) (by omega) hL).2]
  refine lg_callV (As := [.int (xs (i + 1))]) (rest := [.int v]) (k := 132) (j := 211) (na := 1) (y := yX11_on) (bytes := cX11_on) (mL := 3) (rt := (some .int)) (C0 := RX11) (T := TX11) (cn := 11) (N := 57) (index := 105) hS (by decide +kernel) ck_11 (tT c1.1 rfl) rfl (pm_gw_of (i := 1514) (by decide +kernel) rfl) (pm_gw_of (i := 106) (by decide +kernel) rfl) (by decide +kernel) (by decide) (pm_gw_of (i := 1511) (by decide +kernel) rfl) (pm_gw_of (i := 1512) (by decide +kernel) rfl) (pm_gw_of (i := 1513) (by decide +kernel) rfl) (by decide) k2 rfl (Nat.le_of_ble_eq_true rfl) (ok_z c2.1).1 (ok_z c2.1).2 ?_
  exact lg_eqI (x := v) (off := 650) hS (by decide +kernel) (tgt := 1513) (by decide) (K a' M2 ha' ic2 c2)
theorem lc_22 (hS : LwS p s m meth c D dA b L xs) (hL : L ≤ 3072) (ha : aw a) (hC : IC a M) (hI : IM a M) {i : Nat} (hi : i + 6 ≤ L) (K : ∀ a' M', aw a' → IC a' M' → IM a' M' → LG p l e s m below meth c D dA b M' (LL s b (nI i)) 1513 []) : LG p l e s m below meth c D dA b M (LL s b (nI i)) 868 [] := by
  obtain ⟨x, a', ha', hc, hm⟩ := b_judge ha (xs (i + 1))
  obtain ⟨M1, k1, c1, f1⟩ := hc 0 M hC
  have i1 : IM a M1 := hI.kept c1.1 f1
  obtain ⟨M2, k2, c2, f2⟩ := hm 0 M1 i1
  have ic2 : IC a' M2 := c1.kept c2.1 f2
  obtain ⟨v, hv⟩ := wp_Ri ri_112 k1.2.2
  have hv := Option.some.inj hv
  subst hv
  refine lg_a1 hS (by decide +kernel) ?_
  refine lg_arg (k := 1) (v := nI 1) hS (by decide +kernel) (by decide +kernel) (by decide +kernel) (by decide +kernel) (by decide +kernel) (by decide) (nI_ar (by omega) hL).1 ?_
  rw [(nI_ar (i := i) (k := 1) (L := L) (by omega) hL).2]
  refine lg_callV (As := [.int (xs (i + 1))]) (rest := []) (k := 0) (j := 112) (na := 1) (y := yX10_judge) (bytes := cX10_judge) (mL := 9) (rt := (some .int)) (C0 := RX10) (T := TX10) (cn := 10) (N := 20) (index := 106) hS (by decide +kernel) ck_10 (tT hC.1 rfl) rfl (pm_gw_of (i := 744) (by decide +kernel) rfl) (pm_gw_of (i := 95) (by decide +kernel) rfl) (by decide +kernel) (by decide) (pm_gw_of (i := 741) (by decide +kernel) rfl) (pm_gw_of (i := 742) (by decide +kernel) rfl) (pm_gw_of (i := 743) (by decide +kernel) rfl) (by decide) k1 rfl (Nat.le_of_ble_eq_true rfl) (ok_z c1.1).1 (ok_z c1.1).2 ?_
  refine lg_a2 hS (by decide +kernel) ?_
  refine lg_arg (k := 1) (v := nI 1) hS (by decide +kernel) (by decide +kernel) (by decide +kernel) (by decide +kernel) (by decide +kernel) (by decide) (nI_ar (by omega) hL).1 ?_
  rw [(nI_ar (i := i) (k := 1) (L := L) (by omega) hL).2]
  refine lg_callV (As := [.int (xs (i + 1))]) (rest := [.int v]) (k := 132) (j := 215) (na := 1) (y := yX11_judge) (bytes := cX11_judge) (mL := 6) (rt := (some .int)) (C0 := RX11) (T := TX11) (cn := 11) (N := 57) (index := 109) hS (by decide +kernel) ck_11 (tT c1.1 rfl) rfl (pm_gw_of (i := 1522) (by decide +kernel) rfl) (pm_gw_of (i := 106) (by decide +kernel) rfl) (by decide +kernel) (by decide) (pm_gw_of (i := 1519) (by decide +kernel) rfl) (pm_gw_of (i := 1520) (by decide +kernel) rfl) (pm_gw_of (i := 1521) (by decide +kernel) rfl) (by decide) k2 rfl (Nat.le_of_ble_eq_true rfl) (ok_z c2.1).1 (ok_z c2.1).2 ?_
  exact lg_eqI (x := v) (off := 627) hS (by decide +kernel) (tgt := 1513) (by decide) (K a' M2 ha' ic2 c2)
theorem lc_23 (hS : LwS p s m meth c D dA b L xs) (hL : L ≤ 3072) (ha : aw a) (hC : IC a M) (hI : IM a M) {i : Nat} (hi : i + 6 ≤ L) (K : ∀ a' M', aw a' → IC a' M' → IM a' M' → LG p l e s m below meth c D dA b M' (LL s b (nI i)) 1513 []) : LG p l e s m below meth c D dA b M (LL s b (nI i)) 891 [] := by
  obtain ⟨x, a', ha', hc, hm⟩ := b_takes ha (xs (i + 1))
  obtain ⟨M1, k1, c1, f1⟩ := hc 0 M hC
  have i1 : IM a M1 := hI.kept c1.1 f1
  obtain ⟨M2, k2, c2, f2⟩ := hm 0 M1 i1
  have ic2 : IC a' M2 := c1.kept c2.1 f2
  obtain ⟨v, hv⟩ := wp_Ri ri_113 k1.2.2
  have hv := Option.some.inj hv
  subst hv
  refine lg_a1 hS (by decide +kernel) ?_
  refine lg_arg (k := 1) (v := nI 1) hS (by decide +kernel) (by decide +kernel) (by decide +kernel) (by decide +kernel) (by decide +kernel) (by decide) (nI_ar (by omega) hL).1 ?_
  rw [(nI_ar (i := i) (k := 1) (L := L) (by omega) hL).2]
  refine lg_callV (As := [.int (xs (i + 1))]) (rest := []) (k := 0) (j := 113) (na := 1) (y := yX10_takes) (bytes := cX10_takes) (mL := 3) (rt := (some .int)) (C0 := RX10) (T := TX10) (cn := 10) (N := 20) (index := 110) hS (by decide +kernel) ck_10 (tT hC.1 rfl) rfl (pm_gw_of (i := 763) (by decide +kernel) rfl) (pm_gw_of (i := 95) (by decide +kernel) rfl) (by decide +kernel) (by decide) (pm_gw_of (i := 760) (by decide +kernel) rfl) (pm_gw_of (i := 761) (by decide +kernel) rfl) (pm_gw_of (i := 762) (by decide +kernel) rfl) (by decide) k1 rfl (Nat.le_of_ble_eq_true rfl) (ok_z c1.1).1 (ok_z c1.1).2 ?_
  refine lg_a2 hS (by decide +kernel) ?_
  refine lg_arg (k := 1) (v := nI 1) hS (by decide +kernel) (by decide +kernel) (by decide +kernel) (by decide +kernel) (by decide +kernel) (by decide) (nI_ar (by omega) hL).1 ?_
  rw [(nI_ar (i := i) (k := 1) (L := L) (by omega) hL).2]
  refine lg_callV (As := [.int (xs (i + 1))]) (rest := [.int v]) (k := 132) (j := 216) (na := 1) (y := yX11_takes) (bytes := cX11_takes) (mL := 3) (rt := (some .int)) (C0 := RX11) (T := TX11) (cn := 11) (N := 57) (index := 113) hS (by decide +kernel) ck_11 (tT c1.1 rfl) rfl (pm_gw_of (i := 1542) (by decide +kernel) rfl) (pm_gw_of (i := 106) (by decide +kernel) rfl) (by decide +kernel) (by decide) (pm_gw_of (i := 1539) (by decide +kernel) rfl) (pm_gw_of (i := 1540) (by decide +kernel) rfl) (pm_gw_of (i := 1541) (by decide +kernel) rfl) (by decide) k2 rfl (Nat.le_of_ble_eq_true rfl) (ok_z c2.1).1 (ok_z c2.1).2 ?_
  exact lg_eqI (x := v) (off := 604) hS (by decide +kernel) (tgt := 1513) (by decide) (K a' M2 ha' ic2 c2)
end LC2

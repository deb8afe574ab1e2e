/-! the law's cases -/
section LC3
variable {p : Program} {l : Launch} {e : Env} {s : State} {m : MethodId} {below : List Frame} {meth : Method} {c : Code} {D : va_G} {dA : Nat → ClassId} {b L : Nat} {xs : Nat → Int32} {M : pm_M} {a : As}
theorem lc_24 (hS : LwS p s m meth c D dA b L xs) (hL : L ≤ 3072) (ha : aw a) (hC : IC a M) (hI : IM a M) {i : Nat} (hi : i + 6 ≤ L) (K : ∀ a' M', aw a' → IC a' M' → IM a' M' → LG p l e s m below meth c D dA b M' (LL s b (nI i)) 1513 []) : LG p l e s m below meth c D dA b M (LL s b (nI i)) 914 [] := by
  obtain ⟨x, a', ha', hc, hm⟩ := b_says ha (xs (i + 1)) (xs (i + 2))
  obtain ⟨M1, k1, c1, f1⟩ := hc 0 M hC
  have i1 : IM a M1 := hI.kept c1.1 f1
  obtain ⟨M2, k2, c2, f2⟩ := hm 0 M1 i1
  have ic2 : IC a' M2 := c1.kept c2.1 f2
  obtain ⟨v, hv⟩ := wp_Ri ri_114 k1.2.2
  have hv := Option.some.inj hv
  subst hv
  refine lg_a1 hS (by decide +kernel) ?_
  refine lg_arg (k := 1) (v := nI 1) hS (by decide +kernel) (by decide +kernel) (by decide +kernel) (by decide +kernel) (by decide +kernel) (by decide) (nI_ar (by omega) hL).1 ?_
  rw [(nI_ar (i := i) (k := 1) (L := L) (by omega) hL).2]
  refine lg_arg (k := 2) (v := nI 2) hS (by decide +kernel) (by decide +kernel) (by decide +kernel) (by decide +kernel) (by decide +kernel) (by decide) (nI_ar (by omega) hL).1 ?_
  rw [(nI_ar (i := i) (k := 2) (L := L) (by omega) hL).2]
  refine lg_callV (As := [.int (xs (i + 1)), .int (xs (i + 2))]) (rest := []) (k := 0) (j := 114) (na := 2) (y := yX10_says) (bytes := cX10_says) (mL := 4) (rt := (some .int)) (C0 := RX10) (T := TX10) (cn := 10) (N := 20) (index := 114) hS (by decide +kernel) ck_10 (tT hC.1 rfl) rfl (pm_gw_of (i := 768) (by decide +kernel) rfl) (pm_gw_of (i := 95) (by decide +kernel) rfl) (by decide +kernel) (by decide) (pm_gw_of (i := 765) (by decide +kernel) rfl) (pm_gw_of (i := 766) (by decide +kernel) rfl) (pm_gw_of (i := 767) (by decide +kernel) rfl) (by decide) k1 rfl (Nat.le_of_ble_eq_true rfl) (ok_z c1.1).1 (ok_z c1.1).2 ?_
  refine lg_a2 hS (by decide +kernel) ?_
  refine lg_arg (k := 1) (v := nI 1) hS (by decide +kernel) (by decide +kernel) (by decide +kernel) (by decide +kernel) (by decide +kernel) (by decide) (nI_ar (by omega) hL).1 ?_
  rw [(nI_ar (i := i) (k := 1) (L := L) (by omega) hL).2]
  refine lg_arg (k := 2) (v := nI 2) hS (by decide +kernel) (by decide +kernel) (by decide +kernel) (by decide +kernel) (by decide +kernel) (by decide) (nI_ar (by omega) hL).1 ?_
  rw [(nI_ar (i := i) (k := 2) (L := L) (by omega) hL).2]
  refine lg_callV (As := [.int (xs (i + 1)), .int (xs (i + 2))]) (rest := [.int v]) (k := 132) (j := 217) (na := 2) (y := yX11_says) (bytes := cX11_says) (mL := 4) (rt := (some .int)) (C0 := RX11) (T := TX11) (cn := 11) (N := 57) (index := 117) hS (by decide +kernel) ck_11 (tT c1.1 rfl) rfl (pm_gw_of (i := 1546) (by decide +kernel) rfl) (pm_gw_of (i := 106) (by decide +kernel) rfl) (by decide +kernel) (by decide) (pm_gw_of (i := 1543) (by decide +kernel) rfl) (pm_gw_of (i := 1544) (by decide +kernel) rfl) (pm_gw_of (i := 1545) (by decide +kernel) rfl) (by decide) k2 rfl (Nat.le_of_ble_eq_true rfl) (ok_z c2.1).1 (ok_z c2.1).2 ?_
  exact lg_eqI (x := v) (off := 571) hS (by decide +kernel) (tgt := 1513) (by decide) (K a' M2 ha' ic2 c2)
theorem lc_25 (hS : LwS p s m meth c D dA b L xs) (hL : L ≤ 3072) (ha : aw a) (hC : IC a M) (hI : IM a M) {i : Nat} (hi : i + 6 ≤ L) (K : ∀ a' M', aw a' → IC a' M' → IM a' M' → LG p l e s m below meth c D dA b M' (LL s b (nI i)) 1513 []) : LG p l e s m below meth c D dA b M (LL s b (nI i)) 947 [] := by
  obtain ⟨x, a', ha', hc, hm⟩ := b_ropes ha (xs (i + 1))
  obtain ⟨M1, k1, c1, f1⟩ := hc 0 M hC
  have i1 : IM a M1 := hI.kept c1.1 f1
  obtain ⟨M2, k2, c2, f2⟩ := hm 0 M1 i1
  have ic2 : IC a' M2 := c1.kept c2.1 f2
  obtain ⟨v, hv⟩ := wp_Ri ri_115 k1.2.2
  have hv := Option.some.inj hv
  subst hv
  refine lg_a1 hS (by decide +kernel) ?_
  refine lg_arg (k := 1) (v := nI 1) hS (by decide +kernel) (by decide +kernel) (by decide +kernel) (by decide +kernel) (by decide +kernel) (by decide) (nI_ar (by omega) hL).1 ?_
  rw [(nI_ar (i := i) (k := 1) (L := L) (by omega) hL).2]
  refine lg_callV (As := [.int (xs (i + 1))]) (rest := []) (k := 0) (j := 115) (na := 1) (y := yX10_ropes) (bytes := cX10_ropes) (mL := 2) (rt := (some .int)) (C0 := RX10) (T := TX10) (cn := 10) (N := 20) (index := 118) hS (by decide +kernel) ck_10 (tT hC.1 rfl) rfl (pm_gw_of (i := 772) (by decide +kernel) rfl) (pm_gw_of (i := 95) (by decide +kernel) rfl) (by decide +kernel) (by decide) (pm_gw_of (i := 769) (by decide +kernel) rfl) (pm_gw_of (i := 770) (by decide +kernel) rfl) (pm_gw_of (i := 771) (by decide +kernel) rfl) (by decide) k1 rfl (Nat.le_of_ble_eq_true rfl) (ok_z c1.1).1 (ok_z c1.1).2 ?_
  refine lg_a2 hS (by decide +kernel) ?_
  refine lg_arg (k := 1) (v := nI 1) hS (by decide +kernel) (by decide +kernel) (by decide +kernel) (by decide +kernel) (by decide +kernel) (by decide) (nI_ar (by omega) hL).1 ?_
  rw [(nI_ar (i := i) (k := 1) (L := L) (by omega) hL).2]
  refine lg_callV (As := [.int (xs (i + 1))]) (rest := [.int v]) (k := 132) (j := 221) (na := 1) (y := yX11_ropes) (bytes := cX11_ropes) (mL := 2) (rt := (some .int)) (C0 := RX11) (T := TX11) (cn := 11) (N := 57) (index := 121) hS (by decide +kernel) ck_11 (tT c1.1 rfl) rfl (pm_gw_of (i := 1550) (by decide +kernel) rfl) (pm_gw_of (i := 106) (by decide +kernel) rfl) (by decide +kernel) (by decide) (pm_gw_of (i := 1547) (by decide +kernel) rfl) (pm_gw_of (i := 1548) (by decide +kernel) rfl) (pm_gw_of (i := 1549) (by decide +kernel) rfl) (by decide) k2 rfl (Nat.le_of_ble_eq_true rfl) (ok_z c2.1).1 (ok_z c2.1).2 ?_
  exact lg_eqI (x := v) (off := 548) hS (by decide +kernel) (tgt := 1513) (by decide) (K a' M2 ha' ic2 c2)
theorem lc_26 (hS : LwS p s m meth c D dA b L xs) (hL : L ≤ 3072) (ha : aw a) (hC : IC a M) (hI : IM a M) {i : Nat} (hi : i + 6 ≤ L) (K : ∀ a' M', aw a' → IC a' M' → IM a' M' → LG p l e s m below meth c D dA b M' (LL s b (nI i)) 1513 []) : LG p l e s m below meth c D dA b M (LL s b (nI i)) 970 [] := by
  obtain ⟨x, a', ha', hc, hm⟩ := b_nth ha (xs (i + 1)) (xs (i + 2)) (xs (i + 3))
  obtain ⟨M1, k1, c1, f1⟩ := hc 0 M hC
  have i1 : IM a M1 := hI.kept c1.1 f1
  obtain ⟨M2, k2, c2, f2⟩ := hm 0 M1 i1
  have ic2 : IC a' M2 := c1.kept c2.1 f2
  obtain ⟨v, hv⟩ := wp_Ri ri_116 k1.2.2
  have hv := Option.some.inj hv
  subst hv
  refine lg_a1 hS (by decide +kernel) ?_
  refine lg_arg (k := 1) (v := nI 1) hS (by decide +kernel) (by decide +kernel) (by decide +kernel) (by decide +kernel) (by decide +kernel) (by decide) (nI_ar (by omega) hL).1 ?_
  rw [(nI_ar (i := i) (k := 1) (L := L) (by omega) hL).2]
  refine lg_arg (k := 2) (v := nI 2) hS (by decide +kernel) (by decide +kernel) (by decide +kernel) (by decide +kernel) (by decide +kernel) (by decide) (nI_ar (by omega) hL).1 ?_
  rw [(nI_ar (i := i) (k := 2) (L := L) (by omega) hL).2]
  refine lg_arg (k := 3) (v := nI 3) hS (by decide +kernel) (by decide +kernel) (by decide +kernel) (by decide +kernel) (by decide +kernel) (by decide) (nI_ar (by omega) hL).1 ?_
  rw [(nI_ar (i := i) (k := 3) (L := L) (by omega) hL).2]
  refine lg_callV (As := [.int (xs (i + 1)), .int (xs (i + 2)), .int (xs (i + 3))]) (rest := []) (k := 0) (j := 116) (na := 3) (y := yX10_nth) (bytes := cX10_nth) (mL := 4) (rt := (some .int)) (C0 := RX10) (T := TX10) (cn := 10) (N := 20) (index := 122) hS (by decide +kernel) ck_10 (tT hC.1 rfl) rfl (pm_gw_of (i := 800) (by decide +kernel) rfl) (pm_gw_of (i := 95) (by decide +kernel) rfl) (by decide +kernel) (by decide) (pm_gw_of (i := 797) (by decide +kernel) rfl) (pm_gw_of (i := 798) (by decide +kernel) rfl) (pm_gw_of (i := 799) (by decide +kernel) rfl) (by decide) k1 rfl (Nat.le_of_ble_eq_true rfl) (ok_z c1.1).1 (ok_z c1.1).2 ?_
  refine lg_a2 hS (by decide +kernel) ?_
  refine lg_arg (k := 1) (v := nI 1) hS (by decide +kernel) (by decide +kernel) (by decide +kernel) (by decide +kernel) (by decide +kernel) (by decide) (nI_ar (by omega) hL).1 ?_
  rw [(nI_ar (i := i) (k := 1) (L := L) (by omega) hL).2]
  refine lg_arg (k := 2) (v := nI 2) hS (by decide +kernel) (by decide +kernel) (by decide +kernel) (by decide +kernel) (by decide +kernel) (by decide) (nI_ar (by omega) hL).1 ?_
  rw [(nI_ar (i := i) (k := 2) (L := L) (by omega) hL).2]
  refine lg_arg (k := 3) (v := nI 3) hS (by decide +kernel) (by decide +kernel) (by decide +kernel) (by decide +kernel) (by decide +kernel) (by decide) (nI_ar (by omega) hL).1 ?_
  rw [(nI_ar (i := i) (k := 3) (L := L) (by omega) hL).2]
  refine lg_callV (As := [.int (xs (i + 1)), .int (xs (i + 2)), .int (xs (i + 3))]) (rest := [.int v]) (k := 132) (j := 223) (na := 3) (y := yX11_nth) (bytes := cX11_nth) (mL := 10) (rt := (some .int)) (C0 := RX11) (T := TX11) (cn := 11) (N := 57) (index := 125) hS (by decide +kernel) ck_11 (tT c1.1 rfl) rfl (pm_gw_of (i := 1569) (by decide +kernel) rfl) (pm_gw_of (i := 106) (by decide +kernel) rfl) (by decide +kernel) (by decide) (pm_gw_of (i := 1566) (by decide +kernel) rfl) (pm_gw_of (i := 1567) (by decide +kernel) rfl) (pm_gw_of (i := 1568) (by decide +kernel) rfl) (by decide) k2 rfl (Nat.le_of_ble_eq_true rfl) (ok_z c2.1).1 (ok_z c2.1).2 ?_
  exact lg_eqI (x := v) (off := 505) hS (by decide +kernel) (tgt := 1513) (by decide) (K a' M2 ha' ic2 c2)
theorem lc_27 (hS : LwS p s m meth c D dA b L xs) (hL : L ≤ 3072) (ha : aw a) (hC : IC a M) (hI : IM a M) {i : Nat} (hi : i + 6 ≤ L) (K : ∀ a' M', aw a' → IC a' M' → IM a' M' → LG p l e s m below meth c D dA b M' (LL s b (nI i)) 1513 []) : LG p l e s m below meth c D dA b M (LL s b (nI i)) 1013 [] := by
  obtain ⟨x, a', ha', hc, hm⟩ := b_shortest ha (xs (i + 1)) (xs (i + 2))
  obtain ⟨M1, k1, c1, f1⟩ := hc 0 M hC
  have i1 : IM a M1 := hI.kept c1.1 f1
  obtain ⟨M2, k2, c2, f2⟩ := hm 0 M1 i1
  have ic2 : IC a' M2 := c1.kept c2.1 f2
  obtain ⟨v, hv⟩ := wp_Ri ri_117 k1.2.2
  have hv := Option.some.inj hv
  subst hv
  refine lg_a1 hS (by decide +kernel) ?_
  refine lg_arg (k := 1) (v := nI 1) hS (by decide +kernel) (by decide +kernel) (by decide +kernel) (by decide +kernel) (by decide +kernel) (by decide) (nI_ar (by omega) hL).1 ?_
  rw [(nI_ar (i := i) (k := 1) (L := L) (by omega) hL).2]
  refine lg_arg (k := 2) (v := nI 2) hS (by decide +kernel) (by decide +kernel) (by decide +kernel) (by decide +kernel) (by decide +kernel) (by decide) (nI_ar (by omega) hL).1 ?_
  rw [(nI_ar (i := i) (k := 2) (L := L) (by omega) hL).2]
  refine lg_callV (As := [.int (xs (i + 1)), .int (xs (i + 2))]) (rest := []) (k := 0) (j := 117) (na := 2) (y := yX10_shortest) (bytes := cX10_shortest) (mL := 5) (rt := (some .int)) (C0 := RX10) (T := TX10) (cn := 10) (N := 20) (index := 126) hS (by decide +kernel) ck_10 (tT hC.1 rfl) rfl (pm_gw_of (i := 810) (by decide +kernel) rfl) (pm_gw_of (i := 95) (by decide +kernel) rfl) (by decide +kernel) (by decide) (pm_gw_of (i := 807) (by decide +kernel) rfl) (pm_gw_of (i := 808) (by decide +kernel) rfl) (pm_gw_of (i := 809) (by decide +kernel) rfl) (by decide) k1 rfl (Nat.le_of_ble_eq_true rfl) (ok_z c1.1).1 (ok_z c1.1).2 ?_
  refine lg_a2 hS (by decide +kernel) ?_
  refine lg_arg (k := 1) (v := nI 1) hS (by decide +kernel) (by decide +kernel) (by decide +kernel) (by decide +kernel) (by decide +kernel) (by decide) (nI_ar (by omega) hL).1 ?_
  rw [(nI_ar (i := i) (k := 1) (L := L) (by omega) hL).2]
  refine lg_arg (k := 2) (v := nI 2) hS (by decide +kernel) (by decide +kernel) (by decide +kernel) (by decide +kernel) (by decide +kernel) (by decide) (nI_ar (by omega) hL).1 ?_
  rw [(nI_ar (i := i) (k := 2) (L := L) (by omega) hL).2]
  refine lg_callV (As := [.int (xs (i + 1)), .int (xs (i + 2))]) (rest := [.int v]) (k := 132) (j := 236) (na := 2) (y := yX11_shortest) (bytes := cX11_shortest) (mL := 5) (rt := (some .int)) (C0 := RX11) (T := TX11) (cn := 11) (N := 57) (index := 129) hS (by decide +kernel) ck_11 (tT c1.1 rfl) rfl (pm_gw_of (i := 1573) (by decide +kernel) rfl) (pm_gw_of (i := 106) (by decide +kernel) rfl) (by decide +kernel) (by decide) (pm_gw_of (i := 1570) (by decide +kernel) rfl) (pm_gw_of (i := 1571) (by decide +kernel) rfl) (pm_gw_of (i := 1572) (by decide +kernel) rfl) (by decide) k2 rfl (Nat.le_of_ble_eq_true rfl) (ok_z c2.1).1 (ok_z c2.1).2 ?_
  exact lg_eqI (x := v) (off := 472) hS (by decide +kernel) (tgt := 1513) (by decide) (K a' M2 ha' ic2 c2)
theorem lc_28 (hS : LwS p s m meth c D dA b L xs) (hL : L ≤ 3072) (ha : aw a) (hC : IC a M) (hI : IM a M) {i : Nat} (hi : i + 6 ≤ L) (K : ∀ a' M', aw a' → IC a' M' → IM a' M' → LG p l e s m below meth c D dA b M' (LL s b (nI i)) 1513 []) : LG p l e s m below meth c D dA b M (LL s b (nI i)) 1046 [] := by
  obtain ⟨x, a', ha', hc, hm⟩ := b_ways ha (xs (i + 1))
  obtain ⟨M1, k1, c1, f1⟩ := hc 0 M hC
  have i1 : IM a M1 := hI.kept c1.1 f1
  obtain ⟨M2, k2, c2, f2⟩ := hm 0 M1 i1
  have ic2 : IC a' M2 := c1.kept c2.1 f2
  obtain ⟨v, hv⟩ := wp_Ri ri_118 k1.2.2
  have hv := Option.some.inj hv
  subst hv
  refine lg_a1 hS (by decide +kernel) ?_
  refine lg_arg (k := 1) (v := nI 1) hS (by decide +kernel) (by decide +kernel) (by decide +kernel) (by decide +kernel) (by decide +kernel) (by decide) (nI_ar (by omega) hL).1 ?_
  rw [(nI_ar (i := i) (k := 1) (L := L) (by omega) hL).2]
  refine lg_callV (As := [.int (xs (i + 1))]) (rest := []) (k := 0) (j := 118) (na := 1) (y := yX10_ways) (bytes := cX10_ways) (mL := 3) (rt := (some .int)) (C0 := RX10) (T := TX10) (cn := 10) (N := 20) (index := 130) hS (by decide +kernel) ck_10 (tT hC.1 rfl) rfl (pm_gw_of (i := 871) (by decide +kernel) rfl) (pm_gw_of (i := 95) (by decide +kernel) rfl) (by decide +kernel) (by decide) (pm_gw_of (i := 868) (by decide +kernel) rfl) (pm_gw_of (i := 869) (by decide +kernel) rfl) (pm_gw_of (i := 870) (by decide +kernel) rfl) (by decide) k1 rfl (Nat.le_of_ble_eq_true rfl) (ok_z c1.1).1 (ok_z c1.1).2 ?_
  refine lg_a2 hS (by decide +kernel) ?_
  refine lg_arg (k := 1) (v := nI 1) hS (by decide +kernel) (by decide +kernel) (by decide +kernel) (by decide +kernel) (by decide +kernel) (by decide) (nI_ar (by omega) hL).1 ?_
  rw [(nI_ar (i := i) (k := 1) (L := L) (by omega) hL).2]
  refine lg_callV (As := [.int (xs (i + 1))]) (rest := [.int v]) (k := 132) (j := 237) (na := 1) (y := yX11_ways) (bytes := cX11_ways) (mL := 5) (rt := (some .int)) (C0 := RX11) (T := TX11) (cn := 11) (N := 57) (index := 133) hS (by decide +kernel) ck_11 (tT c1.1 rfl) rfl (pm_gw_of (i := 1627) (by decide +kernel) rfl) (pm_gw_of (i := 106) (by decide +kernel) rfl) (by decide +kernel) (by decide) (pm_gw_of (i := 1624) (by decide +kernel) rfl) (pm_gw_of (i := 1625) (by decide +kernel) rfl) (pm_gw_of (i := 1626) (by decide +kernel) rfl) (by decide) k2 rfl (Nat.le_of_ble_eq_true rfl) (ok_z c2.1).1 (ok_z c2.1).2 ?_
  exact lg_eqI (x := v) (off := 449) hS (by decide +kernel) (tgt := 1513) (by decide) (K a' M2 ha' ic2 c2)
theorem lc_29 (hS : LwS p s m meth c D dA b L xs) (hL : L ≤ 3072) (ha : aw a) (hC : IC a M) (hI : IM a M) {i : Nat} (hi : i + 6 ≤ L) (K : ∀ a' M', aw a' → IC a' M' → IM a' M' → LG p l e s m below meth c D dA b M' (LL s b (nI i)) 1513 []) : LG p l e s m below meth c D dA b M (LL s b (nI i)) 1069 [] := by
  obtain ⟨x, a', ha', hc, hm⟩ := b_signs ha (xs (i + 1)) (xs (i + 2))
  obtain ⟨M1, k1, c1, f1⟩ := hc 0 M hC
  have i1 : IM a M1 := hI.kept c1.1 f1
  obtain ⟨M2, k2, c2, f2⟩ := hm 0 M1 i1
  have ic2 : IC a' M2 := c1.kept c2.1 f2
  obtain ⟨v, hv⟩ := wp_Ri ri_119 k1.2.2
  have hv := Option.some.inj hv
  subst hv
  refine lg_a1 hS (by decide +kernel) ?_
  refine lg_arg (k := 1) (v := nI 1) hS (by decide +kernel) (by decide +kernel) (by decide +kernel) (by decide +kernel) (by decide +kernel) (by decide) (nI_ar (by omega) hL).1 ?_
  rw [(nI_ar (i := i) (k := 1) (L := L) (by omega) hL).2]
  refine lg_arg (k := 2) (v := nI 2) hS (by decide +kernel) (by decide +kernel) (by decide +kernel) (by decide +kernel) (by decide +kernel) (by decide) (nI_ar (by omega) hL).1 ?_
  rw [(nI_ar (i := i) (k := 2) (L := L) (by omega) hL).2]
  refine lg_callV (As := [.int (xs (i + 1)), .int (xs (i + 2))]) (rest := []) (k := 0) (j := 119) (na := 2) (y := yX10_signs) (bytes := cX10_signs) (mL := 5) (rt := (some .int)) (C0 := RX10) (T := TX10) (cn := 10) (N := 20) (index := 134) hS (by decide +kernel) ck_10 (tT hC.1 rfl) rfl (pm_gw_of (i := 888) (by decide +kernel) rfl) (pm_gw_of (i := 95) (by decide +kernel) rfl) (by decide +kernel) (by decide) (pm_gw_of (i := 885) (by decide +kernel) rfl) (pm_gw_of (i := 886) (by decide +kernel) rfl) (pm_gw_of (i := 887) (by decide +kernel) rfl) (by decide) k1 rfl (Nat.le_of_ble_eq_true rfl) (ok_z c1.1).1 (ok_z c1.1).2 ?_
  refine lg_a2 hS (by decide +kernel) ?_
  refine lg_arg (k := 1) (v := nI 1) hS (by decide +kernel) (by decide +kernel) (by decide +kernel) (by decide +kernel) (by decide +kernel) (by decide) (nI_ar (by omega) hL).1 ?_
  rw [(nI_ar (i := i) (k := 1) (L := L) (by omega) hL).2]
  refine lg_arg (k := 2) (v := nI 2) hS (by decide +kernel) (by decide +kernel) (by decide +kernel) (by decide +kernel) (by decide +kernel) (by decide) (nI_ar (by omega) hL).1 ?_
  rw [(nI_ar (i := i) (k := 2) (L := L) (by omega) hL).2]
  refine lg_callV (As := [.int (xs (i + 1)), .int (xs (i + 2))]) (rest := [.int v]) (k := 132) (j := 241) (na := 2) (y := yX11_signs) (bytes := cX11_signs) (mL := 5) (rt := (some .int)) (C0 := RX11) (T := TX11) (cn := 11) (N := 57) (index := 137) hS (by decide +kernel) ck_11 (tT c1.1 rfl) rfl (pm_gw_of (i := 1639) (by decide +kernel) rfl) (pm_gw_of (i := 106) (by decide +kernel) rfl) (by decide +kernel) (by decide) (pm_gw_of (i := 1636) (by decide +kernel) rfl) (pm_gw_of (i := 1637) (by decide +kernel) rfl) (pm_gw_of (i := 1638) (by decide +kernel) rfl) (by decide) k2 rfl (Nat.le_of_ble_eq_true rfl) (ok_z c2.1).1 (ok_z c2.1).2 ?_
  exact lg_eqI (x := v) (off := 416) hS (by decide +kernel) (tgt := 1513) (by decide) (K a' M2 ha' ic2 c2)
theorem lc_30 (hS : LwS p s m meth c D dA b L xs) (hL : L ≤ 3072) (ha : aw a) (hC : IC a M) (hI : IM a M) {i : Nat} (hi : i + 6 ≤ L) (K : ∀ a' M', aw a' → IC a' M' → IM a' M' → LG p l e s m below meth c D dA b M' (LL s b (nI i)) 1513 []) : LG p l e s m below meth c D dA b M (LL s b (nI i)) 1102 [] := by
  obtain ⟨x, a', ha', hc, hm⟩ := b_change ha (xs (i + 1)) (xs (i + 2))
  obtain ⟨M1, k1, c1, f1⟩ := hc 0 M hC
  have i1 : IM a M1 := hI.kept c1.1 f1
  obtain ⟨M2, k2, c2, f2⟩ := hm 0 M1 i1
  have ic2 : IC a' M2 := c1.kept c2.1 f2
  obtain ⟨v, hv⟩ := wp_Ri ri_120 k1.2.2
  have hv := Option.some.inj hv
  subst hv
  refine lg_a1 hS (by decide +kernel) ?_
  refine lg_arg (k := 1) (v := nI 1) hS (by decide +kernel) (by decide +kernel) (by decide +kernel) (by decide +kernel) (by decide +kernel) (by decide) (nI_ar (by omega) hL).1 ?_
  rw [(nI_ar (i := i) (k := 1) (L := L) (by omega) hL).2]
  refine lg_arg (k := 2) (v := nI 2) hS (by decide +kernel) (by decide +kernel) (by decide +kernel) (by decide +kernel) (by decide +kernel) (by decide) (nI_ar (by omega) hL).1 ?_
  rw [(nI_ar (i := i) (k := 2) (L := L) (by omega) hL).2]
  refine lg_callV (As := [.int (xs (i + 1)), .int (xs (i + 2))]) (rest := []) (k := 0) (j := 120) (na := 2) (y := yX10_change) (bytes := cX10_change) (mL := 5) (rt := (some .int)) (C0 := RX10) (T := TX10) (cn := 10) (N := 20) (index := 138) hS (by decide +kernel) ck_10 (tT hC.1 rfl) rfl (pm_gw_of (i := 918) (by decide +kernel) rfl) (pm_gw_of (i := 95) (by decide +kernel) rfl) (by decide +kernel) (by decide) (pm_gw_of (i := 915) (by decide +kernel) rfl) (pm_gw_of (i := 916) (by decide +kernel) rfl) (pm_gw_of (i := 917) (by decide +kernel) rfl) (by decide) k1 rfl (Nat.le_of_ble_eq_true rfl) (ok_z c1.1).1 (ok_z c1.1).2 ?_
  refine lg_a2 hS (by decide +kernel) ?_
  refine lg_arg (k := 1) (v := nI 1) hS (by decide +kernel) (by decide +kernel) (by decide +kernel) (by decide +kernel) (by decide +kernel) (by decide) (nI_ar (by omega) hL).1 ?_
  rw [(nI_ar (i := i) (k := 1) (L := L) (by omega) hL).2]
  refine lg_arg (k := 2) (v := nI 2) hS (by decide +kernel) (by decide +kernel) (by decide +kernel) (by decide +kernel) (by decide +kernel) (by decide) (nI_ar (by omega) hL).1 ?_
  rw [(nI_ar (i := i) (k := 2) (L := L) (by omega) hL).2]
  refine lg_callV (As := [.int (xs (i + 1)), .int (xs (i + 2))]) (rest := [.int v]) (k := 132) (j := 242) (na := 2) (y := yX11_change) (bytes := cX11_change) (mL := 8) (rt := (some .int)) (C0 := RX11) (T := TX11) (cn := 11) (N := 57) (index := 141) hS (by decide +kernel) ck_11 (tT c1.1 rfl) rfl (pm_gw_of (i := 1647) (by decide +kernel) rfl) (pm_gw_of (i := 106) (by decide +kernel) rfl) (by decide +kernel) (by decide) (pm_gw_of (i := 1644) (by decide +kernel) rfl) (pm_gw_of (i := 1645) (by decide +kernel) rfl) (pm_gw_of (i := 1646) (by decide +kernel) rfl) (by decide) k2 rfl (Nat.le_of_ble_eq_true rfl) (ok_z c2.1).1 (ok_z c2.1).2 ?_
  exact lg_eqI (x := v) (off := 383) hS (by decide +kernel) (tgt := 1513) (by decide) (K a' M2 ha' ic2 c2)
theorem lc_31 (hS : LwS p s m meth c D dA b L xs) (hL : L ≤ 3072) (ha : aw a) (hC : IC a M) (hI : IM a M) {i : Nat} (hi : i + 6 ≤ L) (K : ∀ a' M', aw a' → IC a' M' → IM a' M' → LG p l e s m below meth c D dA b M' (LL s b (nI i)) 1513 []) : LG p l e s m below meth c D dA b M (LL s b (nI i)) 1135 [] := by
  obtain ⟨x, a', ha', hc, hm⟩ := b_both ha (xs (i + 1)) (xs (i + 2)) (xs (i + 3))
  obtain ⟨M1, k1, c1, f1⟩ := hc 0 M hC
  have i1 : IM a M1 := hI.kept c1.1 f1
  obtain ⟨M2, k2, c2, f2⟩ := hm 0 M1 i1
  have ic2 : IC a' M2 := c1.kept c2.1 f2
  obtain ⟨v, hv⟩ := wp_Ri ri_121 k1.2.2
  have hv := Option.some.inj hv
  subst hv
  refine lg_a1 hS (by decide +kernel) ?_
  refine lg_arg (k := 1) (v := nI 1) hS (by decide +kernel) (by decide +kernel) (by decide +kernel) (by decide +kernel) (by decide +kernel) (by decide) (nI_ar (by omega) hL).1 ?_
  rw [(nI_ar (i := i) (k := 1) (L := L) (by omega) hL).2]
  refine lg_arg (k := 2) (v := nI 2) hS (by decide +kernel) (by decide +kernel) (by decide +kernel) (by decide +kernel) (by decide +kernel) (by decide) (nI_ar (by omega) hL).1 ?_
  rw [(nI_ar (i := i) (k := 2) (L := L) (by omega) hL).2]
  refine lg_arg (k := 3) (v := nI 3) hS (by decide +kernel) (by decide +kernel) (by decide +kernel) (by decide +kernel) (by decide +kernel) (by decide) (nI_ar (by omega) hL).1 ?_
  rw [(nI_ar (i := i) (k := 3) (L := L) (by omega) hL).2]
  refine lg_callV (As := [.int (xs (i + 1)), .int (xs (i + 2)), .int (xs (i + 3))]) (rest := []) (k := 0) (j := 121) (na := 3) (y := yX10_both) (bytes := cX10_both) (mL := 6) (rt := (some .int)) (C0 := RX10) (T := TX10) (cn := 10) (N := 20) (index := 142) hS (by decide +kernel) ck_10 (tT hC.1 rfl) rfl (pm_gw_of (i := 928) (by decide +kernel) rfl) (pm_gw_of (i := 95) (by decide +kernel) rfl) (by decide +kernel) (by decide) (pm_gw_of (i := 925) (by decide +kernel) rfl) (pm_gw_of (i := 926) (by decide +kernel) rfl) (pm_gw_of (i := 927) (by decide +kernel) rfl) (by decide) k1 rfl (Nat.le_of_ble_eq_true rfl) (ok_z c1.1).1 (ok_z c1.1).2 ?_
  refine lg_a2 hS (by decide +kernel) ?_
  refine lg_arg (k := 1) (v := nI 1) hS (by decide +kernel) (by decide +kernel) (by decide +kernel) (by decide +kernel) (by decide +kernel) (by decide) (nI_ar (by omega) hL).1 ?_
  rw [(nI_ar (i := i) (k := 1) (L := L) (by omega) hL).2]
  refine lg_arg (k := 2) (v := nI 2) hS (by decide +kernel) (by decide +kernel) (by decide +kernel) (by decide +kernel) (by decide +kernel) (by decide) (nI_ar (by omega) hL).1 ?_
  rw [(nI_ar (i := i) (k := 2) (L := L) (by omega) hL).2]
  refine lg_arg (k := 3) (v := nI 3) hS (by decide +kernel) (by decide +kernel) (by decide +kernel) (by decide +kernel) (by decide +kernel) (by decide) (nI_ar (by omega) hL).1 ?_
  rw [(nI_ar (i := i) (k := 3) (L := L) (by omega) hL).2]
  refine lg_callV (As := [.int (xs (i + 1)), .int (xs (i + 2)), .int (xs (i + 3))]) (rest := [.int v]) (k := 132) (j := 247) (na := 3) (y := yX11_both) (bytes := cX11_both) (mL := 5) (rt := (some .int)) (C0 := RX11) (T := TX11) (cn := 11) (N := 57) (index := 145) hS (by decide +kernel) ck_11 (tT c1.1 rfl) rfl (pm_gw_of (i := 1651) (by decide +kernel) rfl) (pm_gw_of (i := 106) (by decide +kernel) rfl) (by decide +kernel) (by decide) (pm_gw_of (i := 1648) (by decide +kernel) rfl) (pm_gw_of (i := 1649) (by decide +kernel) rfl) (pm_gw_of (i := 1650) (by decide +kernel) rfl) (by decide) k2 rfl (Nat.le_of_ble_eq_true rfl) (ok_z c2.1).1 (ok_z c2.1).2 ?_
  exact lg_eqI (x := v) (off := 340) hS (by decide +kernel) (tgt := 1513) (by decide) (K a' M2 ha' ic2 c2)
end LC3

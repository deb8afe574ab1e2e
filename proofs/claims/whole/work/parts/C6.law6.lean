/-! the law's cases -/
section LC5
variable {p : Program} {l : Launch} {e : Env} {s : State} {m : MethodId} {below : List Frame} {meth : Method} {c : Code} {D : va_G} {dA : Nat → ClassId} {b L : Nat} {xs : Nat → Int32} {M : pm_M} {a : As}
theorem lc_40 (hS : LwS p s m meth c D dA b L xs) (hL : L ≤ 3072) (ha : aw a) (hC : IC a M) (hI : IM a M) {i : Nat} (hi : i + 6 ≤ L) (K : ∀ a' M', aw a' → IC a' M' → IM a' M' → LG p l e s m below meth c D dA b M' (LL s b (nI i)) 1513 []) : LG p l e s m below meth c D dA b M (LL s b (nI i)) 1402 [] := by
  obtain ⟨x, a', ha', hc, hm⟩ := b_upper ha
  obtain ⟨M1, k1, c1, f1⟩ := hc 0 M hC
  have i1 : IM a M1 := hI.kept c1.1 f1
  obtain ⟨M2, k2, c2, f2⟩ := hm 0 M1 i1
  have ic2 : IC a' M2 := c1.kept c2.1 f2
  obtain ⟨v, hv⟩ := wp_Rl rl_130 k1.2.2
  have hv := Option.some.inj hv
  subst hv
  refine lg_a1 hS (by decide +kernel) ?_
  refine lg_callV (As := []) (rest := []) (k := 0) (j := 130) (na := 0) (y := yX10_upper) (bytes := cX10_upper) (mL := 1) (rt := (some .long)) (C0 := RX10) (T := TX10) (cn := 10) (N := 20) (index := 178) hS (by decide +kernel) ck_10 (tT hC.1 rfl) rfl (pm_gw_of (i := 1058) (by decide +kernel) rfl) (pm_gw_of (i := 95) (by decide +kernel) rfl) (by decide +kernel) (by decide) (pm_gw_of (i := 1055) (by decide +kernel) rfl) (pm_gw_of (i := 1056) (by decide +kernel) rfl) (pm_gw_of (i := 1057) (by decide +kernel) rfl) (by decide) k1 rfl (Nat.le_of_ble_eq_true rfl) (ok_z c1.1).1 (ok_z c1.1).2 ?_
  refine lg_a2 hS (by decide +kernel) ?_
  refine lg_callV (As := []) (rest := [.long v]) (k := 132) (j := 159) (na := 0) (y := yX11_upper) (bytes := cX11_upper) (mL := 1) (rt := (some .long)) (C0 := RX11) (T := TX11) (cn := 11) (N := 57) (index := 182) hS (by decide +kernel) ck_11 (tT c1.1 rfl) rfl (pm_gw_of (i := 1306) (by decide +kernel) rfl) (pm_gw_of (i := 106) (by decide +kernel) rfl) (by decide +kernel) (by decide) (pm_gw_of (i := 1303) (by decide +kernel) rfl) (pm_gw_of (i := 1304) (by decide +kernel) rfl) (pm_gw_of (i := 1305) (by decide +kernel) rfl) (by decide) k2 rfl (Nat.le_of_ble_eq_true rfl) (ok_z c2.1).1 (ok_z c2.1).2 ?_
  exact lg_eqL (x := v) (off := 102) hS (by decide +kernel) (by decide +kernel) (tgt := 1513) (by decide) (K a' M2 ha' ic2 c2)
theorem lc_41 (hS : LwS p s m meth c D dA b L xs) (hL : L ≤ 3072) (ha : aw a) (hC : IC a M) (hI : IM a M) {i : Nat} (hi : i + 6 ≤ L) (K : ∀ a' M', aw a' → IC a' M' → IM a' M' → LG p l e s m below meth c D dA b M' (LL s b (nI i)) 1513 []) : LG p l e s m below meth c D dA b M (LL s b (nI i)) 1416 [] := by
  obtain ⟨x, a', ha', hc, hm⟩ := b_upTo ha (xs (i + 1))
  obtain ⟨M1, k1, c1, f1⟩ := hc 0 M hC
  have i1 : IM a M1 := hI.kept c1.1 f1
  obtain ⟨M2, k2, c2, f2⟩ := hm 0 M1 i1
  have ic2 : IC a' M2 := c1.kept c2.1 f2
  obtain ⟨v, hv⟩ := wp_Rl rl_131 k1.2.2
  have hv := Option.some.inj hv
  subst hv
  refine lg_a1 hS (by decide +kernel) ?_
  refine lg_arg (k := 1) (v := nI 1) hS (by decide +kernel) (by decide +kernel) (by decide +kernel) (by decide +kernel) (by decide +kernel) (by decide) (nI_ar (by omega) hL).1 ?_
  rw [(nI_ar (i := i) (k := 1) (L := L) (by omega) hL).2]
  refine lg_callV (As := [.int (xs (i + 1))]) (rest := []) (k := 0) (j := 131) (na := 1) (y := yX10_upTo) (bytes := cX10_upTo) (mL := 5) (rt := (some .long)) (C0 := RX10) (T := TX10) (cn := 10) (N := 20) (index := 183) hS (by decide +kernel) ck_10 (tT hC.1 rfl) rfl (pm_gw_of (i := 1062) (by decide +kernel) rfl) (pm_gw_of (i := 95) (by decide +kernel) rfl) (by decide +kernel) (by decide) (pm_gw_of (i := 1059) (by decide +kernel) rfl) (pm_gw_of (i := 1060) (by decide +kernel) rfl) (pm_gw_of (i := 1061) (by decide +kernel) rfl) (by decide) k1 rfl (Nat.le_of_ble_eq_true rfl) (ok_z c1.1).1 (ok_z c1.1).2 ?_
  refine lg_a2 hS (by decide +kernel) ?_
  refine lg_arg (k := 1) (v := nI 1) hS (by decide +kernel) (by decide +kernel) (by decide +kernel) (by decide +kernel) (by decide +kernel) (by decide) (nI_ar (by omega) hL).1 ?_
  rw [(nI_ar (i := i) (k := 1) (L := L) (by omega) hL).2]
  refine lg_callV (As := [.int (xs (i + 1))]) (rest := [.long v]) (k := 132) (j := 222) (na := 1) (y := yX11_upTo) (bytes := cX11_upTo) (mL := 5) (rt := (some .long)) (C0 := RX11) (T := TX11) (cn := 11) (N := 57) (index := 187) hS (by decide +kernel) ck_11 (tT c1.1 rfl) rfl (pm_gw_of (i := 1565) (by decide +kernel) rfl) (pm_gw_of (i := 106) (by decide +kernel) rfl) (by decide +kernel) (by decide) (pm_gw_of (i := 1562) (by decide +kernel) rfl) (pm_gw_of (i := 1563) (by decide +kernel) rfl) (pm_gw_of (i := 1564) (by decide +kernel) rfl) (by decide) k2 rfl (Nat.le_of_ble_eq_true rfl) (ok_z c2.1).1 (ok_z c2.1).2 ?_
  exact lg_eqL (x := v) (off := 78) hS (by decide +kernel) (by decide +kernel) (tgt := 1513) (by decide) (K a' M2 ha' ic2 c2)
theorem lc_42 (hS : LwS p s m meth c D dA b L xs) (hL : L ≤ 3072) (ha : aw a) (hC : IC a M) (hI : IM a M) {i : Nat} (hi : i + 6 ≤ L) (K : ∀ a' M', aw a' → IC a' M' → IM a' M' → LG p l e s m below meth c D dA b M' (LL s b (nI i)) 1513 []) : LG p l e s m below meth c D dA b M (LL s b (nI i)) 1440 [] := by
  obtain ⟨x, a', ha', hc, hm⟩ := b_count ha (xs (i + 1))
  obtain ⟨M1, k1, c1, f1⟩ := hc 0 M hC
  have i1 : IM a M1 := hI.kept c1.1 f1
  obtain ⟨M2, k2, c2, f2⟩ := hm 0 M1 i1
  have ic2 : IC a' M2 := c1.kept c2.1 f2
  obtain ⟨v, hv⟩ := wp_Ri ri_132 k1.2.2
  have hv := Option.some.inj hv
  subst hv
  refine lg_a1 hS (by decide +kernel) ?_
  refine lg_arg (k := 1) (v := nI 1) hS (by decide +kernel) (by decide +kernel) (by decide +kernel) (by decide +kernel) (by decide +kernel) (by decide) (nI_ar (by omega) hL).1 ?_
  rw [(nI_ar (i := i) (k := 1) (L := L) (by omega) hL).2]
  refine lg_callV (As := [.int (xs (i + 1))]) (rest := []) (k := 0) (j := 132) (na := 1) (y := yX10_count) (bytes := cX10_count) (mL := 2) (rt := (some .int)) (C0 := RX10) (T := TX10) (cn := 10) (N := 20) (index := 188) hS (by decide +kernel) ck_10 (tT hC.1 rfl) rfl (pm_gw_of (i := 1066) (by decide +kernel) rfl) (pm_gw_of (i := 95) (by decide +kernel) rfl) (by decide +kernel) (by decide) (pm_gw_of (i := 1063) (by decide +kernel) rfl) (pm_gw_of (i := 1064) (by decide +kernel) rfl) (pm_gw_of (i := 1065) (by decide +kernel) rfl) (by decide) k1 rfl (Nat.le_of_ble_eq_true rfl) (ok_z c1.1).1 (ok_z c1.1).2 ?_
  refine lg_a2 hS (by decide +kernel) ?_
  refine lg_arg (k := 1) (v := nI 1) hS (by decide +kernel) (by decide +kernel) (by decide +kernel) (by decide +kernel) (by decide +kernel) (by decide) (nI_ar (by omega) hL).1 ?_
  rw [(nI_ar (i := i) (k := 1) (L := L) (by omega) hL).2]
  refine lg_callV (As := [.int (xs (i + 1))]) (rest := [.int v]) (k := 132) (j := 264) (na := 1) (y := yX11_count) (bytes := cX11_count) (mL := 2) (rt := (some .int)) (C0 := RX11) (T := TX11) (cn := 11) (N := 57) (index := 191) hS (by decide +kernel) ck_11 (tT c1.1 rfl) rfl (pm_gw_of (i := 1734) (by decide +kernel) rfl) (pm_gw_of (i := 106) (by decide +kernel) rfl) (by decide +kernel) (by decide) (pm_gw_of (i := 1731) (by decide +kernel) rfl) (pm_gw_of (i := 1732) (by decide +kernel) rfl) (pm_gw_of (i := 1733) (by decide +kernel) rfl) (by decide) k2 rfl (Nat.le_of_ble_eq_true rfl) (ok_z c2.1).1 (ok_z c2.1).2 ?_
  exact lg_eqI (x := v) (off := 55) hS (by decide +kernel) (tgt := 1513) (by decide) (K a' M2 ha' ic2 c2)
theorem lc_43 (hS : LwS p s m meth c D dA b L xs) (hL : L ≤ 3072) (ha : aw a) (hC : IC a M) (hI : IM a M) {i : Nat} (hi : i + 6 ≤ L) (K : ∀ a' M', aw a' → IC a' M' → IM a' M' → LG p l e s m below meth c D dA b M' (LL s b (nI i)) 1513 []) : LG p l e s m below meth c D dA b M (LL s b (nI i)) 1463 [] := by
  obtain ⟨x, a', ha', hc, hm⟩ := b_finding ha
  obtain ⟨M1, k1, c1, f1⟩ := hc 0 M hC
  have i1 : IM a M1 := hI.kept c1.1 f1
  obtain ⟨M2, k2, c2, f2⟩ := hm 0 M1 i1
  have ic2 : IC a' M2 := c1.kept c2.1 f2
  obtain ⟨v, hv⟩ := wp_Ri ri_133 k1.2.2
  have hv := Option.some.inj hv
  subst hv
  refine lg_a1 hS (by decide +kernel) ?_
  refine lg_callV (As := []) (rest := []) (k := 0) (j := 133) (na := 0) (y := yX10_finding) (bytes := cX10_finding) (mL := 1) (rt := (some .int)) (C0 := RX10) (T := TX10) (cn := 10) (N := 20) (index := 192) hS (by decide +kernel) ck_10 (tT hC.1 rfl) rfl (pm_gw_of (i := 1081) (by decide +kernel) rfl) (pm_gw_of (i := 95) (by decide +kernel) rfl) (by decide +kernel) (by decide) (pm_gw_of (i := 1078) (by decide +kernel) rfl) (pm_gw_of (i := 1079) (by decide +kernel) rfl) (pm_gw_of (i := 1080) (by decide +kernel) rfl) (by decide) k1 rfl (Nat.le_of_ble_eq_true rfl) (ok_z c1.1).1 (ok_z c1.1).2 ?_
  refine lg_a2 hS (by decide +kernel) ?_
  refine lg_callV (As := []) (rest := [.int v]) (k := 132) (j := 155) (na := 0) (y := yX11_finding) (bytes := cX11_finding) (mL := 1) (rt := (some .int)) (C0 := RX11) (T := TX11) (cn := 11) (N := 57) (index := 195) hS (by decide +kernel) ck_11 (tT c1.1 rfl) rfl (pm_gw_of (i := 1291) (by decide +kernel) rfl) (pm_gw_of (i := 106) (by decide +kernel) rfl) (by decide +kernel) (by decide) (pm_gw_of (i := 1288) (by decide +kernel) rfl) (pm_gw_of (i := 1289) (by decide +kernel) rfl) (pm_gw_of (i := 1290) (by decide +kernel) rfl) (by decide) k2 rfl (Nat.le_of_ble_eq_true rfl) (ok_z c2.1).1 (ok_z c2.1).2 ?_
  exact lg_eqI (x := v) (off := 42) hS (by decide +kernel) (tgt := 1513) (by decide) (K a' M2 ha' ic2 c2)
theorem lc_44 (hS : LwS p s m meth c D dA b L xs) (hL : L ≤ 3072) (ha : aw a) (hC : IC a M) (hI : IM a M) {i : Nat} (hi : i + 6 ≤ L) (K : ∀ a' M', aw a' → IC a' M' → IM a' M' → LG p l e s m below meth c D dA b M' (LL s b (nI i)) 1513 []) : LG p l e s m below meth c D dA b M (LL s b (nI i)) 1476 [] := by
  obtain ⟨x, a', ha', hc, hm⟩ := b_findings ha (xs (i + 1))
  obtain ⟨M1, k1, c1, f1⟩ := hc 0 M hC
  have i1 : IM a M1 := hI.kept c1.1 f1
  obtain ⟨M2, k2, c2, f2⟩ := hm 0 M1 i1
  have ic2 : IC a' M2 := c1.kept c2.1 f2
  obtain ⟨v, hv⟩ := wp_Ri ri_134 k1.2.2
  have hv := Option.some.inj hv
  subst hv
  refine lg_a1 hS (by decide +kernel) ?_
  refine lg_arg (k := 1) (v := nI 1) hS (by decide +kernel) (by decide +kernel) (by decide +kernel) (by decide +kernel) (by decide +kernel) (by decide) (nI_ar (by omega) hL).1 ?_
  rw [(nI_ar (i := i) (k := 1) (L := L) (by omega) hL).2]
  refine lg_callV (As := [.int (xs (i + 1))]) (rest := []) (k := 0) (j := 134) (na := 1) (y := yX10_findings) (bytes := cX10_findings) (mL := 2) (rt := (some .int)) (C0 := RX10) (T := TX10) (cn := 10) (N := 20) (index := 196) hS (by decide +kernel) ck_10 (tT hC.1 rfl) rfl (pm_gw_of (i := 1085) (by decide +kernel) rfl) (pm_gw_of (i := 95) (by decide +kernel) rfl) (by decide +kernel) (by decide) (pm_gw_of (i := 1082) (by decide +kernel) rfl) (pm_gw_of (i := 1083) (by decide +kernel) rfl) (pm_gw_of (i := 1084) (by decide +kernel) rfl) (by decide) k1 rfl (Nat.le_of_ble_eq_true rfl) (ok_z c1.1).1 (ok_z c1.1).2 ?_
  refine lg_a2 hS (by decide +kernel) ?_
  refine lg_arg (k := 1) (v := nI 1) hS (by decide +kernel) (by decide +kernel) (by decide +kernel) (by decide +kernel) (by decide +kernel) (by decide) (nI_ar (by omega) hL).1 ?_
  rw [(nI_ar (i := i) (k := 1) (L := L) (by omega) hL).2]
  refine lg_callV (As := [.int (xs (i + 1))]) (rest := [.int v]) (k := 132) (j := 156) (na := 1) (y := yX11_findings) (bytes := cX11_findings) (mL := 2) (rt := (some .int)) (C0 := RX11) (T := TX11) (cn := 11) (N := 57) (index := 199) hS (by decide +kernel) ck_11 (tT c1.1 rfl) rfl (pm_gw_of (i := 1295) (by decide +kernel) rfl) (pm_gw_of (i := 106) (by decide +kernel) rfl) (by decide +kernel) (by decide) (pm_gw_of (i := 1292) (by decide +kernel) rfl) (pm_gw_of (i := 1293) (by decide +kernel) rfl) (pm_gw_of (i := 1294) (by decide +kernel) rfl) (by decide) k2 rfl (Nat.le_of_ble_eq_true rfl) (ok_z c2.1).1 (ok_z c2.1).2 ?_
  exact lg_eqI (x := v) (off := 19) hS (by decide +kernel) (tgt := 1513) (by decide) (K a' M2 ha' ic2 c2)
theorem lc_45 (hS : LwS p s m meth c D dA b L xs) (hL : L ≤ 3072) (ha : aw a) (hC : IC a M) (hI : IM a M) {i : Nat} (hi : i + 6 ≤ L) (K : ∀ a' M', aw a' → IC a' M' → IM a' M' → LG p l e s m below meth c D dA b M' (LL s b (nI i)) 1513 []) : LG p l e s m below meth c D dA b M (LL s b (nI i)) 1499 [] := by
  obtain ⟨x, a', ha', hc, hm⟩ := b_digest ha
  obtain ⟨M1, k1, c1, f1⟩ := hc 0 M hC
  have i1 : IM a M1 := hI.kept c1.1 f1
  obtain ⟨M2, k2, c2, f2⟩ := hm 0 M1 i1
  have ic2 : IC a' M2 := c1.kept c2.1 f2
  obtain ⟨v, hv⟩ := wp_Rl rl_135 k1.2.2
  have hv := Option.some.inj hv
  subst hv
  refine lg_a1 hS (by decide +kernel) ?_
  refine lg_callV (As := []) (rest := []) (k := 0) (j := 135) (na := 0) (y := yX10_digest) (bytes := cX10_digest) (mL := 4) (rt := (some .long)) (C0 := RX10) (T := TX10) (cn := 10) (N := 20) (index := 200) hS (by decide +kernel) ck_10 (tT hC.1 rfl) rfl (pm_gw_of (i := 1089) (by decide +kernel) rfl) (pm_gw_of (i := 95) (by decide +kernel) rfl) (by decide +kernel) (by decide) (pm_gw_of (i := 1086) (by decide +kernel) rfl) (pm_gw_of (i := 1087) (by decide +kernel) rfl) (pm_gw_of (i := 1088) (by decide +kernel) rfl) (by decide) k1 rfl (Nat.le_of_ble_eq_true rfl) (ok_z c1.1).1 (ok_z c1.1).2 ?_
  refine lg_a2 hS (by decide +kernel) ?_
  refine lg_callV (As := []) (rest := [.long v]) (k := 132) (j := 267) (na := 0) (y := yX11_digest) (bytes := cX11_digest) (mL := 3) (rt := (some .long)) (C0 := RX11) (T := TX11) (cn := 11) (N := 57) (index := 203) hS (by decide +kernel) ck_11 (tT c1.1 rfl) rfl (pm_gw_of (i := 1742) (by decide +kernel) rfl) (pm_gw_of (i := 106) (by decide +kernel) rfl) (by decide +kernel) (by decide) (pm_gw_of (i := 1739) (by decide +kernel) rfl) (pm_gw_of (i := 1740) (by decide +kernel) rfl) (pm_gw_of (i := 1741) (by decide +kernel) rfl) (by decide) k2 rfl (Nat.le_of_ble_eq_true rfl) (ok_z c2.1).1 (ok_z c2.1).2 ?_
  exact lg_eqL (x := v) (off := 5) hS (by decide +kernel) (by decide +kernel) (tgt := 1513) (by decide) (K a' M2 ha' ic2 c2)
end LC5

/-! WHAT A METHOD ANSWERS: an int, a long -/
def pm_Ri (sem : pm_Sem) : Prop := ∀ (call : pm_Cr) (Q : Option Value → pm_M → Prop) (X : Prop) (L : pm_L) (st : List Value) (M : pm_M), (∀ (v : Int32) M1, Q (some (.int v)) M1 → X) → sem call Q (fun _ _ _ _ => X) L st M → X
theorem wp_Ri {call : pm_Cr} {cd : List (Nat × pm_Sem)} {r : Option Value} {M' : pm_M} {pc : Nat} {L : pm_L} {st : List Value} {M : pm_M} (hx : ∀ q ∈ cd, pm_Ri q.2) (h : pm_WP call cd (fun r0 M1 => r0 = r ∧ M1 = M') pc L st M) : ∃ v : Int32, r = some (.int v) :=
  h (fun _ _ _ _ => ∃ v : Int32, r = some (.int v)) (fun pc L st M sem hs hsem => hx _ (pm_lk hs) call _ _ L st M (fun v M1 hq => ⟨v, hq.1.symm⟩) hsem)
theorem ri_k {v : Value} {nx : Nat} : pm_Ri (op_k v nx) := by
  intro call Q X L st M hq h
  exact h
theorem ri_ild {i nx : Nat} : pm_Ri (op_ild i nx) := by
  intro call Q X L st M hq h
  obtain ⟨x, _, h⟩ := h
  exact h
theorem ri_lld {i nx : Nat} : pm_Ri (op_lld i nx) := by
  intro call Q X L st M hq h
  obtain ⟨x, _, h⟩ := h
  exact h
theorem ri_ald {i nx : Nat} : pm_Ri (op_ald i nx) := by
  intro call Q X L st M hq h
  obtain ⟨x, _, h⟩ := h
  exact h
theorem ri_ist {i nx : Nat} : pm_Ri (op_ist i nx) := by
  intro call Q X L st M hq h
  obtain ⟨x, st', rfl, h⟩ := h
  exact h
theorem ri_lst {i nx : Nat} : pm_Ri (op_lst i nx) := by
  intro call Q X L st M hq h
  obtain ⟨x, st', rfl, h⟩ := h
  exact h
theorem ri_ast {i nx : Nat} : pm_Ri (op_ast i nx) := by
  intro call Q X L st M hq h
  obtain ⟨x, st', rfl, h⟩ := h
  exact h
theorem ri_inc {i : Nat} {n : Int32} {nx : Nat} : pm_Ri (op_inc i n nx) := by
  intro call Q X L st M hq h
  obtain ⟨x, _, h⟩ := h
  exact h
theorem ri_ib {f : Int32 → Int32 → Int32} {nx : Nat} : pm_Ri (op_ib f nx) := by
  intro call Q X L st M hq h
  obtain ⟨x, y, st', rfl, h⟩ := h
  exact h
theorem ri_idv {f : Int32 → Int32 → Int32} {nx : Nat} : pm_Ri (op_idv f nx) := by
  intro call Q X L st M hq h
  obtain ⟨x, y, st', rfl, _, h⟩ := h
  exact h
theorem ri_lb {f : Int64 → Int64 → Int64} {nx : Nat} : pm_Ri (op_lb f nx) := by
  intro call Q X L st M hq h
  obtain ⟨x, y, st', rfl, h⟩ := h
  exact h
theorem ri_ldv {f : Int64 → Int64 → Int64} {nx : Nat} : pm_Ri (op_ldv f nx) := by
  intro call Q X L st M hq h
  obtain ⟨x, y, st', rfl, _, h⟩ := h
  exact h
theorem ri_iu {f : Int32 → Int32} {nx : Nat} : pm_Ri (op_iu f nx) := by
  intro call Q X L st M hq h
  obtain ⟨x, st', rfl, h⟩ := h
  exact h
theorem ri_i2l {nx : Nat} : pm_Ri (op_i2l nx) := by
  intro call Q X L st M hq h
  obtain ⟨x, st', rfl, h⟩ := h
  exact h
theorem ri_l2i {nx : Nat} : pm_Ri (op_l2i nx) := by
  intro call Q X L st M hq h
  obtain ⟨x, st', rfl, h⟩ := h
  exact h
theorem ri_lcmp {nx : Nat} : pm_Ri (op_lcmp nx) := by
  intro call Q X L st M hq h
  obtain ⟨x, y, st', rfl, h⟩ := h
  exact h
theorem ri_b2 {c : Int32 → Int32 → Prop} {tg nx : Nat} : pm_Ri (op_b2 c tg nx) := by
  intro call Q X L st M hq h
  obtain ⟨x, y, st', rfl, ha, hb⟩ := h
  by_cases hx : c x y
  · exact ha hx
  · exact hb hx
theorem ri_b1 {c : Int32 → Prop} {tg nx : Nat} : pm_Ri (op_b1 c tg nx) := by
  intro call Q X L st M hq h
  obtain ⟨x, st', rfl, ha, hb⟩ := h
  by_cases hx : c x
  · exact ha hx
  · exact hb hx
theorem ri_go {tg : Nat} : pm_Ri (op_go tg) := by
  intro call Q X L st M hq h
  exact h
theorem ri_dup {nx : Nat} : pm_Ri (op_dup nx) := by
  intro call Q X L st M hq h
  obtain ⟨v, st', rfl, _, h⟩ := h
  exact h
theorem ri_dup2 {nx : Nat} : pm_Ri (op_dup2 nx) := by
  intro call Q X L st M hq h
  obtain ⟨v, w, st', rfl, _, _, h⟩ := h
  exact h
theorem ri_sw {f : Int32 → Nat} : pm_Ri (op_sw f) := by
  intro call Q X L st M hq h
  obtain ⟨x, st', rfl, h⟩ := h
  exact h
theorem ri_gI {c N f nx : Nat} : pm_Ri (op_gI c N f nx) := by
  intro call Q X L st M hq h
  obtain ⟨k, st', rfl, _, h⟩ := h
  exact h
theorem ri_gL {c N f nx : Nat} : pm_Ri (op_gL c N f nx) := by
  intro call Q X L st M hq h
  obtain ⟨k, st', rfl, _, h⟩ := h
  exact h
theorem ri_gR {c N f nx : Nat} : pm_Ri (op_gR c N f nx) := by
  intro call Q X L st M hq h
  obtain ⟨k, st', rfl, _, h⟩ := h
  exact h
theorem ri_pI {c N f nx : Nat} : pm_Ri (op_pI c N f nx) := by
  intro call Q X L st M hq h
  obtain ⟨v, k, st', rfl, _, h⟩ := h
  exact h
theorem ri_pL {c N f nx : Nat} : pm_Ri (op_pL c N f nx) := by
  intro call Q X L st M hq h
  obtain ⟨v, k, st', rfl, _, h⟩ := h
  exact h
theorem ri_pR {c N f nx : Nat} : pm_Ri (op_pR c N f nx) := by
  intro call Q X L st M hq h
  obtain ⟨v, k, st', rfl, _, h⟩ := h
  exact h
theorem ri_iald {nx : Nat} : pm_Ri (op_iald nx) := by
  intro call Q X L st M hq h
  obtain ⟨i, k, n, st', rfl, _, _, h⟩ := h
  exact h
theorem ri_lald {nx : Nat} : pm_Ri (op_lald nx) := by
  intro call Q X L st M hq h
  obtain ⟨i, k, n, st', rfl, _, _, h⟩ := h
  exact h
theorem ri_bald {t nx : Nat} : pm_Ri (op_bald t nx) := by
  intro call Q X L st M hq h
  obtain ⟨i, k, n, st', rfl, _, _, h⟩ := h
  exact h
theorem ri_aald {t nx : Nat} : pm_Ri (op_aald t nx) := by
  intro call Q X L st M hq h
  obtain ⟨i, k, n, st', rfl, _, _, h⟩ := h
  exact h
theorem ri_iast {nx : Nat} : pm_Ri (op_iast nx) := by
  intro call Q X L st M hq h
  obtain ⟨x, i, k, n, st', rfl, _, _, h⟩ := h
  exact h
theorem ri_last {nx : Nat} : pm_Ri (op_last nx) := by
  intro call Q X L st M hq h
  obtain ⟨x, i, k, n, st', rfl, _, _, h⟩ := h
  exact h
theorem ri_bast {nx : Nat} : pm_Ri (op_bast nx) := by
  intro call Q X L st M hq h
  obtain ⟨x, i, k, n, st', rfl, _, _, h⟩ := h
  exact h
theorem ri_zast {nx : Nat} : pm_Ri (op_zast nx) := by
  intro call Q X L st M hq h
  obtain ⟨x, i, k, n, st', rfl, _, _, h⟩ := h
  exact h
theorem ri_aast {t c N nx : Nat} : pm_Ri (op_aast t c N nx) := by
  intro call Q X L st M hq h
  obtain ⟨v, i, k, n, st', rfl, _, _, _, h⟩ := h
  exact h
theorem ri_alen {nx : Nat} : pm_Ri (op_alen nx) := by
  intro call Q X L st M hq h
  obtain ⟨k, t, n, st', rfl, _, _, _, h⟩ := h
  exact h
theorem ri_new {c N nx : Nat} : pm_Ri (op_new c N nx) := by
  intro call Q X L st M hq h
  exact h
theorem ri_nwa {t nx : Nat} : pm_Ri (op_nwa t nx) := by
  intro call Q X L st M hq h
  obtain ⟨n, st', rfl, _, _, h⟩ := h
  exact h
theorem ri_call {j na nx : Nat} : pm_Ri (op_call j na nx) := by
  intro call Q X L st M hq h
  obtain ⟨As, rest, r, M', rfl, _, _, _, h⟩ := h
  exact h
theorem ri_cav {j na c N nx : Nat} : pm_Ri (op_cav j na c N nx) := by
  intro call Q X L st M hq h
  obtain ⟨k, As, rest, r, M', rfl, _, _, _, _, h⟩ := h
  exact h
theorem ri_oin {nx : Nat} : pm_Ri (op_oin nx) := by
  intro call Q X L st M hq h
  obtain ⟨k, st', rfl, _, h⟩ := h
  exact h
theorem ri_acp {nx : Nat} : pm_Ri (op_acp nx) := by
  intro call Q X L st M hq h
  obtain ⟨n, dp, sp, dst, src, n0, n1, st', rfl, _, _, _, _, _, _, _, _, h⟩ := h
  exact h
theorem ri_mx {f : Int32 → Int32 → Int32} {nx : Nat} : pm_Ri (op_mx f nx) := by
  intro call Q X L st M hq h
  obtain ⟨x, y, st', rfl, _, h⟩ := h
  exact h
theorem ri_iret : pm_Ri op_iret := by
  intro call Q X L st M hq h
  obtain ⟨v, rfl, h⟩ := h
  exact hq v M h
theorem ri_zret : pm_Ri op_zret := by
  intro call Q X L st M hq h
  obtain ⟨v, rfl, _, h⟩ := h
  exact hq v M h
def pm_Rl (sem : pm_Sem) : Prop := ∀ (call : pm_Cr) (Q : Option Value → pm_M → Prop) (X : Prop) (L : pm_L) (st : List Value) (M : pm_M), (∀ (v : Int64) M1, Q (some (.long v)) M1 → X) → sem call Q (fun _ _ _ _ => X) L st M → X
theorem wp_Rl {call : pm_Cr} {cd : List (Nat × pm_Sem)} {r : Option Value} {M' : pm_M} {pc : Nat} {L : pm_L} {st : List Value} {M : pm_M} (hx : ∀ q ∈ cd, pm_Rl q.2) (h : pm_WP call cd (fun r0 M1 => r0 = r ∧ M1 = M') pc L st M) : ∃ v : Int64, r = some (.long v) :=
  h (fun _ _ _ _ => ∃ v : Int64, r = some (.long v)) (fun pc L st M sem hs hsem => hx _ (pm_lk hs) call _ _ L st M (fun v M1 hq => ⟨v, hq.1.symm⟩) hsem)
theorem rl_k {v : Value} {nx : Nat} : pm_Rl (op_k v nx) := by
  intro call Q X L st M hq h
  exact h
theorem rl_ild {i nx : Nat} : pm_Rl (op_ild i nx) := by
  intro call Q X L st M hq h
  obtain ⟨x, _, h⟩ := h
  exact h
theorem rl_lld {i nx : Nat} : pm_Rl (op_lld i nx) := by
  intro call Q X L st M hq h
  obtain ⟨x, _, h⟩ := h
  exact h
theorem rl_ald {i nx : Nat} : pm_Rl (op_ald i nx) := by
  intro call Q X L st M hq h
  obtain ⟨x, _, h⟩ := h
  exact h
theorem rl_ist {i nx : Nat} : pm_Rl (op_ist i nx) := by
  intro call Q X L st M hq h
  obtain ⟨x, st', rfl, h⟩ := h
  exact h
theorem rl_lst {i nx : Nat} : pm_Rl (op_lst i nx) := by
  intro call Q X L st M hq h
  obtain ⟨x, st', rfl, h⟩ := h
  exact h
theorem rl_ast {i nx : Nat} : pm_Rl (op_ast i nx) := by
  intro call Q X L st M hq h
  obtain ⟨x, st', rfl, h⟩ := h
  exact h
theorem rl_inc {i : Nat} {n : Int32} {nx : Nat} : pm_Rl (op_inc i n nx) := by
  intro call Q X L st M hq h
  obtain ⟨x, _, h⟩ := h
  exact h
theorem rl_ib {f : Int32 → Int32 → Int32} {nx : Nat} : pm_Rl (op_ib f nx) := by
  intro call Q X L st M hq h
  obtain ⟨x, y, st', rfl, h⟩ := h
  exact h
theorem rl_idv {f : Int32 → Int32 → Int32} {nx : Nat} : pm_Rl (op_idv f nx) := by
  intro call Q X L st M hq h
  obtain ⟨x, y, st', rfl, _, h⟩ := h
  exact h
theorem rl_lb {f : Int64 → Int64 → Int64} {nx : Nat} : pm_Rl (op_lb f nx) := by
  intro call Q X L st M hq h
  obtain ⟨x, y, st', rfl, h⟩ := h
  exact h
theorem rl_ldv {f : Int64 → Int64 → Int64} {nx : Nat} : pm_Rl (op_ldv f nx) := by
  intro call Q X L st M hq h
  obtain ⟨x, y, st', rfl, _, h⟩ := h
  exact h
theorem rl_iu {f : Int32 → Int32} {nx : Nat} : pm_Rl (op_iu f nx) := by
  intro call Q X L st M hq h
  obtain ⟨x, st', rfl, h⟩ := h
  exact h
theorem rl_i2l {nx : Nat} : pm_Rl (op_i2l nx) := by
  intro call Q X L st M hq h
  obtain ⟨x, st', rfl, h⟩ := h
  exact h
theorem rl_l2i {nx : Nat} : pm_Rl (op_l2i nx) := by
  intro call Q X L st M hq h
  obtain ⟨x, st', rfl, h⟩ := h
  exact h
theorem rl_lcmp {nx : Nat} : pm_Rl (op_lcmp nx) := by
  intro call Q X L st M hq h
  obtain ⟨x, y, st', rfl, h⟩ := h
  exact h
theorem rl_b2 {c : Int32 → Int32 → Prop} {tg nx : Nat} : pm_Rl (op_b2 c tg nx) := by
  intro call Q X L st M hq h
  obtain ⟨x, y, st', rfl, ha, hb⟩ := h
  by_cases hx : c x y
  · exact ha hx
  · exact hb hx
theorem rl_b1 {c : Int32 → Prop} {tg nx : Nat} : pm_Rl (op_b1 c tg nx) := by
  intro call Q X L st M hq h
  obtain ⟨x, st', rfl, ha, hb⟩ := h
  by_cases hx : c x
  · exact ha hx
  · exact hb hx
theorem rl_go {tg : Nat} : pm_Rl (op_go tg) := by
  intro call Q X L st M hq h
  exact h
theorem rl_dup {nx : Nat} : pm_Rl (op_dup nx) := by
  intro call Q X L st M hq h
  obtain ⟨v, st', rfl, _, h⟩ := h
  exact h
theorem rl_dup2 {nx : Nat} : pm_Rl (op_dup2 nx) := by
  intro call Q X L st M hq h
  obtain ⟨v, w, st', rfl, _, _, h⟩ := h
  exact h
theorem rl_sw {f : Int32 → Nat} : pm_Rl (op_sw f) := by
  intro call Q X L st M hq h
  obtain ⟨x, st', rfl, h⟩ := h
  exact h
theorem rl_gI {c N f nx : Nat} : pm_Rl (op_gI c N f nx) := by
  intro call Q X L st M hq h
  obtain ⟨k, st', rfl, _, h⟩ := h
  exact h
theorem rl_gL {c N f nx : Nat} : pm_Rl (op_gL c N f nx) := by
  intro call Q X L st M hq h
  obtain ⟨k, st', rfl, _, h⟩ := h
  exact h
theorem rl_gR {c N f nx : Nat} : pm_Rl (op_gR c N f nx) := by
  intro call Q X L st M hq h
  obtain ⟨k, st', rfl, _, h⟩ := h
  exact h
theorem rl_pI {c N f nx : Nat} : pm_Rl (op_pI c N f nx) := by
  intro call Q X L st M hq h
  obtain ⟨v, k, st', rfl, _, h⟩ := h
  exact h
theorem rl_pL {c N f nx : Nat} : pm_Rl (op_pL c N f nx) := by
  intro call Q X L st M hq h
  obtain ⟨v, k, st', rfl, _, h⟩ := h
  exact h
theorem rl_pR {c N f nx : Nat} : pm_Rl (op_pR c N f nx) := by
  intro call Q X L st M hq h
  obtain ⟨v, k, st', rfl, _, h⟩ := h
  exact h
theorem rl_iald {nx : Nat} : pm_Rl (op_iald nx) := by
  intro call Q X L st M hq h
  obtain ⟨i, k, n, st', rfl, _, _, h⟩ := h
  exact h
theorem rl_lald {nx : Nat} : pm_Rl (op_lald nx) := by
  intro call Q X L st M hq h
  obtain ⟨i, k, n, st', rfl, _, _, h⟩ := h
  exact h
theorem rl_bald {t nx : Nat} : pm_Rl (op_bald t nx) := by
  intro call Q X L st M hq h
  obtain ⟨i, k, n, st', rfl, _, _, h⟩ := h
  exact h
theorem rl_aald {t nx : Nat} : pm_Rl (op_aald t nx) := by
  intro call Q X L st M hq h
  obtain ⟨i, k, n, st', rfl, _, _, h⟩ := h
  exact h
theorem rl_iast {nx : Nat} : pm_Rl (op_iast nx) := by
  intro call Q X L st M hq h
  obtain ⟨x, i, k, n, st', rfl, _, _, h⟩ := h
  exact h
theorem rl_last {nx : Nat} : pm_Rl (op_last nx) := by
  intro call Q X L st M hq h
  obtain ⟨x, i, k, n, st', rfl, _, _, h⟩ := h
  exact h
theorem rl_bast {nx : Nat} : pm_Rl (op_bast nx) := by
  intro call Q X L st M hq h
  obtain ⟨x, i, k, n, st', rfl, _, _, h⟩ := h
  exact h
theorem rl_zast {nx : Nat} : pm_Rl (op_zast nx) := by
  intro call Q X L st M hq h
  obtain ⟨x, i, k, n, st', rfl, _, _, h⟩ := h
  exact h
theorem rl_aast {t c N nx : Nat} : pm_Rl (op_aast t c N nx) := by
  intro call Q X L st M hq h
  obtain ⟨v, i, k, n, st', rfl, _, _, _, h⟩ := h
  exact h
theorem rl_alen {nx : Nat} : pm_Rl (op_alen nx) := by
  intro call Q X L st M hq h
  obtain ⟨k, t, n, st', rfl, _, _, _, h⟩ := h
  exact h
theorem rl_new {c N nx : Nat} : pm_Rl (op_new c N nx) := by
  intro call Q X L st M hq h
  exact h
theorem rl_nwa {t nx : Nat} : pm_Rl (op_nwa t nx) := by
  intro call Q X L st M hq h
  obtain ⟨n, st', rfl, _, _, h⟩ := h
  exact h
theorem rl_call {j na nx : Nat} : pm_Rl (op_call j na nx) := by
  intro call Q X L st M hq h
  obtain ⟨As, rest, r, M', rfl, _, _, _, h⟩ := h
  exact h
theorem rl_cav {j na c N nx : Nat} : pm_Rl (op_cav j na c N nx) := by
  intro call Q X L st M hq h
  obtain ⟨k, As, rest, r, M', rfl, _, _, _, _, h⟩ := h
  exact h
theorem rl_oin {nx : Nat} : pm_Rl (op_oin nx) := by
  intro call Q X L st M hq h
  obtain ⟨k, st', rfl, _, h⟩ := h
  exact h
theorem rl_acp {nx : Nat} : pm_Rl (op_acp nx) := by
  intro call Q X L st M hq h
  obtain ⟨n, dp, sp, dst, src, n0, n1, st', rfl, _, _, _, _, _, _, _, _, h⟩ := h
  exact h
theorem rl_mx {f : Int32 → Int32 → Int32} {nx : Nat} : pm_Rl (op_mx f nx) := by
  intro call Q X L st M hq h
  obtain ⟨x, y, st', rfl, _, h⟩ := h
  exact h
theorem rl_lret : pm_Rl op_lret := by
  intro call Q X L st M hq h
  obtain ⟨v, rfl, h⟩ := h
  exact hq v M h
set_option maxRecDepth 4000 in
theorem ri_90 : ∀ q ∈ tb_90, pm_Ri q.2 := fa_c ri_ild (fa_c ri_call (fa_c ri_b1 (fa_c ri_ild (fa_c ri_k (fa_c ri_b2 (fa_c ri_k (fa_c ri_iret (fa_c ri_ild (fa_c ri_b1 (fa_c ri_ald (fa_c ri_k (fa_c ri_cav (fa_c ri_iret (fa_c ri_ald (fa_c ri_gR (fa_c ri_ild (fa_c ri_aald (fa_c ri_gR (fa_c ri_k (fa_c ri_call (fa_c ri_ald (fa_c ri_gR (fa_c ri_ild (fa_c ri_aald (fa_c ri_ild (fa_c ri_pI (fa_c ri_ild (fa_c ri_iret (fa_n)))))))))))))))))))))))))))))
set_option maxRecDepth 4000 in
theorem ri_162 : ∀ q ∈ tb_162, pm_Ri q.2 := fa_c ri_ild (fa_c ri_call (fa_c ri_b1 (fa_c ri_ild (fa_c ri_k (fa_c ri_b2 (fa_c ri_k (fa_c ri_iret (fa_c ri_ild (fa_c ri_b1 (fa_c ri_ald (fa_c ri_k (fa_c ri_cav (fa_c ri_iret (fa_c ri_ald (fa_c ri_gR (fa_c ri_ild (fa_c ri_ild (fa_c ri_iast (fa_c ri_k (fa_c ri_ist (fa_c ri_ild (fa_c ri_k (fa_c ri_b2 (fa_c ri_ald (fa_c ri_gR (fa_c ri_k (fa_c ri_ild (fa_c ri_ib (fa_c ri_ild (fa_c ri_ib (fa_c ri_k (fa_c ri_iast (fa_c ri_inc (fa_c ri_go (fa_c ri_ild (fa_c ri_iret (fa_n)))))))))))))))))))))))))))))))))))))
set_option maxRecDepth 4000 in
theorem ri_91 : ∀ q ∈ tb_91, pm_Ri q.2 := fa_c ri_ild (fa_c ri_call (fa_c ri_b1 (fa_c ri_k (fa_c ri_iret (fa_c ri_ald (fa_c ri_ald (fa_c ri_gR (fa_c ri_ild (fa_c ri_aald (fa_c ri_gI (fa_c ri_ild (fa_c ri_cav (fa_c ri_ist (fa_c ri_ild (fa_c ri_b1 (fa_c ri_ild (fa_c ri_iret (fa_c ri_ald (fa_c ri_ald (fa_c ri_gR (fa_c ri_ild (fa_c ri_aald (fa_c ri_gR (fa_c ri_ild (fa_c ri_iald (fa_c ri_pI (fa_c ri_ald (fa_c ri_gR (fa_c ri_ild (fa_c ri_aald (fa_c ri_gR (fa_c ri_ild (fa_c ri_ild (fa_c ri_iast (fa_c ri_k (fa_c ri_iret (fa_n)))))))))))))))))))))))))))))))))))))
set_option maxRecDepth 4000 in
theorem ri_163 : ∀ q ∈ tb_163, pm_Ri q.2 := fa_c ri_ild (fa_c ri_call (fa_c ri_b1 (fa_c ri_k (fa_c ri_iret (fa_c ri_ald (fa_c ri_gR (fa_c ri_ild (fa_c ri_iald (fa_c ri_b1 (fa_c ri_ald (fa_c ri_k (fa_c ri_cav (fa_c ri_iret (fa_c ri_ild (fa_c ri_k (fa_c ri_ald (fa_c ri_gR (fa_c ri_ild (fa_c ri_iald (fa_c ri_k (fa_c ri_ib (fa_c ri_call (fa_c ri_b1 (fa_c ri_ald (fa_c ri_k (fa_c ri_cav (fa_c ri_iret (fa_c ri_ald (fa_c ri_ild (fa_c ri_ild (fa_c ri_cav (fa_c ri_ist (fa_c ri_ald (fa_c ri_gR (fa_c ri_k (fa_c ri_ild (fa_c ri_ib (fa_c ri_ild (fa_c ri_ib (fa_c ri_ild (fa_c ri_iast (fa_c ri_ald (fa_c ri_ild (fa_c ri_k (fa_c ri_cav (fa_c ri_iret (fa_n)))))))))))))))))))))))))))))))))))))))))))))))
set_option maxRecDepth 4000 in
theorem ri_92 : ∀ q ∈ tb_92, pm_Ri q.2 := fa_c ri_ild (fa_c ri_call (fa_c ri_b1 (fa_c ri_k (fa_c ri_iret (fa_c ri_ald (fa_c ri_ald (fa_c ri_gR (fa_c ri_ild (fa_c ri_aald (fa_c ri_gI (fa_c ri_ild (fa_c ri_cav (fa_c ri_ist (fa_c ri_ild (fa_c ri_b1 (fa_c ri_ild (fa_c ri_iret (fa_c ri_ald (fa_c ri_ald (fa_c ri_gR (fa_c ri_ild (fa_c ri_aald (fa_c ri_gR (fa_c ri_ild (fa_c ri_iald (fa_c ri_pI (fa_c ri_k (fa_c ri_iret (fa_n)))))))))))))))))))))))))))))
set_option maxRecDepth 4000 in
theorem ri_164 : ∀ q ∈ tb_164, pm_Ri q.2 := fa_c ri_ild (fa_c ri_call (fa_c ri_b1 (fa_c ri_k (fa_c ri_iret (fa_c ri_ald (fa_c ri_gR (fa_c ri_ild (fa_c ri_iald (fa_c ri_b1 (fa_c ri_ald (fa_c ri_k (fa_c ri_cav (fa_c ri_iret (fa_c ri_ild (fa_c ri_k (fa_c ri_ald (fa_c ri_gR (fa_c ri_ild (fa_c ri_iald (fa_c ri_k (fa_c ri_ib (fa_c ri_call (fa_c ri_b1 (fa_c ri_ald (fa_c ri_ald (fa_c ri_ild (fa_c ri_ild (fa_c ri_cav (fa_c ri_k (fa_c ri_cav (fa_c ri_go (fa_c ri_ald (fa_c ri_k (fa_c ri_cav (fa_c ri_iret (fa_n))))))))))))))))))))))))))))))))))))
set_option maxRecDepth 4000 in
theorem ri_93 : ∀ q ∈ tb_93, pm_Ri q.2 := fa_c ri_ild (fa_c ri_call (fa_c ri_b1 (fa_c ri_k (fa_c ri_iret (fa_c ri_ald (fa_c ri_gR (fa_c ri_ild (fa_c ri_aald (fa_c ri_gI (fa_c ri_b1 (fa_c ri_ald (fa_c ri_k (fa_c ri_cav (fa_c ri_iret (fa_c ri_ald (fa_c ri_gR (fa_c ri_ild (fa_c ri_aald (fa_c ri_k (fa_c ri_pI (fa_c ri_k (fa_c ri_iret (fa_n)))))))))))))))))))))))
set_option maxRecDepth 4000 in
theorem ri_165 : ∀ q ∈ tb_165, pm_Ri q.2 := fa_c ri_ild (fa_c ri_call (fa_c ri_b1 (fa_c ri_k (fa_c ri_iret (fa_c ri_ald (fa_c ri_gR (fa_c ri_ild (fa_c ri_iald (fa_c ri_b1 (fa_c ri_ald (fa_c ri_k (fa_c ri_cav (fa_c ri_iret (fa_c ri_ald (fa_c ri_gR (fa_c ri_ild (fa_c ri_k (fa_c ri_iast (fa_c ri_k (fa_c ri_iret (fa_n)))))))))))))))))))))
set_option maxRecDepth 4000 in
theorem ri_94 : ∀ q ∈ tb_94, pm_Ri q.2 := fa_c ri_ild (fa_c ri_call (fa_c ri_b1 (fa_c ri_ild (fa_c ri_call (fa_c ri_b1 (fa_c ri_k (fa_c ri_iret (fa_c ri_ild (fa_c ri_b1 (fa_c ri_ald (fa_c ri_k (fa_c ri_cav (fa_c ri_iret (fa_c ri_ald (fa_c ri_gR (fa_c ri_ild (fa_c ri_aald (fa_c ri_ast (fa_c ri_ald (fa_c ri_gR (fa_c ri_ild (fa_c ri_aald (fa_c ri_ast (fa_c ri_ald (fa_c ri_gI (fa_c ri_b1 (fa_c ri_ald (fa_c ri_gI (fa_c ri_b1 (fa_c ri_ald (fa_c ri_k (fa_c ri_cav (fa_c ri_iret (fa_c ri_ald (fa_c ri_ild (fa_c ri_ild (fa_c ri_cav (fa_c ri_b1 (fa_c ri_ald (fa_c ri_ild (fa_c ri_ild (fa_c ri_cav (fa_c ri_b1 (fa_c ri_ald (fa_c ri_k (fa_c ri_cav (fa_c ri_iret (fa_c ri_ald (fa_c ri_gR (fa_c ri_ild (fa_c ri_ald (fa_c ri_gR (fa_c ri_ild (fa_c ri_ild (fa_c ri_acp (fa_c ri_k (fa_c ri_iret (fa_n))))))))))))))))))))))))))))))))))))))))))))))))))))))))))
set_option maxRecDepth 4000 in
theorem ri_166 : ∀ q ∈ tb_166, pm_Ri q.2 := fa_c ri_ild (fa_c ri_call (fa_c ri_b1 (fa_c ri_ild (fa_c ri_call (fa_c ri_b1 (fa_c ri_k (fa_c ri_iret (fa_c ri_ild (fa_c ri_b1 (fa_c ri_ald (fa_c ri_k (fa_c ri_cav (fa_c ri_iret (fa_c ri_ald (fa_c ri_gR (fa_c ri_ild (fa_c ri_iald (fa_c ri_b1 (fa_c ri_ald (fa_c ri_gR (fa_c ri_ild (fa_c ri_iald (fa_c ri_b1 (fa_c ri_ald (fa_c ri_k (fa_c ri_cav (fa_c ri_iret (fa_c ri_ild (fa_c ri_b1 (fa_c ri_ild (fa_c ri_b1 (fa_c ri_ild (fa_c ri_i2l (fa_c ri_ild (fa_c ri_i2l (fa_c ri_lb (fa_c ri_ald (fa_c ri_gR (fa_c ri_ild (fa_c ri_iald (fa_c ri_i2l (fa_c ri_lcmp (fa_c ri_b1 (fa_c ri_ild (fa_c ri_i2l (fa_c ri_ild (fa_c ri_i2l (fa_c ri_lb (fa_c ri_ald (fa_c ri_gR (fa_c ri_ild (fa_c ri_iald (fa_c ri_i2l (fa_c ri_lcmp (fa_c ri_b1 (fa_c ri_ald (fa_c ri_k (fa_c ri_cav (fa_c ri_iret (fa_c ri_k (fa_c ri_ist (fa_c ri_ild (fa_c ri_ild (fa_c ri_b2 (fa_c ri_ald (fa_c ri_gR (fa_c ri_ild (fa_c ri_ald (fa_c ri_ild (fa_c ri_ild (fa_c ri_ild (fa_c ri_ib (fa_c ri_cav (fa_c ri_iast (fa_c ri_inc (fa_c ri_go (fa_c ri_k (fa_c ri_ist (fa_c ri_ild (fa_c ri_ild (fa_c ri_b2 (fa_c ri_ald (fa_c ri_gR (fa_c ri_k (fa_c ri_ild (fa_c ri_ib (fa_c ri_ild (fa_c ri_ib (fa_c ri_ild (fa_c ri_ib (fa_c ri_ald (fa_c ri_gR (fa_c ri_ild (fa_c ri_iald (fa_c ri_iast (fa_c ri_inc (fa_c ri_go (fa_c ri_k (fa_c ri_iret (fa_n))))))))))))))))))))))))))))))))))))))))))))))))))))))))))))))))))))))))))))))))))))))))))))))))))))
set_option maxRecDepth 4000 in
theorem ri_95 : ∀ q ∈ tb_95, pm_Ri q.2 := fa_c ri_ild (fa_c ri_call (fa_c ri_b1 (fa_c ri_k (fa_c ri_iret (fa_c ri_ald (fa_c ri_gR (fa_c ri_ild (fa_c ri_aald (fa_c ri_ast (fa_c ri_ald (fa_c ri_gI (fa_c ri_b1 (fa_c ri_ald (fa_c ri_k (fa_c ri_cav (fa_c ri_iret (fa_c ri_ald (fa_c ri_gI (fa_c ri_b1 (fa_c ri_ald (fa_c ri_k (fa_c ri_cav (fa_c ri_iret (fa_c ri_k (fa_c ri_lst (fa_c ri_k (fa_c ri_ist (fa_c ri_ild (fa_c ri_ald (fa_c ri_gI (fa_c ri_b2 (fa_c ri_lld (fa_c ri_ald (fa_c ri_gR (fa_c ri_ild (fa_c ri_iald (fa_c ri_i2l (fa_c ri_lb (fa_c ri_lst (fa_c ri_inc (fa_c ri_go (fa_c ri_ald (fa_c ri_lld (fa_c ri_ald (fa_c ri_gI (fa_c ri_i2l (fa_c ri_ldv (fa_c ri_l2i (fa_c ri_pI (fa_c ri_k (fa_c ri_iret (fa_n))))))))))))))))))))))))))))))))))))))))))))))))))))
set_option maxRecDepth 4000 in
theorem ri_167 : ∀ q ∈ tb_167, pm_Ri q.2 := fa_c ri_ild (fa_c ri_call (fa_c ri_b1 (fa_c ri_k (fa_c ri_iret (fa_c ri_ald (fa_c ri_gR (fa_c ri_ild (fa_c ri_iald (fa_c ri_b1 (fa_c ri_ald (fa_c ri_k (fa_c ri_cav (fa_c ri_iret (fa_c ri_ald (fa_c ri_gR (fa_c ri_ild (fa_c ri_iald (fa_c ri_b1 (fa_c ri_ald (fa_c ri_k (fa_c ri_cav (fa_c ri_iret (fa_c ri_k (fa_c ri_lst (fa_c ri_k (fa_c ri_ist (fa_c ri_ild (fa_c ri_ald (fa_c ri_gR (fa_c ri_ild (fa_c ri_iald (fa_c ri_b2 (fa_c ri_lld (fa_c ri_ald (fa_c ri_ild (fa_c ri_ild (fa_c ri_cav (fa_c ri_i2l (fa_c ri_lb (fa_c ri_lst (fa_c ri_inc (fa_c ri_go (fa_c ri_ald (fa_c ri_lld (fa_c ri_ald (fa_c ri_gR (fa_c ri_ild (fa_c ri_iald (fa_c ri_i2l (fa_c ri_ldv (fa_c ri_l2i (fa_c ri_k (fa_c ri_cav (fa_c ri_iret (fa_n)))))))))))))))))))))))))))))))))))))))))))))))))))))))
set_option maxRecDepth 4000 in
theorem ri_96 : ∀ q ∈ tb_96, pm_Ri q.2 := fa_c ri_ild (fa_c ri_call (fa_c ri_b1 (fa_c ri_ild (fa_c ri_k (fa_c ri_b2 (fa_c ri_k (fa_c ri_iret (fa_c ri_ild (fa_c ri_b1 (fa_c ri_ald (fa_c ri_k (fa_c ri_cav (fa_c ri_iret (fa_c ri_ald (fa_c ri_gR (fa_c ri_ild (fa_c ri_aald (fa_c ri_gR (fa_c ri_k (fa_c ri_call (fa_c ri_ald (fa_c ri_gR (fa_c ri_ild (fa_c ri_aald (fa_c ri_ild (fa_c ri_pI (fa_c ri_ild (fa_c ri_iret (fa_n)))))))))))))))))))))))))))))
set_option maxRecDepth 4000 in
theorem ri_169 : ∀ q ∈ tb_169, pm_Ri q.2 := fa_c ri_ild (fa_c ri_call (fa_c ri_b1 (fa_c ri_ild (fa_c ri_k (fa_c ri_b2 (fa_c ri_k (fa_c ri_iret (fa_c ri_ild (fa_c ri_b1 (fa_c ri_ald (fa_c ri_k (fa_c ri_cav (fa_c ri_iret (fa_c ri_ald (fa_c ri_gR (fa_c ri_ild (fa_c ri_ild (fa_c ri_iast (fa_c ri_k (fa_c ri_ist (fa_c ri_ild (fa_c ri_k (fa_c ri_b2 (fa_c ri_ald (fa_c ri_gR (fa_c ri_k (fa_c ri_ild (fa_c ri_ib (fa_c ri_ild (fa_c ri_ib (fa_c ri_k (fa_c ri_bast (fa_c ri_inc (fa_c ri_go (fa_c ri_ild (fa_c ri_iret (fa_n)))))))))))))))))))))))))))))))))))))
set_option maxRecDepth 4000 in
theorem ri_97 : ∀ q ∈ tb_97, pm_Ri q.2 := fa_c ri_ild (fa_c ri_call (fa_c ri_b1 (fa_c ri_k (fa_c ri_iret (fa_c ri_ald (fa_c ri_ald (fa_c ri_gR (fa_c ri_ild (fa_c ri_aald (fa_c ri_gI (fa_c ri_ild (fa_c ri_cav (fa_c ri_ist (fa_c ri_ild (fa_c ri_b1 (fa_c ri_ild (fa_c ri_iret (fa_c ri_ald (fa_c ri_gR (fa_c ri_ild (fa_c ri_aald (fa_c ri_gR (fa_c ri_ild (fa_c ri_bald (fa_c ri_ist (fa_c ri_ald (fa_c ri_gR (fa_c ri_ild (fa_c ri_aald (fa_c ri_gR (fa_c ri_ild (fa_c ri_ild (fa_c ri_iu (fa_c ri_bast (fa_c ri_ild (fa_c ri_k (fa_c ri_ib (fa_c ri_iret (fa_n)))))))))))))))))))))))))))))))))))))))
set_option maxRecDepth 4000 in
theorem ri_170 : ∀ q ∈ tb_170, pm_Ri q.2 := fa_c ri_ild (fa_c ri_call (fa_c ri_b1 (fa_c ri_k (fa_c ri_iret (fa_c ri_ald (fa_c ri_gR (fa_c ri_ild (fa_c ri_iald (fa_c ri_b1 (fa_c ri_ald (fa_c ri_k (fa_c ri_cav (fa_c ri_iret (fa_c ri_ild (fa_c ri_k (fa_c ri_ald (fa_c ri_gR (fa_c ri_ild (fa_c ri_iald (fa_c ri_k (fa_c ri_ib (fa_c ri_call (fa_c ri_b1 (fa_c ri_ald (fa_c ri_k (fa_c ri_cav (fa_c ri_iret (fa_c ri_ald (fa_c ri_gR (fa_c ri_k (fa_c ri_ild (fa_c ri_ib (fa_c ri_ild (fa_c ri_ib (fa_c ri_bald (fa_c ri_ist (fa_c ri_ald (fa_c ri_gR (fa_c ri_k (fa_c ri_ild (fa_c ri_ib (fa_c ri_ild (fa_c ri_ib (fa_c ri_ild (fa_c ri_iu (fa_c ri_bast (fa_c ri_k (fa_c ri_ild (fa_c ri_ib (fa_c ri_iret (fa_n)))))))))))))))))))))))))))))))))))))))))))))))))))
set_option maxRecDepth 4000 in
theorem ri_98 : ∀ q ∈ tb_98, pm_Ri q.2 := fa_c ri_ild (fa_c ri_call (fa_c ri_b1 (fa_c ri_k (fa_c ri_iret (fa_c ri_ald (fa_c ri_gR (fa_c ri_ild (fa_c ri_aald (fa_c ri_gI (fa_c ri_b1 (fa_c ri_ald (fa_c ri_k (fa_c ri_cav (fa_c ri_iret (fa_c ri_ald (fa_c ri_gR (fa_c ri_ald (fa_c ri_gR (fa_c ri_ild (fa_c ri_aald (fa_c ri_cav (fa_c ri_iret (fa_n)))))))))))))))))))))))
set_option maxRecDepth 4000 in
theorem ri_180 : ∀ q ∈ tb_180, pm_Ri q.2 := fa_c ri_ild (fa_c ri_call (fa_c ri_b1 (fa_c ri_k (fa_c ri_iret (fa_c ri_ald (fa_c ri_gR (fa_c ri_ild (fa_c ri_iald (fa_c ri_b1 (fa_c ri_ald (fa_c ri_k (fa_c ri_cav (fa_c ri_go (fa_c ri_ald (fa_c ri_ild (fa_c ri_cav (fa_c ri_iret (fa_n))))))))))))))))))
set_option maxRecDepth 4000 in
theorem ri_99 : ∀ q ∈ tb_99, pm_Ri q.2 := fa_c ri_ild (fa_c ri_call (fa_c ri_b1 (fa_c ri_k (fa_c ri_iret (fa_c ri_ald (fa_c ri_gR (fa_c ri_ild (fa_c ri_aald (fa_c ri_gI (fa_c ri_b1 (fa_c ri_ald (fa_c ri_k (fa_c ri_cav (fa_c ri_iret (fa_c ri_ald (fa_c ri_gR (fa_c ri_ald (fa_c ri_gR (fa_c ri_ild (fa_c ri_aald (fa_c ri_cav (fa_c ri_k (fa_c ri_b2 (fa_c ri_k (fa_c ri_iret (fa_c ri_ald (fa_c ri_gR (fa_c ri_ald (fa_c ri_gR (fa_c ri_cav (fa_c ri_ald (fa_c ri_gR (fa_c ri_cav (fa_c ri_ald (fa_c ri_gR (fa_c ri_k (fa_c ri_pI (fa_c ri_k (fa_c ri_ist (fa_c ri_ild (fa_c ri_k (fa_c ri_b2 (fa_c ri_ald (fa_c ri_gR (fa_c ri_ild (fa_c ri_aald (fa_c ri_k (fa_c ri_pI (fa_c ri_inc (fa_c ri_go (fa_c ri_ald (fa_c ri_gR (fa_c ri_gI (fa_c ri_iret (fa_n)))))))))))))))))))))))))))))))))))))))))))))))))))))))
set_option maxRecDepth 4000 in
theorem ri_181 : ∀ q ∈ tb_181, pm_Ri q.2 := fa_c ri_ild (fa_c ri_call (fa_c ri_b1 (fa_c ri_k (fa_c ri_iret (fa_c ri_ald (fa_c ri_gR (fa_c ri_ild (fa_c ri_iald (fa_c ri_b1 (fa_c ri_ald (fa_c ri_k (fa_c ri_cav (fa_c ri_iret (fa_c ri_ald (fa_c ri_ild (fa_c ri_cav (fa_c ri_k (fa_c ri_b2 (fa_c ri_k (fa_c ri_iret (fa_c ri_ald (fa_c ri_ald (fa_c ri_gI (fa_c ri_pI (fa_c ri_ald (fa_c ri_ald (fa_c ri_gI (fa_c ri_pI (fa_c ri_ald (fa_c ri_ald (fa_c ri_gI (fa_c ri_pI (fa_c ri_ald (fa_c ri_ald (fa_c ri_gI (fa_c ri_pI (fa_c ri_ald (fa_c ri_ald (fa_c ri_gI (fa_c ri_pI (fa_c ri_k (fa_c ri_ist (fa_c ri_ild (fa_c ri_ald (fa_c ri_gI (fa_c ri_b2 (fa_c ri_ald (fa_c ri_gR (fa_c ri_ild (fa_c ri_ald (fa_c ri_gR (fa_c ri_k (fa_c ri_ild (fa_c ri_ib (fa_c ri_iald (fa_c ri_iast (fa_c ri_ald (fa_c ri_gR (fa_c ri_ild (fa_c ri_ald (fa_c ri_gR (fa_c ri_k (fa_c ri_ild (fa_c ri_ib (fa_c ri_k (fa_c ri_ib (fa_c ri_iald (fa_c ri_iast (fa_c ri_ald (fa_c ri_gR (fa_c ri_ild (fa_c ri_ald (fa_c ri_gR (fa_c ri_k (fa_c ri_ild (fa_c ri_ib (fa_c ri_k (fa_c ri_ib (fa_c ri_iald (fa_c ri_iast (fa_c ri_ald (fa_c ri_gR (fa_c ri_ild (fa_c ri_k (fa_c ri_iast (fa_c ri_inc (fa_c ri_go (fa_c ri_k (fa_c ri_ist (fa_c ri_ild (fa_c ri_ald (fa_c ri_gI (fa_c ri_b2 (fa_c ri_ald (fa_c ri_gR (fa_c ri_ald (fa_c ri_gR (fa_c ri_k (fa_c ri_ild (fa_c ri_ib (fa_c ri_iald (fa_c ri_dup2 (fa_c ri_iald (fa_c ri_k (fa_c ri_ald (fa_c ri_gR (fa_c ri_k (fa_c ri_ild (fa_c ri_ib (fa_c ri_k (fa_c ri_ib (fa_c ri_iald (fa_c ri_ib (fa_c ri_ib (fa_c ri_iast (fa_c ri_inc (fa_c ri_go (fa_c ri_k (fa_c ri_ist (fa_c ri_ild (fa_c ri_k (fa_c ri_ald (fa_c ri_gI (fa_c ri_ib (fa_c ri_b2 (fa_c ri_ald (fa_c ri_gR (fa_c ri_ild (fa_c ri_ald (fa_c ri_gR (fa_c ri_ild (fa_c ri_iald (fa_c ri_iast (fa_c ri_inc (fa_c ri_go (fa_c ri_ald (fa_c ri_k (fa_c ri_pI (fa_c ri_k (fa_c ri_ist (fa_c ri_ild (fa_c ri_k (fa_c ri_b2 (fa_c ri_ald (fa_c ri_gR (fa_c ri_ild (fa_c ri_k (fa_c ri_iast (fa_c ri_inc (fa_c ri_go (fa_c ri_ald (fa_c ri_gI (fa_c ri_iret (fa_n))))))))))))))))))))))))))))))))))))))))))))))))))))))))))))))))))))))))))))))))))))))))))))))))))))))))))))))))))))))))))))))))))))))))))))))))))))))))))
set_option maxRecDepth 4000 in
theorem ri_100 : ∀ q ∈ tb_100, pm_Ri q.2 := fa_c ri_ald (fa_c ri_gR (fa_c ri_ild (fa_c ri_cav (fa_c ri_b1 (fa_c ri_ild (fa_c ri_b1 (fa_c ri_ild (fa_c ri_k (fa_c ri_b2 (fa_c ri_k (fa_c ri_iret (fa_c ri_ald (fa_c ri_ald (fa_c ri_gR (fa_c ri_ild (fa_c ri_ild (fa_c ri_cav (fa_c ri_pI (fa_c ri_k (fa_c ri_iret (fa_n)))))))))))))))))))))
set_option maxRecDepth 4000 in
theorem ri_190 : ∀ q ∈ tb_190, pm_Ri q.2 := fa_c ri_ald (fa_c ri_ild (fa_c ri_cav (fa_c ri_b1 (fa_c ri_ild (fa_c ri_k (fa_c ri_k (fa_c ri_call (fa_c ri_b1 (fa_c ri_ald (fa_c ri_ald (fa_c ri_ild (fa_c ri_ild (fa_c ri_cav (fa_c ri_k (fa_c ri_cav (fa_c ri_go (fa_c ri_k (fa_c ri_iret (fa_n)))))))))))))))))))
set_option maxRecDepth 4000 in
theorem ri_101 : ∀ q ∈ tb_101, pm_Ri q.2 := fa_c ri_ald (fa_c ri_gR (fa_c ri_ild (fa_c ri_cav (fa_c ri_b1 (fa_c ri_ild (fa_c ri_k (fa_c ri_b2 (fa_c ri_ild (fa_c ri_k (fa_c ri_b2 (fa_c ri_k (fa_c ri_iret (fa_c ri_ald (fa_c ri_gR (fa_c ri_ild (fa_c ri_ild (fa_c ri_cav (fa_c ri_b1 (fa_c ri_ald (fa_c ri_k (fa_c ri_cav (fa_c ri_iret (fa_c ri_ild (fa_c ri_sw (fa_c ri_ald (fa_c ri_gR (fa_c ri_ild (fa_c ri_cav (fa_c ri_ald (fa_c ri_gR (fa_c ri_gR (fa_c ri_ild (fa_c ri_iald (fa_c ri_ib (fa_c ri_iret (fa_c ri_ald (fa_c ri_gR (fa_c ri_ild (fa_c ri_cav (fa_c ri_k (fa_c ri_ib (fa_c ri_iret (fa_c ri_ald (fa_c ri_gR (fa_c ri_ild (fa_c ri_cav (fa_c ri_ald (fa_c ri_gR (fa_c ri_gR (fa_c ri_ild (fa_c ri_iald (fa_c ri_ib (fa_c ri_iret (fa_c ri_ald (fa_c ri_gR (fa_c ri_ild (fa_c ri_cav (fa_c ri_iret (fa_c ri_ald (fa_c ri_gR (fa_c ri_ild (fa_c ri_cav (fa_c ri_iret (fa_n))))))))))))))))))))))))))))))))))))))))))))))))))))))))))))))))
set_option maxRecDepth 4000 in
theorem ri_193 : ∀ q ∈ tb_193, pm_Ri q.2 := fa_c ri_ald (fa_c ri_ild (fa_c ri_cav (fa_c ri_b1 (fa_c ri_ild (fa_c ri_k (fa_c ri_k (fa_c ri_call (fa_c ri_b1 (fa_c ri_k (fa_c ri_iret (fa_c ri_ald (fa_c ri_gR (fa_c ri_ild (fa_c ri_iald (fa_c ri_ist (fa_c ri_ild (fa_c ri_ild (fa_c ri_b2 (fa_c ri_ild (fa_c ri_k (fa_c ri_b2 (fa_c ri_ild (fa_c ri_k (fa_c ri_b2 (fa_c ri_ild (fa_c ri_k (fa_c ri_b2 (fa_c ri_ild (fa_c ri_k (fa_c ri_b2 (fa_c ri_ald (fa_c ri_k (fa_c ri_cav (fa_c ri_iret (fa_c ri_ild (fa_c ri_sw (fa_c ri_ald (fa_c ri_k (fa_c ri_ild (fa_c ri_cav (fa_c ri_ald (fa_c ri_gR (fa_c ri_ild (fa_c ri_iald (fa_c ri_ib (fa_c ri_iret (fa_c ri_ald (fa_c ri_gR (fa_c ri_ild (fa_c ri_iald (fa_c ri_k (fa_c ri_ib (fa_c ri_iret (fa_c ri_ald (fa_c ri_k (fa_c ri_ild (fa_c ri_cav (fa_c ri_k (fa_c ri_ib (fa_c ri_iret (fa_c ri_ald (fa_c ri_ild (fa_c ri_cav (fa_c ri_iret (fa_c ri_ald (fa_c ri_ild (fa_c ri_cav (fa_c ri_iret (fa_n)))))))))))))))))))))))))))))))))))))))))))))))))))))))))))))))))))))
set_option maxRecDepth 4000 in
theorem ri_102 : ∀ q ∈ tb_102, pm_Ri q.2 := fa_c ri_ild (fa_c ri_k (fa_c ri_b2 (fa_c ri_ild (fa_c ri_k (fa_c ri_b2 (fa_c ri_k (fa_c ri_iret (fa_c ri_ald (fa_c ri_gR (fa_c ri_gI (fa_c ri_b1 (fa_c ri_ald (fa_c ri_gR (fa_c ri_gI (fa_c ri_ild (fa_c ri_b2 (fa_c ri_k (fa_c ri_iret (fa_c ri_ald (fa_c ri_gR (fa_c ri_gI (fa_c ri_ist (fa_c ri_ald (fa_c ri_gR (fa_c ri_ild (fa_c ri_pI (fa_c ri_ild (fa_c ri_iret (fa_n)))))))))))))))))))))))))))))
set_option maxRecDepth 4000 in
theorem ri_194 : ∀ q ∈ tb_194, pm_Ri q.2 := fa_c ri_ild (fa_c ri_k (fa_c ri_k (fa_c ri_call (fa_c ri_b1 (fa_c ri_k (fa_c ri_iret (fa_c ri_ald (fa_c ri_gI (fa_c ri_b1 (fa_c ri_ald (fa_c ri_gI (fa_c ri_ild (fa_c ri_b2 (fa_c ri_k (fa_c ri_iret (fa_c ri_ald (fa_c ri_gI (fa_c ri_ist (fa_c ri_ald (fa_c ri_ild (fa_c ri_pI (fa_c ri_ild (fa_c ri_iret (fa_n))))))))))))))))))))))))
set_option maxRecDepth 4000 in
theorem ri_103 : ∀ q ∈ tb_103, pm_Ri q.2 := fa_c ri_ald (fa_c ri_gR (fa_c ri_ild (fa_c ri_cav (fa_c ri_b1 (fa_c ri_ild (fa_c ri_b1 (fa_c ri_ild (fa_c ri_k (fa_c ri_b2 (fa_c ri_k (fa_c ri_iret (fa_c ri_ald (fa_c ri_gR (fa_c ri_gR (fa_c ri_ild (fa_c ri_iald (fa_c ri_ist (fa_c ri_ald (fa_c ri_gR (fa_c ri_gR (fa_c ri_ild (fa_c ri_ild (fa_c ri_iast (fa_c ri_ild (fa_c ri_iret (fa_n))))))))))))))))))))))))))
set_option maxRecDepth 4000 in
theorem ri_195 : ∀ q ∈ tb_195, pm_Ri q.2 := fa_c ri_ald (fa_c ri_ild (fa_c ri_cav (fa_c ri_b1 (fa_c ri_ild (fa_c ri_k (fa_c ri_k (fa_c ri_call (fa_c ri_b1 (fa_c ri_k (fa_c ri_iret (fa_c ri_ald (fa_c ri_gR (fa_c ri_ild (fa_c ri_iald (fa_c ri_ist (fa_c ri_ald (fa_c ri_gR (fa_c ri_ild (fa_c ri_ild (fa_c ri_iast (fa_c ri_ild (fa_c ri_iret (fa_n)))))))))))))))))))))))
set_option maxRecDepth 4000 in
theorem ri_104 : ∀ q ∈ tb_104, pm_Ri q.2 := fa_c ri_ald (fa_c ri_gR (fa_c ri_ild (fa_c ri_cav (fa_c ri_b1 (fa_c ri_k (fa_c ri_iret (fa_c ri_ald (fa_c ri_gR (fa_c ri_ald (fa_c ri_gR (fa_c ri_cav (fa_c ri_ald (fa_c ri_gR (fa_c ri_ild (fa_c ri_cav (fa_c ri_ald (fa_c ri_gR (fa_c ri_ald (fa_c ri_gR (fa_c ri_cav (fa_c ri_b1 (fa_c ri_k (fa_c ri_iret (fa_c ri_ald (fa_c ri_gR (fa_c ri_gI (fa_c ri_k (fa_c ri_b2 (fa_c ri_k (fa_c ri_iret (fa_c ri_ald (fa_c ri_gR (fa_c ri_ild (fa_c ri_cav (fa_c ri_ald (fa_c ri_gR (fa_c ri_ald (fa_c ri_gR (fa_c ri_cav (fa_c ri_iret (fa_n)))))))))))))))))))))))))))))))))))))))))
set_option maxRecDepth 4000 in
theorem ri_202 : ∀ q ∈ tb_202, pm_Ri q.2 := fa_c ri_ald (fa_c ri_ild (fa_c ri_cav (fa_c ri_b1 (fa_c ri_k (fa_c ri_iret (fa_c ri_ald (fa_c ri_cav (fa_c ri_ald (fa_c ri_gR (fa_c ri_ald (fa_c ri_gI (fa_c ri_ild (fa_c ri_iast (fa_c ri_ald (fa_c ri_dup (fa_c ri_gI (fa_c ri_k (fa_c ri_ib (fa_c ri_pI (fa_c ri_ald (fa_c ri_cav (fa_c ri_b1 (fa_c ri_k (fa_c ri_iret (fa_c ri_ald (fa_c ri_gI (fa_c ri_k (fa_c ri_b2 (fa_c ri_k (fa_c ri_iret (fa_c ri_ald (fa_c ri_gR (fa_c ri_ald (fa_c ri_gI (fa_c ri_ild (fa_c ri_iast (fa_c ri_ald (fa_c ri_dup (fa_c ri_gI (fa_c ri_k (fa_c ri_ib (fa_c ri_pI (fa_c ri_ald (fa_c ri_gI (fa_c ri_ald (fa_c ri_cav (fa_c ri_ib (fa_c ri_iret (fa_n)))))))))))))))))))))))))))))))))))))))))))))))))
set_option maxRecDepth 4000 in
theorem ri_105 : ∀ q ∈ tb_105, pm_Ri q.2 := fa_c ri_ild (fa_c ri_b1 (fa_c ri_ild (fa_c ri_ald (fa_c ri_gR (fa_c ri_gI (fa_c ri_b2 (fa_c ri_k (fa_c ri_iret (fa_c ri_ald (fa_c ri_gR (fa_c ri_gI (fa_c ri_ild (fa_c ri_ib (fa_c ri_ist (fa_c ri_ild (fa_c ri_ald (fa_c ri_gR (fa_c ri_gI (fa_c ri_b2 (fa_c ri_ald (fa_c ri_gR (fa_c ri_ald (fa_c ri_gR (fa_c ri_gR (fa_c ri_ild (fa_c ri_iald (fa_c ri_cav (fa_c ri_b1 (fa_c ri_k (fa_c ri_iret (fa_c ri_inc (fa_c ri_go (fa_c ri_ald (fa_c ri_gR (fa_c ri_dup (fa_c ri_gI (fa_c ri_ild (fa_c ri_ib (fa_c ri_pI (fa_c ri_ald (fa_c ri_gR (fa_c ri_gI (fa_c ri_iret (fa_n))))))))))))))))))))))))))))))))))))))))))))
set_option maxRecDepth 4000 in
theorem ri_204 : ∀ q ∈ tb_204, pm_Ri q.2 := fa_c ri_ild (fa_c ri_k (fa_c ri_ald (fa_c ri_gI (fa_c ri_call (fa_c ri_b1 (fa_c ri_k (fa_c ri_iret (fa_c ri_ild (fa_c ri_ald (fa_c ri_cav (fa_c ri_b2 (fa_c ri_k (fa_c ri_iret (fa_c ri_ald (fa_c ri_dup (fa_c ri_gI (fa_c ri_ild (fa_c ri_ib (fa_c ri_pI (fa_c ri_ald (fa_c ri_gI (fa_c ri_iret (fa_n)))))))))))))))))))))))
set_option maxRecDepth 4000 in
theorem ri_106 : ∀ q ∈ tb_106, pm_Ri q.2 := fa_c ri_ild (fa_c ri_b1 (fa_c ri_k (fa_c ri_iret (fa_c ri_ild (fa_c ri_ald (fa_c ri_gR (fa_c ri_gI (fa_c ri_b2 (fa_c ri_ald (fa_c ri_k (fa_c ri_cav (fa_c ri_iret (fa_c ri_ald (fa_c ri_gR (fa_c ri_gR (fa_c ri_ild (fa_c ri_iald (fa_c ri_iret (fa_n)))))))))))))))))))
set_option maxRecDepth 4000 in
theorem ri_205 : ∀ q ∈ tb_205, pm_Ri q.2 := fa_c ri_ild (fa_c ri_b1 (fa_c ri_k (fa_c ri_iret (fa_c ri_ild (fa_c ri_ald (fa_c ri_gI (fa_c ri_b2 (fa_c ri_ald (fa_c ri_gR (fa_c ri_ild (fa_c ri_iald (fa_c ri_go (fa_c ri_ald (fa_c ri_k (fa_c ri_cav (fa_c ri_iret (fa_n)))))))))))))))))
set_option maxRecDepth 4000 in
theorem ri_107 : ∀ q ∈ tb_107, pm_Ri q.2 := fa_c ri_ald (fa_c ri_ald (fa_c ri_gR (fa_c ri_ald (fa_c ri_gR (fa_c ri_cav (fa_c ri_pI (fa_c ri_ald (fa_c ri_gR (fa_c ri_gI (fa_c ri_iret (fa_n)))))))))))
set_option maxRecDepth 4000 in
theorem ri_206 : ∀ q ∈ tb_206, pm_Ri q.2 := fa_c ri_ald (fa_c ri_cav (fa_c ri_ald (fa_c ri_ald (fa_c ri_gI (fa_c ri_ald (fa_c ri_cav (fa_c ri_ib (fa_c ri_ald (fa_c ri_gI (fa_c ri_cav (fa_c ri_iret (fa_n))))))))))))
set_option maxRecDepth 4000 in
theorem ri_108 : ∀ q ∈ tb_108, pm_Ri q.2 := fa_c ri_ild (fa_c ri_call (fa_c ri_b1 (fa_c ri_k (fa_c ri_iret (fa_c ri_ald (fa_c ri_gR (fa_c ri_ald (fa_c ri_gR (fa_c ri_ald (fa_c ri_gR (fa_c ri_cav (fa_c ri_ald (fa_c ri_gR (fa_c ri_ild (fa_c ri_aald (fa_c ri_ald (fa_c ri_gR (fa_c ri_cav (fa_c ri_ald (fa_c ri_gR (fa_c ri_gI (fa_c ri_iret (fa_n)))))))))))))))))))))))
set_option maxRecDepth 4000 in
theorem ri_207 : ∀ q ∈ tb_207, pm_Ri q.2 := fa_c ri_ild (fa_c ri_call (fa_c ri_b1 (fa_c ri_k (fa_c ri_iret (fa_c ri_ald (fa_c ri_cav (fa_c ri_ald (fa_c ri_cav (fa_c ri_ald (fa_c ri_ild (fa_c ri_ald (fa_c ri_gR (fa_c ri_ald (fa_c ri_gI (fa_c ri_cav (fa_c ri_ald (fa_c ri_gI (fa_c ri_iret (fa_n)))))))))))))))))))
set_option maxRecDepth 4000 in
theorem ri_109 : ∀ q ∈ tb_109, pm_Ri q.2 := fa_c ri_ild (fa_c ri_call (fa_c ri_b1 (fa_c ri_k (fa_c ri_iret (fa_c ri_ald (fa_c ri_gR (fa_c ri_ild (fa_c ri_aald (fa_c ri_ald (fa_c ri_gR (fa_c ri_cav (fa_c ri_ald (fa_c ri_gR (fa_c ri_gI (fa_c ri_iret (fa_n))))))))))))))))
set_option maxRecDepth 4000 in
theorem ri_208 : ∀ q ∈ tb_208, pm_Ri q.2 := fa_c ri_ild (fa_c ri_call (fa_c ri_b1 (fa_c ri_k (fa_c ri_iret (fa_c ri_ald (fa_c ri_ild (fa_c ri_ald (fa_c ri_gR (fa_c ri_ald (fa_c ri_gI (fa_c ri_cav (fa_c ri_ald (fa_c ri_gI (fa_c ri_iret (fa_n)))))))))))))))
set_option maxRecDepth 4000 in
theorem ri_110 : ∀ q ∈ tb_110, pm_Ri q.2 := fa_c ri_ild (fa_c ri_b1 (fa_c ri_ild (fa_c ri_k (fa_c ri_b2 (fa_c ri_k (fa_c ri_iret (fa_c ri_ald (fa_c ri_gR (fa_c ri_gI (fa_c ri_b1 (fa_c ri_k (fa_c ri_iret (fa_c ri_ald (fa_c ri_gR (fa_c ri_ild (fa_c ri_aald (fa_c ri_ald (fa_c ri_gR (fa_c ri_cav (fa_c ri_ald (fa_c ri_gR (fa_c ri_ild (fa_c ri_ald (fa_c ri_gR (fa_c ri_gI (fa_c ri_iast (fa_c ri_ald (fa_c ri_gR (fa_c ri_gI (fa_c ri_iret (fa_n)))))))))))))))))))))))))))))))
set_option maxRecDepth 4000 in
theorem ri_210 : ∀ q ∈ tb_210, pm_Ri q.2 := fa_c ri_ild (fa_c ri_k (fa_c ri_k (fa_c ri_call (fa_c ri_b1 (fa_c ri_k (fa_c ri_iret (fa_c ri_ald (fa_c ri_gI (fa_c ri_b1 (fa_c ri_k (fa_c ri_iret (fa_c ri_ald (fa_c ri_gR (fa_c ri_ild (fa_c ri_ald (fa_c ri_gI (fa_c ri_iast (fa_c ri_ald (fa_c ri_gR (fa_c ri_ild (fa_c ri_ald (fa_c ri_gI (fa_c ri_iast (fa_c ri_ald (fa_c ri_gR (fa_c ri_ild (fa_c ri_k (fa_c ri_zast (fa_c ri_k (fa_c ri_ist (fa_c ri_ild (fa_c ri_ald (fa_c ri_gI (fa_c ri_b2 (fa_c ri_ald (fa_c ri_gR (fa_c ri_k (fa_c ri_ild (fa_c ri_ib (fa_c ri_ild (fa_c ri_ib (fa_c ri_ald (fa_c ri_gR (fa_c ri_ild (fa_c ri_iald (fa_c ri_iast (fa_c ri_inc (fa_c ri_go (fa_c ri_ald (fa_c ri_gI (fa_c ri_iret (fa_n))))))))))))))))))))))))))))))))))))))))))))))))))))
set_option maxRecDepth 4000 in
theorem ri_111 : ∀ q ∈ tb_111, pm_Ri q.2 := fa_c ri_ild (fa_c ri_b1 (fa_c ri_ild (fa_c ri_k (fa_c ri_b2 (fa_c ri_k (fa_c ri_iret (fa_c ri_ald (fa_c ri_gR (fa_c ri_ild (fa_c ri_aald (fa_c ri_gI (fa_c ri_b1 (fa_c ri_ald (fa_c ri_k (fa_c ri_cav (fa_c ri_iret (fa_c ri_ald (fa_c ri_gR (fa_c ri_ald (fa_c ri_gR (fa_c ri_ild (fa_c ri_aald (fa_c ri_cav (fa_c ri_ald (fa_c ri_gR (fa_c ri_ald (fa_c ri_gR (fa_c ri_ild (fa_c ri_iald (fa_c ri_pI (fa_c ri_ald (fa_c ri_gR (fa_c ri_gI (fa_c ri_iret (fa_n)))))))))))))))))))))))))))))))))))
set_option maxRecDepth 4000 in
theorem ri_211 : ∀ q ∈ tb_211, pm_Ri q.2 := fa_c ri_ild (fa_c ri_k (fa_c ri_k (fa_c ri_call (fa_c ri_b1 (fa_c ri_k (fa_c ri_iret (fa_c ri_ald (fa_c ri_ild (fa_c ri_cav (fa_c ri_b1 (fa_c ri_ald (fa_c ri_k (fa_c ri_cav (fa_c ri_iret (fa_c ri_ald (fa_c ri_ald (fa_c ri_gR (fa_c ri_ild (fa_c ri_iald (fa_c ri_pI (fa_c ri_ald (fa_c ri_ald (fa_c ri_gR (fa_c ri_ild (fa_c ri_iald (fa_c ri_pI (fa_c ri_k (fa_c ri_ist (fa_c ri_ild (fa_c ri_ald (fa_c ri_gI (fa_c ri_b2 (fa_c ri_ald (fa_c ri_gR (fa_c ri_ild (fa_c ri_ald (fa_c ri_gR (fa_c ri_k (fa_c ri_ild (fa_c ri_ib (fa_c ri_ild (fa_c ri_ib (fa_c ri_iald (fa_c ri_iast (fa_c ri_inc (fa_c ri_go (fa_c ri_ald (fa_c ri_gI (fa_c ri_iret (fa_n))))))))))))))))))))))))))))))))))))))))))))))))))
set_option maxRecDepth 4000 in
theorem ri_112 : ∀ q ∈ tb_112, pm_Ri q.2 := fa_c ri_ald (fa_c ri_ild (fa_c ri_ild (fa_c ri_ild (fa_c ri_k (fa_c ri_cav (fa_c ri_ist (fa_c ri_ild (fa_c ri_b1 (fa_c ri_ild (fa_c ri_iret (fa_c ri_ald (fa_c ri_gR (fa_c ri_ild (fa_c ri_aald (fa_c ri_ast (fa_c ri_k (fa_c ri_ist (fa_c ri_k (fa_c ri_ist (fa_c ri_k (fa_c ri_ist (fa_c ri_ild (fa_c ri_ald (fa_c ri_gI (fa_c ri_b2 (fa_c ri_ald (fa_c ri_gR (fa_c ri_ild (fa_c ri_iald (fa_c ri_ist (fa_c ri_ild (fa_c ri_ald (fa_c ri_gR (fa_c ri_ild (fa_c ri_ild (fa_c ri_cav (fa_c ri_ib (fa_c ri_ist (fa_c ri_ald (fa_c ri_gR (fa_c ri_ild (fa_c ri_ild (fa_c ri_cav (fa_c ri_ist (fa_c ri_ild (fa_c ri_b1 (fa_c ri_ild (fa_c ri_ald (fa_c ri_gR (fa_c ri_gR (fa_c ri_ild (fa_c ri_iald (fa_c ri_ib (fa_c ri_ald (fa_c ri_gR (fa_c ri_cav (fa_c ri_b2 (fa_c ri_ald (fa_c ri_ild (fa_c ri_b1 (fa_c ri_k (fa_c ri_go (fa_c ri_k (fa_c ri_pI (fa_c ri_ild (fa_c ri_iret (fa_c ri_ild (fa_c ri_ist (fa_c ri_inc (fa_c ri_go (fa_c ri_ald (fa_c ri_k (fa_c ri_pI (fa_c ri_ald (fa_c ri_gI (fa_c ri_iret (fa_n)))))))))))))))))))))))))))))))))))))))))))))))))))))))))))))))))))))))))))))
set_option maxRecDepth 4000 in
theorem ri_215 : ∀ q ∈ tb_215, pm_Ri q.2 := fa_c ri_ild (fa_c ri_call (fa_c ri_b1 (fa_c ri_k (fa_c ri_iret (fa_c ri_ald (fa_c ri_ild (fa_c ri_k (fa_c ri_cav (fa_c ri_ist (fa_c ri_ild (fa_c ri_b1 (fa_c ri_ild (fa_c ri_iret (fa_c ri_ald (fa_c ri_gI (fa_c ri_ist (fa_c ri_k (fa_c ri_ist (fa_c ri_ild (fa_c ri_ild (fa_c ri_b2 (fa_c ri_ald (fa_c ri_ild (fa_c ri_k (fa_c ri_ib (fa_c ri_pI (fa_c ri_ild (fa_c ri_b1 (fa_c ri_ald (fa_c ri_gR (fa_c ri_ald (fa_c ri_gR (fa_c ri_ild (fa_c ri_k (fa_c ri_ib (fa_c ri_iald (fa_c ri_iald (fa_c ri_ald (fa_c ri_gR (fa_c ri_ild (fa_c ri_iald (fa_c ri_call (fa_c ri_b1 (fa_c ri_k (fa_c ri_go (fa_c ri_ald (fa_c ri_cav (fa_c ri_ald (fa_c ri_cav (fa_c ri_b2 (fa_c ri_k (fa_c ri_go (fa_c ri_k (fa_c ri_ist (fa_c ri_ild (fa_c ri_b1 (fa_c ri_ald (fa_c ri_ild (fa_c ri_ild (fa_c ri_cav (fa_c ri_iret (fa_c ri_inc (fa_c ri_go (fa_c ri_ald (fa_c ri_k (fa_c ri_ild (fa_c ri_cav (fa_c ri_iret (fa_n)))))))))))))))))))))))))))))))))))))))))))))))))))))))))))))))))))))
set_option maxRecDepth 4000 in
theorem ri_113 : ∀ q ∈ tb_113, pm_Ri q.2 := fa_c ri_ald (fa_c ri_ild (fa_c ri_ild (fa_c ri_ild (fa_c ri_k (fa_c ri_cav (fa_c ri_ist (fa_c ri_ild (fa_c ri_b1 (fa_c ri_ild (fa_c ri_go (fa_c ri_ald (fa_c ri_gR (fa_c ri_ald (fa_c ri_gR (fa_c ri_ild (fa_c ri_aald (fa_c ri_cav (fa_c ri_iret (fa_n)))))))))))))))))))
set_option maxRecDepth 4000 in
theorem ri_216 : ∀ q ∈ tb_216, pm_Ri q.2 := fa_c ri_ild (fa_c ri_call (fa_c ri_b1 (fa_c ri_k (fa_c ri_iret (fa_c ri_ald (fa_c ri_ild (fa_c ri_k (fa_c ri_cav (fa_c ri_ist (fa_c ri_ild (fa_c ri_b1 (fa_c ri_ild (fa_c ri_go (fa_c ri_ald (fa_c ri_cav (fa_c ri_iret (fa_n)))))))))))))))))
set_option maxRecDepth 4000 in
theorem ri_114 : ∀ q ∈ tb_114, pm_Ri q.2 := fa_c ri_ald (fa_c ri_ild (fa_c ri_ild (fa_c ri_ild (fa_c ri_k (fa_c ri_cav (fa_c ri_ist (fa_c ri_ild (fa_c ri_b1 (fa_c ri_ild (fa_c ri_iret (fa_c ri_ald (fa_c ri_gR (fa_c ri_ald (fa_c ri_gR (fa_c ri_ild (fa_c ri_aald (fa_c ri_ald (fa_c ri_gR (fa_c ri_cav (fa_c ri_ald (fa_c ri_gR (fa_c ri_ild (fa_c ri_aald (fa_c ri_ald (fa_c ri_gR (fa_c ri_cav (fa_c ri_ald (fa_c ri_gR (fa_c ri_gI (fa_c ri_iret (fa_n)))))))))))))))))))))))))))))))
set_option maxRecDepth 4000 in
theorem ri_217 : ∀ q ∈ tb_217, pm_Ri q.2 := fa_c ri_ild (fa_c ri_call (fa_c ri_b1 (fa_c ri_ild (fa_c ri_call (fa_c ri_b1 (fa_c ri_k (fa_c ri_iret (fa_c ri_ald (fa_c ri_ild (fa_c ri_k (fa_c ri_cav (fa_c ri_ist (fa_c ri_ild (fa_c ri_b1 (fa_c ri_ild (fa_c ri_iret (fa_c ri_ald (fa_c ri_cav (fa_c ri_ald (fa_c ri_ild (fa_c ri_ald (fa_c ri_gR (fa_c ri_ald (fa_c ri_gI (fa_c ri_cav (fa_c ri_ald (fa_c ri_gI (fa_c ri_iret (fa_n)))))))))))))))))))))))))))))
set_option maxRecDepth 4000 in
theorem ri_115 : ∀ q ∈ tb_115, pm_Ri q.2 := fa_c ri_ild (fa_c ri_b1 (fa_c ri_ild (fa_c ri_k (fa_c ri_b2 (fa_c ri_k (fa_c ri_iret (fa_c ri_ald (fa_c ri_ald (fa_c ri_gR (fa_c ri_ild (fa_c ri_cav (fa_c ri_pL (fa_c ri_k (fa_c ri_iret (fa_n)))))))))))))))
set_option maxRecDepth 4000 in
theorem ri_221 : ∀ q ∈ tb_221, pm_Ri q.2 := fa_c ri_ild (fa_c ri_k (fa_c ri_k (fa_c ri_call (fa_c ri_b1 (fa_c ri_k (fa_c ri_iret (fa_c ri_ald (fa_c ri_ild (fa_c ri_cav (fa_c ri_ald (fa_c ri_ald (fa_c ri_gR (fa_c ri_ild (fa_c ri_k (fa_c ri_k (fa_c ri_call (fa_c ri_lald (fa_c ri_pL (fa_c ri_k (fa_c ri_iret (fa_n)))))))))))))))))))))
set_option maxRecDepth 4000 in
theorem ri_116 : ∀ q ∈ tb_116, pm_Ri q.2 := fa_c ri_ild (fa_c ri_b1 (fa_c ri_ild (fa_c ri_k (fa_c ri_b2 (fa_c ri_ild (fa_c ri_b1 (fa_c ri_ild (fa_c ri_call (fa_c ri_b1 (fa_c ri_k (fa_c ri_iret (fa_c ri_ild (fa_c ri_i2l (fa_c ri_ald (fa_c ri_gR (fa_c ri_ild (fa_c ri_cav (fa_c ri_lcmp (fa_c ri_b1 (fa_c ri_ald (fa_c ri_k (fa_c ri_cav (fa_c ri_iret (fa_c ri_ald (fa_c ri_gR (fa_c ri_ild (fa_c ri_ild (fa_c ri_i2l (fa_c ri_ald (fa_c ri_gR (fa_c ri_ild (fa_c ri_aald (fa_c ri_cav (fa_c ri_ald (fa_c ri_gR (fa_c ri_ald (fa_c ri_gR (fa_c ri_ild (fa_c ri_aald (fa_c ri_cav (fa_c ri_iret (fa_n))))))))))))))))))))))))))))))))))))))))))
set_option maxRecDepth 4000 in
theorem ri_223 : ∀ q ∈ tb_223, pm_Ri q.2 := fa_c ri_ild (fa_c ri_k (fa_c ri_k (fa_c ri_call (fa_c ri_b1 (fa_c ri_ild (fa_c ri_b1 (fa_c ri_ild (fa_c ri_call (fa_c ri_b1 (fa_c ri_k (fa_c ri_iret (fa_c ri_ald (fa_c ri_ild (fa_c ri_cav (fa_c ri_ald (fa_c ri_gR (fa_c ri_ild (fa_c ri_k (fa_c ri_k (fa_c ri_call (fa_c ri_lald (fa_c ri_ild (fa_c ri_i2l (fa_c ri_lcmp (fa_c ri_b1 (fa_c ri_ald (fa_c ri_k (fa_c ri_cav (fa_c ri_iret (fa_c ri_ild (fa_c ri_i2l (fa_c ri_lst (fa_c ri_k (fa_c ri_ist (fa_c ri_k (fa_c ri_ist (fa_c ri_ald (fa_c ri_k (fa_c ri_pI (fa_c ri_ild (fa_c ri_ist (fa_c ri_ild (fa_c ri_b1 (fa_c ri_k (fa_c ri_ist (fa_c ri_lld (fa_c ri_ald (fa_c ri_ild (fa_c ri_ild (fa_c ri_ild (fa_c ri_ild (fa_c ri_cav (fa_c ri_lcmp (fa_c ri_b1 (fa_c ri_lld (fa_c ri_ald (fa_c ri_ild (fa_c ri_ild (fa_c ri_ild (fa_c ri_ild (fa_c ri_cav (fa_c ri_lb (fa_c ri_lst (fa_c ri_inc (fa_c ri_go (fa_c ri_ild (fa_c ri_ald (fa_c ri_ild (fa_c ri_ild (fa_c ri_cav (fa_c ri_ib (fa_c ri_ist (fa_c ri_ild (fa_c ri_ist (fa_c ri_ald (fa_c ri_gR (fa_c ri_ald (fa_c ri_gI (fa_c ri_ild (fa_c ri_iast (fa_c ri_ald (fa_c ri_dup (fa_c ri_gI (fa_c ri_k (fa_c ri_ib (fa_c ri_pI (fa_c ri_inc (fa_c ri_go (fa_c ri_ald (fa_c ri_ild (fa_c ri_ald (fa_c ri_gR (fa_c ri_ald (fa_c ri_gI (fa_c ri_cav (fa_c ri_ald (fa_c ri_cav (fa_c ri_iret (fa_n)))))))))))))))))))))))))))))))))))))))))))))))))))))))))))))))))))))))))))))))))))))))))))))))))))
set_option maxRecDepth 4000 in
theorem ri_117 : ∀ q ∈ tb_117, pm_Ri q.2 := fa_c ri_ald (fa_c ri_ild (fa_c ri_ild (fa_c ri_ild (fa_c ri_cav (fa_c ri_ist (fa_c ri_ild (fa_c ri_b1 (fa_c ri_ild (fa_c ri_iret (fa_c ri_ald (fa_c ri_gR (fa_c ri_ald (fa_c ri_gR (fa_c ri_ild (fa_c ri_aald (fa_c ri_ald (fa_c ri_gR (fa_c ri_gR (fa_c ri_cav (fa_c ri_ald (fa_c ri_gR (fa_c ri_cav (fa_c ri_ist (fa_c ri_ild (fa_c ri_ald (fa_c ri_gR (fa_c ri_cav (fa_c ri_b2 (fa_c ri_k (fa_c ri_iret (fa_c ri_ald (fa_c ri_gR (fa_c ri_ild (fa_c ri_aald (fa_c ri_cav (fa_c ri_ald (fa_c ri_gR (fa_c ri_k (fa_c ri_ald (fa_c ri_gR (fa_c ri_ild (fa_c ri_aald (fa_c ri_cav (fa_c ri_ild (fa_c ri_iret (fa_n))))))))))))))))))))))))))))))))))))))))))))))
set_option maxRecDepth 4000 in
theorem ri_236 : ∀ q ∈ tb_236, pm_Ri q.2 := fa_c ri_ild (fa_c ri_call (fa_c ri_b1 (fa_c ri_ild (fa_c ri_call (fa_c ri_b1 (fa_c ri_k (fa_c ri_iret (fa_c ri_ald (fa_c ri_ild (fa_c ri_cav (fa_c ri_ist (fa_c ri_ild (fa_c ri_b1 (fa_c ri_ild (fa_c ri_iret (fa_c ri_ald (fa_c ri_cav (fa_c ri_ist (fa_c ri_ild (fa_c ri_k (fa_c ri_b2 (fa_c ri_k (fa_c ri_iret (fa_c ri_ald (fa_c ri_k (fa_c ri_pI (fa_c ri_ald (fa_c ri_k (fa_c ri_cav (fa_c ri_ald (fa_c ri_ild (fa_c ri_ald (fa_c ri_gR (fa_c ri_ald (fa_c ri_gI (fa_c ri_cav (fa_c ri_ild (fa_c ri_iret (fa_n)))))))))))))))))))))))))))))))))))))))
set_option maxRecDepth 4000 in
theorem ri_118 : ∀ q ∈ tb_118, pm_Ri q.2 := fa_c ri_ald (fa_c ri_ild (fa_c ri_ild (fa_c ri_ild (fa_c ri_cav (fa_c ri_ist (fa_c ri_ild (fa_c ri_b1 (fa_c ri_ild (fa_c ri_iret (fa_c ri_ald (fa_c ri_gR (fa_c ri_ald (fa_c ri_gR (fa_c ri_ild (fa_c ri_aald (fa_c ri_ald (fa_c ri_gR (fa_c ri_gR (fa_c ri_cav (fa_c ri_ald (fa_c ri_ald (fa_c ri_gR (fa_c ri_ald (fa_c ri_gR (fa_c ri_cav (fa_c ri_cav (fa_c ri_pL (fa_c ri_k (fa_c ri_iret (fa_n))))))))))))))))))))))))))))))
set_option maxRecDepth 4000 in
theorem ri_237 : ∀ q ∈ tb_237, pm_Ri q.2 := fa_c ri_ild (fa_c ri_call (fa_c ri_b1 (fa_c ri_k (fa_c ri_iret (fa_c ri_ald (fa_c ri_ild (fa_c ri_cav (fa_c ri_ist (fa_c ri_ild (fa_c ri_b1 (fa_c ri_ild (fa_c ri_iret (fa_c ri_k (fa_c ri_ist (fa_c ri_ild (fa_c ri_k (fa_c ri_b2 (fa_c ri_ald (fa_c ri_gR (fa_c ri_ild (fa_c ri_ild (fa_c ri_b1 (fa_c ri_k (fa_c ri_go (fa_c ri_k (fa_c ri_last (fa_c ri_inc (fa_c ri_go (fa_c ri_ald (fa_c ri_k (fa_c ri_pL (fa_c ri_k (fa_c ri_ist (fa_c ri_ild (fa_c ri_k (fa_c ri_b2 (fa_c ri_ald (fa_c ri_cav (fa_c ri_k (fa_c ri_ist (fa_c ri_ild (fa_c ri_k (fa_c ri_b2 (fa_c ri_ald (fa_c ri_gR (fa_c ri_ild (fa_c ri_ald (fa_c ri_gR (fa_c ri_ild (fa_c ri_lald (fa_c ri_last (fa_c ri_inc (fa_c ri_go (fa_c ri_inc (fa_c ri_go (fa_c ri_k (fa_c ri_iret (fa_n))))))))))))))))))))))))))))))))))))))))))))))))))))))))))
set_option maxRecDepth 4000 in
theorem ri_119 : ∀ q ∈ tb_119, pm_Ri q.2 := fa_c ri_ald (fa_c ri_ild (fa_c ri_ild (fa_c ri_ild (fa_c ri_cav (fa_c ri_ist (fa_c ri_ild (fa_c ri_b1 (fa_c ri_ild (fa_c ri_iret (fa_c ri_ald (fa_c ri_gR (fa_c ri_ald (fa_c ri_gR (fa_c ri_ild (fa_c ri_aald (fa_c ri_cav (fa_c ri_ist (fa_c ri_ild (fa_c ri_ald (fa_c ri_gR (fa_c ri_cav (fa_c ri_b2 (fa_c ri_k (fa_c ri_iret (fa_c ri_ald (fa_c ri_gR (fa_c ri_ild (fa_c ri_aald (fa_c ri_ald (fa_c ri_gR (fa_c ri_gR (fa_c ri_cav (fa_c ri_ild (fa_c ri_iret (fa_n)))))))))))))))))))))))))))))))))))
set_option maxRecDepth 4000 in
theorem ri_241 : ∀ q ∈ tb_241, pm_Ri q.2 := fa_c ri_ild (fa_c ri_call (fa_c ri_b1 (fa_c ri_ild (fa_c ri_call (fa_c ri_b1 (fa_c ri_k (fa_c ri_iret (fa_c ri_ald (fa_c ri_ild (fa_c ri_cav (fa_c ri_ist (fa_c ri_ild (fa_c ri_b1 (fa_c ri_ild (fa_c ri_iret (fa_c ri_k (fa_c ri_ist (fa_c ri_ild (fa_c ri_ald (fa_c ri_gI (fa_c ri_b2 (fa_c ri_ald (fa_c ri_gR (fa_c ri_ild (fa_c ri_ald (fa_c ri_gR (fa_c ri_ild (fa_c ri_iald (fa_c ri_iast (fa_c ri_inc (fa_c ri_go (fa_c ri_ald (fa_c ri_k (fa_c ri_pI (fa_c ri_ald (fa_c ri_k (fa_c ri_k (fa_c ri_cav (fa_c ri_k (fa_c ri_ist (fa_c ri_ild (fa_c ri_ald (fa_c ri_gI (fa_c ri_b2 (fa_c ri_ald (fa_c ri_gR (fa_c ri_ild (fa_c ri_ald (fa_c ri_gR (fa_c ri_ild (fa_c ri_iald (fa_c ri_iast (fa_c ri_inc (fa_c ri_go (fa_c ri_ald (fa_c ri_gI (fa_c ri_b1 (fa_c ri_k (fa_c ri_iret (fa_c ri_ald (fa_c ri_ild (fa_c ri_ald (fa_c ri_gR (fa_c ri_ald (fa_c ri_gI (fa_c ri_cav (fa_c ri_ald (fa_c ri_gI (fa_c ri_iret (fa_n))))))))))))))))))))))))))))))))))))))))))))))))))))))))))))))))))))))
set_option maxRecDepth 4000 in
theorem ri_120 : ∀ q ∈ tb_120, pm_Ri q.2 := fa_c ri_ald (fa_c ri_ild (fa_c ri_ild (fa_c ri_ild (fa_c ri_cav (fa_c ri_ist (fa_c ri_ild (fa_c ri_b1 (fa_c ri_ild (fa_c ri_iret (fa_c ri_ald (fa_c ri_gR (fa_c ri_ald (fa_c ri_gR (fa_c ri_ild (fa_c ri_aald (fa_c ri_ald (fa_c ri_gR (fa_c ri_gR (fa_c ri_cav (fa_c ri_k (fa_c ri_ist (fa_c ri_ild (fa_c ri_ald (fa_c ri_gR (fa_c ri_gI (fa_c ri_b2 (fa_c ri_ald (fa_c ri_gR (fa_c ri_ald (fa_c ri_gR (fa_c ri_cav (fa_c ri_ald (fa_c ri_gR (fa_c ri_dup (fa_c ri_gI (fa_c ri_ild (fa_c ri_ib (fa_c ri_pI (fa_c ri_ild (fa_c ri_b1 (fa_c ri_ald (fa_c ri_gR (fa_c ri_ald (fa_c ri_gR (fa_c ri_gR (fa_c ri_ald (fa_c ri_gR (fa_c ri_gI (fa_c ri_iald (fa_c ri_cav (fa_c ri_b1 (fa_c ri_k (fa_c ri_iret (fa_c ri_ald (fa_c ri_gR (fa_c ri_ald (fa_c ri_gR (fa_c ri_cav (fa_c ri_b1 (fa_c ri_ald (fa_c ri_gR (fa_c ri_ild (fa_c ri_aald (fa_c ri_ald (fa_c ri_gR (fa_c ri_cav (fa_c ri_ild (fa_c ri_iret (fa_c ri_inc (fa_c ri_go (fa_c ri_k (fa_c ri_iret (fa_n)))))))))))))))))))))))))))))))))))))))))))))))))))))))))))))))))))))))))
set_option maxRecDepth 4000 in
theorem ri_242 : ∀ q ∈ tb_242, pm_Ri q.2 := fa_c ri_ild (fa_c ri_call (fa_c ri_b1 (fa_c ri_ild (fa_c ri_call (fa_c ri_b1 (fa_c ri_k (fa_c ri_iret (fa_c ri_ald (fa_c ri_ild (fa_c ri_cav (fa_c ri_ist (fa_c ri_ild (fa_c ri_b1 (fa_c ri_ild (fa_c ri_iret (fa_c ri_ald (fa_c ri_cav (fa_c ri_k (fa_c ri_ist (fa_c ri_ild (fa_c ri_ald (fa_c ri_cav (fa_c ri_b2 (fa_c ri_k (fa_c ri_ist (fa_c ri_k (fa_c ri_ist (fa_c ri_k (fa_c ri_ist (fa_c ri_ild (fa_c ri_ald (fa_c ri_gI (fa_c ri_ild (fa_c ri_ib (fa_c ri_b2 (fa_c ri_ild (fa_c ri_k (fa_c ri_b2 (fa_c ri_ild (fa_c ri_ald (fa_c ri_ild (fa_c ri_call (fa_c ri_ald (fa_c ri_gR (fa_c ri_ild (fa_c ri_iald (fa_c ri_cav (fa_c ri_ib (fa_c ri_ist (fa_c ri_ald (fa_c ri_ild (fa_c ri_ald (fa_c ri_gR (fa_c ri_ild (fa_c ri_iald (fa_c ri_cav (fa_c ri_ist (fa_c ri_inc (fa_c ri_go (fa_c ri_ild (fa_c ri_k (fa_c ri_b2 (fa_c ri_ild (fa_c ri_ald (fa_c ri_gR (fa_c ri_k (fa_c ri_ald (fa_c ri_gI (fa_c ri_ild (fa_c ri_ib (fa_c ri_ib (fa_c ri_ild (fa_c ri_ib (fa_c ri_iald (fa_c ri_ib (fa_c ri_ald (fa_c ri_cav (fa_c ri_b2 (fa_c ri_ald (fa_c ri_cav (fa_c ri_ald (fa_c ri_dup (fa_c ri_gI (fa_c ri_ild (fa_c ri_ib (fa_c ri_pI (fa_c ri_ald (fa_c ri_ild (fa_c ri_cav (fa_c ri_ald (fa_c ri_ild (fa_c ri_ald (fa_c ri_gR (fa_c ri_ald (fa_c ri_gI (fa_c ri_cav (fa_c ri_ild (fa_c ri_iret (fa_c ri_inc (fa_c ri_go (fa_c ri_k (fa_c ri_iret (fa_n)))))))))))))))))))))))))))))))))))))))))))))))))))))))))))))))))))))))))))))))))))))))))))))))))))))))
set_option maxRecDepth 4000 in
theorem ri_121 : ∀ q ∈ tb_121, pm_Ri q.2 := fa_c ri_ald (fa_c ri_ild (fa_c ri_ild (fa_c ri_ild (fa_c ri_cav (fa_c ri_ist (fa_c ri_ild (fa_c ri_b1 (fa_c ri_ild (fa_c ri_iret (fa_c ri_ald (fa_c ri_gR (fa_c ri_ald (fa_c ri_gR (fa_c ri_ild (fa_c ri_aald (fa_c ri_ald (fa_c ri_gR (fa_c ri_ild (fa_c ri_aald (fa_c ri_cav (fa_c ri_ist (fa_c ri_ild (fa_c ri_ald (fa_c ri_gR (fa_c ri_cav (fa_c ri_b2 (fa_c ri_k (fa_c ri_iret (fa_c ri_ald (fa_c ri_gR (fa_c ri_ild (fa_c ri_aald (fa_c ri_ald (fa_c ri_gR (fa_c ri_gR (fa_c ri_cav (fa_c ri_ild (fa_c ri_iret (fa_n)))))))))))))))))))))))))))))))))))))))
set_option maxRecDepth 4000 in
theorem ri_247 : ∀ q ∈ tb_247, pm_Ri q.2 := fa_c ri_ild (fa_c ri_call (fa_c ri_b1 (fa_c ri_ild (fa_c ri_call (fa_c ri_b1 (fa_c ri_ild (fa_c ri_call (fa_c ri_b1 (fa_c ri_k (fa_c ri_iret (fa_c ri_ald (fa_c ri_gR (fa_c ri_ild (fa_c ri_iald (fa_c ri_b1 (fa_c ri_ald (fa_c ri_gR (fa_c ri_ild (fa_c ri_iald (fa_c ri_b1 (fa_c ri_ald (fa_c ri_k (fa_c ri_cav (fa_c ri_iret (fa_c ri_ald (fa_c ri_gR (fa_c ri_ild (fa_c ri_iald (fa_c ri_k (fa_c ri_b2 (fa_c ri_ald (fa_c ri_gR (fa_c ri_ild (fa_c ri_iald (fa_c ri_k (fa_c ri_b2 (fa_c ri_ald (fa_c ri_k (fa_c ri_cav (fa_c ri_iret (fa_c ri_ald (fa_c ri_ild (fa_c ri_cav (fa_c ri_b1 (fa_c ri_ald (fa_c ri_ild (fa_c ri_cav (fa_c ri_b1 (fa_c ri_ald (fa_c ri_k (fa_c ri_cav (fa_c ri_iret (fa_c ri_ald (fa_c ri_ild (fa_c ri_cav (fa_c ri_ald (fa_c ri_ald (fa_c ri_gR (fa_c ri_ild (fa_c ri_iald (fa_c ri_pI (fa_c ri_k (fa_c ri_ist (fa_c ri_ild (fa_c ri_ald (fa_c ri_gI (fa_c ri_b2 (fa_c ri_ald (fa_c ri_gR (fa_c ri_ild (fa_c ri_ald (fa_c ri_ild (fa_c ri_ild (fa_c ri_cav (fa_c ri_iast (fa_c ri_inc (fa_c ri_go (fa_c ri_ald (fa_c ri_k (fa_c ri_pI (fa_c ri_ald (fa_c ri_k (fa_c ri_pI (fa_c ri_ald (fa_c ri_cav (fa_c ri_ald (fa_c ri_gI (fa_c ri_b1 (fa_c ri_k (fa_c ri_iret (fa_c ri_ald (fa_c ri_ild (fa_c ri_ald (fa_c ri_gR (fa_c ri_ald (fa_c ri_gI (fa_c ri_cav (fa_c ri_ald (fa_c ri_gI (fa_c ri_iret (fa_n)))))))))))))))))))))))))))))))))))))))))))))))))))))))))))))))))))))))))))))))))))))))))))))))))))))
set_option maxRecDepth 4000 in
theorem ri_122 : ∀ q ∈ tb_122, pm_Ri q.2 := fa_c ri_ald (fa_c ri_ild (fa_c ri_ild (fa_c ri_ild (fa_c ri_k (fa_c ri_cav (fa_c ri_ist (fa_c ri_ild (fa_c ri_b1 (fa_c ri_ild (fa_c ri_iret (fa_c ri_ald (fa_c ri_gR (fa_c ri_cav (fa_c ri_ald (fa_c ri_gR (fa_c ri_ald (fa_c ri_gR (fa_c ri_ild (fa_c ri_aald (fa_c ri_ald (fa_c ri_gR (fa_c ri_cav (fa_c ri_k (fa_c ri_ist (fa_c ri_k (fa_c ri_ist (fa_c ri_ild (fa_c ri_ald (fa_c ri_gR (fa_c ri_ild (fa_c ri_aald (fa_c ri_gI (fa_c ri_b2 (fa_c ri_ald (fa_c ri_ald (fa_c ri_gR (fa_c ri_ild (fa_c ri_aald (fa_c ri_ild (fa_c ri_cav (fa_c ri_ald (fa_c ri_gR (fa_c ri_ald (fa_c ri_gR (fa_c ri_cav (fa_c ri_ald (fa_c ri_gR (fa_c ri_ald (fa_c ri_gR (fa_c ri_cav (fa_c ri_b1 (fa_c ri_ild (fa_c ri_k (fa_c ri_ild (fa_c ri_ib (fa_c ri_ib (fa_c ri_ist (fa_c ri_inc (fa_c ri_go (fa_c ri_ald (fa_c ri_ild (fa_c ri_pI (fa_c ri_ald (fa_c ri_gR (fa_c ri_gI (fa_c ri_iret (fa_n)))))))))))))))))))))))))))))))))))))))))))))))))))))))))))))))))))
set_option maxRecDepth 4000 in
theorem ri_250 : ∀ q ∈ tb_250, pm_Ri q.2 := fa_c ri_ild (fa_c ri_call (fa_c ri_b1 (fa_c ri_k (fa_c ri_iret (fa_c ri_ald (fa_c ri_ild (fa_c ri_k (fa_c ri_cav (fa_c ri_ist (fa_c ri_ild (fa_c ri_b1 (fa_c ri_ild (fa_c ri_iret (fa_c ri_ald (fa_c ri_gR (fa_c ri_ild (fa_c ri_iald (fa_c ri_ist (fa_c ri_ald (fa_c ri_ild (fa_c ri_k (fa_c ri_ild (fa_c ri_cav (fa_c ri_k (fa_c ri_ist (fa_c ri_k (fa_c ri_ist (fa_c ri_k (fa_c ri_ist (fa_c ri_ild (fa_c ri_ild (fa_c ri_b2 (fa_c ri_ald (fa_c ri_ild (fa_c ri_ild (fa_c ri_ild (fa_c ri_cav (fa_c ri_k (fa_c ri_ist (fa_c ri_k (fa_c ri_ist (fa_c ri_ild (fa_c ri_ild (fa_c ri_b2 (fa_c ri_ild (fa_c ri_b1 (fa_c ri_ald (fa_c ri_ild (fa_c ri_ild (fa_c ri_cav (fa_c ri_b1 (fa_c ri_k (fa_c ri_go (fa_c ri_k (fa_c ri_ist (fa_c ri_inc (fa_c ri_go (fa_c ri_ild (fa_c ri_ild (fa_c ri_b1 (fa_c ri_k (fa_c ri_go (fa_c ri_k (fa_c ri_ib (fa_c ri_ist (fa_c ri_ild (fa_c ri_ald (fa_c ri_ild (fa_c ri_ild (fa_c ri_cav (fa_c ri_b1 (fa_c ri_k (fa_c ri_ild (fa_c ri_ib (fa_c ri_go (fa_c ri_k (fa_c ri_ib (fa_c ri_ist (fa_c ri_inc (fa_c ri_go (fa_c ri_ald (fa_c ri_ild (fa_c ri_ild (fa_c ri_cav (fa_c ri_iret (fa_n))))))))))))))))))))))))))))))))))))))))))))))))))))))))))))))))))))))))))))))))))))))
set_option maxRecDepth 4000 in
theorem ri_123 : ∀ q ∈ tb_123, pm_Ri q.2 := fa_c ri_ald (fa_c ri_ild (fa_c ri_ild (fa_c ri_ild (fa_c ri_k (fa_c ri_cav (fa_c ri_ist (fa_c ri_ild (fa_c ri_b1 (fa_c ri_ild (fa_c ri_iret (fa_c ri_ald (fa_c ri_gR (fa_c ri_cav (fa_c ri_ald (fa_c ri_gR (fa_c ri_ald (fa_c ri_gR (fa_c ri_ild (fa_c ri_aald (fa_c ri_ald (fa_c ri_gR (fa_c ri_cav (fa_c ri_ald (fa_c ri_gR (fa_c ri_ald (fa_c ri_gR (fa_c ri_cav (fa_c ri_k (fa_c ri_ist (fa_c ri_ild (fa_c ri_ald (fa_c ri_gR (fa_c ri_ild (fa_c ri_aald (fa_c ri_gI (fa_c ri_b2 (fa_c ri_ald (fa_c ri_ald (fa_c ri_gR (fa_c ri_ild (fa_c ri_aald (fa_c ri_ild (fa_c ri_cav (fa_c ri_ald (fa_c ri_gR (fa_c ri_ald (fa_c ri_gR (fa_c ri_cav (fa_c ri_inc (fa_c ri_go (fa_c ri_ald (fa_c ri_gR (fa_c ri_ald (fa_c ri_gR (fa_c ri_ild (fa_c ri_aald (fa_c ri_ald (fa_c ri_gR (fa_c ri_cav (fa_c ri_ald (fa_c ri_gR (fa_c ri_ald (fa_c ri_gR (fa_c ri_cav (fa_c ri_ist (fa_c ri_k (fa_c ri_ist (fa_c ri_ild (fa_c ri_ald (fa_c ri_gR (fa_c ri_ild (fa_c ri_aald (fa_c ri_gI (fa_c ri_b2 (fa_c ri_ild (fa_c ri_b1 (fa_c ri_ald (fa_c ri_ald (fa_c ri_gR (fa_c ri_ild (fa_c ri_aald (fa_c ri_ild (fa_c ri_cav (fa_c ri_ald (fa_c ri_gR (fa_c ri_ald (fa_c ri_gR (fa_c ri_cav (fa_c ri_ist (fa_c ri_inc (fa_c ri_go (fa_c ri_ild (fa_c ri_b1 (fa_c ri_k (fa_c ri_go (fa_c ri_k (fa_c ri_iret (fa_n))))))))))))))))))))))))))))))))))))))))))))))))))))))))))))))))))))))))))))))))))))))))))))))))))
set_option maxRecDepth 4000 in
theorem ri_252 : ∀ q ∈ tb_252, pm_Ri q.2 := fa_c ri_ild (fa_c ri_call (fa_c ri_b1 (fa_c ri_ild (fa_c ri_call (fa_c ri_b1 (fa_c ri_k (fa_c ri_iret (fa_c ri_ald (fa_c ri_ild (fa_c ri_ild (fa_c ri_cav (fa_c ri_ist (fa_c ri_ild (fa_c ri_b1 (fa_c ri_ild (fa_c ri_iret (fa_c ri_ald (fa_c ri_gR (fa_c ri_ild (fa_c ri_iald (fa_c ri_k (fa_c ri_ib (fa_c ri_ist (fa_c ri_ald (fa_c ri_gR (fa_c ri_ild (fa_c ri_iald (fa_c ri_k (fa_c ri_ib (fa_c ri_ist (fa_c ri_k (fa_c ri_ist (fa_c ri_ild (fa_c ri_ild (fa_c ri_b2 (fa_c ri_ald (fa_c ri_ild (fa_c ri_ild (fa_c ri_k (fa_c ri_ib (fa_c ri_ild (fa_c ri_cav (fa_c ri_inc (fa_c ri_go (fa_c ri_k (fa_c ri_ist (fa_c ri_ild (fa_c ri_ild (fa_c ri_b2 (fa_c ri_ald (fa_c ri_ild (fa_c ri_ild (fa_c ri_k (fa_c ri_ib (fa_c ri_ild (fa_c ri_ild (fa_c ri_ib (fa_c ri_cav (fa_c ri_inc (fa_c ri_go (fa_c ri_k (fa_c ri_ist (fa_c ri_k (fa_c ri_ist (fa_c ri_ild (fa_c ri_ild (fa_c ri_b2 (fa_c ri_k (fa_c ri_ist (fa_c ri_ild (fa_c ri_ild (fa_c ri_b2 (fa_c ri_ild (fa_c ri_b1 (fa_c ri_ald (fa_c ri_ild (fa_c ri_ild (fa_c ri_ild (fa_c ri_ib (fa_c ri_cav (fa_c ri_b1 (fa_c ri_k (fa_c ri_go (fa_c ri_k (fa_c ri_ist (fa_c ri_inc (fa_c ri_go (fa_c ri_inc (fa_c ri_go (fa_c ri_ild (fa_c ri_b1 (fa_c ri_k (fa_c ri_go (fa_c ri_k (fa_c ri_iret (fa_n))))))))))))))))))))))))))))))))))))))))))))))))))))))))))))))))))))))))))))))))))))))))))))))))
set_option maxRecDepth 4000 in
theorem ri_124 : ∀ q ∈ tb_124, pm_Ri q.2 := fa_c ri_ald (fa_c ri_ild (fa_c ri_ild (fa_c ri_ild (fa_c ri_k (fa_c ri_cav (fa_c ri_ist (fa_c ri_ild (fa_c ri_b1 (fa_c ri_ild (fa_c ri_iret (fa_c ri_ald (fa_c ri_gR (fa_c ri_ild (fa_c ri_aald (fa_c ri_ast (fa_c ri_k (fa_c ri_ist (fa_c ri_k (fa_c ri_ist (fa_c ri_k (fa_c ri_ist (fa_c ri_ild (fa_c ri_ald (fa_c ri_gI (fa_c ri_b2 (fa_c ri_k (fa_c ri_ist (fa_c ri_ild (fa_c ri_ald (fa_c ri_gR (fa_c ri_gI (fa_c ri_b2 (fa_c ri_ild (fa_c ri_ald (fa_c ri_gI (fa_c ri_b2 (fa_c ri_ald (fa_c ri_gR (fa_c ri_ild (fa_c ri_iald (fa_c ri_ild (fa_c ri_b2 (fa_c ri_k (fa_c ri_go (fa_c ri_k (fa_c ri_ist (fa_c ri_ild (fa_c ri_b1 (fa_c ri_ald (fa_c ri_gR (fa_c ri_ild (fa_c ri_cav (fa_c ri_b1 (fa_c ri_go (fa_c ri_ald (fa_c ri_gR (fa_c ri_ald (fa_c ri_ild (fa_c ri_ild (fa_c ri_cav (fa_c ri_ald (fa_c ri_gR (fa_c ri_ald (fa_c ri_gR (fa_c ri_cav (fa_c ri_b1 (fa_c ri_inc (fa_c ri_ald (fa_c ri_gR (fa_c ri_ald (fa_c ri_gR (fa_c ri_ald (fa_c ri_gR (fa_c ri_cav (fa_c ri_ild (fa_c ri_ald (fa_c ri_gR (fa_c ri_cav (fa_c ri_ib (fa_c ri_ist (fa_c ri_inc (fa_c ri_go (fa_c ri_inc (fa_c ri_go (fa_c ri_ald (fa_c ri_ild (fa_c ri_b1 (fa_c ri_k (fa_c ri_go (fa_c ri_ild (fa_c ri_pI (fa_c ri_ild (fa_c ri_iret (fa_n))))))))))))))))))))))))))))))))))))))))))))))))))))))))))))))))))))))))))))))))))))))))))))))
set_option maxRecDepth 4000 in
theorem ri_255 : ∀ q ∈ tb_255, pm_Ri q.2 := fa_c ri_ild (fa_c ri_call (fa_c ri_b1 (fa_c ri_k (fa_c ri_iret (fa_c ri_ald (fa_c ri_ild (fa_c ri_k (fa_c ri_cav (fa_c ri_ist (fa_c ri_ild (fa_c ri_b1 (fa_c ri_ild (fa_c ri_iret (fa_c ri_k (fa_c ri_ist (fa_c ri_k (fa_c ri_ist (fa_c ri_k (fa_c ri_ist (fa_c ri_ild (fa_c ri_ald (fa_c ri_gR (fa_c ri_ild (fa_c ri_iald (fa_c ri_b2 (fa_c ri_k (fa_c ri_ist (fa_c ri_ild (fa_c ri_ald (fa_c ri_gI (fa_c ri_b2 (fa_c ri_ild (fa_c ri_b1 (fa_c ri_ald (fa_c ri_ild (fa_c ri_ild (fa_c ri_k (fa_c ri_ib (fa_c ri_cav (fa_c ri_ild (fa_c ri_b2 (fa_c ri_k (fa_c ri_go (fa_c ri_k (fa_c ri_ist (fa_c ri_ald (fa_c ri_ild (fa_c ri_ild (fa_c ri_ild (fa_c ri_cav (fa_c ri_ild (fa_c ri_b1 (fa_c ri_ald (fa_c ri_gR (fa_c ri_ild (fa_c ri_iald (fa_c ri_k (fa_c ri_b2 (fa_c ri_ald (fa_c ri_cav (fa_c ri_b1 (fa_c ri_ild (fa_c ri_b1 (fa_c ri_ald (fa_c ri_cav (fa_c ri_go (fa_c ri_ild (fa_c ri_ald (fa_c ri_cav (fa_c ri_ib (fa_c ri_ist (fa_c ri_inc (fa_c ri_inc (fa_c ri_go (fa_c ri_inc (fa_c ri_go (fa_c ri_ald (fa_c ri_ild (fa_c ri_ild (fa_c ri_cav (fa_c ri_iret (fa_n))))))))))))))))))))))))))))))))))))))))))))))))))))))))))))))))))))))))))))))))))
set_option maxRecDepth 4000 in
theorem ri_125 : ∀ q ∈ tb_125, pm_Ri q.2 := fa_c ri_ald (fa_c ri_ild (fa_c ri_ild (fa_c ri_ild (fa_c ri_k (fa_c ri_cav (fa_c ri_ist (fa_c ri_ild (fa_c ri_b1 (fa_c ri_ild (fa_c ri_iret (fa_c ri_ild (fa_c ri_b1 (fa_c ri_ild (fa_c ri_ald (fa_c ri_gR (fa_c ri_ild (fa_c ri_aald (fa_c ri_gI (fa_c ri_b2 (fa_c ri_ald (fa_c ri_k (fa_c ri_cav (fa_c ri_iret (fa_c ri_ald (fa_c ri_gR (fa_c ri_ald (fa_c ri_gR (fa_c ri_ild (fa_c ri_aald (fa_c ri_ild (fa_c ri_cav (fa_c ri_ald (fa_c ri_gR (fa_c ri_ild (fa_c ri_aald (fa_c ri_ald (fa_c ri_gR (fa_c ri_cav (fa_c ri_ald (fa_c ri_gR (fa_c ri_ald (fa_c ri_gR (fa_c ri_cav (fa_c ri_iret (fa_n)))))))))))))))))))))))))))))))))))))))))))))
set_option maxRecDepth 4000 in
theorem ri_257 : ∀ q ∈ tb_257, pm_Ri q.2 := fa_c ri_ild (fa_c ri_call (fa_c ri_b1 (fa_c ri_ild (fa_c ri_call (fa_c ri_b1 (fa_c ri_k (fa_c ri_iret (fa_c ri_ald (fa_c ri_ild (fa_c ri_k (fa_c ri_cav (fa_c ri_ist (fa_c ri_ild (fa_c ri_b1 (fa_c ri_ild (fa_c ri_iret (fa_c ri_ild (fa_c ri_k (fa_c ri_ald (fa_c ri_gR (fa_c ri_ild (fa_c ri_iald (fa_c ri_call (fa_c ri_b1 (fa_c ri_ald (fa_c ri_k (fa_c ri_cav (fa_c ri_iret (fa_c ri_ald (fa_c ri_ild (fa_c ri_ild (fa_c ri_cav (fa_c ri_ald (fa_c ri_ild (fa_c ri_ald (fa_c ri_gR (fa_c ri_ald (fa_c ri_gI (fa_c ri_cav (fa_c ri_ald (fa_c ri_cav (fa_c ri_iret (fa_n)))))))))))))))))))))))))))))))))))))))))))
set_option maxRecDepth 4000 in
theorem ri_126 : ∀ q ∈ tb_126, pm_Ri q.2 := fa_c ri_ald (fa_c ri_ild (fa_c ri_ild (fa_c ri_ild (fa_c ri_k (fa_c ri_cav (fa_c ri_ist (fa_c ri_ild (fa_c ri_b1 (fa_c ri_ild (fa_c ri_iret (fa_c ri_k (fa_c ri_ist (fa_c ri_k (fa_c ri_ist (fa_c ri_k (fa_c ri_ist (fa_c ri_ild (fa_c ri_ald (fa_c ri_gR (fa_c ri_ild (fa_c ri_aald (fa_c ri_gI (fa_c ri_b2 (fa_c ri_ald (fa_c ri_gR (fa_c ri_ald (fa_c ri_gR (fa_c ri_ild (fa_c ri_aald (fa_c ri_ild (fa_c ri_cav (fa_c ri_ald (fa_c ri_gR (fa_c ri_ald (fa_c ri_gR (fa_c ri_cav (fa_c ri_b1 (fa_c ri_ild (fa_c ri_b1 (fa_c ri_ild (fa_c ri_go (fa_c ri_ild (fa_c ri_ist (fa_c ri_inc (fa_c ri_inc (fa_c ri_go (fa_c ri_ald (fa_c ri_ild (fa_c ri_pI (fa_c ri_ild (fa_c ri_iret (fa_n))))))))))))))))))))))))))))))))))))))))))))))))))))
set_option maxRecDepth 4000 in
theorem ri_258 : ∀ q ∈ tb_258, pm_Ri q.2 := fa_c ri_ild (fa_c ri_call (fa_c ri_b1 (fa_c ri_k (fa_c ri_iret (fa_c ri_ald (fa_c ri_ild (fa_c ri_k (fa_c ri_cav (fa_c ri_ist (fa_c ri_ild (fa_c ri_b1 (fa_c ri_ild (fa_c ri_iret (fa_c ri_k (fa_c ri_ist (fa_c ri_k (fa_c ri_ist (fa_c ri_k (fa_c ri_ist (fa_c ri_ild (fa_c ri_ald (fa_c ri_gR (fa_c ri_ild (fa_c ri_iald (fa_c ri_b2 (fa_c ri_ald (fa_c ri_ild (fa_c ri_ild (fa_c ri_cav (fa_c ri_ald (fa_c ri_cav (fa_c ri_b1 (fa_c ri_ild (fa_c ri_b1 (fa_c ri_ild (fa_c ri_go (fa_c ri_ild (fa_c ri_ist (fa_c ri_inc (fa_c ri_inc (fa_c ri_go (fa_c ri_ald (fa_c ri_ild (fa_c ri_ild (fa_c ri_cav (fa_c ri_iret (fa_n)))))))))))))))))))))))))))))))))))))))))))))))
set_option maxRecDepth 4000 in
theorem ri_127 : ∀ q ∈ tb_127, pm_Ri q.2 := fa_c ri_ald (fa_c ri_ild (fa_c ri_ild (fa_c ri_ild (fa_c ri_k (fa_c ri_k (fa_c ri_cav (fa_c ri_ist (fa_c ri_ild (fa_c ri_b1 (fa_c ri_ild (fa_c ri_iret (fa_c ri_k (fa_c ri_ist (fa_c ri_ild (fa_c ri_ald (fa_c ri_gR (fa_c ri_ild (fa_c ri_aald (fa_c ri_gI (fa_c ri_b2 (fa_c ri_ald (fa_c ri_gR (fa_c ri_ild (fa_c ri_aald (fa_c ri_gR (fa_c ri_ild (fa_c ri_iald (fa_c ri_ald (fa_c ri_gR (fa_c ri_cav (fa_c ri_b2 (fa_c ri_k (fa_c ri_iret (fa_c ri_inc (fa_c ri_go (fa_c ri_ald (fa_c ri_gR (fa_c ri_ald (fa_c ri_gR (fa_c ri_ild (fa_c ri_aald (fa_c ri_ald (fa_c ri_gR (fa_c ri_cav (fa_c ri_cav (fa_c ri_ald (fa_c ri_ald (fa_c ri_gR (fa_c ri_gI (fa_c ri_pI (fa_c ri_ald (fa_c ri_gR (fa_c ri_gI (fa_c ri_iret (fa_n)))))))))))))))))))))))))))))))))))))))))))))))))))))))
set_option maxRecDepth 4000 in
theorem ri_260 : ∀ q ∈ tb_260, pm_Ri q.2 := fa_c ri_ild (fa_c ri_call (fa_c ri_b1 (fa_c ri_k (fa_c ri_iret (fa_c ri_ald (fa_c ri_gR (fa_c ri_ild (fa_c ri_iald (fa_c ri_b1 (fa_c ri_ald (fa_c ri_k (fa_c ri_cav (fa_c ri_iret (fa_c ri_ald (fa_c ri_gR (fa_c ri_ild (fa_c ri_iald (fa_c ri_k (fa_c ri_b2 (fa_c ri_ald (fa_c ri_k (fa_c ri_cav (fa_c ri_iret (fa_c ri_k (fa_c ri_ist (fa_c ri_k (fa_c ri_ist (fa_c ri_k (fa_c ri_ist (fa_c ri_ild (fa_c ri_ald (fa_c ri_gR (fa_c ri_ild (fa_c ri_iald (fa_c ri_b2 (fa_c ri_ild (fa_c ri_b1 (fa_c ri_ald (fa_c ri_ild (fa_c ri_ild (fa_c ri_cav (fa_c ri_k (fa_c ri_k (fa_c ri_call (fa_c ri_b1 (fa_c ri_k (fa_c ri_go (fa_c ri_k (fa_c ri_ist (fa_c ri_ild (fa_c ri_b1 (fa_c ri_ald (fa_c ri_ild (fa_c ri_ild (fa_c ri_cav (fa_c ri_ald (fa_c ri_cav (fa_c ri_b2 (fa_c ri_k (fa_c ri_go (fa_c ri_k (fa_c ri_ist (fa_c ri_inc (fa_c ri_go (fa_c ri_ild (fa_c ri_b1 (fa_c ri_ald (fa_c ri_k (fa_c ri_cav (fa_c ri_iret (fa_c ri_ild (fa_c ri_b1 (fa_c ri_k (fa_c ri_iret (fa_c ri_k (fa_c ri_ald (fa_c ri_gR (fa_c ri_ild (fa_c ri_iald (fa_c ri_ib (fa_c ri_k (fa_c ri_ib (fa_c ri_ist (fa_c ri_k (fa_c ri_ist (fa_c ri_ild (fa_c ri_ild (fa_c ri_b2 (fa_c ri_ald (fa_c ri_gR (fa_c ri_ild (fa_c ri_ild (fa_c ri_b1 (fa_c ri_k (fa_c ri_go (fa_c ri_k (fa_c ri_iast (fa_c ri_k (fa_c ri_ist (fa_c ri_ild (fa_c ri_ild (fa_c ri_b2 (fa_c ri_ild (fa_c ri_ild (fa_c ri_k (fa_c ri_ib (fa_c ri_ib (fa_c ri_b1 (fa_c ri_ald (fa_c ri_ild (fa_c ri_ild (fa_c ri_cav (fa_c ri_ald (fa_c ri_cav (fa_c ri_b2 (fa_c ri_ald (fa_c ri_gR (fa_c ri_ild (fa_c ri_ald (fa_c ri_gR (fa_c ri_ild (fa_c ri_iald (fa_c ri_k (fa_c ri_ald (fa_c ri_gR (fa_c ri_ild (fa_c ri_ild (fa_c ri_k (fa_c ri_ib (fa_c ri_ib (fa_c ri_iald (fa_c ri_ib (fa_c ri_call (fa_c ri_iast (fa_c ri_inc (fa_c ri_go (fa_c ri_inc (fa_c ri_go (fa_c ri_k (fa_c ri_ist (fa_c ri_ild (fa_c ri_ist (fa_c ri_ild (fa_c ri_b1 (fa_c ri_ild (fa_c ri_k (fa_c ri_call (fa_c ri_b1 (fa_c ri_ald (fa_c ri_ild (fa_c ri_ild (fa_c ri_cav (fa_c ri_ald (fa_c ri_cav (fa_c ri_b2 (fa_c ri_k (fa_c ri_ald (fa_c ri_gR (fa_c ri_ild (fa_c ri_ild (fa_c ri_k (fa_c ri_ib (fa_c ri_ib (fa_c ri_iald (fa_c ri_ib (fa_c ri_ald (fa_c ri_gR (fa_c ri_ild (fa_c ri_iald (fa_c ri_b2 (fa_c ri_ild (fa_c ri_go (fa_c ri_ild (fa_c ri_ist (fa_c ri_inc (fa_c ri_go (fa_c ri_ald (fa_c ri_ild (fa_c ri_ald (fa_c ri_gR (fa_c ri_ild (fa_c ri_iald (fa_c ri_cav (fa_c ri_iret (fa_n)))))))))))))))))))))))))))))))))))))))))))))))))))))))))))))))))))))))))))))))))))))))))))))))))))))))))))))))))))))))))))))))))))))))))))))))))))))))))))))))))))))))))))))))))))))))))
set_option maxRecDepth 4000 in
theorem ri_128 : ∀ q ∈ tb_128, pm_Ri q.2 := fa_c ri_ild (fa_c ri_b1 (fa_c ri_ild (fa_c ri_k (fa_c ri_b2 (fa_c ri_ild (fa_c ri_k (fa_c ri_b2 (fa_c ri_ild (fa_c ri_i2l (fa_c ri_k (fa_c ri_lcmp (fa_c ri_b1 (fa_c ri_ild (fa_c ri_call (fa_c ri_b1 (fa_c ri_k (fa_c ri_iret (fa_c ri_ald (fa_c ri_gR (fa_c ri_cav (fa_c ri_ild (fa_c ri_i2l (fa_c ri_lst (fa_c ri_k (fa_c ri_ist (fa_c ri_ild (fa_c ri_ild (fa_c ri_b2 (fa_c ri_ald (fa_c ri_ald (fa_c ri_gR (fa_c ri_cav (fa_c ri_ist (fa_c ri_ild (fa_c ri_call (fa_c ri_ist (fa_c ri_ild (fa_c ri_b1 (fa_c ri_go (fa_c ri_lld (fa_c ri_k (fa_c ri_lb (fa_c ri_k (fa_c ri_ldv (fa_c ri_lst (fa_c ri_ald (fa_c ri_gR (fa_c ri_ild (fa_c ri_lld (fa_c ri_ild (fa_c ri_i2l (fa_c ri_ldv (fa_c ri_l2i (fa_c ri_call (fa_c ri_cav (fa_c ri_inc (fa_c ri_go (fa_c ri_ald (fa_c ri_gR (fa_c ri_ild (fa_c ri_aald (fa_c ri_ald (fa_c ri_gR (fa_c ri_cav (fa_c ri_ald (fa_c ri_gR (fa_c ri_gI (fa_c ri_iret (fa_n)))))))))))))))))))))))))))))))))))))))))))))))))))))))))))))))))))))
set_option maxRecDepth 4000 in
theorem ri_262 : ∀ q ∈ tb_262, pm_Ri q.2 := fa_c ri_ild (fa_c ri_k (fa_c ri_k (fa_c ri_call (fa_c ri_b1 (fa_c ri_ild (fa_c ri_k (fa_c ri_k (fa_c ri_call (fa_c ri_b1 (fa_c ri_ild (fa_c ri_call (fa_c ri_b1 (fa_c ri_k (fa_c ri_iret (fa_c ri_ild (fa_c ri_i2l (fa_c ri_lst (fa_c ri_ald (fa_c ri_k (fa_c ri_pI (fa_c ri_k (fa_c ri_ist (fa_c ri_ild (fa_c ri_b1 (fa_c ri_ald (fa_c ri_gI (fa_c ri_ild (fa_c ri_b2 (fa_c ri_k (fa_c ri_ist (fa_c ri_k (fa_c ri_ist (fa_c ri_ild (fa_c ri_ald (fa_c ri_gI (fa_c ri_b2 (fa_c ri_ild (fa_c ri_ald (fa_c ri_ild (fa_c ri_cav (fa_c ri_b1 (fa_c ri_k (fa_c ri_go (fa_c ri_k (fa_c ri_ib (fa_c ri_ist (fa_c ri_inc (fa_c ri_go (fa_c ri_ild (fa_c ri_b1 (fa_c ri_k (fa_c ri_lld (fa_c ri_lb (fa_c ri_k (fa_c ri_ldv (fa_c ri_lst (fa_c ri_lld (fa_c ri_ild (fa_c ri_i2l (fa_c ri_ldv (fa_c ri_l2i (fa_c ri_ist (fa_c ri_k (fa_c ri_ist (fa_c ri_ald (fa_c ri_ild (fa_c ri_cav (fa_c ri_b1 (fa_c ri_ild (fa_c ri_b1 (fa_c ri_ild (fa_c ri_ald (fa_c ri_ild (fa_c ri_cav (fa_c ri_b1 (fa_c ri_k (fa_c ri_go (fa_c ri_k (fa_c ri_ib (fa_c ri_ist (fa_c ri_inc (fa_c ri_go (fa_c ri_ald (fa_c ri_gR (fa_c ri_ald (fa_c ri_gI (fa_c ri_ild (fa_c ri_iast (fa_c ri_ald (fa_c ri_dup (fa_c ri_gI (fa_c ri_k (fa_c ri_ib (fa_c ri_pI (fa_c ri_go (fa_c ri_ald (fa_c ri_ild (fa_c ri_ald (fa_c ri_gR (fa_c ri_ald (fa_c ri_gI (fa_c ri_cav (fa_c ri_ald (fa_c ri_gI (fa_c ri_iret (fa_n))))))))))))))))))))))))))))))))))))))))))))))))))))))))))))))))))))))))))))))))))))))))))))))))))))))))))
set_option maxRecDepth 4000 in
theorem ri_129 : ∀ q ∈ tb_129, pm_Ri q.2 := fa_c ri_ald (fa_c ri_gI (fa_c ri_iret (fa_n)))
set_option maxRecDepth 4000 in
theorem ri_158 : ∀ q ∈ tb_158, pm_Ri q.2 := fa_c ri_ald (fa_c ri_gI (fa_c ri_iret (fa_n)))
set_option maxRecDepth 4000 in
theorem rl_130 : ∀ q ∈ tb_130, pm_Rl q.2 := fa_c rl_ald (fa_c rl_gL (fa_c rl_lret (fa_n)))
set_option maxRecDepth 4000 in
theorem rl_159 : ∀ q ∈ tb_159, pm_Rl q.2 := fa_c rl_ald (fa_c rl_gL (fa_c rl_lret (fa_n)))
set_option maxRecDepth 4000 in
theorem rl_131 : ∀ q ∈ tb_131, pm_Rl q.2 := fa_c rl_ild (fa_c rl_b1 (fa_c rl_ild (fa_c rl_k (fa_c rl_b2 (fa_c rl_k (fa_c rl_lret (fa_c rl_k (fa_c rl_lst (fa_c rl_k (fa_c rl_ist (fa_c rl_ild (fa_c rl_ild (fa_c rl_b2 (fa_c rl_lld (fa_c rl_ald (fa_c rl_gR (fa_c rl_ild (fa_c rl_cav (fa_c rl_lb (fa_c rl_lst (fa_c rl_inc (fa_c rl_go (fa_c rl_lld (fa_c rl_lret (fa_n)))))))))))))))))))))))))
set_option maxRecDepth 4000 in
theorem rl_222 : ∀ q ∈ tb_222, pm_Rl q.2 := fa_c rl_ild (fa_c rl_k (fa_c rl_k (fa_c rl_call (fa_c rl_b1 (fa_c rl_k (fa_c rl_lret (fa_c rl_ald (fa_c rl_ild (fa_c rl_cav (fa_c rl_k (fa_c rl_lst (fa_c rl_k (fa_c rl_ist (fa_c rl_ild (fa_c rl_ild (fa_c rl_b2 (fa_c rl_lld (fa_c rl_ald (fa_c rl_gR (fa_c rl_ild (fa_c rl_k (fa_c rl_k (fa_c rl_call (fa_c rl_lald (fa_c rl_lb (fa_c rl_lst (fa_c rl_inc (fa_c rl_go (fa_c rl_lld (fa_c rl_lret (fa_n)))))))))))))))))))))))))))))))
set_option maxRecDepth 4000 in
theorem ri_132 : ∀ q ∈ tb_132, pm_Ri q.2 := fa_c ri_ild (fa_c ri_sw (fa_c ri_ald (fa_c ri_gR (fa_c ri_gI (fa_c ri_iret (fa_c ri_ald (fa_c ri_gR (fa_c ri_gI (fa_c ri_iret (fa_c ri_ald (fa_c ri_gR (fa_c ri_k (fa_c ri_cav (fa_c ri_iret (fa_c ri_ald (fa_c ri_gR (fa_c ri_k (fa_c ri_cav (fa_c ri_iret (fa_c ri_ald (fa_c ri_gR (fa_c ri_gI (fa_c ri_iret (fa_c ri_ald (fa_c ri_gR (fa_c ri_gI (fa_c ri_iret (fa_c ri_ald (fa_c ri_gR (fa_c ri_call (fa_c ri_iret (fa_c ri_ald (fa_c ri_cav (fa_c ri_iret (fa_c ri_ald (fa_c ri_gR (fa_c ri_call (fa_c ri_iret (fa_c ri_k (fa_c ri_iret (fa_n)))))))))))))))))))))))))))))))))))))))))
set_option maxRecDepth 4000 in
theorem ri_264 : ∀ q ∈ tb_264, pm_Ri q.2 := fa_c ri_ild (fa_c ri_k (fa_c ri_k (fa_c ri_call (fa_c ri_b1 (fa_c ri_ald (fa_c ri_ild (fa_c ri_cav (fa_c ri_go (fa_c ri_k (fa_c ri_iret (fa_n)))))))))))
set_option maxRecDepth 4000 in
theorem ri_133 : ∀ q ∈ tb_133, pm_Ri q.2 := fa_c ri_ald (fa_c ri_gI (fa_c ri_iret (fa_n)))
set_option maxRecDepth 4000 in
theorem ri_155 : ∀ q ∈ tb_155, pm_Ri q.2 := fa_c ri_ald (fa_c ri_gI (fa_c ri_iret (fa_n)))
set_option maxRecDepth 4000 in
theorem ri_134 : ∀ q ∈ tb_134, pm_Ri q.2 := fa_c ri_ild (fa_c ri_k (fa_c ri_b2 (fa_c ri_ild (fa_c ri_k (fa_c ri_b2 (fa_c ri_k (fa_c ri_go (fa_c ri_ald (fa_c ri_gR (fa_c ri_ild (fa_c ri_iald (fa_c ri_iret (fa_n)))))))))))))
set_option maxRecDepth 4000 in
theorem ri_156 : ∀ q ∈ tb_156, pm_Ri q.2 := fa_c ri_ild (fa_c ri_k (fa_c ri_k (fa_c ri_call (fa_c ri_b1 (fa_c ri_ald (fa_c ri_gR (fa_c ri_ild (fa_c ri_iald (fa_c ri_go (fa_c ri_k (fa_c ri_iret (fa_n))))))))))))
set_option maxRecDepth 4000 in
theorem rl_135 : ∀ q ∈ tb_135, pm_Rl q.2 := fa_c rl_k (fa_c rl_lst (fa_c rl_k (fa_c rl_ist (fa_c rl_ild (fa_c rl_k (fa_c rl_b2 (fa_c rl_k (fa_c rl_lld (fa_c rl_lb (fa_c rl_ald (fa_c rl_ild (fa_c rl_cav (fa_c rl_i2l (fa_c rl_lb (fa_c rl_lst (fa_c rl_inc (fa_c rl_go (fa_c rl_ald (fa_c rl_gR (fa_c rl_lld (fa_c rl_cav (fa_c rl_lst (fa_c rl_ald (fa_c rl_gR (fa_c rl_lld (fa_c rl_cav (fa_c rl_lst (fa_c rl_k (fa_c rl_ist (fa_c rl_ild (fa_c rl_k (fa_c rl_b2 (fa_c rl_k (fa_c rl_lld (fa_c rl_lb (fa_c rl_ald (fa_c rl_gR (fa_c rl_ild (fa_c rl_aald (fa_c rl_gI (fa_c rl_i2l (fa_c rl_lb (fa_c rl_lst (fa_c rl_inc (fa_c rl_go (fa_c rl_k (fa_c rl_ist (fa_c rl_ild (fa_c rl_k (fa_c rl_b2 (fa_c rl_ald (fa_c rl_gR (fa_c rl_ild (fa_c rl_aald (fa_c rl_k (fa_c rl_lld (fa_c rl_lb (fa_c rl_ald (fa_c rl_gR (fa_c rl_ild (fa_c rl_aald (fa_c rl_gI (fa_c rl_i2l (fa_c rl_lb (fa_c rl_cav (fa_c rl_lst (fa_c rl_inc (fa_c rl_go (fa_c rl_k (fa_c rl_ist (fa_c rl_ild (fa_c rl_k (fa_c rl_b2 (fa_c rl_ald (fa_c rl_gR (fa_c rl_ild (fa_c rl_aald (fa_c rl_k (fa_c rl_lld (fa_c rl_lb (fa_c rl_ald (fa_c rl_gR (fa_c rl_ild (fa_c rl_aald (fa_c rl_gI (fa_c rl_i2l (fa_c rl_lb (fa_c rl_cav (fa_c rl_lst (fa_c rl_inc (fa_c rl_go (fa_c rl_lld (fa_c rl_lret (fa_n))))))))))))))))))))))))))))))))))))))))))))))))))))))))))))))))))))))))))))))))))))))))))))))
set_option maxRecDepth 4000 in
theorem rl_267 : ∀ q ∈ tb_267, pm_Rl q.2 := fa_c rl_ald (fa_c rl_k (fa_c rl_pL (fa_c rl_k (fa_c rl_ist (fa_c rl_ild (fa_c rl_k (fa_c rl_b2 (fa_c rl_ald (fa_c rl_ald (fa_c rl_ild (fa_c rl_cav (fa_c rl_i2l (fa_c rl_cav (fa_c rl_inc (fa_c rl_go (fa_c rl_ald (fa_c rl_cav (fa_c rl_k (fa_c rl_ist (fa_c rl_ild (fa_c rl_k (fa_c rl_b2 (fa_c rl_ald (fa_c rl_ald (fa_c rl_gR (fa_c rl_ild (fa_c rl_iald (fa_c rl_i2l (fa_c rl_cav (fa_c rl_k (fa_c rl_ist (fa_c rl_ild (fa_c rl_ald (fa_c rl_gR (fa_c rl_ild (fa_c rl_iald (fa_c rl_b2 (fa_c rl_ald (fa_c rl_ald (fa_c rl_ild (fa_c rl_ild (fa_c rl_cav (fa_c rl_i2l (fa_c rl_cav (fa_c rl_inc (fa_c rl_go (fa_c rl_inc (fa_c rl_go (fa_c rl_k (fa_c rl_ist (fa_c rl_ild (fa_c rl_k (fa_c rl_b2 (fa_c rl_ald (fa_c rl_ald (fa_c rl_gR (fa_c rl_ild (fa_c rl_iald (fa_c rl_i2l (fa_c rl_cav (fa_c rl_k (fa_c rl_ist (fa_c rl_ild (fa_c rl_ald (fa_c rl_gR (fa_c rl_ild (fa_c rl_iald (fa_c rl_b2 (fa_c rl_ald (fa_c rl_ald (fa_c rl_ild (fa_c rl_ild (fa_c rl_cav (fa_c rl_i2l (fa_c rl_cav (fa_c rl_inc (fa_c rl_go (fa_c rl_inc (fa_c rl_go (fa_c rl_ald (fa_c rl_gL (fa_c rl_lret (fa_n)))))))))))))))))))))))))))))))))))))))))))))))))))))))))))))))))))))))))))))))))))

section WWS
variable {c : Cf} {m : List Nat} {M : pm_M}
/-- in how many ways a place goes on -/
def WW (c : Cf) (m : List Nat) (g p : Nat) : Nat := match g with
  | 0 => 0
  | g + 1 => if p % 100 ≤ cf_rm c then WY c m g (st0 (p / 100)) (cf_rm c - p % 100) else 0
theorem sk_ad (f g : Nat → Nat) : ∀ n, sk f n + sk g n = sk (fun p => f p + g p) n
  | 0 => rfl
  | n + 1 => by
    rw [sk_s, sk_s, sk_s, ← sk_ad f g n]
    omega
theorem sk_b6 (C h : Nat → Nat) (hh : ∀ p, h p ≤ 6) : ∀ n, sk (fun p => C p * h p) n ≤ 6 * sk (fun p => C p * 1) n
  | 0 => Nat.zero_le _
  | n + 1 => by
    rw [sk_s, sk_s]
    have h1 := sk_b6 C h hh n
    have h2 : C n * h n ≤ C n * 6 := Nat.mul_le_mul_left _ (hh n)
    show _ + C n * h n ≤ 6 * (_ + C n * 1)
    omega
theorem sk_get (f : Nat → Nat) {p n : Nat} (h : p < n) : f p ≤ sk f n := by
  have := sk_mono f (k := p + 1) n h
  rw [sk_s] at this
  omega
theorem sk_one (W : Nat → Nat) : ∀ n, sk (fun p => (if p = 0 then 1 else 0) * W p) (n + 1) = W 0
  | 0 => by show 0 + 1 * W 0 = W 0; omega
  | n + 1 => by
    rw [sk_s, sk_one W n]
    show W 0 + (if n + 1 = 0 then 1 else 0) * W (n + 1) = W 0
    rw [if_neg (by omega), Nat.zero_mul, Nat.add_zero]
theorem mv1 (s : St) (u k : Nat) : mvW c m (fun _ => 1) s u k ≤ 1 := by
  unfold mvW
  split
  · exact Nat.zero_le _
  · split
    · exact Nat.le_refl 1
    · exact Nat.zero_le _
theorem WW_s (hw : cf_wf c) (hl : m.length ≤ 12) {p g : Nat} (hs : wS c (st0 (p / 100))) : WW c m (g + 1) p = eW c m p + sk (mvW c m (WW c m g) (st0 (p / 100)) (p % 100)) (cf_n c) := by
  have hrm := rm99 hw
  show (if p % 100 ≤ cf_rm c then WY c m g (st0 (p / 100)) (cf_rm c - p % 100) else 0) = _
  unfold eW
  generalize st0 (p / 100) = s at hs
  generalize p % 100 = u
  have hnx : ∀ k, k < cf_n c → ∀ s', nx c m s k = some s' → st0 (si s') = s' ∧ si s' < 182 := fun k hk s' hx => by
    obtain ⟨hw', _⟩ := nx_wS hw hl hk hs hx
    exact ⟨st0_of hw hw', (si_d hw hw').2.2.2.1⟩
  have e100 : ∀ q t, t < 100 → (100 * q + t) / 100 = q ∧ (100 * q + t) % 100 = t := fun q t h => by omega
  by_cases gu : u ≤ cf_rm c
  · rw [if_pos gu, WY_wz]
    congr 1
    · unfold sw0
      by_cases g1 : sdn c m s = true ∧ em c s.2.1 ≤ cf_rm c - u
      · rw [if_pos g1, if_pos ⟨g1.1, by have := g1.2; omega⟩]
      · rw [if_neg g1, if_neg (fun z => g1 ⟨z.1, by have := z.2; omega⟩)]
    · refine sk_cg _ (fun k hk => ?_)
      cases g with
      | zero =>
        show 0 = mvW c m (WW c m 0) s u k
        unfold mvW
        split
        · rfl
        · split <;> rfl
      | succ g =>
        show wk (WY c m g) c m s (cf_rm c - u) k = mvW c m (WW c m (g + 1)) s u k
        unfold wk mvW
        cases hx : nx c m s k with
        | none => rfl
        | some s' =>
          obtain ⟨a1, a2⟩ := hnx k hk s' hx
          show (if tk c s.2.1 k ≤ cf_rm c - u then WY c m g s' (cf_rm c - u - tk c s.2.1 k) else 0) = if u + tk c s.2.1 k < 100 then WW c m (g + 1) (100 * si s' + (u + tk c s.2.1 k)) else 0
          by_cases g2 : u + tk c s.2.1 k < 100
          · rw [if_pos g2]
            show _ = if (100 * si s' + (u + tk c s.2.1 k)) % 100 ≤ cf_rm c then WY c m g (st0 ((100 * si s' + (u + tk c s.2.1 k)) / 100)) (cf_rm c - (100 * si s' + (u + tk c s.2.1 k)) % 100) else 0
            rw [(e100 _ _ g2).1, (e100 _ _ g2).2, a1]
            by_cases g3 : tk c s.2.1 k ≤ cf_rm c - u
            · rw [if_pos g3, if_pos (by omega), Nat.sub_sub]
            · rw [if_neg g3, if_neg (by omega)]
          · rw [if_neg g2, if_neg (by omega)]
  · rw [if_neg gu, if_neg (fun z => by have := z.2; omega), sk_0, Nat.add_zero]
    intro k hk
    unfold mvW
    cases hx : nx c m s k with
    | none => rfl
    | some s' =>
      show (if u + tk c s.2.1 k < 100 then WW c m g (100 * si s' + (u + tk c s.2.1 k)) else 0) = 0
      by_cases g2 : u + tk c s.2.1 k < 100
      · rw [if_pos g2]
        cases g with
        | zero => rfl
        | succ g =>
          show (if (100 * si s' + (u + tk c s.2.1 k)) % 100 ≤ cf_rm c then _ else 0) = 0
          rw [(e100 _ _ g2).2, if_neg (by omega)]
      · rw [if_neg g2]
theorem WW_t (hw : cf_wf c) (hl : m.length ≤ 12) {C : Nat → Nat} (hC : ∀ p, p < 18200 → C p ≠ 0 → ∃ s, wS c s ∧ p / 100 = si s) (g : Nat) : sk (fun p => C p * eW c m p) 18200 + sk (fun p => C p * sk (mvW c m (WW c m g) (st0 (p / 100)) (p % 100)) (cf_n c)) 18200 = wsum C (WW c m (g + 1)) := by
  rw [sk_ad]
  unfold wsum
  refine sk_cg _ (fun p hp => ?_)
  by_cases z : C p = 0
  · rw [z, Nat.zero_mul, Nat.zero_mul, Nat.zero_mul]
  · obtain ⟨s, h1, h2⟩ := hC p hp z
    rw [WW_s hw hl (by rw [h2, st0_of hw h1]; exact h1), Nat.mul_add]
end WWS

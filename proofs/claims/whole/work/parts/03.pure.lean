/-! THE PURE MACHINE: memory by numbers of cells; instructions as transformers of a goal; no heap, no frames. -/
/-- memory: the cells' types (class number, fields; or 100 int[], 101 long[], 102 byte[], 103 boolean[], 104 Row[], 105 Text[], length), and what they hold -/
abbrev pm_M : Type := List (Nat × Nat) × (Nat → Nat → Int32) × (Nat → Nat → Int64) × (Nat → Nat → Option Nat)
abbrev pm_L : Type := List (Option Value)
def gI (M : pm_M) (k i : Nat) : Int32 := M.2.1 k i
def gL (M : pm_M) (k i : Nat) : Int64 := M.2.2.1 k i
def gR (M : pm_M) (k i : Nat) : Option Nat := M.2.2.2 k i
def sI (M : pm_M) (k i : Nat) (v : Int32) : pm_M := (M.1, fun a b => if a = k ∧ b = i then v else M.2.1 a b, M.2.2.1, M.2.2.2)
def sL (M : pm_M) (k i : Nat) (v : Int64) : pm_M := (M.1, M.2.1, fun a b => if a = k ∧ b = i then v else M.2.2.1 a b, M.2.2.2)
def sR (M : pm_M) (k i : Nat) (v : Option Nat) : pm_M := (M.1, M.2.1, M.2.2.1, fun a b => if a = k ∧ b = i then v else M.2.2.2 a b)
def pm_cp (M : pm_M) (src dst sp dp n : Nat) : pm_M := (M.1, fun a b => if a = dst ∧ dp ≤ b ∧ b < dp + n then M.2.1 src (sp + (b - dp)) else M.2.1 a b, M.2.2.1, M.2.2.2)
def pm_nw (M : pm_M) (c N : Nat) : pm_M := (M.1 ++ [(c, N)], fun a b => if a = M.1.length then 0 else M.2.1 a b, fun a b => if a = M.1.length then 0 else M.2.2.1 a b, fun a b => if a = M.1.length then none else M.2.2.2 a b)
def pm_v (r : Option Nat) : Value := match r with
  | none => .null
  | some a => .ref a
def pm_wide (v : Option Value) : Bool := match v with
  | some (.long _) => true
  | some (.double _) => true
  | _ => false
def pm_st1 (L : pm_L) (i : Nat) (v : Value) : pm_L := match i with
  | 0 => L.set 0 (some v)
  | i + 1 => (if pm_wide (L.getD i none) then L.set i none else L).set (i + 1) (some v)
def pm_st2 (L : pm_L) (i : Nat) (v : Value) : pm_L := (pm_st1 L i v).set (i + 1) none
def pm_in0 : List Value → pm_L
  | [] => []
  | v :: vs => if pm_wide (some v) then some v :: none :: pm_in0 vs else some v :: pm_in0 vs
def pm_init (n : Nat) (A : List Value) : pm_L := pm_in0 A ++ List.replicate (n - (pm_in0 A).length) none
abbrev pm_Cr : Type := Nat → List Value → pm_M → Option Value → pm_M → Prop
abbrev pm_Rc : Type := Nat → pm_L → List Value → pm_M → Prop
abbrev pm_Sem : Type := pm_Cr → (Option Value → pm_M → Prop) → pm_Rc → pm_L → List Value → pm_M → Prop
def pm_WP (call : pm_Cr) (cd : List (Nat × pm_Sem)) (Q : Option Value → pm_M → Prop) (pc : Nat) (L : pm_L) (st : List Value) (M : pm_M) : Prop :=
  ∀ P : pm_Rc, (∀ (pc : Nat) (L : pm_L) (st : List Value) (M : pm_M) (sem : pm_Sem), cd.lookup pc = some sem → sem call Q P L st M → P pc L st M) → P pc L st M
/-! the instructions -/
def op_k (v : Value) (nx : Nat) : pm_Sem := fun _ _ rec L st M => rec nx L (v :: st) M
def op_ild (i nx : Nat) : pm_Sem := fun _ _ rec L st M => ∃ x : Int32, L[i]? = some (some (.int x)) ∧ rec nx L (.int x :: st) M
def op_lld (i nx : Nat) : pm_Sem := fun _ _ rec L st M => ∃ x : Int64, L[i]? = some (some (.long x)) ∧ rec nx L (.long x :: st) M
def op_ald (i nx : Nat) : pm_Sem := fun _ _ rec L st M => ∃ x : Nat, L[i]? = some (some (.ref x)) ∧ rec nx L (.ref x :: st) M
def op_ist (i nx : Nat) : pm_Sem := fun _ _ rec L st M => ∃ (x : Int32) (st' : List Value), st = .int x :: st' ∧ rec nx (pm_st1 L i (.int x)) st' M
def op_lst (i nx : Nat) : pm_Sem := fun _ _ rec L st M => ∃ (x : Int64) (st' : List Value), st = .long x :: st' ∧ rec nx (pm_st2 L i (.long x)) st' M
def op_ast (i nx : Nat) : pm_Sem := fun _ _ rec L st M => ∃ (x : Nat) (st' : List Value), st = .ref x :: st' ∧ rec nx (pm_st1 L i (.ref x)) st' M
def op_inc (i : Nat) (n : Int32) (nx : Nat) : pm_Sem := fun _ _ rec L st M => ∃ x : Int32, L[i]? = some (some (.int x)) ∧ rec nx (pm_st1 L i (.int (x + n))) st M
def op_ib (f : Int32 → Int32 → Int32) (nx : Nat) : pm_Sem := fun _ _ rec L st M => ∃ (x y : Int32) (st' : List Value), st = .int y :: .int x :: st' ∧ rec nx L (.int (f x y) :: st') M
def op_idv (f : Int32 → Int32 → Int32) (nx : Nat) : pm_Sem := fun _ _ rec L st M => ∃ (x y : Int32) (st' : List Value), st = .int y :: .int x :: st' ∧ ¬ y = 0 ∧ rec nx L (.int (f x y) :: st') M
def op_lb (f : Int64 → Int64 → Int64) (nx : Nat) : pm_Sem := fun _ _ rec L st M => ∃ (x y : Int64) (st' : List Value), st = .long y :: .long x :: st' ∧ rec nx L (.long (f x y) :: st') M
def op_ldv (f : Int64 → Int64 → Int64) (nx : Nat) : pm_Sem := fun _ _ rec L st M => ∃ (x y : Int64) (st' : List Value), st = .long y :: .long x :: st' ∧ ¬ y = 0 ∧ rec nx L (.long (f x y) :: st') M
def op_iu (f : Int32 → Int32) (nx : Nat) : pm_Sem := fun _ _ rec L st M => ∃ (x : Int32) (st' : List Value), st = .int x :: st' ∧ rec nx L (.int (f x) :: st') M
def op_i2l (nx : Nat) : pm_Sem := fun _ _ rec L st M => ∃ (x : Int32) (st' : List Value), st = .int x :: st' ∧ rec nx L (.long x.toInt64 :: st') M
def op_l2i (nx : Nat) : pm_Sem := fun _ _ rec L st M => ∃ (x : Int64) (st' : List Value), st = .long x :: st' ∧ rec nx L (.int x.toInt32 :: st') M
def op_lcmp (nx : Nat) : pm_Sem := fun _ _ rec L st M => ∃ (x y : Int64) (st' : List Value), st = .long y :: .long x :: st' ∧ rec nx L (.int (lg_cmp x y) :: st') M
def op_b2 (c : Int32 → Int32 → Prop) (tg nx : Nat) : pm_Sem := fun _ _ rec L st M => ∃ (x y : Int32) (st' : List Value), st = .int y :: .int x :: st' ∧ (c x y → rec tg L st' M) ∧ (¬ c x y → rec nx L st' M)
def op_b1 (c : Int32 → Prop) (tg nx : Nat) : pm_Sem := fun _ _ rec L st M => ∃ (x : Int32) (st' : List Value), st = .int x :: st' ∧ (c x → rec tg L st' M) ∧ (¬ c x → rec nx L st' M)
def op_go (tg : Nat) : pm_Sem := fun _ _ rec L st M => rec tg L st M
def op_dup (nx : Nat) : pm_Sem := fun _ _ rec L st M => ∃ (v : Value) (st' : List Value), st = v :: st' ∧ v.category = 1 ∧ rec nx L (v :: v :: st') M
def op_dup2 (nx : Nat) : pm_Sem := fun _ _ rec L st M => ∃ (v w : Value) (st' : List Value), st = v :: w :: st' ∧ v.category = 1 ∧ w.category = 1 ∧ rec nx L (v :: w :: v :: w :: st') M
def op_sw (f : Int32 → Nat) : pm_Sem := fun _ _ rec L st M => ∃ (x : Int32) (st' : List Value), st = .int x :: st' ∧ rec (f x) L st' M
def op_gI (c N f nx : Nat) : pm_Sem := fun _ _ rec L st M => ∃ (k : Nat) (st' : List Value), st = .ref k :: st' ∧ M.1[k]? = some (c, N) ∧ rec nx L (.int (gI M k f) :: st') M
def op_gL (c N f nx : Nat) : pm_Sem := fun _ _ rec L st M => ∃ (k : Nat) (st' : List Value), st = .ref k :: st' ∧ M.1[k]? = some (c, N) ∧ rec nx L (.long (gL M k f) :: st') M
def op_gR (c N f nx : Nat) : pm_Sem := fun _ _ rec L st M => ∃ (k : Nat) (st' : List Value), st = .ref k :: st' ∧ M.1[k]? = some (c, N) ∧ rec nx L (pm_v (gR M k f) :: st') M
def op_pI (c N f nx : Nat) : pm_Sem := fun _ _ rec L st M => ∃ (v : Int32) (k : Nat) (st' : List Value), st = .int v :: .ref k :: st' ∧ M.1[k]? = some (c, N) ∧ rec nx L st' (sI M k f v)
def op_pL (c N f nx : Nat) : pm_Sem := fun _ _ rec L st M => ∃ (v : Int64) (k : Nat) (st' : List Value), st = .long v :: .ref k :: st' ∧ M.1[k]? = some (c, N) ∧ rec nx L st' (sL M k f v)
def op_pR (c N f nx : Nat) : pm_Sem := fun _ _ rec L st M => ∃ (v : Nat) (k : Nat) (st' : List Value), st = .ref v :: .ref k :: st' ∧ M.1[k]? = some (c, N) ∧ rec nx L st' (sR M k f (some v))
def op_iald (nx : Nat) : pm_Sem := fun _ _ rec L st M => ∃ (i : Int32) (k n : Nat) (st' : List Value), st = .int i :: .ref k :: st' ∧ M.1[k]? = some (100, n) ∧ vp_in i n ∧ rec nx L (.int (gI M k i.toNatClampNeg) :: st') M
def op_lald (nx : Nat) : pm_Sem := fun _ _ rec L st M => ∃ (i : Int32) (k n : Nat) (st' : List Value), st = .int i :: .ref k :: st' ∧ M.1[k]? = some (101, n) ∧ vp_in i n ∧ rec nx L (.long (gL M k i.toNatClampNeg) :: st') M
def op_bald (t nx : Nat) : pm_Sem := fun _ _ rec L st M => ∃ (i : Int32) (k n : Nat) (st' : List Value), st = .int i :: .ref k :: st' ∧ M.1[k]? = some (t, n) ∧ vp_in i n ∧ rec nx L (.int (gI M k i.toNatClampNeg) :: st') M
def op_aald (t nx : Nat) : pm_Sem := fun _ _ rec L st M => ∃ (i : Int32) (k n : Nat) (st' : List Value), st = .int i :: .ref k :: st' ∧ M.1[k]? = some (t, n) ∧ vp_in i n ∧ rec nx L (pm_v (gR M k i.toNatClampNeg) :: st') M
def op_iast (nx : Nat) : pm_Sem := fun _ _ rec L st M => ∃ (x i : Int32) (k n : Nat) (st' : List Value), st = .int x :: .int i :: .ref k :: st' ∧ M.1[k]? = some (100, n) ∧ vp_in i n ∧ rec nx L st' (sI M k i.toNatClampNeg x)
def op_last (nx : Nat) : pm_Sem := fun _ _ rec L st M => ∃ (x : Int64) (i : Int32) (k n : Nat) (st' : List Value), st = .long x :: .int i :: .ref k :: st' ∧ M.1[k]? = some (101, n) ∧ vp_in i n ∧ rec nx L st' (sL M k i.toNatClampNeg x)
def op_bast (nx : Nat) : pm_Sem := fun _ _ rec L st M => ∃ (x i : Int32) (k n : Nat) (st' : List Value), st = .int x :: .int i :: .ref k :: st' ∧ M.1[k]? = some (102, n) ∧ vp_in i n ∧ rec nx L st' (sI M k i.toNatClampNeg x.toInt8.toInt32)
def op_zast (nx : Nat) : pm_Sem := fun _ _ rec L st M => ∃ (x i : Int32) (k n : Nat) (st' : List Value), st = .int x :: .int i :: .ref k :: st' ∧ M.1[k]? = some (103, n) ∧ vp_in i n ∧ rec nx L st' (sI M k i.toNatClampNeg (x &&& 1))
def op_aast (t c N nx : Nat) : pm_Sem := fun _ _ rec L st M => ∃ (v : Nat) (i : Int32) (k n : Nat) (st' : List Value), st = .ref v :: .int i :: .ref k :: st' ∧ M.1[k]? = some (t, n) ∧ M.1[v]? = some (c, N) ∧ vp_in i n ∧ rec nx L st' (sR M k i.toNatClampNeg (some v))
def op_alen (nx : Nat) : pm_Sem := fun _ _ rec L st M => ∃ (k t n : Nat) (st' : List Value), st = .ref k :: st' ∧ M.1[k]? = some (t, n) ∧ 100 ≤ t ∧ t ≤ 105 ∧ rec nx L (.int (Int32.ofNat n) :: st') M
def op_new (c N nx : Nat) : pm_Sem := fun _ _ rec L st M => rec nx L (.ref M.1.length :: st) (pm_nw M c N)
def op_nwa (t nx : Nat) : pm_Sem := fun _ _ rec L st M => ∃ (n : Int32) (st' : List Value), st = .int n :: st' ∧ ¬ n < 0 ∧ n.toNatClampNeg ≤ 1000000 ∧ rec nx L (.ref M.1.length :: st') (pm_nw M t n.toNatClampNeg)
def op_call (j na nx : Nat) : pm_Sem := fun call _ rec L st M => ∃ (As rest : List Value) (r : Option Value) (M' : pm_M), st = As.reverse ++ rest ∧ As.length = na ∧ (rest.map fun v => v.category).sum ≤ 8 ∧ call j As M r M' ∧ rec nx L (r.toList ++ rest) M'
def op_cav (j na c N nx : Nat) : pm_Sem := fun call _ rec L st M => ∃ (k : Nat) (As rest : List Value) (r : Option Value) (M' : pm_M), st = As.reverse ++ .ref k :: rest ∧ As.length = na ∧ M.1[k]? = some (c, N) ∧ (rest.map fun v => v.category).sum ≤ 8 ∧ call j (.ref k :: As) M r M' ∧ rec nx L (r.toList ++ rest) M'
def op_oin (nx : Nat) : pm_Sem := fun _ _ rec L st M => ∃ (k : Nat) (st' : List Value), st = .ref k :: st' ∧ (st'.map fun v => v.category).sum ≤ 8 ∧ rec nx L st' M
def op_acp (nx : Nat) : pm_Sem := fun _ _ rec L st M => ∃ (n dp sp : Int32) (dst src n0 n1 : Nat) (st' : List Value), st = .int n :: .int dp :: .ref dst :: .int sp :: .ref src :: st' ∧ M.1[src]? = some (100, n0) ∧ M.1[dst]? = some (100, n1) ∧ ¬ sp < 0 ∧ ¬ dp < 0 ∧ ¬ n < 0 ∧ sp.toNatClampNeg + n.toNatClampNeg ≤ n0 ∧ dp.toNatClampNeg + n.toNatClampNeg ≤ n1 ∧ (st'.map fun v => v.category).sum ≤ 8 ∧
  rec nx L st' (pm_cp M src dst sp.toNatClampNeg dp.toNatClampNeg n.toNatClampNeg)
def op_iret : pm_Sem := fun _ Q _ _ st M => ∃ v : Int32, st = [.int v] ∧ Q (some (.int v)) M
def op_zret : pm_Sem := fun _ Q _ _ st M => ∃ v : Int32, st = [.int v] ∧ v &&& 1 = v ∧ Q (some (.int v)) M
def op_lret : pm_Sem := fun _ Q _ _ st M => ∃ v : Int64, st = [.long v] ∧ Q (some (.long v)) M
def op_vret : pm_Sem := fun _ Q _ _ st M => st = [] ∧ Q none M

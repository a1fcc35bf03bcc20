/-! THE LOGICAL MACHINE. A world of n places; place k lies at the address B + k; a reference in a place, a local or on the stack is the place's number; the script (the law's array) is told by a float, at the address b. -/
abbrev lm_L : Type := Nat → va_E
abbrev lm_O : Type := List (Option Value)
abbrev lm_K : Type := Nat → lm_O → List Value → Nat → lm_L → Nat → Nat → Prop
abbrev lm_Q : Type := Option Value → Nat → lm_L → Prop
abbrev lm_X : Type := String → Nat → lm_L → Prop
abbrev lm_S : Type := List Value → Nat → lm_L → lm_Q → lm_X → Prop
/-- a callee as a caller sees it: how many values it takes (the receiver among them), its receiver's kind, what it does, the cells and slots that it may make -/
abbrev lm_C : Type := Nat × Nat × lm_S × Nat × Nat
/-- fields: pool number to (kind of object, place of the field, type: 0 int, 1 boolean, 2 a reference, final) -/
abbrev lm_E : Type := (Nat → Option (Nat × Nat × Nat)) × (Nat → Option lm_C) × (Nat → Option lm_C) × (Nat → Option lm_C) × (Nat → Option Int32) × (Nat → Option String) × (Nat → String → Option Nat) × (Nat → ClassId) × Option (Nat × (Nat → Int32)) × (Nat → Option (Nat × List Value)) × Nat × Nat × Bool × Option Nat × Bool
abbrev lm_fld (E : lm_E) : Nat → Option (Nat × Nat × Nat) := E.1
abbrev lm_cv (E : lm_E) : Nat → Option lm_C := E.2.1
abbrev lm_cs (E : lm_E) : Nat → Option lm_C := E.2.2.1
abbrev lm_ci (E : lm_E) : Nat → Option lm_C := E.2.2.2.1
abbrev lm_kon (E : lm_E) : Nat → Option Int32 := E.2.2.2.2.1
abbrev lm_thr (E : lm_E) : Nat → Option String := E.2.2.2.2.2.1
abbrev lm_ct (E : lm_E) : Nat → String → Option Nat := E.2.2.2.2.2.2.1
abbrev lm_id (E : lm_E) : Nat → ClassId := E.2.2.2.2.2.2.2.1
abbrev lm_scr (E : lm_E) : Option (Nat × (Nat → Int32)) := E.2.2.2.2.2.2.2.2.1
abbrev lm_new (E : lm_E) : Nat → Option (Nat × List Value) := E.2.2.2.2.2.2.2.2.2.1
abbrev lm_mc (E : lm_E) : Nat := E.2.2.2.2.2.2.2.2.2.2.1
abbrev lm_ms (E : lm_E) : Nat := E.2.2.2.2.2.2.2.2.2.2.2.1
abbrev lm_ini (E : lm_E) : Bool := E.2.2.2.2.2.2.2.2.2.2.2.2.1
abbrev lm_cpj (E : lm_E) : Option Nat := E.2.2.2.2.2.2.2.2.2.2.2.2.2.1
abbrev lm_alc (E : lm_E) : Bool := E.2.2.2.2.2.2.2.2.2.2.2.2.2.2
def lm_ldi (lo : lm_O) (i : Nat) (k : Int32 → Prop) : Prop := match lo[i]? with
  | some (some (.int x)) => k x
  | _ => False
def lm_lda (lo : lm_O) (i : Nat) (k : Value → Prop) : Prop := match lo[i]? with
  | some (some (.ref a)) => k (.ref a)
  | some (some .null) => k .null
  | some (some (.float f)) => k (.float f)
  | _ => False
def lm_s1 (st : List Value) (k : Int32 → List Value → Prop) : Prop := match st with
  | .int x :: r => k x r
  | _ => False
def lm_s2 (st : List Value) (k : Int32 → Int32 → List Value → Prop) : Prop := match st with
  | .int y :: .int x :: r => k x y r
  | _ => False
def lm_sr (st : List Value) (k : Nat → List Value → Prop) : Prop := match st with
  | .ref a :: r => k a r
  | _ => False
/-- an object of the kind ci: its fields -/
def lm_ob (c : va_E) (ci : Nat) (k : List Value → Prop) : Prop := match c with
  | .inr o => o.1 = ci ∧ k o.2
  | .inl _ => False
/-- an array of ints (or booleans) of the class cA -/
def lm_ia (c : va_E) (cA : ClassId) (k : Nat → (Nat → Int32) → Prop) : Prop := match c with
  | .inl (c1, len, .inl f) => c1 = cA ∧ k len f
  | _ => False
def lm_la (c : va_E) (cA : ClassId) (k : Nat → (Nat → Int64) → Prop) : Prop := match c with
  | .inl (c1, len, .inr (.inl f)) => c1 = cA ∧ k len f
  | _ => False
def lm_qa (c : va_E) (k : ClassId → Nat → (Nat → Option Nat) → Prop) : Prop := match c with
  | .inl (c1, len, .inr (.inr (.inr (.inr f)))) => k c1 len f
  | _ => False
def lm_at {α : Type} (o : Option α) (k : α → Prop) : Prop := match o with
  | some v => k v
  | none => False
/-- what a field of the type ty takes -/
def lm_fit (E : lm_E) (ty : Nat) (v : Value) : Prop := match ty, v with
  | 0, .int _ => True
  | 1, .int x => x = 0 ∨ x = 1
  | 2, .ref _ => lm_ini E = true
  | _, _ => False
def lm_pop : Nat → List Value → List Value → (List Value → List Value → Prop) → Prop
  | 0, st, acc, k => k acc st
  | m + 1, v :: st, acc, k => lm_pop m st (v :: acc) k
  | _ + 1, [], _, _ => False
def lm_to (pc : Nat) (off : Int) (k : Nat → Prop) : Prop := 0 ≤ (pc : Int) + off ∧ k ((pc : Int) + off).toNat
/-- a call: what it may throw goes to a row of the table here, or on to the caller -/
def lm_do (E : lm_E) (X : lm_X) (K : lm_K) (pc : Nat) (lo : lm_O) (r : List Value) (wp : lm_S) (mc ms : Nat) (As : List Value) (n : Nat) (L : lm_L) (bc bs : Nat) : Prop :=
  bc + mc ≤ lm_mc E ∧ bs + ms ≤ lm_ms E ∧ (r.map fun v => v.category).sum ≤ 8 ∧
  wp As n L (fun rv n1 L1 => K (pc + 3) lo (rv.toList ++ r) n1 L1 (bc + mc) (bs + ms)) (fun en n1 L1 => match lm_ct E pc en with
    | some h => ∀ k : Nat, K h lo [.retAddr k] n1 L1 (bc + mc) (bs + ms)
    | none => X en n1 L1)
def lm_step (E : lm_E) (Q : lm_Q) (X : lm_X) (K : lm_K) (i : Instr) (len pc : Nat) (lo : lm_O) (st : List Value) (n : Nat) (L : lm_L) (bc bs : Nat) : Prop :=
  match i with
  | .iconst v => len = 1 ∧ K (pc + 1) lo (.int (Int32.ofInt v) :: st) n L bc bs
  | .bipush v => len = 2 ∧ K (pc + 2) lo (.int (Int8.ofInt v).toInt32 :: st) n L bc bs
  | .sipush v => len = 3 ∧ K (pc + 3) lo (.int (Int16.ofInt v).toInt32 :: st) n L bc bs
  | .aconst_null => len = 1 ∧ K (pc + 1) lo (.null :: st) n L bc bs
  | .ldc j => len = 2 ∧ lm_at (lm_kon E j) fun v => K (pc + 2) lo (.int v :: st) n L bc bs
  | .iload_n j => len = 1 ∧ lm_ldi lo j.val fun x => K (pc + 1) lo (.int x :: st) n L bc bs
  | .iload j => len = 2 ∧ lm_ldi lo j fun x => K (pc + 2) lo (.int x :: st) n L bc bs
  | .aload_n j => len = 1 ∧ lm_lda lo j.val fun x => K (pc + 1) lo (x :: st) n L bc bs
  | .aload j => len = 2 ∧ lm_lda lo j fun x => K (pc + 2) lo (x :: st) n L bc bs
  | .istore_n j => len = 1 ∧ j.val < lo.length ∧ lm_s1 st fun x r => K (pc + 1) (lo.set j.val (some (.int x))) r n L bc bs
  | .istore j => len = 2 ∧ j < lo.length ∧ lm_s1 st fun x r => K (pc + 2) (lo.set j (some (.int x))) r n L bc bs
  | .astore_n j => len = 1 ∧ j.val < lo.length ∧ (match st with
    | .ref a :: r => K (pc + 1) (lo.set j.val (some (.ref a))) r n L bc bs
    | .null :: r => K (pc + 1) (lo.set j.val (some .null)) r n L bc bs
    | .retAddr a :: r => K (pc + 1) (lo.set j.val (some (.retAddr a))) r n L bc bs
    | _ => False)
  | .astore j => len = 2 ∧ j < lo.length ∧ (match st with
    | .ref a :: r => K (pc + 2) (lo.set j (some (.ref a))) r n L bc bs
    | .null :: r => K (pc + 2) (lo.set j (some .null)) r n L bc bs
    | .retAddr a :: r => K (pc + 2) (lo.set j (some (.retAddr a))) r n L bc bs
    | _ => False)
  | .iinc j v => len = 3 ∧ j < lo.length ∧ lm_ldi lo j fun x => K (pc + 3) (lo.set j (some (.int (x + Int32.ofInt v)))) st n L bc bs
  | .iadd => len = 1 ∧ lm_s2 st fun x y r => K (pc + 1) lo (.int (x + y) :: r) n L bc bs
  | .isub => len = 1 ∧ lm_s2 st fun x y r => K (pc + 1) lo (.int (x - y) :: r) n L bc bs
  | .imul => len = 1 ∧ lm_s2 st fun x y r => K (pc + 1) lo (.int (x * y) :: r) n L bc bs
  | .iand => len = 1 ∧ lm_s2 st fun x y r => K (pc + 1) lo (.int (x &&& y) :: r) n L bc bs
  | .ixor => len = 1 ∧ lm_s2 st fun x y r => K (pc + 1) lo (.int (x ^^^ y) :: r) n L bc bs
  | .idiv => len = 1 ∧ lm_s2 st fun x y r => (¬ y = 0) ∧ K (pc + 1) lo (.int (x / y) :: r) n L bc bs
  | .irem => len = 1 ∧ lm_s2 st fun x y r => (¬ y = 0) ∧ K (pc + 1) lo (.int (x - x / y * y) :: r) n L bc bs
  | .i2l => len = 1 ∧ lm_s1 st fun x r => K (pc + 1) lo (.long x.toInt64 :: r) n L bc bs
  | .lcmp => len = 1 ∧ (match st with
    | .long y :: .long x :: r => K (pc + 1) lo (.int (lg_cmp x y) :: r) n L bc bs
    | _ => False)
  | .dup => len = 1 ∧ (match st with
    | v :: r => v.category = 1 ∧ K (pc + 1) lo (v :: v :: r) n L bc bs
    | _ => False)
  | .dup2 => len = 1 ∧ (match st with
    | v :: u :: r => v.category = 1 ∧ u.category = 1 ∧ K (pc + 1) lo (v :: u :: v :: u :: r) n L bc bs
    | _ => False)
  | .pop => len = 1 ∧ (match st with
    | v :: r => v.category = 1 ∧ K (pc + 1) lo r n L bc bs
    | _ => False)
  | .goto o => len = 3 ∧ lm_to pc o fun t => K t lo st n L bc bs
  | .ifCond .eq o => len = 3 ∧ 0 ≤ (pc : Int) + o ∧ lm_s1 st fun x r => (x = 0 → K ((pc : Int) + o).toNat lo r n L bc bs) ∧ (¬ x = 0 → K (pc + 3) lo r n L bc bs)
  | .ifCond .ne o => len = 3 ∧ 0 ≤ (pc : Int) + o ∧ lm_s1 st fun x r => ((¬ x = 0) → K ((pc : Int) + o).toNat lo r n L bc bs) ∧ (x = 0 → K (pc + 3) lo r n L bc bs)
  | .ifCond .lt o => len = 3 ∧ 0 ≤ (pc : Int) + o ∧ lm_s1 st fun x r => (x < 0 → K ((pc : Int) + o).toNat lo r n L bc bs) ∧ (¬ x < 0 → K (pc + 3) lo r n L bc bs)
  | .ifCond .ge o => len = 3 ∧ 0 ≤ (pc : Int) + o ∧ lm_s1 st fun x r => ((¬ x < 0) → K ((pc : Int) + o).toNat lo r n L bc bs) ∧ (x < 0 → K (pc + 3) lo r n L bc bs)
  | .ifCond .gt o => len = 3 ∧ 0 ≤ (pc : Int) + o ∧ lm_s1 st fun x r => ((¬ x ≤ 0) → K ((pc : Int) + o).toNat lo r n L bc bs) ∧ (x ≤ 0 → K (pc + 3) lo r n L bc bs)
  | .ifCond .le o => len = 3 ∧ 0 ≤ (pc : Int) + o ∧ lm_s1 st fun x r => (x ≤ 0 → K ((pc : Int) + o).toNat lo r n L bc bs) ∧ (¬ x ≤ 0 → K (pc + 3) lo r n L bc bs)
  | .if_icmp .eq o => len = 3 ∧ 0 ≤ (pc : Int) + o ∧ lm_s2 st fun x y r => (x = y → K ((pc : Int) + o).toNat lo r n L bc bs) ∧ (¬ x = y → K (pc + 3) lo r n L bc bs)
  | .if_icmp .ne o => len = 3 ∧ 0 ≤ (pc : Int) + o ∧ lm_s2 st fun x y r => ((¬ x = y) → K ((pc : Int) + o).toNat lo r n L bc bs) ∧ (x = y → K (pc + 3) lo r n L bc bs)
  | .if_icmp .lt o => len = 3 ∧ 0 ≤ (pc : Int) + o ∧ lm_s2 st fun x y r => (x < y → K ((pc : Int) + o).toNat lo r n L bc bs) ∧ (¬ x < y → K (pc + 3) lo r n L bc bs)
  | .if_icmp .ge o => len = 3 ∧ 0 ≤ (pc : Int) + o ∧ lm_s2 st fun x y r => ((¬ x < y) → K ((pc : Int) + o).toNat lo r n L bc bs) ∧ (x < y → K (pc + 3) lo r n L bc bs)
  | .if_icmp .gt o => len = 3 ∧ 0 ≤ (pc : Int) + o ∧ lm_s2 st fun x y r => ((¬ x ≤ y) → K ((pc : Int) + o).toNat lo r n L bc bs) ∧ (x ≤ y → K (pc + 3) lo r n L bc bs)
  | .if_icmp .le o => len = 3 ∧ 0 ≤ (pc : Int) + o ∧ lm_s2 st fun x y r => (x ≤ y → K ((pc : Int) + o).toNat lo r n L bc bs) ∧ (¬ x ≤ y → K (pc + 3) lo r n L bc bs)
  | .ifnonnull o => len = 3 ∧ (match st with
    | .ref _ :: r => lm_to pc o fun t => K t lo r n L bc bs
    | .null :: r => K (pc + 3) lo r n L bc bs
    | _ => False)
  | .tableswitch d a b os => lm_s1 st fun x r => (x.toInt < a ∨ b < x.toInt → lm_to pc d fun t => K t lo r n L bc bs) ∧ (¬ x.toInt < a → ¬ b < x.toInt → lm_at os[(x.toInt - a).toNat]? fun o => lm_to pc o fun t => K t lo r n L bc bs)
  | .getfield j => len = 3 ∧ lm_sr st fun q r => lm_at (lm_fld E j) fun f => q < n ∧ lm_ob (L q) f.1 fun fs => lm_at fs[f.2.1]? fun v => K (pc + 3) lo (v :: r) n L bc bs
  | .putfield j => len = 3 ∧ (match st with
    | v :: .ref q :: r => lm_at (lm_fld E j) fun f => q < n ∧ lm_fit E f.2.2 v ∧ lm_ob (L q) f.1 fun fs => f.2.1 < fs.length ∧ K (pc + 3) lo r n (va_up L q (.inr (f.1, fs.set f.2.1 v))) bc bs
    | _ => False)
  | .iaload => len = 1 ∧ (match st with
    | .int i :: .ref a :: r => a < n ∧ lm_ia (L a) (lm_id E 0) fun k f => vp_in i k ∧ K (pc + 1) lo (.int (f i.toNatClampNeg) :: r) n L bc bs
    | .int i :: .float _ :: r => lm_at (lm_scr E) fun q => vp_in i q.1 ∧ K (pc + 1) lo (.int (q.2 i.toNatClampNeg) :: r) n L bc bs
    | _ => False)
  | .baload => len = 1 ∧ (match st with
    | .int i :: .ref a :: r => a < n ∧ lm_ia (L a) (lm_id E 1) fun k f => vp_in i k ∧ K (pc + 1) lo (.int (f i.toNatClampNeg) :: r) n L bc bs
    | _ => False)
  | .laload => len = 1 ∧ (match st with
    | .int i :: .ref a :: r => a < n ∧ lm_la (L a) (lm_id E 2) fun k f => vp_in i k ∧ K (pc + 1) lo (.long (f i.toNatClampNeg) :: r) n L bc bs
    | _ => False)
  | .aaload => len = 1 ∧ (match st with
    | .int i :: .ref a :: r => a < n ∧ lm_qa (L a) fun c1 k f => (c1 = lm_id E 3 ∨ c1 = lm_id E 4) ∧ vp_in i k ∧ K (pc + 1) lo (va_rf (f i.toNatClampNeg) :: r) n L bc bs
    | _ => False)
  | .iastore => len = 1 ∧ (match st with
    | .int x :: .int i :: .ref a :: r => a < n ∧ lm_ia (L a) (lm_id E 0) fun k f => vp_in i k ∧ K (pc + 1) lo r n (va_up L a (.inl (lm_id E 0, k, .inl (upd f i.toNatClampNeg x)))) bc bs
    | _ => False)
  | .bastore => len = 1 ∧ (match st with
    | .int x :: .int i :: .ref a :: r => a < n ∧ (x = 0 ∨ x = 1) ∧ lm_ia (L a) (lm_id E 1) fun k f => vp_in i k ∧ K (pc + 1) lo r n (va_up L a (.inl (lm_id E 1, k, .inl (upd f i.toNatClampNeg x)))) bc bs
    | _ => False)
  | .lastore => len = 1 ∧ (match st with
    | .long x :: .int i :: .ref a :: r => a < n ∧ lm_la (L a) (lm_id E 2) fun k f => vp_in i k ∧ K (pc + 1) lo r n (va_up L a (.inl (lm_id E 2, k, .inr (.inl (vp_updL f i.toNatClampNeg x))))) bc bs
    | _ => False)
  | .arraylength => len = 1 ∧ (match st with
    | .ref a :: r => a < n ∧ (match L a with
      | .inl (c1, k, _) => (c1 = lm_id E 0 ∨ c1 = lm_id E 3 ∨ c1 = lm_id E 4) ∧ K (pc + 1) lo (.int (Int32.ofNat k) :: r) n L bc bs
      | .inr _ => False)
    | .float _ :: r => lm_at (lm_scr E) fun q => K (pc + 1) lo (.int (Int32.ofNat q.1) :: r) n L bc bs
    | _ => False)
  | .invokevirtual j => len = 3 ∧ lm_at (lm_cv E j) fun f => lm_pop f.1 st [] fun As r => (match As with
    | .ref q :: _ => q < n ∧ lm_ob (L q) f.2.1 fun _ => lm_do E X K pc lo r f.2.2.1 f.2.2.2.1 f.2.2.2.2 As n L bc bs
    | _ => False)
  | .invokestatic j => len = 3 ∧ (if lm_cpj E = some j then (match st with
      | .int k :: .int dp :: .ref a :: .int sp :: .ref a0 :: r => a0 = a ∧ a < n ∧ (r.map fun v => v.category).sum ≤ 8 ∧ lm_ia (L a) (lm_id E 0) fun N f => (¬ sp < 0) ∧ (¬ dp < 0) ∧ (¬ k < 0) ∧ sp.toNatClampNeg + k.toNatClampNeg ≤ N ∧ dp.toNatClampNeg + k.toNatClampNeg ≤ N ∧ K (pc + 3) lo r n (va_up L a (.inl (lm_id E 0, N, .inl (va_cpy f f sp.toNatClampNeg dp.toNatClampNeg k.toNatClampNeg)))) bc bs
      | _ => False)
    else lm_at (lm_cs E j) fun f => lm_pop f.1 st [] fun As r => lm_do E X K pc lo r f.2.2.1 f.2.2.2.1 f.2.2.2.2 As n L bc bs)
  | .invokespecial j => len = 3 ∧ lm_at (lm_ci E j) fun f => lm_pop f.1 st [] fun As r => (match As with
    | .ref _ :: _ => lm_do E X K pc lo r f.2.2.1 f.2.2.2.1 f.2.2.2.2 As n L bc bs
    | _ => False)
  | .newarray t => len = 2 ∧ lm_alc E = true ∧ lm_s1 st fun x r => (¬ x < 0) ∧ x.toNatClampNeg ≤ 2000 ∧ bc + 1 ≤ lm_mc E ∧ bs + x.toNatClampNeg ≤ lm_ms E ∧ (match t with
    | .int => K (pc + 2) lo (.ref n :: r) (n + 1) (va_up L n (.inl (lm_id E 0, x.toNatClampNeg, .inl (fun _ => 0)))) (bc + 1) (bs + x.toNatClampNeg)
    | .boolean => K (pc + 2) lo (.ref n :: r) (n + 1) (va_up L n (.inl (lm_id E 1, x.toNatClampNeg, .inl (fun _ => 0)))) (bc + 1) (bs + x.toNatClampNeg)
    | .long => K (pc + 2) lo (.ref n :: r) (n + 1) (va_up L n (.inl (lm_id E 2, x.toNatClampNeg, .inr (.inl (fun _ => 0))))) (bc + 1) (bs + x.toNatClampNeg)
    | _ => False)
  | .anewarray j => len = 3 ∧ lm_s1 st fun x r => lm_at (lm_new E j) fun f => f.1 < 2 ∧ (¬ x < 0) ∧ x.toNatClampNeg ≤ 2000 ∧ bc + 1 ≤ lm_mc E ∧ bs + x.toNatClampNeg ≤ lm_ms E ∧ K (pc + 3) lo (.ref n :: r) (n + 1) (va_up L n (.inl (lm_id E (3 + f.1), x.toNatClampNeg, .inr (.inr (.inr (.inr (fun _ => none))))))) (bc + 1) (bs + x.toNatClampNeg)
  | .aastore => len = 1 ∧ (match st with
    | .ref v :: .int i :: .ref a :: r => a < n ∧ v < n ∧ lm_qa (L a) fun c1 k f => ((c1 = lm_id E 3 ∧ lm_ob (L v) 0 fun _ => True) ∨ (c1 = lm_id E 4 ∧ lm_ob (L v) 1 fun _ => True)) ∧ vp_in i k ∧ K (pc + 1) lo r n (va_up L a (.inl (c1, k, .inr (.inr (.inr (.inr (va_up f i.toNatClampNeg (some v)))))))) bc bs
    | _ => False)
  | .ireturn => len = 1 ∧ (match st with
    | [.int x] => bc ≤ lm_mc E ∧ bs ≤ lm_ms E ∧ Q (some (.int x)) n L
    | _ => False)
  | .areturn => len = 1 ∧ (match st with
    | [.ref x] => bc ≤ lm_mc E ∧ bs ≤ lm_ms E ∧ Q (some (.ref x)) n L
    | [.null] => bc ≤ lm_mc E ∧ bs ≤ lm_ms E ∧ Q (some .null) n L
    | _ => False)
  | .return_ => len = 1 ∧ (match st with
    | [] => bc ≤ lm_mc E ∧ bs ≤ lm_ms E ∧ Q none n L
    | _ => False)
  | .new j => len = 3 ∧ (match lm_thr E pc with
    | some en => st = [] ∧ bc + 1 ≤ lm_mc E ∧ bs + 6 ≤ lm_ms E ∧ X en n L
    | none => lm_at (lm_new E j) fun f => bc + 1 ≤ lm_mc E ∧ bs + f.2.length ≤ lm_ms E ∧ K (pc + 3) lo (.ref n :: st) (n + 1) (va_up L n (.inr (f.1, f.2))) (bc + 1) (bs + f.2.length))
  | _ => False
/-- from pc on, step by step, to a place where 'stop' says so: there G -/
def lm_seg (E : lm_E) (cc : ByteArray) (Q : lm_Q) (X : lm_X) (stop : Nat → Bool) (G : lm_K) : Nat → lm_K
  | 0, _, _, _, _, _, _, _ => False
  | f + 1, pc, lo, st, n, L, bc, bs => match decode cc pc with
    | .ok (i, len) => lm_step E Q X (fun pc lo st n L bc bs => if stop pc = true then G pc lo st n L bc bs else lm_seg E cc Q X stop G f pc lo st n L bc bs) i len pc lo st n L bc bs
    | _ => False
/-- the machine comes, from there, to an end with Q (or X) -/
def lm_wp (E : lm_E) (cc : ByteArray) (Q : lm_Q) (X : lm_X) : lm_K := fun pc lo st n L bc bs =>
  ∀ G : lm_K, (∀ (stop : Nat → Bool) (f pc : Nat) (lo : lm_O) (st : List Value) (n : Nat) (L : lm_L) (bc bs : Nat), lm_seg E cc Q X stop G f pc lo st n L bc bs → G pc lo st n L bc bs) → G pc lo st n L bc bs

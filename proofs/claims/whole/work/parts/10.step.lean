/-! each step of the logical machine is a step of the machine -/
def lm_tys (E : lm_E) : List (ClassId × FieldType) := [(lm_id E 0, .int), (lm_id E 1, .boolean), (lm_id E 2, .long), (lm_id E 3, .object RX0), (lm_id E 4, .object RX1)]
/-- a class of the worlds: what its rows say -/
def lm_cls (ci : Nat) (C : String) (T : u_T) (N : Nat) : Prop := vwCl[ci]? = some (C, T, N) ∧ (∀ w ∈ u_ws C T N, w ∈ lm_WT) ∧ (∃ ty : Nat → FieldType, ∀ k, k < N → parseFieldDescriptor (T k).2.2.1 = some (ty k)) ∧ ∀ a, a < N → ∀ b, b < N → a ≠ b → (T a).2.1 ≠ (T b).2.1
def lm_fty (ty : Nat) (own : String) (ini : Bool) (d : String × String × String × Bool) : Prop := match ty with
  | 0 => d.2.2.2 = false ∧ parseFieldDescriptor d.2.2.1 = some .int
  | 1 => d.2.2.2 = false ∧ parseFieldDescriptor d.2.2.1 = some .boolean
  | _ => d.2.2.2 = true ∧ (ini = true → d.1 = own) ∧ ∃ t, parseFieldDescriptor d.2.2.1 = some (.array t)
section LMS
variable (p : Program) (l : Launch) (e : Env) (R : Room) (s : State) (m : MethodId) (args : Array Value) (below : List Frame) (meth : Method) (c : Code)
variable (D : va_G) (B b : Nat) (ex : Bool) (nL : Nat) (own : String) (cc : ByteArray) (E : lm_E) (Q : lm_Q) (X : lm_X) (QF : State → Prop)
def lm_G : lm_K := fun pc lo st n L bc bs => ∀ (H : Heap) (locs : List Loc) (ls : Array Slot), lm_Z ex B n H → va_P D vwCl (lm_w B b n L) H → va_S (lm_A B) s.heap H locs → lm_H B b nL lo ls →
  W p l e R s m args below meth c H locs bc bs QF (F0 m pc ls (st.map (lm_v B b)))
def lm_GX : Nat → lm_O → List Value → Nat → lm_L → Nat → Nat → String → Prop := fun pc lo st n L bc bs en => ∀ (H : Heap) (locs : List Loc) (ls : Array Slot) (q : Addr) (ce : Cell), lm_Z ex B n H → va_P D vwCl (lm_w B b n L) H → va_S (lm_A B) s.heap H locs → lm_H B b nL lo ls → H[q]? = some ce → ce.vm = .none → s.vm.findClass en = some ce.cls →
  vx_W p l e R s m args below meth c H locs bc bs QF (F0 m pc ls (st.map (lm_v B b))) q
/-- the machine's side of a method's surroundings -/
def lm_T : Prop :=
  p.tables.exec = Jvm.exec ∧ c.code = cc ∧ c.maxLocals = nL ∧ s.vm.findClass own = some m.cls ∧ (∀ w ∈ lm_WT, w.before args s = true) ∧ lm_cx D (lm_tys E) B s ∧ B ≤ s.heap.size ∧ (lm_ini E = true → meth.name = "<init>") ∧ lm_mc E ≤ R.cells ∧ lm_ms E ≤ R.slots ∧
  (∀ j f, lm_fld E j = some f → ∃ C T N, lm_cls f.1 C T N ∧ f.2.1 < N ∧ ((Cond.fieldLink own j (T f.2.1).1 (T f.2.1).2.1 (T f.2.1).2.2.1).before args s = true ∨ ∃ host, (Cond.fieldLinkNest own j (T f.2.1).1 (T f.2.1).2.1 (T f.2.1).2.2.1 host).before args s = true ∧ f.2.2 < 2) ∧ lm_fty f.2.2 own (lm_ini E) (T f.2.1)) ∧
  (∀ j f, lm_cv E j = some f → ∃ y c1 maxL ret rm C T N k, f.1 = k + 1 ∧ vwCl[f.2.1]? = some (C, T, N) ∧ lm_M l D (lm_tys E) B b ex y c1 maxL ret rm f.2.2.2.1 f.2.2.2.2 f.2.2.1 ∧ CallW R s args own C j y c1 maxL ret (.code y c1 maxL ret :: lm_WT) rm f.2.2.2.1 f.2.2.2.2 k) ∧
  (∀ j f, lm_cs E j = some f → (∃ y c1 maxL ret rm, lm_M l D (lm_tys E) B b ex y c1 maxL ret rm f.2.2.2.1 f.2.2.2.2 f.2.2.1 ∧ CallB R s args own j y c1 maxL ret (.code y c1 maxL ret :: lm_WT) rm f.2.2.2.1 f.2.2.2.2 f.1 ∧ (Cond.static y).before args s = true) ∨
    ∃ y c1 maxL ret hh rm, lm_MW l D (lm_tys E) B b ex y c1 maxL ret hh rm f.2.2.2.1 f.2.2.2.2 f.2.2.1 ∧ vx_CSW R s args own j y c1 maxL ret hh (.codeWith y c1 maxL ret hh :: lm_WT) rm f.2.2.2.1 f.2.2.2.2 f.1) ∧
  (∀ j v, lm_kon E j = some v → (Cond.constant own j v).before args s = true) ∧
  (∀ pc en lo n L bc bs, lm_thr E pc = some en → bc + 1 ≤ lm_mc E → bs + 6 ≤ lm_ms E → X en n L → lm_G p l e R s m args below meth c D B b ex nL QF pc lo [] n L bc bs) ∧
  (∀ pc en lo st n L bc bs, lm_ct E pc en = none → bc ≤ lm_mc E → bs ≤ lm_ms E → X en n L → lm_GX p l e R s m args below meth c D B b ex nL QF pc lo st n L bc bs en) ∧
  (∀ pc en h lo st n L bc bs, lm_ct E pc en = some h → (∀ k, lm_G p l e R s m args below meth c D B b ex nL QF h lo [.retAddr k] n L bc bs) → lm_GX p l e R s m args below meth c D B b ex nL QF pc lo st n L bc bs en) ∧
  (∀ pc lo x n L bc bs, decode cc pc = .ok (.ireturn, 1) → bc ≤ lm_mc E → bs ≤ lm_ms E → Q (some (.int x)) n L → lm_G p l e R s m args below meth c D B b ex nL QF pc lo [.int x] n L bc bs) ∧
  (∀ pc lo v n L bc bs, decode cc pc = .ok (.areturn, 1) → bc ≤ lm_mc E → bs ≤ lm_ms E → (v = .null ∨ ∃ k, v = .ref k) → Q (some v) n L → lm_G p l e R s m args below meth c D B b ex nL QF pc lo [v] n L bc bs) ∧
  (∀ pc lo n L bc bs, decode cc pc = .ok (.return_, 1) → bc ≤ lm_mc E → bs ≤ lm_ms E → Q none n L → lm_G p l e R s m args below meth c D B b ex nL QF pc lo [] n L bc bs) ∧
  (∀ q, lm_scr E = some q → va_X b q.1 q.2 s s.heap ∧ b < B ∧ b < s.heap.size) ∧
  (∀ j, lm_cpj E = some j → ex = false ∧ Cond.methodLink own j arraycopyName ∈ lm_WT ∧ Cond.native arraycopyName ∈ lm_WT ∧ Cond.static arraycopyName ∈ lm_WT ∧ Cond.initialized "java/lang/System" ∈ lm_WT ∧ 1 ≤ R.frames ∧ 8 + (nativeFrameWords "java/lang/System" "arraycopy" 5 + 11) ≤ R.locals) ∧
  (∀ j f, lm_new E j = some f → ∃ C T, ex = true ∧ lm_cls f.1 C T f.2.length ∧ Cond.classLink own j C ∈ lm_WT ∧ Cond.instantiable C f.2.length ∈ lm_WT ∧ Cond.initialized C ∈ lm_WT ∧ (∃ ty : Nat → FieldType, (∀ k, k < f.2.length → parseFieldDescriptor (T k).2.2.1 = some (ty k)) ∧ ∀ k, k < f.2.length → defaultValue (ty k) = vp_V f.2 k) ∧ f.2.map (lm_v B b) = f.2) ∧
  (lm_alc E = true → ex = true ∧ Cond.arrayClass .int ∈ lm_WT ∧ Cond.arrayClass .boolean ∈ lm_WT ∧ Cond.arrayClass .long ∈ lm_WT) ∧
  (∀ j f, lm_ci E j = some f → (f.1 = 1 ∧ f.2.2 = (fun _ n L post _ => post none n L, 0, 0) ∧ Cond.methodLink own j objectInit ∈ lm_WT ∧ Cond.instanceMethod objectInit ∈ lm_WT ∧ Cond.code objectInit ⟨#[0xb1]⟩ 1 none ∈ lm_WT ∧ 1 ≤ R.frames ∧ 20 ≤ R.locals) ∨
    ∃ y c1 maxL rm, f.1 = 1 ∧ y.name = "<init>" ∧ lm_M l D (lm_tys E) B b ex y c1 maxL none rm f.2.2.2.1 f.2.2.2.2 f.2.2.1 ∧ (∀ As n L post postX, f.2.2.1 As n L post postX → f.2.2.1 As n L post (fun _ _ _ => False)) ∧
      ((CallB R s args own j y c1 maxL none (.code y c1 maxL none :: lm_WT) rm f.2.2.2.1 f.2.2.2.2 0 ∧ y.name = "<init>" ∧ (Cond.instanceMethod y).before args s = true) ∨ ∃ host, va_CN R s args own j y host c1 maxL none (.code y c1 maxL none :: lm_WT) rm f.2.2.2.1 f.2.2.2.2 0 ∧ y.name = "<init>" ∧ (Cond.instanceMethod y).before args s = true))
end LMS

/-! a throw of SharedQueues: new, dup, ldc, the constructor, athrow -/
def lm_xn : List String := ["java/lang/RuntimeException", "java/lang/Exception"]
def lm_xw (cls : String) (ik ic : Nat) : Prop := (Cond.classLink RX2 ik cls ∈ lm_WT ∧ Cond.initialized cls ∈ lm_WT ∧ ∀ w ∈ (vx_atS RX2 ic cls lm_xn).filter goodWord, w ∈ lm_WT) ∧ (∀ w ∈ (vx_atS RX2 ic cls lm_xn).filter (fun w => !goodWord w), w ∈ lm_nest) ∧ (∀ w ∈ Cond.classLink RX2 ik cls :: Cond.initialized cls :: vx_atS RX2 ic cls lm_xn, vx_ot w = true) ∧ Bundle.fit cls = true
theorem lm_xn_fit : ∀ n ∈ lm_xn, Bundle.fit n = true := by decide +kernel
section LMX
variable {p : Program} {l : Launch} {e : Env} {R : Room} {s : State} {m : MethodId} {args : Array Value} {below : List Frame} {meth : Method} {c : Code} {D : va_G} {B b : Nat} {nL : Nat} {cc : ByteArray} {post : lm_Q} {X : lm_X} {mc ms : Nat} {tys : List (ClassId × FieldType)}
theorem lm_throw (hl : l.stackTraces = false) (hx : p.tables.exec = Jvm.exec) (hb : c.code = cc) (hml : c.maxLocals = nL) (hown : s.vm.findClass RX2 = some m.cls) (hts : ∀ w ∈ lm_WT, w.before args s = true) (hcx : lm_cx D tys B s) (htab : ∀ x ∈ c.exceptionTable.toList, False) (hlk : meth.locks = false)
    {cls : String} {ik is ic pc : Nat} {text : String} (hw : lm_xw cls ik ic) (hs : (is, text) ∈ lm_str)
    (d0 : decode cc pc = .ok (.new ik, 3)) (d3 : decode cc (pc + 3) = .ok (.dup, 1)) (d4 : decode cc (pc + 4) = .ok (.ldc is, 2)) (d6 : decode cc (pc + 6) = .ok (.invokespecial ic, 3)) (d9 : decode cc (pc + 9) = .ok (.athrow, 1))
    (hRf : 5 < R.frames) (hRl : 82 ≤ R.locals) (hRc : mc ≤ R.cells) (hRs : ms ≤ R.slots)
    {lo : lm_O} {n : Nat} {L : lm_L} {bc bs : Nat} (b1 : bc + 1 ≤ mc) (b2 : bs + 6 ≤ ms) (h : X cls n L) :
    lm_G p l e R s m args below meth c D B b false nL (vx_MQ below (lm_Qc D B b false post) (lm_XC D B b false X) args s mc ms (lm_A B)) pc lo [] n L bc bs := by
  intro H locs ls hZ hP hS hH
  obtain ⟨⟨w1, w2, w3⟩, w4, w5, w6⟩ := hw
  obtain ⟨sa, hstr⟩ := hcx.2.2.1 _ hs
  refine vx_throwS (own := RX2) (names := lm_xn) (A := lm_A B) (rest := []) hx hb hl hown w6 lm_xn_fit (hts _ w1) (hts _ w2) hstr ?_ w5 hcx.2.2.2.1 hcx.2.2.2.2.1 hS ?_ d0 d3 d4 d6 d9 (fun x hx9 => (htab x hx9).elim) hRf ?_ (Nat.le_trans b1 hRc) (Nat.le_trans b2 hRs) hlk ?_ hS.2.2 b1 b2
  · exact vx_hat (B := lm_nest) (fun w hw => hts w (w3 w hw)) w4 (fun w hw => va_Nw.use (lm_soft_on (lm_nest_soft w hw)) (hcx.2.1 w hw))
  · rw [hml]; exact hH.2.1.1
  · show 0 + (13 * 3 + 43) ≤ R.locals
    exact hRl
  · intro t hA hz hk
    refine ⟨n, L, h, ⟨Nat.le_trans hZ.1 hz, fun h9 => by cases h9⟩, lm_kept hP hk, Nat.le_trans hS.1 hz, fun q h1 h2 => ?_⟩
    rw [hk q (Nat.lt_of_lt_of_le h1 hS.1)]
    exact hS.2.1 q h1 h2
end LMX
abbrev lm_mk (fld : Nat → Option (Nat × Nat × Nat)) (cv cs : Nat → Option lm_C) (ci : Nat → Option lm_C) (kon : Nat → Option Int32) (thr : Nat → Option String) (nw : Nat → Option (Nat × List Value)) (ids : Nat → ClassId) (mc ms : Nat) (ini : Bool) (cp : Option Nat) (alc : Bool) : lm_E :=
  (fld, cv, cs, ci, kon, thr, fun _ _ => none, ids, none, nw, mc, ms, ini, cp, alc)
def lm_ty (ids : Nat → ClassId) : List (ClassId × FieldType) := [(ids 0, .int), (ids 1, .boolean), (ids 2, .long), (ids 3, .object RX0), (ids 4, .object RX1)]
/-- what a field table of the class own says -/
def lm_fok (own : String) (fld : Nat → Option (Nat × Nat × Nat)) (ini : Bool) : Prop := ∀ (D : va_G) (tys : List (ClassId × FieldType)) (B : Nat) (args : Array Value) (s : State), (∀ w ∈ lm_WT, w.before args s = true) → lm_cx D tys B s →
  ∀ j f, fld j = some f → ∃ C T N, lm_cls f.1 C T N ∧ f.2.1 < N ∧ ((Cond.fieldLink own j (T f.2.1).1 (T f.2.1).2.1 (T f.2.1).2.2.1).before args s = true ∨ ∃ host, (Cond.fieldLinkNest own j (T f.2.1).1 (T f.2.1).2.1 (T f.2.1).2.2.1 host).before args s = true ∧ f.2.2 < 2) ∧ lm_fty f.2.2 own ini (T f.2.1)
/-- the words of a virtual callee -/
def lm_yV (C : String) (y : MethodName) (c1 : ByteArray) (maxL : Nat) (ret : Option FieldType) : Prop := Cond.instanceMethod y ∈ lm_WT ∧ Cond.selects C y y ∈ lm_WT ∧ Cond.initialized C ∈ lm_WT ∧ Cond.code y c1 maxL ret ∈ lm_WT
def lm_yS (y : MethodName) (c1 : ByteArray) (maxL : Nat) (ret : Option FieldType) : Prop := Cond.static y ∈ lm_WT ∧ Cond.initialized y.cls ∈ lm_WT ∧ Cond.code y c1 maxL ret ∈ lm_WT
theorem lm_cwV {R : Room} {s : State} {args : Array Value} {own C : String} {j : Nat} {y : MethodName} {c1 : ByteArray} {maxL : Nat} {ret : Option FieldType} {rm : Room} {mc ms k : Nat} (hts : ∀ w ∈ lm_WT, w.before args s = true) (hy : lm_yV C y c1 maxL ret) (hlk : Cond.methodLink own j y ∈ lm_WT) (hrc : rm.cells = mc) (hrs : rm.slots = ms)
    (hd : y.cls = C ∧ y.cls ≠ "java/lang/invoke/MethodHandle" ∧ y.cls ≠ "java/lang/invoke/VarHandle" ∧ (parseMethodDescriptor y.desc).map (fun d => d.parameters.length) = some k) (hR : rm.frames + 1 ≤ R.frames ∧ 8 + (maxL + 11) + rm.locals ≤ R.locals) :
    CallW R s args own C j y c1 maxL ret (.code y c1 maxL ret :: lm_WT) rm mc ms k := by
  refine cwV (Ts := lm_WT) k hts ?_ rfl hrc hrs hd hR
  intro w hw
  have h9 : w ∈ lm_WT := by
    unfold wsV at hw
    rcases List.mem_append.mp hw with h | h
    · simp only [List.mem_cons, List.not_mem_nil, or_false] at h
      rcases h with rfl | rfl | rfl | rfl
      · exact hlk
      · exact hy.1
      · exact hy.2.1
      · exact hy.2.2.1
    · rcases List.mem_cons.mp h with e | e
      · rw [e]; exact hy.2.2.2
      · exact e
  exact ⟨h9, good_of_word (lm_wg h9)⟩
theorem lm_cwS {R : Room} {s : State} {args : Array Value} {own : String} {j : Nat} {y : MethodName} {c1 : ByteArray} {maxL : Nat} {ret : Option FieldType} {rm : Room} {mc ms k : Nat} (hts : ∀ w ∈ lm_WT, w.before args s = true) (hy : lm_yS y c1 maxL ret) (hlk : Cond.methodLink own j y ∈ lm_WT) (hrc : rm.cells = mc) (hrs : rm.slots = ms)
    (hd : y.cls ≠ "java/lang/invoke/MethodHandle" ∧ y.cls ≠ "java/lang/invoke/VarHandle" ∧ (parseMethodDescriptor y.desc).map (fun d => d.parameters.length) = some k) (hR : rm.frames + 1 ≤ R.frames ∧ 8 + (maxL + 11) + rm.locals ≤ R.locals) :
    CallB R s args own j y c1 maxL ret (.code y c1 maxL ret :: lm_WT) rm mc ms k ∧ (Cond.static y).before args s = true := by
  refine ⟨callB_of (Ts := lm_WT) k hts ?_ rfl hrc hrs (hts _ hy.2.1) (hts _ hlk) hd hR, hts _ hy.1⟩
  intro w hw
  have h9 : w ∈ lm_WT := by
    rcases List.mem_cons.mp hw with e | e
    · rw [e]; exact hy.2.2
    · exact e
  exact ⟨h9, good_of_word (lm_wg h9)⟩
/-- what a call table says, in the room R -/
def lm_cok (l : Launch) (D : va_G) (ids : Nat → ClassId) (B b : Nat) (ex : Bool) (own : String) (R : Room) (cv cs : Nat → Option lm_C) : Prop :=
  (∀ j f, cv j = some f → ∃ y c1 maxL ret rm C T N k, f.1 = k + 1 ∧ vwCl[f.2.1]? = some (C, T, N) ∧ lm_M l D (lm_ty ids) B b ex y c1 maxL ret rm f.2.2.2.1 f.2.2.2.2 f.2.2.1 ∧ lm_yV C y c1 maxL ret ∧ Cond.methodLink own j y ∈ lm_WT ∧ rm.cells = f.2.2.2.1 ∧ rm.slots = f.2.2.2.2 ∧
    (y.cls = C ∧ y.cls ≠ "java/lang/invoke/MethodHandle" ∧ y.cls ≠ "java/lang/invoke/VarHandle" ∧ (parseMethodDescriptor y.desc).map (fun d => d.parameters.length) = some k) ∧ (rm.frames + 1 ≤ R.frames ∧ 8 + (maxL + 11) + rm.locals ≤ R.locals)) ∧
  (∀ j f, cs j = some f → ∃ y c1 maxL ret rm, lm_M l D (lm_ty ids) B b ex y c1 maxL ret rm f.2.2.2.1 f.2.2.2.2 f.2.2.1 ∧ lm_yS y c1 maxL ret ∧ Cond.methodLink own j y ∈ lm_WT ∧ rm.cells = f.2.2.2.1 ∧ rm.slots = f.2.2.2.2 ∧
    (y.cls ≠ "java/lang/invoke/MethodHandle" ∧ y.cls ≠ "java/lang/invoke/VarHandle" ∧ (parseMethodDescriptor y.desc).map (fun d => d.parameters.length) = some f.1) ∧ (rm.frames + 1 ≤ R.frames ∧ 8 + (maxL + 11) + rm.locals ≤ R.locals))
/-- a throw table of SharedQueues: pc to the exception -/
def lm_xok (cc : ByteArray) (thr : Nat → Option String) : Prop := ∀ pc en, thr pc = some en → ∃ ik is ic text, lm_xw en ik ic ∧ (is, text) ∈ lm_str ∧ decode cc pc = .ok (.new ik, 3) ∧ decode cc (pc + 3) = .ok (.dup, 1) ∧ decode cc (pc + 4) = .ok (.ldc is, 2) ∧ decode cc (pc + 6) = .ok (.invokespecial ic, 3) ∧ decode cc (pc + 9) = .ok (.athrow, 1)
/-- an answer of the type -/
def lm_rt (ret : Option FieldType) (r : Option Value) : Prop := match ret, r with
  | none, none => True
  | some .int, some (.int _) => True
  | some .boolean, some (.int x) => x = 0 ∨ x = 1
  | some (.object _), some (.ref _) => True
  | some (.object _), some .null => True
  | _, _ => False
def lm_rq (ret : Option FieldType) (post : lm_Q) : lm_Q := fun r n L => lm_rt ret r ∧ post r n L
/-- what a constructor's tables say -/
def lm_aok (l : Launch) (D : va_G) (ids : Nat → ClassId) (B b : Nat) (ex : Bool) (own : String) (R : Room) (ci : Nat → Option lm_C) (nw : Nat → Option (Nat × List Value)) (cp : Option Nat) (alc : Bool) : Prop :=
  (∀ j, cp = some j → ex = false ∧ Cond.methodLink own j arraycopyName ∈ lm_WT ∧ Cond.native arraycopyName ∈ lm_WT ∧ Cond.static arraycopyName ∈ lm_WT ∧ Cond.initialized "java/lang/System" ∈ lm_WT ∧ 1 ≤ R.frames ∧ 8 + (nativeFrameWords "java/lang/System" "arraycopy" 5 + 11) ≤ R.locals) ∧
  (∀ j f, nw j = some f → ∃ C T, ex = true ∧ lm_cls f.1 C T f.2.length ∧ Cond.classLink own j C ∈ lm_WT ∧ Cond.instantiable C f.2.length ∈ lm_WT ∧ Cond.initialized C ∈ lm_WT ∧ (∃ ty : Nat → FieldType, (∀ k, k < f.2.length → parseFieldDescriptor (T k).2.2.1 = some (ty k)) ∧ ∀ k, k < f.2.length → defaultValue (ty k) = vp_V f.2 k) ∧ f.2.map (lm_v B b) = f.2) ∧
  (alc = true → ex = true ∧ Cond.arrayClass .int ∈ lm_WT ∧ Cond.arrayClass .boolean ∈ lm_WT ∧ Cond.arrayClass .long ∈ lm_WT) ∧
  (∀ j f, ci j = some f → (f.1 = 1 ∧ f.2.2 = (fun _ n L post _ => post none n L, 0, 0) ∧ Cond.methodLink own j objectInit ∈ lm_WT ∧ Cond.instanceMethod objectInit ∈ lm_WT ∧ Cond.code objectInit ⟨#[0xb1]⟩ 1 none ∈ lm_WT ∧ 1 ≤ R.frames ∧ 20 ≤ R.locals) ∨
    ∃ y c1 maxL rm, f.1 = 1 ∧ y.name = "<init>" ∧ lm_M l D (lm_ty ids) B b ex y c1 maxL none rm f.2.2.2.1 f.2.2.2.2 f.2.2.1 ∧ (∀ As n L post postX, f.2.2.1 As n L post postX → f.2.2.1 As n L post (fun _ _ _ => False)) ∧ rm.cells = f.2.2.2.1 ∧ rm.slots = f.2.2.2.2 ∧ rm.frames + 1 ≤ R.frames ∧ 8 + (maxL + 11) + rm.locals ≤ R.locals ∧ Cond.code y c1 maxL none ∈ lm_WT ∧ Cond.initialized y.cls ∈ lm_WT ∧ Cond.instanceMethod y ∈ lm_WT ∧
      (y.cls ≠ "java/lang/invoke/MethodHandle" ∧ y.cls ≠ "java/lang/invoke/VarHandle" ∧ (parseMethodDescriptor y.desc).map (fun d => d.parameters.length) = some 0) ∧ (Cond.methodLink own j y ∈ lm_WT ∨ ∃ host, Cond.methodLinkNest own j y host ∈ lm_nest))
theorem lm_ofW {l : Launch} {y : MethodName} {ws ws' : List Cond} {rm : Room} {Pc : Array Value → State → Prop} {Qc : Array Value → State → Outcome → State → Prop} {XC : String → State → State → Prop} {mc ms : Nat} {free : Addr → Prop} {cc : ByteArray} {maxL : Nat} {ret : Option FieldType}
    (hy : plainFor y = true) (hw : ws = Cond.code y cc maxL ret :: ws')
    (body : ∀ p e s m args below meth c s₁, BodyLoose p l y (headSpec ws rm) cc maxL ret e s m args below meth c s₁ → c.maxLocals = maxL → (∀ x ∈ c.exceptionTable.toList, False) → Pc args s →
      W p l e (headSpec ws rm).room s m args below meth c s.heap [] 0 0 (vx_MQ below Qc XC args s mc ms free) (entryFrame m args maxL)) : vx_Met l y ws rm Pc Qc XC mc ms free := by
  refine MetFree.of_bodySF (code := cc) (maxLocals := maxL) (ret := ret) hy ?_ ?_
  · intro args s m h hn
    obtain ⟨meth, c, h1, h2, h3, h4, h5, h6, -, -⟩ := Cond.code_spec hn (atoms_spec (ws := ws) h _ (by rw [hw]; exact List.mem_cons_self))
    exact ⟨meth, c, h1, h2, h3, h4, h5, h6⟩
  · intro p e s m args below meth c s₁ B hml hP _
    have hh0 : s₁.heap = s.heap := by rw [B.state]; rfl
    have ht : ∀ x ∈ c.exceptionTable.toList, False := by
      obtain ⟨meth9, c9, h1, h2, -, -, -, -, h7, -⟩ := Cond.code_spec B.named (atoms_spec (ws := ws) B.pre _ (by rw [hw]; exact List.mem_cons_self))
      cases Option.some.inj (h1.symm.trans B.method)
      cases Option.some.inj (h2.symm.trans (Stand.of_body B).code)
      intro x hx
      rw [Array.isEmpty_iff.mp h7] at hx
      cases hx
    obtain ⟨t, a1, o, b1, b2, b3⟩ := body p e s m args below meth c s₁ B hml ht hP s₁ hh0 (Stand.of_body B)
    exact ⟨t, o, a1, b1, b2, b3⟩
/-- A METHOD WITHOUT A TABLE OF ITS OWN: out of the logical walk of its body -/
theorem lm_method {l : Launch} {D : va_G} {ids : Nat → ClassId} {B b : Nat} {ex : Bool} {own : String} {y : MethodName} {cc : ByteArray} {maxL : Nat} {ret : Option FieldType} {rm : Room} {mc ms : Nat} {fld : Nat → Option (Nat × Nat × Nat)} {cv cs : Nat → Option lm_C} {ci : Nat → Option lm_C} {kon : Nat → Option Int32} {thr : Nat → Option String} {nw : Nat → Option (Nat × List Value)} {ini : Bool} {cp : Option Nat} {alc : Bool} {wp : lm_S}
    (hp : plainFor y = true) (ho : y.cls = own) (hrc : rm.cells = mc) (hrs : rm.slots = ms) (hfld : lm_fok own fld ini) (hc : lm_cok l D ids B b ex own rm cv cs) (hk : ∀ j v, kon j = some v → Cond.constant own j v ∈ lm_WT) (hi : ini = true → y.name = "<init>") (hal : lm_aok l D ids B b ex own rm ci nw cp alc)
    (ht : (∀ pc, thr pc = none) ∨ (ex = false ∧ own = RX2 ∧ l.stackTraces = false ∧ 5 < rm.frames ∧ 82 ≤ rm.locals ∧ lm_xok cc thr))
    (hbody : ∀ (As : List Value) (n : Nat) (L : lm_L) (post : lm_Q) (postX : lm_X), wp As n L post postX → (∀ u ∈ As, u.category = 1) ∧ As.length ≤ maxL ∧ lm_wp (lm_mk fld cv cs ci kon thr nw ids mc ms ini cp alc) cc (lm_rq ret post) postX 0 (lm_ent As maxL) [] n L 0 0) :
    lm_M l D (lm_ty ids) B b ex y cc maxL ret rm mc ms wp := by
  intro As n L post postX hwp
  obtain ⟨hca, hle, hb9⟩ := hbody As n L post postX hwp
  refine lm_ofW hp rfl ?_
  intro p e s m args below meth c s₁ Bd hml htab hv
  obtain ⟨rfl, hZ, hP, hcx⟩ := hv
  have hx := Bd.exec
  have hb := Bd.bytes
  have hr := Bd.returns
  have hts0 := atoms_spec (ws := Cond.code y cc maxL ret :: lm_WT) Bd.pre
  have hts : ∀ w ∈ lm_WT, w.before (As.map (lm_v B b)).toArray s = true := fun w hw => hts0 w (List.mem_cons_of_mem _ hw)
  have hown : s.vm.findClass own = some m.cls := by rw [← ho]; exact findClass_of_methodNamed Bd.named
  have hlk := Bd.notSynchronized
  have hT : lm_T p l e (headSpec (Cond.code y cc maxL ret :: lm_WT) rm).room s m (As.map (lm_v B b)).toArray below meth c D B b ex maxL own cc (lm_mk fld cv cs ci kon thr nw ids mc ms ini cp alc) (lm_rq ret post) postX (vx_MQ below (lm_Qc D B b ex post) (lm_XC D B b ex postX) (As.map (lm_v B b)).toArray s mc ms (lm_A B)) := by
    refine ⟨hx, hb, hml, hown, hts, hcx, Nat.le_trans (Nat.le_add_right _ _) hZ.1, fun h9 => ?_, Nat.le_of_eq hrc.symm, Nat.le_of_eq hrs.symm, fun j f hf => hfld D _ B _ s hts hcx j f hf, fun j f hf => ?_, fun j f hf => ?_, fun j v hv => hts _ (hk j v hv), ?_, ?_, ?_, ?_, ?_, ?_, ?_, hal.1, hal.2.1, hal.2.2.1, fun j f hf => ?_⟩
    · exact (name_of_methodNamed Bd.named Bd.method).1.trans (hi h9)
    · obtain ⟨y1, c1, mL, rt, r1, C, T, N, k, a1, a2, a3, a4, a5, a6, a7, a8, a9⟩ := hc.1 j f hf
      exact ⟨y1, c1, mL, rt, r1, C, T, N, k, a1, a2, a3, lm_cwV hts a4 a5 a6 a7 a8 a9⟩
    · obtain ⟨y1, c1, mL, rt, r1, a3, a4, a5, a6, a7, a8, a9⟩ := hc.2 j f hf
      exact Or.inl ⟨y1, c1, mL, rt, r1, a3, lm_cwS hts a4 a5 a6 a7 a8 a9⟩
    · intro pc en lo n1 L1 bc bs h1 h2 h3 h4
      rcases ht with ht | ⟨rfl, hox, hlx, hf1, hl1, hxo⟩
      · exact absurd (h1.symm.trans (ht pc)) (by simp)
      · obtain ⟨ik, is, ic, text, x1, x2, x3, x4, x5, x6, x7⟩ := hxo pc en h1
        rw [hox] at hown
        exact lm_throw hlx hx hb hml hown hts hcx htab hlk x1 x2 x3 x4 x5 x6 x7 hf1 hl1 (Nat.le_of_eq hrc.symm) (Nat.le_of_eq hrs.symm) h2 h3 h4
    · intro pc en lo st n1 L1 bc bs _ h2 h3 h4
      exact lm_endx htab hlk h2 h3 h4
    · intro pc en h lo st n1 L1 bc bs h1
      cases h1
    · intro pc lo x n1 L1 bc bs hd h1 h2 h3
      obtain ⟨h4, h5⟩ := h3
      unfold lm_rt at h4
      split at h4
      · rename_i e9; cases e9
      · exact lm_endi (Q := post) hx hb hr hlk (fun _ _ _ h => h) hd h1 h2 h5
      · rename_i e9; cases e9
        exact lm_endz (Q := fun r n L => post r n L ∧ (r = some (.int 0) ∨ r = some (.int 1))) hx hb hr hlk (fun _ _ _ h => h) hd h1 h2 ⟨h5, by rcases h4 with rfl | rfl; exact Or.inl rfl; exact Or.inr rfl⟩
      · rename_i e9; cases e9
      · rename_i e9; cases e9
      · exact h4.elim
    · intro pc lo v n1 L1 bc bs hd h1 h2 h3 h4
      obtain ⟨h4, h5⟩ := h4
      unfold lm_rt at h4
      split at h4
      · rename_i e9; cases e9
      · rename_i e9; cases e9; rcases h3 with h3 | ⟨k, h3⟩ <;> cases h3
      · rename_i e9; cases e9; rcases h3 with h3 | ⟨k, h3⟩ <;> cases h3
      · exact lm_enda (Q := post) hx hb hr hlk (fun _ _ _ h => h) hd h1 h2 h3 h5
      · exact lm_enda (Q := post) hx hb hr hlk (fun _ _ _ h => h) hd h1 h2 h3 h5
      · exact h4.elim
    · intro pc lo n1 L1 bc bs hd h1 h2 h3
      obtain ⟨h4, h5⟩ := h3
      unfold lm_rt at h4
      split at h4
      · exact lm_endv (Q := post) hx hb hr hlk (fun _ _ _ h => h) hd h1 h2 h5
      · rename_i e9; cases e9
      · rename_i e9; cases e9
      · rename_i e9; cases e9
      · rename_i e9; cases e9
      · exact h4.elim
    · intro q hq; cases hq
    · rcases hal.2.2.2 j f hf with h9 | ⟨y1, c1, mL, r1, a1, a2, a3, a4, a5, a6, a7, a8, w1, w2, w3, a9, a10⟩
      · exact Or.inl h9
      · have hG1 : GoodIn lm_WT (Cond.code y1 c1 mL none :: lm_WT) := by
          intro w hw
          have h9 : w ∈ lm_WT := by
            rcases List.mem_cons.mp hw with e9 | e9
            · rw [e9]; exact w1
            · exact e9
          exact ⟨h9, good_of_word (lm_wg h9)⟩
        refine Or.inr ⟨y1, c1, mL, r1, a1, a2, a3, a4, ?_⟩
        rcases a10 with hlk9 | ⟨host, hlk9⟩
        · exact Or.inl ⟨callB_of (Ts := lm_WT) 0 hts hG1 rfl a5 a6 (hts _ w2) (hts _ hlk9) a9 ⟨a7, a8⟩, a2, hts _ w3⟩
        · exact Or.inr ⟨host, va_cnB (Ts := lm_WT) 0 hts hG1 rfl a5 a6 (hcx.2.1 _ hlk9) (hts _ w2) a9 ⟨a7, a8⟩, a2, hts _ w3⟩
  rw [lg_entry_eq]
  exact lm_wp_ok hT hb9 s.heap [] _ hZ hP va_S.rf (lm_entry hca hle)

section
-- ===== PART A: goes FIRST, ahead of the names: the tables' words, and 'selects' of the private methods out of them =====
/-- a private method of a class that the tables say can be made, by its rows of tables_1 -/
def lw_okq (q : MethodName × Nat) : Prop := (q.1.cls ≠ "java/lang/invoke/MethodHandle" ∧ q.1.cls ≠ "java/lang/invoke/VarHandle") ∧ Cond.instantiable q.1.cls q.2 ∈ tables_1 ∧ Cond.privateMethod q.1 ∈ tables_1 ∧ Cond.instanceMethod q.1 ∈ tables_1
theorem lw_p0 : lw_okq (⟨"SharedQueues", "firstRingWithQueues", "()LSharedQueues$Ring;"⟩, 7) := ⟨⟨by decide +kernel, by decide +kernel⟩, List.mem_of_getElem? (i := 13) (by decide +kernel), List.mem_of_getElem? (i := 123) (by decide +kernel), List.mem_of_getElem? (i := 124) (by decide +kernel)⟩
theorem lw_p1 : lw_okq (⟨"SharedQueues", "placeServedNext", "(LSharedQueues$Ring;)I"⟩, 7) := ⟨⟨by decide +kernel, by decide +kernel⟩, List.mem_of_getElem? (i := 13) (by decide +kernel), List.mem_of_getElem? (i := 127) (by decide +kernel), List.mem_of_getElem? (i := 128) (by decide +kernel)⟩
theorem lw_p2 : lw_okq (⟨"SharedQueues$Queue", "cellOf", "(I)I"⟩, 15) := ⟨⟨by decide +kernel, by decide +kernel⟩, List.mem_of_getElem? (i := 24) (by decide +kernel), List.mem_of_getElem? (i := 147) (by decide +kernel), List.mem_of_getElem? (i := 148) (by decide +kernel)⟩
theorem lw_p3 : lw_okq (⟨"SharedQueues", "bringToFront", "(LSharedQueues$Ring;I)V"⟩, 7) := ⟨⟨by decide +kernel, by decide +kernel⟩, List.mem_of_getElem? (i := 13) (by decide +kernel), List.mem_of_getElem? (i := 154) (by decide +kernel), List.mem_of_getElem? (i := 155) (by decide +kernel)⟩
theorem lw_p4 : lw_okq (⟨"SharedQueues", "serveFirstItem", "(I)V"⟩, 7) := ⟨⟨by decide +kernel, by decide +kernel⟩, List.mem_of_getElem? (i := 13) (by decide +kernel), List.mem_of_getElem? (i := 181) (by decide +kernel), List.mem_of_getElem? (i := 182) (by decide +kernel)⟩
theorem lw_p5 : lw_okq (⟨"SharedQueues", "leaveRing", "(ILSharedQueues$Queue;)V"⟩, 7) := ⟨⟨by decide +kernel, by decide +kernel⟩, List.mem_of_getElem? (i := 13) (by decide +kernel), List.mem_of_getElem? (i := 198) (by decide +kernel), List.mem_of_getElem? (i := 199) (by decide +kernel)⟩
theorem lw_p6 : lw_okq (⟨"SharedQueues", "queueOf", "(I)LSharedQueues$Queue;"⟩, 7) := ⟨⟨by decide +kernel, by decide +kernel⟩, List.mem_of_getElem? (i := 13) (by decide +kernel), List.mem_of_getElem? (i := 219) (by decide +kernel), List.mem_of_getElem? (i := 220) (by decide +kernel)⟩
theorem lw_p7 : lw_okq (⟨"java/lang/Throwable", "fillInStackTrace", "(I)Ljava/lang/Throwable;"⟩, 6) := ⟨⟨by decide +kernel, by decide +kernel⟩, List.mem_of_getElem? (i := 260) (by decide +kernel), List.mem_of_getElem? (i := 258) (by decide +kernel), List.mem_of_getElem? (i := 259) (by decide +kernel)⟩
theorem lw_p8 : lw_okq (⟨"SharedQueues", "keptCells", "()I"⟩, 7) := ⟨⟨by decide +kernel, by decide +kernel⟩, List.mem_of_getElem? (i := 13) (by decide +kernel), List.mem_of_getElem? (i := 294) (by decide +kernel), List.mem_of_getElem? (i := 295) (by decide +kernel)⟩
theorem lw_p9 : lw_okq (⟨"SharedQueues", "changeClass", "(ILSharedQueues$Queue;I)V"⟩, 7) := ⟨⟨by decide +kernel, by decide +kernel⟩, List.mem_of_getElem? (i := 13) (by decide +kernel), List.mem_of_getElem? (i := 305) (by decide +kernel), List.mem_of_getElem? (i := 306) (by decide +kernel)⟩
theorem lw_p10 : lw_okq (⟨"SharedQueues", "hasRoomFor", "(LSharedQueues$Queue;)Z"⟩, 7) := ⟨⟨by decide +kernel, by decide +kernel⟩, List.mem_of_getElem? (i := 13) (by decide +kernel), List.mem_of_getElem? (i := 317) (by decide +kernel), List.mem_of_getElem? (i := 318) (by decide +kernel)⟩
theorem lw_p11 : lw_okq (⟨"SharedQueues", "freeCells", "()I"⟩, 7) := ⟨⟨by decide +kernel, by decide +kernel⟩, List.mem_of_getElem? (i := 13) (by decide +kernel), List.mem_of_getElem? (i := 321) (by decide +kernel), List.mem_of_getElem? (i := 322) (by decide +kernel)⟩
theorem lw_p12 : lw_okq (⟨"SharedQueues", "openCells", "()I"⟩, 7) := ⟨⟨by decide +kernel, by decide +kernel⟩, List.mem_of_getElem? (i := 13) (by decide +kernel), List.mem_of_getElem? (i := 329) (by decide +kernel), List.mem_of_getElem? (i := 330) (by decide +kernel)⟩
theorem lw_p13 : lw_okq (⟨"SharedQueues", "addItem", "(ILSharedQueues$Queue;II)V"⟩, 7) := ⟨⟨by decide +kernel, by decide +kernel⟩, List.mem_of_getElem? (i := 13) (by decide +kernel), List.mem_of_getElem? (i := 336) (by decide +kernel), List.mem_of_getElem? (i := 337) (by decide +kernel)⟩
theorem lw_p14 : lw_okq (⟨"SharedQueues", "queueOfGreatestExcess", "()I"⟩, 7) := ⟨⟨by decide +kernel, by decide +kernel⟩, List.mem_of_getElem? (i := 13) (by decide +kernel), List.mem_of_getElem? (i := 344) (by decide +kernel), List.mem_of_getElem? (i := 345) (by decide +kernel)⟩
theorem lw_p15 : lw_okq (⟨"SharedQueues", "loseLastItem", "(I)V"⟩, 7) := ⟨⟨by decide +kernel, by decide +kernel⟩, List.mem_of_getElem? (i := 13) (by decide +kernel), List.mem_of_getElem? (i := 348) (by decide +kernel), List.mem_of_getElem? (i := 349) (by decide +kernel)⟩
def lw_privs_1 : List (MethodName × Nat) := [(⟨"SharedQueues", "firstRingWithQueues", "()LSharedQueues$Ring;"⟩, 7), (⟨"SharedQueues", "placeServedNext", "(LSharedQueues$Ring;)I"⟩, 7), (⟨"SharedQueues$Queue", "cellOf", "(I)I"⟩, 15), (⟨"SharedQueues", "bringToFront", "(LSharedQueues$Ring;I)V"⟩, 7), (⟨"SharedQueues", "serveFirstItem", "(I)V"⟩, 7), (⟨"SharedQueues", "leaveRing", "(ILSharedQueues$Queue;)V"⟩, 7), (⟨"SharedQueues", "queueOf", "(I)LSharedQueues$Queue;"⟩, 7), (⟨"java/lang/Throwable", "fillInStackTrace", "(I)Ljava/lang/Throwable;"⟩, 6), (⟨"SharedQueues", "keptCells", "()I"⟩, 7), (⟨"SharedQueues", "changeClass", "(ILSharedQueues$Queue;I)V"⟩, 7), (⟨"SharedQueues", "hasRoomFor", "(LSharedQueues$Queue;)Z"⟩, 7), (⟨"SharedQueues", "freeCells", "()I"⟩, 7), (⟨"SharedQueues", "openCells", "()I"⟩, 7), (⟨"SharedQueues", "addItem", "(ILSharedQueues$Queue;II)V"⟩, 7), (⟨"SharedQueues", "queueOfGreatestExcess", "()I"⟩, 7), (⟨"SharedQueues", "loseLastItem", "(I)V"⟩, 7)]
theorem lw_r1 : ∀ q ∈ lw_privs_1, lw_okq q := List.forall_mem_cons.mpr ⟨lw_p0, List.forall_mem_cons.mpr ⟨lw_p1, List.forall_mem_cons.mpr ⟨lw_p2, List.forall_mem_cons.mpr ⟨lw_p3, List.forall_mem_cons.mpr ⟨lw_p4, List.forall_mem_cons.mpr ⟨lw_p5, List.forall_mem_cons.mpr ⟨lw_p6, List.forall_mem_cons.mpr ⟨lw_p7, List.forall_mem_cons.mpr ⟨lw_p8, List.forall_mem_cons.mpr ⟨lw_p9, List.forall_mem_cons.mpr ⟨lw_p10, List.forall_mem_cons.mpr ⟨lw_p11, List.forall_mem_cons.mpr ⟨lw_p12, List.forall_mem_cons.mpr ⟨lw_p13, List.forall_mem_cons.mpr ⟨lw_p14, List.forall_mem_cons.mpr ⟨lw_p15, fun _ h => absurd h List.not_mem_nil⟩⟩⟩⟩⟩⟩⟩⟩⟩⟩⟩⟩⟩⟩⟩⟩
theorem lw_p16 : lw_okq (⟨"SharedQueuesModel", "keptInAll", "()I"⟩, 22) := ⟨⟨by decide +kernel, by decide +kernel⟩, List.mem_of_getElem? (i := 418) (by decide +kernel), List.mem_of_getElem? (i := 503) (by decide +kernel), List.mem_of_getElem? (i := 504) (by decide +kernel)⟩
theorem lw_p17 : lw_okq (⟨"SharedQueuesModel", "leave", "(I)V"⟩, 22) := ⟨⟨by decide +kernel, by decide +kernel⟩, List.mem_of_getElem? (i := 418) (by decide +kernel), List.mem_of_getElem? (i := 511) (by decide +kernel), List.mem_of_getElem? (i := 512) (by decide +kernel)⟩
theorem lw_p18 : lw_okq (⟨"SharedQueuesModel", "placeOf", "(I)I"⟩, 22) := ⟨⟨by decide +kernel, by decide +kernel⟩, List.mem_of_getElem? (i := 418) (by decide +kernel), List.mem_of_getElem? (i := 515) (by decide +kernel), List.mem_of_getElem? (i := 516) (by decide +kernel)⟩
theorem lw_p19 : lw_okq (⟨"SharedQueuesModel", "enter", "(I)V"⟩, 22) := ⟨⟨by decide +kernel, by decide +kernel⟩, List.mem_of_getElem? (i := 418) (by decide +kernel), List.mem_of_getElem? (i := 519) (by decide +kernel), List.mem_of_getElem? (i := 520) (by decide +kernel)⟩
theorem lw_p20 : lw_okq (⟨"SharedQueuesModel", "free", "()I"⟩, 22) := ⟨⟨by decide +kernel, by decide +kernel⟩, List.mem_of_getElem? (i := 418) (by decide +kernel), List.mem_of_getElem? (i := 527) (by decide +kernel), List.mem_of_getElem? (i := 528) (by decide +kernel)⟩
theorem lw_p21 : lw_okq (⟨"SharedQueuesModel", "excess", "(I)I"⟩, 22) := ⟨⟨by decide +kernel, by decide +kernel⟩, List.mem_of_getElem? (i := 418) (by decide +kernel), List.mem_of_getElem? (i := 531) (by decide +kernel), List.mem_of_getElem? (i := 532) (by decide +kernel)⟩
theorem lw_p22 : lw_okq (⟨"SharedQueuesModel", "open", "()I"⟩, 22) := ⟨⟨by decide +kernel, by decide +kernel⟩, List.mem_of_getElem? (i := 418) (by decide +kernel), List.mem_of_getElem? (i := 535) (by decide +kernel), List.mem_of_getElem? (i := 536) (by decide +kernel)⟩
theorem lw_p23 : lw_okq (⟨"SharedQueuesModel", "greediest", "()I"⟩, 22) := ⟨⟨by decide +kernel, by decide +kernel⟩, List.mem_of_getElem? (i := 418) (by decide +kernel), List.mem_of_getElem? (i := 539) (by decide +kernel), List.mem_of_getElem? (i := 540) (by decide +kernel)⟩
theorem lw_p24 : lw_okq (⟨"SharedQueuesModel", "settle", "(I)V"⟩, 22) := ⟨⟨by decide +kernel, by decide +kernel⟩, List.mem_of_getElem? (i := 418) (by decide +kernel), List.mem_of_getElem? (i := 543) (by decide +kernel), List.mem_of_getElem? (i := 544) (by decide +kernel)⟩
theorem lw_p25 : lw_okq (⟨"SharedQueuesModel", "find", "()I"⟩, 22) := ⟨⟨by decide +kernel, by decide +kernel⟩, List.mem_of_getElem? (i := 418) (by decide +kernel), List.mem_of_getElem? (i := 551) (by decide +kernel), List.mem_of_getElem? (i := 552) (by decide +kernel)⟩
theorem lw_p26 : lw_okq (⟨"SharedQueuesModel", "take", "(I)V"⟩, 22) := ⟨⟨by decide +kernel, by decide +kernel⟩, List.mem_of_getElem? (i := 418) (by decide +kernel), List.mem_of_getElem? (i := 555) (by decide +kernel), List.mem_of_getElem? (i := 556) (by decide +kernel)⟩
theorem lw_p27 : lw_okq (⟨"SharedQueuesModel", "keepTurns", "()V"⟩, 22) := ⟨⟨by decide +kernel, by decide +kernel⟩, List.mem_of_getElem? (i := 418) (by decide +kernel), List.mem_of_getElem? (i := 563) (by decide +kernel), List.mem_of_getElem? (i := 564) (by decide +kernel)⟩
theorem lw_p28 : lw_okq (⟨"SharedQueuesModel", "turnBack", "()V"⟩, 22) := ⟨⟨by decide +kernel, by decide +kernel⟩, List.mem_of_getElem? (i := 418) (by decide +kernel), List.mem_of_getElem? (i := 567) (by decide +kernel), List.mem_of_getElem? (i := 568) (by decide +kernel)⟩
theorem lw_p29 : lw_okq (⟨"SharedQueuesModel", "costOf", "(I)I"⟩, 22) := ⟨⟨by decide +kernel, by decide +kernel⟩, List.mem_of_getElem? (i := 418) (by decide +kernel), List.mem_of_getElem? (i := 588) (by decide +kernel), List.mem_of_getElem? (i := 589) (by decide +kernel)⟩
def lw_privs_2 : List (MethodName × Nat) := [(⟨"SharedQueuesModel", "keptInAll", "()I"⟩, 22), (⟨"SharedQueuesModel", "leave", "(I)V"⟩, 22), (⟨"SharedQueuesModel", "placeOf", "(I)I"⟩, 22), (⟨"SharedQueuesModel", "enter", "(I)V"⟩, 22), (⟨"SharedQueuesModel", "free", "()I"⟩, 22), (⟨"SharedQueuesModel", "excess", "(I)I"⟩, 22), (⟨"SharedQueuesModel", "open", "()I"⟩, 22), (⟨"SharedQueuesModel", "greediest", "()I"⟩, 22), (⟨"SharedQueuesModel", "settle", "(I)V"⟩, 22), (⟨"SharedQueuesModel", "find", "()I"⟩, 22), (⟨"SharedQueuesModel", "take", "(I)V"⟩, 22), (⟨"SharedQueuesModel", "keepTurns", "()V"⟩, 22), (⟨"SharedQueuesModel", "turnBack", "()V"⟩, 22), (⟨"SharedQueuesModel", "costOf", "(I)I"⟩, 22)]
theorem lw_r2 : ∀ q ∈ lw_privs_2, lw_okq q := List.forall_mem_cons.mpr ⟨lw_p16, List.forall_mem_cons.mpr ⟨lw_p17, List.forall_mem_cons.mpr ⟨lw_p18, List.forall_mem_cons.mpr ⟨lw_p19, List.forall_mem_cons.mpr ⟨lw_p20, List.forall_mem_cons.mpr ⟨lw_p21, List.forall_mem_cons.mpr ⟨lw_p22, List.forall_mem_cons.mpr ⟨lw_p23, List.forall_mem_cons.mpr ⟨lw_p24, List.forall_mem_cons.mpr ⟨lw_p25, List.forall_mem_cons.mpr ⟨lw_p26, List.forall_mem_cons.mpr ⟨lw_p27, List.forall_mem_cons.mpr ⟨lw_p28, List.forall_mem_cons.mpr ⟨lw_p29, fun _ h => absurd h List.not_mem_nil⟩⟩⟩⟩⟩⟩⟩⟩⟩⟩⟩⟩⟩⟩
def lw_privs : List (MethodName × Nat) := lw_privs_1 ++ (lw_privs_2)
def lw_tbl : List Cond := k2_sels lw_privs ++ tables_1
theorem lw_privs_ok : ∀ q ∈ lw_privs, lw_okq q := by
  show ∀ q ∈ lw_privs_1 ++ (lw_privs_2), lw_okq q
  exact List.forall_mem_append.mpr ⟨lw_r1, lw_r2⟩
end
section
/-! A throw that is caught by a row of the method's own table, its class not yet linked: own rows (the rounds' library lacks the like) -/
def zc_To (e : Env) (s : State) (f : JFrame) (a : Addr) (h : Handler) (v9 : Vm) : Prop :=
  ∀ (Q : Handler → Pre) (E : CtlPost) (d : Bool) (acts : List Action), wp (findHandler f a) Q E e d acts s ↔ Q h d acts (s.setVm v9)
def zc_pass (pl : Platform) (s₀ : State) (d : ClassId) (pc : Nat) (th : ClassId) (y : ExceptionTableEntry) : Prop :=
  covers y pc = false ∨ (y.catchType ≠ 0 ∧ ∃ c, s₀.vm.ClassLinks pl d y.catchType c ∧ s₀.vm.assignable th c = false)
section ZC
variable {Q : Handler → Pre} {E : CtlPost} {e : Env} {d : Bool} {acts : List Action} {s : State} {f : JFrame} {a : Addr}
theorem zc_yes {x : ExceptionTableEntry} {t : List ExceptionTableEntry} {c : ClassId} {cell : Cell} (hx : covers x f.pc = true) (h0 : x.catchType ≠ 0)
    (hl : s.vm.ClassLinks e.platform f.method.cls x.catchType c) (hcell : s.heap[a]? = some cell) (hobj : ∀ k, cell.vm ≠ .statics k)
    (hk : ∃ k, s.vm.classes[cell.cls]? = some k) (hc : ∃ k, s.vm.classes[c]? = some k) (hfit : s.vm.assignable cell.cls c = true) :
    wp (findHandler.go f a (x :: t)) Q E e d acts s ↔ Q (.found x.handlerPc) d acts (s.setVm (s.vm.noted f.method.cls x.catchType (.cls c))) := by
  simp only [covers] at hx
  obtain ⟨ha, ht⟩ := (resolveClass_links e.toSetting hl).op (op := VmOp.resolveClass f.method.cls x.catchType) rfl
  have hal : s.vm.Alike (s.vm.noted f.method.cls x.catchType (.cls c)) := (Vm.Alike.refl s.vm).noted _ _ _
  obtain ⟨k1, hk1⟩ := hk
  obtain ⟨k2, hk2⟩ := hc
  obtain ⟨k3, hk3, -⟩ := hal.2.2 _ _ hk1
  obtain ⟨k4, hk4, -⟩ := hal.2.2 _ _ hk2
  have hfit2 : (s.vm.noted f.method.cls x.catchType (.cls c)).assignable cell.cls c = true := by rw [hal.assignable]; exact hfit
  simp [findHandler.go, hx, h0, ha, ht, hcell, hobj, hk3, hk4, hfit2, VmOp.dirties, VmOp.acts]
theorem zc_no {x : ExceptionTableEntry} {t : List ExceptionTableEntry} {c : ClassId} {cell : Cell} (hx : covers x f.pc = true) (h0 : x.catchType ≠ 0)
    (hl : s.vm.ClassLinks e.platform f.method.cls x.catchType c) (hcell : s.heap[a]? = some cell) (hobj : ∀ k, cell.vm ≠ .statics k)
    (hk : ∃ k, s.vm.classes[cell.cls]? = some k) (hc : ∃ k, s.vm.classes[c]? = some k) (hno : s.vm.assignable cell.cls c = false) :
    wp (findHandler.go f a (x :: t)) Q E e d acts s ↔ wp (findHandler.go f a t) Q E e d acts (s.setVm (s.vm.noted f.method.cls x.catchType (.cls c))) := by
  simp only [covers] at hx
  obtain ⟨ha, ht⟩ := (resolveClass_links e.toSetting hl).op (op := VmOp.resolveClass f.method.cls x.catchType) rfl
  have hal : s.vm.Alike (s.vm.noted f.method.cls x.catchType (.cls c)) := (Vm.Alike.refl s.vm).noted _ _ _
  obtain ⟨k1, hk1⟩ := hk
  obtain ⟨k2, hk2⟩ := hc
  obtain ⟨k3, hk3, -⟩ := hal.2.2 _ _ hk1
  obtain ⟨k4, hk4, -⟩ := hal.2.2 _ _ hk2
  have hno2 : (s.vm.noted f.method.cls x.catchType (.cls c)).assignable cell.cls c = false := by rw [hal.assignable]; exact hno
  simp [findHandler.go, hx, h0, ha, ht, hcell, hobj, hk3, hk4, hno2, VmOp.dirties, VmOp.acts]
end ZC
theorem zc_go {e : Env} {s₀ : State} {f : JFrame} {a : Addr} {cell : Cell} (hobj : ∀ k, cell.vm ≠ .statics k) (hk0 : ∃ k, s₀.vm.classes[cell.cls]? = some k)
    (x : ExceptionTableEntry) (rest : List ExceptionTableEntry) (hx : covers x f.pc = true) (h0 : x.catchType ≠ 0) {c : ClassId} (hl : s₀.vm.ClassLinks e.platform f.method.cls x.catchType c) (hfit : s₀.vm.assignable cell.cls c = true) :
    ∀ (pre : List ExceptionTableEntry) (S : State), s₀.WarmedH S.vm → S.heap[a]? = some cell → (∀ y ∈ pre, zc_pass e.platform s₀ f.method.cls f.pc cell.cls y) →
      ∃ v9, s₀.WarmedH v9 ∧ ∀ (Q : Handler → Pre) (E : CtlPost) (d : Bool) (acts : List Action), wp (findHandler.go f a (pre ++ x :: rest)) Q E e d acts S ↔ Q (.found x.handlerPc) d acts (S.setVm v9) := by
  obtain ⟨k0, hk0⟩ := hk0
  intro pre
  induction pre with
  | nil =>
    intro S hW hcell _
    obtain ⟨k1, hk1, -⟩ := hW.alike.2.2 _ _ hk0
    obtain ⟨dk, _, _, kt, hd, _, _, _, _, hkt, _, hopen⟩ := hl.here
    obtain ⟨k2, hk2, -⟩ := hW.alike.2.2 _ _ hkt
    exact ⟨_, hW.noted hd hopen (State.rightAt_cls hl), fun Q E d acts => by
      rw [List.nil_append]
      exact zc_yes hx h0 (hW.classLinks hl) hcell hobj ⟨k1, hk1⟩ ⟨k2, hk2⟩ (by rw [hW.alike.assignable]; exact hfit)⟩
  | cons y ys ih =>
    intro S hW hcell hpass
    obtain ⟨k1, hk1, -⟩ := hW.alike.2.2 _ _ hk0
    have hrest : ∀ z ∈ ys, zc_pass e.platform s₀ f.method.cls f.pc cell.cls z := fun z hz => hpass z (List.mem_cons_of_mem _ hz)
    by_cases hcov : covers y f.pc = true
    · rcases hpass y List.mem_cons_self with h | ⟨h2, c2, hl2, hno⟩
      · rw [h] at hcov; cases hcov
      · obtain ⟨dk, _, _, kt, hd, _, _, _, _, hkt, _, hopen⟩ := hl2.here
        obtain ⟨k2, hk2, -⟩ := hW.alike.2.2 _ _ hkt
        obtain ⟨v9, hW9, hq⟩ := ih (S.setVm (S.vm.noted f.method.cls y.catchType (.cls c2))) (hW.noted hd hopen (State.rightAt_cls hl2)) hcell hrest
        exact ⟨v9, hW9, fun Q E d acts => by
          rw [List.cons_append, zc_no hcov h2 (hW.classLinks hl2) hcell hobj ⟨k1, hk1⟩ ⟨k2, hk2⟩ (by rw [hW.alike.assignable]; exact hno)]
          exact hq Q E d acts⟩
    · obtain ⟨v9, hW9, hq⟩ := ih S hW hcell hrest
      exact ⟨v9, hW9, fun Q E d acts => by
        rw [List.cons_append, W.findHandler_go_skip (by simpa using hcov)]
        exact hq Q E d acts⟩
theorem zc_step {e : Env} {s : State} {a : Addr} {f : JFrame} {r : List Frame} {pc : Nat} {v9 : Vm} (hfind : zc_To e s f a (.found pc) v9) :
    (stepThrowing e s a (.java f :: r)).Is ((s.setVm v9).setFrames (.java { f with pc := pc, stack := [.ref a] } :: r)) [] := by
  simp only [stepThrowing, searchFrame, vmDo]
  generalize hr : Sem.go _ e false [] s = res
  obtain ⟨as, rfl, ha⟩ := Sem.eq_ok_of hr (a := Handler.found pc) (s' := s.setVm v9) (acts' := []) (by simp [hfind _ _ _ _])
  exact ⟨rfl, ha⟩
theorem zc_frames (u : State) (v9 : Vm) (F G : List Frame) : ((u.setFrames F).setVm v9).setFrames G = (u.setVm v9).setFrames G := by
  have h1 : (u.setFrames F).setVm v9 = (u.setVm v9).setFrames F := rfl
  rw [h1, State.setFrames_setFrames]
theorem zc_steps {tb : Tables} {e : Env} {s target : State} {g : JFrame} {c : Code} {below : List Frame} {a : Addr} (h : At s g.method c below) {pc : Nat} {v9 : Vm}
    (hfind : zc_To e ((s.setTop g).pushFrame (.throwing a)) g a (.found pc) v9) (hrest : Steps tb e below ((s.setVm v9).setTop { g with pc := pc, stack := [.ref a] }) target) :
    Steps tb e below ((s.setTop g).pushFrame (.throwing a)) target := by
  obtain ⟨hgo, hw⟩ := h.throwing a
  refine Steps.head hgo hw ?_
  rw [stepThread_throwing (frames_entered h.top _), (zc_step (s := (s.setTop g).pushFrame (.throwing a)) hfind).1]
  obtain ⟨g₀, hg⟩ := Option.isSome_iff_exists.mp h.top
  obtain ⟨r, hr⟩ := State.topJava?_eq_some.mp hg
  have hr2 : (s.setVm v9).frames = .java g₀ :: r := hr
  rw [State.setTop_of_frames _ hr2] at hrest
  rw [hr, List.tail_cons, State.pushFrame, zc_frames, State.setTop_of_frames _ hr, zc_frames]
  exact hrest
/-- a throw over this method's frame, caught by the row x of its table -/
theorem zc_caught {p : Program} {l : Launch} {e : Env} {R : Room} {s : State} {m : MethodId} {args : Array Value} {below : List Frame} {meth : Method} {c : Code} {T : State} {locs : List Loc} {cells slots : Nat}
    (X : Stand p l e R s m args below meth c T locs cells slots) (a : Addr) {g : JFrame} (hg : g.method = m)
    {cell : Cell} (hcell : T.heap[a]? = some cell) (hobj : cell.vm.isStatics = false) (hk0 : ∃ k, s.vm.classes[cell.cls]? = some k)
    (pre : List ExceptionTableEntry) (x : ExceptionTableEntry) (rest : List ExceptionTableEntry) (hsplit : c.exceptionTable.toList = pre ++ x :: rest)
    (hpass : ∀ y ∈ pre, zc_pass e.platform s m.cls g.pc cell.cls y) (hx : covers x g.pc = true) (h0 : x.catchType ≠ 0) {c2 : ClassId} (hl : s.vm.ClassLinks e.platform m.cls x.catchType c2) (hfit : s.vm.assignable cell.cls c2 = true) :
    ∃ v9, Stand p l e R s m args below meth c (T.setVm v9) locs cells slots ∧ Steps p.tables e below ((T.setTop g).pushFrame (.throwing a)) ((T.setVm v9).setTop { g with pc := x.handlerPc, stack := [.ref a] }) := by
  subst hg
  obtain ⟨v9, hW9, hq⟩ := zc_go (e := e) (f := g) (a := a) (VmData.ne_statics_of hobj) hk0 x rest hx h0 hl hfit pre ((T.setTop g).pushFrame (.throwing a)) X.warmed hcell hpass
  have hm2 : ((T.setTop g).pushFrame (.throwing a)).vm.method? g.method = some meth := X.method'
  refine ⟨v9, X.noted hW9, zc_steps X.here (fun Q E d acts => ?_) (Steps.refl _)⟩
  rw [W.findHandler_eq hm2 X.code, hsplit]
  exact hq Q E d acts
end
section
/-! ===== BEGIN words of one list among another's, by their places ===== -/
theorem goodIn_r {big : List Cond} (ws : List Cond) (ps : List Nat) (hp : ws = ps.filterMap (fun i => big[i]?)) (h : ws.all goodWord = true) : GoodIn big ws := by
  intro w hw
  have h1 := List.all_eq_true.mp h w hw
  rw [hp] at hw
  obtain ⟨i, -, hi⟩ := List.mem_filterMap.mp hw
  have hm : w ∈ big := by first | exact List.mem_of_getElem? hi | exact List.getElem?_mem hi
  exact ⟨hm, good_of_word h1⟩
theorem goodIn_app {big a b : List Cond} (ha : GoodIn big a) (hb : GoodIn big b) : GoodIn big (a ++ b) := fun w h => (List.mem_append.mp h).elim (ha w) (hb w)
theorem goodIn_ca {big a b : List Cond} {c : Cond} (ha : GoodIn big (c :: a)) (hb : GoodIn big b) : GoodIn big (c :: (a ++ b)) := fun w h => (List.mem_cons.mp h).elim (fun e => ha w (List.mem_cons.mpr (Or.inl e))) (fun h => (List.mem_append.mp h).elim (fun h => ha w (List.mem_cons.mpr (Or.inr h))) (hb w))
theorem goodIn_sub {big ws : List Cond} (hm : ∀ w ∈ ws, w ∈ big) (h : ws.all goodWord = true) : GoodIn big ws := fun w hw => ⟨hm w hw, good_of_word (List.all_eq_true.mp h w hw)⟩
/-! ===== END ===== -/

/-! ===== BEGIN exceptions that leave a method, and their catching by the caller (launches without stack traces) ===== -/
section VXA
/-! The laws vx_back, vx_callV, vx_callS, vx_callSW, vx_throw0, vx_throwS follow proofs of the library, with one case more: JvmDerived/Free/Laws.lean (Back.of_free), Shelf42/LK1.lean (callV, callS), Shelf/KitTraced.lean (throwNew0V, throwNewS). -/
/-- where a method has thrown q: the class by its name, the cell, what was written, the world -/
def vx_T (XC : String → State → State → Prop) (st : State) (q : Addr) (t : State) (mc ms : Nat) (free : Addr → Prop) : Prop :=
  ∃ (E : String) (ce : Cell) (L : List Loc), XC E st t ∧ t.heap[q]? = some ce ∧ ce.vm = .none ∧ st.vm.findClass E = some ce.cls ∧ st.WarmedH t.vm ∧ st.sameButNew ({ t with vm := st.vm } : State) L mc ms ∧ ∀ z ∈ L, free z.base
def vx_Q (Qc : Array Value → State → Outcome → State → Prop) (XC : String → State → State → Prop) (mc ms : Nat) (free : Addr → Prop) : Array Value → State → Outcome → State → Prop := fun a st o t =>
  (Qc a st o t ∧ ∃ L, FrameEnd st o t L mc ms ∧ ∀ q ∈ L, free q.base) ∨ ∃ q, o = .threw q ∧ vx_T XC st q t mc ms free
/-- a callee that returns or throws -/
def vx_Met (l : Launch) (y : MethodName) (ws : List Cond) (rm : Room) (Pc : Array Value → State → Prop) (Qc : Array Value → State → Outcome → State → Prop) (XC : String → State → State → Prop) (mc ms : Nat) (free : Addr → Prop) : Prop :=
  MetFree l y (headSpec ws rm) Pc (fun _ _ _ _ _ => True) (vx_Q Qc XC mc ms free)
def vx_Post (XC : String → State → State → Prop) (mc ms : Nat) (free : Addr → Prop) : Pt → Array Value → Addr → Pt → Prop := fun A a q B =>
  ∃ (g : JFrame) (mk : MethodId) (t : State) (L : List Loc) (E : String) (ce : Cell), B.U.heap = t.heap ∧ B.U.vm = t.vm ∧ XC E (A.U.calling g mk a) t ∧ t.heap[q]? = some ce ∧ ce.vm = .none ∧ A.U.vm.findClass E = some ce.cls ∧ B.locs = A.locs ++ L ∧ (∀ z ∈ L, free z.base) ∧ B.cells = A.cells + mc ∧ B.slots = A.slots + ms
def vx_Back (l : Launch) (R : Room) (p : Program) (e : Env) (below : List Frame) (s : State) (sargs : Array Value) (y : MethodName) (len W9 : Nat)
    (Pre : Pt → Array Value → Prop) (Post : Pt → Array Value → Option Value → Pt → Prop) (PostX : Pt → Array Value → Addr → Pt → Prop) : Prop :=
  ∀ (m : MethodId) (meth : Method) (c : Code) (A : Pt) (g : JFrame) (ig : Instr) (mk : MethodId) (a : Array Value),
    Stand p l e R s m sargs below meth c A.U A.locs A.cells A.slots → g.method = m → g.locals.size = c.maxLocals → decode c.code g.pc = .ok (ig, len) →
    2 * g.monitorRoom + (g.stack.map fun v => v.category).sum ≤ W9 → A.U.methodNamed? y = some mk → Pre A a →
    (∃ (v : Option Value) (B : Pt), Stand p l e R s m sargs below meth c B.U B.locs B.cells B.slots ∧ Post A a v B ∧
      Steps p.tables e below (doInvoke e (A.U.setTop g) [] mk a).1 (B.U.setTop { g with pc := g.pc + len, stack := v.toList ++ g.stack })) ∨
    (∃ (q : Addr) (B : Pt), Stand p l e R s m sargs below meth c B.U B.locs B.cells B.slots ∧ PostX A a q B ∧
      Steps p.tables e below (doInvoke e (A.U.setTop g) [] mk a).1 ((B.U.setTop g).pushFrame (.throwing q)))
section Payer
variable {l : Launch} {R : Room} {p : Program} {e : Env} {below : List Frame} {s : State} {sargs : Array Value} {y : MethodName} {len W9 : Nat}
theorem vx_back {ws : List Cond} {rm : Room} {Pc : Array Value → State → Prop} {Qc : Array Value → State → Outcome → State → Prop} {XC : String → State → State → Prop} {mc ms : Nat} {free : Addr → Prop} {bytes : ByteArray} {maxL : Nat} {ret : Option FieldType}
    (hM : vx_Met l y ws rm Pc Qc XC mc ms free) (hblind : FrameBlind Pc) (hrc : rm.cells = mc) (hrs : rm.slots = ms)
    (hframes : rm.frames + 1 ≤ R.frames) (hlocals : W9 + (maxL + 11) + rm.locals ≤ R.locals)
    (hws : ∀ w ∈ ws, ∀ a' U, s.WarmedH U.vm → w.before a' U = true) (hcode : Cond.code y bytes maxL ret ∈ ws) (hinit : ∀ a' U, s.WarmedH U.vm → (Cond.initialized y.cls).before a' U = true) :
    vx_Back l R p e below s sargs y len W9 (PreOf R mc ms Pc) (PostOf Qc mc ms free) (vx_Post XC mc ms free) := by
  intro m meth c A g ig mk a X hg hsize hdg hW hn hp
  have h1 : (headSpec ws rm).pre.before a A.U = true := atoms_intro fun w hw => hws w hw _ _ X.warmed
  have h2 : (Cond.code y bytes maxL ret).before a A.U = true := hws _ hcode _ _ X.warmed
  have h3 : (Cond.initialized y.cls).before a A.U = true := hinit _ _ X.warmed
  have h4 : A.cells + (headSpec ws rm).room.cells ≤ R.cells := by rw [show (headSpec ws rm).room.cells = mc from hrc]; exact hp.1
  have h5 : A.slots + (headSpec ws rm).room.slots ≤ R.slots := by rw [show (headSpec ws rm).room.slots = ms from hrs]; exact hp.2.1
  have hPc : Pc a (A.U.calling g mk a) := hblind _ _ _ _ hp.2.2
  obtain ⟨U, Ls, c0, s0⟩ := A
  dsimp only [Pt.U, Pt.locs, Pt.cells, Pt.slots] at h1 h2 h3 h4 h5 X hn hPc ⊢
  obtain ⟨methY, cY, hmY, hcY, -, hlY, -, -, -, -⟩ := Cond.code_spec hn h2
  obtain ⟨kY, hkY, -⟩ := className_of_methodNamed hn
  have hinitY : kY.init = .initialized := Cond.initialized_spec (findClass_of_methodNamed hn) hkY h3
  have h : At U g.method c below := by rw [hg]; exact X.here
  have hlocals9 : W9 + (maxL + 11) + (headSpec ws rm).room.locals ≤ R.locals := hlocals
  have happ : (headSpec ws rm).appliesLoose y e.platform (U.calling g mk a) = true :=
    Spec.appliesLoose_calling (g := g) h hdg hn hkY hinitY
      (X.room_calling (g := g) (R' := (headSpec ws rm).room) hsize hmY hcY hframes (by rw [hlY]; omega) h4 h5) h1
  obtain ⟨mid, hmid⟩ := h.above
  have hfr : (U.setTop g).frames = (.java g :: mid) ++ below := by rw [State.frames_setTop' g h.top, hmid]; rfl
  obtain ⟨o, s₂, hsteps, -, hend, hq⟩ := Steps.callFree hM p X.admits X.cas X.clock (acts := []) hfr happ hPc trivial
  have hq' : vx_Q Qc XC mc ms free a (U.calling g mk a) o s₂ := hq
  rw [State.frames_setTop' g h.top] at hend
  obtain ⟨g₀, hg0⟩ := Option.isSome_iff_exists.mp h.top
  obtain ⟨r, hr⟩ := State.topJava?_eq_some.mp hg0
  have hr' : (({ U with heap := s₂.heap, slotsUsed := s₂.slotsUsed } : State).setVm s₂.vm).frames = .java g₀ :: r := hr
  rcases hq' with ⟨hqc, L, hfe, hL⟩ | ⟨q, rfl, E, ce, L, hx, hce, hcv, hcl, hW₂, hsm, hL⟩
  · obtain ⟨⟨v, rfl⟩, hW₂, e2, q2, q3, q4, q5, q6⟩ := id hfe
    have e3 : s₂ = ({ (U.calling g mk a).setFrames s₂.frames with heap := s₂.heap, slotsUsed := s₂.slotsUsed } : State).setVm s₂.vm := by
      have : s₂ = ({ s₂ with vm := (U.calling g mk a).vm } : State).setVm s₂.vm := rfl
      rw [e2] at this
      exact this
    obtain ⟨c₂, i₂, len₂, hc₂, hd₂, hf₂⟩ := hend
    have hW' : U.WarmedH s₂.vm := hW₂
    have hcc : c₂ = c := by
      have h1 : s₂.code? g.method = U.code? g.method := by
        rw [State.code?_eq, State.code?_eq, hW'.alike.method?]
      exact Option.some.inj (hc₂.symm.trans (h1.trans h.code))
    subst hcc
    have hlen : len₂ = len := by rw [hdg] at hd₂; cases hd₂; rfl
    subst hlen
    have hs₂ : s₂ = (({ U with heap := s₂.heap, slotsUsed := s₂.slotsUsed } : State).setVm s₂.vm).setTop { g with pc := g.pc + len₂, stack := v.toList ++ g.stack } := by
      refine e3.trans ?_
      rw [hf₂, State.calling_eq h.top, State.setFrames_setFrames, State.setTop_of_frames _ hr', hr]
      rfl
    have hsame : U.sameButNew ({ U with heap := s₂.heap, slotsUsed := s₂.slotsUsed } : State) L mc ms := by
      refine ⟨?_, q2, q3, q4, q5, q6⟩
      obtain ⟨t, ht, -⟩ := State.frames_cons hr
      show ({ U with heap := s₂.heap, slotsUsed := s₂.slotsUsed } : State) = { U.setFrames U.frames with heap := s₂.heap, slotsUsed := s₂.slotsUsed }
      rw [State.setFrames_self ht]
    subst hg
    refine Or.inl ⟨v, ⟨(({ U with heap := s₂.heap, slotsUsed := s₂.slotsUsed } : State).setVm s₂.vm), Ls ++ L, c0 + mc, s0 + ms⟩,
      ⟨X.admits, X.cas, X.clock, X.frames, X.room, X.hears, X.method, X.code, (X.here.setHeapUsed s₂.heap s₂.slotsUsed).setVm hW'.alike, X.tail, State.WarmedH.trans X.warmed hW', X.limits, X.bytes, X.same.trans (hsame.setVm s.vm)⟩,
      ⟨g, mk, s₂, L, rfl, rfl, hqc, rfl, hL, rfl, rfl⟩, ?_⟩
    show Steps p.tables e below _ ((({ U with heap := s₂.heap, slotsUsed := s₂.slotsUsed } : State).setVm s₂.vm).setTop { g with pc := g.pc + len₂, stack := v.toList ++ g.stack })
    rw [← hs₂]
    exact hsteps
  · obtain ⟨e2, q2, q3, q4, q5, q6⟩ := id hsm
    have e3 : s₂ = ({ (U.calling g mk a).setFrames s₂.frames with heap := s₂.heap, slotsUsed := s₂.slotsUsed } : State).setVm s₂.vm := by
      have : s₂ = ({ s₂ with vm := (U.calling g mk a).vm } : State).setVm s₂.vm := rfl
      rw [e2] at this
      exact this
    have hf₂ : s₂.frames = .throwing q :: .java g :: U.frames.tail := hend
    have hW' : U.WarmedH s₂.vm := hW₂
    have hs₂ : s₂ = ((({ U with heap := s₂.heap, slotsUsed := s₂.slotsUsed } : State).setVm s₂.vm).setTop g).pushFrame (.throwing q) := by
      refine e3.trans ?_
      rw [hf₂, State.calling_eq h.top, State.setFrames_setFrames, State.pushFrame, State.frames_setTop _ hr', State.setTop_of_frames _ hr', State.setFrames_setFrames, hr]
      rfl
    have hsame : U.sameButNew ({ U with heap := s₂.heap, slotsUsed := s₂.slotsUsed } : State) L mc ms := by
      refine ⟨?_, q2, q3, q4, q5, q6⟩
      obtain ⟨t, ht, -⟩ := State.frames_cons hr
      show ({ U with heap := s₂.heap, slotsUsed := s₂.slotsUsed } : State) = { U.setFrames U.frames with heap := s₂.heap, slotsUsed := s₂.slotsUsed }
      rw [State.setFrames_self ht]
    subst hg
    refine Or.inr ⟨q, ⟨(({ U with heap := s₂.heap, slotsUsed := s₂.slotsUsed } : State).setVm s₂.vm), Ls ++ L, c0 + mc, s0 + ms⟩,
      ⟨X.admits, X.cas, X.clock, X.frames, X.room, X.hears, X.method, X.code, (X.here.setHeapUsed s₂.heap s₂.slotsUsed).setVm hW'.alike, X.tail, State.WarmedH.trans X.warmed hW', X.limits, X.bytes, X.same.trans (hsame.setVm s.vm)⟩,
      ⟨g, mk, s₂, L, E, ce, rfl, rfl, hx, hce, hcv, hcl, rfl, hL, rfl, rfl⟩, ?_⟩
    show Steps p.tables e below _ (((({ U with heap := s₂.heap, slotsUsed := s₂.slotsUsed } : State).setVm s₂.vm).setTop g).pushFrame (.throwing q))
    rw [← hs₂]
    exact hsteps
end Payer
section Calls
variable {p : Program} {l : Launch} {e : Env} {R : Room} {s : State} {m : MethodId} {args : Array Value} {below : List Frame} {meth : Method} {c : Code} {T : State} {locs : List Loc} {cells slots : Nat}
theorem vx_callV (X : Stand p l e R s m args below meth c T locs cells slots) (hexec : p.tables.exec = Jvm.exec) {own C : String} {index : Nat} {y : MethodName} {bytes : ByteArray} {maxL : Nat} {ret : Option FieldType}
    (hown : s.vm.findClass own = some m.cls) (hlink : (Cond.methodLink own index y).before args s = true) (hinst : (Cond.instanceMethod y).before args s = true) (hsel : (Cond.selects C y y).before args s = true)
    (hcode : (Cond.code y bytes maxL ret).before args s = true) (hy : y.cls ≠ "java/lang/invoke/MethodHandle" ∧ y.cls ≠ "java/lang/invoke/VarHandle")
    {W9 : Nat} {Pre : Pt → Array Value → Prop} {Post : Pt → Array Value → Option Value → Pt → Prop} {PostX : Pt → Array Value → Addr → Pt → Prop} (hK : vx_Back l R p e below s args y 3 W9 Pre Post PostX)
    {b : Addr} {cellB : Cell} (hcell : T.heap[b]? = some cellB) (hobj : cellB.vm.isStatics = false) (hcls : s.vm.findClass C = some cellB.cls)
    {g : JFrame} (hg : g.method = m) (hsize : g.locals.size = c.maxLocals) {argsL rest : List Value} (hlen : ∀ sig, parseMethodDescriptor y.desc = some sig → argsL.length = sig.parameters.length)
    (hstack : g.stack = argsL.reverse ++ .ref b :: rest) (hW : 2 * g.monitorRoom + (rest.map fun v => v.category).sum ≤ W9) (hdg : decode c.code g.pc = .ok (.invokevirtual index, 3))
    (hpre : ∀ vm₁, s.WarmedH vm₁ → Pre ⟨T.setVm vm₁, locs, cells, slots⟩ (Value.ref b :: argsL).toArray) :
    (∃ (v : Option Value) (vm₁ : Vm) (B : Pt), s.WarmedH vm₁ ∧ Stand p l e R s m args below meth c B.U B.locs B.cells B.slots ∧ Post ⟨T.setVm vm₁, locs, cells, slots⟩ (Value.ref b :: argsL).toArray v B ∧
      ∀ target, Steps p.tables e below (B.U.setTop { g with pc := g.pc + 3, stack := v.toList ++ rest }) target → Steps p.tables e below (T.setTop g) target) ∨
    (∃ (q : Addr) (vm₁ : Vm) (B : Pt), s.WarmedH vm₁ ∧ Stand p l e R s m args below meth c B.U B.locs B.cells B.slots ∧ PostX ⟨T.setVm vm₁, locs, cells, slots⟩ (Value.ref b :: argsL).toArray q B ∧
      Steps p.tables e below (T.setTop g) ((B.U.setTop { g with stack := rest }).pushFrame (.throwing q))) := by
  obtain ⟨mk, methM, hnamed, hmethM, hstM, habM⟩ := Cond.instanceMethod_spec hinst
  obtain ⟨methM', cM, hmethM', -, -, -, -, -, -, hsigM⟩ := Cond.code_spec hnamed hcode
  cases hmethM.symm.trans hmethM'
  obtain ⟨c2, r2, m2, q1, q2, q3, q4, kP, hkP, hkPi⟩ := Cond.selects_spec hsel
  cases hcls.symm.trans q1
  cases (State.methodFound?_of_named hnamed hy).symm.trans q2
  cases hnamed.symm.trans q3
  have hselP : selectMethod e.platform s.vm cellB.cls mk = .method mk := by rw [Launch.admits_selectMethod X.admits]; exact q4
  obtain ⟨vm₁, X₁, hstep₁⟩ := X.invokevirtual hexec hown hlink hnamed hmethM hstM hkP hkPi hy (a := b) (cell := cellB) hcell
    (fun z h => by rw [h] at hobj; cases hobj) hselP hmethM habM hkP hkPi (g := g) hg (argsL := argsL) (rest := rest) (hlen _ hsigM) hstack hdg
  rcases hK m meth c ⟨T.setVm vm₁, locs, cells, slots⟩ { g with stack := rest } (.invokevirtual index) mk (Value.ref b :: argsL).toArray X₁ hg hsize hdg hW (X₁.named hnamed) (hpre vm₁ X₁.warmed) with ⟨v, B, X', hpost, hsteps⟩ | ⟨q, B, X', hpost, hsteps⟩
  · exact Or.inl ⟨v, vm₁, B, X₁.warmed, X', hpost, fun target h => hstep₁ _ fun acts => by rw [doInvoke_state]; exact hsteps.trans h⟩
  · exact Or.inr ⟨q, vm₁, B, X₁.warmed, X', hpost, hstep₁ _ fun acts => by rw [doInvoke_state]; exact hsteps⟩
theorem vx_callS (X : Stand p l e R s m args below meth c T locs cells slots) (hexec : p.tables.exec = Jvm.exec) {own : String} {index : Nat} {y : MethodName} {bytes : ByteArray} {maxL : Nat} {ret : Option FieldType}
    (hown : s.vm.findClass own = some m.cls) (hlink : (Cond.methodLink own index y).before args s = true) (hstat : (Cond.static y).before args s = true) (hinit : (Cond.initialized y.cls).before args s = true)
    (hcode : (Cond.code y bytes maxL ret).before args s = true) (hy : y.cls ≠ "java/lang/invoke/MethodHandle" ∧ y.cls ≠ "java/lang/invoke/VarHandle")
    {W9 : Nat} {Pre : Pt → Array Value → Prop} {Post : Pt → Array Value → Option Value → Pt → Prop} {PostX : Pt → Array Value → Addr → Pt → Prop} (hK : vx_Back l R p e below s args y 3 W9 Pre Post PostX)
    {g : JFrame} (hg : g.method = m) (hsize : g.locals.size = c.maxLocals) {argsL rest : List Value} (hlen : ∀ sig, parseMethodDescriptor y.desc = some sig → argsL.length = sig.parameters.length)
    (hstack : g.stack = argsL.reverse ++ rest) (hW : 2 * g.monitorRoom + (rest.map fun v => v.category).sum ≤ W9) (hdg : decode c.code g.pc = .ok (.invokestatic index, 3))
    (hpre : ∀ vm₁, s.WarmedH vm₁ → Pre ⟨T.setVm vm₁, locs, cells, slots⟩ argsL.toArray) :
    (∃ (v : Option Value) (vm₁ : Vm) (B : Pt), s.WarmedH vm₁ ∧ Stand p l e R s m args below meth c B.U B.locs B.cells B.slots ∧ Post ⟨T.setVm vm₁, locs, cells, slots⟩ argsL.toArray v B ∧
      ∀ target, Steps p.tables e below (B.U.setTop { g with pc := g.pc + 3, stack := v.toList ++ rest }) target → Steps p.tables e below (T.setTop g) target) ∨
    (∃ (q : Addr) (vm₁ : Vm) (B : Pt), s.WarmedH vm₁ ∧ Stand p l e R s m args below meth c B.U B.locs B.cells B.slots ∧ PostX ⟨T.setVm vm₁, locs, cells, slots⟩ argsL.toArray q B ∧
      Steps p.tables e below (T.setTop g) ((B.U.setTop { g with stack := rest }).pushFrame (.throwing q))) := by
  obtain ⟨mk, hnamed⟩ := Cond.code_named hcode
  obtain ⟨methM, cM, hmethM, -, -, -, -, -, -, hsigM⟩ := Cond.code_spec hnamed hcode
  have hstatic : methM.isStatic = true := Cond.static_spec hnamed hmethM hstat
  obtain ⟨kP, hkP, -⟩ := className_of_methodNamed hnamed
  have hinitP : kP.init = .initialized := Cond.initialized_spec (findClass_of_methodNamed hnamed) hkP hinit
  obtain ⟨vm₁, X₁, hstep₁⟩ := X.invokestatic hexec hown hlink hnamed hmethM hstatic hkP hinitP hy (g := g) hg (argsL := argsL) (rest := rest) (hlen _ hsigM) hstack hdg
  rcases hK m meth c ⟨T.setVm vm₁, locs, cells, slots⟩ { g with stack := rest } (.invokestatic index) mk argsL.toArray X₁ hg hsize hdg hW (X₁.named hnamed) (hpre vm₁ X₁.warmed) with ⟨v, B, X', hpost, hsteps⟩ | ⟨q, B, X', hpost, hsteps⟩
  · exact Or.inl ⟨v, vm₁, B, X₁.warmed, X', hpost, fun target h => hstep₁ _ fun acts => by rw [doInvoke_state]; exact hsteps.trans h⟩
  · exact Or.inr ⟨q, vm₁, B, X₁.warmed, X', hpost, hstep₁ _ fun acts => by rw [doInvoke_state]; exact hsteps⟩
end Calls
theorem vx_cls {s : State} {T : State} {vm₁ : Vm} {E : String} {k : ClassId} (hW : s.WarmedH vm₁) (h : (T.setVm vm₁).vm.findClass E = some k) : s.vm.findClass E = some k := by
  have h1 : vm₁.findClass E = some k := h
  rw [hW.alike.findClass] at h1
  exact h1
/-- the method's frame g, with q thrown over it -/
def vx_W (p : Program) (l : Launch) (e : Env) (R : Room) (s : State) (m : MethodId) (args : Array Value) (below : List Frame) (meth : Method) (c : Code) (H : Heap) (locs : List Loc) (cells slots : Nat) (Q : State → Prop) (g : JFrame) (q : Addr) : Prop :=
  ∀ T : State, T.heap = H → Stand p l e R s m args below meth c T locs cells slots → ∃ t, Steps p.tables e below ((T.setTop g).pushFrame (.throwing q)) t ∧ Q t
def vx_Run (p : Program) (l : Launch) (e : Env) (R : Room) (s : State) (m : MethodId) (args : Array Value) (below : List Frame) (meth : Method) (c : Code) (H : Heap) (locs : List Loc) (cells slots mc ms : Nat) (g : JFrame) (rest : List Value) (Qa : State → Outcome → State → Prop) (XC : String → State → State → Prop) (free : Addr → Prop) : Prop :=
  ∀ T : State, T.heap = H → Stand p l e R s m args below meth c T locs cells slots →
    (∃ (v : Option Value) (st₀ t T' : State) (L : List Loc), st₀.heap = H ∧ Stand p l e R s m args below meth c T' (locs ++ L) (cells + mc) (slots + ms) ∧ (∀ q ∈ L, free q.base) ∧ T'.heap = t.heap ∧ T'.vm = t.vm ∧ Qa st₀ (.returned v) t ∧
      Goes p e below T g T' { g with pc := g.pc + 3, stack := v.toList ++ rest }) ∨
    (∃ (q : Addr) (st₀ t T' : State) (L : List Loc) (E : String) (ce : Cell), st₀.heap = H ∧ Stand p l e R s m args below meth c T' (locs ++ L) (cells + mc) (slots + ms) ∧ (∀ z ∈ L, free z.base) ∧ T'.heap = t.heap ∧ T'.vm = t.vm ∧ XC E st₀ t ∧ t.heap[q]? = some ce ∧ ce.vm = .none ∧ s.vm.findClass E = some ce.cls ∧
      Steps p.tables e below (T.setTop g) ((T'.setTop { g with stack := rest }).pushFrame (.throwing q)))
def vx_X {S : Type} (px : S → Prop) (B : String → S → State → Prop) (A : Nat → Prop) : String → State → State → Prop := fun E st t => ∃ u : S, px u ∧ B E u t ∧ va_F A st t
section Runs
variable {p : Program} {l : Launch} {e : Env} {R : Room} {s : State} {m : MethodId} {args : Array Value} {below : List Frame} {meth : Method} {c : Code} {H : Heap} {locs : List Loc} {cells slots : Nat}
variable {y : MethodName} {bytes cc : ByteArray} {maxL nL mc ms n index : Nat} {ret : Option FieldType} {ws : List Cond} {rm : Room} {Pc : Array Value → State → Prop} {Qc : Array Value → State → Outcome → State → Prop} {XC : String → State → State → Prop} {free : Addr → Prop} {Ts : List Cond} {own C : String} {b : Addr} {As rest : List Value} {g : JFrame}
theorem vx_callBack (cb : CallB R s args own index y bytes maxL ret ws rm mc ms n) (hM : vx_Met l y ws rm Pc Qc XC mc ms free) (hbl : FrameBlind Pc) : vx_Back l R p e below s args y 3 8 (PreOf R mc ms Pc) (PostOf Qc mc ms free) (vx_Post XC mc ms free) := by
  obtain ⟨hrc, hrs, hfr, hlo, hws, hcw, -, hini, -⟩ := cb
  exact vx_back (bytes := bytes) (maxL := maxL) (ret := ret) hM hbl hrc hrs hfr hlo hws hcw (fun a' U hW => word_at hW (Or.inl (by first | rfl | simp [Cond.onTables, Cond.keeps, Cond.steady])) hini)
theorem vx_runV (S : CallFix p m c cc nL s args Ts own) (hM : vx_Met l y ws rm Pc Qc XC mc ms free) (cw : CallW R s args own C index y bytes maxL ret ws rm mc ms n) (hp : PreV s H C b Pc As)
    (hg : g.method = m) (hn : As.length = n) (hsize : g.locals.size = nL) (hstack : g.stack = As.reverse ++ .ref b :: rest) (hW : 2 * g.monitorRoom + (rest.map fun v => v.category).sum ≤ 8) (hdg : decode cc g.pc = .ok (.invokevirtual index, 3)) (hf : cells + mc ≤ R.cells ∧ slots + ms ≤ R.slots) :
    vx_Run p l e R s m args below meth c H locs cells slots mc ms g rest (Qc (Value.ref b :: As).toArray) XC free := by
  have hK : vx_Back l R p e below s args y 3 8 (PreOf R mc ms Pc) (PostOf Qc mc ms free) (vx_Post XC mc ms free) := vx_callBack cw.1 hM hp.1
  obtain ⟨⟨-, -, -, -, -, -, hcode, -, hy, hlen, hl⟩, hin, hse⟩ := cw
  obtain ⟨hx, hb, hml, ho, -⟩ := S
  obtain ⟨-, ⟨cellB, hcB, hoB, hclB⟩, hPc⟩ := hp
  intro T hT X
  rcases vx_callV X hx (C := C) (bytes := bytes) (maxL := maxL) (ret := ret) ho hl hin hse hcode hy hK (by rw [hT]; exact hcB) hoB hclB hg (hsize.trans hml.symm) (argsL := As) (rest := rest) (fun sig h => hn.trans (hlen sig h)) hstack hW (by rw [hb]; exact hdg)
    (fun vm₁ hW₁ => ⟨hf.1, hf.2, hPc (T.setVm vm₁) hT hW₁⟩) with ⟨v, vm₁, ⟨U', l2, c2, s2⟩, hW₁, X', ⟨g', mk, t, L, e1, e2, hq, h1, hL, h2, h3⟩, st⟩ | ⟨q, vm₁, ⟨U', l2, c2, s2⟩, hW₁, X', ⟨g', mk, t, L, E, ce, e1, e2, hq, hce, hcv, hcl, h1, hL, h2, h3⟩, st⟩
  · dsimp only [Pt.U, Pt.locs, Pt.cells, Pt.slots] at X' e1 e2 h1 h2 h3 st
    subst h1; subst h2; subst h3
    exact Or.inl ⟨v, (T.setVm vm₁).calling g' mk (Value.ref b :: As).toArray, t, U', L, hT, X', hL, e1, e2, hq, st⟩
  · dsimp only [Pt.U, Pt.locs, Pt.cells, Pt.slots] at X' e1 e2 h1 h2 h3 st hcl
    subst h1; subst h2; subst h3
    exact Or.inr ⟨q, (T.setVm vm₁).calling g' mk (Value.ref b :: As).toArray, t, U', L, E, ce, hT, X', hL, e1, e2, hq, hce, hcv, vx_cls hW₁ hcl, st⟩
theorem vx_runS (S : CallFix p m c cc nL s args Ts own) (hM : vx_Met l y ws rm Pc Qc XC mc ms free) (cw : CallB R s args own index y bytes maxL ret ws rm mc ms n ∧ (Cond.static y).before args s = true) (hp : PreS s H Pc As)
    (hg : g.method = m) (hn : As.length = n) (hsize : g.locals.size = nL) (hstack : g.stack = As.reverse ++ rest) (hW : 2 * g.monitorRoom + (rest.map fun v => v.category).sum ≤ 8) (hdg : decode cc g.pc = .ok (.invokestatic index, 3)) (hf : cells + mc ≤ R.cells ∧ slots + ms ≤ R.slots) :
    vx_Run p l e R s m args below meth c H locs cells slots mc ms g rest (Qc As.toArray) XC free := by
  have hK : vx_Back l R p e below s args y 3 8 (PreOf R mc ms Pc) (PostOf Qc mc ms free) (vx_Post XC mc ms free) := vx_callBack cw.1 hM hp.1
  obtain ⟨⟨-, -, -, -, -, -, hcode, hini, hy, hlen, hl⟩, hstt⟩ := cw
  obtain ⟨hx, hb, hml, ho, -⟩ := S
  intro T hT X
  rcases vx_callS X hx (bytes := bytes) (maxL := maxL) (ret := ret) ho hl hstt hini hcode hy hK hg (hsize.trans hml.symm) (argsL := As) (rest := rest) (fun sig h => hn.trans (hlen sig h)) hstack hW (by rw [hb]; exact hdg)
    (fun vm₁ hW₁ => ⟨hf.1, hf.2, hp.2 (T.setVm vm₁) hT hW₁⟩) with ⟨v, vm₁, ⟨U', l2, c2, s2⟩, hW₁, X', ⟨g', mk, t, L, e1, e2, hq, h1, hL, h2, h3⟩, st⟩ | ⟨q, vm₁, ⟨U', l2, c2, s2⟩, hW₁, X', ⟨g', mk, t, L, E, ce, e1, e2, hq, hce, hcv, hcl, h1, hL, h2, h3⟩, st⟩
  · dsimp only [Pt.U, Pt.locs, Pt.cells, Pt.slots] at X' e1 e2 h1 h2 h3 st
    subst h1; subst h2; subst h3
    exact Or.inl ⟨v, (T.setVm vm₁).calling g' mk As.toArray, t, U', L, hT, X', hL, e1, e2, hq, st⟩
  · dsimp only [Pt.U, Pt.locs, Pt.cells, Pt.slots] at X' e1 e2 h1 h2 h3 st hcl
    subst h1; subst h2; subst h3
    exact Or.inr ⟨q, (T.setVm vm₁).calling g' mk As.toArray, t, U', L, E, ce, hT, X', hL, e1, e2, hq, hce, hcv, vx_cls hW₁ hcl, st⟩
end Runs
section Rows
variable {p : Program} {l : Launch} {e : Env} {R : Room} {s : State} {m : MethodId} {args : Array Value} {below : List Frame} {meth : Method} {c : Code} {H : Heap} {locs : List Loc} {cells slots : Nat} {Q : State → Prop}
variable {mc ms : Nat} {free : Addr → Prop} {A0 A1 : Nat → Prop} {H0 : Heap} {a : Array Value} {pc : Nat} {ls : Array Slot} {st0 rest : List Value}
theorem vx_keep {st₀ t T' : State} {L : List Loc} (h0 : st₀.heap = H) (e1 : T'.heap = t.heap) (hS : va_S A0 H0 H locs) (hA : ∀ q, q < H.size → A1 q → A0 q) (hf : ∀ q, free q → A0 q) (hL : ∀ q ∈ L, free q.base) (hF : va_F A1 st₀ t) :
    H.size ≤ T'.heap.size ∧ (∀ q : Nat, q < H.size → ¬ A1 q → T'.heap[q]? = H[q]?) ∧ va_S A0 H0 T'.heap (locs ++ L) := by
  obtain ⟨hz, hk⟩ := hF
  rw [h0] at hz hk
  exact ⟨by rw [e1]; exact hz, fun q h1 h2 => by rw [e1]; exact hk q h1 h2,
    ⟨Nat.le_trans hS.1 (by rw [e1]; exact hz), fun q h1 h2 => by rw [e1, hk q (Nat.lt_of_lt_of_le h1 hS.1) (fun z => h2 (hA q (Nat.lt_of_lt_of_le h1 hS.1) z))]; exact hS.2.1 q h1 h2, fun q hq => by
      rcases List.mem_append.mp hq with h | h
      · exact hS.2.2 q h
      · exact hf _ (hL q h)⟩⟩
theorem vx_calli {S SX : Type} {post : Int32 → S → Prop} {px : SX → Prop} {B : S → State → Prop} {BX : String → SX → State → Prop} {AX : Nat → Prop} (hr : vx_Run p l e R s m args below meth c H locs cells slots mc ms (F0 m pc ls st0) rest (va_Qi post B A1 a) (vx_X px BX AX) free) (hS : va_S A0 H0 H locs) (hA : ∀ q, q < H.size → A1 q → A0 q) (hf : ∀ q, free q → A0 q) (hAX : ∀ q, q < H.size → AX q → A0 q)
    (kx : ∀ (E : String) (ce : Cell) (q9 : Addr) (u : SX) (t : State) (H1 : Heap) (locs1 : List Loc), t.heap = H1 → s.vm.Alike t.vm → px u → BX E u t → H.size ≤ H1.size → (∀ q : Nat, q < H.size → ¬ AX q → H1[q]? = H[q]?) → va_S A0 H0 H1 locs1 → H1[q9]? = some ce → ce.vm = .none → s.vm.findClass E = some ce.cls → vx_W p l e R s m args below meth c H1 locs1 (cells + mc) (slots + ms) Q (F0 m pc ls rest) q9)
    (kk : ∀ (r : Int32) (u : S) (t : State) (H1 : Heap) (locs1 : List Loc), t.heap = H1 → s.vm.Alike t.vm → post r u → B u t → H.size ≤ H1.size → (∀ q : Nat, q < H.size → ¬ A1 q → H1[q]? = H[q]?) → va_S A0 H0 H1 locs1 → W p l e R s m args below meth c H1 locs1 (cells + mc) (slots + ms) Q (F0 m (pc + 3) ls (.int r :: rest))) : W p l e R s m args below meth c H locs cells slots Q (F0 m pc ls st0) := by
  intro T hT X
  rcases hr T hT X with ⟨v, st₀, t, T', L, h0, X', hL, e1, e2, ⟨⟨r, u, hv, hp, hb⟩, hF⟩, st⟩ | ⟨q, st₀, t, T', L, E, ce, h0, X', hL, e1, e2, ⟨u, hp, hb, hF⟩, hce, hcv, hcl, st⟩
  · cases hv
    obtain ⟨k1, k2, k3⟩ := vx_keep h0 e1 hS hA hf hL hF
    obtain ⟨t2, a1, b1⟩ := kk r u t T'.heap (locs ++ L) e1.symm (by rw [← e2]; exact X'.warmed.alike) hp hb k1 k2 k3 T' rfl X'
    exact ⟨t2, st t2 a1, b1⟩
  · obtain ⟨k1, k2, k3⟩ := vx_keep h0 e1 hS hAX hf hL hF
    obtain ⟨t2, a1, b1⟩ := kx E ce q u t T'.heap (locs ++ L) e1.symm (by rw [← e2]; exact X'.warmed.alike) hp hb k1 k2 k3 (by rw [e1]; exact hce) hcv hcl T' rfl X'
    exact ⟨t2, st.trans a1, b1⟩
theorem vx_calll {S SX : Type} {post : Int64 → S → Prop} {px : SX → Prop} {B : S → State → Prop} {BX : String → SX → State → Prop} {AX : Nat → Prop} (hr : vx_Run p l e R s m args below meth c H locs cells slots mc ms (F0 m pc ls st0) rest (va_Ql post B A1 a) (vx_X px BX AX) free) (hS : va_S A0 H0 H locs) (hA : ∀ q, q < H.size → A1 q → A0 q) (hf : ∀ q, free q → A0 q) (hAX : ∀ q, q < H.size → AX q → A0 q)
    (kx : ∀ (E : String) (ce : Cell) (q9 : Addr) (u : SX) (t : State) (H1 : Heap) (locs1 : List Loc), t.heap = H1 → s.vm.Alike t.vm → px u → BX E u t → H.size ≤ H1.size → (∀ q : Nat, q < H.size → ¬ AX q → H1[q]? = H[q]?) → va_S A0 H0 H1 locs1 → H1[q9]? = some ce → ce.vm = .none → s.vm.findClass E = some ce.cls → vx_W p l e R s m args below meth c H1 locs1 (cells + mc) (slots + ms) Q (F0 m pc ls rest) q9)
    (kk : ∀ (r : Int64) (u : S) (t : State) (H1 : Heap) (locs1 : List Loc), t.heap = H1 → s.vm.Alike t.vm → post r u → B u t → H.size ≤ H1.size → (∀ q : Nat, q < H.size → ¬ A1 q → H1[q]? = H[q]?) → va_S A0 H0 H1 locs1 → W p l e R s m args below meth c H1 locs1 (cells + mc) (slots + ms) Q (F0 m (pc + 3) ls (.long r :: rest))) : W p l e R s m args below meth c H locs cells slots Q (F0 m pc ls st0) := by
  intro T hT X
  rcases hr T hT X with ⟨v, st₀, t, T', L, h0, X', hL, e1, e2, ⟨⟨r, u, hv, hp, hb⟩, hF⟩, st⟩ | ⟨q, st₀, t, T', L, E, ce, h0, X', hL, e1, e2, ⟨u, hp, hb, hF⟩, hce, hcv, hcl, st⟩
  · cases hv
    obtain ⟨k1, k2, k3⟩ := vx_keep h0 e1 hS hA hf hL hF
    obtain ⟨t2, a1, b1⟩ := kk r u t T'.heap (locs ++ L) e1.symm (by rw [← e2]; exact X'.warmed.alike) hp hb k1 k2 k3 T' rfl X'
    exact ⟨t2, st t2 a1, b1⟩
  · obtain ⟨k1, k2, k3⟩ := vx_keep h0 e1 hS hAX hf hL hF
    obtain ⟨t2, a1, b1⟩ := kx E ce q u t T'.heap (locs ++ L) e1.symm (by rw [← e2]; exact X'.warmed.alike) hp hb k1 k2 k3 (by rw [e1]; exact hce) hcv hcl T' rfl X'
    exact ⟨t2, st.trans a1, b1⟩
theorem vx_callf {S SX : Type} {post : UInt32 → S → Prop} {px : SX → Prop} {B : S → State → Prop} {BX : String → SX → State → Prop} {AX : Nat → Prop} (hr : vx_Run p l e R s m args below meth c H locs cells slots mc ms (F0 m pc ls st0) rest (va_Qf post B A1 a) (vx_X px BX AX) free) (hS : va_S A0 H0 H locs) (hA : ∀ q, q < H.size → A1 q → A0 q) (hf : ∀ q, free q → A0 q) (hAX : ∀ q, q < H.size → AX q → A0 q)
    (kx : ∀ (E : String) (ce : Cell) (q9 : Addr) (u : SX) (t : State) (H1 : Heap) (locs1 : List Loc), t.heap = H1 → s.vm.Alike t.vm → px u → BX E u t → H.size ≤ H1.size → (∀ q : Nat, q < H.size → ¬ AX q → H1[q]? = H[q]?) → va_S A0 H0 H1 locs1 → H1[q9]? = some ce → ce.vm = .none → s.vm.findClass E = some ce.cls → vx_W p l e R s m args below meth c H1 locs1 (cells + mc) (slots + ms) Q (F0 m pc ls rest) q9)
    (kk : ∀ (r : UInt32) (u : S) (t : State) (H1 : Heap) (locs1 : List Loc), t.heap = H1 → s.vm.Alike t.vm → post r u → B u t → H.size ≤ H1.size → (∀ q : Nat, q < H.size → ¬ A1 q → H1[q]? = H[q]?) → va_S A0 H0 H1 locs1 → W p l e R s m args below meth c H1 locs1 (cells + mc) (slots + ms) Q (F0 m (pc + 3) ls (.float r :: rest))) : W p l e R s m args below meth c H locs cells slots Q (F0 m pc ls st0) := by
  intro T hT X
  rcases hr T hT X with ⟨v, st₀, t, T', L, h0, X', hL, e1, e2, ⟨⟨r, u, hv, hp, hb⟩, hF⟩, st⟩ | ⟨q, st₀, t, T', L, E, ce, h0, X', hL, e1, e2, ⟨u, hp, hb, hF⟩, hce, hcv, hcl, st⟩
  · cases hv
    obtain ⟨k1, k2, k3⟩ := vx_keep h0 e1 hS hA hf hL hF
    obtain ⟨t2, a1, b1⟩ := kk r u t T'.heap (locs ++ L) e1.symm (by rw [← e2]; exact X'.warmed.alike) hp hb k1 k2 k3 T' rfl X'
    exact ⟨t2, st t2 a1, b1⟩
  · obtain ⟨k1, k2, k3⟩ := vx_keep h0 e1 hS hAX hf hL hF
    obtain ⟨t2, a1, b1⟩ := kx E ce q u t T'.heap (locs ++ L) e1.symm (by rw [← e2]; exact X'.warmed.alike) hp hb k1 k2 k3 (by rw [e1]; exact hce) hcv hcl T' rfl X'
    exact ⟨t2, st.trans a1, b1⟩
theorem vx_calld {S SX : Type} {post : UInt64 → S → Prop} {px : SX → Prop} {B : S → State → Prop} {BX : String → SX → State → Prop} {AX : Nat → Prop} (hr : vx_Run p l e R s m args below meth c H locs cells slots mc ms (F0 m pc ls st0) rest (va_Qd post B A1 a) (vx_X px BX AX) free) (hS : va_S A0 H0 H locs) (hA : ∀ q, q < H.size → A1 q → A0 q) (hf : ∀ q, free q → A0 q) (hAX : ∀ q, q < H.size → AX q → A0 q)
    (kx : ∀ (E : String) (ce : Cell) (q9 : Addr) (u : SX) (t : State) (H1 : Heap) (locs1 : List Loc), t.heap = H1 → s.vm.Alike t.vm → px u → BX E u t → H.size ≤ H1.size → (∀ q : Nat, q < H.size → ¬ AX q → H1[q]? = H[q]?) → va_S A0 H0 H1 locs1 → H1[q9]? = some ce → ce.vm = .none → s.vm.findClass E = some ce.cls → vx_W p l e R s m args below meth c H1 locs1 (cells + mc) (slots + ms) Q (F0 m pc ls rest) q9)
    (kk : ∀ (r : UInt64) (u : S) (t : State) (H1 : Heap) (locs1 : List Loc), t.heap = H1 → s.vm.Alike t.vm → post r u → B u t → H.size ≤ H1.size → (∀ q : Nat, q < H.size → ¬ A1 q → H1[q]? = H[q]?) → va_S A0 H0 H1 locs1 → W p l e R s m args below meth c H1 locs1 (cells + mc) (slots + ms) Q (F0 m (pc + 3) ls (.double r :: rest))) : W p l e R s m args below meth c H locs cells slots Q (F0 m pc ls st0) := by
  intro T hT X
  rcases hr T hT X with ⟨v, st₀, t, T', L, h0, X', hL, e1, e2, ⟨⟨r, u, hv, hp, hb⟩, hF⟩, st⟩ | ⟨q, st₀, t, T', L, E, ce, h0, X', hL, e1, e2, ⟨u, hp, hb, hF⟩, hce, hcv, hcl, st⟩
  · cases hv
    obtain ⟨k1, k2, k3⟩ := vx_keep h0 e1 hS hA hf hL hF
    obtain ⟨t2, a1, b1⟩ := kk r u t T'.heap (locs ++ L) e1.symm (by rw [← e2]; exact X'.warmed.alike) hp hb k1 k2 k3 T' rfl X'
    exact ⟨t2, st t2 a1, b1⟩
  · obtain ⟨k1, k2, k3⟩ := vx_keep h0 e1 hS hAX hf hL hF
    obtain ⟨t2, a1, b1⟩ := kx E ce q u t T'.heap (locs ++ L) e1.symm (by rw [← e2]; exact X'.warmed.alike) hp hb k1 k2 k3 (by rw [e1]; exact hce) hcv hcl T' rfl X'
    exact ⟨t2, st.trans a1, b1⟩
theorem vx_callv {S SX : Type} {post : S → Prop} {px : SX → Prop} {B : S → State → Prop} {BX : String → SX → State → Prop} {AX : Nat → Prop} (hr : vx_Run p l e R s m args below meth c H locs cells slots mc ms (F0 m pc ls st0) rest (va_Qv post B A1 a) (vx_X px BX AX) free) (hS : va_S A0 H0 H locs) (hA : ∀ q, q < H.size → A1 q → A0 q) (hf : ∀ q, free q → A0 q) (hAX : ∀ q, q < H.size → AX q → A0 q)
    (kx : ∀ (E : String) (ce : Cell) (q9 : Addr) (u : SX) (t : State) (H1 : Heap) (locs1 : List Loc), t.heap = H1 → s.vm.Alike t.vm → px u → BX E u t → H.size ≤ H1.size → (∀ q : Nat, q < H.size → ¬ AX q → H1[q]? = H[q]?) → va_S A0 H0 H1 locs1 → H1[q9]? = some ce → ce.vm = .none → s.vm.findClass E = some ce.cls → vx_W p l e R s m args below meth c H1 locs1 (cells + mc) (slots + ms) Q (F0 m pc ls rest) q9)
    (kk : ∀ (u : S) (t : State) (H1 : Heap) (locs1 : List Loc), t.heap = H1 → s.vm.Alike t.vm → post u → B u t → H.size ≤ H1.size → (∀ q : Nat, q < H.size → ¬ A1 q → H1[q]? = H[q]?) → va_S A0 H0 H1 locs1 → W p l e R s m args below meth c H1 locs1 (cells + mc) (slots + ms) Q (F0 m (pc + 3) ls (rest))) : W p l e R s m args below meth c H locs cells slots Q (F0 m pc ls st0) := by
  intro T hT X
  rcases hr T hT X with ⟨v, st₀, t, T', L, h0, X', hL, e1, e2, ⟨⟨u, hv, hp, hb⟩, hF⟩, st⟩ | ⟨q, st₀, t, T', L, E, ce, h0, X', hL, e1, e2, ⟨u, hp, hb, hF⟩, hce, hcv, hcl, st⟩
  · cases hv
    obtain ⟨k1, k2, k3⟩ := vx_keep h0 e1 hS hA hf hL hF
    obtain ⟨t2, a1, b1⟩ := kk u t T'.heap (locs ++ L) e1.symm (by rw [← e2]; exact X'.warmed.alike) hp hb k1 k2 k3 T' rfl X'
    exact ⟨t2, st t2 a1, b1⟩
  · obtain ⟨k1, k2, k3⟩ := vx_keep h0 e1 hS hAX hf hL hF
    obtain ⟨t2, a1, b1⟩ := kx E ce q u t T'.heap (locs ++ L) e1.symm (by rw [← e2]; exact X'.warmed.alike) hp hb k1 k2 k3 (by rw [e1]; exact hce) hcv hcl T' rfl X'
    exact ⟨t2, st.trans a1, b1⟩
/-- caught by the row x of this method's table; the rows ahead don't take it -/
theorem vx_catch {own name : String} {E : String} {ce : Cell} {q : Addr} (hown : s.vm.findClass own = some m.cls) (pre : List ExceptionTableEntry) (x : ExceptionTableEntry) (suf : List ExceptionTableEntry) (hsplit : c.exceptionTable.toList = pre ++ x :: suf)
    (hpass : ∀ z ∈ pre, covers z pc = false ∨ (z.catchType ≠ 0 ∧ ∃ nm : String, (Cond.classLink own z.catchType nm).before args s = true ∧ va_Nc E nm s)) (hx : covers x pc = true) (h0 : x.catchType ≠ 0)
    (hlink : (Cond.classLink own x.catchType name).before args s = true) (hcast : (Cond.castable E name).before args s = true) (hcell : H[q]? = some ce) (hv : ce.vm = .none) (hcl : s.vm.findClass E = some ce.cls)
    (kk : W p l e R s m args below meth c H locs cells slots Q (F0 m x.handlerPc ls [.ref q])) : vx_W p l e R s m args below meth c H locs cells slots Q (F0 m pc ls rest) q := by
  intro T hT X
  have hpl : e.platform.magicAccessors = ({} : Platform).magicAccessors := by rw [X.admits.platform]
  obtain ⟨c3, c4, hc3, hc4, hasg⟩ := Cond.castable_spec hcast
  cases Option.some.inj (hc3.symm.trans hcl)
  obtain ⟨c5, hc5, hcl5⟩ := Cond.classLink_spec hown hlink e.platform hpl
  cases Option.some.inj (hc4.symm.trans hc5)
  obtain ⟨vm', X', st⟩ := zc_caught X q (g := F0 m pc ls rest) rfl (by rw [hT]; exact hcell) (by rw [hv]; rfl) (by obtain ⟨k9, h9, -⟩ := Vm.findClass_spec hcl; exact ⟨k9, h9⟩) pre x suf hsplit
    (fun z hz => by
      rcases hpass z hz with h | ⟨hz0, nm, hl1, hn1⟩
      · exact Or.inl h
      · obtain ⟨c6, hc6, hcl6⟩ := Cond.classLink_spec hown hl1 e.platform hpl
        obtain ⟨a8, b8, h1, h2, h3⟩ := hn1
        cases Option.some.inj (h1.symm.trans hcl)
        cases Option.some.inj (h2.symm.trans hc6)
        exact Or.inr ⟨hz0, _, hcl6, h3⟩) hx h0 hcl5 hasg
  obtain ⟨t, a1, b1⟩ := kk (T.setVm vm') hT X'
  exact ⟨t, st.trans a1, b1⟩
end Rows
section Ends
variable {p : Program} {l : Launch} {e : Env} {R : Room} {s : State} {m : MethodId} {args : Array Value} {below : List Frame} {meth : Method} {c : Code} {H : Heap} {locs : List Loc} {cells slots : Nat} {Q : State → Prop}
variable {mc ms : Nat} {free : Addr → Prop} {A0 A1 : Nat → Prop} {H0 : Heap} {a : Array Value} {ls : Array Slot} {st0 rest : List Value}
variable {Qc : Array Value → State → Outcome → State → Prop} {XC : String → State → State → Prop}
/-- what a body that may throw owes at its end -/
def vx_MQ (below : List Frame) (Qc : Array Value → State → Outcome → State → Prop) (XC : String → State → State → Prop) (a : Array Value) (s : State) (mc ms : Nat) (free : Addr → Prop) : State → Prop := fun t =>
  ∃ o, t.status = .running ∧ Ended t below o ∧ vx_Q Qc XC mc ms free a s o t
theorem vx_ret {g : JFrame} {mc ms : Nat} (k : W p l e R s m args below meth c H locs cells slots (MQ below Qc args s mc ms free) g) : W p l e R s m args below meth c H locs cells slots (vx_MQ below Qc XC args s mc ms free) g := by
  intro T hT X
  obtain ⟨t, a1, o, b1, b2, b3, b4⟩ := k T hT X
  exact ⟨t, a1, o, b1, b2, Or.inl ⟨b3, b4⟩⟩
/-- not caught here: it goes on to the caller -/
theorem vx_widen {g : JFrame} {q : Addr} {k n : Nat} (h1 : cells ≤ k) (h2 : slots ≤ n) (kk : vx_W p l e R s m args below meth c H locs k n Q g q) : vx_W p l e R s m args below meth c H locs cells slots Q g q := fun T hT X => kk T hT (stand_widen X h1 h2)
theorem vx_out {pc : Nat} {E : String} {ce : Cell} {q : Addr} {mc ms : Nat} (hout : ∀ x ∈ c.exceptionTable.toList, covers x pc = false) (hlocks : meth.locks = false) (hcell : H[q]? = some ce) (hv : ce.vm = .none) (hcl : s.vm.findClass E = some ce.cls)
    (hx : ∀ t : State, t.heap = H → s.vm.Alike t.vm → XC E s t) (hf : ∀ z ∈ locs, free z.base) (hc : cells ≤ mc) (hs : slots ≤ ms) :
    vx_W p l e R s m args below meth c H locs cells slots (vx_MQ below Qc XC args s mc ms free) (F0 m pc ls rest) q := by
  intro T hT X
  obtain ⟨st1, hrun, hend, hW, hsm⟩ := X.leaveThrown q (g := F0 m pc ls rest) rfl rfl rfl hout hlocks
  have hcell9 : (T.setFrames (.throwing q :: below)).heap[q]? = some ce := by
    show T.heap[q]? = some ce
    rw [hT]; exact hcell
  exact ⟨_, st1, .threw q, hrun, hend, Or.inr ⟨q, rfl, E, ce, locs, hx _ hT hW.alike, hcell9, hv, hcl, hW, hsm.mono hc hs, hf⟩⟩
theorem vx_frame {U : State} {k n : Nat} (h : s.sameButNew ({ U with vm := s.vm } : State) locs k n) : s.heap.size ≤ U.heap.size ∧ ∀ q : Nat, q < s.heap.size → (∀ z ∈ locs, z.base ≠ q) → U.heap[q]? = s.heap[q]? := by
  obtain ⟨-, h2, -, -, -, h6⟩ := h
  refine ⟨h2, fun q hq hz => ?_⟩
  obtain ⟨c9, e1, e2, e3, e4⟩ := h6 q _ (Array.getElem?_eq_getElem hq)
  have hs : c9.slots = (s.heap[q]).slots := Array.ext_getElem? fun i => e4 i fun hm => hz _ hm rfl
  have h9 : c9 = s.heap[q] := by
    rw [hs] at e2
    exact e2
  have e5 : U.heap[q]? = some c9 := e1
  rw [e5, h9, Array.getElem?_eq_getElem hq]
/-- the words of a throw but the four that speak of the heap -/
def vx_no (w : Cond) : Bool := decide (w ≠ .isRef (.static Bundle.tN "UNASSIGNED_STACK" Bundle.steD)) && decide (w ≠ .isRef (.static Bundle.tN "SUPPRESSED_SENTINEL" Bundle.listD)) && decide (w ≠ .laysStatic Bundle.tN "UNASSIGNED_STACK" Bundle.steD) && decide (w ≠ .laysStatic Bundle.tN "SUPPRESSED_SENTINEL" Bundle.listD)
def vx_at0 (own : String) (ic : Nat) (X : String) (names : List String) : List Cond := (Bundle.ownAtoms0 own ic X names).filter vx_no
def vx_atS (own : String) (ic : Nat) (X : String) (names : List String) : List Cond := (Bundle.ownAtoms own ic X names).filter vx_no
/-- a word that the tables alone decide, or a good one -/
def vx_ot (w : Cond) : Bool := w.onTables || goodWord w
theorem vx_ot_at {args a' : Array Value} {s U : State} {w : Cond} (hW : s.WarmedH U.vm) (hvm : s.vm = U.vm) (hg : vx_ot w = true) (h : w.before args s = true) : w.before a' U = true := by
  simp only [vx_ot, Bool.or_eq_true] at hg
  rcases hg with hg | hg
  · exact va_tabs hg hvm h
  · exact word_at hW (good_of_word hg) h
/-- a list's words: the good ones out of the method's own list, the others by premises of their own -/
theorem vx_hat {args : Array Value} {s : State} {L B : List Cond} (h1 : ∀ w ∈ L.filter goodWord, w.before args s = true) (h2 : ∀ w ∈ L.filter (fun w => !goodWord w), w ∈ B) (h3 : ∀ w ∈ B, w.before args s = true) : ∀ w ∈ L, w.before args s = true := by
  intro w hw
  by_cases g : goodWord w = true
  · exact h1 w (List.mem_filter.mpr ⟨hw, g⟩)
  · refine h3 w (h2 w (List.mem_filter.mpr ⟨hw, ?_⟩))
    show (!goodWord w) = true
    cases hgw : goodWord w
    · rfl
    · exact absurd hgw g
theorem vx_c {args : Array Value} {s : State} {w : Cond} {B : List Cond} (h : w.before args s = true) (t : ∀ w ∈ B, w.before args s = true) : ∀ w' ∈ w :: B, w'.before args s = true := fun w' h' => (List.mem_cons.mp h').elim (fun e => by rw [e]; exact h) (t w')
theorem vx_n {args : Array Value} {s : State} : ∀ w ∈ ([] : List Cond), w.before args s = true := fun _ h => nomatch h
theorem vx_own {args : Array Value} {s : State} {L : List Cond} (h1 : ∀ w ∈ L.filter vx_no, w.before args s = true)
    (hU : (Cond.isRef (.static Bundle.tN "UNASSIGNED_STACK" Bundle.steD)).before args s = true) (hN : (Cond.isRef (.static Bundle.tN "SUPPRESSED_SENTINEL" Bundle.listD)).before args s = true)
    (lU : (Cond.laysStatic Bundle.tN "UNASSIGNED_STACK" Bundle.steD).before args s = true) (lN : (Cond.laysStatic Bundle.tN "SUPPRESSED_SENTINEL" Bundle.listD).before args s = true) : ∀ w ∈ L, w.before args s = true := by
  intro w hw
  by_cases e1 : w = .isRef (.static Bundle.tN "UNASSIGNED_STACK" Bundle.steD)
  · rw [e1]; exact hU
  · by_cases e2 : w = .isRef (.static Bundle.tN "SUPPRESSED_SENTINEL" Bundle.listD)
    · rw [e2]; exact hN
    · by_cases e3 : w = .laysStatic Bundle.tN "UNASSIGNED_STACK" Bundle.steD
      · rw [e3]; exact lU
      · by_cases e4 : w = .laysStatic Bundle.tN "SUPPRESSED_SENTINEL" Bundle.listD
        · rw [e4]; exact lN
        · exact h1 w (List.mem_filter.mpr ⟨hw, by unfold vx_no; rw [decide_eq_true e1, decide_eq_true e2, decide_eq_true e3, decide_eq_true e4]; rfl⟩)
/-- where a static field lies, its class's statics cell in H -/
def vx_L (C n d : String) (A : Nat → Prop) (U : State) (H : Heap) : Prop := ∃ (c : ClassId) (k : Class) (i : Nat) (f : Field) (a : Nat) (cell : Cell), U.vm.findClass C = some c ∧ U.fieldFound? C n d = some (c, k, i, f) ∧ f.isStatic = true ∧ k.statics = some a ∧ H[a]? = some cell ∧ cell.vm.isStatics = true ∧ cell.cls = c ∧ f.slot < cell.slots.size ∧ k.staticTypes[f.slot]? = some f.type ∧ ¬ A a
theorem vx_L.moved {C n d : String} {A : Nat → Prop} {u U : State} {H : Heap} (hvm : u.vm.Alike U.vm) (h : vx_L C n d A u H) : vx_L C n d A U H := by
  obtain ⟨c, k, i, f, a, cell, h1, h2, h3, h4, h5, h6, h7, h8, h9, h10⟩ := h
  obtain ⟨k', hi', he⟩ := State.fieldFound?_setVm hvm h2
  exact ⟨c, k', i, f, a, cell, by rw [hvm.findClass]; exact h1, hi', h3, by rw [he]; exact h4, h5, h6, h7, h8, by rw [he]; exact h9, h10⟩
theorem vx_L.kept {C n d : String} {A : Nat → Prop} {U : State} {H H1 : Heap} (h : vx_L C n d A U H) (hq : ∀ a : Nat, a < H.size → ¬ A a → H1[a]? = H[a]?) : vx_L C n d A U H1 := by
  obtain ⟨c, k, i, f, a, cell, h1, h2, h3, h4, h5, h6, h7, h8, h9, h10⟩ := h
  exact ⟨c, k, i, f, a, cell, h1, h2, h3, h4, by rw [hq a (Array.getElem?_eq_some_iff.mp h5).1 h10]; exact h5, h6, h7, h8, h9, h10⟩
theorem vx_L.narrow {C n d : String} {A B : Nat → Prop} {U : State} {H : Heap} (h : vx_L C n d A U H) (hAB : ∀ q, B q → A q) : vx_L C n d B U H := by
  obtain ⟨c, k, i, f, a, cell, h1, h2, h3, h4, h5, h6, h7, h8, h9, h10⟩ := h
  exact ⟨c, k, i, f, a, cell, h1, h2, h3, h4, h5, h6, h7, h8, h9, fun z => h10 (hAB _ z)⟩
theorem vx_L.word {C n d : String} {A : Nat → Prop} {s : State} {args : Array Value} (h : vx_L C n d A s s.heap) : (Cond.laysStatic C n d).before args s = true := by
  obtain ⟨c, k, i, f, a, cell, h1, h2, h3, h4, h5, h6, h7, h8, h9, -⟩ := h
  show (Cond.laysStatic C n d).holds args s none s [] = true
  exact Cond.laysStatic_of h1 h2 h3 h4 h5 h6 h7 h8 h9
/-- .. and what it holds: null or some reference -/
def vx_Zq (C n d : String) (A : Nat → Prop) (U : State) (H : Heap) : Prop := va_Zq C n d A U H ∧ vx_L C n d A U H
theorem vx_Zq.moved {C n d : String} {A : Nat → Prop} {u U : State} {H : Heap} (hvm : u.vm.Alike U.vm) (h : vx_Zq C n d A u H) : vx_Zq C n d A U H := ⟨va_Zq.moved hvm h.1, vx_L.moved hvm h.2⟩
theorem vx_Zq.kept {C n d : String} {A : Nat → Prop} {U : State} {H H1 : Heap} (h : vx_Zq C n d A U H) (hq : ∀ a : Nat, a < H.size → ¬ A a → H1[a]? = H[a]?) : vx_Zq C n d A U H1 := ⟨va_Zq.kept h.1 hq, vx_L.kept h.2 hq⟩
theorem vx_Zq.narrow {C n d : String} {A B : Nat → Prop} {U : State} {H : Heap} (h : vx_Zq C n d A U H) (hAB : ∀ q, B q → A q) : vx_Zq C n d B U H := ⟨va_Zq.narrow h.1 hAB, vx_L.narrow h.2 hAB⟩
theorem vx_Zqof {args : Array Value} {s : State} {C n d : String} {A : Nat → Prop} (hl : (Cond.laysStatic C n d).before args s = true) (hini : (Cond.initialized C).before args s = true) (h : (Cond.isRef (.static C n d)).before args s = true) (hA : ∀ a : Nat, a < s.heap.size → ¬ A a) : vx_Zq C n d A s s.heap := by
  refine ⟨va_Zqof hl hini h hA, ?_⟩
  obtain ⟨c, k, i, f, a, cell, h1, h2, h3, h4, h5, h6, h7, h8, h9⟩ := Cond.laysStatic_spec hl
  exact ⟨c, k, i, f, a, cell, h1, h2, h3, h4, h5, h6, h7, h8, h9, hA a (Array.getElem?_eq_some_iff.mp h5).1⟩
theorem vx_isRef {C n d : String} {v : Value} {A : Nat → Prop} {s : State} {args : Array Value} (h : va_Z C n d v A s s.heap) (hv : v.isRef = true) : (Cond.isRef (.static C n d)).before args s = true := by
  obtain ⟨cf, kf, fi, f, a, cell, h1, h2, h3, h4, h5, h6, h7, -⟩ := h
  have he : (Term.static C n d).eval args s none [] s = some v := by
    simp [Term.eval, State.fieldNamed?, h1, h2, h4, h5, h6, h7]
  simp only [Cond.before, Cond.holds, Cond.value, he]
  cases v <;> simp_all [Value.isRef]
theorem vx_isRefq {C n d : String} {A : Nat → Prop} {s : State} {args : Array Value} (h : va_Zq C n d A s s.heap) : (Cond.isRef (.static C n d)).before args s = true := by
  rcases h with h | ⟨t, h⟩
  · exact vx_isRef h rfl
  · exact vx_isRef h rfl
/-- the same frame, seen from here: as if the method were called anew in this heap -/
theorem vx_rebase {T : State} (X : Stand p l e R s m args below meth c T locs cells slots) {R' : Room} (hf : R'.frames ≤ R.frames) (hl : R'.locals ≤ R.locals) (hc : cells + R'.cells ≤ R.cells) (hs : slots + R'.slots ≤ R.slots) :
    Stand p l e R' ((T.setVm s.vm).setFrames (.invoking m args :: below)) m args below meth c T [] 0 0 := by
  have htop : (T.setVm s.vm).topJava?.isSome := X.here.top
  have hF : ((T.setVm s.vm).setFrames (.invoking m args :: below)).frames = .invoking m args :: below := State.frames_setFrames _ (State.cur_lt_of_top htop)
  obtain ⟨g₀, hg0⟩ := Option.isSome_iff_exists.mp htop
  obtain ⟨r, hr⟩ := State.topJava?_eq_some.mp hg0
  have hl9 : e.platform.stackLimits (T.setVm s.vm).me = e.platform.stackLimits s.me := X.limits
  have hb9 : (T.setVm s.vm).me.stackBytes = s.me.stackBytes := X.bytes
  refine ⟨X.admits, X.cas, X.clock, hF, ?_, X.hears, X.method, X.code, X.here, X.tail, X.warmed, ?_, ?_, ?_⟩
  · have h := X.room
    have hU : ((T.setVm s.vm).setFrames (.invoking m args :: below)).localsInUse = s.localsInUse := by
      rw [State.localsInUse_invoking hF (meth := meth) (c := c) X.method X.code, State.localsInUse_invoking X.frames X.method X.code]
    simp only [State.hasRoom, Bool.and_eq_true, decide_eq_true_eq] at h ⊢
    obtain ⟨⟨⟨⟨h1, h2, h3, h4, h5, h6⟩, h7⟩, h8⟩, h9⟩ := h
    rw [X.frames, List.length_cons] at h2 h3
    have q1 := X.heapSize
    have q2 := X.used
    simp only [hF, hU, List.length_cons, State.stackLimits_setFrames, State.stackBytes_setFrames, hl9, hb9]
    refine ⟨⟨⟨⟨by omega, by omega, by omega, by omega, by omega, h6⟩, ?_⟩, ?_⟩, X.book⟩
    · show T.heap.size + R'.cells ≤ e.platform.maxCells
      omega
    · show T.slotsUsed + R'.slots ≤ e.platform.maxSlots
      omega
  · rw [State.stackLimits_setFrames]; rfl
  · rw [State.stackBytes_setFrames]; rfl
  · refine ⟨?_, Nat.le_refl _, Nat.le_refl _, ?_, ?_, fun a c9 h9 => ⟨c9, h9, rfl, rfl, fun _ _ => rfl⟩⟩
    · obtain ⟨t, ht, -⟩ := State.frames_cons hr
      show T.setVm s.vm = { ((T.setVm s.vm).setFrames (.invoking m args :: below)).setFrames (T.setVm s.vm).frames with heap := T.heap, slotsUsed := T.slotsUsed }
      rw [State.setFrames_setFrames, State.setFrames_self ht]
      rfl
    · show T.slotsUsed = T.slotsUsed + ((T.heap.toList.drop T.heap.size).map (·.slots.size)).sum
      rw [List.drop_eq_nil_of_le (Nat.le_of_eq Array.length_toList)]
      rfl
    · show ((T.heap.toList.drop T.heap.size).map (·.slots.size)).sum ≤ 0
      rw [List.drop_eq_nil_of_le (Nat.le_of_eq Array.length_toList)]
      exact Nat.le_refl _
/-- 'throw new E()': new; dup; invokespecial; athrow -/
theorem vx_throw0 {cc : ByteArray} {pc : Nat} (hexec : p.tables.exec = Jvm.exec) (hb : c.code = cc) (hl : l.stackTraces = false) {own cls : String} {names : List String} {ik ic mc ms : Nat} {A : Nat → Prop}
    (hown : s.vm.findClass own = some m.cls) (hcls : Bundle.fit cls = true) (hnames : ∀ n ∈ names, Bundle.fit n = true)
    (hk : (Cond.classLink own ik cls).before args s = true) (hini : (Cond.initialized cls).before args s = true) (hat : ∀ w ∈ vx_at0 own ic cls names, w.before args s = true)
    (hgood : ∀ w ∈ Cond.classLink own ik cls :: Cond.initialized cls :: vx_at0 own ic cls names, vx_ot w = true)
    (hU : vx_Zq Bundle.tN "UNASSIGNED_STACK" Bundle.steD A s s.heap) (hN : vx_Zq Bundle.tN "SUPPRESSED_SENTINEL" Bundle.listD A s s.heap) (hS : va_S A s.heap H locs) (hsize : ls.size = c.maxLocals)
    (d0 : decode cc pc = .ok (.new ik, 3)) (d3 : decode cc (pc + 3) = .ok (.dup, 1)) (d4 : decode cc (pc + 4) = .ok (.invokespecial ic, 3)) (d7 : decode cc (pc + 7) = .ok (.athrow, 1))
    (hout : ∀ x ∈ c.exceptionTable.toList, covers x (pc + 7) = false)
    (hRframes : names.length + 3 < R.frames) (hRlocals : (rest.map fun v => v.category).sum + (13 * (names.length + 1) + 42) ≤ R.locals) (hRcells : cells + 1 ≤ R.cells) (hRslots : slots + 6 ≤ R.slots) (hlocks : meth.locks = false)
    (hx : ∀ t : State, s.vm.Alike t.vm → H.size ≤ t.heap.size → (∀ q : Nat, q < H.size → t.heap[q]? = H[q]?) → XC cls s t)
    (hf : ∀ z ∈ locs, free z.base) (hc : cells + 1 ≤ mc) (hs : slots + 6 ≤ ms) :
    W p l e R s m args below meth c H locs cells slots (vx_MQ below Qc XC args s mc ms free) (F0 m pc ls rest) := by
  intro T hT X
  have htr : e.platform.stackTraces = false := (show e.platform.stackTraces = l.stackTraces by rw [X.admits.platform]).trans hl
  have Y := vx_rebase X (R' := { frames := R.frames, locals := R.locals, cells := 1, slots := 6 }) (Nat.le_refl _) (Nat.le_refl _) hRcells hRslots
  obtain ⟨s', hA⟩ : ∃ z, z = (T.setVm s.vm).setFrames (.invoking m args :: below) := ⟨_, rfl⟩
  rw [← hA] at Y
  have hvm : s'.vm = s.vm := by rw [hA]; rfl
  have hhp : s'.heap = H := by rw [hA]; exact hT
  have hW0 : s.WarmedH s'.vm := by rw [hvm]; exact State.WarmedH.refl s
  have hat' : ∀ w ∈ vx_at0 own ic cls names, w.before args s' = true := fun w hw => vx_ot_at hW0 hvm.symm (hgood w (List.mem_cons_of_mem _ (List.mem_cons_of_mem _ hw))) (hat w hw)
  have hk' : (Cond.classLink own ik cls).before args s' = true := vx_ot_at hW0 hvm.symm (hgood _ List.mem_cons_self) hk
  have hini' : (Cond.initialized cls).before args s' = true := vx_ot_at hW0 hvm.symm (hgood _ (List.mem_cons_of_mem _ List.mem_cons_self)) hini
  have hU' : vx_Zq Bundle.tN "UNASSIGNED_STACK" Bundle.steD A s' s'.heap := by rw [hhp]; exact vx_Zq.moved hW0.alike (hU.kept hS.2.1)
  have hN' : vx_Zq Bundle.tN "SUPPRESSED_SENTINEL" Bundle.listD A s' s'.heap := by rw [hhp]; exact vx_Zq.moved hW0.alike (hN.kept hS.2.1)
  have h : ∀ w ∈ Bundle.ownAtoms0 own ic cls names, w.before args s' = true := vx_own hat' (vx_isRefq hU'.1) (vx_isRefq hN'.1) hU'.2.word hN'.2.word
  have hown' : s'.vm.findClass own = some m.cls := by rw [hvm]; exact hown
  have hins : (Cond.instantiable cls 6).before args s' = true := h _ (by simp [Bundle.ownAtoms0])
  obtain ⟨vm₁, cX, kX, hfX, hkX, -, -, X₁, st1⟩ := Y.newCold hexec (own := own) (C := cls) (index := ik) (n := 6) hown' hk' hins hini'
    (g := F0 m pc ls rest) rfl (by rw [hb]; exact d0) (Nat.le_refl _) (Nat.le_refl _)
  generalize hT1 : (T.setVm vm₁).pushCell { cls := cX, slots := kX.instanceTypes.map defaultValue, vm := .none } = T1 at X₁ st1
  have hcat : (Value.ref T.heap.size).category = 1 := rfl
  have hcellA : T1.heap[T.heap.size]? = some (freshCell cX kX) := by rw [← hT1]; exact State.heap_pushCell_size _ _
  have d3' : decode c.code (pc + 3) = .ok (.dup, 1) := by rw [hb]; exact d3
  obtain ⟨U, hsteps, hrun, hend, hW, hsame, ce, hce, hO⟩ := X₁.ctorThrow0 hexec htr (own := own) (cls := cls) (names := names) (ic := ic) hown' hcls hnames h (fun x hx => nomatch hx) hfX hkX hcellA (by rw [hhp, hT]; exact Nat.le_refl _)
    (g := { method := m, pc := pc + 4, locals := ls, stack := .ref T.heap.size :: .ref T.heap.size :: rest, locked := none }) rfl hsize rfl rfl (rest := rest) rfl
    (by rw [hb]; exact d4) (by rw [hb]; exact d7) hout hRframes (by simp only [List.map_cons, List.sum_cons, hcat]; omega) hlocks
  obtain ⟨f1, f2⟩ := vx_frame hsame
  rw [hhp] at f1 f2
  have hWs : s.WarmedH U.vm := State.WarmedH.trans hW0 hW
  have hcl : s.vm.findClass cls = some ce.cls := by
    have h9 := hO.cls
    rw [hvm] at h9
    exact h9
  have hall : s.sameButNew ({ U with vm := s.vm } : State) locs mc ms := by
    subst hA
    obtain ⟨e1, e2⟩ := hsame
    rw [State.setFrames_setFrames] at e1
    have h2 : (T.setVm s.vm).sameButNew ({ U with vm := s.vm } : State) [] (0 + 1) (0 + 6) := ⟨e1, e2⟩
    have h3 := X.same.trans h2
    rw [List.append_nil] at h3
    exact h3.mono hc hs
  refine ⟨U, ?_, .threw T.heap.size, hrun, hend, Or.inr ⟨T.heap.size, rfl, cls, ce, locs, hx U hWs.alike f1 (fun q hq => f2 q hq (fun z hz => nomatch hz)), hce, hO.vm, hcl, hWs, hall, hf⟩⟩
  refine st1 _ ?_
  show Steps p.tables e below (T1.setTop { method := m, pc := pc + 3, locals := ls, stack := .ref T.heap.size :: rest, locked := none }) _
  jvm_step X₁.here [X₁.here.top, hexec, d3', Value.category]
  exact hsteps
/-- 'throw new E("text")': new; dup; ldc; invokespecial; athrow -/
theorem vx_throwS {cc : ByteArray} {pc : Nat} (hexec : p.tables.exec = Jvm.exec) (hb : c.code = cc) (hl : l.stackTraces = false) {own cls text : String} {names : List String} {ik is ic mc ms sa : Nat} {A : Nat → Prop}
    (hown : s.vm.findClass own = some m.cls) (hcls : Bundle.fit cls = true) (hnames : ∀ n ∈ names, Bundle.fit n = true)
    (hk : (Cond.classLink own ik cls).before args s = true) (hini : (Cond.initialized cls).before args s = true) (hstr : vk_R own is text sa s) (hat : ∀ w ∈ vx_atS own ic cls names, w.before args s = true)
    (hgood : ∀ w ∈ Cond.classLink own ik cls :: Cond.initialized cls :: vx_atS own ic cls names, vx_ot w = true)
    (hU : vx_Zq Bundle.tN "UNASSIGNED_STACK" Bundle.steD A s s.heap) (hN : vx_Zq Bundle.tN "SUPPRESSED_SENTINEL" Bundle.listD A s s.heap) (hS : va_S A s.heap H locs) (hsize : ls.size = c.maxLocals)
    (d0 : decode cc pc = .ok (.new ik, 3)) (d3 : decode cc (pc + 3) = .ok (.dup, 1)) (d4 : decode cc (pc + 4) = .ok (.ldc is, 2)) (d6 : decode cc (pc + 6) = .ok (.invokespecial ic, 3)) (d9 : decode cc (pc + 9) = .ok (.athrow, 1))
    (hout : ∀ x ∈ c.exceptionTable.toList, covers x (pc + 9) = false)
    (hRframes : names.length + 3 < R.frames) (hRlocals : (rest.map fun v => v.category).sum + (13 * (names.length + 1) + 43) ≤ R.locals) (hRcells : cells + 1 ≤ R.cells) (hRslots : slots + 6 ≤ R.slots) (hlocks : meth.locks = false)
    (hx : ∀ t : State, s.vm.Alike t.vm → H.size ≤ t.heap.size → (∀ q : Nat, q < H.size → t.heap[q]? = H[q]?) → XC cls s t)
    (hf : ∀ z ∈ locs, free z.base) (hc : cells + 1 ≤ mc) (hs : slots + 6 ≤ ms) :
    W p l e R s m args below meth c H locs cells slots (vx_MQ below Qc XC args s mc ms free) (F0 m pc ls rest) := by
  intro T hT X
  have htr : e.platform.stackTraces = false := (show e.platform.stackTraces = l.stackTraces by rw [X.admits.platform]).trans hl
  have Y := vx_rebase X (R' := { frames := R.frames, locals := R.locals, cells := 1, slots := 6 }) (Nat.le_refl _) (Nat.le_refl _) hRcells hRslots
  obtain ⟨s', hA⟩ : ∃ z, z = (T.setVm s.vm).setFrames (.invoking m args :: below) := ⟨_, rfl⟩
  rw [← hA] at Y
  have hvm : s'.vm = s.vm := by rw [hA]; rfl
  have hhp : s'.heap = H := by rw [hA]; exact hT
  have hW0 : s.WarmedH s'.vm := by rw [hvm]; exact State.WarmedH.refl s
  have hat' : ∀ w ∈ vx_atS own ic cls names, w.before args s' = true := fun w hw => vx_ot_at hW0 hvm.symm (hgood w (List.mem_cons_of_mem _ (List.mem_cons_of_mem _ hw))) (hat w hw)
  have hk' : (Cond.classLink own ik cls).before args s' = true := vx_ot_at hW0 hvm.symm (hgood _ List.mem_cons_self) hk
  have hini' : (Cond.initialized cls).before args s' = true := vx_ot_at hW0 hvm.symm (hgood _ (List.mem_cons_of_mem _ List.mem_cons_self)) hini
  have hU' : vx_Zq Bundle.tN "UNASSIGNED_STACK" Bundle.steD A s' s'.heap := by rw [hhp]; exact vx_Zq.moved hW0.alike (hU.kept hS.2.1)
  have hN' : vx_Zq Bundle.tN "SUPPRESSED_SENTINEL" Bundle.listD A s' s'.heap := by rw [hhp]; exact vx_Zq.moved hW0.alike (hN.kept hS.2.1)
  have h : ∀ w ∈ Bundle.ownAtoms own ic cls names, w.before args s' = true := vx_own hat' (vx_isRefq hU'.1) (vx_isRefq hN'.1) hU'.2.word hN'.2.word
  have hown' : s'.vm.findClass own = some m.cls := by rw [hvm]; exact hown
  have hins : (Cond.instantiable cls 6).before args s' = true := h _ (by simp [Bundle.ownAtoms])
  obtain ⟨vm₁, cX, kX, hfX, hkX, -, -, X₁, st1⟩ := Y.newCold hexec (own := own) (C := cls) (index := ik) (n := 6) hown' hk' hins hini'
    (g := F0 m pc ls rest) rfl (by rw [hb]; exact d0) (Nat.le_refl _) (Nat.le_refl _)
  generalize hT1 : (T.setVm vm₁).pushCell { cls := cX, slots := kX.instanceTypes.map defaultValue, vm := .none } = T1 at X₁ st1
  have hcat : (Value.ref T.heap.size).category = 1 := rfl
  have hcellA : T1.heap[T.heap.size]? = some (freshCell cX kX) := by rw [← hT1]; exact State.heap_pushCell_size _ _
  have d3' : decode c.code (pc + 3) = .ok (.dup, 1) := by rw [hb]; exact d3
  have d4' : decode c.code (pc + 4) = .ok (.ldc is, 2) := by rw [hb]; exact d4
  have hstr' : vk_R own is text sa s' := vk_R.warm hW0 hstr
  obtain ⟨U, hsteps, hrun, hend, hW, hsame, ce, hce, hO⟩ := X₁.ctorThrowS hexec htr (own := own) (cls := cls) (names := names) (ic := ic) hown' hcls hnames h (fun x hx => nomatch hx) hfX hkX hcellA (by rw [hhp, hT]; exact Nat.le_refl _) (msg := .ref sa) rfl
    (g := { method := m, pc := pc + 6, locals := ls, stack := .ref sa :: .ref T.heap.size :: .ref T.heap.size :: rest, locked := none }) rfl hsize rfl rfl (rest := rest) rfl
    (by rw [hb]; exact d6) (by rw [hb]; exact d9) hout hRframes (by simp only [List.map_cons, List.sum_cons, hcat]; omega) hlocks
  obtain ⟨f1, f2⟩ := vx_frame hsame
  rw [hhp] at f1 f2
  have hWs : s.WarmedH U.vm := State.WarmedH.trans hW0 hW
  have hcl : s.vm.findClass cls = some ce.cls := by
    have h9 := hO.cls
    rw [hvm] at h9
    exact h9
  have hall : s.sameButNew ({ U with vm := s.vm } : State) locs mc ms := by
    subst hA
    obtain ⟨e1, e2⟩ := hsame
    rw [State.setFrames_setFrames] at e1
    have h2 : (T.setVm s.vm).sameButNew ({ U with vm := s.vm } : State) [] (0 + 1) (0 + 6) := ⟨e1, e2⟩
    have h3 := X.same.trans h2
    rw [List.append_nil] at h3
    exact h3.mono hc hs
  refine ⟨U, ?_, .threw T.heap.size, hrun, hend, Or.inr ⟨T.heap.size, rfl, cls, ce, locs, hx U hWs.alike f1 (fun q hq => f2 q hq (fun z hz => nomatch hz)), hce, hO.vm, hcl, hWs, hall, hf⟩⟩
  refine st1 _ ?_
  show Steps p.tables e below (T1.setTop { method := m, pc := pc + 3, locals := ls, stack := .ref T.heap.size :: rest, locked := none }) _
  jvm_step X₁.here [X₁.here.top, hexec, d3', Value.category]
  exact X₁.ldcString hexec (own := own) (text := text) (index := is) (a := sa) hown' hstr'.1 hstr'.2
    (g := { method := m, pc := pc + 4, locals := ls, stack := .ref T.heap.size :: .ref T.heap.size :: rest, locked := none }) rfl d4' _ hsteps
/-- 'throw new E("text")', the text by a wide index -/
theorem vx_throwSW {cc : ByteArray} {pc : Nat} (hexec : p.tables.exec = Jvm.exec) (hb : c.code = cc) (hl : l.stackTraces = false) {own cls text : String} {names : List String} {ik is ic mc ms sa : Nat} {A : Nat → Prop}
    (hown : s.vm.findClass own = some m.cls) (hcls : Bundle.fit cls = true) (hnames : ∀ n ∈ names, Bundle.fit n = true)
    (hk : (Cond.classLink own ik cls).before args s = true) (hini : (Cond.initialized cls).before args s = true) (hstr : vk_R own is text sa s) (hat : ∀ w ∈ vx_atS own ic cls names, w.before args s = true)
    (hgood : ∀ w ∈ Cond.classLink own ik cls :: Cond.initialized cls :: vx_atS own ic cls names, vx_ot w = true)
    (hU : vx_Zq Bundle.tN "UNASSIGNED_STACK" Bundle.steD A s s.heap) (hN : vx_Zq Bundle.tN "SUPPRESSED_SENTINEL" Bundle.listD A s s.heap) (hS : va_S A s.heap H locs) (hsize : ls.size = c.maxLocals)
    (d0 : decode cc pc = .ok (.new ik, 3)) (d3 : decode cc (pc + 3) = .ok (.dup, 1)) (d4 : decode cc (pc + 4) = .ok (.ldc_w is, 3)) (d7 : decode cc (pc + 7) = .ok (.invokespecial ic, 3)) (d10 : decode cc (pc + 10) = .ok (.athrow, 1))
    (hout : ∀ x ∈ c.exceptionTable.toList, covers x (pc + 10) = false)
    (hRframes : names.length + 3 < R.frames) (hRlocals : (rest.map fun v => v.category).sum + (13 * (names.length + 1) + 43) ≤ R.locals) (hRcells : cells + 1 ≤ R.cells) (hRslots : slots + 6 ≤ R.slots) (hlocks : meth.locks = false)
    (hx : ∀ t : State, s.vm.Alike t.vm → H.size ≤ t.heap.size → (∀ q : Nat, q < H.size → t.heap[q]? = H[q]?) → XC cls s t)
    (hf : ∀ z ∈ locs, free z.base) (hc : cells + 1 ≤ mc) (hs : slots + 6 ≤ ms) :
    W p l e R s m args below meth c H locs cells slots (vx_MQ below Qc XC args s mc ms free) (F0 m pc ls rest) := by
  intro T hT X
  have htr : e.platform.stackTraces = false := (show e.platform.stackTraces = l.stackTraces by rw [X.admits.platform]).trans hl
  have Y := vx_rebase X (R' := { frames := R.frames, locals := R.locals, cells := 1, slots := 6 }) (Nat.le_refl _) (Nat.le_refl _) hRcells hRslots
  obtain ⟨s', hA⟩ : ∃ z, z = (T.setVm s.vm).setFrames (.invoking m args :: below) := ⟨_, rfl⟩
  rw [← hA] at Y
  have hvm : s'.vm = s.vm := by rw [hA]; rfl
  have hhp : s'.heap = H := by rw [hA]; exact hT
  have hW0 : s.WarmedH s'.vm := by rw [hvm]; exact State.WarmedH.refl s
  have hat' : ∀ w ∈ vx_atS own ic cls names, w.before args s' = true := fun w hw => vx_ot_at hW0 hvm.symm (hgood w (List.mem_cons_of_mem _ (List.mem_cons_of_mem _ hw))) (hat w hw)
  have hk' : (Cond.classLink own ik cls).before args s' = true := vx_ot_at hW0 hvm.symm (hgood _ List.mem_cons_self) hk
  have hini' : (Cond.initialized cls).before args s' = true := vx_ot_at hW0 hvm.symm (hgood _ (List.mem_cons_of_mem _ List.mem_cons_self)) hini
  have hU' : vx_Zq Bundle.tN "UNASSIGNED_STACK" Bundle.steD A s' s'.heap := by rw [hhp]; exact vx_Zq.moved hW0.alike (hU.kept hS.2.1)
  have hN' : vx_Zq Bundle.tN "SUPPRESSED_SENTINEL" Bundle.listD A s' s'.heap := by rw [hhp]; exact vx_Zq.moved hW0.alike (hN.kept hS.2.1)
  have h : ∀ w ∈ Bundle.ownAtoms own ic cls names, w.before args s' = true := vx_own hat' (vx_isRefq hU'.1) (vx_isRefq hN'.1) hU'.2.word hN'.2.word
  have hown' : s'.vm.findClass own = some m.cls := by rw [hvm]; exact hown
  have hins : (Cond.instantiable cls 6).before args s' = true := h _ (by simp [Bundle.ownAtoms])
  obtain ⟨vm₁, cX, kX, hfX, hkX, -, -, X₁, st1⟩ := Y.newCold hexec (own := own) (C := cls) (index := ik) (n := 6) hown' hk' hins hini'
    (g := F0 m pc ls rest) rfl (by rw [hb]; exact d0) (Nat.le_refl _) (Nat.le_refl _)
  generalize hT1 : (T.setVm vm₁).pushCell { cls := cX, slots := kX.instanceTypes.map defaultValue, vm := .none } = T1 at X₁ st1
  have hcat : (Value.ref T.heap.size).category = 1 := rfl
  have hcellA : T1.heap[T.heap.size]? = some (freshCell cX kX) := by rw [← hT1]; exact State.heap_pushCell_size _ _
  have d3' : decode c.code (pc + 3) = .ok (.dup, 1) := by rw [hb]; exact d3
  have d4' : decode c.code (pc + 4) = .ok (.ldc_w is, 3) := by rw [hb]; exact d4
  have hstr' : vk_R own is text sa s' := vk_R.warm hW0 hstr
  obtain ⟨U, hsteps, hrun, hend, hW, hsame, ce, hce, hO⟩ := X₁.ctorThrowS hexec htr (own := own) (cls := cls) (names := names) (ic := ic) hown' hcls hnames h (fun x hx => nomatch hx) hfX hkX hcellA (by rw [hhp, hT]; exact Nat.le_refl _) (msg := .ref sa) rfl
    (g := { method := m, pc := pc + 7, locals := ls, stack := .ref sa :: .ref T.heap.size :: .ref T.heap.size :: rest, locked := none }) rfl hsize rfl rfl (rest := rest) rfl
    (by rw [hb]; exact d7) (by rw [hb]; exact d10) hout hRframes (by simp only [List.map_cons, List.sum_cons, hcat]; omega) hlocks
  obtain ⟨f1, f2⟩ := vx_frame hsame
  rw [hhp] at f1 f2
  have hWs : s.WarmedH U.vm := State.WarmedH.trans hW0 hW
  have hcl : s.vm.findClass cls = some ce.cls := by
    have h9 := hO.cls
    rw [hvm] at h9
    exact h9
  have hall : s.sameButNew ({ U with vm := s.vm } : State) locs mc ms := by
    subst hA
    obtain ⟨e1, e2⟩ := hsame
    rw [State.setFrames_setFrames] at e1
    have h2 : (T.setVm s.vm).sameButNew ({ U with vm := s.vm } : State) [] (0 + 1) (0 + 6) := ⟨e1, e2⟩
    have h3 := X.same.trans h2
    rw [List.append_nil] at h3
    exact h3.mono hc hs
  refine ⟨U, ?_, .threw T.heap.size, hrun, hend, Or.inr ⟨T.heap.size, rfl, cls, ce, locs, hx U hWs.alike f1 (fun q hq => f2 q hq (fun z hz => nomatch hz)), hce, hO.vm, hcl, hWs, hall, hf⟩⟩
  refine st1 _ ?_
  show Steps p.tables e below (T1.setTop { method := m, pc := pc + 3, locals := ls, stack := .ref T.heap.size :: rest, locked := none }) _
  jvm_step X₁.here [X₁.here.top, hexec, d3', Value.category]
  exact X₁.ldcStringW hexec (own := own) (text := text) (index := is) (a := sa) hown' hstr'.1 hstr'.2
    (g := { method := m, pc := pc + 4, locals := ls, stack := .ref T.heap.size :: .ref T.heap.size :: rest, locked := none }) rfl d4' _ hsteps
end Ends
section Bodies
variable {l : Launch}
theorem vx_ofW {y : MethodName} {ws ws' : List Cond} {rm : Room} {Pc : Array Value → State → Prop} {Qc : Array Value → State → Outcome → State → Prop} {XC : String → State → State → Prop} {mc ms : Nat} {free : Addr → Prop} {cc : ByteArray} {maxL : Nat} {ret : Option FieldType}
    (hy : plainName y.cls = true) (hw : ws = Cond.code y cc maxL ret :: ws')
    (body : ∀ p e s m args below meth c s₁, BodyLoose p l y (headSpec ws rm) cc maxL ret e s m args below meth c s₁ → c.maxLocals = maxL → (∀ x ∈ c.exceptionTable.toList, False) → Pc args s →
      W p l e (headSpec ws rm).room s m args below meth c s.heap [] 0 0 (vx_MQ below Qc XC args s mc ms free) (entryFrame m args maxL)) : vx_Met l y ws rm Pc Qc XC mc ms free := by
  refine MetFree.of_bodyS (code := cc) (maxLocals := maxL) (ret := ret) hy ?_ ?_
  · intro args s m h hn
    obtain ⟨meth, c, h1, h2, h3, h4, h5, h6, -, -⟩ := Cond.code_spec hn (atoms_spec (ws := ws) h _ (by rw [hw]; exact List.mem_cons_self))
    exact ⟨meth, c, h1, h2, h3, h4, h5, h6⟩
  · intro p e s m args below meth c s₁ B hml hP _
    have hh0 : s₁.heap = s.heap := by rw [B.state]; rfl
    have ht : ∀ x ∈ c.exceptionTable.toList, False := by
      obtain ⟨meth9, c9, h1, h2, -, -, -, -, h7, -⟩ := Cond.code_spec B.named (atoms_spec (ws := ws) B.pre _ (by rw [hw]; exact List.mem_cons_self))
      cases Option.some.inj (h1.symm.trans B.method)
      cases Option.some.inj (h2.symm.trans (Stand.of_body B).code)
      intro x hx
      rw [Array.isEmpty_iff.mp h7] at hx
      cases hx
    obtain ⟨t, a1, o, b1, b2, b3⟩ := body p e s m args below meth c s₁ B hml ht hP s₁ hh0 (Stand.of_body B)
    exact ⟨t, o, a1, b1, b2, b3⟩
/-- the table of a body with handlers -/
theorem vx_table {p : Program} {x y : MethodName} {S : Spec} {cc bytes : ByteArray} {maxL maxL' : Nat} {ret ret' : Option FieldType} {e : Env} {s s₁ : State} {m : MethodId} {args : Array Value} {below : List Frame} {meth : Method} {c : Code} {hh : List (Nat × Nat × Nat × Nat)}
    (B : BodyLoose p l y S cc maxL ret e s m args below meth c s₁) (h : (Cond.codeWith y bytes maxL' ret' hh).before args s = true) : c.exceptionTable.toList = tableOf hh := by
  obtain ⟨m9, meth9, c9, hn9, h1, h2, -, -, h6, -⟩ := Cond.codeWith_spec h
  cases Option.some.inj (hn9.symm.trans B.named)
  cases Option.some.inj (h1.symm.trans B.method)
  cases Option.some.inj (h2.symm.trans (Stand.of_body B).code)
  rw [← h6, table_eq]
end Bodies
end VXA
/-! ===== END ===== -/
/-! ===== BEGIN a static call of a method with an exception table ===== -/
section VXS
variable {p : Program} {l : Launch} {e : Env} {R : Room} {s : State} {m : MethodId} {args : Array Value} {below : List Frame} {meth : Method} {c : Code} {T : State} {H : Heap} {locs : List Loc} {cells slots : Nat}
abbrev vx_CSW (R : Room) (s : State) (args : Array Value) (own : String) (index : Nat) (y : MethodName) (bytes : ByteArray) (maxL : Nat) (ret : Option FieldType) (hh : List (Nat × Nat × Nat × Nat)) (ws : List Cond) (rm : Room) (mc ms n : Nat) : Prop :=
  (rm.cells = mc ∧ rm.slots = ms ∧ rm.frames + 1 ≤ R.frames ∧ 8 + (maxL + 11) + rm.locals ≤ R.locals ∧ (∀ w ∈ ws, ∀ (a' : Array Value) (U : State), s.WarmedH U.vm → w.before a' U = true) ∧ Cond.codeWith y bytes maxL ret hh ∈ ws) ∧
  (Cond.codeWith y bytes maxL ret hh).before args s = true ∧ (Cond.initialized y.cls).before args s = true ∧ (y.cls ≠ "java/lang/invoke/MethodHandle" ∧ y.cls ≠ "java/lang/invoke/VarHandle") ∧
  (∀ sig, parseMethodDescriptor y.desc = some sig → n = sig.parameters.length) ∧ (Cond.methodLink own index y).before args s = true ∧ (Cond.static y).before args s = true
theorem vx_cwSW {own : String} {index maxL mc ms : Nat} {y : MethodName} {bytes : ByteArray} {ret : Option FieldType} {hh : List (Nat × Nat × Nat × Nat)} {Ts ws ws' : List Cond} {rm : Room} (n : Nat) (ht : ∀ w ∈ Ts, w.before args s = true) (hT : GoodIn Ts (va_wsS own index y ws)) (hw : ws = Cond.codeWith y bytes maxL ret hh :: ws') (hrc : rm.cells = mc) (hrs : rm.slots = ms)
    (hd : y.cls ≠ "java/lang/invoke/MethodHandle" ∧ y.cls ≠ "java/lang/invoke/VarHandle" ∧ (parseMethodDescriptor y.desc).map (fun d => d.parameters.length) = some n) (hR : rm.frames + 1 ≤ R.frames ∧ 8 + (maxL + 11) + rm.locals ≤ R.locals) :
    vx_CSW R s args own index y bytes maxL ret hh ws rm mc ms n := by
  have ok : ∀ w ∈ va_wsS own index y ws, w.before args s = true := fun w h => ht w (hT w h).1
  have hG : GoodIn Ts ws := fun w h => hT w (by unfold va_wsS; exact List.mem_append_right _ h)
  have hc : Cond.codeWith y bytes maxL ret hh ∈ ws := by rw [hw]; exact List.mem_cons_self
  refine ⟨⟨hrc, hrs, hR.1, hR.2, pay_in ht hG, hc⟩, ht _ (hG _ hc).1, ok _ (by simp [va_wsS]), ⟨hd.1, hd.2.1⟩, fun sig h => ?_, ok _ (by simp [va_wsS]), ok _ (by simp [va_wsS])⟩
  have h2 := hd.2.2
  rw [h] at h2
  exact (Option.some.inj h2).symm
theorem vx_callSW (X : Stand p l e R s m args below meth c T locs cells slots) (hexec : p.tables.exec = Jvm.exec) {own : String} {index : Nat} {y : MethodName} {bytes : ByteArray} {maxL : Nat} {ret : Option FieldType} {hh : List (Nat × Nat × Nat × Nat)}
    (hown : s.vm.findClass own = some m.cls) (hlink : (Cond.methodLink own index y).before args s = true) (hstat : (Cond.static y).before args s = true) (hinit : (Cond.initialized y.cls).before args s = true)
    (hcode : (Cond.codeWith y bytes maxL ret hh).before args s = true) (hy : y.cls ≠ "java/lang/invoke/MethodHandle" ∧ y.cls ≠ "java/lang/invoke/VarHandle")
    {W9 : Nat} {Pre : Pt → Array Value → Prop} {Post : Pt → Array Value → Option Value → Pt → Prop} (hK : Back l R p e below s args y 3 W9 Pre Post)
    {g : JFrame} (hg : g.method = m) (hsize : g.locals.size = c.maxLocals) {argsL rest : List Value} (hlen : ∀ sig, parseMethodDescriptor y.desc = some sig → argsL.length = sig.parameters.length)
    (hstack : g.stack = argsL.reverse ++ rest) (hW : 2 * g.monitorRoom + (rest.map fun v => v.category).sum ≤ W9) (hdg : decode c.code g.pc = .ok (.invokestatic index, 3))
    (hpre : ∀ vm₁, s.WarmedH vm₁ → Pre ⟨T.setVm vm₁, locs, cells, slots⟩ argsL.toArray) :
    ∃ (v : Option Value) (vm₁ : Vm) (B : Pt), s.WarmedH vm₁ ∧ Stand p l e R s m args below meth c B.U B.locs B.cells B.slots ∧ Post ⟨T.setVm vm₁, locs, cells, slots⟩ argsL.toArray v B ∧
      ∀ target, Steps p.tables e below (B.U.setTop { g with pc := g.pc + 3, stack := v.toList ++ rest }) target → Steps p.tables e below (T.setTop g) target := by
  obtain ⟨mk, methM, cM, hnamed, hmethM, -, -, -, -, -, -, hsigM⟩ := Cond.codeWith_spec hcode
  have hstatic : methM.isStatic = true := Cond.static_spec hnamed hmethM hstat
  obtain ⟨kP, hkP, -⟩ := className_of_methodNamed hnamed
  have hinitP : kP.init = .initialized := Cond.initialized_spec (findClass_of_methodNamed hnamed) hkP hinit
  obtain ⟨vm₁, X₁, hstep₁⟩ := X.invokestatic hexec hown hlink hnamed hmethM hstatic hkP hinitP hy (g := g) hg (argsL := argsL) (rest := rest) (hlen _ hsigM) hstack hdg
  obtain ⟨v, B, X', hpost, hsteps⟩ := hK m meth c ⟨T.setVm vm₁, locs, cells, slots⟩ { g with stack := rest } (.invokestatic index) mk argsL.toArray X₁ hg hsize hdg hW (X₁.named hnamed) (hpre vm₁ X₁.warmed)
  exact ⟨v, vm₁, B, X₁.warmed, X', hpost, fun target h => hstep₁ _ fun acts => by rw [doInvoke_state]; exact hsteps.trans h⟩
theorem vx_runSW {y : MethodName} {bytes cc : ByteArray} {maxL nL mc ms n index : Nat} {ret : Option FieldType} {hh : List (Nat × Nat × Nat × Nat)} {ws : List Cond} {rm : Room} {Pc : Array Value → State → Prop} {Qc : Array Value → State → Outcome → State → Prop} {free : Addr → Prop} {Ts : List Cond} {own : String} {As rest : List Value} {g : JFrame}
    (S : CallFix p m c cc nL s args Ts own) (hM : Met l y ws rm Pc Qc mc ms free) (cw : vx_CSW R s args own index y bytes maxL ret hh ws rm mc ms n) (hp : PreS s H Pc As)
    (hg : g.method = m) (hn : As.length = n) (hsize : g.locals.size = nL) (hstack : g.stack = As.reverse ++ rest) (hW : 2 * g.monitorRoom + (rest.map fun v => v.category).sum ≤ 8) (hdg : decode cc g.pc = .ok (.invokestatic index, 3)) (hf : cells + mc ≤ R.cells ∧ slots + ms ≤ R.slots) :
    va_Run p l e R s m args below meth c H locs cells slots mc ms g rest (Qc As.toArray) (free) := by
  obtain ⟨⟨hrc, hrs, hfr, hlo, hws, hcw⟩, hcode, hini, hy, hlen, hl, hstt⟩ := cw
  have hK : Back l R p e below s args y 3 8 (PreOf R mc ms Pc) (PostOf Qc mc ms free) := va_backW (hh := hh) (bytes := bytes) (maxL := maxL) (ret := ret) hM hp.1 hrc hrs hfr hlo hws hcw (fun a' U hW => word_at hW (Or.inl (by first | rfl | simp [Cond.onTables, Cond.keeps, Cond.steady])) hini)
  obtain ⟨hx, hb, hml, ho, -⟩ := S
  intro T hT X
  obtain ⟨v, vm₁, ⟨U', l2, c2, s2⟩, hW₁, X', ⟨g', mk, t, L, e1, e2, hq, h1, hL, h2, h3⟩, st⟩ := vx_callSW X hx (hh := hh) (bytes := bytes) (maxL := maxL) (ret := ret) ho hl hstt hini hcode hy hK hg (hsize.trans hml.symm) (argsL := As) (rest := rest) (fun sig h => hn.trans (hlen sig h)) hstack hW (by rw [hb]; exact hdg)
    (fun vm₁ hW₁ => ⟨hf.1, hf.2, hp.2 (T.setVm vm₁) hT hW₁⟩)
  dsimp only [Pt.U, Pt.locs, Pt.cells, Pt.slots] at X' e1 e2 h1 h2 h3 st
  subst h1; subst h2; subst h3
  exact ⟨v, (T.setVm vm₁).calling g' mk As.toArray, t, U', L, hT, X', hL, e1, e2, hq, st⟩
theorem vx_lt {D : va_G} {cl : List vw_C} {ws : va_W} {H1 : Heap} (h : va_P D cl ws H1) {k : Nat} {q : Nat × va_E} (hk : ws[k]? = some q) : q.1 < H1.size := (h k q hk).lt
end VXS
/-! ===== END ===== -/
/-! ===== BEGIN methods with a table of their own: called by a name, returning or throwing ===== -/
section VXH
/-! vx_backW, vx_callVX, vx_callSX, vx_callVW, vx_runVW, vx_runVX, vx_runSX, vx_ofWH follow the same proofs as their sisters above (Free/Laws.lean, Shelf42/LK1.lean); vx_outP calls Shelf42/NT130.lean (outThrough). -/
section
variable {l : Launch} {R : Room} {p : Program} {e : Env} {below : List Frame} {s : State} {sargs : Array Value} {y : MethodName} {len W9 : Nat}
theorem vx_backW {ws : List Cond} {rm : Room} {Pc : Array Value → State → Prop} {Qc : Array Value → State → Outcome → State → Prop} {XC : String → State → State → Prop} {mc ms : Nat} {free : Addr → Prop} {bytes : ByteArray} {maxL : Nat} {ret : Option FieldType} {hh : List (Nat × Nat × Nat × Nat)}
    (hM : vx_Met l y ws rm Pc Qc XC mc ms free) (hblind : FrameBlind Pc) (hrc : rm.cells = mc) (hrs : rm.slots = ms)
    (hframes : rm.frames + 1 ≤ R.frames) (hlocals : W9 + (maxL + 11) + rm.locals ≤ R.locals)
    (hws : ∀ w ∈ ws, ∀ a' U, s.WarmedH U.vm → w.before a' U = true) (hcode : Cond.codeWith y bytes maxL ret hh ∈ ws) (hinit : ∀ a' U, s.WarmedH U.vm → (Cond.initialized y.cls).before a' U = true) :
    vx_Back l R p e below s sargs y len W9 (PreOf R mc ms Pc) (PostOf Qc mc ms free) (vx_Post XC mc ms free) := by
  intro m meth c A g ig mk a X hg hsize hdg hW hn hp
  have h1 : (headSpec ws rm).pre.before a A.U = true := atoms_intro fun w hw => hws w hw _ _ X.warmed
  have h2 : (Cond.codeWith y bytes maxL ret hh).before a A.U = true := hws _ hcode _ _ X.warmed
  have h3 : (Cond.initialized y.cls).before a A.U = true := hinit _ _ X.warmed
  have h4 : A.cells + (headSpec ws rm).room.cells ≤ R.cells := by rw [show (headSpec ws rm).room.cells = mc from hrc]; exact hp.1
  have h5 : A.slots + (headSpec ws rm).room.slots ≤ R.slots := by rw [show (headSpec ws rm).room.slots = ms from hrs]; exact hp.2.1
  have hPc : Pc a (A.U.calling g mk a) := hblind _ _ _ _ hp.2.2
  obtain ⟨U, Ls, c0, s0⟩ := A
  dsimp only [Pt.U, Pt.locs, Pt.cells, Pt.slots] at h1 h2 h3 h4 h5 X hn hPc ⊢
  obtain ⟨m9, methY, cY, hn9, hmY, hcY, -, hlY, -⟩ := Cond.codeWith_spec h2
  cases Option.some.inj (hn9.symm.trans hn)
  obtain ⟨kY, hkY, -⟩ := className_of_methodNamed hn
  have hinitY : kY.init = .initialized := Cond.initialized_spec (findClass_of_methodNamed hn) hkY h3
  have h : At U g.method c below := by rw [hg]; exact X.here
  have hlocals9 : W9 + (maxL + 11) + (headSpec ws rm).room.locals ≤ R.locals := hlocals
  have happ : (headSpec ws rm).appliesLoose y e.platform (U.calling g mk a) = true :=
    Spec.appliesLoose_calling (g := g) h hdg hn hkY hinitY
      (X.room_calling (g := g) (R' := (headSpec ws rm).room) hsize hmY hcY hframes (by rw [hlY]; omega) h4 h5) h1
  obtain ⟨mid, hmid⟩ := h.above
  have hfr : (U.setTop g).frames = (.java g :: mid) ++ below := by rw [State.frames_setTop' g h.top, hmid]; rfl
  obtain ⟨o, s₂, hsteps, -, hend, hq⟩ := Steps.callFree hM p X.admits X.cas X.clock (acts := []) hfr happ hPc trivial
  have hq' : vx_Q Qc XC mc ms free a (U.calling g mk a) o s₂ := hq
  rw [State.frames_setTop' g h.top] at hend
  obtain ⟨g₀, hg0⟩ := Option.isSome_iff_exists.mp h.top
  obtain ⟨r, hr⟩ := State.topJava?_eq_some.mp hg0
  have hr' : (({ U with heap := s₂.heap, slotsUsed := s₂.slotsUsed } : State).setVm s₂.vm).frames = .java g₀ :: r := hr
  rcases hq' with ⟨hqc, L, hfe, hL⟩ | ⟨q, rfl, E, ce, L, hx, hce, hcv, hcl, hW₂, hsm, hL⟩
  · obtain ⟨⟨v, rfl⟩, hW₂, e2, q2, q3, q4, q5, q6⟩ := id hfe
    have e3 : s₂ = ({ (U.calling g mk a).setFrames s₂.frames with heap := s₂.heap, slotsUsed := s₂.slotsUsed } : State).setVm s₂.vm := by
      have : s₂ = ({ s₂ with vm := (U.calling g mk a).vm } : State).setVm s₂.vm := rfl
      rw [e2] at this
      exact this
    obtain ⟨c₂, i₂, len₂, hc₂, hd₂, hf₂⟩ := hend
    have hW' : U.WarmedH s₂.vm := hW₂
    have hcc : c₂ = c := by
      have h1 : s₂.code? g.method = U.code? g.method := by
        rw [State.code?_eq, State.code?_eq, hW'.alike.method?]
      exact Option.some.inj (hc₂.symm.trans (h1.trans h.code))
    subst hcc
    have hlen : len₂ = len := by rw [hdg] at hd₂; cases hd₂; rfl
    subst hlen
    have hs₂ : s₂ = (({ U with heap := s₂.heap, slotsUsed := s₂.slotsUsed } : State).setVm s₂.vm).setTop { g with pc := g.pc + len₂, stack := v.toList ++ g.stack } := by
      refine e3.trans ?_
      rw [hf₂, State.calling_eq h.top, State.setFrames_setFrames, State.setTop_of_frames _ hr', hr]
      rfl
    have hsame : U.sameButNew ({ U with heap := s₂.heap, slotsUsed := s₂.slotsUsed } : State) L mc ms := by
      refine ⟨?_, q2, q3, q4, q5, q6⟩
      obtain ⟨t, ht, -⟩ := State.frames_cons hr
      show ({ U with heap := s₂.heap, slotsUsed := s₂.slotsUsed } : State) = { U.setFrames U.frames with heap := s₂.heap, slotsUsed := s₂.slotsUsed }
      rw [State.setFrames_self ht]
    subst hg
    refine Or.inl ⟨v, ⟨(({ U with heap := s₂.heap, slotsUsed := s₂.slotsUsed } : State).setVm s₂.vm), Ls ++ L, c0 + mc, s0 + ms⟩,
      ⟨X.admits, X.cas, X.clock, X.frames, X.room, X.hears, X.method, X.code, (X.here.setHeapUsed s₂.heap s₂.slotsUsed).setVm hW'.alike, X.tail, State.WarmedH.trans X.warmed hW', X.limits, X.bytes, X.same.trans (hsame.setVm s.vm)⟩,
      ⟨g, mk, s₂, L, rfl, rfl, hqc, rfl, hL, rfl, rfl⟩, ?_⟩
    show Steps p.tables e below _ ((({ U with heap := s₂.heap, slotsUsed := s₂.slotsUsed } : State).setVm s₂.vm).setTop { g with pc := g.pc + len₂, stack := v.toList ++ g.stack })
    rw [← hs₂]
    exact hsteps
  · obtain ⟨e2, q2, q3, q4, q5, q6⟩ := id hsm
    have e3 : s₂ = ({ (U.calling g mk a).setFrames s₂.frames with heap := s₂.heap, slotsUsed := s₂.slotsUsed } : State).setVm s₂.vm := by
      have : s₂ = ({ s₂ with vm := (U.calling g mk a).vm } : State).setVm s₂.vm := rfl
      rw [e2] at this
      exact this
    have hf₂ : s₂.frames = .throwing q :: .java g :: U.frames.tail := hend
    have hW' : U.WarmedH s₂.vm := hW₂
    have hs₂ : s₂ = ((({ U with heap := s₂.heap, slotsUsed := s₂.slotsUsed } : State).setVm s₂.vm).setTop g).pushFrame (.throwing q) := by
      refine e3.trans ?_
      rw [hf₂, State.calling_eq h.top, State.setFrames_setFrames, State.pushFrame, State.frames_setTop _ hr', State.setTop_of_frames _ hr', State.setFrames_setFrames, hr]
      rfl
    have hsame : U.sameButNew ({ U with heap := s₂.heap, slotsUsed := s₂.slotsUsed } : State) L mc ms := by
      refine ⟨?_, q2, q3, q4, q5, q6⟩
      obtain ⟨t, ht, -⟩ := State.frames_cons hr
      show ({ U with heap := s₂.heap, slotsUsed := s₂.slotsUsed } : State) = { U.setFrames U.frames with heap := s₂.heap, slotsUsed := s₂.slotsUsed }
      rw [State.setFrames_self ht]
    subst hg
    refine Or.inr ⟨q, ⟨(({ U with heap := s₂.heap, slotsUsed := s₂.slotsUsed } : State).setVm s₂.vm), Ls ++ L, c0 + mc, s0 + ms⟩,
      ⟨X.admits, X.cas, X.clock, X.frames, X.room, X.hears, X.method, X.code, (X.here.setHeapUsed s₂.heap s₂.slotsUsed).setVm hW'.alike, X.tail, State.WarmedH.trans X.warmed hW', X.limits, X.bytes, X.same.trans (hsame.setVm s.vm)⟩,
      ⟨g, mk, s₂, L, E, ce, rfl, rfl, hx, hce, hcv, hcl, rfl, hL, rfl, rfl⟩, ?_⟩
    show Steps p.tables e below _ (((({ U with heap := s₂.heap, slotsUsed := s₂.slotsUsed } : State).setVm s₂.vm).setTop g).pushFrame (.throwing q))
    rw [← hs₂]
    exact hsteps
end
variable {p : Program} {l : Launch} {e : Env} {R : Room} {s : State} {m : MethodId} {args : Array Value} {below : List Frame} {meth : Method} {c : Code} {T : State} {H : Heap} {locs : List Loc} {cells slots : Nat}
theorem vx_callVX (X : Stand p l e R s m args below meth c T locs cells slots) (hexec : p.tables.exec = Jvm.exec) {own C : String} {index : Nat} {y : MethodName} {bytes : ByteArray} {maxL : Nat} {ret : Option FieldType} {hh : List (Nat × Nat × Nat × Nat)}
    (hown : s.vm.findClass own = some m.cls) (hlink : (Cond.methodLink own index y).before args s = true) (hinst : (Cond.instanceMethod y).before args s = true) (hsel : (Cond.selects C y y).before args s = true)
    (hcode : (Cond.codeWith y bytes maxL ret hh).before args s = true) (hy : y.cls ≠ "java/lang/invoke/MethodHandle" ∧ y.cls ≠ "java/lang/invoke/VarHandle")
    {W9 : Nat} {Pre : Pt → Array Value → Prop} {Post : Pt → Array Value → Option Value → Pt → Prop} {PostX : Pt → Array Value → Addr → Pt → Prop} (hK : vx_Back l R p e below s args y 3 W9 Pre Post PostX)
    {b : Addr} {cellB : Cell} (hcell : T.heap[b]? = some cellB) (hobj : cellB.vm.isStatics = false) (hcls : s.vm.findClass C = some cellB.cls)
    {g : JFrame} (hg : g.method = m) (hsize : g.locals.size = c.maxLocals) {argsL rest : List Value} (hlen : ∀ sig, parseMethodDescriptor y.desc = some sig → argsL.length = sig.parameters.length)
    (hstack : g.stack = argsL.reverse ++ .ref b :: rest) (hW : 2 * g.monitorRoom + (rest.map fun v => v.category).sum ≤ W9) (hdg : decode c.code g.pc = .ok (.invokevirtual index, 3))
    (hpre : ∀ vm₁, s.WarmedH vm₁ → Pre ⟨T.setVm vm₁, locs, cells, slots⟩ (Value.ref b :: argsL).toArray) :
    (∃ (v : Option Value) (vm₁ : Vm) (B : Pt), s.WarmedH vm₁ ∧ Stand p l e R s m args below meth c B.U B.locs B.cells B.slots ∧ Post ⟨T.setVm vm₁, locs, cells, slots⟩ (Value.ref b :: argsL).toArray v B ∧
      ∀ target, Steps p.tables e below (B.U.setTop { g with pc := g.pc + 3, stack := v.toList ++ rest }) target → Steps p.tables e below (T.setTop g) target) ∨
    (∃ (q : Addr) (vm₁ : Vm) (B : Pt), s.WarmedH vm₁ ∧ Stand p l e R s m args below meth c B.U B.locs B.cells B.slots ∧ PostX ⟨T.setVm vm₁, locs, cells, slots⟩ (Value.ref b :: argsL).toArray q B ∧
      Steps p.tables e below (T.setTop g) ((B.U.setTop { g with stack := rest }).pushFrame (.throwing q))) := by
  obtain ⟨mk, methM, hnamed, hmethM, hstM, habM⟩ := Cond.instanceMethod_spec hinst
  obtain ⟨m8, methM', cM, hn8, hmethM', -, -, -, -, -, -, hsigM⟩ := Cond.codeWith_spec hcode
  cases Option.some.inj (hn8.symm.trans hnamed)
  cases hmethM.symm.trans hmethM'
  obtain ⟨c2, r2, m2, q1, q2, q3, q4, kP, hkP, hkPi⟩ := Cond.selects_spec hsel
  cases hcls.symm.trans q1
  cases (State.methodFound?_of_named hnamed hy).symm.trans q2
  cases hnamed.symm.trans q3
  have hselP : selectMethod e.platform s.vm cellB.cls mk = .method mk := by rw [Launch.admits_selectMethod X.admits]; exact q4
  obtain ⟨vm₁, X₁, hstep₁⟩ := X.invokevirtual hexec hown hlink hnamed hmethM hstM hkP hkPi hy (a := b) (cell := cellB) hcell
    (fun z h => by rw [h] at hobj; cases hobj) hselP hmethM habM hkP hkPi (g := g) hg (argsL := argsL) (rest := rest) (hlen _ hsigM) hstack hdg
  rcases hK m meth c ⟨T.setVm vm₁, locs, cells, slots⟩ { g with stack := rest } (.invokevirtual index) mk (Value.ref b :: argsL).toArray X₁ hg hsize hdg hW (X₁.named hnamed) (hpre vm₁ X₁.warmed) with ⟨v, B, X', hpost, hsteps⟩ | ⟨q, B, X', hpost, hsteps⟩
  · exact Or.inl ⟨v, vm₁, B, X₁.warmed, X', hpost, fun target h => hstep₁ _ fun acts => by rw [doInvoke_state]; exact hsteps.trans h⟩
  · exact Or.inr ⟨q, vm₁, B, X₁.warmed, X', hpost, hstep₁ _ fun acts => by rw [doInvoke_state]; exact hsteps⟩
theorem vx_callSX (X : Stand p l e R s m args below meth c T locs cells slots) (hexec : p.tables.exec = Jvm.exec) {own : String} {index : Nat} {y : MethodName} {bytes : ByteArray} {maxL : Nat} {ret : Option FieldType} {hh : List (Nat × Nat × Nat × Nat)}
    (hown : s.vm.findClass own = some m.cls) (hlink : (Cond.methodLink own index y).before args s = true) (hstat : (Cond.static y).before args s = true) (hinit : (Cond.initialized y.cls).before args s = true)
    (hcode : (Cond.codeWith y bytes maxL ret hh).before args s = true) (hy : y.cls ≠ "java/lang/invoke/MethodHandle" ∧ y.cls ≠ "java/lang/invoke/VarHandle")
    {W9 : Nat} {Pre : Pt → Array Value → Prop} {Post : Pt → Array Value → Option Value → Pt → Prop} {PostX : Pt → Array Value → Addr → Pt → Prop} (hK : vx_Back l R p e below s args y 3 W9 Pre Post PostX)
    {g : JFrame} (hg : g.method = m) (hsize : g.locals.size = c.maxLocals) {argsL rest : List Value} (hlen : ∀ sig, parseMethodDescriptor y.desc = some sig → argsL.length = sig.parameters.length)
    (hstack : g.stack = argsL.reverse ++ rest) (hW : 2 * g.monitorRoom + (rest.map fun v => v.category).sum ≤ W9) (hdg : decode c.code g.pc = .ok (.invokestatic index, 3))
    (hpre : ∀ vm₁, s.WarmedH vm₁ → Pre ⟨T.setVm vm₁, locs, cells, slots⟩ argsL.toArray) :
    (∃ (v : Option Value) (vm₁ : Vm) (B : Pt), s.WarmedH vm₁ ∧ Stand p l e R s m args below meth c B.U B.locs B.cells B.slots ∧ Post ⟨T.setVm vm₁, locs, cells, slots⟩ argsL.toArray v B ∧
      ∀ target, Steps p.tables e below (B.U.setTop { g with pc := g.pc + 3, stack := v.toList ++ rest }) target → Steps p.tables e below (T.setTop g) target) ∨
    (∃ (q : Addr) (vm₁ : Vm) (B : Pt), s.WarmedH vm₁ ∧ Stand p l e R s m args below meth c B.U B.locs B.cells B.slots ∧ PostX ⟨T.setVm vm₁, locs, cells, slots⟩ argsL.toArray q B ∧
      Steps p.tables e below (T.setTop g) ((B.U.setTop { g with stack := rest }).pushFrame (.throwing q))) := by
  obtain ⟨mk, methM, cM, hnamed, hmethM, -, -, -, -, -, -, hsigM⟩ := Cond.codeWith_spec hcode
  have hstatic : methM.isStatic = true := Cond.static_spec hnamed hmethM hstat
  obtain ⟨kP, hkP, -⟩ := className_of_methodNamed hnamed
  have hinitP : kP.init = .initialized := Cond.initialized_spec (findClass_of_methodNamed hnamed) hkP hinit
  obtain ⟨vm₁, X₁, hstep₁⟩ := X.invokestatic hexec hown hlink hnamed hmethM hstatic hkP hinitP hy (g := g) hg (argsL := argsL) (rest := rest) (hlen _ hsigM) hstack hdg
  rcases hK m meth c ⟨T.setVm vm₁, locs, cells, slots⟩ { g with stack := rest } (.invokestatic index) mk argsL.toArray X₁ hg hsize hdg hW (X₁.named hnamed) (hpre vm₁ X₁.warmed) with ⟨v, B, X', hpost, hsteps⟩ | ⟨q, B, X', hpost, hsteps⟩
  · exact Or.inl ⟨v, vm₁, B, X₁.warmed, X', hpost, fun target h => hstep₁ _ fun acts => by rw [doInvoke_state]; exact hsteps.trans h⟩
  · exact Or.inr ⟨q, vm₁, B, X₁.warmed, X', hpost, hstep₁ _ fun acts => by rw [doInvoke_state]; exact hsteps⟩
theorem vx_callVW (X : Stand p l e R s m args below meth c T locs cells slots) (hexec : p.tables.exec = Jvm.exec) {own C : String} {index : Nat} {y : MethodName} {bytes : ByteArray} {maxL : Nat} {ret : Option FieldType} {hh : List (Nat × Nat × Nat × Nat)}
    (hown : s.vm.findClass own = some m.cls) (hlink : (Cond.methodLink own index y).before args s = true) (hinst : (Cond.instanceMethod y).before args s = true) (hsel : (Cond.selects C y y).before args s = true)
    (hcode : (Cond.codeWith y bytes maxL ret hh).before args s = true) (hy : y.cls ≠ "java/lang/invoke/MethodHandle" ∧ y.cls ≠ "java/lang/invoke/VarHandle")
    {W9 : Nat} {Pre : Pt → Array Value → Prop} {Post : Pt → Array Value → Option Value → Pt → Prop} (hK : Back l R p e below s args y 3 W9 Pre Post)
    {b : Addr} {cellB : Cell} (hcell : T.heap[b]? = some cellB) (hobj : cellB.vm.isStatics = false) (hcls : s.vm.findClass C = some cellB.cls)
    {g : JFrame} (hg : g.method = m) (hsize : g.locals.size = c.maxLocals) {argsL rest : List Value} (hlen : ∀ sig, parseMethodDescriptor y.desc = some sig → argsL.length = sig.parameters.length)
    (hstack : g.stack = argsL.reverse ++ .ref b :: rest) (hW : 2 * g.monitorRoom + (rest.map fun v => v.category).sum ≤ W9) (hdg : decode c.code g.pc = .ok (.invokevirtual index, 3))
    (hpre : ∀ vm₁, s.WarmedH vm₁ → Pre ⟨T.setVm vm₁, locs, cells, slots⟩ (Value.ref b :: argsL).toArray) :
    ∃ (v : Option Value) (vm₁ : Vm) (B : Pt), s.WarmedH vm₁ ∧ Stand p l e R s m args below meth c B.U B.locs B.cells B.slots ∧ Post ⟨T.setVm vm₁, locs, cells, slots⟩ (Value.ref b :: argsL).toArray v B ∧
      ∀ target, Steps p.tables e below (B.U.setTop { g with pc := g.pc + 3, stack := v.toList ++ rest }) target → Steps p.tables e below (T.setTop g) target := by
  obtain ⟨mk, methM, hnamed, hmethM, hstM, habM⟩ := Cond.instanceMethod_spec hinst
  obtain ⟨m8, methM', cM, hn8, hmethM', -, -, -, -, -, -, hsigM⟩ := Cond.codeWith_spec hcode
  cases Option.some.inj (hn8.symm.trans hnamed)
  cases hmethM.symm.trans hmethM'
  obtain ⟨c2, r2, m2, q1, q2, q3, q4, kP, hkP, hkPi⟩ := Cond.selects_spec hsel
  cases hcls.symm.trans q1
  cases (State.methodFound?_of_named hnamed hy).symm.trans q2
  cases hnamed.symm.trans q3
  have hselP : selectMethod e.platform s.vm cellB.cls mk = .method mk := by rw [Launch.admits_selectMethod X.admits]; exact q4
  obtain ⟨vm₁, X₁, hstep₁⟩ := X.invokevirtual hexec hown hlink hnamed hmethM hstM hkP hkPi hy (a := b) (cell := cellB) hcell
    (fun z h => by rw [h] at hobj; cases hobj) hselP hmethM habM hkP hkPi (g := g) hg (argsL := argsL) (rest := rest) (hlen _ hsigM) hstack hdg
  obtain ⟨v, B, X', hpost, hsteps⟩ := hK m meth c ⟨T.setVm vm₁, locs, cells, slots⟩ { g with stack := rest } (.invokevirtual index) mk (Value.ref b :: argsL).toArray X₁ hg hsize hdg hW (X₁.named hnamed) (hpre vm₁ X₁.warmed)
  exact ⟨v, vm₁, B, X₁.warmed, X', hpost, fun target h => hstep₁ _ fun acts => by rw [doInvoke_state]; exact hsteps.trans h⟩
abbrev vx_CVW (R : Room) (s : State) (args : Array Value) (own C : String) (index : Nat) (y : MethodName) (bytes : ByteArray) (maxL : Nat) (ret : Option FieldType) (hh : List (Nat × Nat × Nat × Nat)) (ws : List Cond) (rm : Room) (mc ms n : Nat) : Prop :=
  (rm.cells = mc ∧ rm.slots = ms ∧ rm.frames + 1 ≤ R.frames ∧ 8 + (maxL + 11) + rm.locals ≤ R.locals ∧ (∀ w ∈ ws, ∀ (a' : Array Value) (U : State), s.WarmedH U.vm → w.before a' U = true) ∧ Cond.codeWith y bytes maxL ret hh ∈ ws) ∧
  (Cond.codeWith y bytes maxL ret hh).before args s = true ∧ (Cond.initialized y.cls).before args s = true ∧ (y.cls ≠ "java/lang/invoke/MethodHandle" ∧ y.cls ≠ "java/lang/invoke/VarHandle") ∧
  (∀ sig, parseMethodDescriptor y.desc = some sig → n = sig.parameters.length) ∧ (Cond.methodLink own index y).before args s = true ∧ (Cond.instanceMethod y).before args s = true ∧ (Cond.selects C y y).before args s = true
theorem vx_cwVW {own C : String} {index maxL mc ms : Nat} {y : MethodName} {bytes : ByteArray} {ret : Option FieldType} {hh : List (Nat × Nat × Nat × Nat)} {Ts ws ws' : List Cond} {rm : Room} (n : Nat) (ht : ∀ w ∈ Ts, w.before args s = true) (hT : GoodIn Ts (wsV own index C y ws)) (hw : ws = Cond.codeWith y bytes maxL ret hh :: ws') (hrc : rm.cells = mc) (hrs : rm.slots = ms)
    (hd : y.cls = C ∧ y.cls ≠ "java/lang/invoke/MethodHandle" ∧ y.cls ≠ "java/lang/invoke/VarHandle" ∧ (parseMethodDescriptor y.desc).map (fun d => d.parameters.length) = some n) (hR : rm.frames + 1 ≤ R.frames ∧ 8 + (maxL + 11) + rm.locals ≤ R.locals) :
    vx_CVW R s args own C index y bytes maxL ret hh ws rm mc ms n := by
  obtain ⟨hC, hd⟩ := hd
  subst hC
  have ok : ∀ w ∈ wsV own index y.cls y ws, w.before args s = true := fun w h => ht w (hT w h).1
  have hG : GoodIn Ts ws := fun w h => hT w (by unfold wsV; exact List.mem_append_right _ h)
  have hc : Cond.codeWith y bytes maxL ret hh ∈ ws := by rw [hw]; exact List.mem_cons_self
  refine ⟨⟨hrc, hrs, hR.1, hR.2, pay_in ht hG, hc⟩, ht _ (hG _ hc).1, ok _ (by simp [wsV]), ⟨hd.1, hd.2.1⟩, fun sig h => ?_, ok _ (by simp [wsV]), ok _ (by simp [wsV]), ok _ (by simp [wsV])⟩
  have h2 := hd.2.2
  rw [h] at h2
  exact (Option.some.inj h2).symm
theorem vx_runVW {y : MethodName} {bytes cc : ByteArray} {maxL nL mc ms n index : Nat} {ret : Option FieldType} {hh : List (Nat × Nat × Nat × Nat)} {ws : List Cond} {rm : Room} {Pc : Array Value → State → Prop} {Qc : Array Value → State → Outcome → State → Prop} {free : Addr → Prop} {Ts : List Cond} {own C : String} {b : Addr} {As rest : List Value} {g : JFrame}
    (S : CallFix p m c cc nL s args Ts own) (hM : Met l y ws rm Pc Qc mc ms free) (cw : vx_CVW R s args own C index y bytes maxL ret hh ws rm mc ms n) (hp : PreV s H C b Pc As)
    (hg : g.method = m) (hn : As.length = n) (hsize : g.locals.size = nL) (hstack : g.stack = As.reverse ++ .ref b :: rest) (hW : 2 * g.monitorRoom + (rest.map fun v => v.category).sum ≤ 8) (hdg : decode cc g.pc = .ok (.invokevirtual index, 3)) (hf : cells + mc ≤ R.cells ∧ slots + ms ≤ R.slots) :
    va_Run p l e R s m args below meth c H locs cells slots mc ms g rest (Qc (Value.ref b :: As).toArray) free := by
  obtain ⟨⟨hrc, hrs, hfr, hlo, hws, hcw⟩, hcode, hini, hy, hlen, hl, hin, hse⟩ := cw
  have hK : Back l R p e below s args y 3 8 (PreOf R mc ms Pc) (PostOf Qc mc ms free) := va_backW (hh := hh) (bytes := bytes) (maxL := maxL) (ret := ret) hM hp.1 hrc hrs hfr hlo hws hcw (fun a' U hW => word_at hW (Or.inl (by first | rfl | simp [Cond.onTables, Cond.keeps, Cond.steady])) hini)
  obtain ⟨hx, hb, hml, ho, -⟩ := S
  obtain ⟨-, ⟨cellB, hcB, hoB, hclB⟩, hPc⟩ := hp
  intro T hT X
  obtain ⟨v, vm₁, ⟨U', l2, c2, s2⟩, hW₁, X', ⟨g', mk, t, L, e1, e2, hq, h1, hL, h2, h3⟩, st⟩ := vx_callVW X hx (C := C) (hh := hh) (bytes := bytes) (maxL := maxL) (ret := ret) ho hl hin hse hcode hy hK (by rw [hT]; exact hcB) hoB hclB hg (hsize.trans hml.symm) (argsL := As) (rest := rest) (fun sig h => hn.trans (hlen sig h)) hstack hW (by rw [hb]; exact hdg)
    (fun vm₁ hW₁ => ⟨hf.1, hf.2, hPc (T.setVm vm₁) hT hW₁⟩)
  dsimp only [Pt.U, Pt.locs, Pt.cells, Pt.slots] at X' e1 e2 h1 h2 h3 st
  subst h1; subst h2; subst h3
  exact ⟨v, (T.setVm vm₁).calling g' mk (Value.ref b :: As).toArray, t, U', L, hT, X', hL, e1, e2, hq, st⟩
section
variable {y : MethodName} {bytes cc : ByteArray} {maxL nL mc ms n index : Nat} {ret : Option FieldType} {ws : List Cond} {rm : Room} {Pc : Array Value → State → Prop} {Qc : Array Value → State → Outcome → State → Prop} {XC : String → State → State → Prop} {free : Addr → Prop} {Ts : List Cond} {own C : String} {b : Addr} {As rest : List Value} {g : JFrame}
theorem vx_runVX {hh : List (Nat × Nat × Nat × Nat)} (S : CallFix p m c cc nL s args Ts own) (hM : vx_Met l y ws rm Pc Qc XC mc ms free) (cw : vx_CVW R s args own C index y bytes maxL ret hh ws rm mc ms n) (hp : PreV s H C b Pc As)
    (hg : g.method = m) (hn : As.length = n) (hsize : g.locals.size = nL) (hstack : g.stack = As.reverse ++ .ref b :: rest) (hW : 2 * g.monitorRoom + (rest.map fun v => v.category).sum ≤ 8) (hdg : decode cc g.pc = .ok (.invokevirtual index, 3)) (hf : cells + mc ≤ R.cells ∧ slots + ms ≤ R.slots) :
    vx_Run p l e R s m args below meth c H locs cells slots mc ms g rest (Qc (Value.ref b :: As).toArray) XC free := by
  obtain ⟨⟨hrc, hrs, hfr, hlo, hws, hcw⟩, hcode, hini, hy, hlen, hl, hin, hse⟩ := cw
  have hK : vx_Back l R p e below s args y 3 8 (PreOf R mc ms Pc) (PostOf Qc mc ms free) (vx_Post XC mc ms free) := vx_backW (hh := hh) (bytes := bytes) (maxL := maxL) (ret := ret) hM hp.1 hrc hrs hfr hlo hws hcw (fun a' U hW => word_at hW (Or.inl (by first | rfl | simp [Cond.onTables, Cond.keeps, Cond.steady])) hini)
  obtain ⟨hx, hb, hml, ho, -⟩ := S
  obtain ⟨-, ⟨cellB, hcB, hoB, hclB⟩, hPc⟩ := hp
  intro T hT X
  rcases vx_callVX X hx (C := C) (hh := hh) (bytes := bytes) (maxL := maxL) (ret := ret) ho hl hin hse hcode hy hK (by rw [hT]; exact hcB) hoB hclB hg (hsize.trans hml.symm) (argsL := As) (rest := rest) (fun sig h => hn.trans (hlen sig h)) hstack hW (by rw [hb]; exact hdg)
    (fun vm₁ hW₁ => ⟨hf.1, hf.2, hPc (T.setVm vm₁) hT hW₁⟩) with ⟨v, vm₁, ⟨U', l2, c2, s2⟩, hW₁, X', ⟨g', mk, t, L, e1, e2, hq, h1, hL, h2, h3⟩, st⟩ | ⟨q, vm₁, ⟨U', l2, c2, s2⟩, hW₁, X', ⟨g', mk, t, L, E, ce, e1, e2, hq, hce, hcv, hcl, h1, hL, h2, h3⟩, st⟩
  · dsimp only [Pt.U, Pt.locs, Pt.cells, Pt.slots] at X' e1 e2 h1 h2 h3 st
    subst h1; subst h2; subst h3
    exact Or.inl ⟨v, (T.setVm vm₁).calling g' mk (Value.ref b :: As).toArray, t, U', L, hT, X', hL, e1, e2, hq, st⟩
  · dsimp only [Pt.U, Pt.locs, Pt.cells, Pt.slots] at X' e1 e2 h1 h2 h3 st hcl
    subst h1; subst h2; subst h3
    exact Or.inr ⟨q, (T.setVm vm₁).calling g' mk (Value.ref b :: As).toArray, t, U', L, E, ce, hT, X', hL, e1, e2, hq, hce, hcv, vx_cls hW₁ hcl, st⟩
theorem vx_runSX {hh : List (Nat × Nat × Nat × Nat)} (S : CallFix p m c cc nL s args Ts own) (hM : vx_Met l y ws rm Pc Qc XC mc ms free) (cw : vx_CSW R s args own index y bytes maxL ret hh ws rm mc ms n) (hp : PreS s H Pc As)
    (hg : g.method = m) (hn : As.length = n) (hsize : g.locals.size = nL) (hstack : g.stack = As.reverse ++ rest) (hW : 2 * g.monitorRoom + (rest.map fun v => v.category).sum ≤ 8) (hdg : decode cc g.pc = .ok (.invokestatic index, 3)) (hf : cells + mc ≤ R.cells ∧ slots + ms ≤ R.slots) :
    vx_Run p l e R s m args below meth c H locs cells slots mc ms g rest (Qc As.toArray) XC free := by
  obtain ⟨⟨hrc, hrs, hfr, hlo, hws, hcw⟩, hcode, hini, hy, hlen, hl, hstt⟩ := cw
  have hK : vx_Back l R p e below s args y 3 8 (PreOf R mc ms Pc) (PostOf Qc mc ms free) (vx_Post XC mc ms free) := vx_backW (hh := hh) (bytes := bytes) (maxL := maxL) (ret := ret) hM hp.1 hrc hrs hfr hlo hws hcw (fun a' U hW => word_at hW (Or.inl (by first | rfl | simp [Cond.onTables, Cond.keeps, Cond.steady])) hini)
  obtain ⟨hx, hb, hml, ho, -⟩ := S
  intro T hT X
  rcases vx_callSX X hx (hh := hh) (bytes := bytes) (maxL := maxL) (ret := ret) ho hl hstt hini hcode hy hK hg (hsize.trans hml.symm) (argsL := As) (rest := rest) (fun sig h => hn.trans (hlen sig h)) hstack hW (by rw [hb]; exact hdg)
    (fun vm₁ hW₁ => ⟨hf.1, hf.2, hp.2 (T.setVm vm₁) hT hW₁⟩) with ⟨v, vm₁, ⟨U', l2, c2, s2⟩, hW₁, X', ⟨g', mk, t, L, e1, e2, hq, h1, hL, h2, h3⟩, st⟩ | ⟨q, vm₁, ⟨U', l2, c2, s2⟩, hW₁, X', ⟨g', mk, t, L, E, ce, e1, e2, hq, hce, hcv, hcl, h1, hL, h2, h3⟩, st⟩
  · dsimp only [Pt.U, Pt.locs, Pt.cells, Pt.slots] at X' e1 e2 h1 h2 h3 st
    subst h1; subst h2; subst h3
    exact Or.inl ⟨v, (T.setVm vm₁).calling g' mk As.toArray, t, U', L, hT, X', hL, e1, e2, hq, st⟩
  · dsimp only [Pt.U, Pt.locs, Pt.cells, Pt.slots] at X' e1 e2 h1 h2 h3 st hcl
    subst h1; subst h2; subst h3
    exact Or.inr ⟨q, (T.setVm vm₁).calling g' mk As.toArray, t, U', L, E, ce, hT, X', hL, e1, e2, hq, hce, hcv, vx_cls hW₁ hcl, st⟩
end
end VXH
theorem vx_ofWH {l : Launch} {y : MethodName} {ws ws' : List Cond} {rm : Room} {Pc : Array Value → State → Prop} {Qc : Array Value → State → Outcome → State → Prop} {XC : String → State → State → Prop} {mc ms : Nat} {free : Addr → Prop} {cc : ByteArray} {maxL : Nat} {ret : Option FieldType} {hh : List (Nat × Nat × Nat × Nat)}
    (hy : plainName y.cls = true) (hw : ws = Cond.codeWith y cc maxL ret hh :: ws')
    (body : ∀ p e s m args below meth c s₁, BodyLoose p l y (headSpec ws rm) cc maxL ret e s m args below meth c s₁ → c.maxLocals = maxL → Pc args s →
      W p l e (headSpec ws rm).room s m args below meth c s.heap [] 0 0 (vx_MQ below Qc XC args s mc ms free) (entryFrame m args maxL)) : vx_Met l y ws rm Pc Qc XC mc ms free := by
  refine MetFree.of_bodyS (code := cc) (maxLocals := maxL) (ret := ret) hy ?_ ?_
  · intro args s m h hn
    obtain ⟨m9, meth, c, hn9, h1, h2, h3, h4, -, h5, h6, -⟩ := Cond.codeWith_spec (atoms_spec (ws := ws) h _ (by rw [hw]; exact List.mem_cons_self))
    cases hn.symm.trans hn9
    exact ⟨meth, c, h1, h2, h3, h4, h5, h6⟩
  · intro p e s m args below meth c s₁ B hml hP _
    have hh0 : s₁.heap = s.heap := by rw [B.state]; rfl
    obtain ⟨t, a1, o, b1, b2, b3⟩ := body p e s m args below meth c s₁ B hml hP s₁ hh0 (Stand.of_body B)
    exact ⟨t, o, a1, b1, b2, b3⟩
/-! ===== END ===== -/
end
section
/-! ===== BEGIN printed: names, fields, word lists, decode rows ===== -/
def RX0 : String := "SharedQueues$Queue"
def TX0 : u_T := fun k => match k with
  | 0 => ("SharedQueues$Queue", "wordRow", "[I", true)
  | 1 => ("SharedQueues$Queue", "costRow", "[I", true)
  | 2 => ("SharedQueues$Queue", "start", "I", false)
  | 3 => ("SharedQueues$Queue", "count", "I", false)
  | 4 => ("SharedQueues$Queue", "costs", "I", false)
  | 5 => ("SharedQueues$Queue", "kind", "I", false)
  | 6 => ("SharedQueues$Queue", "quantum", "I", false)
  | 7 => ("SharedQueues$Queue", "quota", "I", false)
  | 8 => ("SharedQueues$Queue", "kept", "I", false)
  | 9 => ("SharedQueues$Queue", "deficit", "I", false)
  | 10 => ("SharedQueues$Queue", "hasTurn", "Z", false)
  | 11 => ("SharedQueues$Queue", "pushed", "I", false)
  | 12 => ("SharedQueues$Queue", "lost", "I", false)
  | 13 => ("SharedQueues$Queue", "served", "I", false)
  | _ => ("SharedQueues$Queue", "servedCosts", "I", false)
def tyX0 : Nat → FieldType := fun k => match k with
  | 0 => .array .int
  | 1 => .array .int
  | 2 => .int
  | 3 => .int
  | 4 => .int
  | 5 => .int
  | 6 => .int
  | 7 => .int
  | 8 => .int
  | 9 => .int
  | 10 => .boolean
  | 11 => .int
  | 12 => .int
  | 13 => .int
  | _ => .int
abbrev wsX00 : List Cond := u_ws RX0 TX0 15
theorem nmX0 : ∀ a, a < 15 → ∀ b, b < 15 → a ≠ b → (TX0 a).2.1 ≠ (TX0 b).2.1 := by decide +kernel
theorem tyX0_ok : ∀ k, k < 15 → parseFieldDescriptor (TX0 k).2.2.1 = some (tyX0 k) := by decide +kernel
abbrev cX0_init : ByteArray := prog_2_method_1_code
def yX0_init : MethodName := ⟨RX0, "<init>", "()V"⟩
abbrev cX0_excess : ByteArray := prog_2_method_2_code
def yX0_excess : MethodName := ⟨RX0, "excess", "()I"⟩
abbrev cX0_wordAt : ByteArray := prog_2_method_3_code
def yX0_wordAt : MethodName := ⟨RX0, "wordAt", "(I)I"⟩
abbrev cX0_costAt : ByteArray := prog_2_method_4_code
def yX0_costAt : MethodName := ⟨RX0, "costAt", "(I)I"⟩
abbrev cX0_firstCost : ByteArray := prog_2_method_5_code
def yX0_firstCost : MethodName := ⟨RX0, "firstCost", "()I"⟩
abbrev cX0_putLast : ByteArray := prog_2_method_6_code
def yX0_putLast : MethodName := ⟨RX0, "putLast", "(II)V"⟩
abbrev cX0_dropFirst : ByteArray := prog_2_method_7_code
def yX0_dropFirst : MethodName := ⟨RX0, "dropFirst", "()V"⟩
abbrev cX0_dropLast : ByteArray := prog_2_method_8_code
def yX0_dropLast : MethodName := ⟨RX0, "dropLast", "()V"⟩
abbrev cX0_dropAll : ByteArray := prog_2_method_9_code
def yX0_dropAll : MethodName := ⟨RX0, "dropAll", "()V"⟩
abbrev cX0_looksInVain : ByteArray := prog_2_method_10_code
def yX0_looksInVain : MethodName := ⟨RX0, "looksInVain", "()I"⟩
abbrev cX0_lookInVain : ByteArray := prog_2_method_11_code
def yX0_lookInVain : MethodName := ⟨RX0, "lookInVain", "(I)V"⟩
abbrev cX0_takeTurn : ByteArray := prog_2_method_12_code
def yX0_takeTurn : MethodName := ⟨RX0, "takeTurn", "()V"⟩
abbrev cX0_cellOf : ByteArray := prog_2_method_13_code
def yX0_cellOf : MethodName := ⟨RX0, "cellOf", "(I)I"⟩
def RX1 : String := "SharedQueues$Ring"
def TX1 : u_T := fun k => match k with
  | 0 => ("SharedQueues$Ring", "order", "[I", true)
  | _ => ("SharedQueues$Ring", "size", "I", false)
def tyX1 : Nat → FieldType := fun k => match k with
  | 0 => .array .int
  | _ => .int
abbrev wsX10 : List Cond := u_ws RX1 TX1 2
theorem nmX1 : ∀ a, a < 2 → ∀ b, b < 2 → a ≠ b → (TX1 a).2.1 ≠ (TX1 b).2.1 := by decide +kernel
theorem tyX1_ok : ∀ k, k < 2 → parseFieldDescriptor (TX1 k).2.2.1 = some (tyX1 k) := by decide +kernel
abbrev cX1_init : ByteArray := prog_3_method_1_code
def yX1_init : MethodName := ⟨RX1, "<init>", "()V"⟩
abbrev cX1_queueAt : ByteArray := prog_3_method_2_code
def yX1_queueAt : MethodName := ⟨RX1, "queueAt", "(I)I"⟩
abbrev cX1_placeOf : ByteArray := prog_3_method_3_code
def yX1_placeOf : MethodName := ⟨RX1, "placeOf", "(I)I"⟩
abbrev cX1_putAtEnd : ByteArray := prog_3_method_4_code
def yX1_putAtEnd : MethodName := ⟨RX1, "putAtEnd", "(I)V"⟩
abbrev cX1_takeOut : ByteArray := prog_3_method_5_code
def yX1_takeOut : MethodName := ⟨RX1, "takeOut", "(I)V"⟩
abbrev cX1_turnBy : ByteArray := prog_3_method_6_code
def yX1_turnBy : MethodName := ⟨RX1, "turnBy", "(I)V"⟩
def RX2 : String := "SharedQueues"
def TX2 : u_T := fun k => match k with
  | 0 => ("SharedQueues", "queues", "[LSharedQueues$Queue;", true)
  | 1 => ("SharedQueues", "rings", "[LSharedQueues$Ring;", true)
  | 2 => ("SharedQueues", "lastWord", "I", false)
  | 3 => ("SharedQueues", "servedInAll", "I", false)
  | 4 => ("SharedQueues", "lostInAll", "I", false)
  | 5 => ("SharedQueues", "refusedAsOver", "I", false)
  | _ => ("SharedQueues", "refusedAsFull", "I", false)
def tyX2 : Nat → FieldType := fun k => match k with
  | 0 => .array (.object "SharedQueues$Queue")
  | 1 => .array (.object "SharedQueues$Ring")
  | 2 => .int
  | 3 => .int
  | 4 => .int
  | 5 => .int
  | _ => .int
abbrev wsX20 : List Cond := u_ws RX2 TX2 7
theorem nmX2 : ∀ a, a < 7 → ∀ b, b < 7 → a ≠ b → (TX2 a).2.1 ≠ (TX2 b).2.1 := by decide +kernel
theorem tyX2_ok : ∀ k, k < 7 → parseFieldDescriptor (TX2 k).2.2.1 = some (tyX2 k) := by decide +kernel
abbrev cX2_init : ByteArray := prog_1_method_1_code
def yX2_init : MethodName := ⟨RX2, "<init>", "()V"⟩
abbrev cX2_quota : ByteArray := prog_1_method_2_code
def yX2_quota : MethodName := ⟨RX2, "quota", "(III)I"⟩
abbrev cX2_kind : ByteArray := prog_1_method_3_code
def yX2_kind : MethodName := ⟨RX2, "kind", "(III)V"⟩
abbrev cX2_push : ByteArray := prog_1_method_4_code
def yX2_push : MethodName := ⟨RX2, "push", "(III)I"⟩
abbrev cX2_serve : ByteArray := prog_1_method_5_code
def yX2_serve : MethodName := ⟨RX2, "serve", "()I"⟩
abbrev cX2_next : ByteArray := prog_1_method_6_code
def yX2_next : MethodName := ⟨RX2, "next", "()I"⟩
abbrev cX2_word : ByteArray := prog_1_method_7_code
def yX2_word : MethodName := ⟨RX2, "word", "()I"⟩
abbrev cX2_serveUpTo : ByteArray := prog_1_method_8_code
def yX2_serveUpTo : MethodName := ⟨RX2, "serveUpTo", "(I)I"⟩
abbrev cX2_empty : ByteArray := prog_1_method_9_code
def yX2_empty : MethodName := ⟨RX2, "empty", "(I)I"⟩
abbrev cX2_told : ByteArray := prog_1_method_10_code
def yX2_told : MethodName := ⟨RX2, "told", "(II)I"⟩
abbrev cX2_item : ByteArray := prog_1_method_11_code
def yX2_item : MethodName := ⟨RX2, "item", "(III)I"⟩
abbrev cX2_all : ByteArray := prog_1_method_12_code
def yX2_all : MethodName := ⟨RX2, "all", "(I)I"⟩
abbrev cX2_queueOf : ByteArray := prog_1_method_13_code
def yX2_queueOf : MethodName := ⟨RX2, "queueOf", "(I)LSharedQueues$Queue;"⟩
abbrev cX2_checkRange : ByteArray := prog_1_method_14_code
def yX2_checkRange : MethodName := ⟨RX2, "checkRange", "(III)V"⟩
abbrev cX2_keptCells : ByteArray := prog_1_method_15_code
def yX2_keptCells : MethodName := ⟨RX2, "keptCells", "()I"⟩
abbrev cX2_freeCells : ByteArray := prog_1_method_16_code
def yX2_freeCells : MethodName := ⟨RX2, "freeCells", "()I"⟩
abbrev cX2_openCells : ByteArray := prog_1_method_17_code
def yX2_openCells : MethodName := ⟨RX2, "openCells", "()I"⟩
abbrev cX2_hasRoomFor : ByteArray := prog_1_method_18_code
def yX2_hasRoomFor : MethodName := ⟨RX2, "hasRoomFor", "(LSharedQueues$Queue;)Z"⟩
abbrev cX2_queueOfGreatestExcess : ByteArray := prog_1_method_19_code
def yX2_queueOfGreatestExcess : MethodName := ⟨RX2, "queueOfGreatestExcess", "()I"⟩
abbrev cX2_addItem : ByteArray := prog_1_method_20_code
def yX2_addItem : MethodName := ⟨RX2, "addItem", "(ILSharedQueues$Queue;II)V"⟩
abbrev cX2_loseLastItem : ByteArray := prog_1_method_21_code
def yX2_loseLastItem : MethodName := ⟨RX2, "loseLastItem", "(I)V"⟩
abbrev cX2_leaveRing : ByteArray := prog_1_method_22_code
def yX2_leaveRing : MethodName := ⟨RX2, "leaveRing", "(ILSharedQueues$Queue;)V"⟩
abbrev cX2_changeClass : ByteArray := prog_1_method_23_code
def yX2_changeClass : MethodName := ⟨RX2, "changeClass", "(ILSharedQueues$Queue;I)V"⟩
abbrev cX2_firstRingWithQueues : ByteArray := prog_1_method_24_code
def yX2_firstRingWithQueues : MethodName := ⟨RX2, "firstRingWithQueues", "()LSharedQueues$Ring;"⟩
abbrev cX2_placeServedNext : ByteArray := prog_1_method_25_code
def yX2_placeServedNext : MethodName := ⟨RX2, "placeServedNext", "(LSharedQueues$Ring;)I"⟩
abbrev cX2_bringToFront : ByteArray := prog_1_method_26_code
def yX2_bringToFront : MethodName := ⟨RX2, "bringToFront", "(LSharedQueues$Ring;I)V"⟩
abbrev cX2_serveFirstItem : ByteArray := prog_1_method_27_code
def yX2_serveFirstItem : MethodName := ⟨RX2, "serveFirstItem", "(I)V"⟩
def RX3 : String := "SharedQueuesModel"
def TX3 : u_T := fun k => match k with
  | 0 => ("SharedQueuesModel", "thrown", "I", false)
  | 1 => ("SharedQueuesModel", "kinds", "[I", true)
  | 2 => ("SharedQueuesModel", "quanta", "[I", true)
  | 3 => ("SharedQueuesModel", "quotas", "[I", true)
  | 4 => ("SharedQueuesModel", "kept", "[I", true)
  | 5 => ("SharedQueuesModel", "many", "[I", true)
  | 6 => ("SharedQueuesModel", "deficits", "[I", true)
  | 7 => ("SharedQueuesModel", "turns", "[Z", true)
  | 8 => ("SharedQueuesModel", "words", "[I", true)
  | 9 => ("SharedQueuesModel", "costs", "[I", true)
  | 10 => ("SharedQueuesModel", "pushed", "[I", true)
  | 11 => ("SharedQueuesModel", "lost", "[I", true)
  | 12 => ("SharedQueuesModel", "served", "[I", true)
  | 13 => ("SharedQueuesModel", "paid", "[I", true)
  | 14 => ("SharedQueuesModel", "rings", "[I", true)
  | 15 => ("SharedQueuesModel", "long4", "[I", true)
  | 16 => ("SharedQueuesModel", "word", "I", false)
  | 17 => ("SharedQueuesModel", "over", "I", false)
  | 18 => ("SharedQueuesModel", "full", "I", false)
  | 19 => ("SharedQueuesModel", "wasDeficits", "[I", true)
  | 20 => ("SharedQueuesModel", "wasTurns", "[Z", true)
  | _ => ("SharedQueuesModel", "wasRings", "[I", true)
def tyX3 : Nat → FieldType := fun k => match k with
  | 0 => .int
  | 1 => .array .int
  | 2 => .array .int
  | 3 => .array .int
  | 4 => .array .int
  | 5 => .array .int
  | 6 => .array .int
  | 7 => .array .boolean
  | 8 => .array .int
  | 9 => .array .int
  | 10 => .array .int
  | 11 => .array .int
  | 12 => .array .int
  | 13 => .array .int
  | 14 => .array .int
  | 15 => .array .int
  | 16 => .int
  | 17 => .int
  | 18 => .int
  | 19 => .array .int
  | 20 => .array .boolean
  | _ => .array .int
abbrev wsX30 : List Cond := u_ws RX3 TX3 22
theorem nmX3 : ∀ a, a < 22 → ∀ b, b < 22 → a ≠ b → (TX3 a).2.1 ≠ (TX3 b).2.1 := by decide +kernel
theorem tyX3_ok : ∀ k, k < 22 → parseFieldDescriptor (TX3 k).2.2.1 = some (tyX3 k) := by decide +kernel
abbrev cX3_init : ByteArray := prog_5_method_1_code
def yX3_init : MethodName := ⟨RX3, "<init>", "()V"⟩
abbrev cX3_thrown : ByteArray := prog_5_method_2_code
def yX3_thrown : MethodName := ⟨RX3, "thrown", "()I"⟩
abbrev cX3_noQueue : ByteArray := prog_5_method_3_code
def yX3_noQueue : MethodName := ⟨RX3, "noQueue", "(I)Z"⟩
abbrev cX3_keptInAll : ByteArray := prog_5_method_4_code
def yX3_keptInAll : MethodName := ⟨RX3, "keptInAll", "()I"⟩
abbrev cX3_quota : ByteArray := prog_5_method_5_code
def yX3_quota : MethodName := ⟨RX3, "quota", "(III)I"⟩
abbrev cX3_placeOf : ByteArray := prog_5_method_6_code
def yX3_placeOf : MethodName := ⟨RX3, "placeOf", "(I)I"⟩
abbrev cX3_enter : ByteArray := prog_5_method_7_code
def yX3_enter : MethodName := ⟨RX3, "enter", "(I)V"⟩
abbrev cX3_leave : ByteArray := prog_5_method_8_code
def yX3_leave : MethodName := ⟨RX3, "leave", "(I)V"⟩
abbrev cX3_kind : ByteArray := prog_5_method_9_code
def yX3_kind : MethodName := ⟨RX3, "kind", "(III)V"⟩
abbrev cX3_free : ByteArray := prog_5_method_10_code
def yX3_free : MethodName := ⟨RX3, "free", "()I"⟩
abbrev cX3_excess : ByteArray := prog_5_method_11_code
def yX3_excess : MethodName := ⟨RX3, "excess", "(I)I"⟩
abbrev cX3_open : ByteArray := prog_5_method_12_code
def yX3_open : MethodName := ⟨RX3, "open", "()I"⟩
abbrev cX3_greediest : ByteArray := prog_5_method_13_code
def yX3_greediest : MethodName := ⟨RX3, "greediest", "()I"⟩
abbrev cX3_settle : ByteArray := prog_5_method_14_code
def yX3_settle : MethodName := ⟨RX3, "settle", "(I)V"⟩
abbrev cX3_push : ByteArray := prog_5_method_15_code
def yX3_push : MethodName := ⟨RX3, "push", "(III)I"⟩
abbrev cX3_find : ByteArray := prog_5_method_16_code
def yX3_find : MethodName := ⟨RX3, "find", "()I"⟩
abbrev cX3_keepTurns : ByteArray := prog_5_method_17_code
def yX3_keepTurns : MethodName := ⟨RX3, "keepTurns", "()V"⟩
abbrev cX3_turnBack : ByteArray := prog_5_method_18_code
def yX3_turnBack : MethodName := ⟨RX3, "turnBack", "()V"⟩
abbrev cX3_take : ByteArray := prog_5_method_19_code
def yX3_take : MethodName := ⟨RX3, "take", "(I)V"⟩
abbrev cX3_serve : ByteArray := prog_5_method_20_code
def yX3_serve : MethodName := ⟨RX3, "serve", "()I"⟩
abbrev cX3_next : ByteArray := prog_5_method_21_code
def yX3_next : MethodName := ⟨RX3, "next", "()I"⟩
abbrev cX3_word : ByteArray := prog_5_method_22_code
def yX3_word : MethodName := ⟨RX3, "word", "()I"⟩
abbrev cX3_serveUpTo : ByteArray := prog_5_method_23_code
def yX3_serveUpTo : MethodName := ⟨RX3, "serveUpTo", "(I)I"⟩
abbrev cX3_empty : ByteArray := prog_5_method_24_code
def yX3_empty : MethodName := ⟨RX3, "empty", "(I)I"⟩
abbrev cX3_costOf : ByteArray := prog_5_method_25_code
def yX3_costOf : MethodName := ⟨RX3, "costOf", "(I)I"⟩
abbrev cX3_told : ByteArray := prog_5_method_26_code
def yX3_told : MethodName := ⟨RX3, "told", "(II)I"⟩
abbrev cX3_item : ByteArray := prog_5_method_27_code
def yX3_item : MethodName := ⟨RX3, "item", "(III)I"⟩
abbrev cX3_all : ByteArray := prog_5_method_28_code
def yX3_all : MethodName := ⟨RX3, "all", "(I)I"⟩
def RJ9 : String := "java/lang/Math"
def TJ9 : u_T := fun k => match k with
  | _ => ("", "", "", false)
def tyJ9 : Nat → FieldType := fun k => match k with
  | _ => .int
abbrev wsJ90 : List Cond := u_ws RJ9 TJ9 0
theorem nmJ9 : ∀ a, a < 0 → ∀ b, b < 0 → a ≠ b → (TJ9 a).2.1 ≠ (TJ9 b).2.1 := by decide +kernel
theorem tyJ9_ok : ∀ k, k < 0 → parseFieldDescriptor (TJ9 k).2.2.1 = some (tyJ9 k) := by decide +kernel
abbrev cJ9_floorMod_7cf53 : ByteArray := prog_9_method_50_code
def yJ9_floorMod_7cf53 : MethodName := ⟨RJ9, "floorMod", "(II)I"⟩
abbrev cJ9_min_7cf53 : ByteArray := prog_9_method_69_code
def yJ9_min_7cf53 : MethodName := ⟨RJ9, "min", "(II)I"⟩
def RJ0 : String := "java/lang/String"
def TJ0 : u_T := fun k => match k with
  | _ => ("", "", "", false)
def tyJ0 : Nat → FieldType := fun k => match k with
  | _ => .int
abbrev wsJ00 : List Cond := u_ws RJ0 TJ0 0
theorem nmJ0 : ∀ a, a < 0 → ∀ b, b < 0 → a ≠ b → (TJ0 a).2.1 ≠ (TJ0 b).2.1 := by decide +kernel
theorem tyJ0_ok : ∀ k, k < 0 → parseFieldDescriptor (TJ0 k).2.2.1 = some (tyJ0 k) := by decide +kernel
def RJ10 : String := "java/lang/System"
def TJ10 : u_T := fun k => match k with
  | _ => ("", "", "", false)
def tyJ10 : Nat → FieldType := fun k => match k with
  | _ => .int
abbrev wsJ100 : List Cond := u_ws RJ10 TJ10 0
theorem nmJ10 : ∀ a, a < 0 → ∀ b, b < 0 → a ≠ b → (TJ10 a).2.1 ≠ (TJ10 b).2.1 := by decide +kernel
theorem tyJ10_ok : ∀ k, k < 0 → parseFieldDescriptor (TJ10 k).2.2.1 = some (tyJ10 k) := by decide +kernel
def RL : String := "SharedQueuesLaw"
abbrev cL_quota : ByteArray := method_3_code
def yL_quota : MethodName := ⟨RL, "quota", "(LSharedQueues;III[J)I"⟩
abbrev cL_kind : ByteArray := method_4_code
def yL_kind : MethodName := ⟨RL, "kind", "(LSharedQueues;III)I"⟩
abbrev cL_push : ByteArray := method_5_code
def yL_push : MethodName := ⟨RL, "push", "(LSharedQueues;III[J)I"⟩
abbrev cL_serveUpTo : ByteArray := method_6_code
def yL_serveUpTo : MethodName := ⟨RL, "serveUpTo", "(LSharedQueues;I[J)I"⟩
abbrev cL_empty : ByteArray := method_7_code
def yL_empty : MethodName := ⟨RL, "empty", "(LSharedQueues;I[J)I"⟩
abbrev cL_told : ByteArray := method_8_code
def yL_told : MethodName := ⟨RL, "told", "(LSharedQueues;II[J)I"⟩
abbrev cL_item : ByteArray := method_9_code
def yL_item : MethodName := ⟨RL, "item", "(LSharedQueues;III[J)I"⟩
abbrev cL_all : ByteArray := method_10_code
def yL_all : MethodName := ⟨RL, "all", "(LSharedQueues;I[J)I"⟩
abbrev cL_law : ByteArray := code
def yL_law : MethodName := ⟨RL, "law", "([I)Z"⟩
def wsX0_init : List Cond := .code yX0_init cX0_init 1 none :: ([.methodLink RX0 3 objectInit, .instanceMethod objectInit, .code objectInit ⟨#[0xb1]⟩ 1 none, .arrayClass .int, .fieldLink RX0 9 "SharedQueues$Queue" "wordRow" "[I", .fieldLink RX0 15 "SharedQueues$Queue" "costRow" "[I", .fieldLink RX0 18 "SharedQueues$Queue" "quantum" "I", .fieldLink RX0 22 "SharedQueues$Queue" "quota" "I"] ++ wsX00)
def wsX0_excess : List Cond := .code yX0_excess cX0_excess 1 (some .int) :: ([.fieldLink RX0 25 "SharedQueues$Queue" "count" "I", .fieldLink RX0 28 "SharedQueues$Queue" "kept" "I"] ++ wsX00)
def wsJ9_floorMod_7cf53 : List Cond := .code yJ9_floorMod_7cf53 cJ9_floorMod_7cf53 3 (some .int) :: ([])
def wsX0_cellOf : List Cond := .code yX0_cellOf cX0_cellOf 2 (some .int) :: ([.fieldLink RX0 45 "SharedQueues$Queue" "start" "I", .methodLink RX0 55 yJ9_floorMod_7cf53, .static yJ9_floorMod_7cf53, .initialized RJ9, .code yJ9_floorMod_7cf53 cJ9_floorMod_7cf53 3 (some .int)] ++ wsX00)
def wsX0_wordAt : List Cond := .code yX0_wordAt cX0_wordAt 2 (some .int) :: ([.fieldLink RX0 9 "SharedQueues$Queue" "wordRow" "[I", .methodLink RX0 31 yX0_cellOf, .instanceMethod yX0_cellOf, .selects RX0 yX0_cellOf yX0_cellOf, .initialized RX0, .code yX0_cellOf cX0_cellOf 2 (some .int), .fieldLink RX0 45 "SharedQueues$Queue" "start" "I", .methodLink RX0 55 yJ9_floorMod_7cf53, .static yJ9_floorMod_7cf53, .initialized RJ9, .code yJ9_floorMod_7cf53 cJ9_floorMod_7cf53 3 (some .int)] ++ wsX00)
def wsX0_costAt : List Cond := .code yX0_costAt cX0_costAt 2 (some .int) :: ([.fieldLink RX0 15 "SharedQueues$Queue" "costRow" "[I", .methodLink RX0 31 yX0_cellOf, .instanceMethod yX0_cellOf, .selects RX0 yX0_cellOf yX0_cellOf, .initialized RX0, .code yX0_cellOf cX0_cellOf 2 (some .int), .fieldLink RX0 45 "SharedQueues$Queue" "start" "I", .methodLink RX0 55 yJ9_floorMod_7cf53, .static yJ9_floorMod_7cf53, .initialized RJ9, .code yJ9_floorMod_7cf53 cJ9_floorMod_7cf53 3 (some .int)] ++ wsX00)
def wsX0_firstCost : List Cond := .code yX0_firstCost cX0_firstCost 1 (some .int) :: ([.methodLink RX0 35 yX0_costAt, .instanceMethod yX0_costAt, .selects RX0 yX0_costAt yX0_costAt, .initialized RX0, .code yX0_costAt cX0_costAt 2 (some .int), .fieldLink RX0 15 "SharedQueues$Queue" "costRow" "[I", .methodLink RX0 31 yX0_cellOf, .instanceMethod yX0_cellOf, .selects RX0 yX0_cellOf yX0_cellOf, .code yX0_cellOf cX0_cellOf 2 (some .int), .fieldLink RX0 45 "SharedQueues$Queue" "start" "I", .methodLink RX0 55 yJ9_floorMod_7cf53, .static yJ9_floorMod_7cf53, .initialized RJ9, .code yJ9_floorMod_7cf53 cJ9_floorMod_7cf53 3 (some .int)] ++ wsX00)
def wsX0_putLast : List Cond := .code yX0_putLast cX0_putLast 4 none :: ([.fieldLink RX0 25 "SharedQueues$Queue" "count" "I", .fieldLink RX0 9 "SharedQueues$Queue" "wordRow" "[I", .fieldLink RX0 15 "SharedQueues$Queue" "costRow" "[I", .fieldLink RX0 38 "SharedQueues$Queue" "costs" "I", .methodLink RX0 31 yX0_cellOf, .instanceMethod yX0_cellOf, .selects RX0 yX0_cellOf yX0_cellOf, .initialized RX0, .code yX0_cellOf cX0_cellOf 2 (some .int), .fieldLink RX0 45 "SharedQueues$Queue" "start" "I", .methodLink RX0 55 yJ9_floorMod_7cf53, .static yJ9_floorMod_7cf53, .initialized RJ9, .code yJ9_floorMod_7cf53 cJ9_floorMod_7cf53 3 (some .int)] ++ wsX00)
def wsX0_dropFirst : List Cond := .code yX0_dropFirst cX0_dropFirst 1 none :: ([.fieldLink RX0 38 "SharedQueues$Queue" "costs" "I", .fieldLink RX0 45 "SharedQueues$Queue" "start" "I", .fieldLink RX0 25 "SharedQueues$Queue" "count" "I", .methodLink RX0 41 yX0_firstCost, .instanceMethod yX0_firstCost, .selects RX0 yX0_firstCost yX0_firstCost, .initialized RX0, .code yX0_firstCost cX0_firstCost 1 (some .int), .methodLink RX0 35 yX0_costAt, .instanceMethod yX0_costAt, .selects RX0 yX0_costAt yX0_costAt, .code yX0_costAt cX0_costAt 2 (some .int), .fieldLink RX0 15 "SharedQueues$Queue" "costRow" "[I", .methodLink RX0 31 yX0_cellOf, .instanceMethod yX0_cellOf, .selects RX0 yX0_cellOf yX0_cellOf, .code yX0_cellOf cX0_cellOf 2 (some .int), .methodLink RX0 55 yJ9_floorMod_7cf53, .static yJ9_floorMod_7cf53, .initialized RJ9, .code yJ9_floorMod_7cf53 cJ9_floorMod_7cf53 3 (some .int)] ++ wsX00)
def wsX0_dropLast : List Cond := .code yX0_dropLast cX0_dropLast 1 none :: ([.fieldLink RX0 38 "SharedQueues$Queue" "costs" "I", .fieldLink RX0 25 "SharedQueues$Queue" "count" "I", .methodLink RX0 35 yX0_costAt, .instanceMethod yX0_costAt, .selects RX0 yX0_costAt yX0_costAt, .initialized RX0, .code yX0_costAt cX0_costAt 2 (some .int), .fieldLink RX0 15 "SharedQueues$Queue" "costRow" "[I", .methodLink RX0 31 yX0_cellOf, .instanceMethod yX0_cellOf, .selects RX0 yX0_cellOf yX0_cellOf, .code yX0_cellOf cX0_cellOf 2 (some .int), .fieldLink RX0 45 "SharedQueues$Queue" "start" "I", .methodLink RX0 55 yJ9_floorMod_7cf53, .static yJ9_floorMod_7cf53, .initialized RJ9, .code yJ9_floorMod_7cf53 cJ9_floorMod_7cf53 3 (some .int)] ++ wsX00)
def wsX0_dropAll : List Cond := .code yX0_dropAll cX0_dropAll 1 none :: ([.fieldLink RX0 38 "SharedQueues$Queue" "costs" "I", .fieldLink RX0 25 "SharedQueues$Queue" "count" "I"] ++ wsX00)
def wsX0_looksInVain : List Cond := .code yX0_looksInVain cX0_looksInVain 3 (some .int) :: ([.fieldLink RX0 48 "SharedQueues$Queue" "hasTurn" "Z", .fieldLink RX0 52 "SharedQueues$Queue" "deficit" "I", .fieldLink RX0 18 "SharedQueues$Queue" "quantum" "I", .methodLink RX0 41 yX0_firstCost, .instanceMethod yX0_firstCost, .selects RX0 yX0_firstCost yX0_firstCost, .initialized RX0, .code yX0_firstCost cX0_firstCost 1 (some .int), .methodLink RX0 35 yX0_costAt, .instanceMethod yX0_costAt, .selects RX0 yX0_costAt yX0_costAt, .code yX0_costAt cX0_costAt 2 (some .int), .fieldLink RX0 15 "SharedQueues$Queue" "costRow" "[I", .methodLink RX0 31 yX0_cellOf, .instanceMethod yX0_cellOf, .selects RX0 yX0_cellOf yX0_cellOf, .code yX0_cellOf cX0_cellOf 2 (some .int), .fieldLink RX0 45 "SharedQueues$Queue" "start" "I", .methodLink RX0 55 yJ9_floorMod_7cf53, .static yJ9_floorMod_7cf53, .initialized RJ9, .code yJ9_floorMod_7cf53 cJ9_floorMod_7cf53 3 (some .int)] ++ wsX00)
def wsX0_lookInVain : List Cond := .code yX0_lookInVain cX0_lookInVain 3 none :: ([.fieldLink RX0 48 "SharedQueues$Queue" "hasTurn" "Z", .fieldLink RX0 52 "SharedQueues$Queue" "deficit" "I", .fieldLink RX0 18 "SharedQueues$Queue" "quantum" "I"] ++ wsX00)
def wsX0_takeTurn : List Cond := .code yX0_takeTurn cX0_takeTurn 1 none :: ([.fieldLink RX0 48 "SharedQueues$Queue" "hasTurn" "Z", .fieldLink RX0 52 "SharedQueues$Queue" "deficit" "I", .fieldLink RX0 18 "SharedQueues$Queue" "quantum" "I"] ++ wsX00)
def wsX1_init : List Cond := .code yX1_init cX1_init 1 none :: ([.methodLink RX1 3 objectInit, .instanceMethod objectInit, .code objectInit ⟨#[0xb1]⟩ 1 none, .arrayClass .int, .fieldLink RX1 9 "SharedQueues$Ring" "order" "[I"] ++ wsX10)
def wsX1_queueAt : List Cond := .code yX1_queueAt cX1_queueAt 2 (some .int) :: ([.fieldLink RX1 9 "SharedQueues$Ring" "order" "[I"] ++ wsX10)
def wsX1_placeOf : List Cond := .code yX1_placeOf cX1_placeOf 3 (some .int) :: ([.fieldLink RX1 15 "SharedQueues$Ring" "size" "I", .fieldLink RX1 9 "SharedQueues$Ring" "order" "[I"] ++ wsX10)
def wsX1_putAtEnd : List Cond := .code yX1_putAtEnd cX1_putAtEnd 2 none :: ([.fieldLink RX1 15 "SharedQueues$Ring" "size" "I", .fieldLink RX1 9 "SharedQueues$Ring" "order" "[I"] ++ wsX10)
def wsX1_takeOut : List Cond := .code yX1_takeOut cX1_takeOut 3 none :: ([.fieldLink RX1 15 "SharedQueues$Ring" "size" "I", .fieldLink RX1 9 "SharedQueues$Ring" "order" "[I", .methodLink RX1 23 arraycopyName, .native arraycopyName, .static arraycopyName, .initialized "java/lang/System", .methodLink RX1 19 yX1_placeOf, .instanceMethod yX1_placeOf, .selects RX1 yX1_placeOf yX1_placeOf, .initialized RX1, .code yX1_placeOf cX1_placeOf 3 (some .int)] ++ wsX10)
def wsX1_turnBy : List Cond := .code yX1_turnBy cX1_turnBy 4 none :: ([.fieldLink RX1 9 "SharedQueues$Ring" "order" "[I", .methodLink RX1 29 yX1_takeOut, .instanceMethod yX1_takeOut, .selects RX1 yX1_takeOut yX1_takeOut, .initialized RX1, .code yX1_takeOut cX1_takeOut 3 none, .fieldLink RX1 15 "SharedQueues$Ring" "size" "I", .methodLink RX1 23 arraycopyName, .native arraycopyName, .static arraycopyName, .initialized "java/lang/System", .methodLink RX1 19 yX1_placeOf, .instanceMethod yX1_placeOf, .selects RX1 yX1_placeOf yX1_placeOf, .code yX1_placeOf cX1_placeOf 3 (some .int), .methodLink RX1 33 yX1_putAtEnd, .instanceMethod yX1_putAtEnd, .selects RX1 yX1_putAtEnd yX1_putAtEnd, .code yX1_putAtEnd cX1_putAtEnd 2 none] ++ wsX10)
def wsX2_init : List Cond := .code yX2_init cX2_init 2 none :: ([.methodLink RX2 1 objectInit, .instanceMethod objectInit, .code objectInit ⟨#[0xb1]⟩ 1 none, .classLink RX2 9 RX0, .fieldLink RX2 11 "SharedQueues" "queues" "[LSharedQueues$Queue;", .classLink RX2 15 RX1, .fieldLink RX2 17 "SharedQueues" "rings" "[LSharedQueues$Ring;", .instantiable RX0 15, .initialized RX0, .instantiable RX1 2, .initialized RX1, .instanceMethod yX0_init, .code yX0_init cX0_init 1 none, .methodLink RX0 3 objectInit, .arrayClass .int, .fieldLink RX0 9 "SharedQueues$Queue" "wordRow" "[I", .fieldLink RX0 15 "SharedQueues$Queue" "costRow" "[I", .fieldLink RX0 18 "SharedQueues$Queue" "quantum" "I", .fieldLink RX0 22 "SharedQueues$Queue" "quota" "I", .instanceMethod yX1_init, .code yX1_init cX1_init 1 none, .methodLink RX1 3 objectInit, .fieldLink RX1 9 "SharedQueues$Ring" "order" "[I"] ++ wsX20 ++ wsX00 ++ wsX10)
def wsX2_queueOf : List Cond := .code yX2_queueOf cX2_queueOf 2 (some (.object "SharedQueues$Queue")) :: ([.classLink RX2 143 "java/lang/IllegalArgumentException", .initialized "java/lang/IllegalArgumentException", .fieldLink RX2 11 "SharedQueues" "queues" "[LSharedQueues$Queue;"] ++ wsX20 ++ (vx_atS RX2 147 "java/lang/IllegalArgumentException" ["java/lang/RuntimeException", "java/lang/Exception"]).filter goodWord)
def wsX2_checkRange : List Cond := .code yX2_checkRange cX2_checkRange 3 none :: ([.classLink RX2 143 "java/lang/IllegalArgumentException", .initialized "java/lang/IllegalArgumentException"] ++ (vx_atS RX2 147 "java/lang/IllegalArgumentException" ["java/lang/RuntimeException", "java/lang/Exception"]).filter goodWord)
def wsX2_keptCells : List Cond := .code yX2_keptCells cX2_keptCells 6 (some .int) :: ([.fieldLink RX2 11 "SharedQueues" "queues" "[LSharedQueues$Queue;"] ++ wsX20 ++ wsX00)
def wsX2_quota : List Cond := .code yX2_quota cX2_quota 6 (some .int) :: ([.methodLink RX2 23 yX2_queueOf, .instanceMethod yX2_queueOf, .selects RX2 yX2_queueOf yX2_queueOf, .initialized RX2, .code yX2_queueOf cX2_queueOf 2 (some (.object "SharedQueues$Queue")), .classLink RX2 143 "java/lang/IllegalArgumentException", .initialized "java/lang/IllegalArgumentException", .fieldLink RX2 11 "SharedQueues" "queues" "[LSharedQueues$Queue;", .methodLink RX2 27 yX2_checkRange, .static yX2_checkRange, .code yX2_checkRange cX2_checkRange 3 none, .methodLink RX2 31 yX2_keptCells, .instanceMethod yX2_keptCells, .selects RX2 yX2_keptCells yX2_keptCells, .code yX2_keptCells cX2_keptCells 6 (some .int)] ++ wsX00 ++ wsX20 ++ (vx_atS RX2 147 "java/lang/IllegalArgumentException" ["java/lang/RuntimeException", "java/lang/Exception"]).filter goodWord)
def wsX2_changeClass : List Cond := .code yX2_changeClass cX2_changeClass 4 none :: ([.fieldLink RX2 17 "SharedQueues" "rings" "[LSharedQueues$Ring;", .methodLink RX2 193 yX1_takeOut, .instanceMethod yX1_takeOut, .selects RX1 yX1_takeOut yX1_takeOut, .initialized RX1, .code yX1_takeOut cX1_takeOut 3 none, .fieldLink RX1 15 "SharedQueues$Ring" "size" "I", .fieldLink RX1 9 "SharedQueues$Ring" "order" "[I", .methodLink RX1 23 arraycopyName, .native arraycopyName, .static arraycopyName, .initialized "java/lang/System", .methodLink RX1 19 yX1_placeOf, .instanceMethod yX1_placeOf, .selects RX1 yX1_placeOf yX1_placeOf, .code yX1_placeOf cX1_placeOf 3 (some .int), .methodLink RX2 187 yX1_putAtEnd, .instanceMethod yX1_putAtEnd, .selects RX1 yX1_putAtEnd yX1_putAtEnd, .code yX1_putAtEnd cX1_putAtEnd 2 none] ++ wsX00 ++ wsX20 ++ wsX10)
def wsX2_kind_r1 : List Cond := [Cond.methodLink RX2 23 yX2_queueOf, Cond.instanceMethod yX2_queueOf, Cond.selects RX2 yX2_queueOf yX2_queueOf, Cond.initialized RX2, Cond.code yX2_queueOf cX2_queueOf 2 (some (.object "SharedQueues$Queue")), Cond.classLink RX2 143 "java/lang/IllegalArgumentException", Cond.initialized "java/lang/IllegalArgumentException", Cond.fieldLink RX2 11 "SharedQueues" "queues" "[LSharedQueues$Queue;", Cond.methodLink RX2 27 yX2_checkRange, Cond.static yX2_checkRange, Cond.code yX2_checkRange cX2_checkRange 3 none, Cond.methodLink RX2 48 yX2_changeClass, Cond.instanceMethod yX2_changeClass, Cond.selects RX2 yX2_changeClass yX2_changeClass, Cond.code yX2_changeClass cX2_changeClass 4 none, Cond.fieldLink RX2 17 "SharedQueues" "rings" "[LSharedQueues$Ring;", Cond.methodLink RX2 193 yX1_takeOut, Cond.instanceMethod yX1_takeOut, Cond.selects RX1 yX1_takeOut yX1_takeOut, Cond.initialized RX1, Cond.code yX1_takeOut cX1_takeOut 3 none, Cond.fieldLink RX1 15 "SharedQueues$Ring" "size" "I", Cond.fieldLink RX1 9 "SharedQueues$Ring" "order" "[I", Cond.methodLink RX1 23 arraycopyName]
def wsX2_kind_r2 : List Cond := [Cond.native arraycopyName, Cond.static arraycopyName, Cond.initialized "java/lang/System", Cond.methodLink RX1 19 yX1_placeOf, Cond.instanceMethod yX1_placeOf, Cond.selects RX1 yX1_placeOf yX1_placeOf, Cond.code yX1_placeOf cX1_placeOf 3 (some .int), Cond.methodLink RX2 187 yX1_putAtEnd, Cond.instanceMethod yX1_putAtEnd, Cond.selects RX1 yX1_putAtEnd yX1_putAtEnd, Cond.code yX1_putAtEnd cX1_putAtEnd 2 none]
def wsX2_kind : List Cond := .code yX2_kind cX2_kind 5 none :: ((wsX2_kind_r1 ++ wsX2_kind_r2) ++ wsX00 ++ wsX20 ++ wsX10 ++ (vx_atS RX2 147 "java/lang/IllegalArgumentException" ["java/lang/RuntimeException", "java/lang/Exception"]).filter goodWord)
def wsX2_freeCells : List Cond := .code yX2_freeCells cX2_freeCells 6 (some .int) :: ([.fieldLink RX2 11 "SharedQueues" "queues" "[LSharedQueues$Queue;"] ++ wsX20 ++ wsX00)
def wsX2_openCells : List Cond := .code yX2_openCells cX2_openCells 6 (some .int) :: ([.fieldLink RX2 11 "SharedQueues" "queues" "[LSharedQueues$Queue;", .methodLink RX2 177 Lib.Math.min.name, .static Lib.Math.min.name, .initialized "java/lang/Math", .code Lib.Math.min.name Lib.Math.min.code 2 (some .int), .methodLink RX2 161 yX2_freeCells, .instanceMethod yX2_freeCells, .selects RX2 yX2_freeCells yX2_freeCells, .initialized RX2, .code yX2_freeCells cX2_freeCells 6 (some .int), .methodLink RX2 69 yX0_excess, .instanceMethod yX0_excess, .selects RX0 yX0_excess yX0_excess, .initialized RX0, .code yX0_excess cX0_excess 1 (some .int), .fieldLink RX0 25 "SharedQueues$Queue" "count" "I", .fieldLink RX0 28 "SharedQueues$Queue" "kept" "I"] ++ wsX20 ++ wsX00)
def wsX2_hasRoomFor : List Cond := .code yX2_hasRoomFor cX2_hasRoomFor 2 (some .boolean) :: ([.methodLink RX2 161 yX2_freeCells, .instanceMethod yX2_freeCells, .selects RX2 yX2_freeCells yX2_freeCells, .initialized RX2, .code yX2_freeCells cX2_freeCells 6 (some .int), .fieldLink RX2 11 "SharedQueues" "queues" "[LSharedQueues$Queue;", .methodLink RX2 69 yX0_excess, .instanceMethod yX0_excess, .selects RX0 yX0_excess yX0_excess, .initialized RX0, .code yX0_excess cX0_excess 1 (some .int), .fieldLink RX0 25 "SharedQueues$Queue" "count" "I", .fieldLink RX0 28 "SharedQueues$Queue" "kept" "I", .methodLink RX2 164 yX2_openCells, .instanceMethod yX2_openCells, .selects RX2 yX2_openCells yX2_openCells, .code yX2_openCells cX2_openCells 6 (some .int), .methodLink RX2 177 Lib.Math.min.name, .static Lib.Math.min.name, .initialized "java/lang/Math", .code Lib.Math.min.name Lib.Math.min.code 2 (some .int)] ++ wsX20 ++ wsX00)
def wsX2_addItem_r1 : List Cond := [Cond.fieldLink RX2 17 "SharedQueues" "rings" "[LSharedQueues$Ring;", Cond.methodLink RX2 183 yX0_putLast, Cond.instanceMethod yX0_putLast, Cond.selects RX0 yX0_putLast yX0_putLast, Cond.initialized RX0, Cond.code yX0_putLast cX0_putLast 4 none, Cond.fieldLink RX0 25 "SharedQueues$Queue" "count" "I", Cond.fieldLink RX0 9 "SharedQueues$Queue" "wordRow" "[I", Cond.fieldLink RX0 15 "SharedQueues$Queue" "costRow" "[I", Cond.fieldLink RX0 38 "SharedQueues$Queue" "costs" "I", Cond.methodLink RX0 31 yX0_cellOf, Cond.instanceMethod yX0_cellOf, Cond.selects RX0 yX0_cellOf yX0_cellOf, Cond.code yX0_cellOf cX0_cellOf 2 (some .int), Cond.fieldLink RX0 45 "SharedQueues$Queue" "start" "I", Cond.methodLink RX0 55 yJ9_floorMod_7cf53, Cond.static yJ9_floorMod_7cf53, Cond.initialized RJ9, Cond.code yJ9_floorMod_7cf53 cJ9_floorMod_7cf53 3 (some .int), Cond.methodLink RX2 187 yX1_putAtEnd, Cond.instanceMethod yX1_putAtEnd, Cond.selects RX1 yX1_putAtEnd yX1_putAtEnd, Cond.initialized RX1, Cond.code yX1_putAtEnd cX1_putAtEnd 2 none]
def wsX2_addItem_r2 : List Cond := [Cond.fieldLink RX1 15 "SharedQueues$Ring" "size" "I", Cond.fieldLink RX1 9 "SharedQueues$Ring" "order" "[I"]
def wsX2_addItem : List Cond := .code yX2_addItem cX2_addItem 5 none :: ((wsX2_addItem_r1 ++ wsX2_addItem_r2) ++ wsX00 ++ wsX20 ++ wsX10)
def wsX2_queueOfGreatestExcess : List Cond := .code yX2_queueOfGreatestExcess cX2_queueOfGreatestExcess 3 (some .int) :: ([.fieldLink RX2 11 "SharedQueues" "queues" "[LSharedQueues$Queue;", .methodLink RX2 69 yX0_excess, .instanceMethod yX0_excess, .selects RX0 yX0_excess yX0_excess, .initialized RX0, .code yX0_excess cX0_excess 1 (some .int), .fieldLink RX0 25 "SharedQueues$Queue" "count" "I", .fieldLink RX0 28 "SharedQueues$Queue" "kept" "I"] ++ wsX20 ++ wsX00)
def wsX2_leaveRing : List Cond := .code yX2_leaveRing cX2_leaveRing 3 none :: ([.fieldLink RX2 17 "SharedQueues" "rings" "[LSharedQueues$Ring;", .methodLink RX2 193 yX1_takeOut, .instanceMethod yX1_takeOut, .selects RX1 yX1_takeOut yX1_takeOut, .initialized RX1, .code yX1_takeOut cX1_takeOut 3 none, .fieldLink RX1 15 "SharedQueues$Ring" "size" "I", .fieldLink RX1 9 "SharedQueues$Ring" "order" "[I", .methodLink RX1 23 arraycopyName, .native arraycopyName, .static arraycopyName, .initialized "java/lang/System", .methodLink RX1 19 yX1_placeOf, .instanceMethod yX1_placeOf, .selects RX1 yX1_placeOf yX1_placeOf, .code yX1_placeOf cX1_placeOf 3 (some .int)] ++ wsX20 ++ wsX00 ++ wsX10)
def wsX2_loseLastItem_r1 : List Cond := [Cond.fieldLink RX2 11 "SharedQueues" "queues" "[LSharedQueues$Queue;", Cond.fieldLink RX2 170 "SharedQueues" "lostInAll" "I", Cond.methodLink RX2 190 yX0_dropLast, Cond.instanceMethod yX0_dropLast, Cond.selects RX0 yX0_dropLast yX0_dropLast, Cond.initialized RX0, Cond.code yX0_dropLast cX0_dropLast 1 none, Cond.fieldLink RX0 38 "SharedQueues$Queue" "costs" "I", Cond.fieldLink RX0 25 "SharedQueues$Queue" "count" "I", Cond.methodLink RX0 35 yX0_costAt, Cond.instanceMethod yX0_costAt, Cond.selects RX0 yX0_costAt yX0_costAt, Cond.code yX0_costAt cX0_costAt 2 (some .int), Cond.fieldLink RX0 15 "SharedQueues$Queue" "costRow" "[I", Cond.methodLink RX0 31 yX0_cellOf, Cond.instanceMethod yX0_cellOf, Cond.selects RX0 yX0_cellOf yX0_cellOf, Cond.code yX0_cellOf cX0_cellOf 2 (some .int), Cond.fieldLink RX0 45 "SharedQueues$Queue" "start" "I", Cond.methodLink RX0 55 yJ9_floorMod_7cf53, Cond.static yJ9_floorMod_7cf53, Cond.initialized RJ9, Cond.code yJ9_floorMod_7cf53 cJ9_floorMod_7cf53 3 (some .int), Cond.methodLink RX2 114 yX2_leaveRing]
def wsX2_loseLastItem_r2 : List Cond := [Cond.instanceMethod yX2_leaveRing, Cond.selects RX2 yX2_leaveRing yX2_leaveRing, Cond.initialized RX2, Cond.code yX2_leaveRing cX2_leaveRing 3 none, Cond.fieldLink RX2 17 "SharedQueues" "rings" "[LSharedQueues$Ring;", Cond.methodLink RX2 193 yX1_takeOut, Cond.instanceMethod yX1_takeOut, Cond.selects RX1 yX1_takeOut yX1_takeOut, Cond.initialized RX1, Cond.code yX1_takeOut cX1_takeOut 3 none, Cond.fieldLink RX1 15 "SharedQueues$Ring" "size" "I", Cond.fieldLink RX1 9 "SharedQueues$Ring" "order" "[I", Cond.methodLink RX1 23 arraycopyName, Cond.native arraycopyName, Cond.static arraycopyName, Cond.initialized "java/lang/System", Cond.methodLink RX1 19 yX1_placeOf, Cond.instanceMethod yX1_placeOf, Cond.selects RX1 yX1_placeOf yX1_placeOf, Cond.code yX1_placeOf cX1_placeOf 3 (some .int)]
def wsX2_loseLastItem : List Cond := .code yX2_loseLastItem cX2_loseLastItem 3 none :: ((wsX2_loseLastItem_r1 ++ wsX2_loseLastItem_r2) ++ wsX20 ++ wsX00 ++ wsX10)
def wsX2_push_r1 : List Cond := [Cond.fieldLink RX2 55 "SharedQueues" "refusedAsOver" "I", Cond.fieldLink RX2 11 "SharedQueues" "queues" "[LSharedQueues$Queue;", Cond.fieldLink RX2 72 "SharedQueues" "refusedAsFull" "I", Cond.methodLink RX2 23 yX2_queueOf, Cond.instanceMethod yX2_queueOf, Cond.selects RX2 yX2_queueOf yX2_queueOf, Cond.initialized RX2, Cond.code yX2_queueOf cX2_queueOf 2 (some (.object "SharedQueues$Queue")), Cond.classLink RX2 143 "java/lang/IllegalArgumentException", Cond.initialized "java/lang/IllegalArgumentException", Cond.methodLink RX2 27 yX2_checkRange, Cond.static yX2_checkRange, Cond.code yX2_checkRange cX2_checkRange 3 none, Cond.methodLink RX2 58 yX2_hasRoomFor, Cond.instanceMethod yX2_hasRoomFor, Cond.selects RX2 yX2_hasRoomFor yX2_hasRoomFor, Cond.code yX2_hasRoomFor cX2_hasRoomFor 2 (some .boolean), Cond.methodLink RX2 161 yX2_freeCells, Cond.instanceMethod yX2_freeCells, Cond.selects RX2 yX2_freeCells yX2_freeCells, Cond.code yX2_freeCells cX2_freeCells 6 (some .int), Cond.methodLink RX2 69 yX0_excess, Cond.instanceMethod yX0_excess, Cond.selects RX0 yX0_excess yX0_excess]
def wsX2_push_r2 : List Cond := [Cond.initialized RX0, Cond.code yX0_excess cX0_excess 1 (some .int), Cond.fieldLink RX0 25 "SharedQueues$Queue" "count" "I", Cond.fieldLink RX0 28 "SharedQueues$Queue" "kept" "I", Cond.methodLink RX2 164 yX2_openCells, Cond.instanceMethod yX2_openCells, Cond.selects RX2 yX2_openCells yX2_openCells, Cond.code yX2_openCells cX2_openCells 6 (some .int), Cond.methodLink RX2 177 Lib.Math.min.name, Cond.static Lib.Math.min.name, Cond.initialized "java/lang/Math", Cond.code Lib.Math.min.name Lib.Math.min.code 2 (some .int), Cond.methodLink RX2 62 yX2_addItem, Cond.instanceMethod yX2_addItem, Cond.selects RX2 yX2_addItem yX2_addItem, Cond.code yX2_addItem cX2_addItem 5 none, Cond.fieldLink RX2 17 "SharedQueues" "rings" "[LSharedQueues$Ring;", Cond.methodLink RX2 183 yX0_putLast, Cond.instanceMethod yX0_putLast, Cond.selects RX0 yX0_putLast yX0_putLast, Cond.code yX0_putLast cX0_putLast 4 none, Cond.fieldLink RX0 9 "SharedQueues$Queue" "wordRow" "[I", Cond.fieldLink RX0 15 "SharedQueues$Queue" "costRow" "[I", Cond.fieldLink RX0 38 "SharedQueues$Queue" "costs" "I"]
def wsX2_push_r3 : List Cond := [Cond.methodLink RX0 31 yX0_cellOf, Cond.instanceMethod yX0_cellOf, Cond.selects RX0 yX0_cellOf yX0_cellOf, Cond.code yX0_cellOf cX0_cellOf 2 (some .int), Cond.fieldLink RX0 45 "SharedQueues$Queue" "start" "I", Cond.methodLink RX0 55 yJ9_floorMod_7cf53, Cond.static yJ9_floorMod_7cf53, Cond.initialized RJ9, Cond.code yJ9_floorMod_7cf53 cJ9_floorMod_7cf53 3 (some .int), Cond.methodLink RX2 187 yX1_putAtEnd, Cond.instanceMethod yX1_putAtEnd, Cond.selects RX1 yX1_putAtEnd yX1_putAtEnd, Cond.initialized RX1, Cond.code yX1_putAtEnd cX1_putAtEnd 2 none, Cond.fieldLink RX1 15 "SharedQueues$Ring" "size" "I", Cond.fieldLink RX1 9 "SharedQueues$Ring" "order" "[I", Cond.methodLink RX2 66 yX2_queueOfGreatestExcess, Cond.instanceMethod yX2_queueOfGreatestExcess, Cond.selects RX2 yX2_queueOfGreatestExcess yX2_queueOfGreatestExcess, Cond.code yX2_queueOfGreatestExcess cX2_queueOfGreatestExcess 3 (some .int), Cond.methodLink RX2 75 yX2_loseLastItem, Cond.instanceMethod yX2_loseLastItem, Cond.selects RX2 yX2_loseLastItem yX2_loseLastItem, Cond.code yX2_loseLastItem cX2_loseLastItem 3 none]
def wsX2_push_r4 : List Cond := [Cond.fieldLink RX2 170 "SharedQueues" "lostInAll" "I", Cond.methodLink RX2 190 yX0_dropLast, Cond.instanceMethod yX0_dropLast, Cond.selects RX0 yX0_dropLast yX0_dropLast, Cond.code yX0_dropLast cX0_dropLast 1 none, Cond.methodLink RX0 35 yX0_costAt, Cond.instanceMethod yX0_costAt, Cond.selects RX0 yX0_costAt yX0_costAt, Cond.code yX0_costAt cX0_costAt 2 (some .int), Cond.methodLink RX2 114 yX2_leaveRing, Cond.instanceMethod yX2_leaveRing, Cond.selects RX2 yX2_leaveRing yX2_leaveRing, Cond.code yX2_leaveRing cX2_leaveRing 3 none, Cond.methodLink RX2 193 yX1_takeOut, Cond.instanceMethod yX1_takeOut, Cond.selects RX1 yX1_takeOut yX1_takeOut, Cond.code yX1_takeOut cX1_takeOut 3 none, Cond.methodLink RX1 23 arraycopyName, Cond.native arraycopyName, Cond.static arraycopyName, Cond.initialized "java/lang/System", Cond.methodLink RX1 19 yX1_placeOf, Cond.instanceMethod yX1_placeOf, Cond.selects RX1 yX1_placeOf yX1_placeOf]
def wsX2_push_r5 : List Cond := [Cond.code yX1_placeOf cX1_placeOf 3 (some .int)]
def wsX2_push : List Cond := .code yX2_push cX2_push 6 (some .int) :: ((wsX2_push_r1 ++ (wsX2_push_r2 ++ (wsX2_push_r3 ++ (wsX2_push_r4 ++ wsX2_push_r5)))) ++ wsX00 ++ wsX20 ++ wsX10 ++ (vx_atS RX2 147 "java/lang/IllegalArgumentException" ["java/lang/RuntimeException", "java/lang/Exception"]).filter goodWord)
def wsX2_firstRingWithQueues : List Cond := .code yX2_firstRingWithQueues cX2_firstRingWithQueues 5 (some (.object "SharedQueues$Ring")) :: ([.fieldLink RX2 17 "SharedQueues" "rings" "[LSharedQueues$Ring;"] ++ wsX20 ++ wsX10)
def wsX2_placeServedNext_r1 : List Cond := [Cond.fieldLink RX2 11 "SharedQueues" "queues" "[LSharedQueues$Queue;", Cond.methodLink RX2 87 yX1_queueAt, Cond.instanceMethod yX1_queueAt, Cond.selects RX1 yX1_queueAt yX1_queueAt, Cond.initialized RX1, Cond.code yX1_queueAt cX1_queueAt 2 (some .int), Cond.fieldLink RX1 9 "SharedQueues$Ring" "order" "[I", Cond.methodLink RX2 199 yX0_looksInVain, Cond.instanceMethod yX0_looksInVain, Cond.selects RX0 yX0_looksInVain yX0_looksInVain, Cond.initialized RX0, Cond.code yX0_looksInVain cX0_looksInVain 3 (some .int), Cond.fieldLink RX0 48 "SharedQueues$Queue" "hasTurn" "Z", Cond.fieldLink RX0 52 "SharedQueues$Queue" "deficit" "I", Cond.fieldLink RX0 18 "SharedQueues$Queue" "quantum" "I", Cond.methodLink RX0 41 yX0_firstCost, Cond.instanceMethod yX0_firstCost, Cond.selects RX0 yX0_firstCost yX0_firstCost, Cond.code yX0_firstCost cX0_firstCost 1 (some .int), Cond.methodLink RX0 35 yX0_costAt, Cond.instanceMethod yX0_costAt, Cond.selects RX0 yX0_costAt yX0_costAt, Cond.code yX0_costAt cX0_costAt 2 (some .int), Cond.fieldLink RX0 15 "SharedQueues$Queue" "costRow" "[I"]
def wsX2_placeServedNext_r2 : List Cond := [Cond.methodLink RX0 31 yX0_cellOf, Cond.instanceMethod yX0_cellOf, Cond.selects RX0 yX0_cellOf yX0_cellOf, Cond.code yX0_cellOf cX0_cellOf 2 (some .int), Cond.fieldLink RX0 45 "SharedQueues$Queue" "start" "I", Cond.methodLink RX0 55 yJ9_floorMod_7cf53, Cond.static yJ9_floorMod_7cf53, Cond.initialized RJ9, Cond.code yJ9_floorMod_7cf53 cJ9_floorMod_7cf53 3 (some .int)]
def wsX2_placeServedNext : List Cond := .code yX2_placeServedNext cX2_placeServedNext 6 (some .int) :: ((wsX2_placeServedNext_r1 ++ wsX2_placeServedNext_r2) ++ wsX20 ++ wsX10 ++ wsX00)
def wsX2_bringToFront_r1 : List Cond := [Cond.fieldLink RX2 11 "SharedQueues" "queues" "[LSharedQueues$Queue;", Cond.methodLink RX2 87 yX1_queueAt, Cond.instanceMethod yX1_queueAt, Cond.selects RX1 yX1_queueAt yX1_queueAt, Cond.initialized RX1, Cond.code yX1_queueAt cX1_queueAt 2 (some .int), Cond.fieldLink RX1 9 "SharedQueues$Ring" "order" "[I", Cond.methodLink RX2 199 yX0_looksInVain, Cond.instanceMethod yX0_looksInVain, Cond.selects RX0 yX0_looksInVain yX0_looksInVain, Cond.initialized RX0, Cond.code yX0_looksInVain cX0_looksInVain 3 (some .int), Cond.fieldLink RX0 48 "SharedQueues$Queue" "hasTurn" "Z", Cond.fieldLink RX0 52 "SharedQueues$Queue" "deficit" "I", Cond.fieldLink RX0 18 "SharedQueues$Queue" "quantum" "I", Cond.methodLink RX0 41 yX0_firstCost, Cond.instanceMethod yX0_firstCost, Cond.selects RX0 yX0_firstCost yX0_firstCost, Cond.code yX0_firstCost cX0_firstCost 1 (some .int), Cond.methodLink RX0 35 yX0_costAt, Cond.instanceMethod yX0_costAt, Cond.selects RX0 yX0_costAt yX0_costAt, Cond.code yX0_costAt cX0_costAt 2 (some .int), Cond.fieldLink RX0 15 "SharedQueues$Queue" "costRow" "[I"]
def wsX2_bringToFront_r2 : List Cond := [Cond.methodLink RX0 31 yX0_cellOf, Cond.instanceMethod yX0_cellOf, Cond.selects RX0 yX0_cellOf yX0_cellOf, Cond.code yX0_cellOf cX0_cellOf 2 (some .int), Cond.fieldLink RX0 45 "SharedQueues$Queue" "start" "I", Cond.methodLink RX0 55 yJ9_floorMod_7cf53, Cond.static yJ9_floorMod_7cf53, Cond.initialized RJ9, Cond.code yJ9_floorMod_7cf53 cJ9_floorMod_7cf53 3 (some .int), Cond.methodLink RX2 202 yX0_lookInVain, Cond.instanceMethod yX0_lookInVain, Cond.selects RX0 yX0_lookInVain yX0_lookInVain, Cond.code yX0_lookInVain cX0_lookInVain 3 none, Cond.methodLink RX2 205 yX1_turnBy, Cond.instanceMethod yX1_turnBy, Cond.selects RX1 yX1_turnBy yX1_turnBy, Cond.code yX1_turnBy cX1_turnBy 4 none, Cond.methodLink RX1 29 yX1_takeOut, Cond.instanceMethod yX1_takeOut, Cond.selects RX1 yX1_takeOut yX1_takeOut, Cond.code yX1_takeOut cX1_takeOut 3 none, Cond.fieldLink RX1 15 "SharedQueues$Ring" "size" "I", Cond.methodLink RX1 23 arraycopyName, Cond.native arraycopyName]
def wsX2_bringToFront_r3 : List Cond := [Cond.static arraycopyName, Cond.initialized "java/lang/System", Cond.methodLink RX1 19 yX1_placeOf, Cond.instanceMethod yX1_placeOf, Cond.selects RX1 yX1_placeOf yX1_placeOf, Cond.code yX1_placeOf cX1_placeOf 3 (some .int), Cond.methodLink RX1 33 yX1_putAtEnd, Cond.instanceMethod yX1_putAtEnd, Cond.selects RX1 yX1_putAtEnd yX1_putAtEnd, Cond.code yX1_putAtEnd cX1_putAtEnd 2 none]
def wsX2_bringToFront : List Cond := .code yX2_bringToFront cX2_bringToFront 5 none :: ((wsX2_bringToFront_r1 ++ (wsX2_bringToFront_r2 ++ wsX2_bringToFront_r3)) ++ wsX20 ++ wsX10 ++ wsX00)
def wsX2_serveFirstItem_r1 : List Cond := [Cond.fieldLink RX2 11 "SharedQueues" "queues" "[LSharedQueues$Queue;", Cond.fieldLink RX2 98 "SharedQueues" "lastWord" "I", Cond.fieldLink RX2 167 "SharedQueues" "servedInAll" "I", Cond.methodLink RX2 208 yX0_takeTurn, Cond.instanceMethod yX0_takeTurn, Cond.selects RX0 yX0_takeTurn yX0_takeTurn, Cond.initialized RX0, Cond.code yX0_takeTurn cX0_takeTurn 1 none, Cond.fieldLink RX0 48 "SharedQueues$Queue" "hasTurn" "Z", Cond.fieldLink RX0 52 "SharedQueues$Queue" "deficit" "I", Cond.fieldLink RX0 18 "SharedQueues$Queue" "quantum" "I", Cond.methodLink RX2 105 yX0_firstCost, Cond.instanceMethod yX0_firstCost, Cond.selects RX0 yX0_firstCost yX0_firstCost, Cond.code yX0_firstCost cX0_firstCost 1 (some .int), Cond.methodLink RX0 35 yX0_costAt, Cond.instanceMethod yX0_costAt, Cond.selects RX0 yX0_costAt yX0_costAt, Cond.code yX0_costAt cX0_costAt 2 (some .int), Cond.fieldLink RX0 15 "SharedQueues$Queue" "costRow" "[I", Cond.methodLink RX0 31 yX0_cellOf, Cond.instanceMethod yX0_cellOf, Cond.selects RX0 yX0_cellOf yX0_cellOf, Cond.code yX0_cellOf cX0_cellOf 2 (some .int)]
def wsX2_serveFirstItem_r2 : List Cond := [Cond.fieldLink RX0 45 "SharedQueues$Queue" "start" "I", Cond.methodLink RX0 55 yJ9_floorMod_7cf53, Cond.static yJ9_floorMod_7cf53, Cond.initialized RJ9, Cond.code yJ9_floorMod_7cf53 cJ9_floorMod_7cf53 3 (some .int), Cond.methodLink RX2 155 yX0_wordAt, Cond.instanceMethod yX0_wordAt, Cond.selects RX0 yX0_wordAt yX0_wordAt, Cond.code yX0_wordAt cX0_wordAt 2 (some .int), Cond.fieldLink RX0 9 "SharedQueues$Queue" "wordRow" "[I", Cond.methodLink RX2 211 yX0_dropFirst, Cond.instanceMethod yX0_dropFirst, Cond.selects RX0 yX0_dropFirst yX0_dropFirst, Cond.code yX0_dropFirst cX0_dropFirst 1 none, Cond.fieldLink RX0 38 "SharedQueues$Queue" "costs" "I", Cond.fieldLink RX0 25 "SharedQueues$Queue" "count" "I", Cond.methodLink RX0 41 yX0_firstCost, Cond.methodLink RX2 114 yX2_leaveRing, Cond.instanceMethod yX2_leaveRing, Cond.selects RX2 yX2_leaveRing yX2_leaveRing, Cond.initialized RX2, Cond.code yX2_leaveRing cX2_leaveRing 3 none, Cond.fieldLink RX2 17 "SharedQueues" "rings" "[LSharedQueues$Ring;", Cond.methodLink RX2 193 yX1_takeOut]
def wsX2_serveFirstItem_r3 : List Cond := [Cond.instanceMethod yX1_takeOut, Cond.selects RX1 yX1_takeOut yX1_takeOut, Cond.initialized RX1, Cond.code yX1_takeOut cX1_takeOut 3 none, Cond.fieldLink RX1 15 "SharedQueues$Ring" "size" "I", Cond.fieldLink RX1 9 "SharedQueues$Ring" "order" "[I", Cond.methodLink RX1 23 arraycopyName, Cond.native arraycopyName, Cond.static arraycopyName, Cond.initialized "java/lang/System", Cond.methodLink RX1 19 yX1_placeOf, Cond.instanceMethod yX1_placeOf, Cond.selects RX1 yX1_placeOf yX1_placeOf, Cond.code yX1_placeOf cX1_placeOf 3 (some .int)]
def wsX2_serveFirstItem : List Cond := .code yX2_serveFirstItem cX2_serveFirstItem 4 none :: ((wsX2_serveFirstItem_r1 ++ (wsX2_serveFirstItem_r2 ++ wsX2_serveFirstItem_r3)) ++ wsX20 ++ wsX00 ++ wsX10)
def wsX2_serve_r1 : List Cond := [Cond.methodLink RX2 79 yX2_firstRingWithQueues, Cond.instanceMethod yX2_firstRingWithQueues, Cond.selects RX2 yX2_firstRingWithQueues yX2_firstRingWithQueues, Cond.initialized RX2, Cond.code yX2_firstRingWithQueues cX2_firstRingWithQueues 5 (some (.object "SharedQueues$Ring")), Cond.fieldLink RX2 17 "SharedQueues" "rings" "[LSharedQueues$Ring;", Cond.methodLink RX2 83 yX2_placeServedNext, Cond.instanceMethod yX2_placeServedNext, Cond.selects RX2 yX2_placeServedNext yX2_placeServedNext, Cond.code yX2_placeServedNext cX2_placeServedNext 6 (some .int), Cond.fieldLink RX2 11 "SharedQueues" "queues" "[LSharedQueues$Queue;", Cond.methodLink RX2 87 yX1_queueAt, Cond.instanceMethod yX1_queueAt, Cond.selects RX1 yX1_queueAt yX1_queueAt, Cond.initialized RX1, Cond.code yX1_queueAt cX1_queueAt 2 (some .int), Cond.fieldLink RX1 9 "SharedQueues$Ring" "order" "[I", Cond.methodLink RX2 199 yX0_looksInVain, Cond.instanceMethod yX0_looksInVain, Cond.selects RX0 yX0_looksInVain yX0_looksInVain, Cond.initialized RX0, Cond.code yX0_looksInVain cX0_looksInVain 3 (some .int), Cond.fieldLink RX0 48 "SharedQueues$Queue" "hasTurn" "Z", Cond.fieldLink RX0 52 "SharedQueues$Queue" "deficit" "I"]
def wsX2_serve_r2 : List Cond := [Cond.fieldLink RX0 18 "SharedQueues$Queue" "quantum" "I", Cond.methodLink RX0 41 yX0_firstCost, Cond.instanceMethod yX0_firstCost, Cond.selects RX0 yX0_firstCost yX0_firstCost, Cond.code yX0_firstCost cX0_firstCost 1 (some .int), Cond.methodLink RX0 35 yX0_costAt, Cond.instanceMethod yX0_costAt, Cond.selects RX0 yX0_costAt yX0_costAt, Cond.code yX0_costAt cX0_costAt 2 (some .int), Cond.fieldLink RX0 15 "SharedQueues$Queue" "costRow" "[I", Cond.methodLink RX0 31 yX0_cellOf, Cond.instanceMethod yX0_cellOf, Cond.selects RX0 yX0_cellOf yX0_cellOf, Cond.code yX0_cellOf cX0_cellOf 2 (some .int), Cond.fieldLink RX0 45 "SharedQueues$Queue" "start" "I", Cond.methodLink RX0 55 yJ9_floorMod_7cf53, Cond.static yJ9_floorMod_7cf53, Cond.initialized RJ9, Cond.code yJ9_floorMod_7cf53 cJ9_floorMod_7cf53 3 (some .int), Cond.methodLink RX2 91 yX2_bringToFront, Cond.instanceMethod yX2_bringToFront, Cond.selects RX2 yX2_bringToFront yX2_bringToFront, Cond.code yX2_bringToFront cX2_bringToFront 5 none, Cond.methodLink RX2 202 yX0_lookInVain]
def wsX2_serve_r3 : List Cond := [Cond.instanceMethod yX0_lookInVain, Cond.selects RX0 yX0_lookInVain yX0_lookInVain, Cond.code yX0_lookInVain cX0_lookInVain 3 none, Cond.methodLink RX2 205 yX1_turnBy, Cond.instanceMethod yX1_turnBy, Cond.selects RX1 yX1_turnBy yX1_turnBy, Cond.code yX1_turnBy cX1_turnBy 4 none, Cond.methodLink RX1 29 yX1_takeOut, Cond.instanceMethod yX1_takeOut, Cond.selects RX1 yX1_takeOut yX1_takeOut, Cond.code yX1_takeOut cX1_takeOut 3 none, Cond.fieldLink RX1 15 "SharedQueues$Ring" "size" "I", Cond.methodLink RX1 23 arraycopyName, Cond.native arraycopyName, Cond.static arraycopyName, Cond.initialized "java/lang/System", Cond.methodLink RX1 19 yX1_placeOf, Cond.instanceMethod yX1_placeOf, Cond.selects RX1 yX1_placeOf yX1_placeOf, Cond.code yX1_placeOf cX1_placeOf 3 (some .int), Cond.methodLink RX1 33 yX1_putAtEnd, Cond.instanceMethod yX1_putAtEnd, Cond.selects RX1 yX1_putAtEnd yX1_putAtEnd, Cond.code yX1_putAtEnd cX1_putAtEnd 2 none]
def wsX2_serve_r4 : List Cond := [Cond.methodLink RX2 95 yX2_serveFirstItem, Cond.instanceMethod yX2_serveFirstItem, Cond.selects RX2 yX2_serveFirstItem yX2_serveFirstItem, Cond.code yX2_serveFirstItem cX2_serveFirstItem 4 none, Cond.fieldLink RX2 98 "SharedQueues" "lastWord" "I", Cond.fieldLink RX2 167 "SharedQueues" "servedInAll" "I", Cond.methodLink RX2 208 yX0_takeTurn, Cond.instanceMethod yX0_takeTurn, Cond.selects RX0 yX0_takeTurn yX0_takeTurn, Cond.code yX0_takeTurn cX0_takeTurn 1 none, Cond.methodLink RX2 105 yX0_firstCost, Cond.methodLink RX2 155 yX0_wordAt, Cond.instanceMethod yX0_wordAt, Cond.selects RX0 yX0_wordAt yX0_wordAt, Cond.code yX0_wordAt cX0_wordAt 2 (some .int), Cond.fieldLink RX0 9 "SharedQueues$Queue" "wordRow" "[I", Cond.methodLink RX2 211 yX0_dropFirst, Cond.instanceMethod yX0_dropFirst, Cond.selects RX0 yX0_dropFirst yX0_dropFirst, Cond.code yX0_dropFirst cX0_dropFirst 1 none, Cond.fieldLink RX0 38 "SharedQueues$Queue" "costs" "I", Cond.fieldLink RX0 25 "SharedQueues$Queue" "count" "I", Cond.methodLink RX2 114 yX2_leaveRing, Cond.instanceMethod yX2_leaveRing]
def wsX2_serve_r5 : List Cond := [Cond.selects RX2 yX2_leaveRing yX2_leaveRing, Cond.code yX2_leaveRing cX2_leaveRing 3 none, Cond.methodLink RX2 193 yX1_takeOut]
def wsX2_serve : List Cond := .code yX2_serve cX2_serve 4 (some .int) :: ((wsX2_serve_r1 ++ (wsX2_serve_r2 ++ (wsX2_serve_r3 ++ (wsX2_serve_r4 ++ wsX2_serve_r5)))) ++ wsX20 ++ wsX10 ++ wsX00)
def wsX2_next_r1 : List Cond := [Cond.methodLink RX2 79 yX2_firstRingWithQueues, Cond.instanceMethod yX2_firstRingWithQueues, Cond.selects RX2 yX2_firstRingWithQueues yX2_firstRingWithQueues, Cond.initialized RX2, Cond.code yX2_firstRingWithQueues cX2_firstRingWithQueues 5 (some (.object "SharedQueues$Ring")), Cond.fieldLink RX2 17 "SharedQueues" "rings" "[LSharedQueues$Ring;", Cond.methodLink RX2 83 yX2_placeServedNext, Cond.instanceMethod yX2_placeServedNext, Cond.selects RX2 yX2_placeServedNext yX2_placeServedNext, Cond.code yX2_placeServedNext cX2_placeServedNext 6 (some .int), Cond.fieldLink RX2 11 "SharedQueues" "queues" "[LSharedQueues$Queue;", Cond.methodLink RX2 87 yX1_queueAt, Cond.instanceMethod yX1_queueAt, Cond.selects RX1 yX1_queueAt yX1_queueAt, Cond.initialized RX1, Cond.code yX1_queueAt cX1_queueAt 2 (some .int), Cond.fieldLink RX1 9 "SharedQueues$Ring" "order" "[I", Cond.methodLink RX2 199 yX0_looksInVain, Cond.instanceMethod yX0_looksInVain, Cond.selects RX0 yX0_looksInVain yX0_looksInVain, Cond.initialized RX0, Cond.code yX0_looksInVain cX0_looksInVain 3 (some .int), Cond.fieldLink RX0 48 "SharedQueues$Queue" "hasTurn" "Z", Cond.fieldLink RX0 52 "SharedQueues$Queue" "deficit" "I"]
def wsX2_next_r2 : List Cond := [Cond.fieldLink RX0 18 "SharedQueues$Queue" "quantum" "I", Cond.methodLink RX0 41 yX0_firstCost, Cond.instanceMethod yX0_firstCost, Cond.selects RX0 yX0_firstCost yX0_firstCost, Cond.code yX0_firstCost cX0_firstCost 1 (some .int), Cond.methodLink RX0 35 yX0_costAt, Cond.instanceMethod yX0_costAt, Cond.selects RX0 yX0_costAt yX0_costAt, Cond.code yX0_costAt cX0_costAt 2 (some .int), Cond.fieldLink RX0 15 "SharedQueues$Queue" "costRow" "[I", Cond.methodLink RX0 31 yX0_cellOf, Cond.instanceMethod yX0_cellOf, Cond.selects RX0 yX0_cellOf yX0_cellOf, Cond.code yX0_cellOf cX0_cellOf 2 (some .int), Cond.fieldLink RX0 45 "SharedQueues$Queue" "start" "I", Cond.methodLink RX0 55 yJ9_floorMod_7cf53, Cond.static yJ9_floorMod_7cf53, Cond.initialized RJ9, Cond.code yJ9_floorMod_7cf53 cJ9_floorMod_7cf53 3 (some .int)]
def wsX2_next : List Cond := .code yX2_next cX2_next 2 (some .int) :: ((wsX2_next_r1 ++ wsX2_next_r2) ++ wsX20 ++ wsX10 ++ wsX00)
def wsX2_word : List Cond := .code yX2_word cX2_word 1 (some .int) :: ([.fieldLink RX2 98 "SharedQueues" "lastWord" "I"] ++ wsX20)
def wsX2_serveUpTo_r1 : List Cond := [Cond.constant RX2 101 (100000), Cond.fieldLink RX2 11 "SharedQueues" "queues" "[LSharedQueues$Queue;", Cond.methodLink RX2 27 yX2_checkRange, Cond.static yX2_checkRange, Cond.initialized RX2, Cond.code yX2_checkRange cX2_checkRange 3 none, Cond.classLink RX2 143 "java/lang/IllegalArgumentException", Cond.initialized "java/lang/IllegalArgumentException", Cond.methodLink RX2 102 yX2_next, Cond.instanceMethod yX2_next, Cond.selects RX2 yX2_next yX2_next, Cond.code yX2_next cX2_next 2 (some .int), Cond.methodLink RX2 79 yX2_firstRingWithQueues, Cond.instanceMethod yX2_firstRingWithQueues, Cond.selects RX2 yX2_firstRingWithQueues yX2_firstRingWithQueues, Cond.code yX2_firstRingWithQueues cX2_firstRingWithQueues 5 (some (.object "SharedQueues$Ring")), Cond.fieldLink RX2 17 "SharedQueues" "rings" "[LSharedQueues$Ring;", Cond.methodLink RX2 83 yX2_placeServedNext, Cond.instanceMethod yX2_placeServedNext, Cond.selects RX2 yX2_placeServedNext yX2_placeServedNext, Cond.code yX2_placeServedNext cX2_placeServedNext 6 (some .int), Cond.methodLink RX2 87 yX1_queueAt, Cond.instanceMethod yX1_queueAt, Cond.selects RX1 yX1_queueAt yX1_queueAt]
def wsX2_serveUpTo_r2 : List Cond := [Cond.initialized RX1, Cond.code yX1_queueAt cX1_queueAt 2 (some .int), Cond.fieldLink RX1 9 "SharedQueues$Ring" "order" "[I", Cond.methodLink RX2 199 yX0_looksInVain, Cond.instanceMethod yX0_looksInVain, Cond.selects RX0 yX0_looksInVain yX0_looksInVain, Cond.initialized RX0, Cond.code yX0_looksInVain cX0_looksInVain 3 (some .int), Cond.fieldLink RX0 48 "SharedQueues$Queue" "hasTurn" "Z", Cond.fieldLink RX0 52 "SharedQueues$Queue" "deficit" "I", Cond.fieldLink RX0 18 "SharedQueues$Queue" "quantum" "I", Cond.methodLink RX0 41 yX0_firstCost, Cond.instanceMethod yX0_firstCost, Cond.selects RX0 yX0_firstCost yX0_firstCost, Cond.code yX0_firstCost cX0_firstCost 1 (some .int), Cond.methodLink RX0 35 yX0_costAt, Cond.instanceMethod yX0_costAt, Cond.selects RX0 yX0_costAt yX0_costAt, Cond.code yX0_costAt cX0_costAt 2 (some .int), Cond.fieldLink RX0 15 "SharedQueues$Queue" "costRow" "[I", Cond.methodLink RX0 31 yX0_cellOf, Cond.instanceMethod yX0_cellOf, Cond.selects RX0 yX0_cellOf yX0_cellOf, Cond.code yX0_cellOf cX0_cellOf 2 (some .int)]
def wsX2_serveUpTo_r3 : List Cond := [Cond.fieldLink RX0 45 "SharedQueues$Queue" "start" "I", Cond.methodLink RX0 55 yJ9_floorMod_7cf53, Cond.static yJ9_floorMod_7cf53, Cond.initialized RJ9, Cond.code yJ9_floorMod_7cf53 cJ9_floorMod_7cf53 3 (some .int), Cond.methodLink RX2 105 yX0_firstCost, Cond.methodLink RX2 108 yX2_serve, Cond.instanceMethod yX2_serve, Cond.selects RX2 yX2_serve yX2_serve, Cond.code yX2_serve cX2_serve 4 (some .int), Cond.methodLink RX2 91 yX2_bringToFront, Cond.instanceMethod yX2_bringToFront, Cond.selects RX2 yX2_bringToFront yX2_bringToFront, Cond.code yX2_bringToFront cX2_bringToFront 5 none, Cond.methodLink RX2 202 yX0_lookInVain, Cond.instanceMethod yX0_lookInVain, Cond.selects RX0 yX0_lookInVain yX0_lookInVain, Cond.code yX0_lookInVain cX0_lookInVain 3 none, Cond.methodLink RX2 205 yX1_turnBy, Cond.instanceMethod yX1_turnBy, Cond.selects RX1 yX1_turnBy yX1_turnBy, Cond.code yX1_turnBy cX1_turnBy 4 none, Cond.methodLink RX1 29 yX1_takeOut, Cond.instanceMethod yX1_takeOut]
def wsX2_serveUpTo_r4 : List Cond := [Cond.selects RX1 yX1_takeOut yX1_takeOut, Cond.code yX1_takeOut cX1_takeOut 3 none, Cond.fieldLink RX1 15 "SharedQueues$Ring" "size" "I", Cond.methodLink RX1 23 arraycopyName, Cond.native arraycopyName, Cond.static arraycopyName, Cond.initialized "java/lang/System", Cond.methodLink RX1 19 yX1_placeOf, Cond.instanceMethod yX1_placeOf, Cond.selects RX1 yX1_placeOf yX1_placeOf, Cond.code yX1_placeOf cX1_placeOf 3 (some .int), Cond.methodLink RX1 33 yX1_putAtEnd, Cond.instanceMethod yX1_putAtEnd, Cond.selects RX1 yX1_putAtEnd yX1_putAtEnd, Cond.code yX1_putAtEnd cX1_putAtEnd 2 none, Cond.methodLink RX2 95 yX2_serveFirstItem, Cond.instanceMethod yX2_serveFirstItem, Cond.selects RX2 yX2_serveFirstItem yX2_serveFirstItem, Cond.code yX2_serveFirstItem cX2_serveFirstItem 4 none, Cond.fieldLink RX2 98 "SharedQueues" "lastWord" "I", Cond.fieldLink RX2 167 "SharedQueues" "servedInAll" "I", Cond.methodLink RX2 208 yX0_takeTurn, Cond.instanceMethod yX0_takeTurn, Cond.selects RX0 yX0_takeTurn yX0_takeTurn]
def wsX2_serveUpTo_r5 : List Cond := [Cond.code yX0_takeTurn cX0_takeTurn 1 none, Cond.methodLink RX2 155 yX0_wordAt, Cond.instanceMethod yX0_wordAt, Cond.selects RX0 yX0_wordAt yX0_wordAt, Cond.code yX0_wordAt cX0_wordAt 2 (some .int), Cond.fieldLink RX0 9 "SharedQueues$Queue" "wordRow" "[I", Cond.methodLink RX2 211 yX0_dropFirst, Cond.instanceMethod yX0_dropFirst, Cond.selects RX0 yX0_dropFirst yX0_dropFirst, Cond.code yX0_dropFirst cX0_dropFirst 1 none, Cond.fieldLink RX0 38 "SharedQueues$Queue" "costs" "I", Cond.fieldLink RX0 25 "SharedQueues$Queue" "count" "I", Cond.methodLink RX2 114 yX2_leaveRing, Cond.instanceMethod yX2_leaveRing, Cond.selects RX2 yX2_leaveRing yX2_leaveRing, Cond.code yX2_leaveRing cX2_leaveRing 3 none, Cond.methodLink RX2 193 yX1_takeOut]
def wsX2_serveUpTo : List Cond := .code yX2_serveUpTo cX2_serveUpTo 6 (some .int) :: ((wsX2_serveUpTo_r1 ++ (wsX2_serveUpTo_r2 ++ (wsX2_serveUpTo_r3 ++ (wsX2_serveUpTo_r4 ++ wsX2_serveUpTo_r5)))) ++ wsX20 ++ wsX10 ++ wsX00 ++ (vx_atS RX2 147 "java/lang/IllegalArgumentException" ["java/lang/RuntimeException", "java/lang/Exception"]).filter goodWord)
def wsX2_empty_r1 : List Cond := [Cond.methodLink RX2 23 yX2_queueOf, Cond.instanceMethod yX2_queueOf, Cond.selects RX2 yX2_queueOf yX2_queueOf, Cond.initialized RX2, Cond.code yX2_queueOf cX2_queueOf 2 (some (.object "SharedQueues$Queue")), Cond.classLink RX2 143 "java/lang/IllegalArgumentException", Cond.initialized "java/lang/IllegalArgumentException", Cond.fieldLink RX2 11 "SharedQueues" "queues" "[LSharedQueues$Queue;", Cond.methodLink RX2 111 yX0_dropAll, Cond.instanceMethod yX0_dropAll, Cond.selects RX0 yX0_dropAll yX0_dropAll, Cond.initialized RX0, Cond.code yX0_dropAll cX0_dropAll 1 none, Cond.fieldLink RX0 38 "SharedQueues$Queue" "costs" "I", Cond.fieldLink RX0 25 "SharedQueues$Queue" "count" "I", Cond.methodLink RX2 114 yX2_leaveRing, Cond.instanceMethod yX2_leaveRing, Cond.selects RX2 yX2_leaveRing yX2_leaveRing, Cond.code yX2_leaveRing cX2_leaveRing 3 none, Cond.fieldLink RX2 17 "SharedQueues" "rings" "[LSharedQueues$Ring;", Cond.methodLink RX2 193 yX1_takeOut, Cond.instanceMethod yX1_takeOut, Cond.selects RX1 yX1_takeOut yX1_takeOut, Cond.initialized RX1]
def wsX2_empty_r2 : List Cond := [Cond.code yX1_takeOut cX1_takeOut 3 none, Cond.fieldLink RX1 15 "SharedQueues$Ring" "size" "I", Cond.fieldLink RX1 9 "SharedQueues$Ring" "order" "[I", Cond.methodLink RX1 23 arraycopyName, Cond.native arraycopyName, Cond.static arraycopyName, Cond.initialized "java/lang/System", Cond.methodLink RX1 19 yX1_placeOf, Cond.instanceMethod yX1_placeOf, Cond.selects RX1 yX1_placeOf yX1_placeOf, Cond.code yX1_placeOf cX1_placeOf 3 (some .int)]
def wsX2_empty : List Cond := .code yX2_empty cX2_empty 4 (some .int) :: ((wsX2_empty_r1 ++ wsX2_empty_r2) ++ wsX00 ++ wsX20 ++ wsX10 ++ (vx_atS RX2 147 "java/lang/IllegalArgumentException" ["java/lang/RuntimeException", "java/lang/Exception"]).filter goodWord)
def wsX2_told : List Cond := .code yX2_told cX2_told 4 (some .int) :: ([.classLink RX2 143 "java/lang/IllegalArgumentException", .initialized "java/lang/IllegalArgumentException", .fieldLink RX2 17 "SharedQueues" "rings" "[LSharedQueues$Ring;", .methodLink RX2 23 yX2_queueOf, .instanceMethod yX2_queueOf, .selects RX2 yX2_queueOf yX2_queueOf, .initialized RX2, .code yX2_queueOf cX2_queueOf 2 (some (.object "SharedQueues$Queue")), .fieldLink RX2 11 "SharedQueues" "queues" "[LSharedQueues$Queue;", .methodLink RX2 125 yX1_placeOf, .instanceMethod yX1_placeOf, .selects RX1 yX1_placeOf yX1_placeOf, .initialized RX1, .code yX1_placeOf cX1_placeOf 3 (some .int), .fieldLink RX1 15 "SharedQueues$Ring" "size" "I", .fieldLink RX1 9 "SharedQueues$Ring" "order" "[I"] ++ wsX00 ++ wsX20 ++ wsX10 ++ (vx_atS RX2 147 "java/lang/IllegalArgumentException" ["java/lang/RuntimeException", "java/lang/Exception"]).filter goodWord)
def wsX2_item_r1 : List Cond := [Cond.classLink RX2 150 "java/lang/IndexOutOfBoundsException", Cond.initialized "java/lang/IndexOutOfBoundsException", Cond.methodLink RX2 23 yX2_queueOf, Cond.instanceMethod yX2_queueOf, Cond.selects RX2 yX2_queueOf yX2_queueOf, Cond.initialized RX2, Cond.code yX2_queueOf cX2_queueOf 2 (some (.object "SharedQueues$Queue")), Cond.classLink RX2 143 "java/lang/IllegalArgumentException", Cond.initialized "java/lang/IllegalArgumentException", Cond.fieldLink RX2 11 "SharedQueues" "queues" "[LSharedQueues$Queue;", Cond.methodLink RX2 27 yX2_checkRange, Cond.static yX2_checkRange, Cond.code yX2_checkRange cX2_checkRange 3 none, Cond.methodLink RX2 155 yX0_wordAt, Cond.instanceMethod yX0_wordAt, Cond.selects RX0 yX0_wordAt yX0_wordAt, Cond.initialized RX0, Cond.code yX0_wordAt cX0_wordAt 2 (some .int), Cond.fieldLink RX0 9 "SharedQueues$Queue" "wordRow" "[I", Cond.methodLink RX0 31 yX0_cellOf, Cond.instanceMethod yX0_cellOf, Cond.selects RX0 yX0_cellOf yX0_cellOf, Cond.code yX0_cellOf cX0_cellOf 2 (some .int), Cond.fieldLink RX0 45 "SharedQueues$Queue" "start" "I"]
def wsX2_item_r2 : List Cond := [Cond.methodLink RX0 55 yJ9_floorMod_7cf53, Cond.static yJ9_floorMod_7cf53, Cond.initialized RJ9, Cond.code yJ9_floorMod_7cf53 cJ9_floorMod_7cf53 3 (some .int), Cond.methodLink RX2 158 yX0_costAt, Cond.instanceMethod yX0_costAt, Cond.selects RX0 yX0_costAt yX0_costAt, Cond.code yX0_costAt cX0_costAt 2 (some .int), Cond.fieldLink RX0 15 "SharedQueues$Queue" "costRow" "[I"]
def wsX2_item : List Cond := .code yX2_item cX2_item 5 (some .int) :: ((wsX2_item_r1 ++ wsX2_item_r2) ++ wsX00 ++ wsX20 ++ (vx_atS RX2 154 "java/lang/IndexOutOfBoundsException" ["java/lang/RuntimeException", "java/lang/Exception"]).filter goodWord ++ (vx_atS RX2 147 "java/lang/IllegalArgumentException" ["java/lang/RuntimeException", "java/lang/Exception"]).filter goodWord)
def wsX2_all_r1 : List Cond := [Cond.classLink RX2 143 "java/lang/IllegalArgumentException", Cond.initialized "java/lang/IllegalArgumentException", Cond.fieldLink RX2 167 "SharedQueues" "servedInAll" "I", Cond.fieldLink RX2 170 "SharedQueues" "lostInAll" "I", Cond.fieldLink RX2 55 "SharedQueues" "refusedAsOver" "I", Cond.fieldLink RX2 72 "SharedQueues" "refusedAsFull" "I", Cond.methodLink RX2 161 yX2_freeCells, Cond.instanceMethod yX2_freeCells, Cond.selects RX2 yX2_freeCells yX2_freeCells, Cond.initialized RX2, Cond.code yX2_freeCells cX2_freeCells 6 (some .int), Cond.fieldLink RX2 11 "SharedQueues" "queues" "[LSharedQueues$Queue;", Cond.methodLink RX2 164 yX2_openCells, Cond.instanceMethod yX2_openCells, Cond.selects RX2 yX2_openCells yX2_openCells, Cond.code yX2_openCells cX2_openCells 6 (some .int), Cond.methodLink RX2 177 Lib.Math.min.name, Cond.static Lib.Math.min.name, Cond.initialized "java/lang/Math", Cond.code Lib.Math.min.name Lib.Math.min.code 2 (some .int), Cond.methodLink RX2 69 yX0_excess, Cond.instanceMethod yX0_excess, Cond.selects RX0 yX0_excess yX0_excess, Cond.initialized RX0]
def wsX2_all_r2 : List Cond := [Cond.code yX0_excess cX0_excess 1 (some .int), Cond.fieldLink RX0 25 "SharedQueues$Queue" "count" "I", Cond.fieldLink RX0 28 "SharedQueues$Queue" "kept" "I", Cond.methodLink RX2 31 yX2_keptCells, Cond.instanceMethod yX2_keptCells, Cond.selects RX2 yX2_keptCells yX2_keptCells, Cond.code yX2_keptCells cX2_keptCells 6 (some .int)]
def wsX2_all : List Cond := .code yX2_all cX2_all 2 (some .int) :: ((wsX2_all_r1 ++ wsX2_all_r2) ++ wsX20 ++ wsX00 ++ (vx_atS RX2 147 "java/lang/IllegalArgumentException" ["java/lang/RuntimeException", "java/lang/Exception"]).filter goodWord)
def wsX3_init : List Cond := .code yX3_init cX3_init 2 none :: ([.methodLink RX3 1 objectInit, .instanceMethod objectInit, .code objectInit ⟨#[0xb1]⟩ 1 none, .arrayClass .int, .fieldLink RX3 7 "SharedQueuesModel" "kinds" "[I", .fieldLink RX3 13 "SharedQueuesModel" "quanta" "[I", .fieldLink RX3 16 "SharedQueuesModel" "quotas" "[I", .fieldLink RX3 19 "SharedQueuesModel" "kept" "[I", .fieldLink RX3 22 "SharedQueuesModel" "many" "[I", .fieldLink RX3 25 "SharedQueuesModel" "deficits" "[I", .arrayClass .boolean, .fieldLink RX3 28 "SharedQueuesModel" "turns" "[Z", .fieldLink RX3 32 "SharedQueuesModel" "words" "[I", .fieldLink RX3 35 "SharedQueuesModel" "costs" "[I", .fieldLink RX3 38 "SharedQueuesModel" "pushed" "[I", .fieldLink RX3 41 "SharedQueuesModel" "lost" "[I", .fieldLink RX3 44 "SharedQueuesModel" "served" "[I", .fieldLink RX3 47 "SharedQueuesModel" "paid" "[I", .fieldLink RX3 50 "SharedQueuesModel" "rings" "[I", .fieldLink RX3 53 "SharedQueuesModel" "long4" "[I", .fieldLink RX3 56 "SharedQueuesModel" "wasDeficits" "[I", .fieldLink RX3 59 "SharedQueuesModel" "wasTurns" "[Z", .fieldLink RX3 62 "SharedQueuesModel" "wasRings" "[I"] ++ wsX30)
def wsX3_thrown : List Cond := .code yX3_thrown cX3_thrown 1 (some .int) :: ([.fieldLink RX3 65 "SharedQueuesModel" "thrown" "I"] ++ wsX30)
def wsX3_noQueue : List Cond := .code yX3_noQueue cX3_noQueue 1 (some .boolean) :: ([])
def wsX3_keptInAll : List Cond := .code yX3_keptInAll cX3_keptInAll 3 (some .int) :: ([.fieldLink RX3 19 "SharedQueuesModel" "kept" "[I"] ++ wsX30)
def wsX3_quota : List Cond := .code yX3_quota cX3_quota 4 (some .int) :: ([.fieldLink RX3 65 "SharedQueuesModel" "thrown" "I", .fieldLink RX3 19 "SharedQueuesModel" "kept" "[I", .fieldLink RX3 16 "SharedQueuesModel" "quotas" "[I", .methodLink RX3 69 yX3_noQueue, .static yX3_noQueue, .initialized RX3, .code yX3_noQueue cX3_noQueue 1 (some .boolean), .methodLink RX3 73 yX3_keptInAll, .instanceMethod yX3_keptInAll, .selects RX3 yX3_keptInAll yX3_keptInAll, .code yX3_keptInAll cX3_keptInAll 3 (some .int)] ++ wsX30)
def wsX3_placeOf : List Cond := .code yX3_placeOf cX3_placeOf 4 (some .int) :: ([.fieldLink RX3 7 "SharedQueuesModel" "kinds" "[I", .fieldLink RX3 53 "SharedQueuesModel" "long4" "[I", .fieldLink RX3 50 "SharedQueuesModel" "rings" "[I"] ++ wsX30)
def wsX3_enter : List Cond := .code yX3_enter cX3_enter 3 none :: ([.fieldLink RX3 7 "SharedQueuesModel" "kinds" "[I", .fieldLink RX3 50 "SharedQueuesModel" "rings" "[I", .fieldLink RX3 53 "SharedQueuesModel" "long4" "[I", .fieldLink RX3 28 "SharedQueuesModel" "turns" "[Z"] ++ wsX30)
def wsX3_leave : List Cond := .code yX3_leave cX3_leave 5 none :: ([.fieldLink RX3 7 "SharedQueuesModel" "kinds" "[I", .fieldLink RX3 53 "SharedQueuesModel" "long4" "[I", .fieldLink RX3 50 "SharedQueuesModel" "rings" "[I", .fieldLink RX3 28 "SharedQueuesModel" "turns" "[Z", .methodLink RX3 77 yX3_placeOf, .instanceMethod yX3_placeOf, .selects RX3 yX3_placeOf yX3_placeOf, .initialized RX3, .code yX3_placeOf cX3_placeOf 4 (some .int)] ++ wsX30)
def wsX3_kind : List Cond := .code yX3_kind cX3_kind 4 none :: ([.fieldLink RX3 65 "SharedQueuesModel" "thrown" "I", .fieldLink RX3 13 "SharedQueuesModel" "quanta" "[I", .fieldLink RX3 7 "SharedQueuesModel" "kinds" "[I", .fieldLink RX3 22 "SharedQueuesModel" "many" "[I", .methodLink RX3 69 yX3_noQueue, .static yX3_noQueue, .initialized RX3, .code yX3_noQueue cX3_noQueue 1 (some .boolean), .methodLink RX3 81 yX3_leave, .instanceMethod yX3_leave, .selects RX3 yX3_leave yX3_leave, .code yX3_leave cX3_leave 5 none, .fieldLink RX3 53 "SharedQueuesModel" "long4" "[I", .fieldLink RX3 50 "SharedQueuesModel" "rings" "[I", .fieldLink RX3 28 "SharedQueuesModel" "turns" "[Z", .methodLink RX3 77 yX3_placeOf, .instanceMethod yX3_placeOf, .selects RX3 yX3_placeOf yX3_placeOf, .code yX3_placeOf cX3_placeOf 4 (some .int), .methodLink RX3 85 yX3_enter, .instanceMethod yX3_enter, .selects RX3 yX3_enter yX3_enter, .code yX3_enter cX3_enter 3 none] ++ wsX30)
def wsX3_free : List Cond := .code yX3_free cX3_free 3 (some .int) :: ([.fieldLink RX3 22 "SharedQueuesModel" "many" "[I"] ++ wsX30)
def wsX3_excess : List Cond := .code yX3_excess cX3_excess 2 (some .int) :: ([.fieldLink RX3 22 "SharedQueuesModel" "many" "[I", .fieldLink RX3 19 "SharedQueuesModel" "kept" "[I"] ++ wsX30)
def wsX3_open : List Cond := .code yX3_open cX3_open 3 (some .int) :: ([.methodLink RX3 88 yX3_free, .instanceMethod yX3_free, .selects RX3 yX3_free yX3_free, .initialized RX3, .code yX3_free cX3_free 3 (some .int), .fieldLink RX3 22 "SharedQueuesModel" "many" "[I", .methodLink RX3 91 yX3_excess, .instanceMethod yX3_excess, .selects RX3 yX3_excess yX3_excess, .code yX3_excess cX3_excess 2 (some .int), .fieldLink RX3 19 "SharedQueuesModel" "kept" "[I"] ++ wsX30)
def wsX3_greediest : List Cond := .code yX3_greediest cX3_greediest 3 (some .int) :: ([.methodLink RX3 91 yX3_excess, .instanceMethod yX3_excess, .selects RX3 yX3_excess yX3_excess, .initialized RX3, .code yX3_excess cX3_excess 2 (some .int), .fieldLink RX3 22 "SharedQueuesModel" "many" "[I", .fieldLink RX3 19 "SharedQueuesModel" "kept" "[I"] ++ wsX30)
def wsX3_settle : List Cond := .code yX3_settle cX3_settle 2 none :: ([.fieldLink RX3 22 "SharedQueuesModel" "many" "[I", .fieldLink RX3 25 "SharedQueuesModel" "deficits" "[I", .methodLink RX3 81 yX3_leave, .instanceMethod yX3_leave, .selects RX3 yX3_leave yX3_leave, .initialized RX3, .code yX3_leave cX3_leave 5 none, .fieldLink RX3 7 "SharedQueuesModel" "kinds" "[I", .fieldLink RX3 53 "SharedQueuesModel" "long4" "[I", .fieldLink RX3 50 "SharedQueuesModel" "rings" "[I", .fieldLink RX3 28 "SharedQueuesModel" "turns" "[Z", .methodLink RX3 77 yX3_placeOf, .instanceMethod yX3_placeOf, .selects RX3 yX3_placeOf yX3_placeOf, .code yX3_placeOf cX3_placeOf 4 (some .int)] ++ wsX30)
def wsX3_push_r1 : List Cond := [Cond.fieldLink RX3 65 "SharedQueuesModel" "thrown" "I", Cond.fieldLink RX3 22 "SharedQueuesModel" "many" "[I", Cond.fieldLink RX3 16 "SharedQueuesModel" "quotas" "[I", Cond.fieldLink RX3 94 "SharedQueuesModel" "over" "I", Cond.fieldLink RX3 103 "SharedQueuesModel" "full" "I", Cond.fieldLink RX3 41 "SharedQueuesModel" "lost" "[I", Cond.fieldLink RX3 32 "SharedQueuesModel" "words" "[I", Cond.fieldLink RX3 35 "SharedQueuesModel" "costs" "[I", Cond.fieldLink RX3 38 "SharedQueuesModel" "pushed" "[I", Cond.fieldLink RX3 25 "SharedQueuesModel" "deficits" "[I", Cond.methodLink RX3 69 yX3_noQueue, Cond.static yX3_noQueue, Cond.initialized RX3, Cond.code yX3_noQueue cX3_noQueue 1 (some .boolean), Cond.methodLink RX3 88 yX3_free, Cond.instanceMethod yX3_free, Cond.selects RX3 yX3_free yX3_free, Cond.code yX3_free cX3_free 3 (some .int), Cond.methodLink RX3 91 yX3_excess, Cond.instanceMethod yX3_excess, Cond.selects RX3 yX3_excess yX3_excess, Cond.code yX3_excess cX3_excess 2 (some .int), Cond.fieldLink RX3 19 "SharedQueuesModel" "kept" "[I", Cond.methodLink RX3 97 yX3_open]
def wsX3_push_r2 : List Cond := [Cond.instanceMethod yX3_open, Cond.selects RX3 yX3_open yX3_open, Cond.code yX3_open cX3_open 3 (some .int), Cond.methodLink RX3 100 yX3_greediest, Cond.instanceMethod yX3_greediest, Cond.selects RX3 yX3_greediest yX3_greediest, Cond.code yX3_greediest cX3_greediest 3 (some .int), Cond.methodLink RX3 106 yX3_settle, Cond.instanceMethod yX3_settle, Cond.selects RX3 yX3_settle yX3_settle, Cond.code yX3_settle cX3_settle 2 none, Cond.methodLink RX3 81 yX3_leave, Cond.instanceMethod yX3_leave, Cond.selects RX3 yX3_leave yX3_leave, Cond.code yX3_leave cX3_leave 5 none, Cond.fieldLink RX3 7 "SharedQueuesModel" "kinds" "[I", Cond.fieldLink RX3 53 "SharedQueuesModel" "long4" "[I", Cond.fieldLink RX3 50 "SharedQueuesModel" "rings" "[I", Cond.fieldLink RX3 28 "SharedQueuesModel" "turns" "[Z", Cond.methodLink RX3 77 yX3_placeOf, Cond.instanceMethod yX3_placeOf, Cond.selects RX3 yX3_placeOf yX3_placeOf, Cond.code yX3_placeOf cX3_placeOf 4 (some .int), Cond.methodLink RX3 85 yX3_enter]
def wsX3_push_r3 : List Cond := [Cond.instanceMethod yX3_enter, Cond.selects RX3 yX3_enter yX3_enter, Cond.code yX3_enter cX3_enter 3 none]
def wsX3_push : List Cond := .code yX3_push cX3_push 5 (some .int) :: ((wsX3_push_r1 ++ (wsX3_push_r2 ++ wsX3_push_r3)) ++ wsX30)
def wsX3_find : List Cond := .code yX3_find cX3_find 4 (some .int) :: ([.fieldLink RX3 53 "SharedQueuesModel" "long4" "[I", .fieldLink RX3 50 "SharedQueuesModel" "rings" "[I", .fieldLink RX3 28 "SharedQueuesModel" "turns" "[Z", .fieldLink RX3 25 "SharedQueuesModel" "deficits" "[I", .fieldLink RX3 13 "SharedQueuesModel" "quanta" "[I", .fieldLink RX3 35 "SharedQueuesModel" "costs" "[I"] ++ wsX30)
def wsX3_keepTurns : List Cond := .code yX3_keepTurns cX3_keepTurns 2 none :: ([.fieldLink RX3 56 "SharedQueuesModel" "wasDeficits" "[I", .fieldLink RX3 25 "SharedQueuesModel" "deficits" "[I", .fieldLink RX3 59 "SharedQueuesModel" "wasTurns" "[Z", .fieldLink RX3 28 "SharedQueuesModel" "turns" "[Z", .fieldLink RX3 62 "SharedQueuesModel" "wasRings" "[I", .fieldLink RX3 50 "SharedQueuesModel" "rings" "[I"] ++ wsX30)
def wsX3_turnBack : List Cond := .code yX3_turnBack cX3_turnBack 2 none :: ([.fieldLink RX3 25 "SharedQueuesModel" "deficits" "[I", .fieldLink RX3 56 "SharedQueuesModel" "wasDeficits" "[I", .fieldLink RX3 28 "SharedQueuesModel" "turns" "[Z", .fieldLink RX3 59 "SharedQueuesModel" "wasTurns" "[Z", .fieldLink RX3 50 "SharedQueuesModel" "rings" "[I", .fieldLink RX3 62 "SharedQueuesModel" "wasRings" "[I"] ++ wsX30)
def wsX3_take : List Cond := .code yX3_take cX3_take 4 none :: ([.fieldLink RX3 35 "SharedQueuesModel" "costs" "[I", .fieldLink RX3 32 "SharedQueuesModel" "words" "[I", .fieldLink RX3 109 "SharedQueuesModel" "word" "I", .fieldLink RX3 25 "SharedQueuesModel" "deficits" "[I", .fieldLink RX3 44 "SharedQueuesModel" "served" "[I", .fieldLink RX3 47 "SharedQueuesModel" "paid" "[I", .fieldLink RX3 22 "SharedQueuesModel" "many" "[I", .methodLink RX3 106 yX3_settle, .instanceMethod yX3_settle, .selects RX3 yX3_settle yX3_settle, .initialized RX3, .code yX3_settle cX3_settle 2 none, .methodLink RX3 81 yX3_leave, .instanceMethod yX3_leave, .selects RX3 yX3_leave yX3_leave, .code yX3_leave cX3_leave 5 none, .fieldLink RX3 7 "SharedQueuesModel" "kinds" "[I", .fieldLink RX3 53 "SharedQueuesModel" "long4" "[I", .fieldLink RX3 50 "SharedQueuesModel" "rings" "[I", .fieldLink RX3 28 "SharedQueuesModel" "turns" "[Z", .methodLink RX3 77 yX3_placeOf, .instanceMethod yX3_placeOf, .selects RX3 yX3_placeOf yX3_placeOf, .code yX3_placeOf cX3_placeOf 4 (some .int)] ++ wsX30)
def wsX3_serve_r1 : List Cond := [Cond.fieldLink RX3 65 "SharedQueuesModel" "thrown" "I", Cond.methodLink RX3 112 yX3_find, Cond.instanceMethod yX3_find, Cond.selects RX3 yX3_find yX3_find, Cond.initialized RX3, Cond.code yX3_find cX3_find 4 (some .int), Cond.fieldLink RX3 53 "SharedQueuesModel" "long4" "[I", Cond.fieldLink RX3 50 "SharedQueuesModel" "rings" "[I", Cond.fieldLink RX3 28 "SharedQueuesModel" "turns" "[Z", Cond.fieldLink RX3 25 "SharedQueuesModel" "deficits" "[I", Cond.fieldLink RX3 13 "SharedQueuesModel" "quanta" "[I", Cond.fieldLink RX3 35 "SharedQueuesModel" "costs" "[I", Cond.methodLink RX3 115 yX3_take, Cond.instanceMethod yX3_take, Cond.selects RX3 yX3_take yX3_take, Cond.code yX3_take cX3_take 4 none, Cond.fieldLink RX3 32 "SharedQueuesModel" "words" "[I", Cond.fieldLink RX3 109 "SharedQueuesModel" "word" "I", Cond.fieldLink RX3 44 "SharedQueuesModel" "served" "[I", Cond.fieldLink RX3 47 "SharedQueuesModel" "paid" "[I", Cond.fieldLink RX3 22 "SharedQueuesModel" "many" "[I", Cond.methodLink RX3 106 yX3_settle, Cond.instanceMethod yX3_settle, Cond.selects RX3 yX3_settle yX3_settle]
def wsX3_serve_r2 : List Cond := [Cond.code yX3_settle cX3_settle 2 none, Cond.methodLink RX3 81 yX3_leave, Cond.instanceMethod yX3_leave, Cond.selects RX3 yX3_leave yX3_leave, Cond.code yX3_leave cX3_leave 5 none, Cond.fieldLink RX3 7 "SharedQueuesModel" "kinds" "[I", Cond.methodLink RX3 77 yX3_placeOf, Cond.instanceMethod yX3_placeOf, Cond.selects RX3 yX3_placeOf yX3_placeOf, Cond.code yX3_placeOf cX3_placeOf 4 (some .int)]
def wsX3_serve : List Cond := .code yX3_serve cX3_serve 2 (some .int) :: ((wsX3_serve_r1 ++ wsX3_serve_r2) ++ wsX30)
def wsX3_next : List Cond := .code yX3_next cX3_next 2 (some .int) :: ([.fieldLink RX3 65 "SharedQueuesModel" "thrown" "I", .methodLink RX3 118 yX3_keepTurns, .instanceMethod yX3_keepTurns, .selects RX3 yX3_keepTurns yX3_keepTurns, .initialized RX3, .code yX3_keepTurns cX3_keepTurns 2 none, .fieldLink RX3 56 "SharedQueuesModel" "wasDeficits" "[I", .fieldLink RX3 25 "SharedQueuesModel" "deficits" "[I", .fieldLink RX3 59 "SharedQueuesModel" "wasTurns" "[Z", .fieldLink RX3 28 "SharedQueuesModel" "turns" "[Z", .fieldLink RX3 62 "SharedQueuesModel" "wasRings" "[I", .fieldLink RX3 50 "SharedQueuesModel" "rings" "[I", .methodLink RX3 112 yX3_find, .instanceMethod yX3_find, .selects RX3 yX3_find yX3_find, .code yX3_find cX3_find 4 (some .int), .fieldLink RX3 53 "SharedQueuesModel" "long4" "[I", .fieldLink RX3 13 "SharedQueuesModel" "quanta" "[I", .fieldLink RX3 35 "SharedQueuesModel" "costs" "[I", .methodLink RX3 121 yX3_turnBack, .instanceMethod yX3_turnBack, .selects RX3 yX3_turnBack yX3_turnBack, .code yX3_turnBack cX3_turnBack 2 none] ++ wsX30)
def wsX3_word : List Cond := .code yX3_word cX3_word 1 (some .int) :: ([.fieldLink RX3 65 "SharedQueuesModel" "thrown" "I", .fieldLink RX3 109 "SharedQueuesModel" "word" "I"] ++ wsX30)
def wsX3_serveUpTo_r1 : List Cond := [Cond.constant RX3 124 (100000), Cond.fieldLink RX3 65 "SharedQueuesModel" "thrown" "I", Cond.fieldLink RX3 35 "SharedQueuesModel" "costs" "[I", Cond.methodLink RX3 118 yX3_keepTurns, Cond.instanceMethod yX3_keepTurns, Cond.selects RX3 yX3_keepTurns yX3_keepTurns, Cond.initialized RX3, Cond.code yX3_keepTurns cX3_keepTurns 2 none, Cond.fieldLink RX3 56 "SharedQueuesModel" "wasDeficits" "[I", Cond.fieldLink RX3 25 "SharedQueuesModel" "deficits" "[I", Cond.fieldLink RX3 59 "SharedQueuesModel" "wasTurns" "[Z", Cond.fieldLink RX3 28 "SharedQueuesModel" "turns" "[Z", Cond.fieldLink RX3 62 "SharedQueuesModel" "wasRings" "[I", Cond.fieldLink RX3 50 "SharedQueuesModel" "rings" "[I", Cond.methodLink RX3 112 yX3_find, Cond.instanceMethod yX3_find, Cond.selects RX3 yX3_find yX3_find, Cond.code yX3_find cX3_find 4 (some .int), Cond.fieldLink RX3 53 "SharedQueuesModel" "long4" "[I", Cond.fieldLink RX3 13 "SharedQueuesModel" "quanta" "[I", Cond.methodLink RX3 115 yX3_take, Cond.instanceMethod yX3_take, Cond.selects RX3 yX3_take yX3_take, Cond.code yX3_take cX3_take 4 none]
def wsX3_serveUpTo_r2 : List Cond := [Cond.fieldLink RX3 32 "SharedQueuesModel" "words" "[I", Cond.fieldLink RX3 109 "SharedQueuesModel" "word" "I", Cond.fieldLink RX3 44 "SharedQueuesModel" "served" "[I", Cond.fieldLink RX3 47 "SharedQueuesModel" "paid" "[I", Cond.fieldLink RX3 22 "SharedQueuesModel" "many" "[I", Cond.methodLink RX3 106 yX3_settle, Cond.instanceMethod yX3_settle, Cond.selects RX3 yX3_settle yX3_settle, Cond.code yX3_settle cX3_settle 2 none, Cond.methodLink RX3 81 yX3_leave, Cond.instanceMethod yX3_leave, Cond.selects RX3 yX3_leave yX3_leave, Cond.code yX3_leave cX3_leave 5 none, Cond.fieldLink RX3 7 "SharedQueuesModel" "kinds" "[I", Cond.methodLink RX3 77 yX3_placeOf, Cond.instanceMethod yX3_placeOf, Cond.selects RX3 yX3_placeOf yX3_placeOf, Cond.code yX3_placeOf cX3_placeOf 4 (some .int), Cond.methodLink RX3 121 yX3_turnBack, Cond.instanceMethod yX3_turnBack, Cond.selects RX3 yX3_turnBack yX3_turnBack, Cond.code yX3_turnBack cX3_turnBack 2 none]
def wsX3_serveUpTo : List Cond := .code yX3_serveUpTo cX3_serveUpTo 6 (some .int) :: ((wsX3_serveUpTo_r1 ++ wsX3_serveUpTo_r2) ++ wsX30)
def wsX3_empty : List Cond := .code yX3_empty cX3_empty 3 (some .int) :: ([.fieldLink RX3 65 "SharedQueuesModel" "thrown" "I", .fieldLink RX3 22 "SharedQueuesModel" "many" "[I", .methodLink RX3 69 yX3_noQueue, .static yX3_noQueue, .initialized RX3, .code yX3_noQueue cX3_noQueue 1 (some .boolean), .methodLink RX3 106 yX3_settle, .instanceMethod yX3_settle, .selects RX3 yX3_settle yX3_settle, .code yX3_settle cX3_settle 2 none, .fieldLink RX3 25 "SharedQueuesModel" "deficits" "[I", .methodLink RX3 81 yX3_leave, .instanceMethod yX3_leave, .selects RX3 yX3_leave yX3_leave, .code yX3_leave cX3_leave 5 none, .fieldLink RX3 7 "SharedQueuesModel" "kinds" "[I", .fieldLink RX3 53 "SharedQueuesModel" "long4" "[I", .fieldLink RX3 50 "SharedQueuesModel" "rings" "[I", .fieldLink RX3 28 "SharedQueuesModel" "turns" "[Z", .methodLink RX3 77 yX3_placeOf, .instanceMethod yX3_placeOf, .selects RX3 yX3_placeOf yX3_placeOf, .code yX3_placeOf cX3_placeOf 4 (some .int)] ++ wsX30)
def wsX3_costOf : List Cond := .code yX3_costOf cX3_costOf 4 (some .int) :: ([.fieldLink RX3 22 "SharedQueuesModel" "many" "[I", .fieldLink RX3 35 "SharedQueuesModel" "costs" "[I"] ++ wsX30)
def wsX3_told_r1 : List Cond := [Cond.fieldLink RX3 65 "SharedQueuesModel" "thrown" "I", Cond.fieldLink RX3 22 "SharedQueuesModel" "many" "[I", Cond.fieldLink RX3 7 "SharedQueuesModel" "kinds" "[I", Cond.fieldLink RX3 13 "SharedQueuesModel" "quanta" "[I", Cond.fieldLink RX3 16 "SharedQueuesModel" "quotas" "[I", Cond.fieldLink RX3 19 "SharedQueuesModel" "kept" "[I", Cond.fieldLink RX3 25 "SharedQueuesModel" "deficits" "[I", Cond.fieldLink RX3 28 "SharedQueuesModel" "turns" "[Z", Cond.fieldLink RX3 38 "SharedQueuesModel" "pushed" "[I", Cond.fieldLink RX3 41 "SharedQueuesModel" "lost" "[I", Cond.fieldLink RX3 44 "SharedQueuesModel" "served" "[I", Cond.fieldLink RX3 47 "SharedQueuesModel" "paid" "[I", Cond.methodLink RX3 69 yX3_noQueue, Cond.static yX3_noQueue, Cond.initialized RX3, Cond.code yX3_noQueue cX3_noQueue 1 (some .boolean), Cond.methodLink RX3 77 yX3_placeOf, Cond.instanceMethod yX3_placeOf, Cond.selects RX3 yX3_placeOf yX3_placeOf, Cond.code yX3_placeOf cX3_placeOf 4 (some .int), Cond.fieldLink RX3 53 "SharedQueuesModel" "long4" "[I", Cond.fieldLink RX3 50 "SharedQueuesModel" "rings" "[I", Cond.methodLink RX3 125 yX3_costOf, Cond.instanceMethod yX3_costOf]
def wsX3_told_r2 : List Cond := [Cond.selects RX3 yX3_costOf yX3_costOf, Cond.code yX3_costOf cX3_costOf 4 (some .int), Cond.fieldLink RX3 35 "SharedQueuesModel" "costs" "[I"]
def wsX3_told : List Cond := .code yX3_told cX3_told 3 (some .int) :: ((wsX3_told_r1 ++ wsX3_told_r2) ++ wsX30)
def wsX3_item : List Cond := .code yX3_item cX3_item 4 (some .int) :: ([.fieldLink RX3 22 "SharedQueuesModel" "many" "[I", .fieldLink RX3 65 "SharedQueuesModel" "thrown" "I", .fieldLink RX3 32 "SharedQueuesModel" "words" "[I", .fieldLink RX3 35 "SharedQueuesModel" "costs" "[I", .methodLink RX3 69 yX3_noQueue, .static yX3_noQueue, .initialized RX3, .code yX3_noQueue cX3_noQueue 1 (some .boolean)] ++ wsX30)
def wsX3_all : List Cond := .code yX3_all cX3_all 4 (some .int) :: ([.fieldLink RX3 65 "SharedQueuesModel" "thrown" "I", .fieldLink RX3 44 "SharedQueuesModel" "served" "[I", .fieldLink RX3 41 "SharedQueuesModel" "lost" "[I", .fieldLink RX3 94 "SharedQueuesModel" "over" "I", .fieldLink RX3 103 "SharedQueuesModel" "full" "I", .methodLink RX3 88 yX3_free, .instanceMethod yX3_free, .selects RX3 yX3_free yX3_free, .initialized RX3, .code yX3_free cX3_free 3 (some .int), .fieldLink RX3 22 "SharedQueuesModel" "many" "[I", .methodLink RX3 97 yX3_open, .instanceMethod yX3_open, .selects RX3 yX3_open yX3_open, .code yX3_open cX3_open 3 (some .int), .methodLink RX3 91 yX3_excess, .instanceMethod yX3_excess, .selects RX3 yX3_excess yX3_excess, .code yX3_excess cX3_excess 2 (some .int), .fieldLink RX3 19 "SharedQueuesModel" "kept" "[I", .methodLink RX3 73 yX3_keptInAll, .instanceMethod yX3_keptInAll, .selects RX3 yX3_keptInAll yX3_keptInAll, .code yX3_keptInAll cX3_keptInAll 3 (some .int)] ++ wsX30)
def wsJ9_min_7cf53 : List Cond := .code yJ9_min_7cf53 cJ9_min_7cf53 2 (some .int) :: ([])
def wsL_quota : List Cond := .codeWith yL_quota cL_quota 6 (some .int) [(0, 12, 15, 13)] :: ([.classLink RL 13 "java/lang/IllegalArgumentException", .methodLink RL 7 yX2_quota, .instanceMethod yX2_quota, .selects RX2 yX2_quota yX2_quota, .initialized RX2, .code yX2_quota cX2_quota 6 (some .int), .methodLink RX2 23 yX2_queueOf, .instanceMethod yX2_queueOf, .selects RX2 yX2_queueOf yX2_queueOf, .code yX2_queueOf cX2_queueOf 2 (some (.object "SharedQueues$Queue")), .classLink RX2 143 "java/lang/IllegalArgumentException", .initialized "java/lang/IllegalArgumentException", .fieldLink RX2 11 "SharedQueues" "queues" "[LSharedQueues$Queue;", .methodLink RX2 27 yX2_checkRange, .static yX2_checkRange, .code yX2_checkRange cX2_checkRange 3 none, .methodLink RX2 31 yX2_keptCells, .instanceMethod yX2_keptCells, .selects RX2 yX2_keptCells yX2_keptCells, .code yX2_keptCells cX2_keptCells 6 (some .int)] ++ wsX00 ++ wsX20 ++ (vx_atS RX2 147 "java/lang/IllegalArgumentException" ["java/lang/RuntimeException", "java/lang/Exception"]).filter goodWord)
def wsL_kind_r1 : List Cond := [Cond.classLink RL 13 "java/lang/IllegalArgumentException", Cond.methodLink RL 15 yX2_kind, Cond.instanceMethod yX2_kind, Cond.selects RX2 yX2_kind yX2_kind, Cond.initialized RX2, Cond.code yX2_kind cX2_kind 5 none, Cond.methodLink RX2 23 yX2_queueOf, Cond.instanceMethod yX2_queueOf, Cond.selects RX2 yX2_queueOf yX2_queueOf, Cond.code yX2_queueOf cX2_queueOf 2 (some (.object "SharedQueues$Queue")), Cond.classLink RX2 143 "java/lang/IllegalArgumentException", Cond.initialized "java/lang/IllegalArgumentException", Cond.fieldLink RX2 11 "SharedQueues" "queues" "[LSharedQueues$Queue;", Cond.methodLink RX2 27 yX2_checkRange, Cond.static yX2_checkRange, Cond.code yX2_checkRange cX2_checkRange 3 none, Cond.methodLink RX2 48 yX2_changeClass, Cond.instanceMethod yX2_changeClass, Cond.selects RX2 yX2_changeClass yX2_changeClass, Cond.code yX2_changeClass cX2_changeClass 4 none, Cond.fieldLink RX2 17 "SharedQueues" "rings" "[LSharedQueues$Ring;", Cond.methodLink RX2 193 yX1_takeOut, Cond.instanceMethod yX1_takeOut, Cond.selects RX1 yX1_takeOut yX1_takeOut]
def wsL_kind_r2 : List Cond := [Cond.initialized RX1, Cond.code yX1_takeOut cX1_takeOut 3 none, Cond.fieldLink RX1 15 "SharedQueues$Ring" "size" "I", Cond.fieldLink RX1 9 "SharedQueues$Ring" "order" "[I", Cond.methodLink RX1 23 arraycopyName, Cond.native arraycopyName, Cond.static arraycopyName, Cond.initialized "java/lang/System", Cond.methodLink RX1 19 yX1_placeOf, Cond.instanceMethod yX1_placeOf, Cond.selects RX1 yX1_placeOf yX1_placeOf, Cond.code yX1_placeOf cX1_placeOf 3 (some .int), Cond.methodLink RX2 187 yX1_putAtEnd, Cond.instanceMethod yX1_putAtEnd, Cond.selects RX1 yX1_putAtEnd yX1_putAtEnd, Cond.code yX1_putAtEnd cX1_putAtEnd 2 none]
def wsL_kind : List Cond := .codeWith yL_kind cL_kind 5 (some .int) [(0, 7, 10, 13)] :: ((wsL_kind_r1 ++ wsL_kind_r2) ++ wsX00 ++ wsX20 ++ wsX10 ++ (vx_atS RX2 147 "java/lang/IllegalArgumentException" ["java/lang/RuntimeException", "java/lang/Exception"]).filter goodWord)
def wsL_push_r1 : List Cond := [Cond.classLink RL 13 "java/lang/IllegalArgumentException", Cond.methodLink RL 19 yX2_push, Cond.instanceMethod yX2_push, Cond.selects RX2 yX2_push yX2_push, Cond.initialized RX2, Cond.code yX2_push cX2_push 6 (some .int), Cond.fieldLink RX2 55 "SharedQueues" "refusedAsOver" "I", Cond.fieldLink RX2 11 "SharedQueues" "queues" "[LSharedQueues$Queue;", Cond.fieldLink RX2 72 "SharedQueues" "refusedAsFull" "I", Cond.methodLink RX2 23 yX2_queueOf, Cond.instanceMethod yX2_queueOf, Cond.selects RX2 yX2_queueOf yX2_queueOf, Cond.code yX2_queueOf cX2_queueOf 2 (some (.object "SharedQueues$Queue")), Cond.classLink RX2 143 "java/lang/IllegalArgumentException", Cond.initialized "java/lang/IllegalArgumentException", Cond.methodLink RX2 27 yX2_checkRange, Cond.static yX2_checkRange, Cond.code yX2_checkRange cX2_checkRange 3 none, Cond.methodLink RX2 58 yX2_hasRoomFor, Cond.instanceMethod yX2_hasRoomFor, Cond.selects RX2 yX2_hasRoomFor yX2_hasRoomFor, Cond.code yX2_hasRoomFor cX2_hasRoomFor 2 (some .boolean), Cond.methodLink RX2 161 yX2_freeCells, Cond.instanceMethod yX2_freeCells]
def wsL_push_r2 : List Cond := [Cond.selects RX2 yX2_freeCells yX2_freeCells, Cond.code yX2_freeCells cX2_freeCells 6 (some .int), Cond.methodLink RX2 69 yX0_excess, Cond.instanceMethod yX0_excess, Cond.selects RX0 yX0_excess yX0_excess, Cond.initialized RX0, Cond.code yX0_excess cX0_excess 1 (some .int), Cond.fieldLink RX0 25 "SharedQueues$Queue" "count" "I", Cond.fieldLink RX0 28 "SharedQueues$Queue" "kept" "I", Cond.methodLink RX2 164 yX2_openCells, Cond.instanceMethod yX2_openCells, Cond.selects RX2 yX2_openCells yX2_openCells, Cond.code yX2_openCells cX2_openCells 6 (some .int), Cond.methodLink RX2 177 Lib.Math.min.name, Cond.static Lib.Math.min.name, Cond.initialized "java/lang/Math", Cond.code Lib.Math.min.name Lib.Math.min.code 2 (some .int), Cond.methodLink RX2 62 yX2_addItem, Cond.instanceMethod yX2_addItem, Cond.selects RX2 yX2_addItem yX2_addItem, Cond.code yX2_addItem cX2_addItem 5 none, Cond.fieldLink RX2 17 "SharedQueues" "rings" "[LSharedQueues$Ring;", Cond.methodLink RX2 183 yX0_putLast, Cond.instanceMethod yX0_putLast]
def wsL_push_r3 : List Cond := [Cond.selects RX0 yX0_putLast yX0_putLast, Cond.code yX0_putLast cX0_putLast 4 none, Cond.fieldLink RX0 9 "SharedQueues$Queue" "wordRow" "[I", Cond.fieldLink RX0 15 "SharedQueues$Queue" "costRow" "[I", Cond.fieldLink RX0 38 "SharedQueues$Queue" "costs" "I", Cond.methodLink RX0 31 yX0_cellOf, Cond.instanceMethod yX0_cellOf, Cond.selects RX0 yX0_cellOf yX0_cellOf, Cond.code yX0_cellOf cX0_cellOf 2 (some .int), Cond.fieldLink RX0 45 "SharedQueues$Queue" "start" "I", Cond.methodLink RX0 55 yJ9_floorMod_7cf53, Cond.static yJ9_floorMod_7cf53, Cond.initialized RJ9, Cond.code yJ9_floorMod_7cf53 cJ9_floorMod_7cf53 3 (some .int), Cond.methodLink RX2 187 yX1_putAtEnd, Cond.instanceMethod yX1_putAtEnd, Cond.selects RX1 yX1_putAtEnd yX1_putAtEnd, Cond.initialized RX1, Cond.code yX1_putAtEnd cX1_putAtEnd 2 none, Cond.fieldLink RX1 15 "SharedQueues$Ring" "size" "I", Cond.fieldLink RX1 9 "SharedQueues$Ring" "order" "[I", Cond.methodLink RX2 66 yX2_queueOfGreatestExcess, Cond.instanceMethod yX2_queueOfGreatestExcess, Cond.selects RX2 yX2_queueOfGreatestExcess yX2_queueOfGreatestExcess]
def wsL_push_r4 : List Cond := [Cond.code yX2_queueOfGreatestExcess cX2_queueOfGreatestExcess 3 (some .int), Cond.methodLink RX2 75 yX2_loseLastItem, Cond.instanceMethod yX2_loseLastItem, Cond.selects RX2 yX2_loseLastItem yX2_loseLastItem, Cond.code yX2_loseLastItem cX2_loseLastItem 3 none, Cond.fieldLink RX2 170 "SharedQueues" "lostInAll" "I", Cond.methodLink RX2 190 yX0_dropLast, Cond.instanceMethod yX0_dropLast, Cond.selects RX0 yX0_dropLast yX0_dropLast, Cond.code yX0_dropLast cX0_dropLast 1 none, Cond.methodLink RX0 35 yX0_costAt, Cond.instanceMethod yX0_costAt, Cond.selects RX0 yX0_costAt yX0_costAt, Cond.code yX0_costAt cX0_costAt 2 (some .int), Cond.methodLink RX2 114 yX2_leaveRing, Cond.instanceMethod yX2_leaveRing, Cond.selects RX2 yX2_leaveRing yX2_leaveRing, Cond.code yX2_leaveRing cX2_leaveRing 3 none, Cond.methodLink RX2 193 yX1_takeOut, Cond.instanceMethod yX1_takeOut, Cond.selects RX1 yX1_takeOut yX1_takeOut, Cond.code yX1_takeOut cX1_takeOut 3 none, Cond.methodLink RX1 23 arraycopyName, Cond.native arraycopyName]
def wsL_push_r5 : List Cond := [Cond.static arraycopyName, Cond.initialized "java/lang/System", Cond.methodLink RX1 19 yX1_placeOf, Cond.instanceMethod yX1_placeOf, Cond.selects RX1 yX1_placeOf yX1_placeOf, Cond.code yX1_placeOf cX1_placeOf 3 (some .int)]
def wsL_push : List Cond := .codeWith yL_push cL_push 6 (some .int) [(0, 12, 15, 13)] :: ((wsL_push_r1 ++ (wsL_push_r2 ++ (wsL_push_r3 ++ (wsL_push_r4 ++ wsL_push_r5)))) ++ wsX00 ++ wsX20 ++ wsX10 ++ (vx_atS RX2 147 "java/lang/IllegalArgumentException" ["java/lang/RuntimeException", "java/lang/Exception"]).filter goodWord)
def wsL_serveUpTo_r1 : List Cond := [Cond.classLink RL 13 "java/lang/IllegalArgumentException", Cond.methodLink RL 22 yX2_serveUpTo, Cond.instanceMethod yX2_serveUpTo, Cond.selects RX2 yX2_serveUpTo yX2_serveUpTo, Cond.initialized RX2, Cond.code yX2_serveUpTo cX2_serveUpTo 6 (some .int), Cond.constant RX2 101 (100000), Cond.fieldLink RX2 11 "SharedQueues" "queues" "[LSharedQueues$Queue;", Cond.methodLink RX2 27 yX2_checkRange, Cond.static yX2_checkRange, Cond.code yX2_checkRange cX2_checkRange 3 none, Cond.classLink RX2 143 "java/lang/IllegalArgumentException", Cond.initialized "java/lang/IllegalArgumentException", Cond.methodLink RX2 102 yX2_next, Cond.instanceMethod yX2_next, Cond.selects RX2 yX2_next yX2_next, Cond.code yX2_next cX2_next 2 (some .int), Cond.methodLink RX2 79 yX2_firstRingWithQueues, Cond.instanceMethod yX2_firstRingWithQueues, Cond.selects RX2 yX2_firstRingWithQueues yX2_firstRingWithQueues, Cond.code yX2_firstRingWithQueues cX2_firstRingWithQueues 5 (some (.object "SharedQueues$Ring")), Cond.fieldLink RX2 17 "SharedQueues" "rings" "[LSharedQueues$Ring;", Cond.methodLink RX2 83 yX2_placeServedNext, Cond.instanceMethod yX2_placeServedNext]
def wsL_serveUpTo_r2 : List Cond := [Cond.selects RX2 yX2_placeServedNext yX2_placeServedNext, Cond.code yX2_placeServedNext cX2_placeServedNext 6 (some .int), Cond.methodLink RX2 87 yX1_queueAt, Cond.instanceMethod yX1_queueAt, Cond.selects RX1 yX1_queueAt yX1_queueAt, Cond.initialized RX1, Cond.code yX1_queueAt cX1_queueAt 2 (some .int), Cond.fieldLink RX1 9 "SharedQueues$Ring" "order" "[I", Cond.methodLink RX2 199 yX0_looksInVain, Cond.instanceMethod yX0_looksInVain, Cond.selects RX0 yX0_looksInVain yX0_looksInVain, Cond.initialized RX0, Cond.code yX0_looksInVain cX0_looksInVain 3 (some .int), Cond.fieldLink RX0 48 "SharedQueues$Queue" "hasTurn" "Z", Cond.fieldLink RX0 52 "SharedQueues$Queue" "deficit" "I", Cond.fieldLink RX0 18 "SharedQueues$Queue" "quantum" "I", Cond.methodLink RX0 41 yX0_firstCost, Cond.instanceMethod yX0_firstCost, Cond.selects RX0 yX0_firstCost yX0_firstCost, Cond.code yX0_firstCost cX0_firstCost 1 (some .int), Cond.methodLink RX0 35 yX0_costAt, Cond.instanceMethod yX0_costAt, Cond.selects RX0 yX0_costAt yX0_costAt, Cond.code yX0_costAt cX0_costAt 2 (some .int)]
def wsL_serveUpTo_r3 : List Cond := [Cond.fieldLink RX0 15 "SharedQueues$Queue" "costRow" "[I", Cond.methodLink RX0 31 yX0_cellOf, Cond.instanceMethod yX0_cellOf, Cond.selects RX0 yX0_cellOf yX0_cellOf, Cond.code yX0_cellOf cX0_cellOf 2 (some .int), Cond.fieldLink RX0 45 "SharedQueues$Queue" "start" "I", Cond.methodLink RX0 55 yJ9_floorMod_7cf53, Cond.static yJ9_floorMod_7cf53, Cond.initialized RJ9, Cond.code yJ9_floorMod_7cf53 cJ9_floorMod_7cf53 3 (some .int), Cond.methodLink RX2 105 yX0_firstCost, Cond.methodLink RX2 108 yX2_serve, Cond.instanceMethod yX2_serve, Cond.selects RX2 yX2_serve yX2_serve, Cond.code yX2_serve cX2_serve 4 (some .int), Cond.methodLink RX2 91 yX2_bringToFront, Cond.instanceMethod yX2_bringToFront, Cond.selects RX2 yX2_bringToFront yX2_bringToFront, Cond.code yX2_bringToFront cX2_bringToFront 5 none, Cond.methodLink RX2 202 yX0_lookInVain, Cond.instanceMethod yX0_lookInVain, Cond.selects RX0 yX0_lookInVain yX0_lookInVain, Cond.code yX0_lookInVain cX0_lookInVain 3 none, Cond.methodLink RX2 205 yX1_turnBy]
def wsL_serveUpTo_r4 : List Cond := [Cond.instanceMethod yX1_turnBy, Cond.selects RX1 yX1_turnBy yX1_turnBy, Cond.code yX1_turnBy cX1_turnBy 4 none, Cond.methodLink RX1 29 yX1_takeOut, Cond.instanceMethod yX1_takeOut, Cond.selects RX1 yX1_takeOut yX1_takeOut, Cond.code yX1_takeOut cX1_takeOut 3 none, Cond.fieldLink RX1 15 "SharedQueues$Ring" "size" "I", Cond.methodLink RX1 23 arraycopyName, Cond.native arraycopyName, Cond.static arraycopyName, Cond.initialized "java/lang/System", Cond.methodLink RX1 19 yX1_placeOf, Cond.instanceMethod yX1_placeOf, Cond.selects RX1 yX1_placeOf yX1_placeOf, Cond.code yX1_placeOf cX1_placeOf 3 (some .int), Cond.methodLink RX1 33 yX1_putAtEnd, Cond.instanceMethod yX1_putAtEnd, Cond.selects RX1 yX1_putAtEnd yX1_putAtEnd, Cond.code yX1_putAtEnd cX1_putAtEnd 2 none, Cond.methodLink RX2 95 yX2_serveFirstItem, Cond.instanceMethod yX2_serveFirstItem, Cond.selects RX2 yX2_serveFirstItem yX2_serveFirstItem, Cond.code yX2_serveFirstItem cX2_serveFirstItem 4 none]
def wsL_serveUpTo_r5 : List Cond := [Cond.fieldLink RX2 98 "SharedQueues" "lastWord" "I", Cond.fieldLink RX2 167 "SharedQueues" "servedInAll" "I", Cond.methodLink RX2 208 yX0_takeTurn, Cond.instanceMethod yX0_takeTurn, Cond.selects RX0 yX0_takeTurn yX0_takeTurn, Cond.code yX0_takeTurn cX0_takeTurn 1 none, Cond.methodLink RX2 155 yX0_wordAt, Cond.instanceMethod yX0_wordAt, Cond.selects RX0 yX0_wordAt yX0_wordAt, Cond.code yX0_wordAt cX0_wordAt 2 (some .int), Cond.fieldLink RX0 9 "SharedQueues$Queue" "wordRow" "[I", Cond.methodLink RX2 211 yX0_dropFirst, Cond.instanceMethod yX0_dropFirst, Cond.selects RX0 yX0_dropFirst yX0_dropFirst, Cond.code yX0_dropFirst cX0_dropFirst 1 none, Cond.fieldLink RX0 38 "SharedQueues$Queue" "costs" "I", Cond.fieldLink RX0 25 "SharedQueues$Queue" "count" "I", Cond.methodLink RX2 114 yX2_leaveRing, Cond.instanceMethod yX2_leaveRing, Cond.selects RX2 yX2_leaveRing yX2_leaveRing, Cond.code yX2_leaveRing cX2_leaveRing 3 none, Cond.methodLink RX2 193 yX1_takeOut]
def wsL_serveUpTo : List Cond := .codeWith yL_serveUpTo cL_serveUpTo 4 (some .int) [(0, 9, 12, 13)] :: ((wsL_serveUpTo_r1 ++ (wsL_serveUpTo_r2 ++ (wsL_serveUpTo_r3 ++ (wsL_serveUpTo_r4 ++ wsL_serveUpTo_r5)))) ++ wsX20 ++ wsX10 ++ wsX00 ++ (vx_atS RX2 147 "java/lang/IllegalArgumentException" ["java/lang/RuntimeException", "java/lang/Exception"]).filter goodWord)
def wsL_empty_r1 : List Cond := [Cond.classLink RL 13 "java/lang/IllegalArgumentException", Cond.methodLink RL 26 yX2_empty, Cond.instanceMethod yX2_empty, Cond.selects RX2 yX2_empty yX2_empty, Cond.initialized RX2, Cond.code yX2_empty cX2_empty 4 (some .int), Cond.methodLink RX2 23 yX2_queueOf, Cond.instanceMethod yX2_queueOf, Cond.selects RX2 yX2_queueOf yX2_queueOf, Cond.code yX2_queueOf cX2_queueOf 2 (some (.object "SharedQueues$Queue")), Cond.classLink RX2 143 "java/lang/IllegalArgumentException", Cond.initialized "java/lang/IllegalArgumentException", Cond.fieldLink RX2 11 "SharedQueues" "queues" "[LSharedQueues$Queue;", Cond.methodLink RX2 111 yX0_dropAll, Cond.instanceMethod yX0_dropAll, Cond.selects RX0 yX0_dropAll yX0_dropAll, Cond.initialized RX0, Cond.code yX0_dropAll cX0_dropAll 1 none, Cond.fieldLink RX0 38 "SharedQueues$Queue" "costs" "I", Cond.fieldLink RX0 25 "SharedQueues$Queue" "count" "I", Cond.methodLink RX2 114 yX2_leaveRing, Cond.instanceMethod yX2_leaveRing, Cond.selects RX2 yX2_leaveRing yX2_leaveRing, Cond.code yX2_leaveRing cX2_leaveRing 3 none]
def wsL_empty_r2 : List Cond := [Cond.fieldLink RX2 17 "SharedQueues" "rings" "[LSharedQueues$Ring;", Cond.methodLink RX2 193 yX1_takeOut, Cond.instanceMethod yX1_takeOut, Cond.selects RX1 yX1_takeOut yX1_takeOut, Cond.initialized RX1, Cond.code yX1_takeOut cX1_takeOut 3 none, Cond.fieldLink RX1 15 "SharedQueues$Ring" "size" "I", Cond.fieldLink RX1 9 "SharedQueues$Ring" "order" "[I", Cond.methodLink RX1 23 arraycopyName, Cond.native arraycopyName, Cond.static arraycopyName, Cond.initialized "java/lang/System", Cond.methodLink RX1 19 yX1_placeOf, Cond.instanceMethod yX1_placeOf, Cond.selects RX1 yX1_placeOf yX1_placeOf, Cond.code yX1_placeOf cX1_placeOf 3 (some .int)]
def wsL_empty : List Cond := .codeWith yL_empty cL_empty 4 (some .int) [(0, 9, 12, 13)] :: ((wsL_empty_r1 ++ wsL_empty_r2) ++ wsX00 ++ wsX20 ++ wsX10 ++ (vx_atS RX2 147 "java/lang/IllegalArgumentException" ["java/lang/RuntimeException", "java/lang/Exception"]).filter goodWord)
def wsL_told : List Cond := .codeWith yL_told cL_told 5 (some .int) [(0, 10, 13, 13)] :: ([.classLink RL 13 "java/lang/IllegalArgumentException", .methodLink RL 29 yX2_told, .instanceMethod yX2_told, .selects RX2 yX2_told yX2_told, .initialized RX2, .code yX2_told cX2_told 4 (some .int), .classLink RX2 143 "java/lang/IllegalArgumentException", .initialized "java/lang/IllegalArgumentException", .fieldLink RX2 17 "SharedQueues" "rings" "[LSharedQueues$Ring;", .methodLink RX2 23 yX2_queueOf, .instanceMethod yX2_queueOf, .selects RX2 yX2_queueOf yX2_queueOf, .code yX2_queueOf cX2_queueOf 2 (some (.object "SharedQueues$Queue")), .fieldLink RX2 11 "SharedQueues" "queues" "[LSharedQueues$Queue;", .methodLink RX2 125 yX1_placeOf, .instanceMethod yX1_placeOf, .selects RX1 yX1_placeOf yX1_placeOf, .initialized RX1, .code yX1_placeOf cX1_placeOf 3 (some .int), .fieldLink RX1 15 "SharedQueues$Ring" "size" "I", .fieldLink RX1 9 "SharedQueues$Ring" "order" "[I"] ++ wsX00 ++ wsX20 ++ wsX10 ++ (vx_atS RX2 147 "java/lang/IllegalArgumentException" ["java/lang/RuntimeException", "java/lang/Exception"]).filter goodWord)
def wsL_item_r1 : List Cond := [Cond.classLink RL 13 "java/lang/IllegalArgumentException", Cond.classLink RL 36 "java/lang/IndexOutOfBoundsException", Cond.methodLink RL 33 yX2_item, Cond.instanceMethod yX2_item, Cond.selects RX2 yX2_item yX2_item, Cond.initialized RX2, Cond.code yX2_item cX2_item 5 (some .int), Cond.classLink RX2 150 "java/lang/IndexOutOfBoundsException", Cond.initialized "java/lang/IndexOutOfBoundsException", Cond.methodLink RX2 23 yX2_queueOf, Cond.instanceMethod yX2_queueOf, Cond.selects RX2 yX2_queueOf yX2_queueOf, Cond.code yX2_queueOf cX2_queueOf 2 (some (.object "SharedQueues$Queue")), Cond.classLink RX2 143 "java/lang/IllegalArgumentException", Cond.initialized "java/lang/IllegalArgumentException", Cond.fieldLink RX2 11 "SharedQueues" "queues" "[LSharedQueues$Queue;", Cond.methodLink RX2 27 yX2_checkRange, Cond.static yX2_checkRange, Cond.code yX2_checkRange cX2_checkRange 3 none, Cond.methodLink RX2 155 yX0_wordAt, Cond.instanceMethod yX0_wordAt, Cond.selects RX0 yX0_wordAt yX0_wordAt, Cond.initialized RX0, Cond.code yX0_wordAt cX0_wordAt 2 (some .int)]
def wsL_item_r2 : List Cond := [Cond.fieldLink RX0 9 "SharedQueues$Queue" "wordRow" "[I", Cond.methodLink RX0 31 yX0_cellOf, Cond.instanceMethod yX0_cellOf, Cond.selects RX0 yX0_cellOf yX0_cellOf, Cond.code yX0_cellOf cX0_cellOf 2 (some .int), Cond.fieldLink RX0 45 "SharedQueues$Queue" "start" "I", Cond.methodLink RX0 55 yJ9_floorMod_7cf53, Cond.static yJ9_floorMod_7cf53, Cond.initialized RJ9, Cond.code yJ9_floorMod_7cf53 cJ9_floorMod_7cf53 3 (some .int), Cond.methodLink RX2 158 yX0_costAt, Cond.instanceMethod yX0_costAt, Cond.selects RX0 yX0_costAt yX0_costAt, Cond.code yX0_costAt cX0_costAt 2 (some .int), Cond.fieldLink RX0 15 "SharedQueues$Queue" "costRow" "[I"]
def wsL_item : List Cond := .codeWith yL_item cL_item 6 (some .int) [(0, 12, 15, 13), (0, 12, 19, 36)] :: ((wsL_item_r1 ++ wsL_item_r2) ++ wsX00 ++ wsX20 ++ (vx_atS RX2 154 "java/lang/IndexOutOfBoundsException" ["java/lang/RuntimeException", "java/lang/Exception"]).filter goodWord ++ (vx_atS RX2 147 "java/lang/IllegalArgumentException" ["java/lang/RuntimeException", "java/lang/Exception"]).filter goodWord)
def wsL_all_r1 : List Cond := [Cond.classLink RL 13 "java/lang/IllegalArgumentException", Cond.methodLink RL 38 yX2_all, Cond.instanceMethod yX2_all, Cond.selects RX2 yX2_all yX2_all, Cond.initialized RX2, Cond.code yX2_all cX2_all 2 (some .int), Cond.classLink RX2 143 "java/lang/IllegalArgumentException", Cond.initialized "java/lang/IllegalArgumentException", Cond.fieldLink RX2 167 "SharedQueues" "servedInAll" "I", Cond.fieldLink RX2 170 "SharedQueues" "lostInAll" "I", Cond.fieldLink RX2 55 "SharedQueues" "refusedAsOver" "I", Cond.fieldLink RX2 72 "SharedQueues" "refusedAsFull" "I", Cond.methodLink RX2 161 yX2_freeCells, Cond.instanceMethod yX2_freeCells, Cond.selects RX2 yX2_freeCells yX2_freeCells, Cond.code yX2_freeCells cX2_freeCells 6 (some .int), Cond.fieldLink RX2 11 "SharedQueues" "queues" "[LSharedQueues$Queue;", Cond.methodLink RX2 164 yX2_openCells, Cond.instanceMethod yX2_openCells, Cond.selects RX2 yX2_openCells yX2_openCells, Cond.code yX2_openCells cX2_openCells 6 (some .int), Cond.methodLink RX2 177 Lib.Math.min.name, Cond.static Lib.Math.min.name, Cond.initialized "java/lang/Math"]
def wsL_all_r2 : List Cond := [Cond.code Lib.Math.min.name Lib.Math.min.code 2 (some .int), Cond.methodLink RX2 69 yX0_excess, Cond.instanceMethod yX0_excess, Cond.selects RX0 yX0_excess yX0_excess, Cond.initialized RX0, Cond.code yX0_excess cX0_excess 1 (some .int), Cond.fieldLink RX0 25 "SharedQueues$Queue" "count" "I", Cond.fieldLink RX0 28 "SharedQueues$Queue" "kept" "I", Cond.methodLink RX2 31 yX2_keptCells, Cond.instanceMethod yX2_keptCells, Cond.selects RX2 yX2_keptCells yX2_keptCells, Cond.code yX2_keptCells cX2_keptCells 6 (some .int)]
def wsL_all : List Cond := .codeWith yL_all cL_all 4 (some .int) [(0, 9, 12, 13)] :: ((wsL_all_r1 ++ wsL_all_r2) ++ wsX20 ++ wsX00 ++ (vx_atS RX2 147 "java/lang/IllegalArgumentException" ["java/lang/RuntimeException", "java/lang/Exception"]).filter goodWord)
def wsL_law0_r1 : List Cond := [Cond.classLink RL 8 RX2, Cond.instantiable RX2 7, Cond.initialized RX2, Cond.classLink RL 42 RX3, Cond.instantiable RX3 22, Cond.initialized RX3, Cond.arrayClass .long, Cond.methodLink RL 41 yX2_init, Cond.instanceMethod yX2_init, Cond.code yX2_init cX2_init 2 none, Cond.methodLink RX2 1 objectInit, Cond.instanceMethod objectInit, Cond.code objectInit ⟨#[0xb1]⟩ 1 none, Cond.classLink RX2 9 RX0, Cond.fieldLink RX2 11 "SharedQueues" "queues" "[LSharedQueues$Queue;", Cond.classLink RX2 15 RX1, Cond.fieldLink RX2 17 "SharedQueues" "rings" "[LSharedQueues$Ring;", Cond.instantiable RX0 15, Cond.initialized RX0, Cond.instantiable RX1 2, Cond.initialized RX1, Cond.instanceMethod yX0_init, Cond.code yX0_init cX0_init 1 none, Cond.methodLink RX0 3 objectInit]
def wsL_law0_r2 : List Cond := [Cond.arrayClass .int, Cond.fieldLink RX0 9 "SharedQueues$Queue" "wordRow" "[I", Cond.fieldLink RX0 15 "SharedQueues$Queue" "costRow" "[I", Cond.fieldLink RX0 18 "SharedQueues$Queue" "quantum" "I", Cond.fieldLink RX0 22 "SharedQueues$Queue" "quota" "I", Cond.instanceMethod yX1_init, Cond.code yX1_init cX1_init 1 none, Cond.methodLink RX1 3 objectInit, Cond.fieldLink RX1 9 "SharedQueues$Ring" "order" "[I", Cond.methodLink RL 44 yX3_init, Cond.instanceMethod yX3_init, Cond.code yX3_init cX3_init 2 none, Cond.methodLink RX3 1 objectInit, Cond.fieldLink RX3 7 "SharedQueuesModel" "kinds" "[I", Cond.fieldLink RX3 13 "SharedQueuesModel" "quanta" "[I", Cond.fieldLink RX3 16 "SharedQueuesModel" "quotas" "[I", Cond.fieldLink RX3 19 "SharedQueuesModel" "kept" "[I", Cond.fieldLink RX3 22 "SharedQueuesModel" "many" "[I", Cond.fieldLink RX3 25 "SharedQueuesModel" "deficits" "[I", Cond.arrayClass .boolean, Cond.fieldLink RX3 28 "SharedQueuesModel" "turns" "[Z", Cond.fieldLink RX3 32 "SharedQueuesModel" "words" "[I", Cond.fieldLink RX3 35 "SharedQueuesModel" "costs" "[I", Cond.fieldLink RX3 38 "SharedQueuesModel" "pushed" "[I"]
def wsL_law0_r3 : List Cond := [Cond.fieldLink RX3 41 "SharedQueuesModel" "lost" "[I", Cond.fieldLink RX3 44 "SharedQueuesModel" "served" "[I", Cond.fieldLink RX3 47 "SharedQueuesModel" "paid" "[I", Cond.fieldLink RX3 50 "SharedQueuesModel" "rings" "[I", Cond.fieldLink RX3 53 "SharedQueuesModel" "long4" "[I", Cond.fieldLink RX3 56 "SharedQueuesModel" "wasDeficits" "[I", Cond.fieldLink RX3 59 "SharedQueuesModel" "wasTurns" "[Z", Cond.fieldLink RX3 62 "SharedQueuesModel" "wasRings" "[I", Cond.methodLink RL 45 yL_quota, Cond.static yL_quota, Cond.initialized RL, Cond.codeWith yL_quota cL_quota 6 (some .int) [(0, 12, 15, 13)], Cond.classLink RL 13 "java/lang/IllegalArgumentException", Cond.methodLink RL 7 yX2_quota, Cond.instanceMethod yX2_quota, Cond.selects RX2 yX2_quota yX2_quota, Cond.code yX2_quota cX2_quota 6 (some .int), Cond.methodLink RX2 23 yX2_queueOf, Cond.instanceMethod yX2_queueOf, Cond.selects RX2 yX2_queueOf yX2_queueOf, Cond.code yX2_queueOf cX2_queueOf 2 (some (.object "SharedQueues$Queue")), Cond.classLink RX2 143 "java/lang/IllegalArgumentException", Cond.initialized "java/lang/IllegalArgumentException", Cond.methodLink RX2 27 yX2_checkRange]
def wsL_law0_r4 : List Cond := [Cond.static yX2_checkRange, Cond.code yX2_checkRange cX2_checkRange 3 none, Cond.methodLink RX2 31 yX2_keptCells, Cond.instanceMethod yX2_keptCells, Cond.selects RX2 yX2_keptCells yX2_keptCells, Cond.code yX2_keptCells cX2_keptCells 6 (some .int), Cond.methodLink RL 50 yX3_quota, Cond.instanceMethod yX3_quota, Cond.selects RX3 yX3_quota yX3_quota, Cond.code yX3_quota cX3_quota 4 (some .int), Cond.fieldLink RX3 65 "SharedQueuesModel" "thrown" "I", Cond.methodLink RX3 69 yX3_noQueue, Cond.static yX3_noQueue, Cond.code yX3_noQueue cX3_noQueue 1 (some .boolean), Cond.methodLink RX3 73 yX3_keptInAll, Cond.instanceMethod yX3_keptInAll, Cond.selects RX3 yX3_keptInAll yX3_keptInAll, Cond.code yX3_keptInAll cX3_keptInAll 3 (some .int), Cond.methodLink RL 51 yX3_thrown, Cond.instanceMethod yX3_thrown, Cond.selects RX3 yX3_thrown yX3_thrown, Cond.code yX3_thrown cX3_thrown 1 (some .int), Cond.methodLink RL 55 yL_kind, Cond.static yL_kind]
def wsL_law0_r5 : List Cond := [Cond.codeWith yL_kind cL_kind 5 (some .int) [(0, 7, 10, 13)], Cond.methodLink RL 15 yX2_kind, Cond.instanceMethod yX2_kind, Cond.selects RX2 yX2_kind yX2_kind, Cond.code yX2_kind cX2_kind 5 none, Cond.methodLink RX2 48 yX2_changeClass, Cond.instanceMethod yX2_changeClass, Cond.selects RX2 yX2_changeClass yX2_changeClass, Cond.code yX2_changeClass cX2_changeClass 4 none, Cond.methodLink RX2 193 yX1_takeOut, Cond.instanceMethod yX1_takeOut, Cond.selects RX1 yX1_takeOut yX1_takeOut, Cond.code yX1_takeOut cX1_takeOut 3 none, Cond.fieldLink RX1 15 "SharedQueues$Ring" "size" "I", Cond.methodLink RX1 23 arraycopyName, Cond.native arraycopyName, Cond.static arraycopyName, Cond.initialized "java/lang/System", Cond.methodLink RX1 19 yX1_placeOf, Cond.instanceMethod yX1_placeOf, Cond.selects RX1 yX1_placeOf yX1_placeOf, Cond.code yX1_placeOf cX1_placeOf 3 (some .int), Cond.methodLink RX2 187 yX1_putAtEnd, Cond.instanceMethod yX1_putAtEnd]
def wsL_law0_r6 : List Cond := [Cond.selects RX1 yX1_putAtEnd yX1_putAtEnd, Cond.code yX1_putAtEnd cX1_putAtEnd 2 none, Cond.methodLink RL 58 yX3_kind, Cond.instanceMethod yX3_kind, Cond.selects RX3 yX3_kind yX3_kind, Cond.code yX3_kind cX3_kind 4 none, Cond.methodLink RX3 81 yX3_leave, Cond.instanceMethod yX3_leave, Cond.selects RX3 yX3_leave yX3_leave, Cond.code yX3_leave cX3_leave 5 none, Cond.methodLink RX3 77 yX3_placeOf, Cond.instanceMethod yX3_placeOf, Cond.selects RX3 yX3_placeOf yX3_placeOf, Cond.code yX3_placeOf cX3_placeOf 4 (some .int), Cond.methodLink RX3 85 yX3_enter, Cond.instanceMethod yX3_enter, Cond.selects RX3 yX3_enter yX3_enter, Cond.code yX3_enter cX3_enter 3 none, Cond.methodLink RL 59 yL_push, Cond.static yL_push, Cond.codeWith yL_push cL_push 6 (some .int) [(0, 12, 15, 13)], Cond.methodLink RL 19 yX2_push, Cond.instanceMethod yX2_push, Cond.selects RX2 yX2_push yX2_push]
def wsL_law0_r7 : List Cond := [Cond.code yX2_push cX2_push 6 (some .int), Cond.fieldLink RX2 55 "SharedQueues" "refusedAsOver" "I", Cond.fieldLink RX2 72 "SharedQueues" "refusedAsFull" "I", Cond.methodLink RX2 58 yX2_hasRoomFor, Cond.instanceMethod yX2_hasRoomFor, Cond.selects RX2 yX2_hasRoomFor yX2_hasRoomFor, Cond.code yX2_hasRoomFor cX2_hasRoomFor 2 (some .boolean), Cond.methodLink RX2 161 yX2_freeCells, Cond.instanceMethod yX2_freeCells, Cond.selects RX2 yX2_freeCells yX2_freeCells, Cond.code yX2_freeCells cX2_freeCells 6 (some .int), Cond.methodLink RX2 69 yX0_excess, Cond.instanceMethod yX0_excess, Cond.selects RX0 yX0_excess yX0_excess, Cond.code yX0_excess cX0_excess 1 (some .int), Cond.fieldLink RX0 25 "SharedQueues$Queue" "count" "I", Cond.fieldLink RX0 28 "SharedQueues$Queue" "kept" "I", Cond.methodLink RX2 164 yX2_openCells, Cond.instanceMethod yX2_openCells, Cond.selects RX2 yX2_openCells yX2_openCells, Cond.code yX2_openCells cX2_openCells 6 (some .int), Cond.methodLink RX2 177 Lib.Math.min.name, Cond.static Lib.Math.min.name, Cond.initialized "java/lang/Math"]
def wsL_law0_r8 : List Cond := [Cond.code Lib.Math.min.name Lib.Math.min.code 2 (some .int), Cond.methodLink RX2 62 yX2_addItem, Cond.instanceMethod yX2_addItem, Cond.selects RX2 yX2_addItem yX2_addItem, Cond.code yX2_addItem cX2_addItem 5 none, Cond.methodLink RX2 183 yX0_putLast, Cond.instanceMethod yX0_putLast, Cond.selects RX0 yX0_putLast yX0_putLast, Cond.code yX0_putLast cX0_putLast 4 none, Cond.fieldLink RX0 38 "SharedQueues$Queue" "costs" "I", Cond.methodLink RX0 31 yX0_cellOf, Cond.instanceMethod yX0_cellOf, Cond.selects RX0 yX0_cellOf yX0_cellOf, Cond.code yX0_cellOf cX0_cellOf 2 (some .int), Cond.fieldLink RX0 45 "SharedQueues$Queue" "start" "I", Cond.methodLink RX0 55 yJ9_floorMod_7cf53, Cond.static yJ9_floorMod_7cf53, Cond.initialized RJ9, Cond.code yJ9_floorMod_7cf53 cJ9_floorMod_7cf53 3 (some .int), Cond.methodLink RX2 66 yX2_queueOfGreatestExcess, Cond.instanceMethod yX2_queueOfGreatestExcess, Cond.selects RX2 yX2_queueOfGreatestExcess yX2_queueOfGreatestExcess, Cond.code yX2_queueOfGreatestExcess cX2_queueOfGreatestExcess 3 (some .int), Cond.methodLink RX2 75 yX2_loseLastItem]
def wsL_law0_r9 : List Cond := [Cond.instanceMethod yX2_loseLastItem, Cond.selects RX2 yX2_loseLastItem yX2_loseLastItem, Cond.code yX2_loseLastItem cX2_loseLastItem 3 none, Cond.fieldLink RX2 170 "SharedQueues" "lostInAll" "I", Cond.methodLink RX2 190 yX0_dropLast, Cond.instanceMethod yX0_dropLast, Cond.selects RX0 yX0_dropLast yX0_dropLast, Cond.code yX0_dropLast cX0_dropLast 1 none, Cond.methodLink RX0 35 yX0_costAt, Cond.instanceMethod yX0_costAt, Cond.selects RX0 yX0_costAt yX0_costAt, Cond.code yX0_costAt cX0_costAt 2 (some .int), Cond.methodLink RX2 114 yX2_leaveRing, Cond.instanceMethod yX2_leaveRing, Cond.selects RX2 yX2_leaveRing yX2_leaveRing, Cond.code yX2_leaveRing cX2_leaveRing 3 none, Cond.methodLink RL 61 yX3_push, Cond.instanceMethod yX3_push, Cond.selects RX3 yX3_push yX3_push, Cond.code yX3_push cX3_push 5 (some .int), Cond.fieldLink RX3 94 "SharedQueuesModel" "over" "I", Cond.fieldLink RX3 103 "SharedQueuesModel" "full" "I", Cond.methodLink RX3 88 yX3_free, Cond.instanceMethod yX3_free]
def wsL_law0_r10 : List Cond := [Cond.selects RX3 yX3_free yX3_free, Cond.code yX3_free cX3_free 3 (some .int), Cond.methodLink RX3 91 yX3_excess, Cond.instanceMethod yX3_excess, Cond.selects RX3 yX3_excess yX3_excess, Cond.code yX3_excess cX3_excess 2 (some .int), Cond.methodLink RX3 97 yX3_open, Cond.instanceMethod yX3_open, Cond.selects RX3 yX3_open yX3_open, Cond.code yX3_open cX3_open 3 (some .int), Cond.methodLink RX3 100 yX3_greediest, Cond.instanceMethod yX3_greediest, Cond.selects RX3 yX3_greediest yX3_greediest, Cond.code yX3_greediest cX3_greediest 3 (some .int), Cond.methodLink RX3 106 yX3_settle, Cond.instanceMethod yX3_settle, Cond.selects RX3 yX3_settle yX3_settle, Cond.code yX3_settle cX3_settle 2 none, Cond.methodLink RL 62 yX2_serve, Cond.instanceMethod yX2_serve, Cond.selects RX2 yX2_serve yX2_serve, Cond.code yX2_serve cX2_serve 4 (some .int), Cond.methodLink RX2 79 yX2_firstRingWithQueues, Cond.instanceMethod yX2_firstRingWithQueues]
def wsL_law0_r11 : List Cond := [Cond.selects RX2 yX2_firstRingWithQueues yX2_firstRingWithQueues, Cond.code yX2_firstRingWithQueues cX2_firstRingWithQueues 5 (some (.object "SharedQueues$Ring")), Cond.methodLink RX2 83 yX2_placeServedNext, Cond.instanceMethod yX2_placeServedNext, Cond.selects RX2 yX2_placeServedNext yX2_placeServedNext, Cond.code yX2_placeServedNext cX2_placeServedNext 6 (some .int), Cond.methodLink RX2 87 yX1_queueAt, Cond.instanceMethod yX1_queueAt, Cond.selects RX1 yX1_queueAt yX1_queueAt, Cond.code yX1_queueAt cX1_queueAt 2 (some .int), Cond.methodLink RX2 199 yX0_looksInVain, Cond.instanceMethod yX0_looksInVain, Cond.selects RX0 yX0_looksInVain yX0_looksInVain, Cond.code yX0_looksInVain cX0_looksInVain 3 (some .int), Cond.fieldLink RX0 48 "SharedQueues$Queue" "hasTurn" "Z", Cond.fieldLink RX0 52 "SharedQueues$Queue" "deficit" "I", Cond.methodLink RX0 41 yX0_firstCost, Cond.instanceMethod yX0_firstCost, Cond.selects RX0 yX0_firstCost yX0_firstCost, Cond.code yX0_firstCost cX0_firstCost 1 (some .int), Cond.methodLink RX2 91 yX2_bringToFront, Cond.instanceMethod yX2_bringToFront, Cond.selects RX2 yX2_bringToFront yX2_bringToFront, Cond.code yX2_bringToFront cX2_bringToFront 5 none]
def wsL_law0_r12 : List Cond := [Cond.methodLink RX2 202 yX0_lookInVain, Cond.instanceMethod yX0_lookInVain, Cond.selects RX0 yX0_lookInVain yX0_lookInVain, Cond.code yX0_lookInVain cX0_lookInVain 3 none, Cond.methodLink RX2 205 yX1_turnBy, Cond.instanceMethod yX1_turnBy, Cond.selects RX1 yX1_turnBy yX1_turnBy, Cond.code yX1_turnBy cX1_turnBy 4 none, Cond.methodLink RX1 29 yX1_takeOut, Cond.methodLink RX1 33 yX1_putAtEnd, Cond.methodLink RX2 95 yX2_serveFirstItem, Cond.instanceMethod yX2_serveFirstItem, Cond.selects RX2 yX2_serveFirstItem yX2_serveFirstItem, Cond.code yX2_serveFirstItem cX2_serveFirstItem 4 none, Cond.fieldLink RX2 98 "SharedQueues" "lastWord" "I", Cond.fieldLink RX2 167 "SharedQueues" "servedInAll" "I", Cond.methodLink RX2 208 yX0_takeTurn, Cond.instanceMethod yX0_takeTurn, Cond.selects RX0 yX0_takeTurn yX0_takeTurn, Cond.code yX0_takeTurn cX0_takeTurn 1 none, Cond.methodLink RX2 105 yX0_firstCost, Cond.methodLink RX2 155 yX0_wordAt, Cond.instanceMethod yX0_wordAt, Cond.selects RX0 yX0_wordAt yX0_wordAt]
def wsL_law0_r13 : List Cond := [Cond.code yX0_wordAt cX0_wordAt 2 (some .int), Cond.methodLink RX2 211 yX0_dropFirst, Cond.instanceMethod yX0_dropFirst, Cond.selects RX0 yX0_dropFirst yX0_dropFirst, Cond.code yX0_dropFirst cX0_dropFirst 1 none, Cond.methodLink RL 65 yX3_serve, Cond.instanceMethod yX3_serve, Cond.selects RX3 yX3_serve yX3_serve, Cond.code yX3_serve cX3_serve 2 (some .int), Cond.methodLink RX3 112 yX3_find, Cond.instanceMethod yX3_find, Cond.selects RX3 yX3_find yX3_find, Cond.code yX3_find cX3_find 4 (some .int), Cond.methodLink RX3 115 yX3_take, Cond.instanceMethod yX3_take, Cond.selects RX3 yX3_take yX3_take, Cond.code yX3_take cX3_take 4 none, Cond.fieldLink RX3 109 "SharedQueuesModel" "word" "I", Cond.methodLink RL 66 yX2_next, Cond.instanceMethod yX2_next, Cond.selects RX2 yX2_next yX2_next, Cond.code yX2_next cX2_next 2 (some .int), Cond.methodLink RL 69 yX3_next, Cond.instanceMethod yX3_next]
def wsL_law0_r14 : List Cond := [Cond.selects RX3 yX3_next yX3_next, Cond.code yX3_next cX3_next 2 (some .int), Cond.methodLink RX3 118 yX3_keepTurns, Cond.instanceMethod yX3_keepTurns, Cond.selects RX3 yX3_keepTurns yX3_keepTurns, Cond.code yX3_keepTurns cX3_keepTurns 2 none, Cond.methodLink RX3 121 yX3_turnBack, Cond.instanceMethod yX3_turnBack, Cond.selects RX3 yX3_turnBack yX3_turnBack, Cond.code yX3_turnBack cX3_turnBack 2 none, Cond.methodLink RL 70 yX2_word, Cond.instanceMethod yX2_word, Cond.selects RX2 yX2_word yX2_word, Cond.code yX2_word cX2_word 1 (some .int), Cond.methodLink RL 73 yX3_word, Cond.instanceMethod yX3_word, Cond.selects RX3 yX3_word yX3_word, Cond.code yX3_word cX3_word 1 (some .int), Cond.methodLink RL 74 yL_serveUpTo, Cond.static yL_serveUpTo, Cond.codeWith yL_serveUpTo cL_serveUpTo 4 (some .int) [(0, 9, 12, 13)], Cond.methodLink RL 22 yX2_serveUpTo, Cond.instanceMethod yX2_serveUpTo, Cond.selects RX2 yX2_serveUpTo yX2_serveUpTo]
def wsL_law0_r15 : List Cond := [Cond.code yX2_serveUpTo cX2_serveUpTo 6 (some .int), Cond.constant RX2 101 (100000), Cond.methodLink RX2 102 yX2_next, Cond.methodLink RX2 108 yX2_serve, Cond.methodLink RL 77 yX3_serveUpTo, Cond.instanceMethod yX3_serveUpTo, Cond.selects RX3 yX3_serveUpTo yX3_serveUpTo, Cond.code yX3_serveUpTo cX3_serveUpTo 6 (some .int), Cond.constant RX3 124 (100000), Cond.methodLink RL 78 yL_empty, Cond.static yL_empty, Cond.codeWith yL_empty cL_empty 4 (some .int) [(0, 9, 12, 13)], Cond.methodLink RL 26 yX2_empty, Cond.instanceMethod yX2_empty, Cond.selects RX2 yX2_empty yX2_empty, Cond.code yX2_empty cX2_empty 4 (some .int), Cond.methodLink RX2 111 yX0_dropAll, Cond.instanceMethod yX0_dropAll, Cond.selects RX0 yX0_dropAll yX0_dropAll, Cond.code yX0_dropAll cX0_dropAll 1 none, Cond.methodLink RL 80 yX3_empty, Cond.instanceMethod yX3_empty, Cond.selects RX3 yX3_empty yX3_empty, Cond.code yX3_empty cX3_empty 3 (some .int)]
def wsL_law0_r16 : List Cond := [Cond.methodLink RL 81 yL_told, Cond.static yL_told, Cond.codeWith yL_told cL_told 5 (some .int) [(0, 10, 13, 13)], Cond.methodLink RL 29 yX2_told, Cond.instanceMethod yX2_told, Cond.selects RX2 yX2_told yX2_told, Cond.code yX2_told cX2_told 4 (some .int), Cond.methodLink RX2 125 yX1_placeOf, Cond.methodLink RL 84 yX3_told, Cond.instanceMethod yX3_told, Cond.selects RX3 yX3_told yX3_told, Cond.code yX3_told cX3_told 3 (some .int), Cond.methodLink RX3 125 yX3_costOf, Cond.instanceMethod yX3_costOf, Cond.selects RX3 yX3_costOf yX3_costOf, Cond.code yX3_costOf cX3_costOf 4 (some .int), Cond.methodLink RL 85 yL_item, Cond.static yL_item, Cond.codeWith yL_item cL_item 6 (some .int) [(0, 12, 15, 13), (0, 12, 19, 36)], Cond.classLink RL 36 "java/lang/IndexOutOfBoundsException", Cond.methodLink RL 33 yX2_item, Cond.instanceMethod yX2_item, Cond.selects RX2 yX2_item yX2_item, Cond.code yX2_item cX2_item 5 (some .int)]
def wsL_law0_r17 : List Cond := [Cond.classLink RX2 150 "java/lang/IndexOutOfBoundsException", Cond.initialized "java/lang/IndexOutOfBoundsException", Cond.methodLink RX2 158 yX0_costAt, Cond.methodLink RL 87 yX3_item, Cond.instanceMethod yX3_item, Cond.selects RX3 yX3_item yX3_item, Cond.code yX3_item cX3_item 4 (some .int), Cond.methodLink RL 88 yL_all, Cond.static yL_all, Cond.codeWith yL_all cL_all 4 (some .int) [(0, 9, 12, 13)], Cond.methodLink RL 38 yX2_all, Cond.instanceMethod yX2_all, Cond.selects RX2 yX2_all yX2_all, Cond.code yX2_all cX2_all 2 (some .int), Cond.methodLink RL 90 yX3_all, Cond.instanceMethod yX3_all, Cond.selects RX3 yX3_all yX3_all, Cond.code yX3_all cX3_all 4 (some .int)]
def wsL_law0 : List Cond := (wsL_law0_r1 ++ (wsL_law0_r2 ++ (wsL_law0_r3 ++ (wsL_law0_r4 ++ (wsL_law0_r5 ++ (wsL_law0_r6 ++ (wsL_law0_r7 ++ (wsL_law0_r8 ++ (wsL_law0_r9 ++ (wsL_law0_r10 ++ (wsL_law0_r11 ++ (wsL_law0_r12 ++ (wsL_law0_r13 ++ (wsL_law0_r14 ++ (wsL_law0_r15 ++ (wsL_law0_r16 ++ wsL_law0_r17)))))))))))))))) ++ wsX20 ++ wsX30 ++ wsX00 ++ wsX10 ++ ([] : List Cond)
def wsL_law : List Cond := wsL_law0 ++ (vx_atS RX2 147 "java/lang/IllegalArgumentException" ["java/lang/RuntimeException", "java/lang/Exception"]).filter goodWord ++ (vx_atS RX2 154 "java/lang/IndexOutOfBoundsException" ["java/lang/RuntimeException", "java/lang/Exception"]).filter goodWord
theorem zl_mem {big ws : List Cond} (ps : List Nat) (h : ws.map some = ps.map (fun i => big[i]?)) : ∀ w ∈ ws, w ∈ big := by
  intro w hw
  have h1 : some w ∈ ws.map some := List.mem_map.mpr ⟨w, hw, rfl⟩
  rw [h] at h1
  obtain ⟨i, -, hi⟩ := List.mem_map.mp h1
  exact List.mem_of_getElem? hi
set_option maxRecDepth 100000 in
theorem zl_r1 : ∀ w ∈ wsL_law0_r1, w ∈ lw_tbl := zl_mem [42, 43, 31, 447, 448, 34, 629, 44, 45, 46, 47, 48, 49, 50, 126, 52, 127, 54, 32, 113, 33, 56, 57, 58] rfl
set_option maxRecDepth 100000 in
theorem zl_r2 : ∀ w ∈ wsL_law0_r2, w ∈ lw_tbl := zl_mem [112, 59, 60, 67, 69, 115, 116, 117, 118, 449, 450, 451, 452, 454, 455, 456, 457, 458, 459, 520, 460, 461, 462, 463] rfl
set_option maxRecDepth 100000 in
theorem zl_r3 : ∀ w ∈ wsL_law0_r3, w ∈ lw_tbl := zl_mem [464, 465, 466, 467, 468, 472, 473, 474, 240, 241, 30, 242, 243, 244, 245, 246, 247, 248, 250, 6, 251, 252, 38, 319] rfl
set_option maxRecDepth 100000 in
theorem zl_r4 : ∀ w ∈ wsL_law0_r4, w ∈ lw_tbl := zl_mem [320, 321, 323, 325, 8, 326, 525, 526, 527, 528, 453, 529, 530, 531, 532, 534, 16, 535, 521, 522, 523, 524, 327, 328] rfl
set_option maxRecDepth 100000 in
theorem zl_r5 : ∀ w ∈ wsL_law0_r5, w ∈ lw_tbl := zl_mem [329, 330, 331, 332, 333, 334, 336, 9, 337, 231, 196, 197, 198, 119, 203, 205, 204, 39, 199, 200, 201, 202, 338, 207] rfl
set_option maxRecDepth 100000 in
theorem zl_r6 : ∀ w ∈ wsL_law0_r6, w ∈ lw_tbl := zl_mem [208, 209, 536, 537, 538, 539, 540, 542, 17, 543, 544, 546, 18, 547, 548, 550, 19, 551, 339, 340, 341, 342, 343, 344] rfl
set_option maxRecDepth 100000 in
theorem zl_r7 : ∀ w ∈ wsL_law0_r7, w ∈ lw_tbl := zl_mem [345, 131, 132, 346, 348, 10, 349, 350, 352, 11, 353, 354, 355, 356, 357, 62, 71, 358, 360, 12, 361, 362, 363, 40] rfl
set_option maxRecDepth 100000 in
theorem zl_r8 : ∀ w ∈ wsL_law0_r8, w ∈ lw_tbl := zl_mem [364, 365, 367, 13, 368, 369, 370, 371, 372, 64, 176, 178, 2, 179, 61, 180, 181, 40, 182, 373, 375, 14, 376, 377] rfl
set_option maxRecDepth 100000 in
theorem zl_r9 : ∀ w ∈ wsL_law0_r9, w ∈ lw_tbl := zl_mem [379, 15, 380, 130, 381, 382, 383, 384, 172, 173, 174, 175, 227, 229, 5, 230, 552, 553, 554, 555, 470, 471, 556, 558] rfl
set_option maxRecDepth 100000 in
theorem zl_r10 : ∀ w ∈ wsL_law0_r10, w ∈ lw_tbl := zl_mem [20, 559, 560, 562, 21, 563, 564, 566, 22, 567, 568, 570, 23, 571, 572, 574, 24, 575, 148, 149, 150, 151, 152, 154] rfl
set_option maxRecDepth 100000 in
theorem zl_r11 : ∀ w ∈ wsL_law0_r11, w ∈ lw_tbl := zl_mem [0, 155, 156, 158, 1, 159, 160, 161, 162, 163, 164, 165, 166, 167, 75, 73, 168, 169, 170, 171, 183, 185, 3, 186] rfl
set_option maxRecDepth 100000 in
theorem zl_r12 : ∀ w ∈ wsL_law0_r12, w ∈ lw_tbl := zl_mem [187, 188, 189, 190, 191, 192, 193, 194, 195, 206, 210, 212, 4, 213, 128, 129, 214, 215, 216, 217, 218, 219, 220, 221] rfl
set_option maxRecDepth 100000 in
theorem zl_r13 : ∀ w ∈ wsL_law0_r13, w ∈ lw_tbl := zl_mem [222, 223, 224, 225, 226, 576, 577, 578, 579, 580, 582, 25, 583, 584, 586, 26, 587, 469, 232, 233, 234, 235, 588, 589] rfl
set_option maxRecDepth 100000 in
theorem zl_r14 : ∀ w ∈ wsL_law0_r14, w ∈ lw_tbl := zl_mem [590, 591, 592, 594, 27, 595, 596, 598, 28, 599, 236, 237, 238, 239, 600, 601, 602, 603, 385, 386, 387, 388, 389, 390] rfl
set_option maxRecDepth 100000 in
theorem zl_r15 : ∀ w ∈ wsL_law0_r15, w ∈ lw_tbl := zl_mem [391, 392, 393, 394, 604, 605, 606, 607, 608, 395, 396, 397, 398, 399, 400, 401, 402, 403, 404, 405, 609, 610, 611, 612] rfl
set_option maxRecDepth 100000 in
theorem zl_r16 : ∀ w ∈ wsL_law0_r16, w ∈ lw_tbl := zl_mem [406, 407, 408, 409, 410, 411, 412, 413, 613, 614, 615, 616, 617, 619, 29, 620, 415, 416, 417, 418, 419, 420, 421, 422] rfl
set_option maxRecDepth 100000 in
theorem zl_r17 : ∀ w ∈ wsL_law0_r17, w ∈ lw_tbl := zl_mem [423, 41, 439, 621, 622, 623, 624, 440, 441, 442, 443, 444, 445, 446, 625, 626, 627, 628] rfl
set_option maxRecDepth 100000 in
theorem zl_X20 : ∀ w ∈ wsX20, w ∈ lw_tbl := by decide +kernel
set_option maxRecDepth 100000 in
theorem zl_X30 : ∀ w ∈ wsX30, w ∈ lw_tbl := by decide +kernel
set_option maxRecDepth 100000 in
theorem zl_X00 : ∀ w ∈ wsX00, w ∈ lw_tbl := by decide +kernel
set_option maxRecDepth 100000 in
theorem zl_X10 : ∀ w ∈ wsX10, w ∈ lw_tbl := by decide +kernel
theorem zl_rr : ∀ w ∈ (wsL_law0_r1 ++ (wsL_law0_r2 ++ (wsL_law0_r3 ++ (wsL_law0_r4 ++ (wsL_law0_r5 ++ (wsL_law0_r6 ++ (wsL_law0_r7 ++ (wsL_law0_r8 ++ (wsL_law0_r9 ++ (wsL_law0_r10 ++ (wsL_law0_r11 ++ (wsL_law0_r12 ++ (wsL_law0_r13 ++ (wsL_law0_r14 ++ (wsL_law0_r15 ++ (wsL_law0_r16 ++ wsL_law0_r17)))))))))))))))), w ∈ lw_tbl := fun w h => (List.mem_append.mp h).elim (fun h => zl_r1 w h) (fun h => (List.mem_append.mp h).elim (fun h => zl_r2 w h) (fun h => (List.mem_append.mp h).elim (fun h => zl_r3 w h) (fun h => (List.mem_append.mp h).elim (fun h => zl_r4 w h) (fun h => (List.mem_append.mp h).elim (fun h => zl_r5 w h) (fun h => (List.mem_append.mp h).elim (fun h => zl_r6 w h) (fun h => (List.mem_append.mp h).elim (fun h => zl_r7 w h) (fun h => (List.mem_append.mp h).elim (fun h => zl_r8 w h) (fun h => (List.mem_append.mp h).elim (fun h => zl_r9 w h) (fun h => (List.mem_append.mp h).elim (fun h => zl_r10 w h) (fun h => (List.mem_append.mp h).elim (fun h => zl_r11 w h) (fun h => (List.mem_append.mp h).elim (fun h => zl_r12 w h) (fun h => (List.mem_append.mp h).elim (fun h => zl_r13 w h) (fun h => (List.mem_append.mp h).elim (fun h => zl_r14 w h) (fun h => (List.mem_append.mp h).elim (fun h => zl_r15 w h) (fun h => (List.mem_append.mp h).elim (fun h => zl_r16 w h) (fun h => zl_r17 w h))))))))))))))))
theorem wsL_law_in0 : ∀ w ∈ wsL_law0, w ∈ lw_tbl := fun w h => (List.mem_append.mp h).elim (fun h => (List.mem_append.mp h).elim (fun h => (List.mem_append.mp h).elim (fun h => (List.mem_append.mp h).elim (fun h => (List.mem_append.mp h).elim (fun h => zl_rr w h) (fun h => zl_X20 w h)) (fun h => zl_X30 w h)) (fun h => zl_X00 w h)) (fun h => zl_X10 w h)) (fun h => absurd h List.not_mem_nil)
theorem wsL_law_x0 : ∀ w ∈ (vx_atS RX2 147 "java/lang/IllegalArgumentException" ["java/lang/RuntimeException", "java/lang/Exception"]).filter goodWord, w ∈ lw_tbl := by decide +kernel
theorem wsL_law_x1 : ∀ w ∈ (vx_atS RX2 154 "java/lang/IndexOutOfBoundsException" ["java/lang/RuntimeException", "java/lang/Exception"]).filter goodWord, w ∈ lw_tbl := by decide +kernel
theorem wsL_law_in : ∀ w ∈ wsL_law, w ∈ lw_tbl := fun w h => (List.mem_append.mp h).elim (fun h => (List.mem_append.mp h).elim (fun h => wsL_law_in0 w h) (fun h => wsL_law_x0 w h)) (fun h => wsL_law_x1 w h)
theorem inlX0 : ∀ w ∈ wsX00, w ∈ wsL_law := fun _ h => List.mem_append_left _ (List.mem_append_left _ (List.mem_append_left _ (List.mem_append_left _ (List.mem_append_right _ h))))
theorem inX0 : ∀ w ∈ wsX00, w ∈ lw_tbl := fun w h => wsL_law_in w (inlX0 w h)
theorem inlX1 : ∀ w ∈ wsX10, w ∈ wsL_law := fun _ h => List.mem_append_left _ (List.mem_append_left _ (List.mem_append_left _ (List.mem_append_right _ h)))
theorem inX1 : ∀ w ∈ wsX10, w ∈ lw_tbl := fun w h => wsL_law_in w (inlX1 w h)
theorem inlX2 : ∀ w ∈ wsX20, w ∈ wsL_law := fun _ h => List.mem_append_left _ (List.mem_append_left _ (List.mem_append_left _ (List.mem_append_left _ (List.mem_append_left _ (List.mem_append_left _ (List.mem_append_right _ h))))))
theorem inX2 : ∀ w ∈ wsX20, w ∈ lw_tbl := fun w h => wsL_law_in w (inlX2 w h)
theorem inlX3 : ∀ w ∈ wsX30, w ∈ wsL_law := fun _ h => List.mem_append_left _ (List.mem_append_left _ (List.mem_append_left _ (List.mem_append_left _ (List.mem_append_left _ (List.mem_append_right _ h)))))
theorem inX3 : ∀ w ∈ wsX30, w ∈ lw_tbl := fun w h => wsL_law_in w (inlX3 w h)
theorem inJ9 : ∀ w ∈ wsJ90, w ∈ lw_tbl := by decide +kernel
theorem inJ0 : ∀ w ∈ wsJ00, w ∈ lw_tbl := by decide +kernel
theorem inJ10 : ∀ w ∈ wsJ100, w ∈ lw_tbl := by decide +kernel
end
section
theorem dX0_init_0 : decode cX0_init 0 = .ok (.aload_n 0, 1) := by decide +kernel
theorem dX0_init_1 : decode cX0_init 1 = .ok (.invokespecial 3, 3) := by decide +kernel
theorem dX0_init_4 : decode cX0_init 4 = .ok (.aload_n 0, 1) := by decide +kernel
theorem dX0_init_5 : decode cX0_init 5 = .ok (.bipush 96, 2) := by decide +kernel
theorem dX0_init_7 : decode cX0_init 7 = .ok (.newarray .int, 2) := by decide +kernel
theorem dX0_init_9 : decode cX0_init 9 = .ok (.putfield 9, 3) := by decide +kernel
theorem dX0_init_12 : decode cX0_init 12 = .ok (.aload_n 0, 1) := by decide +kernel
theorem dX0_init_13 : decode cX0_init 13 = .ok (.bipush 96, 2) := by decide +kernel
theorem dX0_init_15 : decode cX0_init 15 = .ok (.newarray .int, 2) := by decide +kernel
theorem dX0_init_17 : decode cX0_init 17 = .ok (.putfield 15, 3) := by decide +kernel
theorem dX0_init_20 : decode cX0_init 20 = .ok (.aload_n 0, 1) := by decide +kernel
theorem dX0_init_21 : decode cX0_init 21 = .ok (.iconst 1, 1) := by decide +kernel
theorem dX0_init_22 : decode cX0_init 22 = .ok (.putfield 18, 3) := by decide +kernel
theorem dX0_init_25 : decode cX0_init 25 = .ok (.aload_n 0, 1) := by decide +kernel
theorem dX0_init_26 : decode cX0_init 26 = .ok (.bipush 96, 2) := by decide +kernel
theorem dX0_init_28 : decode cX0_init 28 = .ok (.putfield 22, 3) := by decide +kernel
theorem dX0_init_31 : decode cX0_init 31 = .ok (.return_, 1) := by decide +kernel
theorem dX0_excess_0 : decode cX0_excess 0 = .ok (.aload_n 0, 1) := by decide +kernel
theorem dX0_excess_1 : decode cX0_excess 1 = .ok (.getfield 25, 3) := by decide +kernel
theorem dX0_excess_4 : decode cX0_excess 4 = .ok (.aload_n 0, 1) := by decide +kernel
theorem dX0_excess_5 : decode cX0_excess 5 = .ok (.getfield 28, 3) := by decide +kernel
theorem dX0_excess_8 : decode cX0_excess 8 = .ok (.isub, 1) := by decide +kernel
theorem dX0_excess_9 : decode cX0_excess 9 = .ok (.ireturn, 1) := by decide +kernel
set_option maxRecDepth 20000 in
theorem ggX0_wordAt_X0_cellOf : GoodIn wsX0_wordAt wsX0_cellOf := goodIn_r _ [6, 7, 8, 9, 10, 11, 12, 13, 14, 15, 16, 17, 18, 19, 20, 21, 22, 23, 24, 25, 26] (by decide +kernel) (by decide +kernel)
set_option maxRecDepth 20000 in
theorem gX0_wordAt_X0_cellOf : GoodIn wsX0_wordAt (wsV RX0 31 RX0 yX0_cellOf wsX0_cellOf) := goodIn_app (goodIn_of _ (by decide +kernel)) ggX0_wordAt_X0_cellOf
theorem dX0_wordAt_0 : decode cX0_wordAt 0 = .ok (.aload_n 0, 1) := by decide +kernel
theorem dX0_wordAt_1 : decode cX0_wordAt 1 = .ok (.getfield 9, 3) := by decide +kernel
theorem dX0_wordAt_4 : decode cX0_wordAt 4 = .ok (.aload_n 0, 1) := by decide +kernel
theorem dX0_wordAt_5 : decode cX0_wordAt 5 = .ok (.iload_n 1, 1) := by decide +kernel
theorem dX0_wordAt_6 : decode cX0_wordAt 6 = .ok (.invokevirtual 31, 3) := by decide +kernel
theorem dX0_wordAt_9 : decode cX0_wordAt 9 = .ok (.iaload, 1) := by decide +kernel
theorem dX0_wordAt_10 : decode cX0_wordAt 10 = .ok (.ireturn, 1) := by decide +kernel
set_option maxRecDepth 20000 in
theorem ggX0_costAt_X0_cellOf : GoodIn wsX0_costAt wsX0_cellOf := goodIn_r _ [6, 7, 8, 9, 10, 11, 12, 13, 14, 15, 16, 17, 18, 19, 20, 21, 22, 23, 24, 25, 26] (by decide +kernel) (by decide +kernel)
set_option maxRecDepth 20000 in
theorem gX0_costAt_X0_cellOf : GoodIn wsX0_costAt (wsV RX0 31 RX0 yX0_cellOf wsX0_cellOf) := goodIn_app (goodIn_of _ (by decide +kernel)) ggX0_costAt_X0_cellOf
theorem dX0_costAt_0 : decode cX0_costAt 0 = .ok (.aload_n 0, 1) := by decide +kernel
theorem dX0_costAt_1 : decode cX0_costAt 1 = .ok (.getfield 15, 3) := by decide +kernel
theorem dX0_costAt_4 : decode cX0_costAt 4 = .ok (.aload_n 0, 1) := by decide +kernel
theorem dX0_costAt_5 : decode cX0_costAt 5 = .ok (.iload_n 1, 1) := by decide +kernel
theorem dX0_costAt_6 : decode cX0_costAt 6 = .ok (.invokevirtual 31, 3) := by decide +kernel
theorem dX0_costAt_9 : decode cX0_costAt 9 = .ok (.iaload, 1) := by decide +kernel
theorem dX0_costAt_10 : decode cX0_costAt 10 = .ok (.ireturn, 1) := by decide +kernel
set_option maxRecDepth 20000 in
theorem ggX0_firstCost_X0_costAt : GoodIn wsX0_firstCost wsX0_costAt := goodIn_r _ [5, 6, 7, 8, 9, 4, 10, 11, 12, 13, 14, 15, 16, 17, 18, 19, 20, 21, 22, 23, 24, 25, 26, 27, 28, 29, 30] (by decide +kernel) (by decide +kernel)
set_option maxRecDepth 20000 in
theorem gX0_firstCost_X0_costAt : GoodIn wsX0_firstCost (wsV RX0 35 RX0 yX0_costAt wsX0_costAt) := goodIn_app (goodIn_of _ (by decide +kernel)) ggX0_firstCost_X0_costAt
theorem dX0_firstCost_0 : decode cX0_firstCost 0 = .ok (.aload_n 0, 1) := by decide +kernel
theorem dX0_firstCost_1 : decode cX0_firstCost 1 = .ok (.iconst 0, 1) := by decide +kernel
theorem dX0_firstCost_2 : decode cX0_firstCost 2 = .ok (.invokevirtual 35, 3) := by decide +kernel
theorem dX0_firstCost_5 : decode cX0_firstCost 5 = .ok (.ireturn, 1) := by decide +kernel
set_option maxRecDepth 20000 in
theorem ggX0_putLast_X0_cellOf : GoodIn wsX0_putLast wsX0_cellOf := goodIn_r _ [9, 10, 11, 12, 13, 14, 15, 16, 17, 18, 19, 20, 21, 22, 23, 24, 25, 26, 27, 28, 29] (by decide +kernel) (by decide +kernel)
set_option maxRecDepth 20000 in
theorem gX0_putLast_X0_cellOf : GoodIn wsX0_putLast (wsV RX0 31 RX0 yX0_cellOf wsX0_cellOf) := goodIn_app (goodIn_of _ (by decide +kernel)) ggX0_putLast_X0_cellOf
theorem dX0_putLast_0 : decode cX0_putLast 0 = .ok (.aload_n 0, 1) := by decide +kernel
theorem dX0_putLast_1 : decode cX0_putLast 1 = .ok (.aload_n 0, 1) := by decide +kernel
theorem dX0_putLast_2 : decode cX0_putLast 2 = .ok (.getfield 25, 3) := by decide +kernel
theorem dX0_putLast_5 : decode cX0_putLast 5 = .ok (.invokevirtual 31, 3) := by decide +kernel
theorem dX0_putLast_8 : decode cX0_putLast 8 = .ok (.istore_n 3, 1) := by decide +kernel
theorem dX0_putLast_9 : decode cX0_putLast 9 = .ok (.aload_n 0, 1) := by decide +kernel
theorem dX0_putLast_10 : decode cX0_putLast 10 = .ok (.getfield 9, 3) := by decide +kernel
theorem dX0_putLast_13 : decode cX0_putLast 13 = .ok (.iload_n 3, 1) := by decide +kernel
theorem dX0_putLast_14 : decode cX0_putLast 14 = .ok (.iload_n 1, 1) := by decide +kernel
theorem dX0_putLast_15 : decode cX0_putLast 15 = .ok (.iastore, 1) := by decide +kernel
theorem dX0_putLast_16 : decode cX0_putLast 16 = .ok (.aload_n 0, 1) := by decide +kernel
theorem dX0_putLast_17 : decode cX0_putLast 17 = .ok (.getfield 15, 3) := by decide +kernel
theorem dX0_putLast_20 : decode cX0_putLast 20 = .ok (.iload_n 3, 1) := by decide +kernel
theorem dX0_putLast_21 : decode cX0_putLast 21 = .ok (.iload_n 2, 1) := by decide +kernel
theorem dX0_putLast_22 : decode cX0_putLast 22 = .ok (.iastore, 1) := by decide +kernel
theorem dX0_putLast_23 : decode cX0_putLast 23 = .ok (.aload_n 0, 1) := by decide +kernel
theorem dX0_putLast_24 : decode cX0_putLast 24 = .ok (.dup, 1) := by decide +kernel
theorem dX0_putLast_25 : decode cX0_putLast 25 = .ok (.getfield 38, 3) := by decide +kernel
theorem dX0_putLast_28 : decode cX0_putLast 28 = .ok (.iload_n 2, 1) := by decide +kernel
theorem dX0_putLast_29 : decode cX0_putLast 29 = .ok (.iadd, 1) := by decide +kernel
theorem dX0_putLast_30 : decode cX0_putLast 30 = .ok (.putfield 38, 3) := by decide +kernel
theorem dX0_putLast_33 : decode cX0_putLast 33 = .ok (.aload_n 0, 1) := by decide +kernel
theorem dX0_putLast_34 : decode cX0_putLast 34 = .ok (.dup, 1) := by decide +kernel
theorem dX0_putLast_35 : decode cX0_putLast 35 = .ok (.getfield 25, 3) := by decide +kernel
theorem dX0_putLast_38 : decode cX0_putLast 38 = .ok (.iconst 1, 1) := by decide +kernel
theorem dX0_putLast_39 : decode cX0_putLast 39 = .ok (.iadd, 1) := by decide +kernel
theorem dX0_putLast_40 : decode cX0_putLast 40 = .ok (.putfield 25, 3) := by decide +kernel
theorem dX0_putLast_43 : decode cX0_putLast 43 = .ok (.return_, 1) := by decide +kernel
set_option maxRecDepth 20000 in
theorem ggX0_dropFirst_X0_firstCost : GoodIn wsX0_dropFirst wsX0_firstCost := goodIn_r _ [8, 9, 10, 11, 7, 12, 13, 14, 15, 16, 17, 2, 18, 19, 20, 21, 22, 23, 24, 25, 26, 27, 28, 29, 30, 31, 32, 33, 34, 35, 36] (by decide +kernel) (by decide +kernel)
set_option maxRecDepth 20000 in
theorem gX0_dropFirst_X0_firstCost : GoodIn wsX0_dropFirst (wsV RX0 41 RX0 yX0_firstCost wsX0_firstCost) := goodIn_app (goodIn_of _ (by decide +kernel)) ggX0_dropFirst_X0_firstCost
set_option maxRecDepth 20000 in
theorem ggX0_dropFirst_X0_cellOf : GoodIn wsX0_dropFirst wsX0_cellOf := goodIn_r _ [17, 2, 18, 19, 20, 21, 22, 23, 24, 25, 26, 27, 28, 29, 30, 31, 32, 33, 34, 35, 36] (by decide +kernel) (by decide +kernel)
set_option maxRecDepth 20000 in
theorem gX0_dropFirst_X0_cellOf : GoodIn wsX0_dropFirst (wsV RX0 31 RX0 yX0_cellOf wsX0_cellOf) := goodIn_app (goodIn_of _ (by decide +kernel)) ggX0_dropFirst_X0_cellOf
theorem dX0_dropFirst_0 : decode cX0_dropFirst 0 = .ok (.aload_n 0, 1) := by decide +kernel
theorem dX0_dropFirst_1 : decode cX0_dropFirst 1 = .ok (.dup, 1) := by decide +kernel
theorem dX0_dropFirst_2 : decode cX0_dropFirst 2 = .ok (.getfield 38, 3) := by decide +kernel
theorem dX0_dropFirst_5 : decode cX0_dropFirst 5 = .ok (.aload_n 0, 1) := by decide +kernel
theorem dX0_dropFirst_6 : decode cX0_dropFirst 6 = .ok (.invokevirtual 41, 3) := by decide +kernel
theorem dX0_dropFirst_9 : decode cX0_dropFirst 9 = .ok (.isub, 1) := by decide +kernel
theorem dX0_dropFirst_10 : decode cX0_dropFirst 10 = .ok (.putfield 38, 3) := by decide +kernel
theorem dX0_dropFirst_13 : decode cX0_dropFirst 13 = .ok (.aload_n 0, 1) := by decide +kernel
theorem dX0_dropFirst_14 : decode cX0_dropFirst 14 = .ok (.aload_n 0, 1) := by decide +kernel
theorem dX0_dropFirst_15 : decode cX0_dropFirst 15 = .ok (.iconst 1, 1) := by decide +kernel
theorem dX0_dropFirst_16 : decode cX0_dropFirst 16 = .ok (.invokevirtual 31, 3) := by decide +kernel
theorem dX0_dropFirst_19 : decode cX0_dropFirst 19 = .ok (.putfield 45, 3) := by decide +kernel
theorem dX0_dropFirst_22 : decode cX0_dropFirst 22 = .ok (.aload_n 0, 1) := by decide +kernel
theorem dX0_dropFirst_23 : decode cX0_dropFirst 23 = .ok (.dup, 1) := by decide +kernel
theorem dX0_dropFirst_24 : decode cX0_dropFirst 24 = .ok (.getfield 25, 3) := by decide +kernel
theorem dX0_dropFirst_27 : decode cX0_dropFirst 27 = .ok (.iconst 1, 1) := by decide +kernel
theorem dX0_dropFirst_28 : decode cX0_dropFirst 28 = .ok (.isub, 1) := by decide +kernel
theorem dX0_dropFirst_29 : decode cX0_dropFirst 29 = .ok (.putfield 25, 3) := by decide +kernel
theorem dX0_dropFirst_32 : decode cX0_dropFirst 32 = .ok (.return_, 1) := by decide +kernel
set_option maxRecDepth 20000 in
theorem ggX0_dropLast_X0_costAt : GoodIn wsX0_dropLast wsX0_costAt := goodIn_r _ [7, 8, 9, 10, 11, 6, 12, 13, 14, 15, 16, 17, 18, 19, 20, 21, 22, 23, 24, 25, 26, 27, 28, 29, 30, 31, 32] (by decide +kernel) (by decide +kernel)
set_option maxRecDepth 20000 in
theorem gX0_dropLast_X0_costAt : GoodIn wsX0_dropLast (wsV RX0 35 RX0 yX0_costAt wsX0_costAt) := goodIn_app (goodIn_of _ (by decide +kernel)) ggX0_dropLast_X0_costAt
theorem dX0_dropLast_0 : decode cX0_dropLast 0 = .ok (.aload_n 0, 1) := by decide +kernel
theorem dX0_dropLast_1 : decode cX0_dropLast 1 = .ok (.dup, 1) := by decide +kernel
theorem dX0_dropLast_2 : decode cX0_dropLast 2 = .ok (.getfield 38, 3) := by decide +kernel
theorem dX0_dropLast_5 : decode cX0_dropLast 5 = .ok (.aload_n 0, 1) := by decide +kernel
theorem dX0_dropLast_6 : decode cX0_dropLast 6 = .ok (.aload_n 0, 1) := by decide +kernel
theorem dX0_dropLast_7 : decode cX0_dropLast 7 = .ok (.getfield 25, 3) := by decide +kernel
theorem dX0_dropLast_10 : decode cX0_dropLast 10 = .ok (.iconst 1, 1) := by decide +kernel
theorem dX0_dropLast_11 : decode cX0_dropLast 11 = .ok (.isub, 1) := by decide +kernel
theorem dX0_dropLast_12 : decode cX0_dropLast 12 = .ok (.invokevirtual 35, 3) := by decide +kernel
theorem dX0_dropLast_15 : decode cX0_dropLast 15 = .ok (.isub, 1) := by decide +kernel
theorem dX0_dropLast_16 : decode cX0_dropLast 16 = .ok (.putfield 38, 3) := by decide +kernel
theorem dX0_dropLast_19 : decode cX0_dropLast 19 = .ok (.aload_n 0, 1) := by decide +kernel
theorem dX0_dropLast_20 : decode cX0_dropLast 20 = .ok (.dup, 1) := by decide +kernel
theorem dX0_dropLast_21 : decode cX0_dropLast 21 = .ok (.getfield 25, 3) := by decide +kernel
theorem dX0_dropLast_24 : decode cX0_dropLast 24 = .ok (.iconst 1, 1) := by decide +kernel
theorem dX0_dropLast_25 : decode cX0_dropLast 25 = .ok (.isub, 1) := by decide +kernel
theorem dX0_dropLast_26 : decode cX0_dropLast 26 = .ok (.putfield 25, 3) := by decide +kernel
theorem dX0_dropLast_29 : decode cX0_dropLast 29 = .ok (.return_, 1) := by decide +kernel
theorem dX0_dropAll_0 : decode cX0_dropAll 0 = .ok (.aload_n 0, 1) := by decide +kernel
theorem dX0_dropAll_1 : decode cX0_dropAll 1 = .ok (.iconst 0, 1) := by decide +kernel
theorem dX0_dropAll_2 : decode cX0_dropAll 2 = .ok (.putfield 38, 3) := by decide +kernel
theorem dX0_dropAll_5 : decode cX0_dropAll 5 = .ok (.aload_n 0, 1) := by decide +kernel
theorem dX0_dropAll_6 : decode cX0_dropAll 6 = .ok (.iconst 0, 1) := by decide +kernel
theorem dX0_dropAll_7 : decode cX0_dropAll 7 = .ok (.putfield 25, 3) := by decide +kernel
theorem dX0_dropAll_10 : decode cX0_dropAll 10 = .ok (.return_, 1) := by decide +kernel
set_option maxRecDepth 20000 in
theorem ggX0_looksInVain_X0_firstCost : GoodIn wsX0_looksInVain wsX0_firstCost := goodIn_r _ [8, 9, 10, 11, 7, 12, 13, 14, 15, 16, 17, 18, 19, 20, 21, 22, 23, 24, 25, 26, 27, 28, 29, 30, 31, 32, 33, 34, 35, 36, 37] (by decide +kernel) (by decide +kernel)
set_option maxRecDepth 20000 in
theorem gX0_looksInVain_X0_firstCost : GoodIn wsX0_looksInVain (wsV RX0 41 RX0 yX0_firstCost wsX0_firstCost) := goodIn_app (goodIn_of _ (by decide +kernel)) ggX0_looksInVain_X0_firstCost
theorem dX0_looksInVain_0 : decode cX0_looksInVain 0 = .ok (.aload_n 0, 1) := by decide +kernel
theorem dX0_looksInVain_1 : decode cX0_looksInVain 1 = .ok (.getfield 48, 3) := by decide +kernel
theorem dX0_looksInVain_4 : decode cX0_looksInVain 4 = .ok (.ifCond .eq 10, 3) := by decide +kernel
theorem dX0_looksInVain_7 : decode cX0_looksInVain 7 = .ok (.aload_n 0, 1) := by decide +kernel
theorem dX0_looksInVain_8 : decode cX0_looksInVain 8 = .ok (.getfield 52, 3) := by decide +kernel
theorem dX0_looksInVain_11 : decode cX0_looksInVain 11 = .ok (.goto 12, 3) := by decide +kernel
theorem dX0_looksInVain_14 : decode cX0_looksInVain 14 = .ok (.aload_n 0, 1) := by decide +kernel
theorem dX0_looksInVain_15 : decode cX0_looksInVain 15 = .ok (.getfield 52, 3) := by decide +kernel
theorem dX0_looksInVain_18 : decode cX0_looksInVain 18 = .ok (.aload_n 0, 1) := by decide +kernel
theorem dX0_looksInVain_19 : decode cX0_looksInVain 19 = .ok (.getfield 18, 3) := by decide +kernel
theorem dX0_looksInVain_22 : decode cX0_looksInVain 22 = .ok (.iadd, 1) := by decide +kernel
theorem dX0_looksInVain_23 : decode cX0_looksInVain 23 = .ok (.istore_n 1, 1) := by decide +kernel
theorem dX0_looksInVain_24 : decode cX0_looksInVain 24 = .ok (.aload_n 0, 1) := by decide +kernel
theorem dX0_looksInVain_25 : decode cX0_looksInVain 25 = .ok (.invokevirtual 41, 3) := by decide +kernel
theorem dX0_looksInVain_28 : decode cX0_looksInVain 28 = .ok (.iload_n 1, 1) := by decide +kernel
theorem dX0_looksInVain_29 : decode cX0_looksInVain 29 = .ok (.isub, 1) := by decide +kernel
theorem dX0_looksInVain_30 : decode cX0_looksInVain 30 = .ok (.istore_n 2, 1) := by decide +kernel
theorem dX0_looksInVain_31 : decode cX0_looksInVain 31 = .ok (.iload_n 2, 1) := by decide +kernel
theorem dX0_looksInVain_32 : decode cX0_looksInVain 32 = .ok (.ifCond .le 10, 3) := by decide +kernel
theorem dX0_looksInVain_35 : decode cX0_looksInVain 35 = .ok (.aload_n 0, 1) := by decide +kernel
theorem dX0_looksInVain_36 : decode cX0_looksInVain 36 = .ok (.getfield 18, 3) := by decide +kernel
theorem dX0_looksInVain_39 : decode cX0_looksInVain 39 = .ok (.ifCond .gt 5, 3) := by decide +kernel
theorem dX0_looksInVain_42 : decode cX0_looksInVain 42 = .ok (.iconst 0, 1) := by decide +kernel
theorem dX0_looksInVain_43 : decode cX0_looksInVain 43 = .ok (.ireturn, 1) := by decide +kernel
theorem dX0_looksInVain_44 : decode cX0_looksInVain 44 = .ok (.iload_n 2, 1) := by decide +kernel
theorem dX0_looksInVain_45 : decode cX0_looksInVain 45 = .ok (.aload_n 0, 1) := by decide +kernel
theorem dX0_looksInVain_46 : decode cX0_looksInVain 46 = .ok (.getfield 18, 3) := by decide +kernel
theorem dX0_looksInVain_49 : decode cX0_looksInVain 49 = .ok (.iadd, 1) := by decide +kernel
theorem dX0_looksInVain_50 : decode cX0_looksInVain 50 = .ok (.iconst 1, 1) := by decide +kernel
theorem dX0_looksInVain_51 : decode cX0_looksInVain 51 = .ok (.isub, 1) := by decide +kernel
theorem dX0_looksInVain_52 : decode cX0_looksInVain 52 = .ok (.aload_n 0, 1) := by decide +kernel
theorem dX0_looksInVain_53 : decode cX0_looksInVain 53 = .ok (.getfield 18, 3) := by decide +kernel
theorem dX0_looksInVain_56 : decode cX0_looksInVain 56 = .ok (.idiv, 1) := by decide +kernel
theorem dX0_looksInVain_57 : decode cX0_looksInVain 57 = .ok (.ireturn, 1) := by decide +kernel
theorem dX0_lookInVain_0 : decode cX0_lookInVain 0 = .ok (.iload_n 1, 1) := by decide +kernel
theorem dX0_lookInVain_1 : decode cX0_lookInVain 1 = .ok (.ifCond .le 38, 3) := by decide +kernel
theorem dX0_lookInVain_4 : decode cX0_lookInVain 4 = .ok (.aload_n 0, 1) := by decide +kernel
theorem dX0_lookInVain_5 : decode cX0_lookInVain 5 = .ok (.getfield 48, 3) := by decide +kernel
theorem dX0_lookInVain_8 : decode cX0_lookInVain 8 = .ok (.ifCond .eq 9, 3) := by decide +kernel
theorem dX0_lookInVain_11 : decode cX0_lookInVain 11 = .ok (.iload_n 1, 1) := by decide +kernel
theorem dX0_lookInVain_12 : decode cX0_lookInVain 12 = .ok (.iconst 1, 1) := by decide +kernel
theorem dX0_lookInVain_13 : decode cX0_lookInVain 13 = .ok (.isub, 1) := by decide +kernel
theorem dX0_lookInVain_14 : decode cX0_lookInVain 14 = .ok (.goto 4, 3) := by decide +kernel
theorem dX0_lookInVain_17 : decode cX0_lookInVain 17 = .ok (.iload_n 1, 1) := by decide +kernel
theorem dX0_lookInVain_18 : decode cX0_lookInVain 18 = .ok (.istore_n 2, 1) := by decide +kernel
theorem dX0_lookInVain_19 : decode cX0_lookInVain 19 = .ok (.aload_n 0, 1) := by decide +kernel
theorem dX0_lookInVain_20 : decode cX0_lookInVain 20 = .ok (.dup, 1) := by decide +kernel
theorem dX0_lookInVain_21 : decode cX0_lookInVain 21 = .ok (.getfield 52, 3) := by decide +kernel
theorem dX0_lookInVain_24 : decode cX0_lookInVain 24 = .ok (.iload_n 2, 1) := by decide +kernel
theorem dX0_lookInVain_25 : decode cX0_lookInVain 25 = .ok (.aload_n 0, 1) := by decide +kernel
theorem dX0_lookInVain_26 : decode cX0_lookInVain 26 = .ok (.getfield 18, 3) := by decide +kernel
theorem dX0_lookInVain_29 : decode cX0_lookInVain 29 = .ok (.imul, 1) := by decide +kernel
theorem dX0_lookInVain_30 : decode cX0_lookInVain 30 = .ok (.iadd, 1) := by decide +kernel
theorem dX0_lookInVain_31 : decode cX0_lookInVain 31 = .ok (.putfield 52, 3) := by decide +kernel
theorem dX0_lookInVain_34 : decode cX0_lookInVain 34 = .ok (.aload_n 0, 1) := by decide +kernel
theorem dX0_lookInVain_35 : decode cX0_lookInVain 35 = .ok (.iconst 0, 1) := by decide +kernel
theorem dX0_lookInVain_36 : decode cX0_lookInVain 36 = .ok (.putfield 48, 3) := by decide +kernel
theorem dX0_lookInVain_39 : decode cX0_lookInVain 39 = .ok (.return_, 1) := by decide +kernel
theorem dX0_takeTurn_0 : decode cX0_takeTurn 0 = .ok (.aload_n 0, 1) := by decide +kernel
theorem dX0_takeTurn_1 : decode cX0_takeTurn 1 = .ok (.getfield 48, 3) := by decide +kernel
theorem dX0_takeTurn_4 : decode cX0_takeTurn 4 = .ok (.ifCond .ne 21, 3) := by decide +kernel
theorem dX0_takeTurn_7 : decode cX0_takeTurn 7 = .ok (.aload_n 0, 1) := by decide +kernel
theorem dX0_takeTurn_8 : decode cX0_takeTurn 8 = .ok (.iconst 1, 1) := by decide +kernel
theorem dX0_takeTurn_9 : decode cX0_takeTurn 9 = .ok (.putfield 48, 3) := by decide +kernel
theorem dX0_takeTurn_12 : decode cX0_takeTurn 12 = .ok (.aload_n 0, 1) := by decide +kernel
theorem dX0_takeTurn_13 : decode cX0_takeTurn 13 = .ok (.dup, 1) := by decide +kernel
theorem dX0_takeTurn_14 : decode cX0_takeTurn 14 = .ok (.getfield 52, 3) := by decide +kernel
theorem dX0_takeTurn_17 : decode cX0_takeTurn 17 = .ok (.aload_n 0, 1) := by decide +kernel
theorem dX0_takeTurn_18 : decode cX0_takeTurn 18 = .ok (.getfield 18, 3) := by decide +kernel
theorem dX0_takeTurn_21 : decode cX0_takeTurn 21 = .ok (.iadd, 1) := by decide +kernel
theorem dX0_takeTurn_22 : decode cX0_takeTurn 22 = .ok (.putfield 52, 3) := by decide +kernel
theorem dX0_takeTurn_25 : decode cX0_takeTurn 25 = .ok (.return_, 1) := by decide +kernel
set_option maxRecDepth 20000 in
theorem ggX0_cellOf_J9_floorMod_7cf53 : GoodIn wsX0_cellOf wsJ9_floorMod_7cf53 := goodIn_r _ [5] (by decide +kernel) (by decide +kernel)
set_option maxRecDepth 20000 in
theorem gX0_cellOf_J9_floorMod_7cf53 : GoodIn wsX0_cellOf (va_wsS RX0 55 yJ9_floorMod_7cf53 wsJ9_floorMod_7cf53) := goodIn_app (goodIn_of _ (by decide +kernel)) ggX0_cellOf_J9_floorMod_7cf53
theorem dX0_cellOf_0 : decode cX0_cellOf 0 = .ok (.aload_n 0, 1) := by decide +kernel
theorem dX0_cellOf_1 : decode cX0_cellOf 1 = .ok (.getfield 45, 3) := by decide +kernel
theorem dX0_cellOf_4 : decode cX0_cellOf 4 = .ok (.iload_n 1, 1) := by decide +kernel
theorem dX0_cellOf_5 : decode cX0_cellOf 5 = .ok (.iadd, 1) := by decide +kernel
theorem dX0_cellOf_6 : decode cX0_cellOf 6 = .ok (.bipush 96, 2) := by decide +kernel
theorem dX0_cellOf_8 : decode cX0_cellOf 8 = .ok (.invokestatic 55, 3) := by decide +kernel
theorem dX0_cellOf_11 : decode cX0_cellOf 11 = .ok (.ireturn, 1) := by decide +kernel
theorem dX1_init_0 : decode cX1_init 0 = .ok (.aload_n 0, 1) := by decide +kernel
theorem dX1_init_1 : decode cX1_init 1 = .ok (.invokespecial 3, 3) := by decide +kernel
theorem dX1_init_4 : decode cX1_init 4 = .ok (.aload_n 0, 1) := by decide +kernel
theorem dX1_init_5 : decode cX1_init 5 = .ok (.bipush 12, 2) := by decide +kernel
theorem dX1_init_7 : decode cX1_init 7 = .ok (.newarray .int, 2) := by decide +kernel
theorem dX1_init_9 : decode cX1_init 9 = .ok (.putfield 9, 3) := by decide +kernel
theorem dX1_init_12 : decode cX1_init 12 = .ok (.return_, 1) := by decide +kernel
theorem dX1_queueAt_0 : decode cX1_queueAt 0 = .ok (.aload_n 0, 1) := by decide +kernel
theorem dX1_queueAt_1 : decode cX1_queueAt 1 = .ok (.getfield 9, 3) := by decide +kernel
theorem dX1_queueAt_4 : decode cX1_queueAt 4 = .ok (.iload_n 1, 1) := by decide +kernel
theorem dX1_queueAt_5 : decode cX1_queueAt 5 = .ok (.iaload, 1) := by decide +kernel
theorem dX1_queueAt_6 : decode cX1_queueAt 6 = .ok (.ireturn, 1) := by decide +kernel
theorem dX1_placeOf_0 : decode cX1_placeOf 0 = .ok (.iconst 0, 1) := by decide +kernel
theorem dX1_placeOf_1 : decode cX1_placeOf 1 = .ok (.istore_n 2, 1) := by decide +kernel
theorem dX1_placeOf_2 : decode cX1_placeOf 2 = .ok (.iload_n 2, 1) := by decide +kernel
theorem dX1_placeOf_3 : decode cX1_placeOf 3 = .ok (.aload_n 0, 1) := by decide +kernel
theorem dX1_placeOf_4 : decode cX1_placeOf 4 = .ok (.getfield 15, 3) := by decide +kernel
theorem dX1_placeOf_7 : decode cX1_placeOf 7 = .ok (.if_icmp .ge 21, 3) := by decide +kernel
theorem dX1_placeOf_10 : decode cX1_placeOf 10 = .ok (.aload_n 0, 1) := by decide +kernel
theorem dX1_placeOf_11 : decode cX1_placeOf 11 = .ok (.getfield 9, 3) := by decide +kernel
theorem dX1_placeOf_14 : decode cX1_placeOf 14 = .ok (.iload_n 2, 1) := by decide +kernel
theorem dX1_placeOf_15 : decode cX1_placeOf 15 = .ok (.iaload, 1) := by decide +kernel
theorem dX1_placeOf_16 : decode cX1_placeOf 16 = .ok (.iload_n 1, 1) := by decide +kernel
theorem dX1_placeOf_17 : decode cX1_placeOf 17 = .ok (.if_icmp .ne 5, 3) := by decide +kernel
theorem dX1_placeOf_20 : decode cX1_placeOf 20 = .ok (.iload_n 2, 1) := by decide +kernel
theorem dX1_placeOf_21 : decode cX1_placeOf 21 = .ok (.ireturn, 1) := by decide +kernel
theorem dX1_placeOf_22 : decode cX1_placeOf 22 = .ok (.iinc 2 1, 3) := by decide +kernel
theorem dX1_placeOf_25 : decode cX1_placeOf 25 = .ok (.goto (-23), 3) := by decide +kernel
theorem dX1_placeOf_28 : decode cX1_placeOf 28 = .ok (.iconst (-1), 1) := by decide +kernel
theorem dX1_placeOf_29 : decode cX1_placeOf 29 = .ok (.ireturn, 1) := by decide +kernel
theorem dX1_putAtEnd_0 : decode cX1_putAtEnd 0 = .ok (.aload_n 0, 1) := by decide +kernel
theorem dX1_putAtEnd_1 : decode cX1_putAtEnd 1 = .ok (.getfield 15, 3) := by decide +kernel
theorem dX1_putAtEnd_4 : decode cX1_putAtEnd 4 = .ok (.bipush 12, 2) := by decide +kernel
theorem dX1_putAtEnd_6 : decode cX1_putAtEnd 6 = .ok (.if_icmp .ge 23, 3) := by decide +kernel
theorem dX1_putAtEnd_9 : decode cX1_putAtEnd 9 = .ok (.aload_n 0, 1) := by decide +kernel
theorem dX1_putAtEnd_10 : decode cX1_putAtEnd 10 = .ok (.getfield 9, 3) := by decide +kernel
theorem dX1_putAtEnd_13 : decode cX1_putAtEnd 13 = .ok (.aload_n 0, 1) := by decide +kernel
theorem dX1_putAtEnd_14 : decode cX1_putAtEnd 14 = .ok (.getfield 15, 3) := by decide +kernel
theorem dX1_putAtEnd_17 : decode cX1_putAtEnd 17 = .ok (.iload_n 1, 1) := by decide +kernel
theorem dX1_putAtEnd_18 : decode cX1_putAtEnd 18 = .ok (.iastore, 1) := by decide +kernel
theorem dX1_putAtEnd_19 : decode cX1_putAtEnd 19 = .ok (.aload_n 0, 1) := by decide +kernel
theorem dX1_putAtEnd_20 : decode cX1_putAtEnd 20 = .ok (.dup, 1) := by decide +kernel
theorem dX1_putAtEnd_21 : decode cX1_putAtEnd 21 = .ok (.getfield 15, 3) := by decide +kernel
theorem dX1_putAtEnd_24 : decode cX1_putAtEnd 24 = .ok (.iconst 1, 1) := by decide +kernel
theorem dX1_putAtEnd_25 : decode cX1_putAtEnd 25 = .ok (.iadd, 1) := by decide +kernel
theorem dX1_putAtEnd_26 : decode cX1_putAtEnd 26 = .ok (.putfield 15, 3) := by decide +kernel
theorem dX1_putAtEnd_29 : decode cX1_putAtEnd 29 = .ok (.return_, 1) := by decide +kernel
set_option maxRecDepth 20000 in
theorem ggX1_takeOut_X1_placeOf : GoodIn wsX1_takeOut wsX1_placeOf := goodIn_r _ [11, 1, 2, 12, 13] (by decide +kernel) (by decide +kernel)
set_option maxRecDepth 20000 in
theorem gX1_takeOut_X1_placeOf : GoodIn wsX1_takeOut (wsV RX1 19 RX1 yX1_placeOf wsX1_placeOf) := goodIn_app (goodIn_of _ (by decide +kernel)) ggX1_takeOut_X1_placeOf
theorem dX1_takeOut_0 : decode cX1_takeOut 0 = .ok (.aload_n 0, 1) := by decide +kernel
theorem dX1_takeOut_1 : decode cX1_takeOut 1 = .ok (.iload_n 1, 1) := by decide +kernel
theorem dX1_takeOut_2 : decode cX1_takeOut 2 = .ok (.invokevirtual 19, 3) := by decide +kernel
theorem dX1_takeOut_5 : decode cX1_takeOut 5 = .ok (.istore_n 2, 1) := by decide +kernel
theorem dX1_takeOut_6 : decode cX1_takeOut 6 = .ok (.iload_n 2, 1) := by decide +kernel
theorem dX1_takeOut_7 : decode cX1_takeOut 7 = .ok (.iconst (-1), 1) := by decide +kernel
theorem dX1_takeOut_8 : decode cX1_takeOut 8 = .ok (.if_icmp .eq 34, 3) := by decide +kernel
theorem dX1_takeOut_11 : decode cX1_takeOut 11 = .ok (.aload_n 0, 1) := by decide +kernel
theorem dX1_takeOut_12 : decode cX1_takeOut 12 = .ok (.dup, 1) := by decide +kernel
theorem dX1_takeOut_13 : decode cX1_takeOut 13 = .ok (.getfield 15, 3) := by decide +kernel
theorem dX1_takeOut_16 : decode cX1_takeOut 16 = .ok (.iconst 1, 1) := by decide +kernel
theorem dX1_takeOut_17 : decode cX1_takeOut 17 = .ok (.isub, 1) := by decide +kernel
theorem dX1_takeOut_18 : decode cX1_takeOut 18 = .ok (.putfield 15, 3) := by decide +kernel
theorem dX1_takeOut_21 : decode cX1_takeOut 21 = .ok (.aload_n 0, 1) := by decide +kernel
theorem dX1_takeOut_22 : decode cX1_takeOut 22 = .ok (.getfield 9, 3) := by decide +kernel
theorem dX1_takeOut_25 : decode cX1_takeOut 25 = .ok (.iload_n 2, 1) := by decide +kernel
theorem dX1_takeOut_26 : decode cX1_takeOut 26 = .ok (.iconst 1, 1) := by decide +kernel
theorem dX1_takeOut_27 : decode cX1_takeOut 27 = .ok (.iadd, 1) := by decide +kernel
theorem dX1_takeOut_28 : decode cX1_takeOut 28 = .ok (.aload_n 0, 1) := by decide +kernel
theorem dX1_takeOut_29 : decode cX1_takeOut 29 = .ok (.getfield 9, 3) := by decide +kernel
theorem dX1_takeOut_32 : decode cX1_takeOut 32 = .ok (.iload_n 2, 1) := by decide +kernel
theorem dX1_takeOut_33 : decode cX1_takeOut 33 = .ok (.aload_n 0, 1) := by decide +kernel
theorem dX1_takeOut_34 : decode cX1_takeOut 34 = .ok (.getfield 15, 3) := by decide +kernel
theorem dX1_takeOut_37 : decode cX1_takeOut 37 = .ok (.iload_n 2, 1) := by decide +kernel
theorem dX1_takeOut_38 : decode cX1_takeOut 38 = .ok (.isub, 1) := by decide +kernel
theorem dX1_takeOut_39 : decode cX1_takeOut 39 = .ok (.invokestatic 23, 3) := by decide +kernel
theorem dX1_takeOut_42 : decode cX1_takeOut 42 = .ok (.return_, 1) := by decide +kernel
set_option maxRecDepth 20000 in
theorem ggX1_turnBy_X1_takeOut : GoodIn wsX1_turnBy wsX1_takeOut := goodIn_r _ [6, 7, 1, 8, 9, 10, 11, 12, 13, 14, 5, 15, 20, 21] (by decide +kernel) (by decide +kernel)
set_option maxRecDepth 20000 in
theorem gX1_turnBy_X1_takeOut : GoodIn wsX1_turnBy (wsV RX1 29 RX1 yX1_takeOut wsX1_takeOut) := goodIn_app (goodIn_of _ (by decide +kernel)) ggX1_turnBy_X1_takeOut
set_option maxRecDepth 20000 in
theorem ggX1_turnBy_X1_putAtEnd : GoodIn wsX1_turnBy wsX1_putAtEnd := goodIn_r _ [19, 7, 1, 20, 21] (by decide +kernel) (by decide +kernel)
set_option maxRecDepth 20000 in
theorem gX1_turnBy_X1_putAtEnd : GoodIn wsX1_turnBy (wsV RX1 33 RX1 yX1_putAtEnd wsX1_putAtEnd) := goodIn_app (goodIn_of _ (by decide +kernel)) ggX1_turnBy_X1_putAtEnd
theorem dX1_turnBy_0 : decode cX1_turnBy 0 = .ok (.iconst 0, 1) := by decide +kernel
theorem dX1_turnBy_1 : decode cX1_turnBy 1 = .ok (.istore_n 2, 1) := by decide +kernel
theorem dX1_turnBy_2 : decode cX1_turnBy 2 = .ok (.iload_n 2, 1) := by decide +kernel
theorem dX1_turnBy_3 : decode cX1_turnBy 3 = .ok (.iload_n 1, 1) := by decide +kernel
theorem dX1_turnBy_4 : decode cX1_turnBy 4 = .ok (.if_icmp .ge 26, 3) := by decide +kernel
theorem dX1_turnBy_7 : decode cX1_turnBy 7 = .ok (.aload_n 0, 1) := by decide +kernel
theorem dX1_turnBy_8 : decode cX1_turnBy 8 = .ok (.getfield 9, 3) := by decide +kernel
theorem dX1_turnBy_11 : decode cX1_turnBy 11 = .ok (.iconst 0, 1) := by decide +kernel
theorem dX1_turnBy_12 : decode cX1_turnBy 12 = .ok (.iaload, 1) := by decide +kernel
theorem dX1_turnBy_13 : decode cX1_turnBy 13 = .ok (.istore_n 3, 1) := by decide +kernel
theorem dX1_turnBy_14 : decode cX1_turnBy 14 = .ok (.aload_n 0, 1) := by decide +kernel
theorem dX1_turnBy_15 : decode cX1_turnBy 15 = .ok (.iload_n 3, 1) := by decide +kernel
theorem dX1_turnBy_16 : decode cX1_turnBy 16 = .ok (.invokevirtual 29, 3) := by decide +kernel
theorem dX1_turnBy_19 : decode cX1_turnBy 19 = .ok (.aload_n 0, 1) := by decide +kernel
theorem dX1_turnBy_20 : decode cX1_turnBy 20 = .ok (.iload_n 3, 1) := by decide +kernel
theorem dX1_turnBy_21 : decode cX1_turnBy 21 = .ok (.invokevirtual 33, 3) := by decide +kernel
theorem dX1_turnBy_24 : decode cX1_turnBy 24 = .ok (.iinc 2 1, 3) := by decide +kernel
theorem dX1_turnBy_27 : decode cX1_turnBy 27 = .ok (.goto (-25), 3) := by decide +kernel
theorem dX1_turnBy_30 : decode cX1_turnBy 30 = .ok (.return_, 1) := by decide +kernel
set_option maxRecDepth 20000 in
theorem ggX2_init_X0_init : GoodIn wsX2_init wsX0_init := goodIn_r _ [13, 14, 2, 3, 15, 16, 17, 18, 19, 31, 32, 33, 34, 35, 36, 37, 38, 39, 40, 41, 42, 43, 44, 45] (by decide +kernel) (by decide +kernel)
set_option maxRecDepth 20000 in
theorem gX2_init_X0_init_n21 : GoodIn wsX2_init (wsX0_init) := ggX2_init_X0_init
set_option maxRecDepth 20000 in
theorem ggX2_init_X1_init : GoodIn wsX2_init wsX1_init := goodIn_r _ [21, 22, 2, 3, 15, 23, 46, 47] (by decide +kernel) (by decide +kernel)
set_option maxRecDepth 20000 in
theorem gX2_init_X1_init_n22 : GoodIn wsX2_init (wsX1_init) := ggX2_init_X1_init
theorem dX2_init_0 : decode cX2_init 0 = .ok (.aload_n 0, 1) := by decide +kernel
theorem dX2_init_1 : decode cX2_init 1 = .ok (.invokespecial 1, 3) := by decide +kernel
theorem dX2_init_4 : decode cX2_init 4 = .ok (.aload_n 0, 1) := by decide +kernel
theorem dX2_init_5 : decode cX2_init 5 = .ok (.bipush 12, 2) := by decide +kernel
theorem dX2_init_7 : decode cX2_init 7 = .ok (.anewarray 9, 3) := by decide +kernel
theorem dX2_init_10 : decode cX2_init 10 = .ok (.putfield 11, 3) := by decide +kernel
theorem dX2_init_13 : decode cX2_init 13 = .ok (.aload_n 0, 1) := by decide +kernel
theorem dX2_init_14 : decode cX2_init 14 = .ok (.iconst 4, 1) := by decide +kernel
theorem dX2_init_15 : decode cX2_init 15 = .ok (.anewarray 15, 3) := by decide +kernel
theorem dX2_init_18 : decode cX2_init 18 = .ok (.putfield 17, 3) := by decide +kernel
theorem dX2_init_21 : decode cX2_init 21 = .ok (.iconst 0, 1) := by decide +kernel
theorem dX2_init_22 : decode cX2_init 22 = .ok (.istore_n 1, 1) := by decide +kernel
theorem dX2_init_23 : decode cX2_init 23 = .ok (.iload_n 1, 1) := by decide +kernel
theorem dX2_init_24 : decode cX2_init 24 = .ok (.bipush 12, 2) := by decide +kernel
theorem dX2_init_26 : decode cX2_init 26 = .ok (.if_icmp .ge 22, 3) := by decide +kernel
theorem dX2_init_29 : decode cX2_init 29 = .ok (.aload_n 0, 1) := by decide +kernel
theorem dX2_init_30 : decode cX2_init 30 = .ok (.getfield 11, 3) := by decide +kernel
theorem dX2_init_33 : decode cX2_init 33 = .ok (.iload_n 1, 1) := by decide +kernel
theorem dX2_init_34 : decode cX2_init 34 = .ok (.new 9, 3) := by decide +kernel
theorem dX2_init_37 : decode cX2_init 37 = .ok (.dup, 1) := by decide +kernel
theorem dX2_init_38 : decode cX2_init 38 = .ok (.invokespecial 21, 3) := by decide +kernel
theorem dX2_init_41 : decode cX2_init 41 = .ok (.aastore, 1) := by decide +kernel
theorem dX2_init_42 : decode cX2_init 42 = .ok (.iinc 1 1, 3) := by decide +kernel
theorem dX2_init_45 : decode cX2_init 45 = .ok (.goto (-22), 3) := by decide +kernel
theorem dX2_init_48 : decode cX2_init 48 = .ok (.iconst 0, 1) := by decide +kernel
theorem dX2_init_49 : decode cX2_init 49 = .ok (.istore_n 1, 1) := by decide +kernel
theorem dX2_init_50 : decode cX2_init 50 = .ok (.iload_n 1, 1) := by decide +kernel
theorem dX2_init_51 : decode cX2_init 51 = .ok (.iconst 4, 1) := by decide +kernel
theorem dX2_init_52 : decode cX2_init 52 = .ok (.if_icmp .ge 22, 3) := by decide +kernel
theorem dX2_init_55 : decode cX2_init 55 = .ok (.aload_n 0, 1) := by decide +kernel
theorem dX2_init_56 : decode cX2_init 56 = .ok (.getfield 17, 3) := by decide +kernel
theorem dX2_init_59 : decode cX2_init 59 = .ok (.iload_n 1, 1) := by decide +kernel
theorem dX2_init_60 : decode cX2_init 60 = .ok (.new 15, 3) := by decide +kernel
theorem dX2_init_63 : decode cX2_init 63 = .ok (.dup, 1) := by decide +kernel
theorem dX2_init_64 : decode cX2_init 64 = .ok (.invokespecial 22, 3) := by decide +kernel
theorem dX2_init_67 : decode cX2_init 67 = .ok (.aastore, 1) := by decide +kernel
theorem dX2_init_68 : decode cX2_init 68 = .ok (.iinc 1 1, 3) := by decide +kernel
theorem dX2_init_71 : decode cX2_init 71 = .ok (.goto (-21), 3) := by decide +kernel
theorem dX2_init_74 : decode cX2_init 74 = .ok (.return_, 1) := by decide +kernel
set_option maxRecDepth 20000 in
theorem ggX2_quota_X2_queueOf : GoodIn wsX2_quota wsX2_queueOf := goodIn_ca (goodIn_r _ [5, 6, 7, 8, 31, 32, 33, 34, 35, 36, 37] (by decide +kernel) (by decide +kernel)) (goodIn_sub (fun _ h => List.mem_cons_of_mem _ (List.mem_append_right _ h)) (by decide +kernel))
set_option maxRecDepth 20000 in
theorem gX2_quota_X2_queueOf : GoodIn wsX2_quota (wsV RX2 23 RX2 yX2_queueOf wsX2_queueOf) := goodIn_app (goodIn_of _ (by decide +kernel)) ggX2_quota_X2_queueOf
set_option maxRecDepth 20000 in
theorem ggX2_quota_X2_checkRange : GoodIn wsX2_quota wsX2_checkRange := goodIn_ca (goodIn_r _ [11, 6, 7] (by decide +kernel) (by decide +kernel)) (goodIn_sub (fun _ h => List.mem_cons_of_mem _ (List.mem_append_right _ h)) (by decide +kernel))
set_option maxRecDepth 20000 in
theorem gX2_quota_X2_checkRange : GoodIn wsX2_quota (va_wsS RX2 27 yX2_checkRange wsX2_checkRange) := goodIn_app (goodIn_of _ (by decide +kernel)) ggX2_quota_X2_checkRange
set_option maxRecDepth 20000 in
theorem ggX2_quota_X2_keptCells : GoodIn wsX2_quota wsX2_keptCells := goodIn_r _ [15, 8, 31, 32, 33, 34, 35, 36, 37, 16, 17, 18, 19, 20, 21, 22, 23, 24, 25, 26, 27, 28, 29, 30] (by decide +kernel) (by decide +kernel)
set_option maxRecDepth 20000 in
theorem gX2_quota_X2_keptCells : GoodIn wsX2_quota (wsV RX2 31 RX2 yX2_keptCells wsX2_keptCells) := goodIn_app (goodIn_of _ (by decide +kernel)) ggX2_quota_X2_keptCells
theorem dX2_quota_0 : decode cX2_quota 0 = .ok (.aload_n 0, 1) := by decide +kernel
theorem dX2_quota_1 : decode cX2_quota 1 = .ok (.iload_n 1, 1) := by decide +kernel
theorem dX2_quota_2 : decode cX2_quota 2 = .ok (.invokevirtual 23, 3) := by decide +kernel
theorem dX2_quota_5 : decode cX2_quota 5 = .ok (.astore 4, 2) := by decide +kernel
theorem dX2_quota_7 : decode cX2_quota 7 = .ok (.iload_n 2, 1) := by decide +kernel
theorem dX2_quota_8 : decode cX2_quota 8 = .ok (.iconst 0, 1) := by decide +kernel
theorem dX2_quota_9 : decode cX2_quota 9 = .ok (.bipush 96, 2) := by decide +kernel
theorem dX2_quota_11 : decode cX2_quota 11 = .ok (.invokestatic 27, 3) := by decide +kernel
theorem dX2_quota_14 : decode cX2_quota 14 = .ok (.iload_n 3, 1) := by decide +kernel
theorem dX2_quota_15 : decode cX2_quota 15 = .ok (.iconst 0, 1) := by decide +kernel
theorem dX2_quota_16 : decode cX2_quota 16 = .ok (.bipush 96, 2) := by decide +kernel
theorem dX2_quota_18 : decode cX2_quota 18 = .ok (.invokestatic 27, 3) := by decide +kernel
theorem dX2_quota_21 : decode cX2_quota 21 = .ok (.aload_n 0, 1) := by decide +kernel
theorem dX2_quota_22 : decode cX2_quota 22 = .ok (.invokevirtual 31, 3) := by decide +kernel
theorem dX2_quota_25 : decode cX2_quota 25 = .ok (.aload 4, 2) := by decide +kernel
theorem dX2_quota_27 : decode cX2_quota 27 = .ok (.getfield 35, 3) := by decide +kernel
theorem dX2_quota_30 : decode cX2_quota 30 = .ok (.isub, 1) := by decide +kernel
theorem dX2_quota_31 : decode cX2_quota 31 = .ok (.iload_n 3, 1) := by decide +kernel
theorem dX2_quota_32 : decode cX2_quota 32 = .ok (.iadd, 1) := by decide +kernel
theorem dX2_quota_33 : decode cX2_quota 33 = .ok (.istore 5, 2) := by decide +kernel
theorem dX2_quota_35 : decode cX2_quota 35 = .ok (.iload 5, 2) := by decide +kernel
theorem dX2_quota_37 : decode cX2_quota 37 = .ok (.iconst 0, 1) := by decide +kernel
theorem dX2_quota_38 : decode cX2_quota 38 = .ok (.bipush 96, 2) := by decide +kernel
theorem dX2_quota_40 : decode cX2_quota 40 = .ok (.invokestatic 27, 3) := by decide +kernel
theorem dX2_quota_43 : decode cX2_quota 43 = .ok (.aload 4, 2) := by decide +kernel
theorem dX2_quota_45 : decode cX2_quota 45 = .ok (.iload_n 2, 1) := by decide +kernel
theorem dX2_quota_46 : decode cX2_quota 46 = .ok (.putfield 39, 3) := by decide +kernel
theorem dX2_quota_49 : decode cX2_quota 49 = .ok (.aload 4, 2) := by decide +kernel
theorem dX2_quota_51 : decode cX2_quota 51 = .ok (.iload_n 3, 1) := by decide +kernel
theorem dX2_quota_52 : decode cX2_quota 52 = .ok (.putfield 35, 3) := by decide +kernel
theorem dX2_quota_55 : decode cX2_quota 55 = .ok (.iload 5, 2) := by decide +kernel
theorem dX2_quota_57 : decode cX2_quota 57 = .ok (.ireturn, 1) := by decide +kernel
set_option maxRecDepth 20000 in
theorem ggX2_kind_X2_queueOf : GoodIn wsX2_kind wsX2_queueOf := goodIn_ca (goodIn_r _ [5, 6, 7, 8, 51, 52, 53, 54, 55, 56, 57] (by decide +kernel) (by decide +kernel)) (goodIn_sub (fun _ h => List.mem_cons_of_mem _ (List.mem_append_right _ h)) (by decide +kernel))
set_option maxRecDepth 20000 in
theorem gX2_kind_X2_queueOf : GoodIn wsX2_kind (wsV RX2 23 RX2 yX2_queueOf wsX2_queueOf) := goodIn_app (goodIn_of _ (by decide +kernel)) ggX2_kind_X2_queueOf
set_option maxRecDepth 20000 in
theorem ggX2_kind_X2_checkRange : GoodIn wsX2_kind wsX2_checkRange := goodIn_ca (goodIn_r _ [11, 6, 7] (by decide +kernel) (by decide +kernel)) (goodIn_sub (fun _ h => List.mem_cons_of_mem _ (List.mem_append_right _ h)) (by decide +kernel))
set_option maxRecDepth 20000 in
theorem gX2_kind_X2_checkRange : GoodIn wsX2_kind (va_wsS RX2 27 yX2_checkRange wsX2_checkRange) := goodIn_app (goodIn_of _ (by decide +kernel)) ggX2_kind_X2_checkRange
set_option maxRecDepth 20000 in
theorem ggX2_kind_X2_changeClass : GoodIn wsX2_kind wsX2_changeClass := goodIn_r _ [15, 16, 17, 18, 19, 20, 21, 22, 23, 24, 25, 26, 27, 28, 29, 30, 31, 32, 33, 34, 35, 36, 37, 38, 39, 40, 41, 42, 43, 44, 45, 46, 47, 48, 49, 50, 51, 52, 53, 54, 55, 56, 57, 58, 59] (by decide +kernel) (by decide +kernel)
set_option maxRecDepth 20000 in
theorem gX2_kind_X2_changeClass : GoodIn wsX2_kind (wsV RX2 48 RX2 yX2_changeClass wsX2_changeClass) := goodIn_app (goodIn_of _ (by decide +kernel)) ggX2_kind_X2_changeClass
theorem dX2_kind_0 : decode cX2_kind 0 = .ok (.aload_n 0, 1) := by decide +kernel
theorem dX2_kind_1 : decode cX2_kind 1 = .ok (.iload_n 1, 1) := by decide +kernel
theorem dX2_kind_2 : decode cX2_kind 2 = .ok (.invokevirtual 23, 3) := by decide +kernel
theorem dX2_kind_5 : decode cX2_kind 5 = .ok (.astore 4, 2) := by decide +kernel
theorem dX2_kind_7 : decode cX2_kind 7 = .ok (.iload_n 2, 1) := by decide +kernel
theorem dX2_kind_8 : decode cX2_kind 8 = .ok (.iconst 0, 1) := by decide +kernel
theorem dX2_kind_9 : decode cX2_kind 9 = .ok (.iconst 3, 1) := by decide +kernel
theorem dX2_kind_10 : decode cX2_kind 10 = .ok (.invokestatic 27, 3) := by decide +kernel
theorem dX2_kind_13 : decode cX2_kind 13 = .ok (.iload_n 3, 1) := by decide +kernel
theorem dX2_kind_14 : decode cX2_kind 14 = .ok (.iconst 1, 1) := by decide +kernel
theorem dX2_kind_15 : decode cX2_kind 15 = .ok (.sipush 1000, 3) := by decide +kernel
theorem dX2_kind_18 : decode cX2_kind 18 = .ok (.invokestatic 27, 3) := by decide +kernel
theorem dX2_kind_21 : decode cX2_kind 21 = .ok (.aload 4, 2) := by decide +kernel
theorem dX2_kind_23 : decode cX2_kind 23 = .ok (.iload_n 3, 1) := by decide +kernel
theorem dX2_kind_24 : decode cX2_kind 24 = .ok (.putfield 42, 3) := by decide +kernel
theorem dX2_kind_27 : decode cX2_kind 27 = .ok (.aload 4, 2) := by decide +kernel
theorem dX2_kind_29 : decode cX2_kind 29 = .ok (.getfield 45, 3) := by decide +kernel
theorem dX2_kind_32 : decode cX2_kind 32 = .ok (.iload_n 2, 1) := by decide +kernel
theorem dX2_kind_33 : decode cX2_kind 33 = .ok (.if_icmp .eq 11, 3) := by decide +kernel
theorem dX2_kind_36 : decode cX2_kind 36 = .ok (.aload_n 0, 1) := by decide +kernel
theorem dX2_kind_37 : decode cX2_kind 37 = .ok (.iload_n 1, 1) := by decide +kernel
theorem dX2_kind_38 : decode cX2_kind 38 = .ok (.aload 4, 2) := by decide +kernel
theorem dX2_kind_40 : decode cX2_kind 40 = .ok (.iload_n 2, 1) := by decide +kernel
theorem dX2_kind_41 : decode cX2_kind 41 = .ok (.invokevirtual 48, 3) := by decide +kernel
theorem dX2_kind_44 : decode cX2_kind 44 = .ok (.return_, 1) := by decide +kernel
set_option maxRecDepth 20000 in
theorem ggX2_push_X2_queueOf : GoodIn wsX2_push wsX2_queueOf := goodIn_ca (goodIn_r _ [8, 9, 10, 2, 113, 114, 115, 116, 117, 118, 119] (by decide +kernel) (by decide +kernel)) (goodIn_sub (fun _ h => List.mem_cons_of_mem _ (List.mem_append_right _ h)) (by decide +kernel))
set_option maxRecDepth 20000 in
theorem gX2_push_X2_queueOf : GoodIn wsX2_push (wsV RX2 23 RX2 yX2_queueOf wsX2_queueOf) := goodIn_app (goodIn_of _ (by decide +kernel)) ggX2_push_X2_queueOf
set_option maxRecDepth 20000 in
theorem ggX2_push_X2_checkRange : GoodIn wsX2_push wsX2_checkRange := goodIn_ca (goodIn_r _ [13, 9, 10] (by decide +kernel) (by decide +kernel)) (goodIn_sub (fun _ h => List.mem_cons_of_mem _ (List.mem_append_right _ h)) (by decide +kernel))
set_option maxRecDepth 20000 in
theorem gX2_push_X2_checkRange : GoodIn wsX2_push (va_wsS RX2 27 yX2_checkRange wsX2_checkRange) := goodIn_app (goodIn_of _ (by decide +kernel)) ggX2_push_X2_checkRange
set_option maxRecDepth 20000 in
theorem ggX2_push_X2_hasRoomFor : GoodIn wsX2_push wsX2_hasRoomFor := goodIn_r _ [17, 18, 19, 20, 7, 21, 2, 22, 23, 24, 25, 26, 27, 28, 29, 30, 31, 32, 33, 34, 35, 36, 113, 114, 115, 116, 117, 118, 119, 98, 99, 100, 101, 102, 103, 104, 105, 106, 107, 108, 109, 110, 111, 112] (by decide +kernel) (by decide +kernel)
set_option maxRecDepth 20000 in
theorem gX2_push_X2_hasRoomFor : GoodIn wsX2_push (wsV RX2 58 RX2 yX2_hasRoomFor wsX2_hasRoomFor) := goodIn_app (goodIn_of _ (by decide +kernel)) ggX2_push_X2_hasRoomFor
set_option maxRecDepth 20000 in
theorem ggX2_push_X2_addItem : GoodIn wsX2_push wsX2_addItem := goodIn_r _ [40, 41, 42, 43, 44, 25, 45, 27, 46, 47, 48, 49, 50, 51, 52, 53, 54, 55, 56, 57, 58, 59, 60, 61, 62, 63, 64, 98, 99, 100, 101, 102, 103, 104, 105, 106, 107, 108, 109, 110, 111, 112, 113, 114, 115, 116, 117, 118, 119, 120, 121] (by decide +kernel) (by decide +kernel)
set_option maxRecDepth 20000 in
theorem gX2_push_X2_addItem : GoodIn wsX2_push (wsV RX2 62 RX2 yX2_addItem wsX2_addItem) := goodIn_app (goodIn_of _ (by decide +kernel)) ggX2_push_X2_addItem
set_option maxRecDepth 20000 in
theorem ggX2_push_X2_queueOfGreatestExcess : GoodIn wsX2_push wsX2_queueOfGreatestExcess := goodIn_r _ [68, 2, 22, 23, 24, 25, 26, 27, 28, 113, 114, 115, 116, 117, 118, 119, 98, 99, 100, 101, 102, 103, 104, 105, 106, 107, 108, 109, 110, 111, 112] (by decide +kernel) (by decide +kernel)
set_option maxRecDepth 20000 in
theorem gX2_push_X2_queueOfGreatestExcess : GoodIn wsX2_push (wsV RX2 66 RX2 yX2_queueOfGreatestExcess wsX2_queueOfGreatestExcess) := goodIn_app (goodIn_of _ (by decide +kernel)) ggX2_push_X2_queueOfGreatestExcess
set_option maxRecDepth 20000 in
theorem ggX2_push_X0_excess : GoodIn wsX2_push wsX0_excess := goodIn_r _ [26, 27, 28, 98, 99, 100, 101, 102, 103, 104, 105, 106, 107, 108, 109, 110, 111, 112] (by decide +kernel) (by decide +kernel)
set_option maxRecDepth 20000 in
theorem gX2_push_X0_excess : GoodIn wsX2_push (wsV RX2 69 RX0 yX0_excess wsX0_excess) := goodIn_app (goodIn_of _ (by decide +kernel)) ggX2_push_X0_excess
set_option maxRecDepth 20000 in
theorem ggX2_push_X2_loseLastItem : GoodIn wsX2_push wsX2_loseLastItem := goodIn_r _ [72, 2, 73, 74, 75, 76, 25, 77, 48, 27, 78, 79, 80, 81, 47, 49, 50, 51, 52, 53, 54, 55, 56, 57, 82, 83, 84, 7, 85, 41, 86, 87, 88, 61, 89, 63, 64, 90, 91, 92, 93, 94, 95, 96, 97, 113, 114, 115, 116, 117, 118, 119, 98, 99, 100, 101, 102, 103, 104, 105, 106, 107, 108, 109, 110, 111, 112, 120, 121] (by decide +kernel) (by decide +kernel)
set_option maxRecDepth 20000 in
theorem gX2_push_X2_loseLastItem : GoodIn wsX2_push (wsV RX2 75 RX2 yX2_loseLastItem wsX2_loseLastItem) := goodIn_app (goodIn_of _ (by decide +kernel)) ggX2_push_X2_loseLastItem
theorem dX2_push_0 : decode cX2_push 0 = .ok (.aload_n 0, 1) := by decide +kernel
theorem dX2_push_1 : decode cX2_push 1 = .ok (.iload_n 1, 1) := by decide +kernel
theorem dX2_push_2 : decode cX2_push 2 = .ok (.invokevirtual 23, 3) := by decide +kernel
theorem dX2_push_5 : decode cX2_push 5 = .ok (.astore 4, 2) := by decide +kernel
theorem dX2_push_7 : decode cX2_push 7 = .ok (.iload_n 3, 1) := by decide +kernel
theorem dX2_push_8 : decode cX2_push 8 = .ok (.iconst 1, 1) := by decide +kernel
theorem dX2_push_9 : decode cX2_push 9 = .ok (.sipush 2000, 3) := by decide +kernel
theorem dX2_push_12 : decode cX2_push 12 = .ok (.invokestatic 27, 3) := by decide +kernel
theorem dX2_push_15 : decode cX2_push 15 = .ok (.aload 4, 2) := by decide +kernel
theorem dX2_push_17 : decode cX2_push 17 = .ok (.getfield 52, 3) := by decide +kernel
theorem dX2_push_20 : decode cX2_push 20 = .ok (.aload 4, 2) := by decide +kernel
theorem dX2_push_22 : decode cX2_push 22 = .ok (.getfield 39, 3) := by decide +kernel
theorem dX2_push_25 : decode cX2_push 25 = .ok (.if_icmp .lt 16, 3) := by decide +kernel
theorem dX2_push_28 : decode cX2_push 28 = .ok (.aload_n 0, 1) := by decide +kernel
theorem dX2_push_29 : decode cX2_push 29 = .ok (.dup, 1) := by decide +kernel
theorem dX2_push_30 : decode cX2_push 30 = .ok (.getfield 55, 3) := by decide +kernel
theorem dX2_push_33 : decode cX2_push 33 = .ok (.iconst 1, 1) := by decide +kernel
theorem dX2_push_34 : decode cX2_push 34 = .ok (.iadd, 1) := by decide +kernel
theorem dX2_push_35 : decode cX2_push 35 = .ok (.putfield 55, 3) := by decide +kernel
theorem dX2_push_38 : decode cX2_push 38 = .ok (.bipush (-2), 2) := by decide +kernel
theorem dX2_push_40 : decode cX2_push 40 = .ok (.ireturn, 1) := by decide +kernel
theorem dX2_push_41 : decode cX2_push 41 = .ok (.aload_n 0, 1) := by decide +kernel
theorem dX2_push_42 : decode cX2_push 42 = .ok (.aload 4, 2) := by decide +kernel
theorem dX2_push_44 : decode cX2_push 44 = .ok (.invokevirtual 58, 3) := by decide +kernel
theorem dX2_push_47 : decode cX2_push 47 = .ok (.ifCond .eq 15, 3) := by decide +kernel
theorem dX2_push_50 : decode cX2_push 50 = .ok (.aload_n 0, 1) := by decide +kernel
theorem dX2_push_51 : decode cX2_push 51 = .ok (.iload_n 1, 1) := by decide +kernel
theorem dX2_push_52 : decode cX2_push 52 = .ok (.aload 4, 2) := by decide +kernel
theorem dX2_push_54 : decode cX2_push 54 = .ok (.iload_n 2, 1) := by decide +kernel
theorem dX2_push_55 : decode cX2_push 55 = .ok (.iload_n 3, 1) := by decide +kernel
theorem dX2_push_56 : decode cX2_push 56 = .ok (.invokevirtual 62, 3) := by decide +kernel
theorem dX2_push_59 : decode cX2_push 59 = .ok (.bipush 100, 2) := by decide +kernel
theorem dX2_push_61 : decode cX2_push 61 = .ok (.ireturn, 1) := by decide +kernel
theorem dX2_push_62 : decode cX2_push 62 = .ok (.aload_n 0, 1) := by decide +kernel
theorem dX2_push_63 : decode cX2_push 63 = .ok (.invokevirtual 66, 3) := by decide +kernel
theorem dX2_push_66 : decode cX2_push 66 = .ok (.istore 5, 2) := by decide +kernel
theorem dX2_push_68 : decode cX2_push 68 = .ok (.aload_n 0, 1) := by decide +kernel
theorem dX2_push_69 : decode cX2_push 69 = .ok (.getfield 11, 3) := by decide +kernel
theorem dX2_push_72 : decode cX2_push 72 = .ok (.iload 5, 2) := by decide +kernel
theorem dX2_push_74 : decode cX2_push 74 = .ok (.aaload, 1) := by decide +kernel
theorem dX2_push_75 : decode cX2_push 75 = .ok (.invokevirtual 69, 3) := by decide +kernel
theorem dX2_push_78 : decode cX2_push 78 = .ok (.aload 4, 2) := by decide +kernel
theorem dX2_push_80 : decode cX2_push 80 = .ok (.invokevirtual 69, 3) := by decide +kernel
theorem dX2_push_83 : decode cX2_push 83 = .ok (.isub, 1) := by decide +kernel
theorem dX2_push_84 : decode cX2_push 84 = .ok (.iconst 2, 1) := by decide +kernel
theorem dX2_push_85 : decode cX2_push 85 = .ok (.if_icmp .ge 16, 3) := by decide +kernel
theorem dX2_push_88 : decode cX2_push 88 = .ok (.aload_n 0, 1) := by decide +kernel
theorem dX2_push_89 : decode cX2_push 89 = .ok (.dup, 1) := by decide +kernel
theorem dX2_push_90 : decode cX2_push 90 = .ok (.getfield 72, 3) := by decide +kernel
theorem dX2_push_93 : decode cX2_push 93 = .ok (.iconst 1, 1) := by decide +kernel
theorem dX2_push_94 : decode cX2_push 94 = .ok (.iadd, 1) := by decide +kernel
theorem dX2_push_95 : decode cX2_push 95 = .ok (.putfield 72, 3) := by decide +kernel
theorem dX2_push_98 : decode cX2_push 98 = .ok (.bipush (-3), 2) := by decide +kernel
theorem dX2_push_100 : decode cX2_push 100 = .ok (.ireturn, 1) := by decide +kernel
theorem dX2_push_101 : decode cX2_push 101 = .ok (.aload_n 0, 1) := by decide +kernel
theorem dX2_push_102 : decode cX2_push 102 = .ok (.iload 5, 2) := by decide +kernel
theorem dX2_push_104 : decode cX2_push 104 = .ok (.invokevirtual 75, 3) := by decide +kernel
theorem dX2_push_107 : decode cX2_push 107 = .ok (.aload_n 0, 1) := by decide +kernel
theorem dX2_push_108 : decode cX2_push 108 = .ok (.iload_n 1, 1) := by decide +kernel
theorem dX2_push_109 : decode cX2_push 109 = .ok (.aload 4, 2) := by decide +kernel
theorem dX2_push_111 : decode cX2_push 111 = .ok (.iload_n 2, 1) := by decide +kernel
theorem dX2_push_112 : decode cX2_push 112 = .ok (.iload_n 3, 1) := by decide +kernel
theorem dX2_push_113 : decode cX2_push 113 = .ok (.invokevirtual 62, 3) := by decide +kernel
theorem dX2_push_116 : decode cX2_push 116 = .ok (.iload 5, 2) := by decide +kernel
theorem dX2_push_118 : decode cX2_push 118 = .ok (.ireturn, 1) := by decide +kernel
set_option maxRecDepth 20000 in
theorem ggX2_serve_X2_firstRingWithQueues : GoodIn wsX2_serve wsX2_firstRingWithQueues := goodIn_r _ [5, 6, 100, 101, 102, 103, 104, 105, 106, 107, 108] (by decide +kernel) (by decide +kernel)
set_option maxRecDepth 20000 in
theorem gX2_serve_X2_firstRingWithQueues : GoodIn wsX2_serve (wsV RX2 79 RX2 yX2_firstRingWithQueues wsX2_firstRingWithQueues) := goodIn_app (goodIn_of _ (by decide +kernel)) ggX2_serve_X2_firstRingWithQueues
set_option maxRecDepth 20000 in
theorem ggX2_serve_X2_placeServedNext : GoodIn wsX2_serve wsX2_placeServedNext := goodIn_r _ [10, 11, 12, 13, 14, 15, 16, 17, 18, 19, 20, 21, 22, 23, 24, 25, 26, 27, 28, 29, 30, 31, 32, 33, 34, 35, 36, 37, 38, 39, 40, 41, 42, 43, 100, 101, 102, 103, 104, 105, 106, 107, 108, 109, 110, 111, 112, 113, 114, 115, 116, 117, 118, 119, 120, 121, 122, 123] (by decide +kernel) (by decide +kernel)
set_option maxRecDepth 20000 in
theorem gX2_serve_X2_placeServedNext : GoodIn wsX2_serve (wsV RX2 83 RX2 yX2_placeServedNext wsX2_placeServedNext) := goodIn_app (goodIn_of _ (by decide +kernel)) ggX2_serve_X2_placeServedNext
set_option maxRecDepth 20000 in
theorem ggX2_serve_X1_queueAt : GoodIn wsX2_serve wsX1_queueAt := goodIn_r _ [16, 17, 107, 108] (by decide +kernel) (by decide +kernel)
set_option maxRecDepth 20000 in
theorem gX2_serve_X1_queueAt : GoodIn wsX2_serve (wsV RX2 87 RX1 yX1_queueAt wsX1_queueAt) := goodIn_app (goodIn_of _ (by decide +kernel)) ggX2_serve_X1_queueAt
set_option maxRecDepth 20000 in
theorem ggX2_serve_X2_bringToFront : GoodIn wsX2_serve wsX2_bringToFront := goodIn_r _ [47, 11, 12, 13, 14, 15, 16, 17, 18, 19, 20, 21, 22, 23, 24, 25, 26, 27, 28, 29, 30, 31, 32, 33, 34, 35, 36, 37, 38, 39, 40, 41, 42, 43, 48, 49, 50, 51, 52, 53, 54, 55, 56, 57, 58, 59, 60, 61, 62, 63, 64, 65, 66, 67, 68, 69, 70, 71, 72, 100, 101, 102, 103, 104, 105, 106, 107, 108, 109, 110, 111, 112, 113, 114, 115, 116, 117, 118, 119, 120, 121, 122, 123] (by decide +kernel) (by decide +kernel)
set_option maxRecDepth 20000 in
theorem gX2_serve_X2_bringToFront : GoodIn wsX2_serve (wsV RX2 91 RX2 yX2_bringToFront wsX2_bringToFront) := goodIn_app (goodIn_of _ (by decide +kernel)) ggX2_serve_X2_bringToFront
set_option maxRecDepth 20000 in
theorem ggX2_serve_X2_serveFirstItem : GoodIn wsX2_serve wsX2_serveFirstItem := goodIn_r _ [76, 11, 77, 78, 79, 80, 81, 21, 82, 23, 24, 25, 83, 27, 28, 29, 30, 31, 32, 33, 34, 35, 36, 37, 38, 39, 40, 41, 42, 43, 84, 85, 86, 87, 88, 89, 90, 91, 92, 93, 94, 26, 95, 96, 97, 4, 98, 6, 99, 57, 58, 15, 59, 60, 17, 61, 62, 63, 64, 65, 66, 67, 68, 100, 101, 102, 103, 104, 105, 106, 109, 110, 111, 112, 113, 114, 115, 116, 117, 118, 119, 120, 121, 122, 123, 107, 108] (by decide +kernel) (by decide +kernel)
set_option maxRecDepth 20000 in
theorem gX2_serve_X2_serveFirstItem : GoodIn wsX2_serve (wsV RX2 95 RX2 yX2_serveFirstItem wsX2_serveFirstItem) := goodIn_app (goodIn_of _ (by decide +kernel)) ggX2_serve_X2_serveFirstItem
theorem dX2_serve_0 : decode cX2_serve 0 = .ok (.aload_n 0, 1) := by decide +kernel
theorem dX2_serve_1 : decode cX2_serve 1 = .ok (.invokevirtual 79, 3) := by decide +kernel
theorem dX2_serve_4 : decode cX2_serve 4 = .ok (.astore_n 1, 1) := by decide +kernel
theorem dX2_serve_5 : decode cX2_serve 5 = .ok (.aload_n 1, 1) := by decide +kernel
theorem dX2_serve_6 : decode cX2_serve 6 = .ok (.ifnonnull 5, 3) := by decide +kernel
theorem dX2_serve_9 : decode cX2_serve 9 = .ok (.iconst (-1), 1) := by decide +kernel
theorem dX2_serve_10 : decode cX2_serve 10 = .ok (.ireturn, 1) := by decide +kernel
theorem dX2_serve_11 : decode cX2_serve 11 = .ok (.aload_n 0, 1) := by decide +kernel
theorem dX2_serve_12 : decode cX2_serve 12 = .ok (.aload_n 1, 1) := by decide +kernel
theorem dX2_serve_13 : decode cX2_serve 13 = .ok (.invokevirtual 83, 3) := by decide +kernel
theorem dX2_serve_16 : decode cX2_serve 16 = .ok (.istore_n 2, 1) := by decide +kernel
theorem dX2_serve_17 : decode cX2_serve 17 = .ok (.aload_n 1, 1) := by decide +kernel
theorem dX2_serve_18 : decode cX2_serve 18 = .ok (.iload_n 2, 1) := by decide +kernel
theorem dX2_serve_19 : decode cX2_serve 19 = .ok (.invokevirtual 87, 3) := by decide +kernel
theorem dX2_serve_22 : decode cX2_serve 22 = .ok (.istore_n 3, 1) := by decide +kernel
theorem dX2_serve_23 : decode cX2_serve 23 = .ok (.aload_n 0, 1) := by decide +kernel
theorem dX2_serve_24 : decode cX2_serve 24 = .ok (.aload_n 1, 1) := by decide +kernel
theorem dX2_serve_25 : decode cX2_serve 25 = .ok (.iload_n 2, 1) := by decide +kernel
theorem dX2_serve_26 : decode cX2_serve 26 = .ok (.invokevirtual 91, 3) := by decide +kernel
theorem dX2_serve_29 : decode cX2_serve 29 = .ok (.aload_n 0, 1) := by decide +kernel
theorem dX2_serve_30 : decode cX2_serve 30 = .ok (.iload_n 3, 1) := by decide +kernel
theorem dX2_serve_31 : decode cX2_serve 31 = .ok (.invokevirtual 95, 3) := by decide +kernel
theorem dX2_serve_34 : decode cX2_serve 34 = .ok (.iload_n 3, 1) := by decide +kernel
theorem dX2_serve_35 : decode cX2_serve 35 = .ok (.ireturn, 1) := by decide +kernel
set_option maxRecDepth 20000 in
theorem ggX2_next_X2_firstRingWithQueues : GoodIn wsX2_next wsX2_firstRingWithQueues := goodIn_r _ [5, 6, 44, 45, 46, 47, 48, 49, 50, 51, 52] (by decide +kernel) (by decide +kernel)
set_option maxRecDepth 20000 in
theorem gX2_next_X2_firstRingWithQueues : GoodIn wsX2_next (wsV RX2 79 RX2 yX2_firstRingWithQueues wsX2_firstRingWithQueues) := goodIn_app (goodIn_of _ (by decide +kernel)) ggX2_next_X2_firstRingWithQueues
set_option maxRecDepth 20000 in
theorem ggX2_next_X2_placeServedNext : GoodIn wsX2_next wsX2_placeServedNext := goodIn_r _ [10, 11, 12, 13, 14, 15, 16, 17, 18, 19, 20, 21, 22, 23, 24, 25, 26, 27, 28, 29, 30, 31, 32, 33, 34, 35, 36, 37, 38, 39, 40, 41, 42, 43, 44, 45, 46, 47, 48, 49, 50, 51, 52, 53, 54, 55, 56, 57, 58, 59, 60, 61, 62, 63, 64, 65, 66, 67] (by decide +kernel) (by decide +kernel)
set_option maxRecDepth 20000 in
theorem gX2_next_X2_placeServedNext : GoodIn wsX2_next (wsV RX2 83 RX2 yX2_placeServedNext wsX2_placeServedNext) := goodIn_app (goodIn_of _ (by decide +kernel)) ggX2_next_X2_placeServedNext
set_option maxRecDepth 20000 in
theorem ggX2_next_X1_queueAt : GoodIn wsX2_next wsX1_queueAt := goodIn_r _ [16, 17, 51, 52] (by decide +kernel) (by decide +kernel)
set_option maxRecDepth 20000 in
theorem gX2_next_X1_queueAt : GoodIn wsX2_next (wsV RX2 87 RX1 yX1_queueAt wsX1_queueAt) := goodIn_app (goodIn_of _ (by decide +kernel)) ggX2_next_X1_queueAt
theorem dX2_next_0 : decode cX2_next 0 = .ok (.aload_n 0, 1) := by decide +kernel
theorem dX2_next_1 : decode cX2_next 1 = .ok (.invokevirtual 79, 3) := by decide +kernel
theorem dX2_next_4 : decode cX2_next 4 = .ok (.astore_n 1, 1) := by decide +kernel
theorem dX2_next_5 : decode cX2_next 5 = .ok (.aload_n 1, 1) := by decide +kernel
theorem dX2_next_6 : decode cX2_next 6 = .ok (.ifnonnull 7, 3) := by decide +kernel
theorem dX2_next_9 : decode cX2_next 9 = .ok (.iconst (-1), 1) := by decide +kernel
theorem dX2_next_10 : decode cX2_next 10 = .ok (.goto 12, 3) := by decide +kernel
theorem dX2_next_13 : decode cX2_next 13 = .ok (.aload_n 1, 1) := by decide +kernel
theorem dX2_next_14 : decode cX2_next 14 = .ok (.aload_n 0, 1) := by decide +kernel
theorem dX2_next_15 : decode cX2_next 15 = .ok (.aload_n 1, 1) := by decide +kernel
theorem dX2_next_16 : decode cX2_next 16 = .ok (.invokevirtual 83, 3) := by decide +kernel
theorem dX2_next_19 : decode cX2_next 19 = .ok (.invokevirtual 87, 3) := by decide +kernel
theorem dX2_next_22 : decode cX2_next 22 = .ok (.ireturn, 1) := by decide +kernel
theorem dX2_word_0 : decode cX2_word 0 = .ok (.aload_n 0, 1) := by decide +kernel
theorem dX2_word_1 : decode cX2_word 1 = .ok (.getfield 98, 3) := by decide +kernel
theorem dX2_word_4 : decode cX2_word 4 = .ok (.ireturn, 1) := by decide +kernel
set_option maxRecDepth 20000 in
theorem ggX2_serveUpTo_X2_checkRange : GoodIn wsX2_serveUpTo wsX2_checkRange := goodIn_ca (goodIn_r _ [6, 7, 8] (by decide +kernel) (by decide +kernel)) (goodIn_sub (fun _ h => List.mem_cons_of_mem _ (List.mem_append_right _ h)) (by decide +kernel))
set_option maxRecDepth 20000 in
theorem gX2_serveUpTo_X2_checkRange : GoodIn wsX2_serveUpTo (va_wsS RX2 27 yX2_checkRange wsX2_checkRange) := goodIn_app (goodIn_of _ (by decide +kernel)) ggX2_serveUpTo_X2_checkRange
set_option maxRecDepth 20000 in
theorem ggX2_serveUpTo_X2_next : GoodIn wsX2_serveUpTo wsX2_next := goodIn_r _ [12, 13, 14, 15, 5, 16, 17, 18, 19, 20, 21, 2, 22, 23, 24, 25, 26, 27, 28, 29, 30, 31, 32, 33, 34, 35, 36, 37, 38, 39, 40, 41, 42, 43, 44, 45, 46, 47, 48, 49, 50, 51, 52, 53, 114, 115, 116, 117, 118, 119, 120, 121, 122, 123, 124, 125, 126, 127, 128, 129, 130, 131, 132, 133, 134, 135, 136, 137] (by decide +kernel) (by decide +kernel)
set_option maxRecDepth 20000 in
theorem gX2_serveUpTo_X2_next : GoodIn wsX2_serveUpTo (wsV RX2 102 RX2 yX2_next wsX2_next) := goodIn_app (goodIn_of _ (by decide +kernel)) ggX2_serveUpTo_X2_next
set_option maxRecDepth 20000 in
theorem ggX2_serveUpTo_X0_firstCost : GoodIn wsX2_serveUpTo wsX0_firstCost := goodIn_r _ [39, 40, 41, 42, 31, 43, 44, 45, 46, 47, 48, 49, 50, 51, 52, 53, 123, 124, 125, 126, 127, 128, 129, 130, 131, 132, 133, 134, 135, 136, 137] (by decide +kernel) (by decide +kernel)
set_option maxRecDepth 20000 in
theorem gX2_serveUpTo_X0_firstCost : GoodIn wsX2_serveUpTo (wsV RX2 105 RX0 yX0_firstCost wsX0_firstCost) := goodIn_app (goodIn_of _ (by decide +kernel)) ggX2_serveUpTo_X0_firstCost
set_option maxRecDepth 20000 in
theorem ggX2_serveUpTo_X2_serve : GoodIn wsX2_serveUpTo wsX2_serve := goodIn_r _ [58, 13, 14, 15, 5, 16, 17, 18, 19, 20, 21, 2, 22, 23, 24, 25, 26, 27, 28, 29, 30, 31, 32, 33, 34, 35, 36, 37, 38, 39, 40, 41, 42, 43, 44, 45, 46, 47, 48, 49, 50, 51, 52, 53, 59, 60, 61, 62, 63, 64, 65, 66, 67, 68, 69, 70, 71, 72, 73, 74, 75, 76, 77, 78, 79, 80, 81, 82, 83, 84, 85, 86, 87, 88, 89, 90, 91, 92, 93, 94, 95, 96, 97, 54, 98, 99, 100, 101, 102, 103, 104, 105, 106, 107, 108, 109, 110, 111, 112, 113, 114, 115, 116, 117, 118, 119, 120, 121, 122, 123, 124, 125, 126, 127, 128, 129, 130, 131, 132, 133, 134, 135, 136, 137] (by decide +kernel) (by decide +kernel)
set_option maxRecDepth 20000 in
theorem gX2_serveUpTo_X2_serve : GoodIn wsX2_serveUpTo (wsV RX2 108 RX2 yX2_serve wsX2_serve) := goodIn_app (goodIn_of _ (by decide +kernel)) ggX2_serveUpTo_X2_serve
theorem dX2_serveUpTo_0 : decode cX2_serveUpTo 0 = .ok (.iload_n 1, 1) := by decide +kernel
theorem dX2_serveUpTo_1 : decode cX2_serveUpTo 1 = .ok (.iconst 0, 1) := by decide +kernel
theorem dX2_serveUpTo_2 : decode cX2_serveUpTo 2 = .ok (.ldc 101, 2) := by decide +kernel
theorem dX2_serveUpTo_4 : decode cX2_serveUpTo 4 = .ok (.invokestatic 27, 3) := by decide +kernel
theorem dX2_serveUpTo_7 : decode cX2_serveUpTo 7 = .ok (.iload_n 1, 1) := by decide +kernel
theorem dX2_serveUpTo_8 : decode cX2_serveUpTo 8 = .ok (.istore_n 2, 1) := by decide +kernel
theorem dX2_serveUpTo_9 : decode cX2_serveUpTo 9 = .ok (.iconst 0, 1) := by decide +kernel
theorem dX2_serveUpTo_10 : decode cX2_serveUpTo 10 = .ok (.istore_n 3, 1) := by decide +kernel
theorem dX2_serveUpTo_11 : decode cX2_serveUpTo 11 = .ok (.iload_n 3, 1) := by decide +kernel
theorem dX2_serveUpTo_12 : decode cX2_serveUpTo 12 = .ok (.bipush 96, 2) := by decide +kernel
theorem dX2_serveUpTo_14 : decode cX2_serveUpTo 14 = .ok (.if_icmp .ge 55, 3) := by decide +kernel
theorem dX2_serveUpTo_17 : decode cX2_serveUpTo 17 = .ok (.aload_n 0, 1) := by decide +kernel
theorem dX2_serveUpTo_18 : decode cX2_serveUpTo 18 = .ok (.invokevirtual 102, 3) := by decide +kernel
theorem dX2_serveUpTo_21 : decode cX2_serveUpTo 21 = .ok (.istore 4, 2) := by decide +kernel
theorem dX2_serveUpTo_23 : decode cX2_serveUpTo 23 = .ok (.iload 4, 2) := by decide +kernel
theorem dX2_serveUpTo_25 : decode cX2_serveUpTo 25 = .ok (.iconst (-1), 1) := by decide +kernel
theorem dX2_serveUpTo_26 : decode cX2_serveUpTo 26 = .ok (.if_icmp .ne 6, 3) := by decide +kernel
theorem dX2_serveUpTo_29 : decode cX2_serveUpTo 29 = .ok (.goto 40, 3) := by decide +kernel
theorem dX2_serveUpTo_32 : decode cX2_serveUpTo 32 = .ok (.aload_n 0, 1) := by decide +kernel
theorem dX2_serveUpTo_33 : decode cX2_serveUpTo 33 = .ok (.getfield 11, 3) := by decide +kernel
theorem dX2_serveUpTo_36 : decode cX2_serveUpTo 36 = .ok (.iload 4, 2) := by decide +kernel
theorem dX2_serveUpTo_38 : decode cX2_serveUpTo 38 = .ok (.aaload, 1) := by decide +kernel
theorem dX2_serveUpTo_39 : decode cX2_serveUpTo 39 = .ok (.invokevirtual 105, 3) := by decide +kernel
theorem dX2_serveUpTo_42 : decode cX2_serveUpTo 42 = .ok (.istore 5, 2) := by decide +kernel
theorem dX2_serveUpTo_44 : decode cX2_serveUpTo 44 = .ok (.iload 5, 2) := by decide +kernel
theorem dX2_serveUpTo_46 : decode cX2_serveUpTo 46 = .ok (.iload_n 2, 1) := by decide +kernel
theorem dX2_serveUpTo_47 : decode cX2_serveUpTo 47 = .ok (.if_icmp .le 6, 3) := by decide +kernel
theorem dX2_serveUpTo_50 : decode cX2_serveUpTo 50 = .ok (.goto 19, 3) := by decide +kernel
theorem dX2_serveUpTo_53 : decode cX2_serveUpTo 53 = .ok (.iload_n 2, 1) := by decide +kernel
theorem dX2_serveUpTo_54 : decode cX2_serveUpTo 54 = .ok (.iload 5, 2) := by decide +kernel
theorem dX2_serveUpTo_56 : decode cX2_serveUpTo 56 = .ok (.isub, 1) := by decide +kernel
theorem dX2_serveUpTo_57 : decode cX2_serveUpTo 57 = .ok (.istore_n 2, 1) := by decide +kernel
theorem dX2_serveUpTo_58 : decode cX2_serveUpTo 58 = .ok (.aload_n 0, 1) := by decide +kernel
theorem dX2_serveUpTo_59 : decode cX2_serveUpTo 59 = .ok (.invokevirtual 108, 3) := by decide +kernel
theorem dX2_serveUpTo_62 : decode cX2_serveUpTo 62 = .ok (.pop, 1) := by decide +kernel
theorem dX2_serveUpTo_63 : decode cX2_serveUpTo 63 = .ok (.iinc 3 1, 3) := by decide +kernel
theorem dX2_serveUpTo_66 : decode cX2_serveUpTo 66 = .ok (.goto (-55), 3) := by decide +kernel
theorem dX2_serveUpTo_69 : decode cX2_serveUpTo 69 = .ok (.iload_n 3, 1) := by decide +kernel
theorem dX2_serveUpTo_70 : decode cX2_serveUpTo 70 = .ok (.ireturn, 1) := by decide +kernel
set_option maxRecDepth 20000 in
theorem ggX2_empty_X2_queueOf : GoodIn wsX2_empty wsX2_queueOf := goodIn_ca (goodIn_r _ [5, 6, 7, 8, 51, 52, 53, 54, 55, 56, 57] (by decide +kernel) (by decide +kernel)) (goodIn_sub (fun _ h => List.mem_cons_of_mem _ (List.mem_append_right _ h)) (by decide +kernel))
set_option maxRecDepth 20000 in
theorem gX2_empty_X2_queueOf : GoodIn wsX2_empty (wsV RX2 23 RX2 yX2_queueOf wsX2_queueOf) := goodIn_app (goodIn_of _ (by decide +kernel)) ggX2_empty_X2_queueOf
set_option maxRecDepth 20000 in
theorem ggX2_empty_X0_dropAll : GoodIn wsX2_empty wsX0_dropAll := goodIn_r _ [13, 14, 15, 36, 37, 38, 39, 40, 41, 42, 43, 44, 45, 46, 47, 48, 49, 50] (by decide +kernel) (by decide +kernel)
set_option maxRecDepth 20000 in
theorem gX2_empty_X0_dropAll : GoodIn wsX2_empty (wsV RX2 111 RX0 yX0_dropAll wsX0_dropAll) := goodIn_app (goodIn_of _ (by decide +kernel)) ggX2_empty_X0_dropAll
set_option maxRecDepth 20000 in
theorem ggX2_empty_X2_leaveRing : GoodIn wsX2_empty wsX2_leaveRing := goodIn_r _ [19, 20, 21, 22, 23, 24, 25, 26, 27, 28, 29, 30, 31, 32, 33, 34, 35, 51, 52, 53, 54, 55, 56, 57, 36, 37, 38, 39, 40, 41, 42, 43, 44, 45, 46, 47, 48, 49, 50, 58, 59] (by decide +kernel) (by decide +kernel)
set_option maxRecDepth 20000 in
theorem gX2_empty_X2_leaveRing : GoodIn wsX2_empty (wsV RX2 114 RX2 yX2_leaveRing wsX2_leaveRing) := goodIn_app (goodIn_of _ (by decide +kernel)) ggX2_empty_X2_leaveRing
theorem dX2_empty_0 : decode cX2_empty 0 = .ok (.aload_n 0, 1) := by decide +kernel
theorem dX2_empty_1 : decode cX2_empty 1 = .ok (.iload_n 1, 1) := by decide +kernel
theorem dX2_empty_2 : decode cX2_empty 2 = .ok (.invokevirtual 23, 3) := by decide +kernel
theorem dX2_empty_5 : decode cX2_empty 5 = .ok (.astore_n 2, 1) := by decide +kernel
theorem dX2_empty_6 : decode cX2_empty 6 = .ok (.aload_n 2, 1) := by decide +kernel
theorem dX2_empty_7 : decode cX2_empty 7 = .ok (.getfield 52, 3) := by decide +kernel
theorem dX2_empty_10 : decode cX2_empty 10 = .ok (.istore_n 3, 1) := by decide +kernel
theorem dX2_empty_11 : decode cX2_empty 11 = .ok (.iload_n 3, 1) := by decide +kernel
theorem dX2_empty_12 : decode cX2_empty 12 = .ok (.ifCond .le 13, 3) := by decide +kernel
theorem dX2_empty_15 : decode cX2_empty 15 = .ok (.aload_n 2, 1) := by decide +kernel
theorem dX2_empty_16 : decode cX2_empty 16 = .ok (.invokevirtual 111, 3) := by decide +kernel
theorem dX2_empty_19 : decode cX2_empty 19 = .ok (.aload_n 0, 1) := by decide +kernel
theorem dX2_empty_20 : decode cX2_empty 20 = .ok (.iload_n 1, 1) := by decide +kernel
theorem dX2_empty_21 : decode cX2_empty 21 = .ok (.aload_n 2, 1) := by decide +kernel
theorem dX2_empty_22 : decode cX2_empty 22 = .ok (.invokevirtual 114, 3) := by decide +kernel
theorem dX2_empty_25 : decode cX2_empty 25 = .ok (.iload_n 3, 1) := by decide +kernel
theorem dX2_empty_26 : decode cX2_empty 26 = .ok (.ireturn, 1) := by decide +kernel
set_option maxRecDepth 20000 in
theorem ggX2_told_X2_queueOf : GoodIn wsX2_told wsX2_queueOf := goodIn_ca (goodIn_r _ [8, 1, 2, 9, 32, 33, 34, 35, 36, 37, 38] (by decide +kernel) (by decide +kernel)) (goodIn_sub (fun _ h => List.mem_cons_of_mem _ (List.mem_append_right _ h)) (by decide +kernel))
set_option maxRecDepth 20000 in
theorem gX2_told_X2_queueOf : GoodIn wsX2_told (wsV RX2 23 RX2 yX2_queueOf wsX2_queueOf) := goodIn_app (goodIn_of _ (by decide +kernel)) ggX2_told_X2_queueOf
set_option maxRecDepth 20000 in
theorem ggX2_told_X1_placeOf : GoodIn wsX2_told wsX1_placeOf := goodIn_r _ [14, 15, 16, 39, 40] (by decide +kernel) (by decide +kernel)
set_option maxRecDepth 20000 in
theorem gX2_told_X1_placeOf : GoodIn wsX2_told (wsV RX2 125 RX1 yX1_placeOf wsX1_placeOf) := goodIn_app (goodIn_of _ (by decide +kernel)) ggX2_told_X1_placeOf
theorem dX2_told_0 : decode cX2_told 0 = .ok (.aload_n 0, 1) := by decide +kernel
theorem dX2_told_1 : decode cX2_told 1 = .ok (.iload_n 1, 1) := by decide +kernel
theorem dX2_told_2 : decode cX2_told 2 = .ok (.invokevirtual 23, 3) := by decide +kernel
theorem dX2_told_5 : decode cX2_told 5 = .ok (.astore_n 3, 1) := by decide +kernel
theorem dX2_told_6 : decode cX2_told 6 = .ok (.iload_n 2, 1) := by decide +kernel
theorem dX2_told_7 : decode cX2_told 7 = .ok (.tableswitch 147 0 12 #[65, 70, 75, 80, 85, 90, 95, 108, 122, 127, 132, 137, 142], 65) := by decide +kernel
theorem dX2_told_72 : decode cX2_told 72 = .ok (.aload_n 3, 1) := by decide +kernel
theorem dX2_told_73 : decode cX2_told 73 = .ok (.getfield 52, 3) := by decide +kernel
theorem dX2_told_76 : decode cX2_told 76 = .ok (.ireturn, 1) := by decide +kernel
theorem dX2_told_77 : decode cX2_told 77 = .ok (.aload_n 3, 1) := by decide +kernel
theorem dX2_told_78 : decode cX2_told 78 = .ok (.getfield 45, 3) := by decide +kernel
theorem dX2_told_81 : decode cX2_told 81 = .ok (.ireturn, 1) := by decide +kernel
theorem dX2_told_82 : decode cX2_told 82 = .ok (.aload_n 3, 1) := by decide +kernel
theorem dX2_told_83 : decode cX2_told 83 = .ok (.getfield 42, 3) := by decide +kernel
theorem dX2_told_86 : decode cX2_told 86 = .ok (.ireturn, 1) := by decide +kernel
theorem dX2_told_87 : decode cX2_told 87 = .ok (.aload_n 3, 1) := by decide +kernel
theorem dX2_told_88 : decode cX2_told 88 = .ok (.getfield 39, 3) := by decide +kernel
theorem dX2_told_91 : decode cX2_told 91 = .ok (.ireturn, 1) := by decide +kernel
theorem dX2_told_92 : decode cX2_told 92 = .ok (.aload_n 3, 1) := by decide +kernel
theorem dX2_told_93 : decode cX2_told 93 = .ok (.getfield 35, 3) := by decide +kernel
theorem dX2_told_96 : decode cX2_told 96 = .ok (.ireturn, 1) := by decide +kernel
theorem dX2_told_97 : decode cX2_told 97 = .ok (.aload_n 3, 1) := by decide +kernel
theorem dX2_told_98 : decode cX2_told 98 = .ok (.getfield 118, 3) := by decide +kernel
theorem dX2_told_101 : decode cX2_told 101 = .ok (.ireturn, 1) := by decide +kernel
theorem dX2_told_102 : decode cX2_told 102 = .ok (.aload_n 3, 1) := by decide +kernel
theorem dX2_told_103 : decode cX2_told 103 = .ok (.getfield 121, 3) := by decide +kernel
theorem dX2_told_106 : decode cX2_told 106 = .ok (.ifCond .eq 7, 3) := by decide +kernel
theorem dX2_told_109 : decode cX2_told 109 = .ok (.iconst 1, 1) := by decide +kernel
theorem dX2_told_110 : decode cX2_told 110 = .ok (.goto 4, 3) := by decide +kernel
theorem dX2_told_113 : decode cX2_told 113 = .ok (.iconst 0, 1) := by decide +kernel
theorem dX2_told_114 : decode cX2_told 114 = .ok (.ireturn, 1) := by decide +kernel
theorem dX2_told_115 : decode cX2_told 115 = .ok (.aload_n 0, 1) := by decide +kernel
theorem dX2_told_116 : decode cX2_told 116 = .ok (.getfield 17, 3) := by decide +kernel
theorem dX2_told_119 : decode cX2_told 119 = .ok (.aload_n 3, 1) := by decide +kernel
theorem dX2_told_120 : decode cX2_told 120 = .ok (.getfield 45, 3) := by decide +kernel
theorem dX2_told_123 : decode cX2_told 123 = .ok (.aaload, 1) := by decide +kernel
theorem dX2_told_124 : decode cX2_told 124 = .ok (.iload_n 1, 1) := by decide +kernel
theorem dX2_told_125 : decode cX2_told 125 = .ok (.invokevirtual 125, 3) := by decide +kernel
theorem dX2_told_128 : decode cX2_told 128 = .ok (.ireturn, 1) := by decide +kernel
theorem dX2_told_129 : decode cX2_told 129 = .ok (.aload_n 3, 1) := by decide +kernel
theorem dX2_told_130 : decode cX2_told 130 = .ok (.getfield 128, 3) := by decide +kernel
theorem dX2_told_133 : decode cX2_told 133 = .ok (.ireturn, 1) := by decide +kernel
theorem dX2_told_134 : decode cX2_told 134 = .ok (.aload_n 3, 1) := by decide +kernel
theorem dX2_told_135 : decode cX2_told 135 = .ok (.getfield 131, 3) := by decide +kernel
theorem dX2_told_138 : decode cX2_told 138 = .ok (.ireturn, 1) := by decide +kernel
theorem dX2_told_139 : decode cX2_told 139 = .ok (.aload_n 3, 1) := by decide +kernel
theorem dX2_told_140 : decode cX2_told 140 = .ok (.getfield 134, 3) := by decide +kernel
theorem dX2_told_143 : decode cX2_told 143 = .ok (.ireturn, 1) := by decide +kernel
theorem dX2_told_144 : decode cX2_told 144 = .ok (.aload_n 3, 1) := by decide +kernel
theorem dX2_told_145 : decode cX2_told 145 = .ok (.getfield 137, 3) := by decide +kernel
theorem dX2_told_148 : decode cX2_told 148 = .ok (.ireturn, 1) := by decide +kernel
theorem dX2_told_149 : decode cX2_told 149 = .ok (.aload_n 3, 1) := by decide +kernel
theorem dX2_told_150 : decode cX2_told 150 = .ok (.getfield 140, 3) := by decide +kernel
theorem dX2_told_153 : decode cX2_told 153 = .ok (.ireturn, 1) := by decide +kernel
theorem dX2_told_154 : decode cX2_told 154 = .ok (.new 143, 3) := by decide +kernel
theorem dX2_told_157 : decode cX2_told 157 = .ok (.dup, 1) := by decide +kernel
theorem dX2_told_158 : decode cX2_told 158 = .ok (.ldc 145, 2) := by decide +kernel
theorem dX2_told_160 : decode cX2_told 160 = .ok (.invokespecial 147, 3) := by decide +kernel
theorem dX2_told_163 : decode cX2_told 163 = .ok (.athrow, 1) := by decide +kernel
set_option maxRecDepth 20000 in
theorem ggX2_item_X2_queueOf : GoodIn wsX2_item wsX2_queueOf := goodIn_ca (goodIn_r _ [7, 8, 9, 10, 49, 50, 51, 52, 53, 54, 55] (by decide +kernel) (by decide +kernel)) (goodIn_sub (fun _ h => List.mem_cons_of_mem _ (List.mem_append_right _ h)) (by decide +kernel))
set_option maxRecDepth 20000 in
theorem gX2_item_X2_queueOf : GoodIn wsX2_item (wsV RX2 23 RX2 yX2_queueOf wsX2_queueOf) := goodIn_app (goodIn_of _ (by decide +kernel)) ggX2_item_X2_queueOf
set_option maxRecDepth 20000 in
theorem ggX2_item_X2_checkRange : GoodIn wsX2_item wsX2_checkRange := goodIn_ca (goodIn_r _ [13, 8, 9] (by decide +kernel) (by decide +kernel)) (goodIn_sub (fun _ h => List.mem_cons_of_mem _ (List.mem_append_right _ h)) (by decide +kernel))
set_option maxRecDepth 20000 in
theorem gX2_item_X2_checkRange : GoodIn wsX2_item (va_wsS RX2 27 yX2_checkRange wsX2_checkRange) := goodIn_app (goodIn_of _ (by decide +kernel)) ggX2_item_X2_checkRange
set_option maxRecDepth 20000 in
theorem ggX2_item_X0_wordAt : GoodIn wsX2_item wsX0_wordAt := goodIn_r _ [18, 19, 20, 21, 22, 17, 23, 24, 25, 26, 27, 28, 34, 35, 36, 37, 38, 39, 40, 41, 42, 43, 44, 45, 46, 47, 48] (by decide +kernel) (by decide +kernel)
set_option maxRecDepth 20000 in
theorem gX2_item_X0_wordAt : GoodIn wsX2_item (wsV RX2 155 RX0 yX0_wordAt wsX0_wordAt) := goodIn_app (goodIn_of _ (by decide +kernel)) ggX2_item_X0_wordAt
set_option maxRecDepth 20000 in
theorem ggX2_item_X0_costAt : GoodIn wsX2_item wsX0_costAt := goodIn_r _ [32, 33, 20, 21, 22, 17, 23, 24, 25, 26, 27, 28, 34, 35, 36, 37, 38, 39, 40, 41, 42, 43, 44, 45, 46, 47, 48] (by decide +kernel) (by decide +kernel)
set_option maxRecDepth 20000 in
theorem gX2_item_X0_costAt : GoodIn wsX2_item (wsV RX2 158 RX0 yX0_costAt wsX0_costAt) := goodIn_app (goodIn_of _ (by decide +kernel)) ggX2_item_X0_costAt
theorem dX2_item_0 : decode cX2_item 0 = .ok (.aload_n 0, 1) := by decide +kernel
theorem dX2_item_1 : decode cX2_item 1 = .ok (.iload_n 1, 1) := by decide +kernel
theorem dX2_item_2 : decode cX2_item 2 = .ok (.invokevirtual 23, 3) := by decide +kernel
theorem dX2_item_5 : decode cX2_item 5 = .ok (.astore 4, 2) := by decide +kernel
theorem dX2_item_7 : decode cX2_item 7 = .ok (.iload_n 3, 1) := by decide +kernel
theorem dX2_item_8 : decode cX2_item 8 = .ok (.iconst 0, 1) := by decide +kernel
theorem dX2_item_9 : decode cX2_item 9 = .ok (.iconst 1, 1) := by decide +kernel
theorem dX2_item_10 : decode cX2_item 10 = .ok (.invokestatic 27, 3) := by decide +kernel
theorem dX2_item_13 : decode cX2_item 13 = .ok (.iload_n 2, 1) := by decide +kernel
theorem dX2_item_14 : decode cX2_item 14 = .ok (.ifCond .lt 12, 3) := by decide +kernel
theorem dX2_item_17 : decode cX2_item 17 = .ok (.iload_n 2, 1) := by decide +kernel
theorem dX2_item_18 : decode cX2_item 18 = .ok (.aload 4, 2) := by decide +kernel
theorem dX2_item_20 : decode cX2_item 20 = .ok (.getfield 52, 3) := by decide +kernel
theorem dX2_item_23 : decode cX2_item 23 = .ok (.if_icmp .lt 13, 3) := by decide +kernel
theorem dX2_item_26 : decode cX2_item 26 = .ok (.new 150, 3) := by decide +kernel
theorem dX2_item_29 : decode cX2_item 29 = .ok (.dup, 1) := by decide +kernel
theorem dX2_item_30 : decode cX2_item 30 = .ok (.ldc 152, 2) := by decide +kernel
theorem dX2_item_32 : decode cX2_item 32 = .ok (.invokespecial 154, 3) := by decide +kernel
theorem dX2_item_35 : decode cX2_item 35 = .ok (.athrow, 1) := by decide +kernel
theorem dX2_item_36 : decode cX2_item 36 = .ok (.iload_n 3, 1) := by decide +kernel
theorem dX2_item_37 : decode cX2_item 37 = .ok (.ifCond .ne 12, 3) := by decide +kernel
theorem dX2_item_40 : decode cX2_item 40 = .ok (.aload 4, 2) := by decide +kernel
theorem dX2_item_42 : decode cX2_item 42 = .ok (.iload_n 2, 1) := by decide +kernel
theorem dX2_item_43 : decode cX2_item 43 = .ok (.invokevirtual 155, 3) := by decide +kernel
theorem dX2_item_46 : decode cX2_item 46 = .ok (.goto 9, 3) := by decide +kernel
theorem dX2_item_49 : decode cX2_item 49 = .ok (.aload 4, 2) := by decide +kernel
theorem dX2_item_51 : decode cX2_item 51 = .ok (.iload_n 2, 1) := by decide +kernel
theorem dX2_item_52 : decode cX2_item 52 = .ok (.invokevirtual 158, 3) := by decide +kernel
theorem dX2_item_55 : decode cX2_item 55 = .ok (.ireturn, 1) := by decide +kernel
set_option maxRecDepth 20000 in
theorem ggX2_all_X2_freeCells : GoodIn wsX2_all wsX2_freeCells := goodIn_r _ [11, 12, 32, 33, 34, 35, 36, 37, 38, 39, 40, 41, 42, 43, 44, 45, 46, 47, 48, 49, 50, 51, 52, 53] (by decide +kernel) (by decide +kernel)
set_option maxRecDepth 20000 in
theorem gX2_all_X2_freeCells : GoodIn wsX2_all (wsV RX2 161 RX2 yX2_freeCells wsX2_freeCells) := goodIn_app (goodIn_of _ (by decide +kernel)) ggX2_all_X2_freeCells
set_option maxRecDepth 20000 in
theorem ggX2_all_X2_openCells : GoodIn wsX2_all wsX2_openCells := goodIn_r _ [16, 12, 17, 18, 19, 20, 7, 8, 9, 10, 11, 21, 22, 23, 24, 25, 26, 27, 32, 33, 34, 35, 36, 37, 38, 39, 40, 41, 42, 43, 44, 45, 46, 47, 48, 49, 50, 51, 52, 53] (by decide +kernel) (by decide +kernel)
set_option maxRecDepth 20000 in
theorem gX2_all_X2_openCells : GoodIn wsX2_all (wsV RX2 164 RX2 yX2_openCells wsX2_openCells) := goodIn_app (goodIn_of _ (by decide +kernel)) ggX2_all_X2_openCells
set_option maxRecDepth 20000 in
theorem ggX2_all_X2_keptCells : GoodIn wsX2_all wsX2_keptCells := goodIn_r _ [31, 12, 32, 33, 34, 35, 36, 37, 38, 39, 40, 41, 42, 43, 44, 45, 46, 47, 48, 49, 50, 51, 52, 53] (by decide +kernel) (by decide +kernel)
set_option maxRecDepth 20000 in
theorem gX2_all_X2_keptCells : GoodIn wsX2_all (wsV RX2 31 RX2 yX2_keptCells wsX2_keptCells) := goodIn_app (goodIn_of _ (by decide +kernel)) ggX2_all_X2_keptCells
theorem dX2_all_0 : decode cX2_all 0 = .ok (.iload_n 1, 1) := by decide +kernel
theorem dX2_all_1 : decode cX2_all 1 = .ok (.tableswitch 78 0 6 #[43, 48, 53, 58, 63, 68, 73], 43) := by decide +kernel
theorem dX2_all_44 : decode cX2_all 44 = .ok (.aload_n 0, 1) := by decide +kernel
theorem dX2_all_45 : decode cX2_all 45 = .ok (.invokevirtual 161, 3) := by decide +kernel
theorem dX2_all_48 : decode cX2_all 48 = .ok (.ireturn, 1) := by decide +kernel
theorem dX2_all_49 : decode cX2_all 49 = .ok (.aload_n 0, 1) := by decide +kernel
theorem dX2_all_50 : decode cX2_all 50 = .ok (.invokevirtual 164, 3) := by decide +kernel
theorem dX2_all_53 : decode cX2_all 53 = .ok (.ireturn, 1) := by decide +kernel
theorem dX2_all_54 : decode cX2_all 54 = .ok (.aload_n 0, 1) := by decide +kernel
theorem dX2_all_55 : decode cX2_all 55 = .ok (.invokevirtual 31, 3) := by decide +kernel
theorem dX2_all_58 : decode cX2_all 58 = .ok (.ireturn, 1) := by decide +kernel
theorem dX2_all_59 : decode cX2_all 59 = .ok (.aload_n 0, 1) := by decide +kernel
theorem dX2_all_60 : decode cX2_all 60 = .ok (.getfield 167, 3) := by decide +kernel
theorem dX2_all_63 : decode cX2_all 63 = .ok (.ireturn, 1) := by decide +kernel
theorem dX2_all_64 : decode cX2_all 64 = .ok (.aload_n 0, 1) := by decide +kernel
theorem dX2_all_65 : decode cX2_all 65 = .ok (.getfield 170, 3) := by decide +kernel
theorem dX2_all_68 : decode cX2_all 68 = .ok (.ireturn, 1) := by decide +kernel
theorem dX2_all_69 : decode cX2_all 69 = .ok (.aload_n 0, 1) := by decide +kernel
theorem dX2_all_70 : decode cX2_all 70 = .ok (.getfield 55, 3) := by decide +kernel
theorem dX2_all_73 : decode cX2_all 73 = .ok (.ireturn, 1) := by decide +kernel
theorem dX2_all_74 : decode cX2_all 74 = .ok (.aload_n 0, 1) := by decide +kernel
theorem dX2_all_75 : decode cX2_all 75 = .ok (.getfield 72, 3) := by decide +kernel
theorem dX2_all_78 : decode cX2_all 78 = .ok (.ireturn, 1) := by decide +kernel
theorem dX2_all_79 : decode cX2_all 79 = .ok (.new 143, 3) := by decide +kernel
theorem dX2_all_82 : decode cX2_all 82 = .ok (.dup, 1) := by decide +kernel
theorem dX2_all_83 : decode cX2_all 83 = .ok (.ldc 145, 2) := by decide +kernel
theorem dX2_all_85 : decode cX2_all 85 = .ok (.invokespecial 147, 3) := by decide +kernel
theorem dX2_all_88 : decode cX2_all 88 = .ok (.athrow, 1) := by decide +kernel
theorem dX2_queueOf_0 : decode cX2_queueOf 0 = .ok (.iload_n 1, 1) := by decide +kernel
theorem dX2_queueOf_1 : decode cX2_queueOf 1 = .ok (.ifCond .lt 9, 3) := by decide +kernel
theorem dX2_queueOf_4 : decode cX2_queueOf 4 = .ok (.iload_n 1, 1) := by decide +kernel
theorem dX2_queueOf_5 : decode cX2_queueOf 5 = .ok (.bipush 12, 2) := by decide +kernel
theorem dX2_queueOf_7 : decode cX2_queueOf 7 = .ok (.if_icmp .lt 13, 3) := by decide +kernel
theorem dX2_queueOf_10 : decode cX2_queueOf 10 = .ok (.new 143, 3) := by decide +kernel
theorem dX2_queueOf_13 : decode cX2_queueOf 13 = .ok (.dup, 1) := by decide +kernel
theorem dX2_queueOf_14 : decode cX2_queueOf 14 = .ok (.ldc 173, 2) := by decide +kernel
theorem dX2_queueOf_16 : decode cX2_queueOf 16 = .ok (.invokespecial 147, 3) := by decide +kernel
theorem dX2_queueOf_19 : decode cX2_queueOf 19 = .ok (.athrow, 1) := by decide +kernel
theorem dX2_queueOf_20 : decode cX2_queueOf 20 = .ok (.aload_n 0, 1) := by decide +kernel
theorem dX2_queueOf_21 : decode cX2_queueOf 21 = .ok (.getfield 11, 3) := by decide +kernel
theorem dX2_queueOf_24 : decode cX2_queueOf 24 = .ok (.iload_n 1, 1) := by decide +kernel
theorem dX2_queueOf_25 : decode cX2_queueOf 25 = .ok (.aaload, 1) := by decide +kernel
theorem dX2_queueOf_26 : decode cX2_queueOf 26 = .ok (.areturn, 1) := by decide +kernel
theorem dX2_checkRange_0 : decode cX2_checkRange 0 = .ok (.iload_n 0, 1) := by decide +kernel
theorem dX2_checkRange_1 : decode cX2_checkRange 1 = .ok (.iload_n 1, 1) := by decide +kernel
theorem dX2_checkRange_2 : decode cX2_checkRange 2 = .ok (.if_icmp .lt 8, 3) := by decide +kernel
theorem dX2_checkRange_5 : decode cX2_checkRange 5 = .ok (.iload_n 0, 1) := by decide +kernel
theorem dX2_checkRange_6 : decode cX2_checkRange 6 = .ok (.iload_n 2, 1) := by decide +kernel
theorem dX2_checkRange_7 : decode cX2_checkRange 7 = .ok (.if_icmp .le 13, 3) := by decide +kernel
theorem dX2_checkRange_10 : decode cX2_checkRange 10 = .ok (.new 143, 3) := by decide +kernel
theorem dX2_checkRange_13 : decode cX2_checkRange 13 = .ok (.dup, 1) := by decide +kernel
theorem dX2_checkRange_14 : decode cX2_checkRange 14 = .ok (.ldc 175, 2) := by decide +kernel
theorem dX2_checkRange_16 : decode cX2_checkRange 16 = .ok (.invokespecial 147, 3) := by decide +kernel
theorem dX2_checkRange_19 : decode cX2_checkRange 19 = .ok (.athrow, 1) := by decide +kernel
theorem dX2_checkRange_20 : decode cX2_checkRange 20 = .ok (.return_, 1) := by decide +kernel
theorem dX2_keptCells_0 : decode cX2_keptCells 0 = .ok (.iconst 0, 1) := by decide +kernel
theorem dX2_keptCells_1 : decode cX2_keptCells 1 = .ok (.istore_n 1, 1) := by decide +kernel
theorem dX2_keptCells_2 : decode cX2_keptCells 2 = .ok (.aload_n 0, 1) := by decide +kernel
theorem dX2_keptCells_3 : decode cX2_keptCells 3 = .ok (.getfield 11, 3) := by decide +kernel
theorem dX2_keptCells_6 : decode cX2_keptCells 6 = .ok (.astore_n 2, 1) := by decide +kernel
theorem dX2_keptCells_7 : decode cX2_keptCells 7 = .ok (.aload_n 2, 1) := by decide +kernel
theorem dX2_keptCells_8 : decode cX2_keptCells 8 = .ok (.arraylength, 1) := by decide +kernel
theorem dX2_keptCells_9 : decode cX2_keptCells 9 = .ok (.istore_n 3, 1) := by decide +kernel
theorem dX2_keptCells_10 : decode cX2_keptCells 10 = .ok (.iconst 0, 1) := by decide +kernel
theorem dX2_keptCells_11 : decode cX2_keptCells 11 = .ok (.istore 4, 2) := by decide +kernel
theorem dX2_keptCells_13 : decode cX2_keptCells 13 = .ok (.iload 4, 2) := by decide +kernel
theorem dX2_keptCells_15 : decode cX2_keptCells 15 = .ok (.iload_n 3, 1) := by decide +kernel
theorem dX2_keptCells_16 : decode cX2_keptCells 16 = .ok (.if_icmp .ge 23, 3) := by decide +kernel
theorem dX2_keptCells_19 : decode cX2_keptCells 19 = .ok (.aload_n 2, 1) := by decide +kernel
theorem dX2_keptCells_20 : decode cX2_keptCells 20 = .ok (.iload 4, 2) := by decide +kernel
theorem dX2_keptCells_22 : decode cX2_keptCells 22 = .ok (.aaload, 1) := by decide +kernel
theorem dX2_keptCells_23 : decode cX2_keptCells 23 = .ok (.astore 5, 2) := by decide +kernel
theorem dX2_keptCells_25 : decode cX2_keptCells 25 = .ok (.iload_n 1, 1) := by decide +kernel
theorem dX2_keptCells_26 : decode cX2_keptCells 26 = .ok (.aload 5, 2) := by decide +kernel
theorem dX2_keptCells_28 : decode cX2_keptCells 28 = .ok (.getfield 35, 3) := by decide +kernel
theorem dX2_keptCells_31 : decode cX2_keptCells 31 = .ok (.iadd, 1) := by decide +kernel
theorem dX2_keptCells_32 : decode cX2_keptCells 32 = .ok (.istore_n 1, 1) := by decide +kernel
theorem dX2_keptCells_33 : decode cX2_keptCells 33 = .ok (.iinc 4 1, 3) := by decide +kernel
theorem dX2_keptCells_36 : decode cX2_keptCells 36 = .ok (.goto (-23), 3) := by decide +kernel
theorem dX2_keptCells_39 : decode cX2_keptCells 39 = .ok (.iload_n 1, 1) := by decide +kernel
theorem dX2_keptCells_40 : decode cX2_keptCells 40 = .ok (.ireturn, 1) := by decide +kernel
theorem dX2_freeCells_0 : decode cX2_freeCells 0 = .ok (.bipush 96, 2) := by decide +kernel
theorem dX2_freeCells_2 : decode cX2_freeCells 2 = .ok (.istore_n 1, 1) := by decide +kernel
theorem dX2_freeCells_3 : decode cX2_freeCells 3 = .ok (.aload_n 0, 1) := by decide +kernel
theorem dX2_freeCells_4 : decode cX2_freeCells 4 = .ok (.getfield 11, 3) := by decide +kernel
theorem dX2_freeCells_7 : decode cX2_freeCells 7 = .ok (.astore_n 2, 1) := by decide +kernel
theorem dX2_freeCells_8 : decode cX2_freeCells 8 = .ok (.aload_n 2, 1) := by decide +kernel
theorem dX2_freeCells_9 : decode cX2_freeCells 9 = .ok (.arraylength, 1) := by decide +kernel
theorem dX2_freeCells_10 : decode cX2_freeCells 10 = .ok (.istore_n 3, 1) := by decide +kernel
theorem dX2_freeCells_11 : decode cX2_freeCells 11 = .ok (.iconst 0, 1) := by decide +kernel
theorem dX2_freeCells_12 : decode cX2_freeCells 12 = .ok (.istore 4, 2) := by decide +kernel
theorem dX2_freeCells_14 : decode cX2_freeCells 14 = .ok (.iload 4, 2) := by decide +kernel
theorem dX2_freeCells_16 : decode cX2_freeCells 16 = .ok (.iload_n 3, 1) := by decide +kernel
theorem dX2_freeCells_17 : decode cX2_freeCells 17 = .ok (.if_icmp .ge 23, 3) := by decide +kernel
theorem dX2_freeCells_20 : decode cX2_freeCells 20 = .ok (.aload_n 2, 1) := by decide +kernel
theorem dX2_freeCells_21 : decode cX2_freeCells 21 = .ok (.iload 4, 2) := by decide +kernel
theorem dX2_freeCells_23 : decode cX2_freeCells 23 = .ok (.aaload, 1) := by decide +kernel
theorem dX2_freeCells_24 : decode cX2_freeCells 24 = .ok (.astore 5, 2) := by decide +kernel
theorem dX2_freeCells_26 : decode cX2_freeCells 26 = .ok (.iload_n 1, 1) := by decide +kernel
theorem dX2_freeCells_27 : decode cX2_freeCells 27 = .ok (.aload 5, 2) := by decide +kernel
theorem dX2_freeCells_29 : decode cX2_freeCells 29 = .ok (.getfield 52, 3) := by decide +kernel
theorem dX2_freeCells_32 : decode cX2_freeCells 32 = .ok (.isub, 1) := by decide +kernel
theorem dX2_freeCells_33 : decode cX2_freeCells 33 = .ok (.istore_n 1, 1) := by decide +kernel
theorem dX2_freeCells_34 : decode cX2_freeCells 34 = .ok (.iinc 4 1, 3) := by decide +kernel
theorem dX2_freeCells_37 : decode cX2_freeCells 37 = .ok (.goto (-23), 3) := by decide +kernel
theorem dX2_freeCells_40 : decode cX2_freeCells 40 = .ok (.iload_n 1, 1) := by decide +kernel
theorem dX2_freeCells_41 : decode cX2_freeCells 41 = .ok (.ireturn, 1) := by decide +kernel
set_option maxRecDepth 20000 in
theorem ggX2_openCells_X2_freeCells : GoodIn wsX2_openCells wsX2_freeCells := goodIn_r _ [10, 1, 18, 19, 20, 21, 22, 23, 24, 25, 26, 27, 28, 29, 30, 31, 32, 33, 34, 35, 36, 37, 38, 39] (by decide +kernel) (by decide +kernel)
set_option maxRecDepth 20000 in
theorem gX2_openCells_X2_freeCells : GoodIn wsX2_openCells (wsV RX2 161 RX2 yX2_freeCells wsX2_freeCells) := goodIn_app (goodIn_of _ (by decide +kernel)) ggX2_openCells_X2_freeCells
set_option maxRecDepth 20000 in
theorem ggX2_openCells_X0_excess : GoodIn wsX2_openCells wsX0_excess := goodIn_r _ [15, 16, 17, 25, 26, 27, 28, 29, 30, 31, 32, 33, 34, 35, 36, 37, 38, 39] (by decide +kernel) (by decide +kernel)
set_option maxRecDepth 20000 in
theorem gX2_openCells_X0_excess : GoodIn wsX2_openCells (wsV RX2 69 RX0 yX0_excess wsX0_excess) := goodIn_app (goodIn_of _ (by decide +kernel)) ggX2_openCells_X0_excess
theorem dX2_openCells_0 : decode cX2_openCells 0 = .ok (.aload_n 0, 1) := by decide +kernel
theorem dX2_openCells_1 : decode cX2_openCells 1 = .ok (.invokevirtual 161, 3) := by decide +kernel
theorem dX2_openCells_4 : decode cX2_openCells 4 = .ok (.istore_n 1, 1) := by decide +kernel
theorem dX2_openCells_5 : decode cX2_openCells 5 = .ok (.aload_n 0, 1) := by decide +kernel
theorem dX2_openCells_6 : decode cX2_openCells 6 = .ok (.getfield 11, 3) := by decide +kernel
theorem dX2_openCells_9 : decode cX2_openCells 9 = .ok (.astore_n 2, 1) := by decide +kernel
theorem dX2_openCells_10 : decode cX2_openCells 10 = .ok (.aload_n 2, 1) := by decide +kernel
theorem dX2_openCells_11 : decode cX2_openCells 11 = .ok (.arraylength, 1) := by decide +kernel
theorem dX2_openCells_12 : decode cX2_openCells 12 = .ok (.istore_n 3, 1) := by decide +kernel
theorem dX2_openCells_13 : decode cX2_openCells 13 = .ok (.iconst 0, 1) := by decide +kernel
theorem dX2_openCells_14 : decode cX2_openCells 14 = .ok (.istore 4, 2) := by decide +kernel
theorem dX2_openCells_16 : decode cX2_openCells 16 = .ok (.iload 4, 2) := by decide +kernel
theorem dX2_openCells_18 : decode cX2_openCells 18 = .ok (.iload_n 3, 1) := by decide +kernel
theorem dX2_openCells_19 : decode cX2_openCells 19 = .ok (.if_icmp .ge 27, 3) := by decide +kernel
theorem dX2_openCells_22 : decode cX2_openCells 22 = .ok (.aload_n 2, 1) := by decide +kernel
theorem dX2_openCells_23 : decode cX2_openCells 23 = .ok (.iload 4, 2) := by decide +kernel
theorem dX2_openCells_25 : decode cX2_openCells 25 = .ok (.aaload, 1) := by decide +kernel
theorem dX2_openCells_26 : decode cX2_openCells 26 = .ok (.astore 5, 2) := by decide +kernel
theorem dX2_openCells_28 : decode cX2_openCells 28 = .ok (.iload_n 1, 1) := by decide +kernel
theorem dX2_openCells_29 : decode cX2_openCells 29 = .ok (.aload 5, 2) := by decide +kernel
theorem dX2_openCells_31 : decode cX2_openCells 31 = .ok (.invokevirtual 69, 3) := by decide +kernel
theorem dX2_openCells_34 : decode cX2_openCells 34 = .ok (.iconst 0, 1) := by decide +kernel
theorem dX2_openCells_35 : decode cX2_openCells 35 = .ok (.invokestatic 177, 3) := by decide +kernel
theorem dX2_openCells_38 : decode cX2_openCells 38 = .ok (.iadd, 1) := by decide +kernel
theorem dX2_openCells_39 : decode cX2_openCells 39 = .ok (.istore_n 1, 1) := by decide +kernel
theorem dX2_openCells_40 : decode cX2_openCells 40 = .ok (.iinc 4 1, 3) := by decide +kernel
theorem dX2_openCells_43 : decode cX2_openCells 43 = .ok (.goto (-27), 3) := by decide +kernel
theorem dX2_openCells_46 : decode cX2_openCells 46 = .ok (.iload_n 1, 1) := by decide +kernel
theorem dX2_openCells_47 : decode cX2_openCells 47 = .ok (.ireturn, 1) := by decide +kernel
set_option maxRecDepth 20000 in
theorem ggX2_hasRoomFor_X2_freeCells : GoodIn wsX2_hasRoomFor wsX2_freeCells := goodIn_r _ [5, 6, 22, 23, 24, 25, 26, 27, 28, 29, 30, 31, 32, 33, 34, 35, 36, 37, 38, 39, 40, 41, 42, 43] (by decide +kernel) (by decide +kernel)
set_option maxRecDepth 20000 in
theorem gX2_hasRoomFor_X2_freeCells : GoodIn wsX2_hasRoomFor (wsV RX2 161 RX2 yX2_freeCells wsX2_freeCells) := goodIn_app (goodIn_of _ (by decide +kernel)) ggX2_hasRoomFor_X2_freeCells
set_option maxRecDepth 20000 in
theorem ggX2_hasRoomFor_X0_excess : GoodIn wsX2_hasRoomFor wsX0_excess := goodIn_r _ [11, 12, 13, 29, 30, 31, 32, 33, 34, 35, 36, 37, 38, 39, 40, 41, 42, 43] (by decide +kernel) (by decide +kernel)
set_option maxRecDepth 20000 in
theorem gX2_hasRoomFor_X0_excess : GoodIn wsX2_hasRoomFor (wsV RX2 69 RX0 yX0_excess wsX0_excess) := goodIn_app (goodIn_of _ (by decide +kernel)) ggX2_hasRoomFor_X0_excess
set_option maxRecDepth 20000 in
theorem ggX2_hasRoomFor_X2_openCells : GoodIn wsX2_hasRoomFor wsX2_openCells := goodIn_r _ [17, 6, 18, 19, 20, 21, 1, 2, 3, 4, 5, 7, 8, 9, 10, 11, 12, 13, 22, 23, 24, 25, 26, 27, 28, 29, 30, 31, 32, 33, 34, 35, 36, 37, 38, 39, 40, 41, 42, 43] (by decide +kernel) (by decide +kernel)
set_option maxRecDepth 20000 in
theorem gX2_hasRoomFor_X2_openCells : GoodIn wsX2_hasRoomFor (wsV RX2 164 RX2 yX2_openCells wsX2_openCells) := goodIn_app (goodIn_of _ (by decide +kernel)) ggX2_hasRoomFor_X2_openCells
theorem dX2_hasRoomFor_0 : decode cX2_hasRoomFor 0 = .ok (.aload_n 0, 1) := by decide +kernel
theorem dX2_hasRoomFor_1 : decode cX2_hasRoomFor 1 = .ok (.invokevirtual 161, 3) := by decide +kernel
theorem dX2_hasRoomFor_4 : decode cX2_hasRoomFor 4 = .ok (.ifCond .le 21, 3) := by decide +kernel
theorem dX2_hasRoomFor_7 : decode cX2_hasRoomFor 7 = .ok (.aload_n 1, 1) := by decide +kernel
theorem dX2_hasRoomFor_8 : decode cX2_hasRoomFor 8 = .ok (.invokevirtual 69, 3) := by decide +kernel
theorem dX2_hasRoomFor_11 : decode cX2_hasRoomFor 11 = .ok (.ifCond .lt 10, 3) := by decide +kernel
theorem dX2_hasRoomFor_14 : decode cX2_hasRoomFor 14 = .ok (.aload_n 0, 1) := by decide +kernel
theorem dX2_hasRoomFor_15 : decode cX2_hasRoomFor 15 = .ok (.invokevirtual 164, 3) := by decide +kernel
theorem dX2_hasRoomFor_18 : decode cX2_hasRoomFor 18 = .ok (.ifCond .le 7, 3) := by decide +kernel
theorem dX2_hasRoomFor_21 : decode cX2_hasRoomFor 21 = .ok (.iconst 1, 1) := by decide +kernel
theorem dX2_hasRoomFor_22 : decode cX2_hasRoomFor 22 = .ok (.goto 4, 3) := by decide +kernel
theorem dX2_hasRoomFor_25 : decode cX2_hasRoomFor 25 = .ok (.iconst 0, 1) := by decide +kernel
theorem dX2_hasRoomFor_26 : decode cX2_hasRoomFor 26 = .ok (.ireturn, 1) := by decide +kernel
set_option maxRecDepth 20000 in
theorem ggX2_queueOfGreatestExcess_X0_excess : GoodIn wsX2_queueOfGreatestExcess wsX0_excess := goodIn_r _ [6, 7, 8, 16, 17, 18, 19, 20, 21, 22, 23, 24, 25, 26, 27, 28, 29, 30] (by decide +kernel) (by decide +kernel)
end
section
set_option maxRecDepth 20000 in
theorem gX2_queueOfGreatestExcess_X0_excess : GoodIn wsX2_queueOfGreatestExcess (wsV RX2 69 RX0 yX0_excess wsX0_excess) := goodIn_app (goodIn_of _ (by decide +kernel)) ggX2_queueOfGreatestExcess_X0_excess
theorem dX2_queueOfGreatestExcess_0 : decode cX2_queueOfGreatestExcess 0 = .ok (.iconst 0, 1) := by decide +kernel
theorem dX2_queueOfGreatestExcess_1 : decode cX2_queueOfGreatestExcess 1 = .ok (.istore_n 1, 1) := by decide +kernel
theorem dX2_queueOfGreatestExcess_2 : decode cX2_queueOfGreatestExcess 2 = .ok (.iconst 1, 1) := by decide +kernel
theorem dX2_queueOfGreatestExcess_3 : decode cX2_queueOfGreatestExcess 3 = .ok (.istore_n 2, 1) := by decide +kernel
theorem dX2_queueOfGreatestExcess_4 : decode cX2_queueOfGreatestExcess 4 = .ok (.iload_n 2, 1) := by decide +kernel
theorem dX2_queueOfGreatestExcess_5 : decode cX2_queueOfGreatestExcess 5 = .ok (.bipush 12, 2) := by decide +kernel
theorem dX2_queueOfGreatestExcess_7 : decode cX2_queueOfGreatestExcess 7 = .ok (.if_icmp .ge 32, 3) := by decide +kernel
theorem dX2_queueOfGreatestExcess_10 : decode cX2_queueOfGreatestExcess 10 = .ok (.aload_n 0, 1) := by decide +kernel
theorem dX2_queueOfGreatestExcess_11 : decode cX2_queueOfGreatestExcess 11 = .ok (.getfield 11, 3) := by decide +kernel
theorem dX2_queueOfGreatestExcess_14 : decode cX2_queueOfGreatestExcess 14 = .ok (.iload_n 2, 1) := by decide +kernel
theorem dX2_queueOfGreatestExcess_15 : decode cX2_queueOfGreatestExcess 15 = .ok (.aaload, 1) := by decide +kernel
theorem dX2_queueOfGreatestExcess_16 : decode cX2_queueOfGreatestExcess 16 = .ok (.invokevirtual 69, 3) := by decide +kernel
theorem dX2_queueOfGreatestExcess_19 : decode cX2_queueOfGreatestExcess 19 = .ok (.aload_n 0, 1) := by decide +kernel
theorem dX2_queueOfGreatestExcess_20 : decode cX2_queueOfGreatestExcess 20 = .ok (.getfield 11, 3) := by decide +kernel
theorem dX2_queueOfGreatestExcess_23 : decode cX2_queueOfGreatestExcess 23 = .ok (.iload_n 1, 1) := by decide +kernel
theorem dX2_queueOfGreatestExcess_24 : decode cX2_queueOfGreatestExcess 24 = .ok (.aaload, 1) := by decide +kernel
theorem dX2_queueOfGreatestExcess_25 : decode cX2_queueOfGreatestExcess 25 = .ok (.invokevirtual 69, 3) := by decide +kernel
theorem dX2_queueOfGreatestExcess_28 : decode cX2_queueOfGreatestExcess 28 = .ok (.if_icmp .le 5, 3) := by decide +kernel
theorem dX2_queueOfGreatestExcess_31 : decode cX2_queueOfGreatestExcess 31 = .ok (.iload_n 2, 1) := by decide +kernel
theorem dX2_queueOfGreatestExcess_32 : decode cX2_queueOfGreatestExcess 32 = .ok (.istore_n 1, 1) := by decide +kernel
theorem dX2_queueOfGreatestExcess_33 : decode cX2_queueOfGreatestExcess 33 = .ok (.iinc 2 1, 3) := by decide +kernel
theorem dX2_queueOfGreatestExcess_36 : decode cX2_queueOfGreatestExcess 36 = .ok (.goto (-32), 3) := by decide +kernel
theorem dX2_queueOfGreatestExcess_39 : decode cX2_queueOfGreatestExcess 39 = .ok (.iload_n 1, 1) := by decide +kernel
theorem dX2_queueOfGreatestExcess_40 : decode cX2_queueOfGreatestExcess 40 = .ok (.ireturn, 1) := by decide +kernel
set_option maxRecDepth 20000 in
theorem ggX2_addItem_X0_putLast : GoodIn wsX2_addItem wsX0_putLast := goodIn_r _ [6, 7, 8, 9, 10, 11, 12, 13, 5, 14, 15, 16, 17, 18, 19, 27, 28, 29, 30, 31, 32, 33, 34, 35, 36, 37, 38, 39, 40, 41] (by decide +kernel) (by decide +kernel)
set_option maxRecDepth 20000 in
theorem gX2_addItem_X0_putLast : GoodIn wsX2_addItem (wsV RX2 183 RX0 yX0_putLast wsX0_putLast) := goodIn_app (goodIn_of _ (by decide +kernel)) ggX2_addItem_X0_putLast
set_option maxRecDepth 20000 in
theorem ggX2_addItem_X1_putAtEnd : GoodIn wsX2_addItem wsX1_putAtEnd := goodIn_r _ [24, 25, 26, 49, 50] (by decide +kernel) (by decide +kernel)
set_option maxRecDepth 20000 in
theorem gX2_addItem_X1_putAtEnd : GoodIn wsX2_addItem (wsV RX2 187 RX1 yX1_putAtEnd wsX1_putAtEnd) := goodIn_app (goodIn_of _ (by decide +kernel)) ggX2_addItem_X1_putAtEnd
theorem dX2_addItem_0 : decode cX2_addItem 0 = .ok (.aload_n 2, 1) := by decide +kernel
theorem dX2_addItem_1 : decode cX2_addItem 1 = .ok (.iload_n 3, 1) := by decide +kernel
theorem dX2_addItem_2 : decode cX2_addItem 2 = .ok (.iload 4, 2) := by decide +kernel
theorem dX2_addItem_4 : decode cX2_addItem 4 = .ok (.invokevirtual 183, 3) := by decide +kernel
theorem dX2_addItem_7 : decode cX2_addItem 7 = .ok (.aload_n 2, 1) := by decide +kernel
theorem dX2_addItem_8 : decode cX2_addItem 8 = .ok (.dup, 1) := by decide +kernel
theorem dX2_addItem_9 : decode cX2_addItem 9 = .ok (.getfield 128, 3) := by decide +kernel
theorem dX2_addItem_12 : decode cX2_addItem 12 = .ok (.iconst 1, 1) := by decide +kernel
theorem dX2_addItem_13 : decode cX2_addItem 13 = .ok (.iadd, 1) := by decide +kernel
theorem dX2_addItem_14 : decode cX2_addItem 14 = .ok (.putfield 128, 3) := by decide +kernel
theorem dX2_addItem_17 : decode cX2_addItem 17 = .ok (.aload_n 2, 1) := by decide +kernel
theorem dX2_addItem_18 : decode cX2_addItem 18 = .ok (.getfield 52, 3) := by decide +kernel
theorem dX2_addItem_21 : decode cX2_addItem 21 = .ok (.iconst 1, 1) := by decide +kernel
theorem dX2_addItem_22 : decode cX2_addItem 22 = .ok (.if_icmp .ne 16, 3) := by decide +kernel
theorem dX2_addItem_25 : decode cX2_addItem 25 = .ok (.aload_n 0, 1) := by decide +kernel
theorem dX2_addItem_26 : decode cX2_addItem 26 = .ok (.getfield 17, 3) := by decide +kernel
theorem dX2_addItem_29 : decode cX2_addItem 29 = .ok (.aload_n 2, 1) := by decide +kernel
theorem dX2_addItem_30 : decode cX2_addItem 30 = .ok (.getfield 45, 3) := by decide +kernel
theorem dX2_addItem_33 : decode cX2_addItem 33 = .ok (.aaload, 1) := by decide +kernel
theorem dX2_addItem_34 : decode cX2_addItem 34 = .ok (.iload_n 1, 1) := by decide +kernel
theorem dX2_addItem_35 : decode cX2_addItem 35 = .ok (.invokevirtual 187, 3) := by decide +kernel
theorem dX2_addItem_38 : decode cX2_addItem 38 = .ok (.return_, 1) := by decide +kernel
set_option maxRecDepth 20000 in
theorem ggX2_loseLastItem_X0_dropLast : GoodIn wsX2_loseLastItem wsX0_dropLast := goodIn_r _ [7, 8, 9, 10, 11, 12, 6, 13, 14, 15, 16, 17, 18, 19, 20, 21, 22, 23, 52, 53, 54, 55, 56, 57, 58, 59, 60, 61, 62, 63, 64, 65, 66] (by decide +kernel) (by decide +kernel)
set_option maxRecDepth 20000 in
theorem gX2_loseLastItem_X0_dropLast : GoodIn wsX2_loseLastItem (wsV RX2 190 RX0 yX0_dropLast wsX0_dropLast) := goodIn_app (goodIn_of _ (by decide +kernel)) ggX2_loseLastItem_X0_dropLast
set_option maxRecDepth 20000 in
theorem ggX2_loseLastItem_X2_leaveRing : GoodIn wsX2_loseLastItem wsX2_leaveRing := goodIn_r _ [28, 29, 30, 31, 32, 33, 34, 35, 36, 37, 38, 39, 40, 41, 42, 43, 44, 45, 46, 47, 48, 49, 50, 51, 52, 53, 54, 55, 56, 57, 58, 59, 60, 61, 62, 63, 64, 65, 66, 67, 68] (by decide +kernel) (by decide +kernel)
set_option maxRecDepth 20000 in
theorem gX2_loseLastItem_X2_leaveRing : GoodIn wsX2_loseLastItem (wsV RX2 114 RX2 yX2_leaveRing wsX2_leaveRing) := goodIn_app (goodIn_of _ (by decide +kernel)) ggX2_loseLastItem_X2_leaveRing
theorem dX2_loseLastItem_0 : decode cX2_loseLastItem 0 = .ok (.aload_n 0, 1) := by decide +kernel
theorem dX2_loseLastItem_1 : decode cX2_loseLastItem 1 = .ok (.getfield 11, 3) := by decide +kernel
theorem dX2_loseLastItem_4 : decode cX2_loseLastItem 4 = .ok (.iload_n 1, 1) := by decide +kernel
theorem dX2_loseLastItem_5 : decode cX2_loseLastItem 5 = .ok (.aaload, 1) := by decide +kernel
theorem dX2_loseLastItem_6 : decode cX2_loseLastItem 6 = .ok (.astore_n 2, 1) := by decide +kernel
theorem dX2_loseLastItem_7 : decode cX2_loseLastItem 7 = .ok (.aload_n 2, 1) := by decide +kernel
theorem dX2_loseLastItem_8 : decode cX2_loseLastItem 8 = .ok (.invokevirtual 190, 3) := by decide +kernel
theorem dX2_loseLastItem_11 : decode cX2_loseLastItem 11 = .ok (.aload_n 2, 1) := by decide +kernel
theorem dX2_loseLastItem_12 : decode cX2_loseLastItem 12 = .ok (.dup, 1) := by decide +kernel
theorem dX2_loseLastItem_13 : decode cX2_loseLastItem 13 = .ok (.getfield 131, 3) := by decide +kernel
theorem dX2_loseLastItem_16 : decode cX2_loseLastItem 16 = .ok (.iconst 1, 1) := by decide +kernel
theorem dX2_loseLastItem_17 : decode cX2_loseLastItem 17 = .ok (.iadd, 1) := by decide +kernel
theorem dX2_loseLastItem_18 : decode cX2_loseLastItem 18 = .ok (.putfield 131, 3) := by decide +kernel
theorem dX2_loseLastItem_21 : decode cX2_loseLastItem 21 = .ok (.aload_n 0, 1) := by decide +kernel
theorem dX2_loseLastItem_22 : decode cX2_loseLastItem 22 = .ok (.dup, 1) := by decide +kernel
theorem dX2_loseLastItem_23 : decode cX2_loseLastItem 23 = .ok (.getfield 170, 3) := by decide +kernel
theorem dX2_loseLastItem_26 : decode cX2_loseLastItem 26 = .ok (.iconst 1, 1) := by decide +kernel
theorem dX2_loseLastItem_27 : decode cX2_loseLastItem 27 = .ok (.iadd, 1) := by decide +kernel
theorem dX2_loseLastItem_28 : decode cX2_loseLastItem 28 = .ok (.putfield 170, 3) := by decide +kernel
theorem dX2_loseLastItem_31 : decode cX2_loseLastItem 31 = .ok (.aload_n 2, 1) := by decide +kernel
theorem dX2_loseLastItem_32 : decode cX2_loseLastItem 32 = .ok (.getfield 52, 3) := by decide +kernel
theorem dX2_loseLastItem_35 : decode cX2_loseLastItem 35 = .ok (.ifCond .ne 9, 3) := by decide +kernel
theorem dX2_loseLastItem_38 : decode cX2_loseLastItem 38 = .ok (.aload_n 0, 1) := by decide +kernel
theorem dX2_loseLastItem_39 : decode cX2_loseLastItem 39 = .ok (.iload_n 1, 1) := by decide +kernel
theorem dX2_loseLastItem_40 : decode cX2_loseLastItem 40 = .ok (.aload_n 2, 1) := by decide +kernel
theorem dX2_loseLastItem_41 : decode cX2_loseLastItem 41 = .ok (.invokevirtual 114, 3) := by decide +kernel
theorem dX2_loseLastItem_44 : decode cX2_loseLastItem 44 = .ok (.return_, 1) := by decide +kernel
set_option maxRecDepth 20000 in
theorem ggX2_leaveRing_X1_takeOut : GoodIn wsX2_leaveRing wsX1_takeOut := goodIn_r _ [6, 7, 8, 9, 10, 11, 12, 13, 14, 15, 5, 16, 39, 40] (by decide +kernel) (by decide +kernel)
set_option maxRecDepth 20000 in
theorem gX2_leaveRing_X1_takeOut : GoodIn wsX2_leaveRing (wsV RX2 193 RX1 yX1_takeOut wsX1_takeOut) := goodIn_app (goodIn_of _ (by decide +kernel)) ggX2_leaveRing_X1_takeOut
theorem dX2_leaveRing_0 : decode cX2_leaveRing 0 = .ok (.aload_n 0, 1) := by decide +kernel
theorem dX2_leaveRing_1 : decode cX2_leaveRing 1 = .ok (.getfield 17, 3) := by decide +kernel
theorem dX2_leaveRing_4 : decode cX2_leaveRing 4 = .ok (.aload_n 2, 1) := by decide +kernel
theorem dX2_leaveRing_5 : decode cX2_leaveRing 5 = .ok (.getfield 45, 3) := by decide +kernel
theorem dX2_leaveRing_8 : decode cX2_leaveRing 8 = .ok (.aaload, 1) := by decide +kernel
theorem dX2_leaveRing_9 : decode cX2_leaveRing 9 = .ok (.iload_n 1, 1) := by decide +kernel
theorem dX2_leaveRing_10 : decode cX2_leaveRing 10 = .ok (.invokevirtual 193, 3) := by decide +kernel
theorem dX2_leaveRing_13 : decode cX2_leaveRing 13 = .ok (.aload_n 2, 1) := by decide +kernel
theorem dX2_leaveRing_14 : decode cX2_leaveRing 14 = .ok (.iconst 0, 1) := by decide +kernel
theorem dX2_leaveRing_15 : decode cX2_leaveRing 15 = .ok (.putfield 118, 3) := by decide +kernel
theorem dX2_leaveRing_18 : decode cX2_leaveRing 18 = .ok (.aload_n 2, 1) := by decide +kernel
theorem dX2_leaveRing_19 : decode cX2_leaveRing 19 = .ok (.iconst 0, 1) := by decide +kernel
theorem dX2_leaveRing_20 : decode cX2_leaveRing 20 = .ok (.putfield 121, 3) := by decide +kernel
theorem dX2_leaveRing_23 : decode cX2_leaveRing 23 = .ok (.return_, 1) := by decide +kernel
set_option maxRecDepth 20000 in
theorem ggX2_changeClass_X1_takeOut : GoodIn wsX2_changeClass wsX1_takeOut := goodIn_r _ [6, 7, 8, 9, 10, 11, 12, 13, 14, 15, 5, 16, 43, 44] (by decide +kernel) (by decide +kernel)
set_option maxRecDepth 20000 in
theorem gX2_changeClass_X1_takeOut : GoodIn wsX2_changeClass (wsV RX2 193 RX1 yX1_takeOut wsX1_takeOut) := goodIn_app (goodIn_of _ (by decide +kernel)) ggX2_changeClass_X1_takeOut
set_option maxRecDepth 20000 in
theorem ggX2_changeClass_X1_putAtEnd : GoodIn wsX2_changeClass wsX1_putAtEnd := goodIn_r _ [20, 7, 8, 43, 44] (by decide +kernel) (by decide +kernel)
set_option maxRecDepth 20000 in
theorem gX2_changeClass_X1_putAtEnd : GoodIn wsX2_changeClass (wsV RX2 187 RX1 yX1_putAtEnd wsX1_putAtEnd) := goodIn_app (goodIn_of _ (by decide +kernel)) ggX2_changeClass_X1_putAtEnd
theorem dX2_changeClass_0 : decode cX2_changeClass 0 = .ok (.aload_n 2, 1) := by decide +kernel
theorem dX2_changeClass_1 : decode cX2_changeClass 1 = .ok (.getfield 52, 3) := by decide +kernel
theorem dX2_changeClass_4 : decode cX2_changeClass 4 = .ok (.ifCond .le 26, 3) := by decide +kernel
theorem dX2_changeClass_7 : decode cX2_changeClass 7 = .ok (.aload_n 0, 1) := by decide +kernel
theorem dX2_changeClass_8 : decode cX2_changeClass 8 = .ok (.getfield 17, 3) := by decide +kernel
theorem dX2_changeClass_11 : decode cX2_changeClass 11 = .ok (.aload_n 2, 1) := by decide +kernel
theorem dX2_changeClass_12 : decode cX2_changeClass 12 = .ok (.getfield 45, 3) := by decide +kernel
theorem dX2_changeClass_15 : decode cX2_changeClass 15 = .ok (.aaload, 1) := by decide +kernel
theorem dX2_changeClass_16 : decode cX2_changeClass 16 = .ok (.iload_n 1, 1) := by decide +kernel
theorem dX2_changeClass_17 : decode cX2_changeClass 17 = .ok (.invokevirtual 193, 3) := by decide +kernel
theorem dX2_changeClass_20 : decode cX2_changeClass 20 = .ok (.aload_n 0, 1) := by decide +kernel
theorem dX2_changeClass_21 : decode cX2_changeClass 21 = .ok (.getfield 17, 3) := by decide +kernel
theorem dX2_changeClass_24 : decode cX2_changeClass 24 = .ok (.iload_n 3, 1) := by decide +kernel
theorem dX2_changeClass_25 : decode cX2_changeClass 25 = .ok (.aaload, 1) := by decide +kernel
theorem dX2_changeClass_26 : decode cX2_changeClass 26 = .ok (.iload_n 1, 1) := by decide +kernel
theorem dX2_changeClass_27 : decode cX2_changeClass 27 = .ok (.invokevirtual 187, 3) := by decide +kernel
theorem dX2_changeClass_30 : decode cX2_changeClass 30 = .ok (.aload_n 2, 1) := by decide +kernel
theorem dX2_changeClass_31 : decode cX2_changeClass 31 = .ok (.iconst 0, 1) := by decide +kernel
theorem dX2_changeClass_32 : decode cX2_changeClass 32 = .ok (.putfield 121, 3) := by decide +kernel
theorem dX2_changeClass_35 : decode cX2_changeClass 35 = .ok (.aload_n 2, 1) := by decide +kernel
theorem dX2_changeClass_36 : decode cX2_changeClass 36 = .ok (.iload_n 3, 1) := by decide +kernel
theorem dX2_changeClass_37 : decode cX2_changeClass 37 = .ok (.putfield 45, 3) := by decide +kernel
theorem dX2_changeClass_40 : decode cX2_changeClass 40 = .ok (.return_, 1) := by decide +kernel
theorem dX2_firstRingWithQueues_0 : decode cX2_firstRingWithQueues 0 = .ok (.aload_n 0, 1) := by decide +kernel
theorem dX2_firstRingWithQueues_1 : decode cX2_firstRingWithQueues 1 = .ok (.getfield 17, 3) := by decide +kernel
theorem dX2_firstRingWithQueues_4 : decode cX2_firstRingWithQueues 4 = .ok (.astore_n 1, 1) := by decide +kernel
theorem dX2_firstRingWithQueues_5 : decode cX2_firstRingWithQueues 5 = .ok (.aload_n 1, 1) := by decide +kernel
theorem dX2_firstRingWithQueues_6 : decode cX2_firstRingWithQueues 6 = .ok (.arraylength, 1) := by decide +kernel
theorem dX2_firstRingWithQueues_7 : decode cX2_firstRingWithQueues 7 = .ok (.istore_n 2, 1) := by decide +kernel
theorem dX2_firstRingWithQueues_8 : decode cX2_firstRingWithQueues 8 = .ok (.iconst 0, 1) := by decide +kernel
theorem dX2_firstRingWithQueues_9 : decode cX2_firstRingWithQueues 9 = .ok (.istore_n 3, 1) := by decide +kernel
theorem dX2_firstRingWithQueues_10 : decode cX2_firstRingWithQueues 10 = .ok (.iload_n 3, 1) := by decide +kernel
theorem dX2_firstRingWithQueues_11 : decode cX2_firstRingWithQueues 11 = .ok (.iload_n 2, 1) := by decide +kernel
theorem dX2_firstRingWithQueues_12 : decode cX2_firstRingWithQueues 12 = .ok (.if_icmp .ge 25, 3) := by decide +kernel
theorem dX2_firstRingWithQueues_15 : decode cX2_firstRingWithQueues 15 = .ok (.aload_n 1, 1) := by decide +kernel
theorem dX2_firstRingWithQueues_16 : decode cX2_firstRingWithQueues 16 = .ok (.iload_n 3, 1) := by decide +kernel
theorem dX2_firstRingWithQueues_17 : decode cX2_firstRingWithQueues 17 = .ok (.aaload, 1) := by decide +kernel
theorem dX2_firstRingWithQueues_18 : decode cX2_firstRingWithQueues 18 = .ok (.astore 4, 2) := by decide +kernel
theorem dX2_firstRingWithQueues_20 : decode cX2_firstRingWithQueues 20 = .ok (.aload 4, 2) := by decide +kernel
theorem dX2_firstRingWithQueues_22 : decode cX2_firstRingWithQueues 22 = .ok (.getfield 196, 3) := by decide +kernel
theorem dX2_firstRingWithQueues_25 : decode cX2_firstRingWithQueues 25 = .ok (.ifCond .le 6, 3) := by decide +kernel
theorem dX2_firstRingWithQueues_28 : decode cX2_firstRingWithQueues 28 = .ok (.aload 4, 2) := by decide +kernel
theorem dX2_firstRingWithQueues_30 : decode cX2_firstRingWithQueues 30 = .ok (.areturn, 1) := by decide +kernel
theorem dX2_firstRingWithQueues_31 : decode cX2_firstRingWithQueues 31 = .ok (.iinc 3 1, 3) := by decide +kernel
theorem dX2_firstRingWithQueues_34 : decode cX2_firstRingWithQueues 34 = .ok (.goto (-24), 3) := by decide +kernel
theorem dX2_firstRingWithQueues_37 : decode cX2_firstRingWithQueues 37 = .ok (.aconst_null, 1) := by decide +kernel
theorem dX2_firstRingWithQueues_38 : decode cX2_firstRingWithQueues 38 = .ok (.areturn, 1) := by decide +kernel
set_option maxRecDepth 20000 in
theorem ggX2_placeServedNext_X1_queueAt : GoodIn wsX2_placeServedNext wsX1_queueAt := goodIn_r _ [6, 7, 41, 42] (by decide +kernel) (by decide +kernel)
set_option maxRecDepth 20000 in
theorem gX2_placeServedNext_X1_queueAt : GoodIn wsX2_placeServedNext (wsV RX2 87 RX1 yX1_queueAt wsX1_queueAt) := goodIn_app (goodIn_of _ (by decide +kernel)) ggX2_placeServedNext_X1_queueAt
set_option maxRecDepth 20000 in
theorem ggX2_placeServedNext_X0_looksInVain : GoodIn wsX2_placeServedNext wsX0_looksInVain := goodIn_r _ [12, 13, 14, 15, 16, 17, 18, 11, 19, 20, 21, 22, 23, 24, 25, 26, 27, 28, 29, 30, 31, 32, 33, 43, 44, 45, 46, 47, 48, 49, 50, 51, 52, 53, 54, 55, 56, 57] (by decide +kernel) (by decide +kernel)
set_option maxRecDepth 20000 in
theorem gX2_placeServedNext_X0_looksInVain : GoodIn wsX2_placeServedNext (wsV RX2 199 RX0 yX0_looksInVain wsX0_looksInVain) := goodIn_app (goodIn_of _ (by decide +kernel)) ggX2_placeServedNext_X0_looksInVain
theorem dX2_placeServedNext_0 : decode cX2_placeServedNext 0 = .ok (.iconst 0, 1) := by decide +kernel
theorem dX2_placeServedNext_1 : decode cX2_placeServedNext 1 = .ok (.istore_n 2, 1) := by decide +kernel
theorem dX2_placeServedNext_2 : decode cX2_placeServedNext 2 = .ok (.aload_n 0, 1) := by decide +kernel
theorem dX2_placeServedNext_3 : decode cX2_placeServedNext 3 = .ok (.getfield 11, 3) := by decide +kernel
theorem dX2_placeServedNext_6 : decode cX2_placeServedNext 6 = .ok (.aload_n 1, 1) := by decide +kernel
theorem dX2_placeServedNext_7 : decode cX2_placeServedNext 7 = .ok (.iconst 0, 1) := by decide +kernel
theorem dX2_placeServedNext_8 : decode cX2_placeServedNext 8 = .ok (.invokevirtual 87, 3) := by decide +kernel
theorem dX2_placeServedNext_11 : decode cX2_placeServedNext 11 = .ok (.aaload, 1) := by decide +kernel
theorem dX2_placeServedNext_12 : decode cX2_placeServedNext 12 = .ok (.invokevirtual 199, 3) := by decide +kernel
theorem dX2_placeServedNext_15 : decode cX2_placeServedNext 15 = .ok (.istore_n 3, 1) := by decide +kernel
theorem dX2_placeServedNext_16 : decode cX2_placeServedNext 16 = .ok (.iconst 1, 1) := by decide +kernel
theorem dX2_placeServedNext_17 : decode cX2_placeServedNext 17 = .ok (.istore 4, 2) := by decide +kernel
theorem dX2_placeServedNext_19 : decode cX2_placeServedNext 19 = .ok (.iload 4, 2) := by decide +kernel
theorem dX2_placeServedNext_21 : decode cX2_placeServedNext 21 = .ok (.aload_n 1, 1) := by decide +kernel
theorem dX2_placeServedNext_22 : decode cX2_placeServedNext 22 = .ok (.getfield 196, 3) := by decide +kernel
theorem dX2_placeServedNext_25 : decode cX2_placeServedNext 25 = .ok (.if_icmp .ge 37, 3) := by decide +kernel
theorem dX2_placeServedNext_28 : decode cX2_placeServedNext 28 = .ok (.aload_n 0, 1) := by decide +kernel
theorem dX2_placeServedNext_29 : decode cX2_placeServedNext 29 = .ok (.getfield 11, 3) := by decide +kernel
theorem dX2_placeServedNext_32 : decode cX2_placeServedNext 32 = .ok (.aload_n 1, 1) := by decide +kernel
theorem dX2_placeServedNext_33 : decode cX2_placeServedNext 33 = .ok (.iload 4, 2) := by decide +kernel
theorem dX2_placeServedNext_35 : decode cX2_placeServedNext 35 = .ok (.invokevirtual 87, 3) := by decide +kernel
theorem dX2_placeServedNext_38 : decode cX2_placeServedNext 38 = .ok (.aaload, 1) := by decide +kernel
theorem dX2_placeServedNext_39 : decode cX2_placeServedNext 39 = .ok (.invokevirtual 199, 3) := by decide +kernel
theorem dX2_placeServedNext_42 : decode cX2_placeServedNext 42 = .ok (.istore 5, 2) := by decide +kernel
theorem dX2_placeServedNext_44 : decode cX2_placeServedNext 44 = .ok (.iload 5, 2) := by decide +kernel
theorem dX2_placeServedNext_46 : decode cX2_placeServedNext 46 = .ok (.iload_n 3, 1) := by decide +kernel
theorem dX2_placeServedNext_47 : decode cX2_placeServedNext 47 = .ok (.if_icmp .ge 9, 3) := by decide +kernel
theorem dX2_placeServedNext_50 : decode cX2_placeServedNext 50 = .ok (.iload 5, 2) := by decide +kernel
theorem dX2_placeServedNext_52 : decode cX2_placeServedNext 52 = .ok (.istore_n 3, 1) := by decide +kernel
theorem dX2_placeServedNext_53 : decode cX2_placeServedNext 53 = .ok (.iload 4, 2) := by decide +kernel
theorem dX2_placeServedNext_55 : decode cX2_placeServedNext 55 = .ok (.istore_n 2, 1) := by decide +kernel
theorem dX2_placeServedNext_56 : decode cX2_placeServedNext 56 = .ok (.iinc 4 1, 3) := by decide +kernel
theorem dX2_placeServedNext_59 : decode cX2_placeServedNext 59 = .ok (.goto (-40), 3) := by decide +kernel
theorem dX2_placeServedNext_62 : decode cX2_placeServedNext 62 = .ok (.iload_n 2, 1) := by decide +kernel
theorem dX2_placeServedNext_63 : decode cX2_placeServedNext 63 = .ok (.ireturn, 1) := by decide +kernel
set_option maxRecDepth 20000 in
theorem ggX2_bringToFront_X1_queueAt : GoodIn wsX2_bringToFront wsX1_queueAt := goodIn_r _ [6, 7, 66, 67] (by decide +kernel) (by decide +kernel)
set_option maxRecDepth 20000 in
theorem gX2_bringToFront_X1_queueAt : GoodIn wsX2_bringToFront (wsV RX2 87 RX1 yX1_queueAt wsX1_queueAt) := goodIn_app (goodIn_of _ (by decide +kernel)) ggX2_bringToFront_X1_queueAt
set_option maxRecDepth 20000 in
theorem ggX2_bringToFront_X0_looksInVain : GoodIn wsX2_bringToFront wsX0_looksInVain := goodIn_r _ [12, 13, 14, 15, 16, 17, 18, 11, 19, 20, 21, 22, 23, 24, 25, 26, 27, 28, 29, 30, 31, 32, 33, 68, 69, 70, 71, 72, 73, 74, 75, 76, 77, 78, 79, 80, 81, 82] (by decide +kernel) (by decide +kernel)
set_option maxRecDepth 20000 in
theorem gX2_bringToFront_X0_looksInVain : GoodIn wsX2_bringToFront (wsV RX2 199 RX0 yX0_looksInVain wsX0_looksInVain) := goodIn_app (goodIn_of _ (by decide +kernel)) ggX2_bringToFront_X0_looksInVain
set_option maxRecDepth 20000 in
theorem ggX2_bringToFront_X0_lookInVain : GoodIn wsX2_bringToFront wsX0_lookInVain := goodIn_r _ [37, 13, 14, 15, 68, 69, 70, 71, 72, 73, 74, 75, 76, 77, 78, 79, 80, 81, 82] (by decide +kernel) (by decide +kernel)
set_option maxRecDepth 20000 in
theorem gX2_bringToFront_X0_lookInVain : GoodIn wsX2_bringToFront (wsV RX2 202 RX0 yX0_lookInVain wsX0_lookInVain) := goodIn_app (goodIn_of _ (by decide +kernel)) ggX2_bringToFront_X0_lookInVain
set_option maxRecDepth 20000 in
theorem ggX2_bringToFront_X1_turnBy : GoodIn wsX2_bringToFront wsX1_turnBy := goodIn_r _ [41, 7, 42, 43, 44, 5, 45, 46, 47, 48, 49, 50, 51, 52, 53, 54, 55, 56, 57, 58, 66, 67] (by decide +kernel) (by decide +kernel)
set_option maxRecDepth 20000 in
theorem gX2_bringToFront_X1_turnBy : GoodIn wsX2_bringToFront (wsV RX2 205 RX1 yX1_turnBy wsX1_turnBy) := goodIn_app (goodIn_of _ (by decide +kernel)) ggX2_bringToFront_X1_turnBy
theorem dX2_bringToFront_0 : decode cX2_bringToFront 0 = .ok (.aload_n 0, 1) := by decide +kernel
theorem dX2_bringToFront_1 : decode cX2_bringToFront 1 = .ok (.getfield 11, 3) := by decide +kernel
theorem dX2_bringToFront_4 : decode cX2_bringToFront 4 = .ok (.aload_n 1, 1) := by decide +kernel
theorem dX2_bringToFront_5 : decode cX2_bringToFront 5 = .ok (.iload_n 2, 1) := by decide +kernel
theorem dX2_bringToFront_6 : decode cX2_bringToFront 6 = .ok (.invokevirtual 87, 3) := by decide +kernel
theorem dX2_bringToFront_9 : decode cX2_bringToFront 9 = .ok (.aaload, 1) := by decide +kernel
theorem dX2_bringToFront_10 : decode cX2_bringToFront 10 = .ok (.invokevirtual 199, 3) := by decide +kernel
theorem dX2_bringToFront_13 : decode cX2_bringToFront 13 = .ok (.istore_n 3, 1) := by decide +kernel
theorem dX2_bringToFront_14 : decode cX2_bringToFront 14 = .ok (.iconst 0, 1) := by decide +kernel
theorem dX2_bringToFront_15 : decode cX2_bringToFront 15 = .ok (.istore 4, 2) := by decide +kernel
theorem dX2_bringToFront_17 : decode cX2_bringToFront 17 = .ok (.iload 4, 2) := by decide +kernel
theorem dX2_bringToFront_19 : decode cX2_bringToFront 19 = .ok (.aload_n 1, 1) := by decide +kernel
theorem dX2_bringToFront_20 : decode cX2_bringToFront 20 = .ok (.getfield 196, 3) := by decide +kernel
theorem dX2_bringToFront_23 : decode cX2_bringToFront 23 = .ok (.if_icmp .ge 36, 3) := by decide +kernel
theorem dX2_bringToFront_26 : decode cX2_bringToFront 26 = .ok (.aload_n 0, 1) := by decide +kernel
theorem dX2_bringToFront_27 : decode cX2_bringToFront 27 = .ok (.getfield 11, 3) := by decide +kernel
theorem dX2_bringToFront_30 : decode cX2_bringToFront 30 = .ok (.aload_n 1, 1) := by decide +kernel
theorem dX2_bringToFront_31 : decode cX2_bringToFront 31 = .ok (.iload 4, 2) := by decide +kernel
theorem dX2_bringToFront_33 : decode cX2_bringToFront 33 = .ok (.invokevirtual 87, 3) := by decide +kernel
theorem dX2_bringToFront_36 : decode cX2_bringToFront 36 = .ok (.aaload, 1) := by decide +kernel
theorem dX2_bringToFront_37 : decode cX2_bringToFront 37 = .ok (.iload 4, 2) := by decide +kernel
theorem dX2_bringToFront_39 : decode cX2_bringToFront 39 = .ok (.iload_n 2, 1) := by decide +kernel
theorem dX2_bringToFront_40 : decode cX2_bringToFront 40 = .ok (.if_icmp .ge 9, 3) := by decide +kernel
theorem dX2_bringToFront_43 : decode cX2_bringToFront 43 = .ok (.iload_n 3, 1) := by decide +kernel
theorem dX2_bringToFront_44 : decode cX2_bringToFront 44 = .ok (.iconst 1, 1) := by decide +kernel
theorem dX2_bringToFront_45 : decode cX2_bringToFront 45 = .ok (.iadd, 1) := by decide +kernel
theorem dX2_bringToFront_46 : decode cX2_bringToFront 46 = .ok (.goto 4, 3) := by decide +kernel
theorem dX2_bringToFront_49 : decode cX2_bringToFront 49 = .ok (.iload_n 3, 1) := by decide +kernel
theorem dX2_bringToFront_50 : decode cX2_bringToFront 50 = .ok (.invokevirtual 202, 3) := by decide +kernel
theorem dX2_bringToFront_53 : decode cX2_bringToFront 53 = .ok (.iinc 4 1, 3) := by decide +kernel
theorem dX2_bringToFront_56 : decode cX2_bringToFront 56 = .ok (.goto (-39), 3) := by decide +kernel
theorem dX2_bringToFront_59 : decode cX2_bringToFront 59 = .ok (.aload_n 1, 1) := by decide +kernel
theorem dX2_bringToFront_60 : decode cX2_bringToFront 60 = .ok (.iload_n 2, 1) := by decide +kernel
theorem dX2_bringToFront_61 : decode cX2_bringToFront 61 = .ok (.invokevirtual 205, 3) := by decide +kernel
theorem dX2_bringToFront_64 : decode cX2_bringToFront 64 = .ok (.return_, 1) := by decide +kernel
set_option maxRecDepth 20000 in
theorem ggX2_serveFirstItem_X0_takeTurn : GoodIn wsX2_serveFirstItem wsX0_takeTurn := goodIn_r _ [8, 9, 10, 11, 70, 71, 72, 73, 74, 75, 76, 77, 78, 79, 80, 81, 82, 83, 84] (by decide +kernel) (by decide +kernel)
set_option maxRecDepth 20000 in
theorem gX2_serveFirstItem_X0_takeTurn : GoodIn wsX2_serveFirstItem (wsV RX2 208 RX0 yX0_takeTurn wsX0_takeTurn) := goodIn_app (goodIn_of _ (by decide +kernel)) ggX2_serveFirstItem_X0_takeTurn
set_option maxRecDepth 20000 in
theorem ggX2_serveFirstItem_X0_firstCost : GoodIn wsX2_serveFirstItem wsX0_firstCost := goodIn_r _ [15, 16, 17, 18, 7, 19, 20, 21, 22, 23, 24, 25, 26, 27, 28, 29, 70, 71, 72, 73, 74, 75, 76, 77, 78, 79, 80, 81, 82, 83, 84] (by decide +kernel) (by decide +kernel)
set_option maxRecDepth 20000 in
theorem gX2_serveFirstItem_X0_firstCost : GoodIn wsX2_serveFirstItem (wsV RX2 105 RX0 yX0_firstCost wsX0_firstCost) := goodIn_app (goodIn_of _ (by decide +kernel)) ggX2_serveFirstItem_X0_firstCost
set_option maxRecDepth 20000 in
theorem ggX2_serveFirstItem_X0_wordAt : GoodIn wsX2_serveFirstItem wsX0_wordAt := goodIn_r _ [33, 34, 21, 22, 23, 7, 24, 25, 26, 27, 28, 29, 70, 71, 72, 73, 74, 75, 76, 77, 78, 79, 80, 81, 82, 83, 84] (by decide +kernel) (by decide +kernel)
set_option maxRecDepth 20000 in
theorem gX2_serveFirstItem_X0_wordAt : GoodIn wsX2_serveFirstItem (wsV RX2 155 RX0 yX0_wordAt wsX0_wordAt) := goodIn_app (goodIn_of _ (by decide +kernel)) ggX2_serveFirstItem_X0_wordAt
set_option maxRecDepth 20000 in
theorem ggX2_serveFirstItem_X0_dropFirst : GoodIn wsX2_serveFirstItem wsX0_dropFirst := goodIn_r _ [38, 39, 25, 40, 41, 13, 14, 7, 15, 16, 17, 18, 19, 20, 21, 22, 23, 24, 26, 27, 28, 29, 70, 71, 72, 73, 74, 75, 76, 77, 78, 79, 80, 81, 82, 83, 84] (by decide +kernel) (by decide +kernel)
set_option maxRecDepth 20000 in
theorem gX2_serveFirstItem_X0_dropFirst : GoodIn wsX2_serveFirstItem (wsV RX2 211 RX0 yX0_dropFirst wsX0_dropFirst) := goodIn_app (goodIn_of _ (by decide +kernel)) ggX2_serveFirstItem_X0_dropFirst
set_option maxRecDepth 20000 in
theorem ggX2_serveFirstItem_X2_leaveRing : GoodIn wsX2_serveFirstItem wsX2_leaveRing := goodIn_r _ [46, 47, 48, 49, 50, 51, 52, 53, 54, 55, 56, 57, 58, 59, 60, 61, 62, 63, 64, 65, 66, 67, 68, 69, 70, 71, 72, 73, 74, 75, 76, 77, 78, 79, 80, 81, 82, 83, 84, 85, 86] (by decide +kernel) (by decide +kernel)
set_option maxRecDepth 20000 in
theorem gX2_serveFirstItem_X2_leaveRing : GoodIn wsX2_serveFirstItem (wsV RX2 114 RX2 yX2_leaveRing wsX2_leaveRing) := goodIn_app (goodIn_of _ (by decide +kernel)) ggX2_serveFirstItem_X2_leaveRing
theorem dX2_serveFirstItem_0 : decode cX2_serveFirstItem 0 = .ok (.aload_n 0, 1) := by decide +kernel
theorem dX2_serveFirstItem_1 : decode cX2_serveFirstItem 1 = .ok (.getfield 11, 3) := by decide +kernel
theorem dX2_serveFirstItem_4 : decode cX2_serveFirstItem 4 = .ok (.iload_n 1, 1) := by decide +kernel
theorem dX2_serveFirstItem_5 : decode cX2_serveFirstItem 5 = .ok (.aaload, 1) := by decide +kernel
theorem dX2_serveFirstItem_6 : decode cX2_serveFirstItem 6 = .ok (.astore_n 2, 1) := by decide +kernel
theorem dX2_serveFirstItem_7 : decode cX2_serveFirstItem 7 = .ok (.aload_n 2, 1) := by decide +kernel
theorem dX2_serveFirstItem_8 : decode cX2_serveFirstItem 8 = .ok (.invokevirtual 208, 3) := by decide +kernel
theorem dX2_serveFirstItem_11 : decode cX2_serveFirstItem 11 = .ok (.aload_n 2, 1) := by decide +kernel
theorem dX2_serveFirstItem_12 : decode cX2_serveFirstItem 12 = .ok (.invokevirtual 105, 3) := by decide +kernel
theorem dX2_serveFirstItem_15 : decode cX2_serveFirstItem 15 = .ok (.istore_n 3, 1) := by decide +kernel
theorem dX2_serveFirstItem_16 : decode cX2_serveFirstItem 16 = .ok (.aload_n 0, 1) := by decide +kernel
theorem dX2_serveFirstItem_17 : decode cX2_serveFirstItem 17 = .ok (.aload_n 2, 1) := by decide +kernel
theorem dX2_serveFirstItem_18 : decode cX2_serveFirstItem 18 = .ok (.iconst 0, 1) := by decide +kernel
theorem dX2_serveFirstItem_19 : decode cX2_serveFirstItem 19 = .ok (.invokevirtual 155, 3) := by decide +kernel
theorem dX2_serveFirstItem_22 : decode cX2_serveFirstItem 22 = .ok (.putfield 98, 3) := by decide +kernel
theorem dX2_serveFirstItem_25 : decode cX2_serveFirstItem 25 = .ok (.aload_n 2, 1) := by decide +kernel
theorem dX2_serveFirstItem_26 : decode cX2_serveFirstItem 26 = .ok (.dup, 1) := by decide +kernel
theorem dX2_serveFirstItem_27 : decode cX2_serveFirstItem 27 = .ok (.getfield 118, 3) := by decide +kernel
theorem dX2_serveFirstItem_30 : decode cX2_serveFirstItem 30 = .ok (.iload_n 3, 1) := by decide +kernel
theorem dX2_serveFirstItem_31 : decode cX2_serveFirstItem 31 = .ok (.isub, 1) := by decide +kernel
theorem dX2_serveFirstItem_32 : decode cX2_serveFirstItem 32 = .ok (.putfield 118, 3) := by decide +kernel
theorem dX2_serveFirstItem_35 : decode cX2_serveFirstItem 35 = .ok (.aload_n 2, 1) := by decide +kernel
theorem dX2_serveFirstItem_36 : decode cX2_serveFirstItem 36 = .ok (.dup, 1) := by decide +kernel
theorem dX2_serveFirstItem_37 : decode cX2_serveFirstItem 37 = .ok (.getfield 137, 3) := by decide +kernel
theorem dX2_serveFirstItem_40 : decode cX2_serveFirstItem 40 = .ok (.iload_n 3, 1) := by decide +kernel
theorem dX2_serveFirstItem_41 : decode cX2_serveFirstItem 41 = .ok (.iadd, 1) := by decide +kernel
theorem dX2_serveFirstItem_42 : decode cX2_serveFirstItem 42 = .ok (.putfield 137, 3) := by decide +kernel
theorem dX2_serveFirstItem_45 : decode cX2_serveFirstItem 45 = .ok (.aload_n 2, 1) := by decide +kernel
theorem dX2_serveFirstItem_46 : decode cX2_serveFirstItem 46 = .ok (.dup, 1) := by decide +kernel
theorem dX2_serveFirstItem_47 : decode cX2_serveFirstItem 47 = .ok (.getfield 134, 3) := by decide +kernel
theorem dX2_serveFirstItem_50 : decode cX2_serveFirstItem 50 = .ok (.iconst 1, 1) := by decide +kernel
theorem dX2_serveFirstItem_51 : decode cX2_serveFirstItem 51 = .ok (.iadd, 1) := by decide +kernel
theorem dX2_serveFirstItem_52 : decode cX2_serveFirstItem 52 = .ok (.putfield 134, 3) := by decide +kernel
theorem dX2_serveFirstItem_55 : decode cX2_serveFirstItem 55 = .ok (.aload_n 0, 1) := by decide +kernel
theorem dX2_serveFirstItem_56 : decode cX2_serveFirstItem 56 = .ok (.dup, 1) := by decide +kernel
theorem dX2_serveFirstItem_57 : decode cX2_serveFirstItem 57 = .ok (.getfield 167, 3) := by decide +kernel
theorem dX2_serveFirstItem_60 : decode cX2_serveFirstItem 60 = .ok (.iconst 1, 1) := by decide +kernel
theorem dX2_serveFirstItem_61 : decode cX2_serveFirstItem 61 = .ok (.iadd, 1) := by decide +kernel
theorem dX2_serveFirstItem_62 : decode cX2_serveFirstItem 62 = .ok (.putfield 167, 3) := by decide +kernel
theorem dX2_serveFirstItem_65 : decode cX2_serveFirstItem 65 = .ok (.aload_n 2, 1) := by decide +kernel
theorem dX2_serveFirstItem_66 : decode cX2_serveFirstItem 66 = .ok (.invokevirtual 211, 3) := by decide +kernel
theorem dX2_serveFirstItem_69 : decode cX2_serveFirstItem 69 = .ok (.aload_n 2, 1) := by decide +kernel
theorem dX2_serveFirstItem_70 : decode cX2_serveFirstItem 70 = .ok (.getfield 52, 3) := by decide +kernel
theorem dX2_serveFirstItem_73 : decode cX2_serveFirstItem 73 = .ok (.ifCond .ne 9, 3) := by decide +kernel
theorem dX2_serveFirstItem_76 : decode cX2_serveFirstItem 76 = .ok (.aload_n 0, 1) := by decide +kernel
theorem dX2_serveFirstItem_77 : decode cX2_serveFirstItem 77 = .ok (.iload_n 1, 1) := by decide +kernel
theorem dX2_serveFirstItem_78 : decode cX2_serveFirstItem 78 = .ok (.aload_n 2, 1) := by decide +kernel
theorem dX2_serveFirstItem_79 : decode cX2_serveFirstItem 79 = .ok (.invokevirtual 114, 3) := by decide +kernel
theorem dX2_serveFirstItem_82 : decode cX2_serveFirstItem 82 = .ok (.return_, 1) := by decide +kernel
theorem dX3_init_0 : decode cX3_init 0 = .ok (.aload_n 0, 1) := by decide +kernel
theorem dX3_init_1 : decode cX3_init 1 = .ok (.invokespecial 1, 3) := by decide +kernel
theorem dX3_init_4 : decode cX3_init 4 = .ok (.aload_n 0, 1) := by decide +kernel
theorem dX3_init_5 : decode cX3_init 5 = .ok (.bipush 12, 2) := by decide +kernel
theorem dX3_init_7 : decode cX3_init 7 = .ok (.newarray .int, 2) := by decide +kernel
theorem dX3_init_9 : decode cX3_init 9 = .ok (.putfield 7, 3) := by decide +kernel
theorem dX3_init_12 : decode cX3_init 12 = .ok (.aload_n 0, 1) := by decide +kernel
theorem dX3_init_13 : decode cX3_init 13 = .ok (.bipush 12, 2) := by decide +kernel
theorem dX3_init_15 : decode cX3_init 15 = .ok (.newarray .int, 2) := by decide +kernel
theorem dX3_init_17 : decode cX3_init 17 = .ok (.putfield 13, 3) := by decide +kernel
theorem dX3_init_20 : decode cX3_init 20 = .ok (.aload_n 0, 1) := by decide +kernel
theorem dX3_init_21 : decode cX3_init 21 = .ok (.bipush 12, 2) := by decide +kernel
theorem dX3_init_23 : decode cX3_init 23 = .ok (.newarray .int, 2) := by decide +kernel
theorem dX3_init_25 : decode cX3_init 25 = .ok (.putfield 16, 3) := by decide +kernel
theorem dX3_init_28 : decode cX3_init 28 = .ok (.aload_n 0, 1) := by decide +kernel
theorem dX3_init_29 : decode cX3_init 29 = .ok (.bipush 12, 2) := by decide +kernel
theorem dX3_init_31 : decode cX3_init 31 = .ok (.newarray .int, 2) := by decide +kernel
theorem dX3_init_33 : decode cX3_init 33 = .ok (.putfield 19, 3) := by decide +kernel
theorem dX3_init_36 : decode cX3_init 36 = .ok (.aload_n 0, 1) := by decide +kernel
theorem dX3_init_37 : decode cX3_init 37 = .ok (.bipush 12, 2) := by decide +kernel
theorem dX3_init_39 : decode cX3_init 39 = .ok (.newarray .int, 2) := by decide +kernel
theorem dX3_init_41 : decode cX3_init 41 = .ok (.putfield 22, 3) := by decide +kernel
theorem dX3_init_44 : decode cX3_init 44 = .ok (.aload_n 0, 1) := by decide +kernel
theorem dX3_init_45 : decode cX3_init 45 = .ok (.bipush 12, 2) := by decide +kernel
theorem dX3_init_47 : decode cX3_init 47 = .ok (.newarray .int, 2) := by decide +kernel
theorem dX3_init_49 : decode cX3_init 49 = .ok (.putfield 25, 3) := by decide +kernel
theorem dX3_init_52 : decode cX3_init 52 = .ok (.aload_n 0, 1) := by decide +kernel
theorem dX3_init_53 : decode cX3_init 53 = .ok (.bipush 12, 2) := by decide +kernel
theorem dX3_init_55 : decode cX3_init 55 = .ok (.newarray .boolean, 2) := by decide +kernel
theorem dX3_init_57 : decode cX3_init 57 = .ok (.putfield 28, 3) := by decide +kernel
theorem dX3_init_60 : decode cX3_init 60 = .ok (.aload_n 0, 1) := by decide +kernel
theorem dX3_init_61 : decode cX3_init 61 = .ok (.sipush 1152, 3) := by decide +kernel
theorem dX3_init_64 : decode cX3_init 64 = .ok (.newarray .int, 2) := by decide +kernel
theorem dX3_init_66 : decode cX3_init 66 = .ok (.putfield 32, 3) := by decide +kernel
theorem dX3_init_69 : decode cX3_init 69 = .ok (.aload_n 0, 1) := by decide +kernel
theorem dX3_init_70 : decode cX3_init 70 = .ok (.sipush 1152, 3) := by decide +kernel
theorem dX3_init_73 : decode cX3_init 73 = .ok (.newarray .int, 2) := by decide +kernel
theorem dX3_init_75 : decode cX3_init 75 = .ok (.putfield 35, 3) := by decide +kernel
theorem dX3_init_78 : decode cX3_init 78 = .ok (.aload_n 0, 1) := by decide +kernel
theorem dX3_init_79 : decode cX3_init 79 = .ok (.bipush 12, 2) := by decide +kernel
theorem dX3_init_81 : decode cX3_init 81 = .ok (.newarray .int, 2) := by decide +kernel
theorem dX3_init_83 : decode cX3_init 83 = .ok (.putfield 38, 3) := by decide +kernel
theorem dX3_init_86 : decode cX3_init 86 = .ok (.aload_n 0, 1) := by decide +kernel
theorem dX3_init_87 : decode cX3_init 87 = .ok (.bipush 12, 2) := by decide +kernel
theorem dX3_init_89 : decode cX3_init 89 = .ok (.newarray .int, 2) := by decide +kernel
theorem dX3_init_91 : decode cX3_init 91 = .ok (.putfield 41, 3) := by decide +kernel
theorem dX3_init_94 : decode cX3_init 94 = .ok (.aload_n 0, 1) := by decide +kernel
theorem dX3_init_95 : decode cX3_init 95 = .ok (.bipush 12, 2) := by decide +kernel
theorem dX3_init_97 : decode cX3_init 97 = .ok (.newarray .int, 2) := by decide +kernel
theorem dX3_init_99 : decode cX3_init 99 = .ok (.putfield 44, 3) := by decide +kernel
theorem dX3_init_102 : decode cX3_init 102 = .ok (.aload_n 0, 1) := by decide +kernel
theorem dX3_init_103 : decode cX3_init 103 = .ok (.bipush 12, 2) := by decide +kernel
theorem dX3_init_105 : decode cX3_init 105 = .ok (.newarray .int, 2) := by decide +kernel
theorem dX3_init_107 : decode cX3_init 107 = .ok (.putfield 47, 3) := by decide +kernel
theorem dX3_init_110 : decode cX3_init 110 = .ok (.aload_n 0, 1) := by decide +kernel
theorem dX3_init_111 : decode cX3_init 111 = .ok (.bipush 48, 2) := by decide +kernel
theorem dX3_init_113 : decode cX3_init 113 = .ok (.newarray .int, 2) := by decide +kernel
theorem dX3_init_115 : decode cX3_init 115 = .ok (.putfield 50, 3) := by decide +kernel
theorem dX3_init_118 : decode cX3_init 118 = .ok (.aload_n 0, 1) := by decide +kernel
theorem dX3_init_119 : decode cX3_init 119 = .ok (.iconst 4, 1) := by decide +kernel
theorem dX3_init_120 : decode cX3_init 120 = .ok (.newarray .int, 2) := by decide +kernel
theorem dX3_init_122 : decode cX3_init 122 = .ok (.putfield 53, 3) := by decide +kernel
theorem dX3_init_125 : decode cX3_init 125 = .ok (.aload_n 0, 1) := by decide +kernel
theorem dX3_init_126 : decode cX3_init 126 = .ok (.bipush 12, 2) := by decide +kernel
theorem dX3_init_128 : decode cX3_init 128 = .ok (.newarray .int, 2) := by decide +kernel
theorem dX3_init_130 : decode cX3_init 130 = .ok (.putfield 56, 3) := by decide +kernel
theorem dX3_init_133 : decode cX3_init 133 = .ok (.aload_n 0, 1) := by decide +kernel
theorem dX3_init_134 : decode cX3_init 134 = .ok (.bipush 12, 2) := by decide +kernel
theorem dX3_init_136 : decode cX3_init 136 = .ok (.newarray .boolean, 2) := by decide +kernel
theorem dX3_init_138 : decode cX3_init 138 = .ok (.putfield 59, 3) := by decide +kernel
theorem dX3_init_141 : decode cX3_init 141 = .ok (.aload_n 0, 1) := by decide +kernel
theorem dX3_init_142 : decode cX3_init 142 = .ok (.bipush 48, 2) := by decide +kernel
theorem dX3_init_144 : decode cX3_init 144 = .ok (.newarray .int, 2) := by decide +kernel
theorem dX3_init_146 : decode cX3_init 146 = .ok (.putfield 62, 3) := by decide +kernel
theorem dX3_init_149 : decode cX3_init 149 = .ok (.iconst 0, 1) := by decide +kernel
theorem dX3_init_150 : decode cX3_init 150 = .ok (.istore_n 1, 1) := by decide +kernel
theorem dX3_init_151 : decode cX3_init 151 = .ok (.iload_n 1, 1) := by decide +kernel
theorem dX3_init_152 : decode cX3_init 152 = .ok (.bipush 12, 2) := by decide +kernel
theorem dX3_init_154 : decode cX3_init 154 = .ok (.if_icmp .ge 24, 3) := by decide +kernel
theorem dX3_init_157 : decode cX3_init 157 = .ok (.aload_n 0, 1) := by decide +kernel
theorem dX3_init_158 : decode cX3_init 158 = .ok (.getfield 13, 3) := by decide +kernel
theorem dX3_init_161 : decode cX3_init 161 = .ok (.iload_n 1, 1) := by decide +kernel
theorem dX3_init_162 : decode cX3_init 162 = .ok (.iconst 1, 1) := by decide +kernel
theorem dX3_init_163 : decode cX3_init 163 = .ok (.iastore, 1) := by decide +kernel
theorem dX3_init_164 : decode cX3_init 164 = .ok (.aload_n 0, 1) := by decide +kernel
theorem dX3_init_165 : decode cX3_init 165 = .ok (.getfield 16, 3) := by decide +kernel
theorem dX3_init_168 : decode cX3_init 168 = .ok (.iload_n 1, 1) := by decide +kernel
theorem dX3_init_169 : decode cX3_init 169 = .ok (.bipush 96, 2) := by decide +kernel
theorem dX3_init_171 : decode cX3_init 171 = .ok (.iastore, 1) := by decide +kernel
theorem dX3_init_172 : decode cX3_init 172 = .ok (.iinc 1 1, 3) := by decide +kernel
theorem dX3_init_175 : decode cX3_init 175 = .ok (.goto (-24), 3) := by decide +kernel
theorem dX3_init_178 : decode cX3_init 178 = .ok (.return_, 1) := by decide +kernel
theorem dX3_thrown_0 : decode cX3_thrown 0 = .ok (.aload_n 0, 1) := by decide +kernel
theorem dX3_thrown_1 : decode cX3_thrown 1 = .ok (.getfield 65, 3) := by decide +kernel
theorem dX3_thrown_4 : decode cX3_thrown 4 = .ok (.ireturn, 1) := by decide +kernel
theorem dX3_noQueue_0 : decode cX3_noQueue 0 = .ok (.iload_n 0, 1) := by decide +kernel
theorem dX3_noQueue_1 : decode cX3_noQueue 1 = .ok (.ifCond .lt 9, 3) := by decide +kernel
theorem dX3_noQueue_4 : decode cX3_noQueue 4 = .ok (.iload_n 0, 1) := by decide +kernel
theorem dX3_noQueue_5 : decode cX3_noQueue 5 = .ok (.bipush 12, 2) := by decide +kernel
theorem dX3_noQueue_7 : decode cX3_noQueue 7 = .ok (.if_icmp .lt 7, 3) := by decide +kernel
theorem dX3_noQueue_10 : decode cX3_noQueue 10 = .ok (.iconst 1, 1) := by decide +kernel
theorem dX3_noQueue_11 : decode cX3_noQueue 11 = .ok (.goto 4, 3) := by decide +kernel
theorem dX3_noQueue_14 : decode cX3_noQueue 14 = .ok (.iconst 0, 1) := by decide +kernel
theorem dX3_noQueue_15 : decode cX3_noQueue 15 = .ok (.ireturn, 1) := by decide +kernel
theorem dX3_keptInAll_0 : decode cX3_keptInAll 0 = .ok (.iconst 0, 1) := by decide +kernel
theorem dX3_keptInAll_1 : decode cX3_keptInAll 1 = .ok (.istore_n 1, 1) := by decide +kernel
theorem dX3_keptInAll_2 : decode cX3_keptInAll 2 = .ok (.iconst 0, 1) := by decide +kernel
theorem dX3_keptInAll_3 : decode cX3_keptInAll 3 = .ok (.istore_n 2, 1) := by decide +kernel
theorem dX3_keptInAll_4 : decode cX3_keptInAll 4 = .ok (.iload_n 2, 1) := by decide +kernel
theorem dX3_keptInAll_5 : decode cX3_keptInAll 5 = .ok (.bipush 12, 2) := by decide +kernel
theorem dX3_keptInAll_7 : decode cX3_keptInAll 7 = .ok (.if_icmp .ge 18, 3) := by decide +kernel
theorem dX3_keptInAll_10 : decode cX3_keptInAll 10 = .ok (.iload_n 1, 1) := by decide +kernel
theorem dX3_keptInAll_11 : decode cX3_keptInAll 11 = .ok (.aload_n 0, 1) := by decide +kernel
theorem dX3_keptInAll_12 : decode cX3_keptInAll 12 = .ok (.getfield 19, 3) := by decide +kernel
theorem dX3_keptInAll_15 : decode cX3_keptInAll 15 = .ok (.iload_n 2, 1) := by decide +kernel
theorem dX3_keptInAll_16 : decode cX3_keptInAll 16 = .ok (.iaload, 1) := by decide +kernel
theorem dX3_keptInAll_17 : decode cX3_keptInAll 17 = .ok (.iadd, 1) := by decide +kernel
theorem dX3_keptInAll_18 : decode cX3_keptInAll 18 = .ok (.istore_n 1, 1) := by decide +kernel
theorem dX3_keptInAll_19 : decode cX3_keptInAll 19 = .ok (.iinc 2 1, 3) := by decide +kernel
theorem dX3_keptInAll_22 : decode cX3_keptInAll 22 = .ok (.goto (-18), 3) := by decide +kernel
theorem dX3_keptInAll_25 : decode cX3_keptInAll 25 = .ok (.iload_n 1, 1) := by decide +kernel
theorem dX3_keptInAll_26 : decode cX3_keptInAll 26 = .ok (.ireturn, 1) := by decide +kernel
set_option maxRecDepth 20000 in
theorem ggX3_quota_X3_noQueue : GoodIn wsX3_quota wsX3_noQueue := goodIn_r _ [7] (by decide +kernel) (by decide +kernel)
set_option maxRecDepth 20000 in
theorem gX3_quota_X3_noQueue : GoodIn wsX3_quota (va_wsS RX3 69 yX3_noQueue wsX3_noQueue) := goodIn_app (goodIn_of _ (by decide +kernel)) ggX3_quota_X3_noQueue
set_option maxRecDepth 20000 in
theorem ggX3_quota_X3_keptInAll : GoodIn wsX3_quota wsX3_keptInAll := goodIn_r _ [11, 2, 12, 13, 14, 15, 16, 17, 18, 19, 20, 21, 22, 23, 24, 25, 26, 27, 28, 29, 30, 31, 32, 33] (by decide +kernel) (by decide +kernel)
set_option maxRecDepth 20000 in
theorem gX3_quota_X3_keptInAll : GoodIn wsX3_quota (wsV RX3 73 RX3 yX3_keptInAll wsX3_keptInAll) := goodIn_app (goodIn_of _ (by decide +kernel)) ggX3_quota_X3_keptInAll
theorem dX3_quota_0 : decode cX3_quota 0 = .ok (.aload_n 0, 1) := by decide +kernel
theorem dX3_quota_1 : decode cX3_quota 1 = .ok (.iload_n 1, 1) := by decide +kernel
theorem dX3_quota_2 : decode cX3_quota 2 = .ok (.invokestatic 69, 3) := by decide +kernel
theorem dX3_quota_5 : decode cX3_quota 5 = .ok (.ifCond .ne 23, 3) := by decide +kernel
theorem dX3_quota_8 : decode cX3_quota 8 = .ok (.iload_n 2, 1) := by decide +kernel
theorem dX3_quota_9 : decode cX3_quota 9 = .ok (.ifCond .lt 19, 3) := by decide +kernel
theorem dX3_quota_12 : decode cX3_quota 12 = .ok (.iload_n 2, 1) := by decide +kernel
theorem dX3_quota_13 : decode cX3_quota 13 = .ok (.bipush 96, 2) := by decide +kernel
theorem dX3_quota_15 : decode cX3_quota 15 = .ok (.if_icmp .gt 13, 3) := by decide +kernel
theorem dX3_quota_18 : decode cX3_quota 18 = .ok (.iload_n 3, 1) := by decide +kernel
theorem dX3_quota_19 : decode cX3_quota 19 = .ok (.ifCond .lt 9, 3) := by decide +kernel
theorem dX3_quota_22 : decode cX3_quota 22 = .ok (.iload_n 3, 1) := by decide +kernel
theorem dX3_quota_23 : decode cX3_quota 23 = .ok (.bipush 96, 2) := by decide +kernel
theorem dX3_quota_25 : decode cX3_quota 25 = .ok (.if_icmp .le 7, 3) := by decide +kernel
theorem dX3_quota_28 : decode cX3_quota 28 = .ok (.iconst 1, 1) := by decide +kernel
theorem dX3_quota_29 : decode cX3_quota 29 = .ok (.goto 4, 3) := by decide +kernel
theorem dX3_quota_32 : decode cX3_quota 32 = .ok (.iconst 0, 1) := by decide +kernel
theorem dX3_quota_33 : decode cX3_quota 33 = .ok (.putfield 65, 3) := by decide +kernel
theorem dX3_quota_36 : decode cX3_quota 36 = .ok (.aload_n 0, 1) := by decide +kernel
theorem dX3_quota_37 : decode cX3_quota 37 = .ok (.getfield 65, 3) := by decide +kernel
theorem dX3_quota_40 : decode cX3_quota 40 = .ok (.ifCond .gt 21, 3) := by decide +kernel
theorem dX3_quota_43 : decode cX3_quota 43 = .ok (.aload_n 0, 1) := by decide +kernel
theorem dX3_quota_44 : decode cX3_quota 44 = .ok (.invokevirtual 73, 3) := by decide +kernel
theorem dX3_quota_47 : decode cX3_quota 47 = .ok (.aload_n 0, 1) := by decide +kernel
theorem dX3_quota_48 : decode cX3_quota 48 = .ok (.getfield 19, 3) := by decide +kernel
theorem dX3_quota_51 : decode cX3_quota 51 = .ok (.iload_n 1, 1) := by decide +kernel
theorem dX3_quota_52 : decode cX3_quota 52 = .ok (.iaload, 1) := by decide +kernel
theorem dX3_quota_53 : decode cX3_quota 53 = .ok (.isub, 1) := by decide +kernel
theorem dX3_quota_54 : decode cX3_quota 54 = .ok (.iload_n 3, 1) := by decide +kernel
theorem dX3_quota_55 : decode cX3_quota 55 = .ok (.iadd, 1) := by decide +kernel
theorem dX3_quota_56 : decode cX3_quota 56 = .ok (.bipush 96, 2) := by decide +kernel
theorem dX3_quota_58 : decode cX3_quota 58 = .ok (.if_icmp .le 10, 3) := by decide +kernel
theorem dX3_quota_61 : decode cX3_quota 61 = .ok (.aload_n 0, 1) := by decide +kernel
theorem dX3_quota_62 : decode cX3_quota 62 = .ok (.iconst 1, 1) := by decide +kernel
theorem dX3_quota_63 : decode cX3_quota 63 = .ok (.putfield 65, 3) := by decide +kernel
theorem dX3_quota_66 : decode cX3_quota 66 = .ok (.iconst 0, 1) := by decide +kernel
theorem dX3_quota_67 : decode cX3_quota 67 = .ok (.ireturn, 1) := by decide +kernel
theorem dX3_quota_68 : decode cX3_quota 68 = .ok (.aload_n 0, 1) := by decide +kernel
theorem dX3_quota_69 : decode cX3_quota 69 = .ok (.getfield 16, 3) := by decide +kernel
theorem dX3_quota_72 : decode cX3_quota 72 = .ok (.iload_n 1, 1) := by decide +kernel
theorem dX3_quota_73 : decode cX3_quota 73 = .ok (.iload_n 2, 1) := by decide +kernel
theorem dX3_quota_74 : decode cX3_quota 74 = .ok (.iastore, 1) := by decide +kernel
theorem dX3_quota_75 : decode cX3_quota 75 = .ok (.aload_n 0, 1) := by decide +kernel
theorem dX3_quota_76 : decode cX3_quota 76 = .ok (.getfield 19, 3) := by decide +kernel
theorem dX3_quota_79 : decode cX3_quota 79 = .ok (.iload_n 1, 1) := by decide +kernel
theorem dX3_quota_80 : decode cX3_quota 80 = .ok (.iload_n 3, 1) := by decide +kernel
theorem dX3_quota_81 : decode cX3_quota 81 = .ok (.iastore, 1) := by decide +kernel
theorem dX3_quota_82 : decode cX3_quota 82 = .ok (.aload_n 0, 1) := by decide +kernel
theorem dX3_quota_83 : decode cX3_quota 83 = .ok (.invokevirtual 73, 3) := by decide +kernel
theorem dX3_quota_86 : decode cX3_quota 86 = .ok (.ireturn, 1) := by decide +kernel
theorem dX3_placeOf_0 : decode cX3_placeOf 0 = .ok (.aload_n 0, 1) := by decide +kernel
theorem dX3_placeOf_1 : decode cX3_placeOf 1 = .ok (.getfield 7, 3) := by decide +kernel
theorem dX3_placeOf_4 : decode cX3_placeOf 4 = .ok (.iload_n 1, 1) := by decide +kernel
theorem dX3_placeOf_5 : decode cX3_placeOf 5 = .ok (.iaload, 1) := by decide +kernel
theorem dX3_placeOf_6 : decode cX3_placeOf 6 = .ok (.istore_n 2, 1) := by decide +kernel
theorem dX3_placeOf_7 : decode cX3_placeOf 7 = .ok (.iconst 0, 1) := by decide +kernel
theorem dX3_placeOf_8 : decode cX3_placeOf 8 = .ok (.istore_n 3, 1) := by decide +kernel
theorem dX3_placeOf_9 : decode cX3_placeOf 9 = .ok (.iload_n 3, 1) := by decide +kernel
theorem dX3_placeOf_10 : decode cX3_placeOf 10 = .ok (.aload_n 0, 1) := by decide +kernel
theorem dX3_placeOf_11 : decode cX3_placeOf 11 = .ok (.getfield 53, 3) := by decide +kernel
theorem dX3_placeOf_14 : decode cX3_placeOf 14 = .ok (.iload_n 2, 1) := by decide +kernel
theorem dX3_placeOf_15 : decode cX3_placeOf 15 = .ok (.iaload, 1) := by decide +kernel
theorem dX3_placeOf_16 : decode cX3_placeOf 16 = .ok (.if_icmp .ge 26, 3) := by decide +kernel
theorem dX3_placeOf_19 : decode cX3_placeOf 19 = .ok (.aload_n 0, 1) := by decide +kernel
theorem dX3_placeOf_20 : decode cX3_placeOf 20 = .ok (.getfield 50, 3) := by decide +kernel
theorem dX3_placeOf_23 : decode cX3_placeOf 23 = .ok (.bipush 12, 2) := by decide +kernel
theorem dX3_placeOf_25 : decode cX3_placeOf 25 = .ok (.iload_n 2, 1) := by decide +kernel
theorem dX3_placeOf_26 : decode cX3_placeOf 26 = .ok (.imul, 1) := by decide +kernel
theorem dX3_placeOf_27 : decode cX3_placeOf 27 = .ok (.iload_n 3, 1) := by decide +kernel
theorem dX3_placeOf_28 : decode cX3_placeOf 28 = .ok (.iadd, 1) := by decide +kernel
theorem dX3_placeOf_29 : decode cX3_placeOf 29 = .ok (.iaload, 1) := by decide +kernel
theorem dX3_placeOf_30 : decode cX3_placeOf 30 = .ok (.iload_n 1, 1) := by decide +kernel
theorem dX3_placeOf_31 : decode cX3_placeOf 31 = .ok (.if_icmp .ne 5, 3) := by decide +kernel
theorem dX3_placeOf_34 : decode cX3_placeOf 34 = .ok (.iload_n 3, 1) := by decide +kernel
theorem dX3_placeOf_35 : decode cX3_placeOf 35 = .ok (.ireturn, 1) := by decide +kernel
theorem dX3_placeOf_36 : decode cX3_placeOf 36 = .ok (.iinc 3 1, 3) := by decide +kernel
theorem dX3_placeOf_39 : decode cX3_placeOf 39 = .ok (.goto (-30), 3) := by decide +kernel
theorem dX3_placeOf_42 : decode cX3_placeOf 42 = .ok (.iconst (-1), 1) := by decide +kernel
theorem dX3_placeOf_43 : decode cX3_placeOf 43 = .ok (.ireturn, 1) := by decide +kernel
theorem dX3_enter_0 : decode cX3_enter 0 = .ok (.aload_n 0, 1) := by decide +kernel
theorem dX3_enter_1 : decode cX3_enter 1 = .ok (.getfield 7, 3) := by decide +kernel
theorem dX3_enter_4 : decode cX3_enter 4 = .ok (.iload_n 1, 1) := by decide +kernel
theorem dX3_enter_5 : decode cX3_enter 5 = .ok (.iaload, 1) := by decide +kernel
theorem dX3_enter_6 : decode cX3_enter 6 = .ok (.istore_n 2, 1) := by decide +kernel
theorem dX3_enter_7 : decode cX3_enter 7 = .ok (.aload_n 0, 1) := by decide +kernel
theorem dX3_enter_8 : decode cX3_enter 8 = .ok (.getfield 50, 3) := by decide +kernel
theorem dX3_enter_11 : decode cX3_enter 11 = .ok (.bipush 12, 2) := by decide +kernel
theorem dX3_enter_13 : decode cX3_enter 13 = .ok (.iload_n 2, 1) := by decide +kernel
theorem dX3_enter_14 : decode cX3_enter 14 = .ok (.imul, 1) := by decide +kernel
theorem dX3_enter_15 : decode cX3_enter 15 = .ok (.aload_n 0, 1) := by decide +kernel
theorem dX3_enter_16 : decode cX3_enter 16 = .ok (.getfield 53, 3) := by decide +kernel
theorem dX3_enter_19 : decode cX3_enter 19 = .ok (.iload_n 2, 1) := by decide +kernel
theorem dX3_enter_20 : decode cX3_enter 20 = .ok (.iaload, 1) := by decide +kernel
theorem dX3_enter_21 : decode cX3_enter 21 = .ok (.iadd, 1) := by decide +kernel
theorem dX3_enter_22 : decode cX3_enter 22 = .ok (.iload_n 1, 1) := by decide +kernel
theorem dX3_enter_23 : decode cX3_enter 23 = .ok (.iastore, 1) := by decide +kernel
theorem dX3_enter_24 : decode cX3_enter 24 = .ok (.aload_n 0, 1) := by decide +kernel
theorem dX3_enter_25 : decode cX3_enter 25 = .ok (.getfield 53, 3) := by decide +kernel
theorem dX3_enter_28 : decode cX3_enter 28 = .ok (.iload_n 2, 1) := by decide +kernel
theorem dX3_enter_29 : decode cX3_enter 29 = .ok (.dup2, 1) := by decide +kernel
theorem dX3_enter_30 : decode cX3_enter 30 = .ok (.iaload, 1) := by decide +kernel
theorem dX3_enter_31 : decode cX3_enter 31 = .ok (.iconst 1, 1) := by decide +kernel
theorem dX3_enter_32 : decode cX3_enter 32 = .ok (.iadd, 1) := by decide +kernel
theorem dX3_enter_33 : decode cX3_enter 33 = .ok (.iastore, 1) := by decide +kernel
theorem dX3_enter_34 : decode cX3_enter 34 = .ok (.aload_n 0, 1) := by decide +kernel
theorem dX3_enter_35 : decode cX3_enter 35 = .ok (.getfield 28, 3) := by decide +kernel
theorem dX3_enter_38 : decode cX3_enter 38 = .ok (.iload_n 1, 1) := by decide +kernel
theorem dX3_enter_39 : decode cX3_enter 39 = .ok (.iconst 0, 1) := by decide +kernel
theorem dX3_enter_40 : decode cX3_enter 40 = .ok (.bastore, 1) := by decide +kernel
theorem dX3_enter_41 : decode cX3_enter 41 = .ok (.return_, 1) := by decide +kernel
set_option maxRecDepth 20000 in
theorem ggX3_leave_X3_placeOf : GoodIn wsX3_leave wsX3_placeOf := goodIn_r _ [9, 1, 2, 3, 10, 11, 12, 13, 14, 15, 16, 17, 18, 19, 20, 21, 22, 23, 24, 25, 26, 27, 28, 29, 30, 31] (by decide +kernel) (by decide +kernel)
set_option maxRecDepth 20000 in
theorem gX3_leave_X3_placeOf : GoodIn wsX3_leave (wsV RX3 77 RX3 yX3_placeOf wsX3_placeOf) := goodIn_app (goodIn_of _ (by decide +kernel)) ggX3_leave_X3_placeOf
theorem dX3_leave_0 : decode cX3_leave 0 = .ok (.aload_n 0, 1) := by decide +kernel
theorem dX3_leave_1 : decode cX3_leave 1 = .ok (.getfield 7, 3) := by decide +kernel
theorem dX3_leave_4 : decode cX3_leave 4 = .ok (.iload_n 1, 1) := by decide +kernel
theorem dX3_leave_5 : decode cX3_leave 5 = .ok (.iaload, 1) := by decide +kernel
theorem dX3_leave_6 : decode cX3_leave 6 = .ok (.istore_n 2, 1) := by decide +kernel
theorem dX3_leave_7 : decode cX3_leave 7 = .ok (.aload_n 0, 1) := by decide +kernel
theorem dX3_leave_8 : decode cX3_leave 8 = .ok (.iload_n 1, 1) := by decide +kernel
theorem dX3_leave_9 : decode cX3_leave 9 = .ok (.invokevirtual 77, 3) := by decide +kernel
theorem dX3_leave_12 : decode cX3_leave 12 = .ok (.istore_n 3, 1) := by decide +kernel
theorem dX3_leave_13 : decode cX3_leave 13 = .ok (.iload_n 3, 1) := by decide +kernel
theorem dX3_leave_14 : decode cX3_leave 14 = .ok (.ifCond .lt 59, 3) := by decide +kernel
theorem dX3_leave_17 : decode cX3_leave 17 = .ok (.aload_n 0, 1) := by decide +kernel
theorem dX3_leave_18 : decode cX3_leave 18 = .ok (.getfield 53, 3) := by decide +kernel
theorem dX3_leave_21 : decode cX3_leave 21 = .ok (.iload_n 2, 1) := by decide +kernel
theorem dX3_leave_22 : decode cX3_leave 22 = .ok (.dup2, 1) := by decide +kernel
theorem dX3_leave_23 : decode cX3_leave 23 = .ok (.iaload, 1) := by decide +kernel
theorem dX3_leave_24 : decode cX3_leave 24 = .ok (.iconst 1, 1) := by decide +kernel
theorem dX3_leave_25 : decode cX3_leave 25 = .ok (.isub, 1) := by decide +kernel
theorem dX3_leave_26 : decode cX3_leave 26 = .ok (.iastore, 1) := by decide +kernel
theorem dX3_leave_27 : decode cX3_leave 27 = .ok (.iload_n 3, 1) := by decide +kernel
theorem dX3_leave_28 : decode cX3_leave 28 = .ok (.istore 4, 2) := by decide +kernel
theorem dX3_leave_30 : decode cX3_leave 30 = .ok (.iload 4, 2) := by decide +kernel
theorem dX3_leave_32 : decode cX3_leave 32 = .ok (.aload_n 0, 1) := by decide +kernel
theorem dX3_leave_33 : decode cX3_leave 33 = .ok (.getfield 53, 3) := by decide +kernel
theorem dX3_leave_36 : decode cX3_leave 36 = .ok (.iload_n 2, 1) := by decide +kernel
theorem dX3_leave_37 : decode cX3_leave 37 = .ok (.iaload, 1) := by decide +kernel
theorem dX3_leave_38 : decode cX3_leave 38 = .ok (.if_icmp .ge 35, 3) := by decide +kernel
theorem dX3_leave_41 : decode cX3_leave 41 = .ok (.aload_n 0, 1) := by decide +kernel
theorem dX3_leave_42 : decode cX3_leave 42 = .ok (.getfield 50, 3) := by decide +kernel
theorem dX3_leave_45 : decode cX3_leave 45 = .ok (.bipush 12, 2) := by decide +kernel
theorem dX3_leave_47 : decode cX3_leave 47 = .ok (.iload_n 2, 1) := by decide +kernel
theorem dX3_leave_48 : decode cX3_leave 48 = .ok (.imul, 1) := by decide +kernel
theorem dX3_leave_49 : decode cX3_leave 49 = .ok (.iload 4, 2) := by decide +kernel
theorem dX3_leave_51 : decode cX3_leave 51 = .ok (.iadd, 1) := by decide +kernel
theorem dX3_leave_52 : decode cX3_leave 52 = .ok (.aload_n 0, 1) := by decide +kernel
theorem dX3_leave_53 : decode cX3_leave 53 = .ok (.getfield 50, 3) := by decide +kernel
theorem dX3_leave_56 : decode cX3_leave 56 = .ok (.bipush 12, 2) := by decide +kernel
theorem dX3_leave_58 : decode cX3_leave 58 = .ok (.iload_n 2, 1) := by decide +kernel
theorem dX3_leave_59 : decode cX3_leave 59 = .ok (.imul, 1) := by decide +kernel
theorem dX3_leave_60 : decode cX3_leave 60 = .ok (.iload 4, 2) := by decide +kernel
theorem dX3_leave_62 : decode cX3_leave 62 = .ok (.iadd, 1) := by decide +kernel
theorem dX3_leave_63 : decode cX3_leave 63 = .ok (.iconst 1, 1) := by decide +kernel
theorem dX3_leave_64 : decode cX3_leave 64 = .ok (.iadd, 1) := by decide +kernel
theorem dX3_leave_65 : decode cX3_leave 65 = .ok (.iaload, 1) := by decide +kernel
theorem dX3_leave_66 : decode cX3_leave 66 = .ok (.iastore, 1) := by decide +kernel
theorem dX3_leave_67 : decode cX3_leave 67 = .ok (.iinc 4 1, 3) := by decide +kernel
theorem dX3_leave_70 : decode cX3_leave 70 = .ok (.goto (-40), 3) := by decide +kernel
theorem dX3_leave_73 : decode cX3_leave 73 = .ok (.aload_n 0, 1) := by decide +kernel
theorem dX3_leave_74 : decode cX3_leave 74 = .ok (.getfield 28, 3) := by decide +kernel
theorem dX3_leave_77 : decode cX3_leave 77 = .ok (.iload_n 1, 1) := by decide +kernel
theorem dX3_leave_78 : decode cX3_leave 78 = .ok (.iconst 0, 1) := by decide +kernel
theorem dX3_leave_79 : decode cX3_leave 79 = .ok (.bastore, 1) := by decide +kernel
theorem dX3_leave_80 : decode cX3_leave 80 = .ok (.return_, 1) := by decide +kernel
set_option maxRecDepth 20000 in
theorem ggX3_kind_X3_noQueue : GoodIn wsX3_kind wsX3_noQueue := goodIn_r _ [8] (by decide +kernel) (by decide +kernel)
set_option maxRecDepth 20000 in
theorem gX3_kind_X3_noQueue : GoodIn wsX3_kind (va_wsS RX3 69 yX3_noQueue wsX3_noQueue) := goodIn_app (goodIn_of _ (by decide +kernel)) ggX3_kind_X3_noQueue
set_option maxRecDepth 20000 in
theorem ggX3_kind_X3_leave : GoodIn wsX3_kind wsX3_leave := goodIn_r _ [12, 3, 13, 14, 15, 16, 17, 18, 7, 19, 24, 25, 26, 27, 28, 29, 30, 31, 32, 33, 34, 35, 36, 37, 38, 39, 40, 41, 42, 43, 44, 45] (by decide +kernel) (by decide +kernel)
set_option maxRecDepth 20000 in
theorem gX3_kind_X3_leave : GoodIn wsX3_kind (wsV RX3 81 RX3 yX3_leave wsX3_leave) := goodIn_app (goodIn_of _ (by decide +kernel)) ggX3_kind_X3_leave
set_option maxRecDepth 20000 in
theorem ggX3_kind_X3_enter : GoodIn wsX3_kind wsX3_enter := goodIn_r _ [23, 3, 14, 13, 15, 24, 25, 26, 27, 28, 29, 30, 31, 32, 33, 34, 35, 36, 37, 38, 39, 40, 41, 42, 43, 44, 45] (by decide +kernel) (by decide +kernel)
set_option maxRecDepth 20000 in
theorem gX3_kind_X3_enter : GoodIn wsX3_kind (wsV RX3 85 RX3 yX3_enter wsX3_enter) := goodIn_app (goodIn_of _ (by decide +kernel)) ggX3_kind_X3_enter
theorem dX3_kind_0 : decode cX3_kind 0 = .ok (.aload_n 0, 1) := by decide +kernel
theorem dX3_kind_1 : decode cX3_kind 1 = .ok (.iload_n 1, 1) := by decide +kernel
theorem dX3_kind_2 : decode cX3_kind 2 = .ok (.invokestatic 69, 3) := by decide +kernel
theorem dX3_kind_5 : decode cX3_kind 5 = .ok (.ifCond .ne 24, 3) := by decide +kernel
theorem dX3_kind_8 : decode cX3_kind 8 = .ok (.iload_n 2, 1) := by decide +kernel
theorem dX3_kind_9 : decode cX3_kind 9 = .ok (.ifCond .lt 20, 3) := by decide +kernel
theorem dX3_kind_12 : decode cX3_kind 12 = .ok (.iload_n 2, 1) := by decide +kernel
theorem dX3_kind_13 : decode cX3_kind 13 = .ok (.iconst 3, 1) := by decide +kernel
theorem dX3_kind_14 : decode cX3_kind 14 = .ok (.if_icmp .gt 15, 3) := by decide +kernel
theorem dX3_kind_17 : decode cX3_kind 17 = .ok (.iload_n 3, 1) := by decide +kernel
theorem dX3_kind_18 : decode cX3_kind 18 = .ok (.iconst 1, 1) := by decide +kernel
theorem dX3_kind_19 : decode cX3_kind 19 = .ok (.if_icmp .lt 10, 3) := by decide +kernel
theorem dX3_kind_22 : decode cX3_kind 22 = .ok (.iload_n 3, 1) := by decide +kernel
theorem dX3_kind_23 : decode cX3_kind 23 = .ok (.sipush 1000, 3) := by decide +kernel
theorem dX3_kind_26 : decode cX3_kind 26 = .ok (.if_icmp .le 7, 3) := by decide +kernel
theorem dX3_kind_29 : decode cX3_kind 29 = .ok (.iconst 1, 1) := by decide +kernel
theorem dX3_kind_30 : decode cX3_kind 30 = .ok (.goto 4, 3) := by decide +kernel
theorem dX3_kind_33 : decode cX3_kind 33 = .ok (.iconst 0, 1) := by decide +kernel
theorem dX3_kind_34 : decode cX3_kind 34 = .ok (.putfield 65, 3) := by decide +kernel
theorem dX3_kind_37 : decode cX3_kind 37 = .ok (.aload_n 0, 1) := by decide +kernel
theorem dX3_kind_38 : decode cX3_kind 38 = .ok (.getfield 65, 3) := by decide +kernel
theorem dX3_kind_41 : decode cX3_kind 41 = .ok (.ifCond .le 4, 3) := by decide +kernel
theorem dX3_kind_44 : decode cX3_kind 44 = .ok (.return_, 1) := by decide +kernel
theorem dX3_kind_45 : decode cX3_kind 45 = .ok (.aload_n 0, 1) := by decide +kernel
theorem dX3_kind_46 : decode cX3_kind 46 = .ok (.getfield 13, 3) := by decide +kernel
theorem dX3_kind_49 : decode cX3_kind 49 = .ok (.iload_n 1, 1) := by decide +kernel
theorem dX3_kind_50 : decode cX3_kind 50 = .ok (.iload_n 3, 1) := by decide +kernel
theorem dX3_kind_51 : decode cX3_kind 51 = .ok (.iastore, 1) := by decide +kernel
theorem dX3_kind_52 : decode cX3_kind 52 = .ok (.iload_n 2, 1) := by decide +kernel
theorem dX3_kind_53 : decode cX3_kind 53 = .ok (.aload_n 0, 1) := by decide +kernel
theorem dX3_kind_54 : decode cX3_kind 54 = .ok (.getfield 7, 3) := by decide +kernel
theorem dX3_kind_57 : decode cX3_kind 57 = .ok (.iload_n 1, 1) := by decide +kernel
theorem dX3_kind_58 : decode cX3_kind 58 = .ok (.iaload, 1) := by decide +kernel
theorem dX3_kind_59 : decode cX3_kind 59 = .ok (.if_icmp .eq 29, 3) := by decide +kernel
theorem dX3_kind_62 : decode cX3_kind 62 = .ok (.aload_n 0, 1) := by decide +kernel
theorem dX3_kind_63 : decode cX3_kind 63 = .ok (.iload_n 1, 1) := by decide +kernel
theorem dX3_kind_64 : decode cX3_kind 64 = .ok (.invokevirtual 81, 3) := by decide +kernel
theorem dX3_kind_67 : decode cX3_kind 67 = .ok (.aload_n 0, 1) := by decide +kernel
theorem dX3_kind_68 : decode cX3_kind 68 = .ok (.getfield 7, 3) := by decide +kernel
theorem dX3_kind_71 : decode cX3_kind 71 = .ok (.iload_n 1, 1) := by decide +kernel
theorem dX3_kind_72 : decode cX3_kind 72 = .ok (.iload_n 2, 1) := by decide +kernel
theorem dX3_kind_73 : decode cX3_kind 73 = .ok (.iastore, 1) := by decide +kernel
theorem dX3_kind_74 : decode cX3_kind 74 = .ok (.aload_n 0, 1) := by decide +kernel
theorem dX3_kind_75 : decode cX3_kind 75 = .ok (.getfield 22, 3) := by decide +kernel
theorem dX3_kind_78 : decode cX3_kind 78 = .ok (.iload_n 1, 1) := by decide +kernel
theorem dX3_kind_79 : decode cX3_kind 79 = .ok (.iaload, 1) := by decide +kernel
theorem dX3_kind_80 : decode cX3_kind 80 = .ok (.ifCond .le 8, 3) := by decide +kernel
theorem dX3_kind_83 : decode cX3_kind 83 = .ok (.aload_n 0, 1) := by decide +kernel
theorem dX3_kind_84 : decode cX3_kind 84 = .ok (.iload_n 1, 1) := by decide +kernel
theorem dX3_kind_85 : decode cX3_kind 85 = .ok (.invokevirtual 85, 3) := by decide +kernel
theorem dX3_kind_88 : decode cX3_kind 88 = .ok (.return_, 1) := by decide +kernel
theorem dX3_free_0 : decode cX3_free 0 = .ok (.bipush 96, 2) := by decide +kernel
theorem dX3_free_2 : decode cX3_free 2 = .ok (.istore_n 1, 1) := by decide +kernel
theorem dX3_free_3 : decode cX3_free 3 = .ok (.iconst 0, 1) := by decide +kernel
theorem dX3_free_4 : decode cX3_free 4 = .ok (.istore_n 2, 1) := by decide +kernel
theorem dX3_free_5 : decode cX3_free 5 = .ok (.iload_n 2, 1) := by decide +kernel
theorem dX3_free_6 : decode cX3_free 6 = .ok (.bipush 12, 2) := by decide +kernel
theorem dX3_free_8 : decode cX3_free 8 = .ok (.if_icmp .ge 18, 3) := by decide +kernel
theorem dX3_free_11 : decode cX3_free 11 = .ok (.iload_n 1, 1) := by decide +kernel
theorem dX3_free_12 : decode cX3_free 12 = .ok (.aload_n 0, 1) := by decide +kernel
theorem dX3_free_13 : decode cX3_free 13 = .ok (.getfield 22, 3) := by decide +kernel
theorem dX3_free_16 : decode cX3_free 16 = .ok (.iload_n 2, 1) := by decide +kernel
theorem dX3_free_17 : decode cX3_free 17 = .ok (.iaload, 1) := by decide +kernel
theorem dX3_free_18 : decode cX3_free 18 = .ok (.isub, 1) := by decide +kernel
theorem dX3_free_19 : decode cX3_free 19 = .ok (.istore_n 1, 1) := by decide +kernel
theorem dX3_free_20 : decode cX3_free 20 = .ok (.iinc 2 1, 3) := by decide +kernel
theorem dX3_free_23 : decode cX3_free 23 = .ok (.goto (-18), 3) := by decide +kernel
theorem dX3_free_26 : decode cX3_free 26 = .ok (.iload_n 1, 1) := by decide +kernel
theorem dX3_free_27 : decode cX3_free 27 = .ok (.ireturn, 1) := by decide +kernel
theorem dX3_excess_0 : decode cX3_excess 0 = .ok (.aload_n 0, 1) := by decide +kernel
theorem dX3_excess_1 : decode cX3_excess 1 = .ok (.getfield 22, 3) := by decide +kernel
theorem dX3_excess_4 : decode cX3_excess 4 = .ok (.iload_n 1, 1) := by decide +kernel
theorem dX3_excess_5 : decode cX3_excess 5 = .ok (.iaload, 1) := by decide +kernel
theorem dX3_excess_6 : decode cX3_excess 6 = .ok (.aload_n 0, 1) := by decide +kernel
theorem dX3_excess_7 : decode cX3_excess 7 = .ok (.getfield 19, 3) := by decide +kernel
theorem dX3_excess_10 : decode cX3_excess 10 = .ok (.iload_n 1, 1) := by decide +kernel
theorem dX3_excess_11 : decode cX3_excess 11 = .ok (.iaload, 1) := by decide +kernel
theorem dX3_excess_12 : decode cX3_excess 12 = .ok (.isub, 1) := by decide +kernel
theorem dX3_excess_13 : decode cX3_excess 13 = .ok (.ireturn, 1) := by decide +kernel
set_option maxRecDepth 20000 in
theorem ggX3_open_X3_free : GoodIn wsX3_open wsX3_free := goodIn_r _ [5, 6, 12, 13, 14, 15, 16, 17, 18, 19, 20, 21, 22, 23, 24, 25, 26, 27, 28, 29, 30, 31, 32, 33] (by decide +kernel) (by decide +kernel)
set_option maxRecDepth 20000 in
theorem gX3_open_X3_free : GoodIn wsX3_open (wsV RX3 88 RX3 yX3_free wsX3_free) := goodIn_app (goodIn_of _ (by decide +kernel)) ggX3_open_X3_free
set_option maxRecDepth 20000 in
theorem ggX3_open_X3_excess : GoodIn wsX3_open wsX3_excess := goodIn_r _ [10, 6, 11, 12, 13, 14, 15, 16, 17, 18, 19, 20, 21, 22, 23, 24, 25, 26, 27, 28, 29, 30, 31, 32, 33] (by decide +kernel) (by decide +kernel)
set_option maxRecDepth 20000 in
theorem gX3_open_X3_excess : GoodIn wsX3_open (wsV RX3 91 RX3 yX3_excess wsX3_excess) := goodIn_app (goodIn_of _ (by decide +kernel)) ggX3_open_X3_excess
theorem dX3_open_0 : decode cX3_open 0 = .ok (.aload_n 0, 1) := by decide +kernel
theorem dX3_open_1 : decode cX3_open 1 = .ok (.invokevirtual 88, 3) := by decide +kernel
theorem dX3_open_4 : decode cX3_open 4 = .ok (.istore_n 1, 1) := by decide +kernel
theorem dX3_open_5 : decode cX3_open 5 = .ok (.iconst 0, 1) := by decide +kernel
theorem dX3_open_6 : decode cX3_open 6 = .ok (.istore_n 2, 1) := by decide +kernel
theorem dX3_open_7 : decode cX3_open 7 = .ok (.iload_n 2, 1) := by decide +kernel
theorem dX3_open_8 : decode cX3_open 8 = .ok (.bipush 12, 2) := by decide +kernel
theorem dX3_open_10 : decode cX3_open 10 = .ok (.if_icmp .ge 29, 3) := by decide +kernel
theorem dX3_open_13 : decode cX3_open 13 = .ok (.aload_n 0, 1) := by decide +kernel
theorem dX3_open_14 : decode cX3_open 14 = .ok (.iload_n 2, 1) := by decide +kernel
theorem dX3_open_15 : decode cX3_open 15 = .ok (.invokevirtual 91, 3) := by decide +kernel
theorem dX3_open_18 : decode cX3_open 18 = .ok (.ifCond .ge 13, 3) := by decide +kernel
theorem dX3_open_21 : decode cX3_open 21 = .ok (.iload_n 1, 1) := by decide +kernel
theorem dX3_open_22 : decode cX3_open 22 = .ok (.aload_n 0, 1) := by decide +kernel
theorem dX3_open_23 : decode cX3_open 23 = .ok (.iload_n 2, 1) := by decide +kernel
theorem dX3_open_24 : decode cX3_open 24 = .ok (.invokevirtual 91, 3) := by decide +kernel
theorem dX3_open_27 : decode cX3_open 27 = .ok (.iadd, 1) := by decide +kernel
theorem dX3_open_28 : decode cX3_open 28 = .ok (.goto 4, 3) := by decide +kernel
theorem dX3_open_31 : decode cX3_open 31 = .ok (.iload_n 1, 1) := by decide +kernel
theorem dX3_open_32 : decode cX3_open 32 = .ok (.istore_n 1, 1) := by decide +kernel
theorem dX3_open_33 : decode cX3_open 33 = .ok (.iinc 2 1, 3) := by decide +kernel
theorem dX3_open_36 : decode cX3_open 36 = .ok (.goto (-29), 3) := by decide +kernel
theorem dX3_open_39 : decode cX3_open 39 = .ok (.iload_n 1, 1) := by decide +kernel
theorem dX3_open_40 : decode cX3_open 40 = .ok (.ireturn, 1) := by decide +kernel
set_option maxRecDepth 20000 in
theorem ggX3_greediest_X3_excess : GoodIn wsX3_greediest wsX3_excess := goodIn_r _ [5, 6, 7, 8, 9, 10, 11, 12, 13, 14, 15, 16, 17, 18, 19, 20, 21, 22, 23, 24, 25, 26, 27, 28, 29] (by decide +kernel) (by decide +kernel)
set_option maxRecDepth 20000 in
theorem gX3_greediest_X3_excess : GoodIn wsX3_greediest (wsV RX3 91 RX3 yX3_excess wsX3_excess) := goodIn_app (goodIn_of _ (by decide +kernel)) ggX3_greediest_X3_excess
theorem dX3_greediest_0 : decode cX3_greediest 0 = .ok (.iconst 0, 1) := by decide +kernel
theorem dX3_greediest_1 : decode cX3_greediest 1 = .ok (.istore_n 1, 1) := by decide +kernel
theorem dX3_greediest_2 : decode cX3_greediest 2 = .ok (.iconst 1, 1) := by decide +kernel
theorem dX3_greediest_3 : decode cX3_greediest 3 = .ok (.istore_n 2, 1) := by decide +kernel
theorem dX3_greediest_4 : decode cX3_greediest 4 = .ok (.iload_n 2, 1) := by decide +kernel
theorem dX3_greediest_5 : decode cX3_greediest 5 = .ok (.bipush 12, 2) := by decide +kernel
theorem dX3_greediest_7 : decode cX3_greediest 7 = .ok (.if_icmp .ge 28, 3) := by decide +kernel
theorem dX3_greediest_10 : decode cX3_greediest 10 = .ok (.aload_n 0, 1) := by decide +kernel
theorem dX3_greediest_11 : decode cX3_greediest 11 = .ok (.iload_n 2, 1) := by decide +kernel
theorem dX3_greediest_12 : decode cX3_greediest 12 = .ok (.invokevirtual 91, 3) := by decide +kernel
theorem dX3_greediest_15 : decode cX3_greediest 15 = .ok (.aload_n 0, 1) := by decide +kernel
theorem dX3_greediest_16 : decode cX3_greediest 16 = .ok (.iload_n 1, 1) := by decide +kernel
theorem dX3_greediest_17 : decode cX3_greediest 17 = .ok (.invokevirtual 91, 3) := by decide +kernel
theorem dX3_greediest_20 : decode cX3_greediest 20 = .ok (.if_icmp .le 7, 3) := by decide +kernel
theorem dX3_greediest_23 : decode cX3_greediest 23 = .ok (.iload_n 2, 1) := by decide +kernel
theorem dX3_greediest_24 : decode cX3_greediest 24 = .ok (.goto 4, 3) := by decide +kernel
theorem dX3_greediest_27 : decode cX3_greediest 27 = .ok (.iload_n 1, 1) := by decide +kernel
theorem dX3_greediest_28 : decode cX3_greediest 28 = .ok (.istore_n 1, 1) := by decide +kernel
theorem dX3_greediest_29 : decode cX3_greediest 29 = .ok (.iinc 2 1, 3) := by decide +kernel
theorem dX3_greediest_32 : decode cX3_greediest 32 = .ok (.goto (-28), 3) := by decide +kernel
theorem dX3_greediest_35 : decode cX3_greediest 35 = .ok (.iload_n 1, 1) := by decide +kernel
theorem dX3_greediest_36 : decode cX3_greediest 36 = .ok (.ireturn, 1) := by decide +kernel
set_option maxRecDepth 20000 in
theorem ggX3_settle_X3_leave : GoodIn wsX3_settle wsX3_leave := goodIn_r _ [7, 8, 9, 10, 11, 12, 13, 14, 6, 15, 16, 17, 18, 19, 20, 21, 22, 23, 24, 25, 26, 27, 28, 29, 30, 31, 32, 33, 34, 35, 36, 37] (by decide +kernel) (by decide +kernel)
set_option maxRecDepth 20000 in
theorem gX3_settle_X3_leave : GoodIn wsX3_settle (wsV RX3 81 RX3 yX3_leave wsX3_leave) := goodIn_app (goodIn_of _ (by decide +kernel)) ggX3_settle_X3_leave
theorem dX3_settle_0 : decode cX3_settle 0 = .ok (.aload_n 0, 1) := by decide +kernel
theorem dX3_settle_1 : decode cX3_settle 1 = .ok (.getfield 22, 3) := by decide +kernel
theorem dX3_settle_4 : decode cX3_settle 4 = .ok (.iload_n 1, 1) := by decide +kernel
theorem dX3_settle_5 : decode cX3_settle 5 = .ok (.iaload, 1) := by decide +kernel
theorem dX3_settle_6 : decode cX3_settle 6 = .ok (.ifCond .ne 15, 3) := by decide +kernel
theorem dX3_settle_9 : decode cX3_settle 9 = .ok (.aload_n 0, 1) := by decide +kernel
theorem dX3_settle_10 : decode cX3_settle 10 = .ok (.iload_n 1, 1) := by decide +kernel
theorem dX3_settle_11 : decode cX3_settle 11 = .ok (.invokevirtual 81, 3) := by decide +kernel
theorem dX3_settle_14 : decode cX3_settle 14 = .ok (.aload_n 0, 1) := by decide +kernel
theorem dX3_settle_15 : decode cX3_settle 15 = .ok (.getfield 25, 3) := by decide +kernel
theorem dX3_settle_18 : decode cX3_settle 18 = .ok (.iload_n 1, 1) := by decide +kernel
theorem dX3_settle_19 : decode cX3_settle 19 = .ok (.iconst 0, 1) := by decide +kernel
theorem dX3_settle_20 : decode cX3_settle 20 = .ok (.iastore, 1) := by decide +kernel
theorem dX3_settle_21 : decode cX3_settle 21 = .ok (.return_, 1) := by decide +kernel
set_option maxRecDepth 20000 in
theorem ggX3_push_X3_noQueue : GoodIn wsX3_push wsX3_noQueue := goodIn_r _ [14] (by decide +kernel) (by decide +kernel)
set_option maxRecDepth 20000 in
theorem gX3_push_X3_noQueue : GoodIn wsX3_push (va_wsS RX3 69 yX3_noQueue wsX3_noQueue) := goodIn_app (goodIn_of _ (by decide +kernel)) ggX3_push_X3_noQueue
set_option maxRecDepth 20000 in
theorem ggX3_push_X3_free : GoodIn wsX3_push wsX3_free := goodIn_r _ [18, 2, 52, 53, 54, 55, 56, 57, 58, 59, 60, 61, 62, 63, 64, 65, 66, 67, 68, 69, 70, 71, 72, 73] (by decide +kernel) (by decide +kernel)
set_option maxRecDepth 20000 in
theorem gX3_push_X3_free : GoodIn wsX3_push (wsV RX3 88 RX3 yX3_free wsX3_free) := goodIn_app (goodIn_of _ (by decide +kernel)) ggX3_push_X3_free
set_option maxRecDepth 20000 in
theorem ggX3_push_X3_excess : GoodIn wsX3_push wsX3_excess := goodIn_r _ [22, 2, 23, 52, 53, 54, 55, 56, 57, 58, 59, 60, 61, 62, 63, 64, 65, 66, 67, 68, 69, 70, 71, 72, 73] (by decide +kernel) (by decide +kernel)
set_option maxRecDepth 20000 in
theorem gX3_push_X3_excess : GoodIn wsX3_push (wsV RX3 91 RX3 yX3_excess wsX3_excess) := goodIn_app (goodIn_of _ (by decide +kernel)) ggX3_push_X3_excess
set_option maxRecDepth 20000 in
theorem ggX3_push_X3_open : GoodIn wsX3_push wsX3_open := goodIn_r _ [27, 15, 16, 17, 13, 18, 2, 19, 20, 21, 22, 23, 52, 53, 54, 55, 56, 57, 58, 59, 60, 61, 62, 63, 64, 65, 66, 67, 68, 69, 70, 71, 72, 73] (by decide +kernel) (by decide +kernel)
set_option maxRecDepth 20000 in
theorem gX3_push_X3_open : GoodIn wsX3_push (wsV RX3 97 RX3 yX3_open wsX3_open) := goodIn_app (goodIn_of _ (by decide +kernel)) ggX3_push_X3_open
set_option maxRecDepth 20000 in
theorem ggX3_push_X3_greediest : GoodIn wsX3_push wsX3_greediest := goodIn_r _ [31, 19, 20, 21, 13, 22, 2, 23, 52, 53, 54, 55, 56, 57, 58, 59, 60, 61, 62, 63, 64, 65, 66, 67, 68, 69, 70, 71, 72, 73] (by decide +kernel) (by decide +kernel)
set_option maxRecDepth 20000 in
theorem gX3_push_X3_greediest : GoodIn wsX3_push (wsV RX3 100 RX3 yX3_greediest wsX3_greediest) := goodIn_app (goodIn_of _ (by decide +kernel)) ggX3_push_X3_greediest
set_option maxRecDepth 20000 in
theorem ggX3_push_X3_settle : GoodIn wsX3_push wsX3_settle := goodIn_r _ [35, 2, 10, 36, 37, 38, 13, 39, 40, 41, 42, 43, 44, 45, 46, 47, 52, 53, 54, 55, 56, 57, 58, 59, 60, 61, 62, 63, 64, 65, 66, 67, 68, 69, 70, 71, 72, 73] (by decide +kernel) (by decide +kernel)
set_option maxRecDepth 20000 in
theorem gX3_push_X3_settle : GoodIn wsX3_push (wsV RX3 106 RX3 yX3_settle wsX3_settle) := goodIn_app (goodIn_of _ (by decide +kernel)) ggX3_push_X3_settle
set_option maxRecDepth 20000 in
theorem ggX3_push_X3_enter : GoodIn wsX3_push wsX3_enter := goodIn_r _ [51, 40, 42, 41, 43, 52, 53, 54, 55, 56, 57, 58, 59, 60, 61, 62, 63, 64, 65, 66, 67, 68, 69, 70, 71, 72, 73] (by decide +kernel) (by decide +kernel)
set_option maxRecDepth 20000 in
theorem gX3_push_X3_enter : GoodIn wsX3_push (wsV RX3 85 RX3 yX3_enter wsX3_enter) := goodIn_app (goodIn_of _ (by decide +kernel)) ggX3_push_X3_enter
theorem dX3_push_0 : decode cX3_push 0 = .ok (.aload_n 0, 1) := by decide +kernel
theorem dX3_push_1 : decode cX3_push 1 = .ok (.iload_n 1, 1) := by decide +kernel
theorem dX3_push_2 : decode cX3_push 2 = .ok (.invokestatic 69, 3) := by decide +kernel
theorem dX3_push_5 : decode cX3_push 5 = .ok (.ifCond .ne 15, 3) := by decide +kernel
theorem dX3_push_8 : decode cX3_push 8 = .ok (.iload_n 3, 1) := by decide +kernel
theorem dX3_push_9 : decode cX3_push 9 = .ok (.iconst 1, 1) := by decide +kernel
theorem dX3_push_10 : decode cX3_push 10 = .ok (.if_icmp .lt 10, 3) := by decide +kernel
theorem dX3_push_13 : decode cX3_push 13 = .ok (.iload_n 3, 1) := by decide +kernel
theorem dX3_push_14 : decode cX3_push 14 = .ok (.sipush 2000, 3) := by decide +kernel
theorem dX3_push_17 : decode cX3_push 17 = .ok (.if_icmp .le 7, 3) := by decide +kernel
theorem dX3_push_20 : decode cX3_push 20 = .ok (.iconst 1, 1) := by decide +kernel
theorem dX3_push_21 : decode cX3_push 21 = .ok (.goto 4, 3) := by decide +kernel
theorem dX3_push_24 : decode cX3_push 24 = .ok (.iconst 0, 1) := by decide +kernel
theorem dX3_push_25 : decode cX3_push 25 = .ok (.putfield 65, 3) := by decide +kernel
theorem dX3_push_28 : decode cX3_push 28 = .ok (.aload_n 0, 1) := by decide +kernel
theorem dX3_push_29 : decode cX3_push 29 = .ok (.getfield 65, 3) := by decide +kernel
theorem dX3_push_32 : decode cX3_push 32 = .ok (.ifCond .le 5, 3) := by decide +kernel
theorem dX3_push_35 : decode cX3_push 35 = .ok (.iconst 0, 1) := by decide +kernel
theorem dX3_push_36 : decode cX3_push 36 = .ok (.ireturn, 1) := by decide +kernel
theorem dX3_push_37 : decode cX3_push 37 = .ok (.aload_n 0, 1) := by decide +kernel
theorem dX3_push_38 : decode cX3_push 38 = .ok (.getfield 22, 3) := by decide +kernel
theorem dX3_push_41 : decode cX3_push 41 = .ok (.iload_n 1, 1) := by decide +kernel
theorem dX3_push_42 : decode cX3_push 42 = .ok (.iaload, 1) := by decide +kernel
theorem dX3_push_43 : decode cX3_push 43 = .ok (.aload_n 0, 1) := by decide +kernel
theorem dX3_push_44 : decode cX3_push 44 = .ok (.getfield 16, 3) := by decide +kernel
theorem dX3_push_47 : decode cX3_push 47 = .ok (.iload_n 1, 1) := by decide +kernel
theorem dX3_push_48 : decode cX3_push 48 = .ok (.iaload, 1) := by decide +kernel
theorem dX3_push_49 : decode cX3_push 49 = .ok (.if_icmp .lt 16, 3) := by decide +kernel
theorem dX3_push_52 : decode cX3_push 52 = .ok (.aload_n 0, 1) := by decide +kernel
theorem dX3_push_53 : decode cX3_push 53 = .ok (.dup, 1) := by decide +kernel
theorem dX3_push_54 : decode cX3_push 54 = .ok (.getfield 94, 3) := by decide +kernel
theorem dX3_push_57 : decode cX3_push 57 = .ok (.iconst 1, 1) := by decide +kernel
theorem dX3_push_58 : decode cX3_push 58 = .ok (.iadd, 1) := by decide +kernel
theorem dX3_push_59 : decode cX3_push 59 = .ok (.putfield 94, 3) := by decide +kernel
theorem dX3_push_62 : decode cX3_push 62 = .ok (.bipush (-2), 2) := by decide +kernel
theorem dX3_push_64 : decode cX3_push 64 = .ok (.ireturn, 1) := by decide +kernel
theorem dX3_push_65 : decode cX3_push 65 = .ok (.bipush 100, 2) := by decide +kernel
theorem dX3_push_67 : decode cX3_push 67 = .ok (.istore 4, 2) := by decide +kernel
theorem dX3_push_69 : decode cX3_push 69 = .ok (.aload_n 0, 1) := by decide +kernel
theorem dX3_push_70 : decode cX3_push 70 = .ok (.invokevirtual 88, 3) := by decide +kernel
theorem dX3_push_73 : decode cX3_push 73 = .ok (.iconst 1, 1) := by decide +kernel
theorem dX3_push_74 : decode cX3_push 74 = .ok (.if_icmp .lt 19, 3) := by decide +kernel
theorem dX3_push_77 : decode cX3_push 77 = .ok (.aload_n 0, 1) := by decide +kernel
theorem dX3_push_78 : decode cX3_push 78 = .ok (.iload_n 1, 1) := by decide +kernel
theorem dX3_push_79 : decode cX3_push 79 = .ok (.invokevirtual 91, 3) := by decide +kernel
theorem dX3_push_82 : decode cX3_push 82 = .ok (.ifCond .lt 74, 3) := by decide +kernel
theorem dX3_push_85 : decode cX3_push 85 = .ok (.aload_n 0, 1) := by decide +kernel
theorem dX3_push_86 : decode cX3_push 86 = .ok (.invokevirtual 97, 3) := by decide +kernel
theorem dX3_push_89 : decode cX3_push 89 = .ok (.iconst 1, 1) := by decide +kernel
theorem dX3_push_90 : decode cX3_push 90 = .ok (.if_icmp .ge 66, 3) := by decide +kernel
theorem dX3_push_93 : decode cX3_push 93 = .ok (.aload_n 0, 1) := by decide +kernel
theorem dX3_push_94 : decode cX3_push 94 = .ok (.invokevirtual 100, 3) := by decide +kernel
theorem dX3_push_97 : decode cX3_push 97 = .ok (.istore 4, 2) := by decide +kernel
theorem dX3_push_99 : decode cX3_push 99 = .ok (.aload_n 0, 1) := by decide +kernel
theorem dX3_push_100 : decode cX3_push 100 = .ok (.iload 4, 2) := by decide +kernel
theorem dX3_push_102 : decode cX3_push 102 = .ok (.invokevirtual 91, 3) := by decide +kernel
theorem dX3_push_105 : decode cX3_push 105 = .ok (.aload_n 0, 1) := by decide +kernel
theorem dX3_push_106 : decode cX3_push 106 = .ok (.iload_n 1, 1) := by decide +kernel
theorem dX3_push_107 : decode cX3_push 107 = .ok (.invokevirtual 91, 3) := by decide +kernel
theorem dX3_push_110 : decode cX3_push 110 = .ok (.iconst 2, 1) := by decide +kernel
theorem dX3_push_111 : decode cX3_push 111 = .ok (.iadd, 1) := by decide +kernel
theorem dX3_push_112 : decode cX3_push 112 = .ok (.if_icmp .ge 16, 3) := by decide +kernel
theorem dX3_push_115 : decode cX3_push 115 = .ok (.aload_n 0, 1) := by decide +kernel
theorem dX3_push_116 : decode cX3_push 116 = .ok (.dup, 1) := by decide +kernel
theorem dX3_push_117 : decode cX3_push 117 = .ok (.getfield 103, 3) := by decide +kernel
theorem dX3_push_120 : decode cX3_push 120 = .ok (.iconst 1, 1) := by decide +kernel
theorem dX3_push_121 : decode cX3_push 121 = .ok (.iadd, 1) := by decide +kernel
theorem dX3_push_122 : decode cX3_push 122 = .ok (.putfield 103, 3) := by decide +kernel
theorem dX3_push_125 : decode cX3_push 125 = .ok (.bipush (-3), 2) := by decide +kernel
theorem dX3_push_127 : decode cX3_push 127 = .ok (.ireturn, 1) := by decide +kernel
theorem dX3_push_128 : decode cX3_push 128 = .ok (.aload_n 0, 1) := by decide +kernel
theorem dX3_push_129 : decode cX3_push 129 = .ok (.getfield 22, 3) := by decide +kernel
theorem dX3_push_132 : decode cX3_push 132 = .ok (.iload 4, 2) := by decide +kernel
theorem dX3_push_134 : decode cX3_push 134 = .ok (.dup2, 1) := by decide +kernel
theorem dX3_push_135 : decode cX3_push 135 = .ok (.iaload, 1) := by decide +kernel
theorem dX3_push_136 : decode cX3_push 136 = .ok (.iconst 1, 1) := by decide +kernel
theorem dX3_push_137 : decode cX3_push 137 = .ok (.isub, 1) := by decide +kernel
theorem dX3_push_138 : decode cX3_push 138 = .ok (.iastore, 1) := by decide +kernel
theorem dX3_push_139 : decode cX3_push 139 = .ok (.aload_n 0, 1) := by decide +kernel
theorem dX3_push_140 : decode cX3_push 140 = .ok (.getfield 41, 3) := by decide +kernel
theorem dX3_push_143 : decode cX3_push 143 = .ok (.iload 4, 2) := by decide +kernel
theorem dX3_push_145 : decode cX3_push 145 = .ok (.dup2, 1) := by decide +kernel
theorem dX3_push_146 : decode cX3_push 146 = .ok (.iaload, 1) := by decide +kernel
theorem dX3_push_147 : decode cX3_push 147 = .ok (.iconst 1, 1) := by decide +kernel
theorem dX3_push_148 : decode cX3_push 148 = .ok (.iadd, 1) := by decide +kernel
theorem dX3_push_149 : decode cX3_push 149 = .ok (.iastore, 1) := by decide +kernel
theorem dX3_push_150 : decode cX3_push 150 = .ok (.aload_n 0, 1) := by decide +kernel
theorem dX3_push_151 : decode cX3_push 151 = .ok (.iload 4, 2) := by decide +kernel
theorem dX3_push_153 : decode cX3_push 153 = .ok (.invokevirtual 106, 3) := by decide +kernel
theorem dX3_push_156 : decode cX3_push 156 = .ok (.aload_n 0, 1) := by decide +kernel
theorem dX3_push_157 : decode cX3_push 157 = .ok (.getfield 32, 3) := by decide +kernel
theorem dX3_push_160 : decode cX3_push 160 = .ok (.bipush 96, 2) := by decide +kernel
theorem dX3_push_162 : decode cX3_push 162 = .ok (.iload_n 1, 1) := by decide +kernel
theorem dX3_push_163 : decode cX3_push 163 = .ok (.imul, 1) := by decide +kernel
theorem dX3_push_164 : decode cX3_push 164 = .ok (.aload_n 0, 1) := by decide +kernel
theorem dX3_push_165 : decode cX3_push 165 = .ok (.getfield 22, 3) := by decide +kernel
theorem dX3_push_168 : decode cX3_push 168 = .ok (.iload_n 1, 1) := by decide +kernel
theorem dX3_push_169 : decode cX3_push 169 = .ok (.iaload, 1) := by decide +kernel
theorem dX3_push_170 : decode cX3_push 170 = .ok (.iadd, 1) := by decide +kernel
theorem dX3_push_171 : decode cX3_push 171 = .ok (.iload_n 2, 1) := by decide +kernel
theorem dX3_push_172 : decode cX3_push 172 = .ok (.iastore, 1) := by decide +kernel
theorem dX3_push_173 : decode cX3_push 173 = .ok (.aload_n 0, 1) := by decide +kernel
theorem dX3_push_174 : decode cX3_push 174 = .ok (.getfield 35, 3) := by decide +kernel
theorem dX3_push_177 : decode cX3_push 177 = .ok (.bipush 96, 2) := by decide +kernel
theorem dX3_push_179 : decode cX3_push 179 = .ok (.iload_n 1, 1) := by decide +kernel
theorem dX3_push_180 : decode cX3_push 180 = .ok (.imul, 1) := by decide +kernel
theorem dX3_push_181 : decode cX3_push 181 = .ok (.aload_n 0, 1) := by decide +kernel
theorem dX3_push_182 : decode cX3_push 182 = .ok (.getfield 22, 3) := by decide +kernel
theorem dX3_push_185 : decode cX3_push 185 = .ok (.iload_n 1, 1) := by decide +kernel
theorem dX3_push_186 : decode cX3_push 186 = .ok (.iaload, 1) := by decide +kernel
theorem dX3_push_187 : decode cX3_push 187 = .ok (.iadd, 1) := by decide +kernel
theorem dX3_push_188 : decode cX3_push 188 = .ok (.iload_n 3, 1) := by decide +kernel
theorem dX3_push_189 : decode cX3_push 189 = .ok (.iastore, 1) := by decide +kernel
theorem dX3_push_190 : decode cX3_push 190 = .ok (.aload_n 0, 1) := by decide +kernel
theorem dX3_push_191 : decode cX3_push 191 = .ok (.getfield 22, 3) := by decide +kernel
theorem dX3_push_194 : decode cX3_push 194 = .ok (.iload_n 1, 1) := by decide +kernel
theorem dX3_push_195 : decode cX3_push 195 = .ok (.dup2, 1) := by decide +kernel
theorem dX3_push_196 : decode cX3_push 196 = .ok (.iaload, 1) := by decide +kernel
theorem dX3_push_197 : decode cX3_push 197 = .ok (.iconst 1, 1) := by decide +kernel
theorem dX3_push_198 : decode cX3_push 198 = .ok (.iadd, 1) := by decide +kernel
theorem dX3_push_199 : decode cX3_push 199 = .ok (.iastore, 1) := by decide +kernel
theorem dX3_push_200 : decode cX3_push 200 = .ok (.aload_n 0, 1) := by decide +kernel
theorem dX3_push_201 : decode cX3_push 201 = .ok (.getfield 38, 3) := by decide +kernel
theorem dX3_push_204 : decode cX3_push 204 = .ok (.iload_n 1, 1) := by decide +kernel
theorem dX3_push_205 : decode cX3_push 205 = .ok (.dup2, 1) := by decide +kernel
theorem dX3_push_206 : decode cX3_push 206 = .ok (.iaload, 1) := by decide +kernel
theorem dX3_push_207 : decode cX3_push 207 = .ok (.iconst 1, 1) := by decide +kernel
theorem dX3_push_208 : decode cX3_push 208 = .ok (.iadd, 1) := by decide +kernel
theorem dX3_push_209 : decode cX3_push 209 = .ok (.iastore, 1) := by decide +kernel
theorem dX3_push_210 : decode cX3_push 210 = .ok (.aload_n 0, 1) := by decide +kernel
theorem dX3_push_211 : decode cX3_push 211 = .ok (.getfield 22, 3) := by decide +kernel
theorem dX3_push_214 : decode cX3_push 214 = .ok (.iload_n 1, 1) := by decide +kernel
theorem dX3_push_215 : decode cX3_push 215 = .ok (.iaload, 1) := by decide +kernel
theorem dX3_push_216 : decode cX3_push 216 = .ok (.iconst 1, 1) := by decide +kernel
theorem dX3_push_217 : decode cX3_push 217 = .ok (.if_icmp .ne 15, 3) := by decide +kernel
theorem dX3_push_220 : decode cX3_push 220 = .ok (.aload_n 0, 1) := by decide +kernel
theorem dX3_push_221 : decode cX3_push 221 = .ok (.getfield 25, 3) := by decide +kernel
theorem dX3_push_224 : decode cX3_push 224 = .ok (.iload_n 1, 1) := by decide +kernel
theorem dX3_push_225 : decode cX3_push 225 = .ok (.iconst 0, 1) := by decide +kernel
theorem dX3_push_226 : decode cX3_push 226 = .ok (.iastore, 1) := by decide +kernel
theorem dX3_push_227 : decode cX3_push 227 = .ok (.aload_n 0, 1) := by decide +kernel
theorem dX3_push_228 : decode cX3_push 228 = .ok (.iload_n 1, 1) := by decide +kernel
theorem dX3_push_229 : decode cX3_push 229 = .ok (.invokevirtual 85, 3) := by decide +kernel
theorem dX3_push_232 : decode cX3_push 232 = .ok (.iload 4, 2) := by decide +kernel
theorem dX3_push_234 : decode cX3_push 234 = .ok (.ireturn, 1) := by decide +kernel
theorem dX3_find_0 : decode cX3_find 0 = .ok (.iconst 0, 1) := by decide +kernel
theorem dX3_find_1 : decode cX3_find 1 = .ok (.istore_n 1, 1) := by decide +kernel
theorem dX3_find_2 : decode cX3_find 2 = .ok (.iload_n 1, 1) := by decide +kernel
theorem dX3_find_3 : decode cX3_find 3 = .ok (.iconst 4, 1) := by decide +kernel
theorem dX3_find_4 : decode cX3_find 4 = .ok (.if_icmp .ge 18, 3) := by decide +kernel
theorem dX3_find_7 : decode cX3_find 7 = .ok (.aload_n 0, 1) := by decide +kernel
theorem dX3_find_8 : decode cX3_find 8 = .ok (.getfield 53, 3) := by decide +kernel
theorem dX3_find_11 : decode cX3_find 11 = .ok (.iload_n 1, 1) := by decide +kernel
theorem dX3_find_12 : decode cX3_find 12 = .ok (.iaload, 1) := by decide +kernel
theorem dX3_find_13 : decode cX3_find 13 = .ok (.ifCond .ne 9, 3) := by decide +kernel
theorem dX3_find_16 : decode cX3_find 16 = .ok (.iinc 1 1, 3) := by decide +kernel
theorem dX3_find_19 : decode cX3_find 19 = .ok (.goto (-17), 3) := by decide +kernel
theorem dX3_find_22 : decode cX3_find 22 = .ok (.iload_n 1, 1) := by decide +kernel
theorem dX3_find_23 : decode cX3_find 23 = .ok (.iconst 4, 1) := by decide +kernel
theorem dX3_find_24 : decode cX3_find 24 = .ok (.if_icmp .ne 5, 3) := by decide +kernel
theorem dX3_find_27 : decode cX3_find 27 = .ok (.iconst (-1), 1) := by decide +kernel
theorem dX3_find_28 : decode cX3_find 28 = .ok (.ireturn, 1) := by decide +kernel
theorem dX3_find_29 : decode cX3_find 29 = .ok (.aload_n 0, 1) := by decide +kernel
theorem dX3_find_30 : decode cX3_find 30 = .ok (.getfield 50, 3) := by decide +kernel
theorem dX3_find_33 : decode cX3_find 33 = .ok (.bipush 12, 2) := by decide +kernel
theorem dX3_find_35 : decode cX3_find 35 = .ok (.iload_n 1, 1) := by decide +kernel
theorem dX3_find_36 : decode cX3_find 36 = .ok (.imul, 1) := by decide +kernel
theorem dX3_find_37 : decode cX3_find 37 = .ok (.iaload, 1) := by decide +kernel
theorem dX3_find_38 : decode cX3_find 38 = .ok (.istore_n 2, 1) := by decide +kernel
theorem dX3_find_39 : decode cX3_find 39 = .ok (.aload_n 0, 1) := by decide +kernel
theorem dX3_find_40 : decode cX3_find 40 = .ok (.getfield 28, 3) := by decide +kernel
theorem dX3_find_43 : decode cX3_find 43 = .ok (.iload_n 2, 1) := by decide +kernel
theorem dX3_find_44 : decode cX3_find 44 = .ok (.baload, 1) := by decide +kernel
theorem dX3_find_45 : decode cX3_find 45 = .ok (.ifCond .ne 29, 3) := by decide +kernel
theorem dX3_find_48 : decode cX3_find 48 = .ok (.aload_n 0, 1) := by decide +kernel
theorem dX3_find_49 : decode cX3_find 49 = .ok (.getfield 28, 3) := by decide +kernel
theorem dX3_find_52 : decode cX3_find 52 = .ok (.iload_n 2, 1) := by decide +kernel
theorem dX3_find_53 : decode cX3_find 53 = .ok (.iconst 1, 1) := by decide +kernel
theorem dX3_find_54 : decode cX3_find 54 = .ok (.bastore, 1) := by decide +kernel
theorem dX3_find_55 : decode cX3_find 55 = .ok (.aload_n 0, 1) := by decide +kernel
theorem dX3_find_56 : decode cX3_find 56 = .ok (.getfield 25, 3) := by decide +kernel
end
section
theorem dX3_find_59 : decode cX3_find 59 = .ok (.iload_n 2, 1) := by decide +kernel
theorem dX3_find_60 : decode cX3_find 60 = .ok (.aload_n 0, 1) := by decide +kernel
theorem dX3_find_61 : decode cX3_find 61 = .ok (.getfield 25, 3) := by decide +kernel
theorem dX3_find_64 : decode cX3_find 64 = .ok (.iload_n 2, 1) := by decide +kernel
theorem dX3_find_65 : decode cX3_find 65 = .ok (.iaload, 1) := by decide +kernel
theorem dX3_find_66 : decode cX3_find 66 = .ok (.aload_n 0, 1) := by decide +kernel
theorem dX3_find_67 : decode cX3_find 67 = .ok (.getfield 13, 3) := by decide +kernel
theorem dX3_find_70 : decode cX3_find 70 = .ok (.iload_n 2, 1) := by decide +kernel
theorem dX3_find_71 : decode cX3_find 71 = .ok (.iaload, 1) := by decide +kernel
theorem dX3_find_72 : decode cX3_find 72 = .ok (.iadd, 1) := by decide +kernel
theorem dX3_find_73 : decode cX3_find 73 = .ok (.iastore, 1) := by decide +kernel
theorem dX3_find_74 : decode cX3_find 74 = .ok (.aload_n 0, 1) := by decide +kernel
theorem dX3_find_75 : decode cX3_find 75 = .ok (.getfield 35, 3) := by decide +kernel
theorem dX3_find_78 : decode cX3_find 78 = .ok (.bipush 96, 2) := by decide +kernel
theorem dX3_find_80 : decode cX3_find 80 = .ok (.iload_n 2, 1) := by decide +kernel
theorem dX3_find_81 : decode cX3_find 81 = .ok (.imul, 1) := by decide +kernel
theorem dX3_find_82 : decode cX3_find 82 = .ok (.iaload, 1) := by decide +kernel
theorem dX3_find_83 : decode cX3_find 83 = .ok (.aload_n 0, 1) := by decide +kernel
theorem dX3_find_84 : decode cX3_find 84 = .ok (.getfield 25, 3) := by decide +kernel
theorem dX3_find_87 : decode cX3_find 87 = .ok (.iload_n 2, 1) := by decide +kernel
theorem dX3_find_88 : decode cX3_find 88 = .ok (.iaload, 1) := by decide +kernel
theorem dX3_find_89 : decode cX3_find 89 = .ok (.if_icmp .gt 5, 3) := by decide +kernel
theorem dX3_find_92 : decode cX3_find 92 = .ok (.iload_n 2, 1) := by decide +kernel
theorem dX3_find_93 : decode cX3_find 93 = .ok (.ireturn, 1) := by decide +kernel
theorem dX3_find_94 : decode cX3_find 94 = .ok (.aload_n 0, 1) := by decide +kernel
theorem dX3_find_95 : decode cX3_find 95 = .ok (.getfield 28, 3) := by decide +kernel
theorem dX3_find_98 : decode cX3_find 98 = .ok (.iload_n 2, 1) := by decide +kernel
theorem dX3_find_99 : decode cX3_find 99 = .ok (.iconst 0, 1) := by decide +kernel
theorem dX3_find_100 : decode cX3_find 100 = .ok (.bastore, 1) := by decide +kernel
theorem dX3_find_101 : decode cX3_find 101 = .ok (.iconst 1, 1) := by decide +kernel
theorem dX3_find_102 : decode cX3_find 102 = .ok (.istore_n 3, 1) := by decide +kernel
theorem dX3_find_103 : decode cX3_find 103 = .ok (.iload_n 3, 1) := by decide +kernel
theorem dX3_find_104 : decode cX3_find 104 = .ok (.aload_n 0, 1) := by decide +kernel
theorem dX3_find_105 : decode cX3_find 105 = .ok (.getfield 53, 3) := by decide +kernel
theorem dX3_find_108 : decode cX3_find 108 = .ok (.iload_n 1, 1) := by decide +kernel
theorem dX3_find_109 : decode cX3_find 109 = .ok (.iaload, 1) := by decide +kernel
theorem dX3_find_110 : decode cX3_find 110 = .ok (.if_icmp .ge 33, 3) := by decide +kernel
theorem dX3_find_113 : decode cX3_find 113 = .ok (.aload_n 0, 1) := by decide +kernel
theorem dX3_find_114 : decode cX3_find 114 = .ok (.getfield 50, 3) := by decide +kernel
theorem dX3_find_117 : decode cX3_find 117 = .ok (.bipush 12, 2) := by decide +kernel
theorem dX3_find_119 : decode cX3_find 119 = .ok (.iload_n 1, 1) := by decide +kernel
theorem dX3_find_120 : decode cX3_find 120 = .ok (.imul, 1) := by decide +kernel
theorem dX3_find_121 : decode cX3_find 121 = .ok (.iload_n 3, 1) := by decide +kernel
theorem dX3_find_122 : decode cX3_find 122 = .ok (.iadd, 1) := by decide +kernel
theorem dX3_find_123 : decode cX3_find 123 = .ok (.iconst 1, 1) := by decide +kernel
theorem dX3_find_124 : decode cX3_find 124 = .ok (.isub, 1) := by decide +kernel
theorem dX3_find_125 : decode cX3_find 125 = .ok (.aload_n 0, 1) := by decide +kernel
theorem dX3_find_126 : decode cX3_find 126 = .ok (.getfield 50, 3) := by decide +kernel
theorem dX3_find_129 : decode cX3_find 129 = .ok (.bipush 12, 2) := by decide +kernel
theorem dX3_find_131 : decode cX3_find 131 = .ok (.iload_n 1, 1) := by decide +kernel
theorem dX3_find_132 : decode cX3_find 132 = .ok (.imul, 1) := by decide +kernel
theorem dX3_find_133 : decode cX3_find 133 = .ok (.iload_n 3, 1) := by decide +kernel
theorem dX3_find_134 : decode cX3_find 134 = .ok (.iadd, 1) := by decide +kernel
theorem dX3_find_135 : decode cX3_find 135 = .ok (.iaload, 1) := by decide +kernel
theorem dX3_find_136 : decode cX3_find 136 = .ok (.iastore, 1) := by decide +kernel
theorem dX3_find_137 : decode cX3_find 137 = .ok (.iinc 3 1, 3) := by decide +kernel
theorem dX3_find_140 : decode cX3_find 140 = .ok (.goto (-37), 3) := by decide +kernel
theorem dX3_find_143 : decode cX3_find 143 = .ok (.aload_n 0, 1) := by decide +kernel
theorem dX3_find_144 : decode cX3_find 144 = .ok (.getfield 50, 3) := by decide +kernel
theorem dX3_find_147 : decode cX3_find 147 = .ok (.bipush 12, 2) := by decide +kernel
theorem dX3_find_149 : decode cX3_find 149 = .ok (.iload_n 1, 1) := by decide +kernel
theorem dX3_find_150 : decode cX3_find 150 = .ok (.imul, 1) := by decide +kernel
theorem dX3_find_151 : decode cX3_find 151 = .ok (.aload_n 0, 1) := by decide +kernel
theorem dX3_find_152 : decode cX3_find 152 = .ok (.getfield 53, 3) := by decide +kernel
theorem dX3_find_155 : decode cX3_find 155 = .ok (.iload_n 1, 1) := by decide +kernel
theorem dX3_find_156 : decode cX3_find 156 = .ok (.iaload, 1) := by decide +kernel
theorem dX3_find_157 : decode cX3_find 157 = .ok (.iadd, 1) := by decide +kernel
theorem dX3_find_158 : decode cX3_find 158 = .ok (.iconst 1, 1) := by decide +kernel
theorem dX3_find_159 : decode cX3_find 159 = .ok (.isub, 1) := by decide +kernel
theorem dX3_find_160 : decode cX3_find 160 = .ok (.iload_n 2, 1) := by decide +kernel
theorem dX3_find_161 : decode cX3_find 161 = .ok (.iastore, 1) := by decide +kernel
theorem dX3_find_162 : decode cX3_find 162 = .ok (.goto (-133), 3) := by decide +kernel
theorem dX3_keepTurns_0 : decode cX3_keepTurns 0 = .ok (.iconst 0, 1) := by decide +kernel
theorem dX3_keepTurns_1 : decode cX3_keepTurns 1 = .ok (.istore_n 1, 1) := by decide +kernel
theorem dX3_keepTurns_2 : decode cX3_keepTurns 2 = .ok (.iload_n 1, 1) := by decide +kernel
theorem dX3_keepTurns_3 : decode cX3_keepTurns 3 = .ok (.bipush 12, 2) := by decide +kernel
theorem dX3_keepTurns_5 : decode cX3_keepTurns 5 = .ok (.if_icmp .ge 33, 3) := by decide +kernel
theorem dX3_keepTurns_8 : decode cX3_keepTurns 8 = .ok (.aload_n 0, 1) := by decide +kernel
theorem dX3_keepTurns_9 : decode cX3_keepTurns 9 = .ok (.getfield 56, 3) := by decide +kernel
theorem dX3_keepTurns_12 : decode cX3_keepTurns 12 = .ok (.iload_n 1, 1) := by decide +kernel
theorem dX3_keepTurns_13 : decode cX3_keepTurns 13 = .ok (.aload_n 0, 1) := by decide +kernel
theorem dX3_keepTurns_14 : decode cX3_keepTurns 14 = .ok (.getfield 25, 3) := by decide +kernel
theorem dX3_keepTurns_17 : decode cX3_keepTurns 17 = .ok (.iload_n 1, 1) := by decide +kernel
theorem dX3_keepTurns_18 : decode cX3_keepTurns 18 = .ok (.iaload, 1) := by decide +kernel
theorem dX3_keepTurns_19 : decode cX3_keepTurns 19 = .ok (.iastore, 1) := by decide +kernel
theorem dX3_keepTurns_20 : decode cX3_keepTurns 20 = .ok (.aload_n 0, 1) := by decide +kernel
theorem dX3_keepTurns_21 : decode cX3_keepTurns 21 = .ok (.getfield 59, 3) := by decide +kernel
theorem dX3_keepTurns_24 : decode cX3_keepTurns 24 = .ok (.iload_n 1, 1) := by decide +kernel
theorem dX3_keepTurns_25 : decode cX3_keepTurns 25 = .ok (.aload_n 0, 1) := by decide +kernel
theorem dX3_keepTurns_26 : decode cX3_keepTurns 26 = .ok (.getfield 28, 3) := by decide +kernel
theorem dX3_keepTurns_29 : decode cX3_keepTurns 29 = .ok (.iload_n 1, 1) := by decide +kernel
theorem dX3_keepTurns_30 : decode cX3_keepTurns 30 = .ok (.baload, 1) := by decide +kernel
theorem dX3_keepTurns_31 : decode cX3_keepTurns 31 = .ok (.bastore, 1) := by decide +kernel
theorem dX3_keepTurns_32 : decode cX3_keepTurns 32 = .ok (.iinc 1 1, 3) := by decide +kernel
theorem dX3_keepTurns_35 : decode cX3_keepTurns 35 = .ok (.goto (-33), 3) := by decide +kernel
theorem dX3_keepTurns_38 : decode cX3_keepTurns 38 = .ok (.iconst 0, 1) := by decide +kernel
theorem dX3_keepTurns_39 : decode cX3_keepTurns 39 = .ok (.istore_n 1, 1) := by decide +kernel
theorem dX3_keepTurns_40 : decode cX3_keepTurns 40 = .ok (.iload_n 1, 1) := by decide +kernel
theorem dX3_keepTurns_41 : decode cX3_keepTurns 41 = .ok (.bipush 48, 2) := by decide +kernel
theorem dX3_keepTurns_43 : decode cX3_keepTurns 43 = .ok (.if_icmp .ge 21, 3) := by decide +kernel
theorem dX3_keepTurns_46 : decode cX3_keepTurns 46 = .ok (.aload_n 0, 1) := by decide +kernel
theorem dX3_keepTurns_47 : decode cX3_keepTurns 47 = .ok (.getfield 62, 3) := by decide +kernel
theorem dX3_keepTurns_50 : decode cX3_keepTurns 50 = .ok (.iload_n 1, 1) := by decide +kernel
theorem dX3_keepTurns_51 : decode cX3_keepTurns 51 = .ok (.aload_n 0, 1) := by decide +kernel
theorem dX3_keepTurns_52 : decode cX3_keepTurns 52 = .ok (.getfield 50, 3) := by decide +kernel
theorem dX3_keepTurns_55 : decode cX3_keepTurns 55 = .ok (.iload_n 1, 1) := by decide +kernel
theorem dX3_keepTurns_56 : decode cX3_keepTurns 56 = .ok (.iaload, 1) := by decide +kernel
theorem dX3_keepTurns_57 : decode cX3_keepTurns 57 = .ok (.iastore, 1) := by decide +kernel
theorem dX3_keepTurns_58 : decode cX3_keepTurns 58 = .ok (.iinc 1 1, 3) := by decide +kernel
theorem dX3_keepTurns_61 : decode cX3_keepTurns 61 = .ok (.goto (-21), 3) := by decide +kernel
theorem dX3_keepTurns_64 : decode cX3_keepTurns 64 = .ok (.return_, 1) := by decide +kernel
theorem dX3_turnBack_0 : decode cX3_turnBack 0 = .ok (.iconst 0, 1) := by decide +kernel
theorem dX3_turnBack_1 : decode cX3_turnBack 1 = .ok (.istore_n 1, 1) := by decide +kernel
theorem dX3_turnBack_2 : decode cX3_turnBack 2 = .ok (.iload_n 1, 1) := by decide +kernel
theorem dX3_turnBack_3 : decode cX3_turnBack 3 = .ok (.bipush 12, 2) := by decide +kernel
theorem dX3_turnBack_5 : decode cX3_turnBack 5 = .ok (.if_icmp .ge 33, 3) := by decide +kernel
theorem dX3_turnBack_8 : decode cX3_turnBack 8 = .ok (.aload_n 0, 1) := by decide +kernel
theorem dX3_turnBack_9 : decode cX3_turnBack 9 = .ok (.getfield 25, 3) := by decide +kernel
theorem dX3_turnBack_12 : decode cX3_turnBack 12 = .ok (.iload_n 1, 1) := by decide +kernel
theorem dX3_turnBack_13 : decode cX3_turnBack 13 = .ok (.aload_n 0, 1) := by decide +kernel
theorem dX3_turnBack_14 : decode cX3_turnBack 14 = .ok (.getfield 56, 3) := by decide +kernel
theorem dX3_turnBack_17 : decode cX3_turnBack 17 = .ok (.iload_n 1, 1) := by decide +kernel
theorem dX3_turnBack_18 : decode cX3_turnBack 18 = .ok (.iaload, 1) := by decide +kernel
theorem dX3_turnBack_19 : decode cX3_turnBack 19 = .ok (.iastore, 1) := by decide +kernel
theorem dX3_turnBack_20 : decode cX3_turnBack 20 = .ok (.aload_n 0, 1) := by decide +kernel
theorem dX3_turnBack_21 : decode cX3_turnBack 21 = .ok (.getfield 28, 3) := by decide +kernel
theorem dX3_turnBack_24 : decode cX3_turnBack 24 = .ok (.iload_n 1, 1) := by decide +kernel
theorem dX3_turnBack_25 : decode cX3_turnBack 25 = .ok (.aload_n 0, 1) := by decide +kernel
theorem dX3_turnBack_26 : decode cX3_turnBack 26 = .ok (.getfield 59, 3) := by decide +kernel
theorem dX3_turnBack_29 : decode cX3_turnBack 29 = .ok (.iload_n 1, 1) := by decide +kernel
theorem dX3_turnBack_30 : decode cX3_turnBack 30 = .ok (.baload, 1) := by decide +kernel
theorem dX3_turnBack_31 : decode cX3_turnBack 31 = .ok (.bastore, 1) := by decide +kernel
theorem dX3_turnBack_32 : decode cX3_turnBack 32 = .ok (.iinc 1 1, 3) := by decide +kernel
theorem dX3_turnBack_35 : decode cX3_turnBack 35 = .ok (.goto (-33), 3) := by decide +kernel
theorem dX3_turnBack_38 : decode cX3_turnBack 38 = .ok (.iconst 0, 1) := by decide +kernel
theorem dX3_turnBack_39 : decode cX3_turnBack 39 = .ok (.istore_n 1, 1) := by decide +kernel
theorem dX3_turnBack_40 : decode cX3_turnBack 40 = .ok (.iload_n 1, 1) := by decide +kernel
theorem dX3_turnBack_41 : decode cX3_turnBack 41 = .ok (.bipush 48, 2) := by decide +kernel
theorem dX3_turnBack_43 : decode cX3_turnBack 43 = .ok (.if_icmp .ge 21, 3) := by decide +kernel
theorem dX3_turnBack_46 : decode cX3_turnBack 46 = .ok (.aload_n 0, 1) := by decide +kernel
theorem dX3_turnBack_47 : decode cX3_turnBack 47 = .ok (.getfield 50, 3) := by decide +kernel
theorem dX3_turnBack_50 : decode cX3_turnBack 50 = .ok (.iload_n 1, 1) := by decide +kernel
theorem dX3_turnBack_51 : decode cX3_turnBack 51 = .ok (.aload_n 0, 1) := by decide +kernel
theorem dX3_turnBack_52 : decode cX3_turnBack 52 = .ok (.getfield 62, 3) := by decide +kernel
theorem dX3_turnBack_55 : decode cX3_turnBack 55 = .ok (.iload_n 1, 1) := by decide +kernel
theorem dX3_turnBack_56 : decode cX3_turnBack 56 = .ok (.iaload, 1) := by decide +kernel
theorem dX3_turnBack_57 : decode cX3_turnBack 57 = .ok (.iastore, 1) := by decide +kernel
theorem dX3_turnBack_58 : decode cX3_turnBack 58 = .ok (.iinc 1 1, 3) := by decide +kernel
theorem dX3_turnBack_61 : decode cX3_turnBack 61 = .ok (.goto (-21), 3) := by decide +kernel
theorem dX3_turnBack_64 : decode cX3_turnBack 64 = .ok (.return_, 1) := by decide +kernel
set_option maxRecDepth 20000 in
theorem ggX3_take_X3_settle : GoodIn wsX3_take wsX3_settle := goodIn_r _ [12, 7, 4, 13, 14, 15, 11, 16, 17, 18, 19, 20, 21, 22, 23, 24, 25, 26, 27, 28, 29, 30, 31, 32, 33, 34, 35, 36, 37, 38, 39, 40, 41, 42, 43, 44, 45, 46] (by decide +kernel) (by decide +kernel)
set_option maxRecDepth 20000 in
theorem gX3_take_X3_settle : GoodIn wsX3_take (wsV RX3 106 RX3 yX3_settle wsX3_settle) := goodIn_app (goodIn_of _ (by decide +kernel)) ggX3_take_X3_settle
theorem dX3_take_0 : decode cX3_take 0 = .ok (.aload_n 0, 1) := by decide +kernel
theorem dX3_take_1 : decode cX3_take 1 = .ok (.getfield 35, 3) := by decide +kernel
theorem dX3_take_4 : decode cX3_take 4 = .ok (.bipush 96, 2) := by decide +kernel
theorem dX3_take_6 : decode cX3_take 6 = .ok (.iload_n 1, 1) := by decide +kernel
theorem dX3_take_7 : decode cX3_take 7 = .ok (.imul, 1) := by decide +kernel
theorem dX3_take_8 : decode cX3_take 8 = .ok (.iaload, 1) := by decide +kernel
theorem dX3_take_9 : decode cX3_take 9 = .ok (.istore_n 2, 1) := by decide +kernel
theorem dX3_take_10 : decode cX3_take 10 = .ok (.aload_n 0, 1) := by decide +kernel
theorem dX3_take_11 : decode cX3_take 11 = .ok (.aload_n 0, 1) := by decide +kernel
theorem dX3_take_12 : decode cX3_take 12 = .ok (.getfield 32, 3) := by decide +kernel
theorem dX3_take_15 : decode cX3_take 15 = .ok (.bipush 96, 2) := by decide +kernel
theorem dX3_take_17 : decode cX3_take 17 = .ok (.iload_n 1, 1) := by decide +kernel
theorem dX3_take_18 : decode cX3_take 18 = .ok (.imul, 1) := by decide +kernel
theorem dX3_take_19 : decode cX3_take 19 = .ok (.iaload, 1) := by decide +kernel
theorem dX3_take_20 : decode cX3_take 20 = .ok (.putfield 109, 3) := by decide +kernel
theorem dX3_take_23 : decode cX3_take 23 = .ok (.aload_n 0, 1) := by decide +kernel
theorem dX3_take_24 : decode cX3_take 24 = .ok (.getfield 25, 3) := by decide +kernel
theorem dX3_take_27 : decode cX3_take 27 = .ok (.iload_n 1, 1) := by decide +kernel
theorem dX3_take_28 : decode cX3_take 28 = .ok (.aload_n 0, 1) := by decide +kernel
theorem dX3_take_29 : decode cX3_take 29 = .ok (.getfield 25, 3) := by decide +kernel
theorem dX3_take_32 : decode cX3_take 32 = .ok (.iload_n 1, 1) := by decide +kernel
theorem dX3_take_33 : decode cX3_take 33 = .ok (.iaload, 1) := by decide +kernel
theorem dX3_take_34 : decode cX3_take 34 = .ok (.iload_n 2, 1) := by decide +kernel
theorem dX3_take_35 : decode cX3_take 35 = .ok (.isub, 1) := by decide +kernel
theorem dX3_take_36 : decode cX3_take 36 = .ok (.iastore, 1) := by decide +kernel
theorem dX3_take_37 : decode cX3_take 37 = .ok (.aload_n 0, 1) := by decide +kernel
theorem dX3_take_38 : decode cX3_take 38 = .ok (.getfield 44, 3) := by decide +kernel
theorem dX3_take_41 : decode cX3_take 41 = .ok (.iload_n 1, 1) := by decide +kernel
theorem dX3_take_42 : decode cX3_take 42 = .ok (.dup2, 1) := by decide +kernel
theorem dX3_take_43 : decode cX3_take 43 = .ok (.iaload, 1) := by decide +kernel
theorem dX3_take_44 : decode cX3_take 44 = .ok (.iconst 1, 1) := by decide +kernel
theorem dX3_take_45 : decode cX3_take 45 = .ok (.iadd, 1) := by decide +kernel
theorem dX3_take_46 : decode cX3_take 46 = .ok (.iastore, 1) := by decide +kernel
theorem dX3_take_47 : decode cX3_take 47 = .ok (.aload_n 0, 1) := by decide +kernel
theorem dX3_take_48 : decode cX3_take 48 = .ok (.getfield 47, 3) := by decide +kernel
theorem dX3_take_51 : decode cX3_take 51 = .ok (.iload_n 1, 1) := by decide +kernel
theorem dX3_take_52 : decode cX3_take 52 = .ok (.aload_n 0, 1) := by decide +kernel
theorem dX3_take_53 : decode cX3_take 53 = .ok (.getfield 47, 3) := by decide +kernel
theorem dX3_take_56 : decode cX3_take 56 = .ok (.iload_n 1, 1) := by decide +kernel
theorem dX3_take_57 : decode cX3_take 57 = .ok (.iaload, 1) := by decide +kernel
theorem dX3_take_58 : decode cX3_take 58 = .ok (.iload_n 2, 1) := by decide +kernel
theorem dX3_take_59 : decode cX3_take 59 = .ok (.iadd, 1) := by decide +kernel
theorem dX3_take_60 : decode cX3_take 60 = .ok (.iastore, 1) := by decide +kernel
theorem dX3_take_61 : decode cX3_take 61 = .ok (.aload_n 0, 1) := by decide +kernel
theorem dX3_take_62 : decode cX3_take 62 = .ok (.getfield 22, 3) := by decide +kernel
theorem dX3_take_65 : decode cX3_take 65 = .ok (.iload_n 1, 1) := by decide +kernel
theorem dX3_take_66 : decode cX3_take 66 = .ok (.dup2, 1) := by decide +kernel
theorem dX3_take_67 : decode cX3_take 67 = .ok (.iaload, 1) := by decide +kernel
theorem dX3_take_68 : decode cX3_take 68 = .ok (.iconst 1, 1) := by decide +kernel
theorem dX3_take_69 : decode cX3_take 69 = .ok (.isub, 1) := by decide +kernel
theorem dX3_take_70 : decode cX3_take 70 = .ok (.iastore, 1) := by decide +kernel
theorem dX3_take_71 : decode cX3_take 71 = .ok (.iconst 0, 1) := by decide +kernel
theorem dX3_take_72 : decode cX3_take 72 = .ok (.istore_n 3, 1) := by decide +kernel
theorem dX3_take_73 : decode cX3_take 73 = .ok (.iload_n 3, 1) := by decide +kernel
theorem dX3_take_74 : decode cX3_take 74 = .ok (.aload_n 0, 1) := by decide +kernel
theorem dX3_take_75 : decode cX3_take 75 = .ok (.getfield 22, 3) := by decide +kernel
theorem dX3_take_78 : decode cX3_take 78 = .ok (.iload_n 1, 1) := by decide +kernel
theorem dX3_take_79 : decode cX3_take 79 = .ok (.iaload, 1) := by decide +kernel
theorem dX3_take_80 : decode cX3_take 80 = .ok (.if_icmp .ge 57, 3) := by decide +kernel
theorem dX3_take_83 : decode cX3_take 83 = .ok (.aload_n 0, 1) := by decide +kernel
theorem dX3_take_84 : decode cX3_take 84 = .ok (.getfield 32, 3) := by decide +kernel
theorem dX3_take_87 : decode cX3_take 87 = .ok (.bipush 96, 2) := by decide +kernel
theorem dX3_take_89 : decode cX3_take 89 = .ok (.iload_n 1, 1) := by decide +kernel
theorem dX3_take_90 : decode cX3_take 90 = .ok (.imul, 1) := by decide +kernel
theorem dX3_take_91 : decode cX3_take 91 = .ok (.iload_n 3, 1) := by decide +kernel
theorem dX3_take_92 : decode cX3_take 92 = .ok (.iadd, 1) := by decide +kernel
theorem dX3_take_93 : decode cX3_take 93 = .ok (.aload_n 0, 1) := by decide +kernel
theorem dX3_take_94 : decode cX3_take 94 = .ok (.getfield 32, 3) := by decide +kernel
theorem dX3_take_97 : decode cX3_take 97 = .ok (.bipush 96, 2) := by decide +kernel
theorem dX3_take_99 : decode cX3_take 99 = .ok (.iload_n 1, 1) := by decide +kernel
theorem dX3_take_100 : decode cX3_take 100 = .ok (.imul, 1) := by decide +kernel
theorem dX3_take_101 : decode cX3_take 101 = .ok (.iload_n 3, 1) := by decide +kernel
theorem dX3_take_102 : decode cX3_take 102 = .ok (.iadd, 1) := by decide +kernel
theorem dX3_take_103 : decode cX3_take 103 = .ok (.iconst 1, 1) := by decide +kernel
theorem dX3_take_104 : decode cX3_take 104 = .ok (.iadd, 1) := by decide +kernel
theorem dX3_take_105 : decode cX3_take 105 = .ok (.iaload, 1) := by decide +kernel
theorem dX3_take_106 : decode cX3_take 106 = .ok (.iastore, 1) := by decide +kernel
theorem dX3_take_107 : decode cX3_take 107 = .ok (.aload_n 0, 1) := by decide +kernel
theorem dX3_take_108 : decode cX3_take 108 = .ok (.getfield 35, 3) := by decide +kernel
theorem dX3_take_111 : decode cX3_take 111 = .ok (.bipush 96, 2) := by decide +kernel
theorem dX3_take_113 : decode cX3_take 113 = .ok (.iload_n 1, 1) := by decide +kernel
theorem dX3_take_114 : decode cX3_take 114 = .ok (.imul, 1) := by decide +kernel
theorem dX3_take_115 : decode cX3_take 115 = .ok (.iload_n 3, 1) := by decide +kernel
theorem dX3_take_116 : decode cX3_take 116 = .ok (.iadd, 1) := by decide +kernel
theorem dX3_take_117 : decode cX3_take 117 = .ok (.aload_n 0, 1) := by decide +kernel
theorem dX3_take_118 : decode cX3_take 118 = .ok (.getfield 35, 3) := by decide +kernel
theorem dX3_take_121 : decode cX3_take 121 = .ok (.bipush 96, 2) := by decide +kernel
theorem dX3_take_123 : decode cX3_take 123 = .ok (.iload_n 1, 1) := by decide +kernel
theorem dX3_take_124 : decode cX3_take 124 = .ok (.imul, 1) := by decide +kernel
theorem dX3_take_125 : decode cX3_take 125 = .ok (.iload_n 3, 1) := by decide +kernel
theorem dX3_take_126 : decode cX3_take 126 = .ok (.iadd, 1) := by decide +kernel
theorem dX3_take_127 : decode cX3_take 127 = .ok (.iconst 1, 1) := by decide +kernel
theorem dX3_take_128 : decode cX3_take 128 = .ok (.iadd, 1) := by decide +kernel
theorem dX3_take_129 : decode cX3_take 129 = .ok (.iaload, 1) := by decide +kernel
theorem dX3_take_130 : decode cX3_take 130 = .ok (.iastore, 1) := by decide +kernel
theorem dX3_take_131 : decode cX3_take 131 = .ok (.iinc 3 1, 3) := by decide +kernel
theorem dX3_take_134 : decode cX3_take 134 = .ok (.goto (-61), 3) := by decide +kernel
theorem dX3_take_137 : decode cX3_take 137 = .ok (.aload_n 0, 1) := by decide +kernel
theorem dX3_take_138 : decode cX3_take 138 = .ok (.iload_n 1, 1) := by decide +kernel
theorem dX3_take_139 : decode cX3_take 139 = .ok (.invokevirtual 106, 3) := by decide +kernel
theorem dX3_take_142 : decode cX3_take 142 = .ok (.return_, 1) := by decide +kernel
set_option maxRecDepth 20000 in
theorem ggX3_serve_X3_find : GoodIn wsX3_serve wsX3_find := goodIn_r _ [6, 7, 8, 9, 10, 11, 12, 35, 36, 37, 38, 39, 40, 41, 42, 43, 44, 45, 46, 47, 48, 49, 50, 51, 52, 53, 54, 55, 56] (by decide +kernel) (by decide +kernel)
set_option maxRecDepth 20000 in
theorem gX3_serve_X3_find : GoodIn wsX3_serve (wsV RX3 112 RX3 yX3_find wsX3_find) := goodIn_app (goodIn_of _ (by decide +kernel)) ggX3_serve_X3_find
set_option maxRecDepth 20000 in
theorem ggX3_serve_X3_take : GoodIn wsX3_serve wsX3_take := goodIn_r _ [16, 12, 17, 18, 10, 19, 20, 21, 22, 23, 24, 5, 25, 26, 27, 28, 29, 30, 7, 8, 9, 31, 32, 33, 34, 35, 36, 37, 38, 39, 40, 41, 42, 43, 44, 45, 46, 47, 48, 49, 50, 51, 52, 53, 54, 55, 56] (by decide +kernel) (by decide +kernel)
set_option maxRecDepth 20000 in
theorem gX3_serve_X3_take : GoodIn wsX3_serve (wsV RX3 115 RX3 yX3_take wsX3_take) := goodIn_app (goodIn_of _ (by decide +kernel)) ggX3_serve_X3_take
theorem dX3_serve_0 : decode cX3_serve 0 = .ok (.aload_n 0, 1) := by decide +kernel
theorem dX3_serve_1 : decode cX3_serve 1 = .ok (.iconst 0, 1) := by decide +kernel
theorem dX3_serve_2 : decode cX3_serve 2 = .ok (.putfield 65, 3) := by decide +kernel
theorem dX3_serve_5 : decode cX3_serve 5 = .ok (.aload_n 0, 1) := by decide +kernel
theorem dX3_serve_6 : decode cX3_serve 6 = .ok (.invokevirtual 112, 3) := by decide +kernel
theorem dX3_serve_9 : decode cX3_serve 9 = .ok (.istore_n 1, 1) := by decide +kernel
theorem dX3_serve_10 : decode cX3_serve 10 = .ok (.iload_n 1, 1) := by decide +kernel
theorem dX3_serve_11 : decode cX3_serve 11 = .ok (.ifCond .lt 8, 3) := by decide +kernel
theorem dX3_serve_14 : decode cX3_serve 14 = .ok (.aload_n 0, 1) := by decide +kernel
theorem dX3_serve_15 : decode cX3_serve 15 = .ok (.iload_n 1, 1) := by decide +kernel
theorem dX3_serve_16 : decode cX3_serve 16 = .ok (.invokevirtual 115, 3) := by decide +kernel
theorem dX3_serve_19 : decode cX3_serve 19 = .ok (.iload_n 1, 1) := by decide +kernel
theorem dX3_serve_20 : decode cX3_serve 20 = .ok (.ireturn, 1) := by decide +kernel
set_option maxRecDepth 20000 in
theorem ggX3_next_X3_keepTurns : GoodIn wsX3_next wsX3_keepTurns := goodIn_r _ [6, 7, 8, 9, 10, 11, 12, 24, 25, 26, 27, 28, 29, 30, 31, 32, 33, 34, 35, 36, 37, 38, 39, 40, 41, 42, 43, 44, 45] (by decide +kernel) (by decide +kernel)
set_option maxRecDepth 20000 in
theorem gX3_next_X3_keepTurns : GoodIn wsX3_next (wsV RX3 118 RX3 yX3_keepTurns wsX3_keepTurns) := goodIn_app (goodIn_of _ (by decide +kernel)) ggX3_next_X3_keepTurns
set_option maxRecDepth 20000 in
theorem ggX3_next_X3_find : GoodIn wsX3_next wsX3_find := goodIn_r _ [16, 17, 12, 10, 8, 18, 19, 24, 25, 26, 27, 28, 29, 30, 31, 32, 33, 34, 35, 36, 37, 38, 39, 40, 41, 42, 43, 44, 45] (by decide +kernel) (by decide +kernel)
set_option maxRecDepth 20000 in
theorem gX3_next_X3_find : GoodIn wsX3_next (wsV RX3 112 RX3 yX3_find wsX3_find) := goodIn_app (goodIn_of _ (by decide +kernel)) ggX3_next_X3_find
set_option maxRecDepth 20000 in
theorem ggX3_next_X3_turnBack : GoodIn wsX3_next wsX3_turnBack := goodIn_r _ [23, 8, 7, 10, 9, 12, 11, 24, 25, 26, 27, 28, 29, 30, 31, 32, 33, 34, 35, 36, 37, 38, 39, 40, 41, 42, 43, 44, 45] (by decide +kernel) (by decide +kernel)
set_option maxRecDepth 20000 in
theorem gX3_next_X3_turnBack : GoodIn wsX3_next (wsV RX3 121 RX3 yX3_turnBack wsX3_turnBack) := goodIn_app (goodIn_of _ (by decide +kernel)) ggX3_next_X3_turnBack
theorem dX3_next_0 : decode cX3_next 0 = .ok (.aload_n 0, 1) := by decide +kernel
theorem dX3_next_1 : decode cX3_next 1 = .ok (.iconst 0, 1) := by decide +kernel
theorem dX3_next_2 : decode cX3_next 2 = .ok (.putfield 65, 3) := by decide +kernel
theorem dX3_next_5 : decode cX3_next 5 = .ok (.aload_n 0, 1) := by decide +kernel
theorem dX3_next_6 : decode cX3_next 6 = .ok (.invokevirtual 118, 3) := by decide +kernel
theorem dX3_next_9 : decode cX3_next 9 = .ok (.aload_n 0, 1) := by decide +kernel
theorem dX3_next_10 : decode cX3_next 10 = .ok (.invokevirtual 112, 3) := by decide +kernel
theorem dX3_next_13 : decode cX3_next 13 = .ok (.istore_n 1, 1) := by decide +kernel
theorem dX3_next_14 : decode cX3_next 14 = .ok (.aload_n 0, 1) := by decide +kernel
theorem dX3_next_15 : decode cX3_next 15 = .ok (.invokevirtual 121, 3) := by decide +kernel
theorem dX3_next_18 : decode cX3_next 18 = .ok (.iload_n 1, 1) := by decide +kernel
theorem dX3_next_19 : decode cX3_next 19 = .ok (.ireturn, 1) := by decide +kernel
theorem dX3_word_0 : decode cX3_word 0 = .ok (.aload_n 0, 1) := by decide +kernel
theorem dX3_word_1 : decode cX3_word 1 = .ok (.iconst 0, 1) := by decide +kernel
theorem dX3_word_2 : decode cX3_word 2 = .ok (.putfield 65, 3) := by decide +kernel
theorem dX3_word_5 : decode cX3_word 5 = .ok (.aload_n 0, 1) := by decide +kernel
theorem dX3_word_6 : decode cX3_word 6 = .ok (.getfield 109, 3) := by decide +kernel
theorem dX3_word_9 : decode cX3_word 9 = .ok (.ireturn, 1) := by decide +kernel
set_option maxRecDepth 20000 in
theorem ggX3_serveUpTo_X3_keepTurns : GoodIn wsX3_serveUpTo wsX3_keepTurns := goodIn_r _ [8, 9, 10, 11, 12, 13, 14, 47, 48, 49, 50, 51, 52, 53, 54, 55, 56, 57, 58, 59, 60, 61, 62, 63, 64, 65, 66, 67, 68] (by decide +kernel) (by decide +kernel)
set_option maxRecDepth 20000 in
theorem gX3_serveUpTo_X3_keepTurns : GoodIn wsX3_serveUpTo (wsV RX3 118 RX3 yX3_keepTurns wsX3_keepTurns) := goodIn_app (goodIn_of _ (by decide +kernel)) ggX3_serveUpTo_X3_keepTurns
set_option maxRecDepth 20000 in
theorem ggX3_serveUpTo_X3_find : GoodIn wsX3_serveUpTo wsX3_find := goodIn_r _ [18, 19, 14, 12, 10, 20, 3, 47, 48, 49, 50, 51, 52, 53, 54, 55, 56, 57, 58, 59, 60, 61, 62, 63, 64, 65, 66, 67, 68] (by decide +kernel) (by decide +kernel)
set_option maxRecDepth 20000 in
theorem gX3_serveUpTo_X3_find : GoodIn wsX3_serveUpTo (wsV RX3 112 RX3 yX3_find wsX3_find) := goodIn_app (goodIn_of _ (by decide +kernel)) ggX3_serveUpTo_X3_find
set_option maxRecDepth 20000 in
theorem ggX3_serveUpTo_X3_take : GoodIn wsX3_serveUpTo wsX3_take := goodIn_r _ [24, 3, 25, 26, 10, 27, 28, 29, 30, 31, 32, 7, 33, 34, 35, 36, 37, 38, 19, 14, 12, 39, 40, 41, 42, 47, 48, 49, 50, 51, 52, 53, 54, 55, 56, 57, 58, 59, 60, 61, 62, 63, 64, 65, 66, 67, 68] (by decide +kernel) (by decide +kernel)
set_option maxRecDepth 20000 in
theorem gX3_serveUpTo_X3_take : GoodIn wsX3_serveUpTo (wsV RX3 115 RX3 yX3_take wsX3_take) := goodIn_app (goodIn_of _ (by decide +kernel)) ggX3_serveUpTo_X3_take
set_option maxRecDepth 20000 in
theorem ggX3_serveUpTo_X3_turnBack : GoodIn wsX3_serveUpTo wsX3_turnBack := goodIn_r _ [46, 10, 9, 12, 11, 14, 13, 47, 48, 49, 50, 51, 52, 53, 54, 55, 56, 57, 58, 59, 60, 61, 62, 63, 64, 65, 66, 67, 68] (by decide +kernel) (by decide +kernel)
set_option maxRecDepth 20000 in
theorem gX3_serveUpTo_X3_turnBack : GoodIn wsX3_serveUpTo (wsV RX3 121 RX3 yX3_turnBack wsX3_turnBack) := goodIn_app (goodIn_of _ (by decide +kernel)) ggX3_serveUpTo_X3_turnBack
theorem dX3_serveUpTo_0 : decode cX3_serveUpTo 0 = .ok (.aload_n 0, 1) := by decide +kernel
theorem dX3_serveUpTo_1 : decode cX3_serveUpTo 1 = .ok (.iload_n 1, 1) := by decide +kernel
theorem dX3_serveUpTo_2 : decode cX3_serveUpTo 2 = .ok (.ifCond .lt 9, 3) := by decide +kernel
theorem dX3_serveUpTo_5 : decode cX3_serveUpTo 5 = .ok (.iload_n 1, 1) := by decide +kernel
theorem dX3_serveUpTo_6 : decode cX3_serveUpTo 6 = .ok (.ldc 124, 2) := by decide +kernel
theorem dX3_serveUpTo_8 : decode cX3_serveUpTo 8 = .ok (.if_icmp .le 7, 3) := by decide +kernel
theorem dX3_serveUpTo_11 : decode cX3_serveUpTo 11 = .ok (.iconst 1, 1) := by decide +kernel
theorem dX3_serveUpTo_12 : decode cX3_serveUpTo 12 = .ok (.goto 4, 3) := by decide +kernel
theorem dX3_serveUpTo_15 : decode cX3_serveUpTo 15 = .ok (.iconst 0, 1) := by decide +kernel
theorem dX3_serveUpTo_16 : decode cX3_serveUpTo 16 = .ok (.putfield 65, 3) := by decide +kernel
theorem dX3_serveUpTo_19 : decode cX3_serveUpTo 19 = .ok (.iconst 0, 1) := by decide +kernel
theorem dX3_serveUpTo_20 : decode cX3_serveUpTo 20 = .ok (.istore_n 2, 1) := by decide +kernel
theorem dX3_serveUpTo_21 : decode cX3_serveUpTo 21 = .ok (.iload_n 1, 1) := by decide +kernel
theorem dX3_serveUpTo_22 : decode cX3_serveUpTo 22 = .ok (.istore_n 3, 1) := by decide +kernel
theorem dX3_serveUpTo_23 : decode cX3_serveUpTo 23 = .ok (.aload_n 0, 1) := by decide +kernel
theorem dX3_serveUpTo_24 : decode cX3_serveUpTo 24 = .ok (.getfield 65, 3) := by decide +kernel
theorem dX3_serveUpTo_27 : decode cX3_serveUpTo 27 = .ok (.ifCond .ne 7, 3) := by decide +kernel
theorem dX3_serveUpTo_30 : decode cX3_serveUpTo 30 = .ok (.iconst 1, 1) := by decide +kernel
theorem dX3_serveUpTo_31 : decode cX3_serveUpTo 31 = .ok (.goto 4, 3) := by decide +kernel
theorem dX3_serveUpTo_34 : decode cX3_serveUpTo 34 = .ok (.iconst 0, 1) := by decide +kernel
theorem dX3_serveUpTo_35 : decode cX3_serveUpTo 35 = .ok (.istore 4, 2) := by decide +kernel
theorem dX3_serveUpTo_37 : decode cX3_serveUpTo 37 = .ok (.iload 4, 2) := by decide +kernel
theorem dX3_serveUpTo_39 : decode cX3_serveUpTo 39 = .ok (.ifCond .eq 76, 3) := by decide +kernel
theorem dX3_serveUpTo_42 : decode cX3_serveUpTo 42 = .ok (.aload_n 0, 1) := by decide +kernel
theorem dX3_serveUpTo_43 : decode cX3_serveUpTo 43 = .ok (.invokevirtual 118, 3) := by decide +kernel
theorem dX3_serveUpTo_46 : decode cX3_serveUpTo 46 = .ok (.aload_n 0, 1) := by decide +kernel
theorem dX3_serveUpTo_47 : decode cX3_serveUpTo 47 = .ok (.invokevirtual 112, 3) := by decide +kernel
theorem dX3_serveUpTo_50 : decode cX3_serveUpTo 50 = .ok (.istore 5, 2) := by decide +kernel
theorem dX3_serveUpTo_52 : decode cX3_serveUpTo 52 = .ok (.iload 5, 2) := by decide +kernel
theorem dX3_serveUpTo_54 : decode cX3_serveUpTo 54 = .ok (.ifCond .lt 21, 3) := by decide +kernel
theorem dX3_serveUpTo_57 : decode cX3_serveUpTo 57 = .ok (.aload_n 0, 1) := by decide +kernel
theorem dX3_serveUpTo_58 : decode cX3_serveUpTo 58 = .ok (.getfield 35, 3) := by decide +kernel
theorem dX3_serveUpTo_61 : decode cX3_serveUpTo 61 = .ok (.bipush 96, 2) := by decide +kernel
theorem dX3_serveUpTo_63 : decode cX3_serveUpTo 63 = .ok (.iload 5, 2) := by decide +kernel
theorem dX3_serveUpTo_65 : decode cX3_serveUpTo 65 = .ok (.imul, 1) := by decide +kernel
theorem dX3_serveUpTo_66 : decode cX3_serveUpTo 66 = .ok (.iaload, 1) := by decide +kernel
theorem dX3_serveUpTo_67 : decode cX3_serveUpTo 67 = .ok (.iload_n 3, 1) := by decide +kernel
theorem dX3_serveUpTo_68 : decode cX3_serveUpTo 68 = .ok (.if_icmp .gt 7, 3) := by decide +kernel
theorem dX3_serveUpTo_71 : decode cX3_serveUpTo 71 = .ok (.iconst 1, 1) := by decide +kernel
theorem dX3_serveUpTo_72 : decode cX3_serveUpTo 72 = .ok (.goto 4, 3) := by decide +kernel
theorem dX3_serveUpTo_75 : decode cX3_serveUpTo 75 = .ok (.iconst 0, 1) := by decide +kernel
theorem dX3_serveUpTo_76 : decode cX3_serveUpTo 76 = .ok (.istore 4, 2) := by decide +kernel
theorem dX3_serveUpTo_78 : decode cX3_serveUpTo 78 = .ok (.iload 4, 2) := by decide +kernel
theorem dX3_serveUpTo_80 : decode cX3_serveUpTo 80 = .ok (.ifCond .eq 28, 3) := by decide +kernel
theorem dX3_serveUpTo_83 : decode cX3_serveUpTo 83 = .ok (.iload_n 3, 1) := by decide +kernel
theorem dX3_serveUpTo_84 : decode cX3_serveUpTo 84 = .ok (.aload_n 0, 1) := by decide +kernel
theorem dX3_serveUpTo_85 : decode cX3_serveUpTo 85 = .ok (.getfield 35, 3) := by decide +kernel
theorem dX3_serveUpTo_88 : decode cX3_serveUpTo 88 = .ok (.bipush 96, 2) := by decide +kernel
theorem dX3_serveUpTo_90 : decode cX3_serveUpTo 90 = .ok (.iload 5, 2) := by decide +kernel
theorem dX3_serveUpTo_92 : decode cX3_serveUpTo 92 = .ok (.imul, 1) := by decide +kernel
theorem dX3_serveUpTo_93 : decode cX3_serveUpTo 93 = .ok (.iaload, 1) := by decide +kernel
theorem dX3_serveUpTo_94 : decode cX3_serveUpTo 94 = .ok (.isub, 1) := by decide +kernel
theorem dX3_serveUpTo_95 : decode cX3_serveUpTo 95 = .ok (.istore_n 3, 1) := by decide +kernel
theorem dX3_serveUpTo_96 : decode cX3_serveUpTo 96 = .ok (.aload_n 0, 1) := by decide +kernel
theorem dX3_serveUpTo_97 : decode cX3_serveUpTo 97 = .ok (.iload 5, 2) := by decide +kernel
theorem dX3_serveUpTo_99 : decode cX3_serveUpTo 99 = .ok (.invokevirtual 115, 3) := by decide +kernel
theorem dX3_serveUpTo_102 : decode cX3_serveUpTo 102 = .ok (.iinc 2 1, 3) := by decide +kernel
theorem dX3_serveUpTo_105 : decode cX3_serveUpTo 105 = .ok (.goto 7, 3) := by decide +kernel
theorem dX3_serveUpTo_108 : decode cX3_serveUpTo 108 = .ok (.aload_n 0, 1) := by decide +kernel
theorem dX3_serveUpTo_109 : decode cX3_serveUpTo 109 = .ok (.invokevirtual 121, 3) := by decide +kernel
theorem dX3_serveUpTo_112 : decode cX3_serveUpTo 112 = .ok (.goto (-75), 3) := by decide +kernel
theorem dX3_serveUpTo_115 : decode cX3_serveUpTo 115 = .ok (.iload_n 2, 1) := by decide +kernel
theorem dX3_serveUpTo_116 : decode cX3_serveUpTo 116 = .ok (.ireturn, 1) := by decide +kernel
set_option maxRecDepth 20000 in
theorem ggX3_empty_X3_noQueue : GoodIn wsX3_empty wsX3_noQueue := goodIn_r _ [6] (by decide +kernel) (by decide +kernel)
set_option maxRecDepth 20000 in
theorem gX3_empty_X3_noQueue : GoodIn wsX3_empty (va_wsS RX3 69 yX3_noQueue wsX3_noQueue) := goodIn_app (goodIn_of _ (by decide +kernel)) ggX3_empty_X3_noQueue
set_option maxRecDepth 20000 in
theorem ggX3_empty_X3_settle : GoodIn wsX3_empty wsX3_settle := goodIn_r _ [10, 2, 11, 12, 13, 14, 5, 15, 16, 17, 18, 19, 20, 21, 22, 23, 24, 25, 26, 27, 28, 29, 30, 31, 32, 33, 34, 35, 36, 37, 38, 39, 40, 41, 42, 43, 44, 45] (by decide +kernel) (by decide +kernel)
set_option maxRecDepth 20000 in
theorem gX3_empty_X3_settle : GoodIn wsX3_empty (wsV RX3 106 RX3 yX3_settle wsX3_settle) := goodIn_app (goodIn_of _ (by decide +kernel)) ggX3_empty_X3_settle
theorem dX3_empty_0 : decode cX3_empty 0 = .ok (.aload_n 0, 1) := by decide +kernel
theorem dX3_empty_1 : decode cX3_empty 1 = .ok (.iload_n 1, 1) := by decide +kernel
theorem dX3_empty_2 : decode cX3_empty 2 = .ok (.invokestatic 69, 3) := by decide +kernel
theorem dX3_empty_5 : decode cX3_empty 5 = .ok (.ifCond .eq 7, 3) := by decide +kernel
theorem dX3_empty_8 : decode cX3_empty 8 = .ok (.iconst 1, 1) := by decide +kernel
theorem dX3_empty_9 : decode cX3_empty 9 = .ok (.goto 4, 3) := by decide +kernel
theorem dX3_empty_12 : decode cX3_empty 12 = .ok (.iconst 0, 1) := by decide +kernel
theorem dX3_empty_13 : decode cX3_empty 13 = .ok (.putfield 65, 3) := by decide +kernel
theorem dX3_empty_16 : decode cX3_empty 16 = .ok (.aload_n 0, 1) := by decide +kernel
theorem dX3_empty_17 : decode cX3_empty 17 = .ok (.getfield 65, 3) := by decide +kernel
theorem dX3_empty_20 : decode cX3_empty 20 = .ok (.ifCond .le 5, 3) := by decide +kernel
theorem dX3_empty_23 : decode cX3_empty 23 = .ok (.iconst 0, 1) := by decide +kernel
theorem dX3_empty_24 : decode cX3_empty 24 = .ok (.ireturn, 1) := by decide +kernel
theorem dX3_empty_25 : decode cX3_empty 25 = .ok (.aload_n 0, 1) := by decide +kernel
theorem dX3_empty_26 : decode cX3_empty 26 = .ok (.getfield 22, 3) := by decide +kernel
theorem dX3_empty_29 : decode cX3_empty 29 = .ok (.iload_n 1, 1) := by decide +kernel
theorem dX3_empty_30 : decode cX3_empty 30 = .ok (.iaload, 1) := by decide +kernel
theorem dX3_empty_31 : decode cX3_empty 31 = .ok (.istore_n 2, 1) := by decide +kernel
theorem dX3_empty_32 : decode cX3_empty 32 = .ok (.aload_n 0, 1) := by decide +kernel
theorem dX3_empty_33 : decode cX3_empty 33 = .ok (.getfield 22, 3) := by decide +kernel
theorem dX3_empty_36 : decode cX3_empty 36 = .ok (.iload_n 1, 1) := by decide +kernel
theorem dX3_empty_37 : decode cX3_empty 37 = .ok (.iconst 0, 1) := by decide +kernel
theorem dX3_empty_38 : decode cX3_empty 38 = .ok (.iastore, 1) := by decide +kernel
theorem dX3_empty_39 : decode cX3_empty 39 = .ok (.aload_n 0, 1) := by decide +kernel
theorem dX3_empty_40 : decode cX3_empty 40 = .ok (.iload_n 1, 1) := by decide +kernel
theorem dX3_empty_41 : decode cX3_empty 41 = .ok (.invokevirtual 106, 3) := by decide +kernel
theorem dX3_empty_44 : decode cX3_empty 44 = .ok (.iload_n 2, 1) := by decide +kernel
theorem dX3_empty_45 : decode cX3_empty 45 = .ok (.ireturn, 1) := by decide +kernel
theorem dX3_costOf_0 : decode cX3_costOf 0 = .ok (.iconst 0, 1) := by decide +kernel
theorem dX3_costOf_1 : decode cX3_costOf 1 = .ok (.istore_n 2, 1) := by decide +kernel
theorem dX3_costOf_2 : decode cX3_costOf 2 = .ok (.iconst 0, 1) := by decide +kernel
theorem dX3_costOf_3 : decode cX3_costOf 3 = .ok (.istore_n 3, 1) := by decide +kernel
theorem dX3_costOf_4 : decode cX3_costOf 4 = .ok (.iload_n 3, 1) := by decide +kernel
theorem dX3_costOf_5 : decode cX3_costOf 5 = .ok (.aload_n 0, 1) := by decide +kernel
theorem dX3_costOf_6 : decode cX3_costOf 6 = .ok (.getfield 22, 3) := by decide +kernel
theorem dX3_costOf_9 : decode cX3_costOf 9 = .ok (.iload_n 1, 1) := by decide +kernel
theorem dX3_costOf_10 : decode cX3_costOf 10 = .ok (.iaload, 1) := by decide +kernel
theorem dX3_costOf_11 : decode cX3_costOf 11 = .ok (.if_icmp .ge 23, 3) := by decide +kernel
theorem dX3_costOf_14 : decode cX3_costOf 14 = .ok (.iload_n 2, 1) := by decide +kernel
theorem dX3_costOf_15 : decode cX3_costOf 15 = .ok (.aload_n 0, 1) := by decide +kernel
theorem dX3_costOf_16 : decode cX3_costOf 16 = .ok (.getfield 35, 3) := by decide +kernel
theorem dX3_costOf_19 : decode cX3_costOf 19 = .ok (.bipush 96, 2) := by decide +kernel
theorem dX3_costOf_21 : decode cX3_costOf 21 = .ok (.iload_n 1, 1) := by decide +kernel
theorem dX3_costOf_22 : decode cX3_costOf 22 = .ok (.imul, 1) := by decide +kernel
theorem dX3_costOf_23 : decode cX3_costOf 23 = .ok (.iload_n 3, 1) := by decide +kernel
theorem dX3_costOf_24 : decode cX3_costOf 24 = .ok (.iadd, 1) := by decide +kernel
theorem dX3_costOf_25 : decode cX3_costOf 25 = .ok (.iaload, 1) := by decide +kernel
theorem dX3_costOf_26 : decode cX3_costOf 26 = .ok (.iadd, 1) := by decide +kernel
theorem dX3_costOf_27 : decode cX3_costOf 27 = .ok (.istore_n 2, 1) := by decide +kernel
theorem dX3_costOf_28 : decode cX3_costOf 28 = .ok (.iinc 3 1, 3) := by decide +kernel
theorem dX3_costOf_31 : decode cX3_costOf 31 = .ok (.goto (-27), 3) := by decide +kernel
theorem dX3_costOf_34 : decode cX3_costOf 34 = .ok (.iload_n 2, 1) := by decide +kernel
theorem dX3_costOf_35 : decode cX3_costOf 35 = .ok (.ireturn, 1) := by decide +kernel
set_option maxRecDepth 20000 in
theorem ggX3_told_X3_noQueue : GoodIn wsX3_told wsX3_noQueue := goodIn_r _ [16] (by decide +kernel) (by decide +kernel)
set_option maxRecDepth 20000 in
theorem gX3_told_X3_noQueue : GoodIn wsX3_told (va_wsS RX3 69 yX3_noQueue wsX3_noQueue) := goodIn_app (goodIn_of _ (by decide +kernel)) ggX3_told_X3_noQueue
set_option maxRecDepth 20000 in
theorem ggX3_told_X3_placeOf : GoodIn wsX3_told wsX3_placeOf := goodIn_r _ [20, 3, 21, 22, 28, 29, 30, 31, 32, 33, 34, 35, 36, 37, 38, 39, 40, 41, 42, 43, 44, 45, 46, 47, 48, 49] (by decide +kernel) (by decide +kernel)
set_option maxRecDepth 20000 in
theorem gX3_told_X3_placeOf : GoodIn wsX3_told (wsV RX3 77 RX3 yX3_placeOf wsX3_placeOf) := goodIn_app (goodIn_of _ (by decide +kernel)) ggX3_told_X3_placeOf
set_option maxRecDepth 20000 in
theorem ggX3_told_X3_costOf : GoodIn wsX3_told wsX3_costOf := goodIn_r _ [26, 2, 27, 28, 29, 30, 31, 32, 33, 34, 35, 36, 37, 38, 39, 40, 41, 42, 43, 44, 45, 46, 47, 48, 49] (by decide +kernel) (by decide +kernel)
set_option maxRecDepth 20000 in
theorem gX3_told_X3_costOf : GoodIn wsX3_told (wsV RX3 125 RX3 yX3_costOf wsX3_costOf) := goodIn_app (goodIn_of _ (by decide +kernel)) ggX3_told_X3_costOf
theorem dX3_told_0 : decode cX3_told 0 = .ok (.aload_n 0, 1) := by decide +kernel
theorem dX3_told_1 : decode cX3_told 1 = .ok (.iload_n 1, 1) := by decide +kernel
theorem dX3_told_2 : decode cX3_told 2 = .ok (.invokestatic 69, 3) := by decide +kernel
theorem dX3_told_5 : decode cX3_told 5 = .ok (.ifCond .ne 13, 3) := by decide +kernel
theorem dX3_told_8 : decode cX3_told 8 = .ok (.iload_n 2, 1) := by decide +kernel
theorem dX3_told_9 : decode cX3_told 9 = .ok (.ifCond .lt 9, 3) := by decide +kernel
theorem dX3_told_12 : decode cX3_told 12 = .ok (.iload_n 2, 1) := by decide +kernel
theorem dX3_told_13 : decode cX3_told 13 = .ok (.bipush 12, 2) := by decide +kernel
theorem dX3_told_15 : decode cX3_told 15 = .ok (.if_icmp .le 7, 3) := by decide +kernel
theorem dX3_told_18 : decode cX3_told 18 = .ok (.iconst 1, 1) := by decide +kernel
theorem dX3_told_19 : decode cX3_told 19 = .ok (.goto 4, 3) := by decide +kernel
theorem dX3_told_22 : decode cX3_told 22 = .ok (.iconst 0, 1) := by decide +kernel
theorem dX3_told_23 : decode cX3_told 23 = .ok (.putfield 65, 3) := by decide +kernel
theorem dX3_told_26 : decode cX3_told 26 = .ok (.aload_n 0, 1) := by decide +kernel
theorem dX3_told_27 : decode cX3_told 27 = .ok (.getfield 65, 3) := by decide +kernel
theorem dX3_told_30 : decode cX3_told 30 = .ok (.ifCond .le 5, 3) := by decide +kernel
theorem dX3_told_33 : decode cX3_told 33 = .ok (.iconst 0, 1) := by decide +kernel
theorem dX3_told_34 : decode cX3_told 34 = .ok (.ireturn, 1) := by decide +kernel
theorem dX3_told_35 : decode cX3_told 35 = .ok (.iload_n 2, 1) := by decide +kernel
theorem dX3_told_36 : decode cX3_told 36 = .ok (.tableswitch 155 0 11 #[64, 71, 78, 85, 92, 99, 106, 121, 127, 134, 141, 148], 64) := by decide +kernel
theorem dX3_told_100 : decode cX3_told 100 = .ok (.aload_n 0, 1) := by decide +kernel
theorem dX3_told_101 : decode cX3_told 101 = .ok (.getfield 22, 3) := by decide +kernel
theorem dX3_told_104 : decode cX3_told 104 = .ok (.iload_n 1, 1) := by decide +kernel
theorem dX3_told_105 : decode cX3_told 105 = .ok (.iaload, 1) := by decide +kernel
theorem dX3_told_106 : decode cX3_told 106 = .ok (.ireturn, 1) := by decide +kernel
theorem dX3_told_107 : decode cX3_told 107 = .ok (.aload_n 0, 1) := by decide +kernel
theorem dX3_told_108 : decode cX3_told 108 = .ok (.getfield 7, 3) := by decide +kernel
theorem dX3_told_111 : decode cX3_told 111 = .ok (.iload_n 1, 1) := by decide +kernel
theorem dX3_told_112 : decode cX3_told 112 = .ok (.iaload, 1) := by decide +kernel
theorem dX3_told_113 : decode cX3_told 113 = .ok (.ireturn, 1) := by decide +kernel
theorem dX3_told_114 : decode cX3_told 114 = .ok (.aload_n 0, 1) := by decide +kernel
theorem dX3_told_115 : decode cX3_told 115 = .ok (.getfield 13, 3) := by decide +kernel
theorem dX3_told_118 : decode cX3_told 118 = .ok (.iload_n 1, 1) := by decide +kernel
theorem dX3_told_119 : decode cX3_told 119 = .ok (.iaload, 1) := by decide +kernel
theorem dX3_told_120 : decode cX3_told 120 = .ok (.ireturn, 1) := by decide +kernel
theorem dX3_told_121 : decode cX3_told 121 = .ok (.aload_n 0, 1) := by decide +kernel
theorem dX3_told_122 : decode cX3_told 122 = .ok (.getfield 16, 3) := by decide +kernel
theorem dX3_told_125 : decode cX3_told 125 = .ok (.iload_n 1, 1) := by decide +kernel
theorem dX3_told_126 : decode cX3_told 126 = .ok (.iaload, 1) := by decide +kernel
theorem dX3_told_127 : decode cX3_told 127 = .ok (.ireturn, 1) := by decide +kernel
theorem dX3_told_128 : decode cX3_told 128 = .ok (.aload_n 0, 1) := by decide +kernel
theorem dX3_told_129 : decode cX3_told 129 = .ok (.getfield 19, 3) := by decide +kernel
theorem dX3_told_132 : decode cX3_told 132 = .ok (.iload_n 1, 1) := by decide +kernel
theorem dX3_told_133 : decode cX3_told 133 = .ok (.iaload, 1) := by decide +kernel
theorem dX3_told_134 : decode cX3_told 134 = .ok (.ireturn, 1) := by decide +kernel
theorem dX3_told_135 : decode cX3_told 135 = .ok (.aload_n 0, 1) := by decide +kernel
theorem dX3_told_136 : decode cX3_told 136 = .ok (.getfield 25, 3) := by decide +kernel
theorem dX3_told_139 : decode cX3_told 139 = .ok (.iload_n 1, 1) := by decide +kernel
theorem dX3_told_140 : decode cX3_told 140 = .ok (.iaload, 1) := by decide +kernel
theorem dX3_told_141 : decode cX3_told 141 = .ok (.ireturn, 1) := by decide +kernel
theorem dX3_told_142 : decode cX3_told 142 = .ok (.aload_n 0, 1) := by decide +kernel
theorem dX3_told_143 : decode cX3_told 143 = .ok (.getfield 28, 3) := by decide +kernel
theorem dX3_told_146 : decode cX3_told 146 = .ok (.iload_n 1, 1) := by decide +kernel
theorem dX3_told_147 : decode cX3_told 147 = .ok (.baload, 1) := by decide +kernel
theorem dX3_told_148 : decode cX3_told 148 = .ok (.ifCond .eq 7, 3) := by decide +kernel
theorem dX3_told_151 : decode cX3_told 151 = .ok (.iconst 1, 1) := by decide +kernel
theorem dX3_told_152 : decode cX3_told 152 = .ok (.goto 4, 3) := by decide +kernel
theorem dX3_told_155 : decode cX3_told 155 = .ok (.iconst 0, 1) := by decide +kernel
theorem dX3_told_156 : decode cX3_told 156 = .ok (.ireturn, 1) := by decide +kernel
theorem dX3_told_157 : decode cX3_told 157 = .ok (.aload_n 0, 1) := by decide +kernel
theorem dX3_told_158 : decode cX3_told 158 = .ok (.iload_n 1, 1) := by decide +kernel
theorem dX3_told_159 : decode cX3_told 159 = .ok (.invokevirtual 77, 3) := by decide +kernel
theorem dX3_told_162 : decode cX3_told 162 = .ok (.ireturn, 1) := by decide +kernel
theorem dX3_told_163 : decode cX3_told 163 = .ok (.aload_n 0, 1) := by decide +kernel
theorem dX3_told_164 : decode cX3_told 164 = .ok (.getfield 38, 3) := by decide +kernel
theorem dX3_told_167 : decode cX3_told 167 = .ok (.iload_n 1, 1) := by decide +kernel
theorem dX3_told_168 : decode cX3_told 168 = .ok (.iaload, 1) := by decide +kernel
theorem dX3_told_169 : decode cX3_told 169 = .ok (.ireturn, 1) := by decide +kernel
theorem dX3_told_170 : decode cX3_told 170 = .ok (.aload_n 0, 1) := by decide +kernel
theorem dX3_told_171 : decode cX3_told 171 = .ok (.getfield 41, 3) := by decide +kernel
theorem dX3_told_174 : decode cX3_told 174 = .ok (.iload_n 1, 1) := by decide +kernel
theorem dX3_told_175 : decode cX3_told 175 = .ok (.iaload, 1) := by decide +kernel
theorem dX3_told_176 : decode cX3_told 176 = .ok (.ireturn, 1) := by decide +kernel
theorem dX3_told_177 : decode cX3_told 177 = .ok (.aload_n 0, 1) := by decide +kernel
theorem dX3_told_178 : decode cX3_told 178 = .ok (.getfield 44, 3) := by decide +kernel
theorem dX3_told_181 : decode cX3_told 181 = .ok (.iload_n 1, 1) := by decide +kernel
theorem dX3_told_182 : decode cX3_told 182 = .ok (.iaload, 1) := by decide +kernel
theorem dX3_told_183 : decode cX3_told 183 = .ok (.ireturn, 1) := by decide +kernel
theorem dX3_told_184 : decode cX3_told 184 = .ok (.aload_n 0, 1) := by decide +kernel
theorem dX3_told_185 : decode cX3_told 185 = .ok (.getfield 47, 3) := by decide +kernel
theorem dX3_told_188 : decode cX3_told 188 = .ok (.iload_n 1, 1) := by decide +kernel
theorem dX3_told_189 : decode cX3_told 189 = .ok (.iaload, 1) := by decide +kernel
theorem dX3_told_190 : decode cX3_told 190 = .ok (.ireturn, 1) := by decide +kernel
theorem dX3_told_191 : decode cX3_told 191 = .ok (.aload_n 0, 1) := by decide +kernel
theorem dX3_told_192 : decode cX3_told 192 = .ok (.iload_n 1, 1) := by decide +kernel
theorem dX3_told_193 : decode cX3_told 193 = .ok (.invokevirtual 125, 3) := by decide +kernel
theorem dX3_told_196 : decode cX3_told 196 = .ok (.ireturn, 1) := by decide +kernel
set_option maxRecDepth 20000 in
theorem ggX3_item_X3_noQueue : GoodIn wsX3_item wsX3_noQueue := goodIn_r _ [8] (by decide +kernel) (by decide +kernel)
set_option maxRecDepth 20000 in
theorem gX3_item_X3_noQueue : GoodIn wsX3_item (va_wsS RX3 69 yX3_noQueue wsX3_noQueue) := goodIn_app (goodIn_of _ (by decide +kernel)) ggX3_item_X3_noQueue
theorem dX3_item_0 : decode cX3_item 0 = .ok (.aload_n 0, 1) := by decide +kernel
theorem dX3_item_1 : decode cX3_item 1 = .ok (.iload_n 1, 1) := by decide +kernel
theorem dX3_item_2 : decode cX3_item 2 = .ok (.invokestatic 69, 3) := by decide +kernel
theorem dX3_item_5 : decode cX3_item 5 = .ok (.ifCond .ne 12, 3) := by decide +kernel
theorem dX3_item_8 : decode cX3_item 8 = .ok (.iload_n 3, 1) := by decide +kernel
theorem dX3_item_9 : decode cX3_item 9 = .ok (.ifCond .lt 8, 3) := by decide +kernel
theorem dX3_item_12 : decode cX3_item 12 = .ok (.iload_n 3, 1) := by decide +kernel
theorem dX3_item_13 : decode cX3_item 13 = .ok (.iconst 1, 1) := by decide +kernel
theorem dX3_item_14 : decode cX3_item 14 = .ok (.if_icmp .le 7, 3) := by decide +kernel
theorem dX3_item_17 : decode cX3_item 17 = .ok (.iconst 1, 1) := by decide +kernel
theorem dX3_item_18 : decode cX3_item 18 = .ok (.goto 22, 3) := by decide +kernel
theorem dX3_item_21 : decode cX3_item 21 = .ok (.iload_n 2, 1) := by decide +kernel
theorem dX3_item_22 : decode cX3_item 22 = .ok (.ifCond .lt 13, 3) := by decide +kernel
theorem dX3_item_25 : decode cX3_item 25 = .ok (.iload_n 2, 1) := by decide +kernel
theorem dX3_item_26 : decode cX3_item 26 = .ok (.aload_n 0, 1) := by decide +kernel
theorem dX3_item_27 : decode cX3_item 27 = .ok (.getfield 22, 3) := by decide +kernel
theorem dX3_item_30 : decode cX3_item 30 = .ok (.iload_n 1, 1) := by decide +kernel
theorem dX3_item_31 : decode cX3_item 31 = .ok (.iaload, 1) := by decide +kernel
theorem dX3_item_32 : decode cX3_item 32 = .ok (.if_icmp .lt 7, 3) := by decide +kernel
theorem dX3_item_35 : decode cX3_item 35 = .ok (.iconst 2, 1) := by decide +kernel
theorem dX3_item_36 : decode cX3_item 36 = .ok (.goto 4, 3) := by decide +kernel
theorem dX3_item_39 : decode cX3_item 39 = .ok (.iconst 0, 1) := by decide +kernel
theorem dX3_item_40 : decode cX3_item 40 = .ok (.putfield 65, 3) := by decide +kernel
theorem dX3_item_43 : decode cX3_item 43 = .ok (.aload_n 0, 1) := by decide +kernel
theorem dX3_item_44 : decode cX3_item 44 = .ok (.getfield 65, 3) := by decide +kernel
theorem dX3_item_47 : decode cX3_item 47 = .ok (.ifCond .le 5, 3) := by decide +kernel
theorem dX3_item_50 : decode cX3_item 50 = .ok (.iconst 0, 1) := by decide +kernel
theorem dX3_item_51 : decode cX3_item 51 = .ok (.ireturn, 1) := by decide +kernel
theorem dX3_item_52 : decode cX3_item 52 = .ok (.iload_n 3, 1) := by decide +kernel
theorem dX3_item_53 : decode cX3_item 53 = .ok (.ifCond .ne 17, 3) := by decide +kernel
theorem dX3_item_56 : decode cX3_item 56 = .ok (.aload_n 0, 1) := by decide +kernel
theorem dX3_item_57 : decode cX3_item 57 = .ok (.getfield 32, 3) := by decide +kernel
theorem dX3_item_60 : decode cX3_item 60 = .ok (.bipush 96, 2) := by decide +kernel
theorem dX3_item_62 : decode cX3_item 62 = .ok (.iload_n 1, 1) := by decide +kernel
theorem dX3_item_63 : decode cX3_item 63 = .ok (.imul, 1) := by decide +kernel
theorem dX3_item_64 : decode cX3_item 64 = .ok (.iload_n 2, 1) := by decide +kernel
theorem dX3_item_65 : decode cX3_item 65 = .ok (.iadd, 1) := by decide +kernel
theorem dX3_item_66 : decode cX3_item 66 = .ok (.iaload, 1) := by decide +kernel
theorem dX3_item_67 : decode cX3_item 67 = .ok (.goto 14, 3) := by decide +kernel
theorem dX3_item_70 : decode cX3_item 70 = .ok (.aload_n 0, 1) := by decide +kernel
theorem dX3_item_71 : decode cX3_item 71 = .ok (.getfield 35, 3) := by decide +kernel
theorem dX3_item_74 : decode cX3_item 74 = .ok (.bipush 96, 2) := by decide +kernel
theorem dX3_item_76 : decode cX3_item 76 = .ok (.iload_n 1, 1) := by decide +kernel
theorem dX3_item_77 : decode cX3_item 77 = .ok (.imul, 1) := by decide +kernel
theorem dX3_item_78 : decode cX3_item 78 = .ok (.iload_n 2, 1) := by decide +kernel
theorem dX3_item_79 : decode cX3_item 79 = .ok (.iadd, 1) := by decide +kernel
theorem dX3_item_80 : decode cX3_item 80 = .ok (.iaload, 1) := by decide +kernel
theorem dX3_item_81 : decode cX3_item 81 = .ok (.ireturn, 1) := by decide +kernel
set_option maxRecDepth 20000 in
theorem ggX3_all_X3_free : GoodIn wsX3_all wsX3_free := goodIn_r _ [10, 11, 25, 26, 27, 28, 29, 30, 31, 32, 33, 34, 35, 36, 37, 38, 39, 40, 41, 42, 43, 44, 45, 46] (by decide +kernel) (by decide +kernel)
set_option maxRecDepth 20000 in
theorem gX3_all_X3_free : GoodIn wsX3_all (wsV RX3 88 RX3 yX3_free wsX3_free) := goodIn_app (goodIn_of _ (by decide +kernel)) ggX3_all_X3_free
set_option maxRecDepth 20000 in
theorem ggX3_all_X3_open : GoodIn wsX3_all wsX3_open := goodIn_r _ [15, 6, 7, 8, 9, 10, 11, 16, 17, 18, 19, 20, 25, 26, 27, 28, 29, 30, 31, 32, 33, 34, 35, 36, 37, 38, 39, 40, 41, 42, 43, 44, 45, 46] (by decide +kernel) (by decide +kernel)
set_option maxRecDepth 20000 in
theorem gX3_all_X3_open : GoodIn wsX3_all (wsV RX3 97 RX3 yX3_open wsX3_open) := goodIn_app (goodIn_of _ (by decide +kernel)) ggX3_all_X3_open
set_option maxRecDepth 20000 in
theorem ggX3_all_X3_keptInAll : GoodIn wsX3_all wsX3_keptInAll := goodIn_r _ [24, 20, 25, 26, 27, 28, 29, 30, 31, 32, 33, 34, 35, 36, 37, 38, 39, 40, 41, 42, 43, 44, 45, 46] (by decide +kernel) (by decide +kernel)
set_option maxRecDepth 20000 in
theorem gX3_all_X3_keptInAll : GoodIn wsX3_all (wsV RX3 73 RX3 yX3_keptInAll wsX3_keptInAll) := goodIn_app (goodIn_of _ (by decide +kernel)) ggX3_all_X3_keptInAll
theorem dX3_all_0 : decode cX3_all 0 = .ok (.aload_n 0, 1) := by decide +kernel
theorem dX3_all_1 : decode cX3_all 1 = .ok (.iload_n 1, 1) := by decide +kernel
theorem dX3_all_2 : decode cX3_all 2 = .ok (.ifCond .lt 9, 3) := by decide +kernel
theorem dX3_all_5 : decode cX3_all 5 = .ok (.iload_n 1, 1) := by decide +kernel
theorem dX3_all_6 : decode cX3_all 6 = .ok (.bipush 6, 2) := by decide +kernel
theorem dX3_all_8 : decode cX3_all 8 = .ok (.if_icmp .le 7, 3) := by decide +kernel
theorem dX3_all_11 : decode cX3_all 11 = .ok (.iconst 1, 1) := by decide +kernel
theorem dX3_all_12 : decode cX3_all 12 = .ok (.goto 4, 3) := by decide +kernel
theorem dX3_all_15 : decode cX3_all 15 = .ok (.iconst 0, 1) := by decide +kernel
theorem dX3_all_16 : decode cX3_all 16 = .ok (.putfield 65, 3) := by decide +kernel
theorem dX3_all_19 : decode cX3_all 19 = .ok (.aload_n 0, 1) := by decide +kernel
theorem dX3_all_20 : decode cX3_all 20 = .ok (.getfield 65, 3) := by decide +kernel
theorem dX3_all_23 : decode cX3_all 23 = .ok (.ifCond .le 5, 3) := by decide +kernel
theorem dX3_all_26 : decode cX3_all 26 = .ok (.iconst 0, 1) := by decide +kernel
theorem dX3_all_27 : decode cX3_all 27 = .ok (.ireturn, 1) := by decide +kernel
theorem dX3_all_28 : decode cX3_all 28 = .ok (.iconst 0, 1) := by decide +kernel
theorem dX3_all_29 : decode cX3_all 29 = .ok (.istore_n 2, 1) := by decide +kernel
theorem dX3_all_30 : decode cX3_all 30 = .ok (.iconst 0, 1) := by decide +kernel
theorem dX3_all_31 : decode cX3_all 31 = .ok (.istore_n 3, 1) := by decide +kernel
theorem dX3_all_32 : decode cX3_all 32 = .ok (.iload_n 3, 1) := by decide +kernel
theorem dX3_all_33 : decode cX3_all 33 = .ok (.bipush 12, 2) := by decide +kernel
theorem dX3_all_35 : decode cX3_all 35 = .ok (.if_icmp .ge 41, 3) := by decide +kernel
theorem dX3_all_38 : decode cX3_all 38 = .ok (.iload_n 2, 1) := by decide +kernel
theorem dX3_all_39 : decode cX3_all 39 = .ok (.iload_n 1, 1) := by decide +kernel
theorem dX3_all_40 : decode cX3_all 40 = .ok (.iconst 3, 1) := by decide +kernel
theorem dX3_all_41 : decode cX3_all 41 = .ok (.if_icmp .ne 12, 3) := by decide +kernel
theorem dX3_all_44 : decode cX3_all 44 = .ok (.aload_n 0, 1) := by decide +kernel
theorem dX3_all_45 : decode cX3_all 45 = .ok (.getfield 44, 3) := by decide +kernel
theorem dX3_all_48 : decode cX3_all 48 = .ok (.iload_n 3, 1) := by decide +kernel
theorem dX3_all_49 : decode cX3_all 49 = .ok (.iaload, 1) := by decide +kernel
theorem dX3_all_50 : decode cX3_all 50 = .ok (.goto 18, 3) := by decide +kernel
theorem dX3_all_53 : decode cX3_all 53 = .ok (.iload_n 1, 1) := by decide +kernel
theorem dX3_all_54 : decode cX3_all 54 = .ok (.iconst 4, 1) := by decide +kernel
theorem dX3_all_55 : decode cX3_all 55 = .ok (.if_icmp .ne 12, 3) := by decide +kernel
theorem dX3_all_58 : decode cX3_all 58 = .ok (.aload_n 0, 1) := by decide +kernel
theorem dX3_all_59 : decode cX3_all 59 = .ok (.getfield 41, 3) := by decide +kernel
theorem dX3_all_62 : decode cX3_all 62 = .ok (.iload_n 3, 1) := by decide +kernel
theorem dX3_all_63 : decode cX3_all 63 = .ok (.iaload, 1) := by decide +kernel
theorem dX3_all_64 : decode cX3_all 64 = .ok (.goto 4, 3) := by decide +kernel
theorem dX3_all_67 : decode cX3_all 67 = .ok (.iconst 0, 1) := by decide +kernel
theorem dX3_all_68 : decode cX3_all 68 = .ok (.iadd, 1) := by decide +kernel
theorem dX3_all_69 : decode cX3_all 69 = .ok (.istore_n 2, 1) := by decide +kernel
theorem dX3_all_70 : decode cX3_all 70 = .ok (.iinc 3 1, 3) := by decide +kernel
theorem dX3_all_73 : decode cX3_all 73 = .ok (.goto (-41), 3) := by decide +kernel
theorem dX3_all_76 : decode cX3_all 76 = .ok (.iload_n 1, 1) := by decide +kernel
theorem dX3_all_77 : decode cX3_all 77 = .ok (.ifCond .ne 10, 3) := by decide +kernel
theorem dX3_all_80 : decode cX3_all 80 = .ok (.aload_n 0, 1) := by decide +kernel
theorem dX3_all_81 : decode cX3_all 81 = .ok (.invokevirtual 88, 3) := by decide +kernel
theorem dX3_all_84 : decode cX3_all 84 = .ok (.goto 52, 3) := by decide +kernel
theorem dX3_all_87 : decode cX3_all 87 = .ok (.iload_n 1, 1) := by decide +kernel
theorem dX3_all_88 : decode cX3_all 88 = .ok (.iconst 1, 1) := by decide +kernel
theorem dX3_all_89 : decode cX3_all 89 = .ok (.if_icmp .ne 10, 3) := by decide +kernel
theorem dX3_all_92 : decode cX3_all 92 = .ok (.aload_n 0, 1) := by decide +kernel
theorem dX3_all_93 : decode cX3_all 93 = .ok (.invokevirtual 97, 3) := by decide +kernel
theorem dX3_all_96 : decode cX3_all 96 = .ok (.goto 40, 3) := by decide +kernel
theorem dX3_all_99 : decode cX3_all 99 = .ok (.iload_n 1, 1) := by decide +kernel
theorem dX3_all_100 : decode cX3_all 100 = .ok (.iconst 2, 1) := by decide +kernel
theorem dX3_all_101 : decode cX3_all 101 = .ok (.if_icmp .ne 10, 3) := by decide +kernel
theorem dX3_all_104 : decode cX3_all 104 = .ok (.aload_n 0, 1) := by decide +kernel
theorem dX3_all_105 : decode cX3_all 105 = .ok (.invokevirtual 73, 3) := by decide +kernel
theorem dX3_all_108 : decode cX3_all 108 = .ok (.goto 28, 3) := by decide +kernel
theorem dX3_all_111 : decode cX3_all 111 = .ok (.iload_n 1, 1) := by decide +kernel
theorem dX3_all_112 : decode cX3_all 112 = .ok (.iconst 5, 1) := by decide +kernel
theorem dX3_all_113 : decode cX3_all 113 = .ok (.if_icmp .ge 7, 3) := by decide +kernel
theorem dX3_all_116 : decode cX3_all 116 = .ok (.iload_n 2, 1) := by decide +kernel
theorem dX3_all_117 : decode cX3_all 117 = .ok (.goto 19, 3) := by decide +kernel
theorem dX3_all_120 : decode cX3_all 120 = .ok (.iload_n 1, 1) := by decide +kernel
theorem dX3_all_121 : decode cX3_all 121 = .ok (.iconst 5, 1) := by decide +kernel
theorem dX3_all_122 : decode cX3_all 122 = .ok (.if_icmp .ne 10, 3) := by decide +kernel
theorem dX3_all_125 : decode cX3_all 125 = .ok (.aload_n 0, 1) := by decide +kernel
theorem dX3_all_126 : decode cX3_all 126 = .ok (.getfield 94, 3) := by decide +kernel
theorem dX3_all_129 : decode cX3_all 129 = .ok (.goto 7, 3) := by decide +kernel
theorem dX3_all_132 : decode cX3_all 132 = .ok (.aload_n 0, 1) := by decide +kernel
theorem dX3_all_133 : decode cX3_all 133 = .ok (.getfield 103, 3) := by decide +kernel
theorem dX3_all_136 : decode cX3_all 136 = .ok (.ireturn, 1) := by decide +kernel
theorem dJ9_floorMod_7cf53_0 : decode cJ9_floorMod_7cf53 0 = .ok (.iload_n 0, 1) := by decide +kernel
theorem dJ9_floorMod_7cf53_1 : decode cJ9_floorMod_7cf53 1 = .ok (.iload_n 1, 1) := by decide +kernel
theorem dJ9_floorMod_7cf53_2 : decode cJ9_floorMod_7cf53 2 = .ok (.irem, 1) := by decide +kernel
theorem dJ9_floorMod_7cf53_3 : decode cJ9_floorMod_7cf53 3 = .ok (.istore_n 2, 1) := by decide +kernel
theorem dJ9_floorMod_7cf53_4 : decode cJ9_floorMod_7cf53 4 = .ok (.iload_n 0, 1) := by decide +kernel
theorem dJ9_floorMod_7cf53_5 : decode cJ9_floorMod_7cf53 5 = .ok (.iload_n 1, 1) := by decide +kernel
theorem dJ9_floorMod_7cf53_6 : decode cJ9_floorMod_7cf53 6 = .ok (.ixor, 1) := by decide +kernel
theorem dJ9_floorMod_7cf53_7 : decode cJ9_floorMod_7cf53 7 = .ok (.ifCond .ge 11, 3) := by decide +kernel
theorem dJ9_floorMod_7cf53_10 : decode cJ9_floorMod_7cf53 10 = .ok (.iload_n 2, 1) := by decide +kernel
theorem dJ9_floorMod_7cf53_11 : decode cJ9_floorMod_7cf53 11 = .ok (.ifCond .eq 7, 3) := by decide +kernel
theorem dJ9_floorMod_7cf53_14 : decode cJ9_floorMod_7cf53 14 = .ok (.iload_n 2, 1) := by decide +kernel
theorem dJ9_floorMod_7cf53_15 : decode cJ9_floorMod_7cf53 15 = .ok (.iload_n 1, 1) := by decide +kernel
theorem dJ9_floorMod_7cf53_16 : decode cJ9_floorMod_7cf53 16 = .ok (.iadd, 1) := by decide +kernel
theorem dJ9_floorMod_7cf53_17 : decode cJ9_floorMod_7cf53 17 = .ok (.ireturn, 1) := by decide +kernel
theorem dJ9_floorMod_7cf53_18 : decode cJ9_floorMod_7cf53 18 = .ok (.iload_n 2, 1) := by decide +kernel
theorem dJ9_floorMod_7cf53_19 : decode cJ9_floorMod_7cf53 19 = .ok (.ireturn, 1) := by decide +kernel
theorem dJ9_min_7cf53_0 : decode cJ9_min_7cf53 0 = .ok (.iload_n 0, 1) := by decide +kernel
theorem dJ9_min_7cf53_1 : decode cJ9_min_7cf53 1 = .ok (.iload_n 1, 1) := by decide +kernel
theorem dJ9_min_7cf53_2 : decode cJ9_min_7cf53 2 = .ok (.if_icmp .gt 7, 3) := by decide +kernel
theorem dJ9_min_7cf53_5 : decode cJ9_min_7cf53 5 = .ok (.iload_n 0, 1) := by decide +kernel
theorem dJ9_min_7cf53_6 : decode cJ9_min_7cf53 6 = .ok (.goto 4, 3) := by decide +kernel
theorem dJ9_min_7cf53_9 : decode cJ9_min_7cf53 9 = .ok (.iload_n 1, 1) := by decide +kernel
theorem dJ9_min_7cf53_10 : decode cJ9_min_7cf53 10 = .ok (.ireturn, 1) := by decide +kernel
set_option maxRecDepth 20000 in
theorem ggL_quota_X2_quota : GoodIn wsL_quota wsX2_quota := goodIn_ca (goodIn_r _ [6, 7, 8, 9, 5, 10, 11, 12, 13, 14, 15, 16, 17, 18, 19, 20, 21, 22, 23, 24, 25, 26, 27, 28, 29, 30, 31, 32, 33, 34, 35, 36, 37, 38, 39, 40, 41, 42] (by decide +kernel) (by decide +kernel)) (goodIn_sub (fun _ h => List.mem_cons_of_mem _ (List.mem_append_right _ h)) (by decide +kernel))
set_option maxRecDepth 20000 in
theorem gL_quota_X2_quota : GoodIn wsL_quota (wsV RL 7 RX2 yX2_quota wsX2_quota) := goodIn_app (goodIn_of _ (by decide +kernel)) ggL_quota_X2_quota
theorem dL_quota_0 : decode cL_quota 0 = .ok (.aload 4, 2) := by decide +kernel
theorem dL_quota_2 : decode cL_quota 2 = .ok (.iconst 0, 1) := by decide +kernel
theorem dL_quota_3 : decode cL_quota 3 = .ok (.aload_n 0, 1) := by decide +kernel
theorem dL_quota_4 : decode cL_quota 4 = .ok (.iload_n 1, 1) := by decide +kernel
theorem dL_quota_5 : decode cL_quota 5 = .ok (.iload_n 2, 1) := by decide +kernel
theorem dL_quota_6 : decode cL_quota 6 = .ok (.iload_n 3, 1) := by decide +kernel
theorem dL_quota_7 : decode cL_quota 7 = .ok (.invokevirtual 7, 3) := by decide +kernel
theorem dL_quota_10 : decode cL_quota 10 = .ok (.i2l, 1) := by decide +kernel
theorem dL_quota_11 : decode cL_quota 11 = .ok (.lastore, 1) := by decide +kernel
theorem dL_quota_12 : decode cL_quota 12 = .ok (.goto 7, 3) := by decide +kernel
theorem dL_quota_15 : decode cL_quota 15 = .ok (.astore 5, 2) := by decide +kernel
theorem dL_quota_17 : decode cL_quota 17 = .ok (.iconst 1, 1) := by decide +kernel
theorem dL_quota_18 : decode cL_quota 18 = .ok (.ireturn, 1) := by decide +kernel
theorem dL_quota_19 : decode cL_quota 19 = .ok (.iconst 0, 1) := by decide +kernel
theorem dL_quota_20 : decode cL_quota 20 = .ok (.ireturn, 1) := by decide +kernel
set_option maxRecDepth 20000 in
theorem ggL_kind_X2_kind : GoodIn wsL_kind wsX2_kind := goodIn_ca (goodIn_r _ [6, 7, 8, 9, 5, 10, 11, 12, 13, 14, 15, 16, 17, 18, 19, 20, 21, 22, 23, 24, 25, 26, 27, 28, 29, 30, 31, 32, 33, 34, 35, 36, 37, 38, 39, 40, 41, 42, 43, 44, 45, 46, 47, 48, 49, 50, 51, 52, 53, 54, 55, 56, 57, 58, 59, 60, 61, 62, 63, 64] (by decide +kernel) (by decide +kernel)) (goodIn_sub (fun _ h => List.mem_cons_of_mem _ (List.mem_append_right _ h)) (by decide +kernel))
set_option maxRecDepth 20000 in
theorem gL_kind_X2_kind : GoodIn wsL_kind (wsV RL 15 RX2 yX2_kind wsX2_kind) := goodIn_app (goodIn_of _ (by decide +kernel)) ggL_kind_X2_kind
theorem dL_kind_0 : decode cL_kind 0 = .ok (.aload_n 0, 1) := by decide +kernel
theorem dL_kind_1 : decode cL_kind 1 = .ok (.iload_n 1, 1) := by decide +kernel
theorem dL_kind_2 : decode cL_kind 2 = .ok (.iload_n 2, 1) := by decide +kernel
theorem dL_kind_3 : decode cL_kind 3 = .ok (.iload_n 3, 1) := by decide +kernel
theorem dL_kind_4 : decode cL_kind 4 = .ok (.invokevirtual 15, 3) := by decide +kernel
theorem dL_kind_7 : decode cL_kind 7 = .ok (.goto 7, 3) := by decide +kernel
theorem dL_kind_10 : decode cL_kind 10 = .ok (.astore 4, 2) := by decide +kernel
theorem dL_kind_12 : decode cL_kind 12 = .ok (.iconst 1, 1) := by decide +kernel
theorem dL_kind_13 : decode cL_kind 13 = .ok (.ireturn, 1) := by decide +kernel
theorem dL_kind_14 : decode cL_kind 14 = .ok (.iconst 0, 1) := by decide +kernel
theorem dL_kind_15 : decode cL_kind 15 = .ok (.ireturn, 1) := by decide +kernel
set_option maxRecDepth 20000 in
theorem ggL_push_X2_push : GoodIn wsL_push wsX2_push := goodIn_ca (goodIn_r _ [6, 7, 8, 9, 10, 11, 12, 5, 13, 14, 15, 16, 17, 18, 19, 20, 21, 22, 23, 24, 25, 26, 27, 28, 29, 30, 31, 32, 33, 34, 35, 36, 37, 38, 39, 40, 41, 42, 43, 44, 45, 46, 47, 48, 49, 50, 51, 52, 53, 54, 55, 56, 57, 58, 59, 60, 61, 62, 63, 64, 65, 66, 67, 68, 69, 70, 71, 72, 73, 74, 75, 76, 77, 78, 79, 80, 81, 82, 83, 84, 85, 86, 87, 88, 89, 90, 91, 92, 93, 94, 95, 96, 97, 98, 99, 100, 101, 102, 103, 104, 105, 106, 107, 108, 109, 110, 111, 112, 113, 114, 115, 116, 117, 118, 119, 120, 121, 122, 123, 124, 125, 126] (by decide +kernel) (by decide +kernel)) (goodIn_sub (fun _ h => List.mem_cons_of_mem _ (List.mem_append_right _ h)) (by decide +kernel))
set_option maxRecDepth 20000 in
theorem gL_push_X2_push : GoodIn wsL_push (wsV RL 19 RX2 yX2_push wsX2_push) := goodIn_app (goodIn_of _ (by decide +kernel)) ggL_push_X2_push
theorem dL_push_0 : decode cL_push 0 = .ok (.aload 4, 2) := by decide +kernel
theorem dL_push_2 : decode cL_push 2 = .ok (.iconst 0, 1) := by decide +kernel
theorem dL_push_3 : decode cL_push 3 = .ok (.aload_n 0, 1) := by decide +kernel
theorem dL_push_4 : decode cL_push 4 = .ok (.iload_n 1, 1) := by decide +kernel
theorem dL_push_5 : decode cL_push 5 = .ok (.iload_n 2, 1) := by decide +kernel
theorem dL_push_6 : decode cL_push 6 = .ok (.iload_n 3, 1) := by decide +kernel
theorem dL_push_7 : decode cL_push 7 = .ok (.invokevirtual 19, 3) := by decide +kernel
theorem dL_push_10 : decode cL_push 10 = .ok (.i2l, 1) := by decide +kernel
theorem dL_push_11 : decode cL_push 11 = .ok (.lastore, 1) := by decide +kernel
theorem dL_push_12 : decode cL_push 12 = .ok (.goto 7, 3) := by decide +kernel
theorem dL_push_15 : decode cL_push 15 = .ok (.astore 5, 2) := by decide +kernel
theorem dL_push_17 : decode cL_push 17 = .ok (.iconst 1, 1) := by decide +kernel
theorem dL_push_18 : decode cL_push 18 = .ok (.ireturn, 1) := by decide +kernel
theorem dL_push_19 : decode cL_push 19 = .ok (.iconst 0, 1) := by decide +kernel
theorem dL_push_20 : decode cL_push 20 = .ok (.ireturn, 1) := by decide +kernel
set_option maxRecDepth 20000 in
theorem ggL_serveUpTo_X2_serveUpTo : GoodIn wsL_serveUpTo wsX2_serveUpTo := goodIn_ca (goodIn_r _ [6, 7, 8, 9, 10, 5, 11, 12, 13, 14, 15, 16, 17, 18, 19, 20, 21, 22, 23, 24, 25, 26, 27, 28, 29, 30, 31, 32, 33, 34, 35, 36, 37, 38, 39, 40, 41, 42, 43, 44, 45, 46, 47, 48, 49, 50, 51, 52, 53, 54, 55, 56, 57, 58, 59, 60, 61, 62, 63, 64, 65, 66, 67, 68, 69, 70, 71, 72, 73, 74, 75, 76, 77, 78, 79, 80, 81, 82, 83, 84, 85, 86, 87, 88, 89, 90, 91, 92, 93, 94, 95, 96, 97, 98, 99, 100, 101, 102, 103, 104, 105, 106, 107, 108, 109, 110, 111, 112, 113, 114, 115, 116, 117, 118, 119, 120, 121, 122, 123, 124, 125, 126, 127, 128, 129, 130, 131, 132, 133, 134, 135, 136, 137, 138, 139, 140, 141, 142] (by decide +kernel) (by decide +kernel)) (goodIn_sub (fun _ h => List.mem_cons_of_mem _ (List.mem_append_right _ h)) (by decide +kernel))
set_option maxRecDepth 20000 in
theorem gL_serveUpTo_X2_serveUpTo : GoodIn wsL_serveUpTo (wsV RL 22 RX2 yX2_serveUpTo wsX2_serveUpTo) := goodIn_app (goodIn_of _ (by decide +kernel)) ggL_serveUpTo_X2_serveUpTo
theorem dL_serveUpTo_0 : decode cL_serveUpTo 0 = .ok (.aload_n 2, 1) := by decide +kernel
theorem dL_serveUpTo_1 : decode cL_serveUpTo 1 = .ok (.iconst 0, 1) := by decide +kernel
theorem dL_serveUpTo_2 : decode cL_serveUpTo 2 = .ok (.aload_n 0, 1) := by decide +kernel
theorem dL_serveUpTo_3 : decode cL_serveUpTo 3 = .ok (.iload_n 1, 1) := by decide +kernel
theorem dL_serveUpTo_4 : decode cL_serveUpTo 4 = .ok (.invokevirtual 22, 3) := by decide +kernel
theorem dL_serveUpTo_7 : decode cL_serveUpTo 7 = .ok (.i2l, 1) := by decide +kernel
theorem dL_serveUpTo_8 : decode cL_serveUpTo 8 = .ok (.lastore, 1) := by decide +kernel
theorem dL_serveUpTo_9 : decode cL_serveUpTo 9 = .ok (.goto 6, 3) := by decide +kernel
theorem dL_serveUpTo_12 : decode cL_serveUpTo 12 = .ok (.astore_n 3, 1) := by decide +kernel
theorem dL_serveUpTo_13 : decode cL_serveUpTo 13 = .ok (.iconst 1, 1) := by decide +kernel
theorem dL_serveUpTo_14 : decode cL_serveUpTo 14 = .ok (.ireturn, 1) := by decide +kernel
theorem dL_serveUpTo_15 : decode cL_serveUpTo 15 = .ok (.iconst 0, 1) := by decide +kernel
theorem dL_serveUpTo_16 : decode cL_serveUpTo 16 = .ok (.ireturn, 1) := by decide +kernel
set_option maxRecDepth 20000 in
theorem ggL_empty_X2_empty : GoodIn wsL_empty wsX2_empty := goodIn_ca (goodIn_r _ [6, 7, 8, 9, 5, 10, 11, 12, 13, 14, 15, 16, 17, 18, 19, 20, 21, 22, 23, 24, 25, 26, 27, 28, 29, 30, 31, 32, 33, 34, 35, 36, 37, 38, 39, 40, 41, 42, 43, 44, 45, 46, 47, 48, 49, 50, 51, 52, 53, 54, 55, 56, 57, 58, 59, 60, 61, 62, 63, 64] (by decide +kernel) (by decide +kernel)) (goodIn_sub (fun _ h => List.mem_cons_of_mem _ (List.mem_append_right _ h)) (by decide +kernel))
set_option maxRecDepth 20000 in
theorem gL_empty_X2_empty : GoodIn wsL_empty (wsV RL 26 RX2 yX2_empty wsX2_empty) := goodIn_app (goodIn_of _ (by decide +kernel)) ggL_empty_X2_empty
theorem dL_empty_0 : decode cL_empty 0 = .ok (.aload_n 2, 1) := by decide +kernel
theorem dL_empty_1 : decode cL_empty 1 = .ok (.iconst 0, 1) := by decide +kernel
theorem dL_empty_2 : decode cL_empty 2 = .ok (.aload_n 0, 1) := by decide +kernel
theorem dL_empty_3 : decode cL_empty 3 = .ok (.iload_n 1, 1) := by decide +kernel
theorem dL_empty_4 : decode cL_empty 4 = .ok (.invokevirtual 26, 3) := by decide +kernel
theorem dL_empty_7 : decode cL_empty 7 = .ok (.i2l, 1) := by decide +kernel
theorem dL_empty_8 : decode cL_empty 8 = .ok (.lastore, 1) := by decide +kernel
theorem dL_empty_9 : decode cL_empty 9 = .ok (.goto 6, 3) := by decide +kernel
theorem dL_empty_12 : decode cL_empty 12 = .ok (.astore_n 3, 1) := by decide +kernel
theorem dL_empty_13 : decode cL_empty 13 = .ok (.iconst 1, 1) := by decide +kernel
theorem dL_empty_14 : decode cL_empty 14 = .ok (.ireturn, 1) := by decide +kernel
theorem dL_empty_15 : decode cL_empty 15 = .ok (.iconst 0, 1) := by decide +kernel
theorem dL_empty_16 : decode cL_empty 16 = .ok (.ireturn, 1) := by decide +kernel
set_option maxRecDepth 20000 in
theorem ggL_told_X2_told : GoodIn wsL_told wsX2_told := goodIn_ca (goodIn_r _ [6, 7, 8, 9, 10, 11, 12, 5, 13, 14, 15, 16, 17, 18, 19, 20, 21, 22, 23, 24, 25, 26, 27, 28, 29, 30, 31, 32, 33, 34, 35, 36, 37, 38, 39, 40, 41, 42, 43, 44, 45] (by decide +kernel) (by decide +kernel)) (goodIn_sub (fun _ h => List.mem_cons_of_mem _ (List.mem_append_right _ h)) (by decide +kernel))
set_option maxRecDepth 20000 in
theorem gL_told_X2_told : GoodIn wsL_told (wsV RL 29 RX2 yX2_told wsX2_told) := goodIn_app (goodIn_of _ (by decide +kernel)) ggL_told_X2_told
theorem dL_told_0 : decode cL_told 0 = .ok (.aload_n 3, 1) := by decide +kernel
theorem dL_told_1 : decode cL_told 1 = .ok (.iconst 0, 1) := by decide +kernel
theorem dL_told_2 : decode cL_told 2 = .ok (.aload_n 0, 1) := by decide +kernel
theorem dL_told_3 : decode cL_told 3 = .ok (.iload_n 1, 1) := by decide +kernel
theorem dL_told_4 : decode cL_told 4 = .ok (.iload_n 2, 1) := by decide +kernel
theorem dL_told_5 : decode cL_told 5 = .ok (.invokevirtual 29, 3) := by decide +kernel
theorem dL_told_8 : decode cL_told 8 = .ok (.i2l, 1) := by decide +kernel
theorem dL_told_9 : decode cL_told 9 = .ok (.lastore, 1) := by decide +kernel
theorem dL_told_10 : decode cL_told 10 = .ok (.goto 7, 3) := by decide +kernel
theorem dL_told_13 : decode cL_told 13 = .ok (.astore 4, 2) := by decide +kernel
theorem dL_told_15 : decode cL_told 15 = .ok (.iconst 1, 1) := by decide +kernel
theorem dL_told_16 : decode cL_told 16 = .ok (.ireturn, 1) := by decide +kernel
theorem dL_told_17 : decode cL_told 17 = .ok (.iconst 0, 1) := by decide +kernel
theorem dL_told_18 : decode cL_told 18 = .ok (.ireturn, 1) := by decide +kernel
set_option maxRecDepth 20000 in
theorem ggL_item_X2_item : GoodIn wsL_item wsX2_item := goodIn_ca (goodIn_ca (goodIn_r _ [7, 8, 9, 10, 11, 12, 6, 13, 14, 15, 16, 17, 18, 19, 20, 21, 22, 23, 24, 25, 26, 27, 28, 29, 30, 31, 32, 33, 34, 35, 36, 37, 38, 39, 40, 41, 42, 43, 44, 45, 46, 47, 48, 49, 50, 51, 52, 53, 54, 55, 56, 57, 58, 59, 60, 61] (by decide +kernel) (by decide +kernel)) (goodIn_sub (fun _ h => List.mem_cons_of_mem _ (List.mem_append_left _ (List.mem_append_right _ h))) (by decide +kernel))) (goodIn_sub (fun _ h => List.mem_cons_of_mem _ (List.mem_append_right _ h)) (by decide +kernel))
set_option maxRecDepth 20000 in
theorem gL_item_X2_item : GoodIn wsL_item (wsV RL 33 RX2 yX2_item wsX2_item) := goodIn_app (goodIn_of _ (by decide +kernel)) ggL_item_X2_item
theorem dL_item_0 : decode cL_item 0 = .ok (.aload 4, 2) := by decide +kernel
theorem dL_item_2 : decode cL_item 2 = .ok (.iconst 0, 1) := by decide +kernel
theorem dL_item_3 : decode cL_item 3 = .ok (.aload_n 0, 1) := by decide +kernel
theorem dL_item_4 : decode cL_item 4 = .ok (.iload_n 1, 1) := by decide +kernel
theorem dL_item_5 : decode cL_item 5 = .ok (.iload_n 2, 1) := by decide +kernel
theorem dL_item_6 : decode cL_item 6 = .ok (.iload_n 3, 1) := by decide +kernel
theorem dL_item_7 : decode cL_item 7 = .ok (.invokevirtual 33, 3) := by decide +kernel
theorem dL_item_10 : decode cL_item 10 = .ok (.i2l, 1) := by decide +kernel
theorem dL_item_11 : decode cL_item 11 = .ok (.lastore, 1) := by decide +kernel
theorem dL_item_12 : decode cL_item 12 = .ok (.goto 11, 3) := by decide +kernel
theorem dL_item_15 : decode cL_item 15 = .ok (.astore 5, 2) := by decide +kernel
theorem dL_item_17 : decode cL_item 17 = .ok (.iconst 1, 1) := by decide +kernel
theorem dL_item_18 : decode cL_item 18 = .ok (.ireturn, 1) := by decide +kernel
theorem dL_item_19 : decode cL_item 19 = .ok (.astore 5, 2) := by decide +kernel
theorem dL_item_21 : decode cL_item 21 = .ok (.iconst 2, 1) := by decide +kernel
theorem dL_item_22 : decode cL_item 22 = .ok (.ireturn, 1) := by decide +kernel
theorem dL_item_23 : decode cL_item 23 = .ok (.iconst 0, 1) := by decide +kernel
theorem dL_item_24 : decode cL_item 24 = .ok (.ireturn, 1) := by decide +kernel
set_option maxRecDepth 20000 in
theorem ggL_all_X2_all : GoodIn wsL_all wsX2_all := goodIn_ca (goodIn_r _ [6, 7, 8, 9, 10, 11, 12, 13, 14, 15, 5, 16, 17, 18, 19, 20, 21, 22, 23, 24, 25, 26, 27, 28, 29, 30, 31, 32, 33, 34, 35, 36, 37, 38, 39, 40, 41, 42, 43, 44, 45, 46, 47, 48, 49, 50, 51, 52, 53, 54, 55, 56, 57, 58] (by decide +kernel) (by decide +kernel)) (goodIn_sub (fun _ h => List.mem_cons_of_mem _ (List.mem_append_right _ h)) (by decide +kernel))
set_option maxRecDepth 20000 in
theorem gL_all_X2_all : GoodIn wsL_all (wsV RL 38 RX2 yX2_all wsX2_all) := goodIn_app (goodIn_of _ (by decide +kernel)) ggL_all_X2_all
theorem dL_all_0 : decode cL_all 0 = .ok (.aload_n 2, 1) := by decide +kernel
theorem dL_all_1 : decode cL_all 1 = .ok (.iconst 0, 1) := by decide +kernel
theorem dL_all_2 : decode cL_all 2 = .ok (.aload_n 0, 1) := by decide +kernel
theorem dL_all_3 : decode cL_all 3 = .ok (.iload_n 1, 1) := by decide +kernel
theorem dL_all_4 : decode cL_all 4 = .ok (.invokevirtual 38, 3) := by decide +kernel
theorem dL_all_7 : decode cL_all 7 = .ok (.i2l, 1) := by decide +kernel
theorem dL_all_8 : decode cL_all 8 = .ok (.lastore, 1) := by decide +kernel
theorem dL_all_9 : decode cL_all 9 = .ok (.goto 6, 3) := by decide +kernel
theorem dL_all_12 : decode cL_all 12 = .ok (.astore_n 3, 1) := by decide +kernel
theorem dL_all_13 : decode cL_all 13 = .ok (.iconst 1, 1) := by decide +kernel
theorem dL_all_14 : decode cL_all 14 = .ok (.ireturn, 1) := by decide +kernel
theorem dL_all_15 : decode cL_all 15 = .ok (.iconst 0, 1) := by decide +kernel
theorem dL_all_16 : decode cL_all 16 = .ok (.ireturn, 1) := by decide +kernel
set_option maxRecDepth 20000 in
theorem ggL_law_X2_init : GoodIn wsL_law wsX2_init := goodIn_r _ [9, 10, 11, 12, 13, 14, 15, 16, 17, 18, 19, 20, 21, 22, 23, 24, 25, 26, 27, 28, 29, 30, 31, 32, 402, 403, 404, 405, 406, 407, 408, 431, 432, 433, 434, 435, 436, 437, 438, 439, 440, 441, 442, 443, 444, 445, 446, 447] (by decide +kernel) (by decide +kernel)
set_option maxRecDepth 20000 in
theorem gL_law_X2_init : GoodIn wsL_law (wsX2_init) := ggL_law_X2_init
set_option maxRecDepth 20000 in
theorem ggL_law_X3_init : GoodIn wsL_law wsX3_init := goodIn_r _ [35, 36, 11, 12, 24, 37, 38, 39, 40, 41, 42, 43, 44, 45, 46, 47, 48, 49, 50, 51, 52, 53, 54, 55, 409, 410, 411, 412, 413, 414, 415, 416, 417, 418, 419, 420, 421, 422, 423, 424, 425, 426, 427, 428, 429, 430] (by decide +kernel) (by decide +kernel)
set_option maxRecDepth 20000 in
theorem gL_law_X3_init : GoodIn wsL_law (wsX3_init) := ggL_law_X3_init
set_option maxRecDepth 20000 in
theorem ggL_law_L_quota : GoodIn wsL_law wsL_quota := goodIn_ca (goodIn_r _ [59, 60, 61, 62, 63, 2, 64, 65, 66, 67, 68, 69, 70, 14, 71, 72, 73, 74, 75, 76, 77, 431, 432, 433, 434, 435, 436, 437, 438, 439, 440, 441, 442, 443, 444, 445, 402, 403, 404, 405, 406, 407, 408] (by decide +kernel) (by decide +kernel)) (goodIn_sub (fun _ h => List.mem_append_left _ (List.mem_append_right _ h)) (by decide +kernel))
set_option maxRecDepth 20000 in
theorem gL_law_L_quota : GoodIn wsL_law (va_wsS RL 45 yL_quota wsL_quota) := goodIn_app (goodIn_of _ (by decide +kernel)) ggL_law_L_quota
set_option maxRecDepth 20000 in
theorem ggL_law_X3_quota : GoodIn wsL_law wsX3_quota := goodIn_r _ [81, 82, 40, 39, 83, 84, 5, 85, 86, 87, 88, 89, 409, 410, 411, 412, 413, 414, 415, 416, 417, 418, 419, 420, 421, 422, 423, 424, 425, 426, 427, 428, 429, 430] (by decide +kernel) (by decide +kernel)
set_option maxRecDepth 20000 in
theorem gL_law_X3_quota : GoodIn wsL_law (wsV RL 50 RX3 yX3_quota wsX3_quota) := goodIn_app (goodIn_of _ (by decide +kernel)) ggL_law_X3_quota
set_option maxRecDepth 20000 in
theorem ggL_law_X3_thrown : GoodIn wsL_law wsX3_thrown := goodIn_r _ [93, 82, 409, 410, 411, 412, 413, 414, 415, 416, 417, 418, 419, 420, 421, 422, 423, 424, 425, 426, 427, 428, 429, 430] (by decide +kernel) (by decide +kernel)
set_option maxRecDepth 20000 in
theorem gL_law_X3_thrown : GoodIn wsL_law (wsV RL 51 RX3 yX3_thrown wsX3_thrown) := goodIn_app (goodIn_of _ (by decide +kernel)) ggL_law_X3_thrown
set_option maxRecDepth 20000 in
theorem ggL_law_L_kind : GoodIn wsL_law wsL_kind := goodIn_ca (goodIn_r _ [96, 60, 97, 98, 99, 2, 100, 65, 66, 67, 68, 69, 70, 14, 71, 72, 73, 101, 102, 103, 104, 16, 105, 106, 107, 20, 108, 109, 32, 110, 111, 112, 113, 114, 115, 116, 117, 118, 119, 120, 121, 431, 432, 433, 434, 435, 436, 437, 438, 439, 440, 441, 442, 443, 444, 445, 402, 403, 404, 405, 406, 407, 408, 446, 447] (by decide +kernel) (by decide +kernel)) (goodIn_sub (fun _ h => List.mem_append_left _ (List.mem_append_right _ h)) (by decide +kernel))
set_option maxRecDepth 20000 in
theorem gL_law_L_kind : GoodIn wsL_law (va_wsS RL 55 yL_kind wsL_kind) := goodIn_app (goodIn_of _ (by decide +kernel)) ggL_law_L_kind
set_option maxRecDepth 20000 in
theorem ggL_law_X3_kind : GoodIn wsL_law wsX3_kind := goodIn_r _ [125, 82, 38, 37, 41, 83, 84, 5, 85, 126, 127, 128, 129, 52, 51, 44, 130, 131, 132, 133, 134, 135, 136, 137, 409, 410, 411, 412, 413, 414, 415, 416, 417, 418, 419, 420, 421, 422, 423, 424, 425, 426, 427, 428, 429, 430] (by decide +kernel) (by decide +kernel)
set_option maxRecDepth 20000 in
theorem gL_law_X3_kind : GoodIn wsL_law (wsV RL 58 RX3 yX3_kind wsX3_kind) := goodIn_app (goodIn_of _ (by decide +kernel)) ggL_law_X3_kind
set_option maxRecDepth 20000 in
theorem ggL_law_L_push : GoodIn wsL_law wsL_push := goodIn_ca (goodIn_r _ [140, 60, 141, 142, 143, 2, 144, 145, 14, 146, 65, 66, 67, 68, 69, 70, 71, 72, 73, 147, 148, 149, 150, 151, 152, 153, 154, 155, 156, 157, 18, 158, 159, 160, 161, 162, 163, 164, 165, 166, 167, 168, 169, 170, 171, 172, 16, 173, 174, 175, 176, 25, 26, 177, 178, 179, 180, 181, 182, 183, 184, 185, 186, 118, 119, 120, 20, 121, 109, 32, 187, 188, 189, 190, 191, 192, 193, 194, 195, 196, 197, 198, 199, 200, 201, 202, 203, 204, 205, 206, 207, 105, 106, 107, 108, 110, 111, 112, 113, 114, 115, 116, 117, 431, 432, 433, 434, 435, 436, 437, 438, 439, 440, 441, 442, 443, 444, 445, 402, 403, 404, 405, 406, 407, 408, 446, 447] (by decide +kernel) (by decide +kernel)) (goodIn_sub (fun _ h => List.mem_append_left _ (List.mem_append_right _ h)) (by decide +kernel))
set_option maxRecDepth 20000 in
theorem gL_law_L_push : GoodIn wsL_law (va_wsS RL 59 yL_push wsL_push) := goodIn_app (goodIn_of _ (by decide +kernel)) ggL_law_L_push
set_option maxRecDepth 20000 in
theorem ggL_law_X3_push : GoodIn wsL_law wsX3_push := goodIn_r _ [211, 82, 41, 39, 212, 213, 48, 45, 46, 47, 42, 83, 84, 5, 85, 214, 215, 216, 217, 218, 219, 220, 221, 40, 222, 223, 224, 225, 226, 227, 228, 229, 230, 231, 232, 233, 126, 127, 128, 129, 37, 52, 51, 44, 130, 131, 132, 133, 134, 135, 136, 137, 409, 410, 411, 412, 413, 414, 415, 416, 417, 418, 419, 420, 421, 422, 423, 424, 425, 426, 427, 428, 429, 430] (by decide +kernel) (by decide +kernel)
set_option maxRecDepth 20000 in
theorem gL_law_X3_push : GoodIn wsL_law (wsV RL 61 RX3 yX3_push wsX3_push) := goodIn_app (goodIn_of _ (by decide +kernel)) ggL_law_X3_push
set_option maxRecDepth 20000 in
theorem ggL_law_X2_serve : GoodIn wsL_law wsX2_serve := goodIn_r _ [237, 238, 239, 240, 2, 241, 16, 242, 243, 244, 245, 14, 246, 247, 248, 20, 249, 32, 250, 251, 252, 18, 253, 254, 255, 27, 256, 257, 258, 259, 200, 201, 202, 203, 26, 178, 179, 180, 181, 182, 183, 184, 185, 186, 260, 261, 262, 263, 264, 265, 266, 267, 268, 269, 270, 271, 272, 106, 107, 108, 109, 110, 111, 112, 113, 114, 115, 116, 117, 273, 119, 120, 121, 274, 275, 276, 277, 278, 279, 280, 281, 282, 283, 284, 285, 286, 287, 288, 25, 289, 290, 291, 292, 177, 159, 204, 205, 206, 207, 105, 402, 403, 404, 405, 406, 407, 408, 446, 447, 431, 432, 433, 434, 435, 436, 437, 438, 439, 440, 441, 442, 443, 444, 445] (by decide +kernel) (by decide +kernel)
set_option maxRecDepth 20000 in
theorem gL_law_X2_serve : GoodIn wsL_law (wsV RL 62 RX2 yX2_serve wsX2_serve) := goodIn_app (goodIn_of _ (by decide +kernel)) ggL_law_X2_serve
set_option maxRecDepth 20000 in
theorem ggL_law_X3_serve : GoodIn wsL_law wsX3_serve := goodIn_r _ [296, 82, 297, 298, 299, 5, 300, 52, 51, 44, 42, 38, 46, 301, 302, 303, 304, 45, 305, 49, 50, 41, 230, 231, 232, 233, 126, 127, 128, 129, 37, 130, 131, 132, 133, 409, 410, 411, 412, 413, 414, 415, 416, 417, 418, 419, 420, 421, 422, 423, 424, 425, 426, 427, 428, 429, 430] (by decide +kernel) (by decide +kernel)
set_option maxRecDepth 20000 in
theorem gL_law_X3_serve : GoodIn wsL_law (wsV RL 65 RX3 yX3_serve wsX3_serve) := goodIn_app (goodIn_of _ (by decide +kernel)) ggL_law_X3_serve
set_option maxRecDepth 20000 in
theorem ggL_law_X2_next : GoodIn wsL_law wsX2_next := goodIn_r _ [309, 238, 239, 240, 2, 241, 16, 242, 243, 244, 245, 14, 246, 247, 248, 20, 249, 32, 250, 251, 252, 18, 253, 254, 255, 27, 256, 257, 258, 259, 200, 201, 202, 203, 26, 178, 179, 180, 181, 182, 183, 184, 185, 186, 402, 403, 404, 405, 406, 407, 408, 446, 447, 431, 432, 433, 434, 435, 436, 437, 438, 439, 440, 441, 442, 443, 444, 445] (by decide +kernel) (by decide +kernel)
set_option maxRecDepth 20000 in
theorem gL_law_X2_next : GoodIn wsL_law (wsV RL 66 RX2 yX2_next wsX2_next) := goodIn_app (goodIn_of _ (by decide +kernel)) ggL_law_X2_next
set_option maxRecDepth 20000 in
theorem ggL_law_X3_next : GoodIn wsL_law wsX3_next := goodIn_r _ [313, 82, 314, 315, 316, 5, 317, 53, 42, 54, 44, 55, 51, 297, 298, 299, 300, 52, 38, 46, 318, 319, 320, 321, 409, 410, 411, 412, 413, 414, 415, 416, 417, 418, 419, 420, 421, 422, 423, 424, 425, 426, 427, 428, 429, 430] (by decide +kernel) (by decide +kernel)
set_option maxRecDepth 20000 in
theorem gL_law_X3_next : GoodIn wsL_law (wsV RL 69 RX3 yX3_next wsX3_next) := goodIn_app (goodIn_of _ (by decide +kernel)) ggL_law_X3_next
set_option maxRecDepth 20000 in
theorem ggL_law_X2_word : GoodIn wsL_law wsX2_word := goodIn_r _ [325, 278, 402, 403, 404, 405, 406, 407, 408] (by decide +kernel) (by decide +kernel)
set_option maxRecDepth 20000 in
theorem gL_law_X2_word : GoodIn wsL_law (wsV RL 70 RX2 yX2_word wsX2_word) := goodIn_app (goodIn_of _ (by decide +kernel)) ggL_law_X2_word
set_option maxRecDepth 20000 in
theorem ggL_law_X3_word : GoodIn wsL_law wsX3_word := goodIn_r _ [329, 82, 305, 409, 410, 411, 412, 413, 414, 415, 416, 417, 418, 419, 420, 421, 422, 423, 424, 425, 426, 427, 428, 429, 430] (by decide +kernel) (by decide +kernel)
set_option maxRecDepth 20000 in
theorem gL_law_X3_word : GoodIn wsL_law (wsV RL 73 RX3 yX3_word wsX3_word) := goodIn_app (goodIn_of _ (by decide +kernel)) ggL_law_X3_word
set_option maxRecDepth 20000 in
theorem ggL_law_L_serveUpTo : GoodIn wsL_law wsL_serveUpTo := goodIn_ca (goodIn_r _ [332, 60, 333, 334, 335, 2, 336, 337, 14, 71, 72, 73, 69, 70, 338, 307, 308, 309, 238, 239, 240, 241, 16, 242, 243, 244, 245, 246, 247, 248, 20, 249, 32, 250, 251, 252, 18, 253, 254, 255, 27, 256, 257, 258, 259, 200, 201, 202, 203, 26, 178, 179, 180, 181, 182, 183, 184, 185, 186, 284, 339, 235, 236, 237, 260, 261, 262, 263, 264, 265, 266, 267, 268, 269, 270, 271, 272, 106, 107, 108, 109, 110, 111, 112, 113, 114, 115, 116, 117, 273, 119, 120, 121, 274, 275, 276, 277, 278, 279, 280, 281, 282, 283, 285, 286, 287, 288, 25, 289, 290, 291, 292, 177, 159, 204, 205, 206, 207, 105, 402, 403, 404, 405, 406, 407, 408, 446, 447, 431, 432, 433, 434, 435, 436, 437, 438, 439, 440, 441, 442, 443, 444, 445] (by decide +kernel) (by decide +kernel)) (goodIn_sub (fun _ h => List.mem_append_left _ (List.mem_append_right _ h)) (by decide +kernel))
set_option maxRecDepth 20000 in
theorem gL_law_L_serveUpTo : GoodIn wsL_law (va_wsS RL 74 yL_serveUpTo wsL_serveUpTo) := goodIn_app (goodIn_of _ (by decide +kernel)) ggL_law_L_serveUpTo
set_option maxRecDepth 20000 in
theorem ggL_law_X3_serveUpTo : GoodIn wsL_law wsX3_serveUpTo := goodIn_r _ [343, 344, 82, 46, 314, 315, 316, 5, 317, 53, 42, 54, 44, 55, 51, 297, 298, 299, 300, 52, 38, 301, 302, 303, 304, 45, 305, 49, 50, 41, 230, 231, 232, 233, 126, 127, 128, 129, 37, 130, 131, 132, 133, 318, 319, 320, 321, 409, 410, 411, 412, 413, 414, 415, 416, 417, 418, 419, 420, 421, 422, 423, 424, 425, 426, 427, 428, 429, 430] (by decide +kernel) (by decide +kernel)
set_option maxRecDepth 20000 in
theorem gL_law_X3_serveUpTo : GoodIn wsL_law (wsV RL 77 RX3 yX3_serveUpTo wsX3_serveUpTo) := goodIn_app (goodIn_of _ (by decide +kernel)) ggL_law_X3_serveUpTo
set_option maxRecDepth 20000 in
theorem ggL_law_L_empty : GoodIn wsL_law wsL_empty := goodIn_ca (goodIn_r _ [347, 60, 348, 349, 350, 2, 351, 65, 66, 67, 68, 69, 70, 14, 352, 353, 354, 18, 355, 177, 159, 204, 205, 206, 207, 16, 105, 106, 107, 20, 108, 109, 32, 110, 111, 112, 113, 114, 115, 116, 117, 431, 432, 433, 434, 435, 436, 437, 438, 439, 440, 441, 442, 443, 444, 445, 402, 403, 404, 405, 406, 407, 408, 446, 447] (by decide +kernel) (by decide +kernel)) (goodIn_sub (fun _ h => List.mem_append_left _ (List.mem_append_right _ h)) (by decide +kernel))
set_option maxRecDepth 20000 in
theorem gL_law_L_empty : GoodIn wsL_law (va_wsS RL 78 yL_empty wsL_empty) := goodIn_app (goodIn_of _ (by decide +kernel)) ggL_law_L_empty
set_option maxRecDepth 20000 in
theorem ggL_law_X3_empty : GoodIn wsL_law wsX3_empty := goodIn_r _ [359, 82, 41, 83, 84, 5, 85, 230, 231, 232, 233, 42, 126, 127, 128, 129, 37, 52, 51, 44, 130, 131, 132, 133, 409, 410, 411, 412, 413, 414, 415, 416, 417, 418, 419, 420, 421, 422, 423, 424, 425, 426, 427, 428, 429, 430] (by decide +kernel) (by decide +kernel)
set_option maxRecDepth 20000 in
theorem gL_law_X3_empty : GoodIn wsL_law (wsV RL 80 RX3 yX3_empty wsX3_empty) := goodIn_app (goodIn_of _ (by decide +kernel)) ggL_law_X3_empty
set_option maxRecDepth 20000 in
theorem ggL_law_L_told : GoodIn wsL_law wsL_told := goodIn_ca (goodIn_r _ [362, 60, 363, 364, 365, 2, 366, 69, 70, 16, 65, 66, 67, 68, 14, 367, 115, 116, 20, 117, 109, 32, 431, 432, 433, 434, 435, 436, 437, 438, 439, 440, 441, 442, 443, 444, 445, 402, 403, 404, 405, 406, 407, 408, 446, 447] (by decide +kernel) (by decide +kernel)) (goodIn_sub (fun _ h => List.mem_append_left _ (List.mem_append_right _ h)) (by decide +kernel))
set_option maxRecDepth 20000 in
theorem gL_law_L_told : GoodIn wsL_law (va_wsS RL 81 yL_told wsL_told) := goodIn_app (goodIn_of _ (by decide +kernel)) ggL_law_L_told
set_option maxRecDepth 20000 in
theorem ggL_law_X3_told : GoodIn wsL_law wsX3_told := goodIn_r _ [371, 82, 41, 37, 38, 39, 40, 42, 44, 47, 48, 49, 50, 83, 84, 5, 85, 130, 131, 132, 133, 52, 51, 372, 373, 374, 375, 46, 409, 410, 411, 412, 413, 414, 415, 416, 417, 418, 419, 420, 421, 422, 423, 424, 425, 426, 427, 428, 429, 430] (by decide +kernel) (by decide +kernel)
set_option maxRecDepth 20000 in
theorem gL_law_X3_told : GoodIn wsL_law (wsV RL 84 RX3 yX3_told wsX3_told) := goodIn_app (goodIn_of _ (by decide +kernel)) ggL_law_X3_told
set_option maxRecDepth 20000 in
theorem ggL_law_L_item : GoodIn wsL_law wsL_item := goodIn_ca (goodIn_ca (goodIn_r _ [378, 60, 379, 380, 381, 382, 2, 383, 384, 385, 65, 66, 67, 68, 69, 70, 14, 71, 72, 73, 285, 286, 287, 18, 288, 25, 178, 179, 180, 181, 182, 183, 184, 185, 186, 386, 201, 202, 203, 26, 431, 432, 433, 434, 435, 436, 437, 438, 439, 440, 441, 442, 443, 444, 445, 402, 403, 404, 405, 406, 407, 408] (by decide +kernel) (by decide +kernel)) (goodIn_sub (fun _ h => List.mem_append_right _ h) (by decide +kernel))) (goodIn_sub (fun _ h => List.mem_append_left _ (List.mem_append_right _ h)) (by decide +kernel))
set_option maxRecDepth 20000 in
theorem gL_law_L_item : GoodIn wsL_law (va_wsS RL 85 yL_item wsL_item) := goodIn_app (goodIn_of _ (by decide +kernel)) ggL_law_L_item
set_option maxRecDepth 20000 in
theorem ggL_law_X3_item : GoodIn wsL_law wsX3_item := goodIn_r _ [390, 41, 82, 45, 46, 83, 84, 5, 85, 409, 410, 411, 412, 413, 414, 415, 416, 417, 418, 419, 420, 421, 422, 423, 424, 425, 426, 427, 428, 429, 430] (by decide +kernel) (by decide +kernel)
set_option maxRecDepth 20000 in
theorem gL_law_X3_item : GoodIn wsL_law (wsV RL 87 RX3 yX3_item wsX3_item) := goodIn_app (goodIn_of _ (by decide +kernel)) ggL_law_X3_item
set_option maxRecDepth 20000 in
theorem ggL_law_L_all : GoodIn wsL_law wsL_all := goodIn_ca (goodIn_r _ [393, 60, 394, 395, 396, 2, 397, 69, 70, 279, 195, 145, 146, 151, 152, 153, 154, 14, 161, 162, 163, 164, 165, 166, 167, 168, 155, 156, 157, 18, 158, 159, 160, 74, 75, 76, 77, 402, 403, 404, 405, 406, 407, 408, 431, 432, 433, 434, 435, 436, 437, 438, 439, 440, 441, 442, 443, 444, 445] (by decide +kernel) (by decide +kernel)) (goodIn_sub (fun _ h => List.mem_append_left _ (List.mem_append_right _ h)) (by decide +kernel))
set_option maxRecDepth 20000 in
theorem gL_law_L_all : GoodIn wsL_law (va_wsS RL 88 yL_all wsL_all) := goodIn_app (goodIn_of _ (by decide +kernel)) ggL_law_L_all
set_option maxRecDepth 20000 in
theorem ggL_law_X3_all : GoodIn wsL_law wsX3_all := goodIn_r _ [401, 82, 49, 48, 212, 213, 214, 215, 216, 5, 217, 41, 222, 223, 224, 225, 218, 219, 220, 221, 40, 86, 87, 88, 89, 409, 410, 411, 412, 413, 414, 415, 416, 417, 418, 419, 420, 421, 422, 423, 424, 425, 426, 427, 428, 429, 430] (by decide +kernel) (by decide +kernel)
set_option maxRecDepth 20000 in
theorem gL_law_X3_all : GoodIn wsL_law (wsV RL 90 RX3 yX3_all wsX3_all) := goodIn_app (goodIn_of _ (by decide +kernel)) ggL_law_X3_all
theorem dL_law_0 : decode cL_law 0 = .ok (.new 8, 3) := by decide +kernel
theorem dL_law_3 : decode cL_law 3 = .ok (.dup, 1) := by decide +kernel
theorem dL_law_4 : decode cL_law 4 = .ok (.invokespecial 41, 3) := by decide +kernel
theorem dL_law_7 : decode cL_law 7 = .ok (.astore_n 1, 1) := by decide +kernel
theorem dL_law_8 : decode cL_law 8 = .ok (.new 42, 3) := by decide +kernel
theorem dL_law_11 : decode cL_law 11 = .ok (.dup, 1) := by decide +kernel
theorem dL_law_12 : decode cL_law 12 = .ok (.invokespecial 44, 3) := by decide +kernel
theorem dL_law_15 : decode cL_law 15 = .ok (.astore_n 2, 1) := by decide +kernel
theorem dL_law_16 : decode cL_law 16 = .ok (.iconst 1, 1) := by decide +kernel
theorem dL_law_17 : decode cL_law 17 = .ok (.newarray .long, 2) := by decide +kernel
theorem dL_law_19 : decode cL_law 19 = .ok (.astore_n 3, 1) := by decide +kernel
theorem dL_law_20 : decode cL_law 20 = .ok (.iconst 0, 1) := by decide +kernel
theorem dL_law_21 : decode cL_law 21 = .ok (.istore 4, 2) := by decide +kernel
theorem dL_law_23 : decode cL_law 23 = .ok (.iload 4, 2) := by decide +kernel
theorem dL_law_25 : decode cL_law 25 = .ok (.aload_n 0, 1) := by decide +kernel
theorem dL_law_26 : decode cL_law 26 = .ok (.arraylength, 1) := by decide +kernel
theorem dL_law_27 : decode cL_law 27 = .ok (.iconst 4, 1) := by decide +kernel
theorem dL_law_28 : decode cL_law 28 = .ok (.isub, 1) := by decide +kernel
theorem dL_law_29 : decode cL_law 29 = .ok (.if_icmp .gt 648, 3) := by decide +kernel
theorem dL_law_32 : decode cL_law 32 = .ok (.aload_n 0, 1) := by decide +kernel
theorem dL_law_33 : decode cL_law 33 = .ok (.iload 4, 2) := by decide +kernel
theorem dL_law_35 : decode cL_law 35 = .ok (.iaload, 1) := by decide +kernel
theorem dL_law_36 : decode cL_law 36 = .ok (.bipush 15, 2) := by decide +kernel
theorem dL_law_38 : decode cL_law 38 = .ok (.iand, 1) := by decide +kernel
theorem dL_law_39 : decode cL_law 39 = .ok (.tableswitch 632 0 10 #[57, 137, 197, 277, 290, 303, 316, 372, 428, 496, 576], 57) := by decide +kernel
theorem dL_law_96 : decode cL_law 96 = .ok (.aload_n 1, 1) := by decide +kernel
theorem dL_law_97 : decode cL_law 97 = .ok (.aload_n 0, 1) := by decide +kernel
theorem dL_law_98 : decode cL_law 98 = .ok (.iload 4, 2) := by decide +kernel
theorem dL_law_100 : decode cL_law 100 = .ok (.iconst 1, 1) := by decide +kernel
theorem dL_law_101 : decode cL_law 101 = .ok (.iadd, 1) := by decide +kernel
theorem dL_law_102 : decode cL_law 102 = .ok (.iaload, 1) := by decide +kernel
theorem dL_law_103 : decode cL_law 103 = .ok (.aload_n 0, 1) := by decide +kernel
theorem dL_law_104 : decode cL_law 104 = .ok (.iload 4, 2) := by decide +kernel
theorem dL_law_106 : decode cL_law 106 = .ok (.iconst 2, 1) := by decide +kernel
theorem dL_law_107 : decode cL_law 107 = .ok (.iadd, 1) := by decide +kernel
theorem dL_law_108 : decode cL_law 108 = .ok (.iaload, 1) := by decide +kernel
theorem dL_law_109 : decode cL_law 109 = .ok (.aload_n 0, 1) := by decide +kernel
theorem dL_law_110 : decode cL_law 110 = .ok (.iload 4, 2) := by decide +kernel
theorem dL_law_112 : decode cL_law 112 = .ok (.iconst 3, 1) := by decide +kernel
theorem dL_law_113 : decode cL_law 113 = .ok (.iadd, 1) := by decide +kernel
theorem dL_law_114 : decode cL_law 114 = .ok (.iaload, 1) := by decide +kernel
theorem dL_law_115 : decode cL_law 115 = .ok (.aload_n 3, 1) := by decide +kernel
theorem dL_law_116 : decode cL_law 116 = .ok (.invokestatic 45, 3) := by decide +kernel
theorem dL_law_119 : decode cL_law 119 = .ok (.istore 5, 2) := by decide +kernel
theorem dL_law_121 : decode cL_law 121 = .ok (.aload_n 2, 1) := by decide +kernel
theorem dL_law_122 : decode cL_law 122 = .ok (.aload_n 0, 1) := by decide +kernel
theorem dL_law_123 : decode cL_law 123 = .ok (.iload 4, 2) := by decide +kernel
theorem dL_law_125 : decode cL_law 125 = .ok (.iconst 1, 1) := by decide +kernel
theorem dL_law_126 : decode cL_law 126 = .ok (.iadd, 1) := by decide +kernel
theorem dL_law_127 : decode cL_law 127 = .ok (.iaload, 1) := by decide +kernel
theorem dL_law_128 : decode cL_law 128 = .ok (.aload_n 0, 1) := by decide +kernel
theorem dL_law_129 : decode cL_law 129 = .ok (.iload 4, 2) := by decide +kernel
theorem dL_law_131 : decode cL_law 131 = .ok (.iconst 2, 1) := by decide +kernel
theorem dL_law_132 : decode cL_law 132 = .ok (.iadd, 1) := by decide +kernel
theorem dL_law_133 : decode cL_law 133 = .ok (.iaload, 1) := by decide +kernel
theorem dL_law_134 : decode cL_law 134 = .ok (.aload_n 0, 1) := by decide +kernel
theorem dL_law_135 : decode cL_law 135 = .ok (.iload 4, 2) := by decide +kernel
theorem dL_law_137 : decode cL_law 137 = .ok (.iconst 3, 1) := by decide +kernel
theorem dL_law_138 : decode cL_law 138 = .ok (.iadd, 1) := by decide +kernel
theorem dL_law_139 : decode cL_law 139 = .ok (.iaload, 1) := by decide +kernel
theorem dL_law_140 : decode cL_law 140 = .ok (.invokevirtual 50, 3) := by decide +kernel
theorem dL_law_143 : decode cL_law 143 = .ok (.istore 6, 2) := by decide +kernel
theorem dL_law_145 : decode cL_law 145 = .ok (.aload_n 2, 1) := by decide +kernel
theorem dL_law_146 : decode cL_law 146 = .ok (.invokevirtual 51, 3) := by decide +kernel
theorem dL_law_149 : decode cL_law 149 = .ok (.iload 5, 2) := by decide +kernel
theorem dL_law_151 : decode cL_law 151 = .ok (.if_icmp .eq 5, 3) := by decide +kernel
theorem dL_law_154 : decode cL_law 154 = .ok (.iconst 0, 1) := by decide +kernel
theorem dL_law_155 : decode cL_law 155 = .ok (.ireturn, 1) := by decide +kernel
theorem dL_law_156 : decode cL_law 156 = .ok (.iload 5, 2) := by decide +kernel
theorem dL_law_158 : decode cL_law 158 = .ok (.ifCond .ne 15, 3) := by decide +kernel
theorem dL_law_161 : decode cL_law 161 = .ok (.aload_n 3, 1) := by decide +kernel
theorem dL_law_162 : decode cL_law 162 = .ok (.iconst 0, 1) := by decide +kernel
theorem dL_law_163 : decode cL_law 163 = .ok (.laload, 1) := by decide +kernel
theorem dL_law_164 : decode cL_law 164 = .ok (.iload 6, 2) := by decide +kernel
theorem dL_law_166 : decode cL_law 166 = .ok (.i2l, 1) := by decide +kernel
theorem dL_law_167 : decode cL_law 167 = .ok (.lcmp, 1) := by decide +kernel
theorem dL_law_168 : decode cL_law 168 = .ok (.ifCond .eq 5, 3) := by decide +kernel
theorem dL_law_171 : decode cL_law 171 = .ok (.iconst 0, 1) := by decide +kernel
theorem dL_law_172 : decode cL_law 172 = .ok (.ireturn, 1) := by decide +kernel
theorem dL_law_173 : decode cL_law 173 = .ok (.goto 498, 3) := by decide +kernel
theorem dL_law_176 : decode cL_law 176 = .ok (.aload_n 1, 1) := by decide +kernel
theorem dL_law_177 : decode cL_law 177 = .ok (.aload_n 0, 1) := by decide +kernel
theorem dL_law_178 : decode cL_law 178 = .ok (.iload 4, 2) := by decide +kernel
theorem dL_law_180 : decode cL_law 180 = .ok (.iconst 1, 1) := by decide +kernel
theorem dL_law_181 : decode cL_law 181 = .ok (.iadd, 1) := by decide +kernel
theorem dL_law_182 : decode cL_law 182 = .ok (.iaload, 1) := by decide +kernel
theorem dL_law_183 : decode cL_law 183 = .ok (.aload_n 0, 1) := by decide +kernel
theorem dL_law_184 : decode cL_law 184 = .ok (.iload 4, 2) := by decide +kernel
theorem dL_law_186 : decode cL_law 186 = .ok (.iconst 2, 1) := by decide +kernel
theorem dL_law_187 : decode cL_law 187 = .ok (.iadd, 1) := by decide +kernel
theorem dL_law_188 : decode cL_law 188 = .ok (.iaload, 1) := by decide +kernel
theorem dL_law_189 : decode cL_law 189 = .ok (.aload_n 0, 1) := by decide +kernel
theorem dL_law_190 : decode cL_law 190 = .ok (.iload 4, 2) := by decide +kernel
theorem dL_law_192 : decode cL_law 192 = .ok (.iconst 3, 1) := by decide +kernel
theorem dL_law_193 : decode cL_law 193 = .ok (.iadd, 1) := by decide +kernel
theorem dL_law_194 : decode cL_law 194 = .ok (.iaload, 1) := by decide +kernel
theorem dL_law_195 : decode cL_law 195 = .ok (.invokestatic 55, 3) := by decide +kernel
theorem dL_law_198 : decode cL_law 198 = .ok (.istore 5, 2) := by decide +kernel
theorem dL_law_200 : decode cL_law 200 = .ok (.aload_n 2, 1) := by decide +kernel
theorem dL_law_201 : decode cL_law 201 = .ok (.aload_n 0, 1) := by decide +kernel
theorem dL_law_202 : decode cL_law 202 = .ok (.iload 4, 2) := by decide +kernel
theorem dL_law_204 : decode cL_law 204 = .ok (.iconst 1, 1) := by decide +kernel
theorem dL_law_205 : decode cL_law 205 = .ok (.iadd, 1) := by decide +kernel
theorem dL_law_206 : decode cL_law 206 = .ok (.iaload, 1) := by decide +kernel
theorem dL_law_207 : decode cL_law 207 = .ok (.aload_n 0, 1) := by decide +kernel
theorem dL_law_208 : decode cL_law 208 = .ok (.iload 4, 2) := by decide +kernel
theorem dL_law_210 : decode cL_law 210 = .ok (.iconst 2, 1) := by decide +kernel
theorem dL_law_211 : decode cL_law 211 = .ok (.iadd, 1) := by decide +kernel
theorem dL_law_212 : decode cL_law 212 = .ok (.iaload, 1) := by decide +kernel
theorem dL_law_213 : decode cL_law 213 = .ok (.aload_n 0, 1) := by decide +kernel
theorem dL_law_214 : decode cL_law 214 = .ok (.iload 4, 2) := by decide +kernel
theorem dL_law_216 : decode cL_law 216 = .ok (.iconst 3, 1) := by decide +kernel
theorem dL_law_217 : decode cL_law 217 = .ok (.iadd, 1) := by decide +kernel
theorem dL_law_218 : decode cL_law 218 = .ok (.iaload, 1) := by decide +kernel
theorem dL_law_219 : decode cL_law 219 = .ok (.invokevirtual 58, 3) := by decide +kernel
theorem dL_law_222 : decode cL_law 222 = .ok (.aload_n 2, 1) := by decide +kernel
theorem dL_law_223 : decode cL_law 223 = .ok (.invokevirtual 51, 3) := by decide +kernel
theorem dL_law_226 : decode cL_law 226 = .ok (.iload 5, 2) := by decide +kernel
theorem dL_law_228 : decode cL_law 228 = .ok (.if_icmp .eq 5, 3) := by decide +kernel
theorem dL_law_231 : decode cL_law 231 = .ok (.iconst 0, 1) := by decide +kernel
theorem dL_law_232 : decode cL_law 232 = .ok (.ireturn, 1) := by decide +kernel
theorem dL_law_233 : decode cL_law 233 = .ok (.goto 438, 3) := by decide +kernel
theorem dL_law_236 : decode cL_law 236 = .ok (.aload_n 1, 1) := by decide +kernel
theorem dL_law_237 : decode cL_law 237 = .ok (.aload_n 0, 1) := by decide +kernel
theorem dL_law_238 : decode cL_law 238 = .ok (.iload 4, 2) := by decide +kernel
theorem dL_law_240 : decode cL_law 240 = .ok (.iconst 1, 1) := by decide +kernel
theorem dL_law_241 : decode cL_law 241 = .ok (.iadd, 1) := by decide +kernel
theorem dL_law_242 : decode cL_law 242 = .ok (.iaload, 1) := by decide +kernel
theorem dL_law_243 : decode cL_law 243 = .ok (.aload_n 0, 1) := by decide +kernel
theorem dL_law_244 : decode cL_law 244 = .ok (.iload 4, 2) := by decide +kernel
theorem dL_law_246 : decode cL_law 246 = .ok (.iconst 2, 1) := by decide +kernel
theorem dL_law_247 : decode cL_law 247 = .ok (.iadd, 1) := by decide +kernel
theorem dL_law_248 : decode cL_law 248 = .ok (.iaload, 1) := by decide +kernel
theorem dL_law_249 : decode cL_law 249 = .ok (.aload_n 0, 1) := by decide +kernel
theorem dL_law_250 : decode cL_law 250 = .ok (.iload 4, 2) := by decide +kernel
theorem dL_law_252 : decode cL_law 252 = .ok (.iconst 3, 1) := by decide +kernel
theorem dL_law_253 : decode cL_law 253 = .ok (.iadd, 1) := by decide +kernel
theorem dL_law_254 : decode cL_law 254 = .ok (.iaload, 1) := by decide +kernel
theorem dL_law_255 : decode cL_law 255 = .ok (.aload_n 3, 1) := by decide +kernel
theorem dL_law_256 : decode cL_law 256 = .ok (.invokestatic 59, 3) := by decide +kernel
theorem dL_law_259 : decode cL_law 259 = .ok (.istore 5, 2) := by decide +kernel
theorem dL_law_261 : decode cL_law 261 = .ok (.aload_n 2, 1) := by decide +kernel
theorem dL_law_262 : decode cL_law 262 = .ok (.aload_n 0, 1) := by decide +kernel
theorem dL_law_263 : decode cL_law 263 = .ok (.iload 4, 2) := by decide +kernel
theorem dL_law_265 : decode cL_law 265 = .ok (.iconst 1, 1) := by decide +kernel
theorem dL_law_266 : decode cL_law 266 = .ok (.iadd, 1) := by decide +kernel
theorem dL_law_267 : decode cL_law 267 = .ok (.iaload, 1) := by decide +kernel
theorem dL_law_268 : decode cL_law 268 = .ok (.aload_n 0, 1) := by decide +kernel
theorem dL_law_269 : decode cL_law 269 = .ok (.iload 4, 2) := by decide +kernel
theorem dL_law_271 : decode cL_law 271 = .ok (.iconst 2, 1) := by decide +kernel
theorem dL_law_272 : decode cL_law 272 = .ok (.iadd, 1) := by decide +kernel
theorem dL_law_273 : decode cL_law 273 = .ok (.iaload, 1) := by decide +kernel
theorem dL_law_274 : decode cL_law 274 = .ok (.aload_n 0, 1) := by decide +kernel
theorem dL_law_275 : decode cL_law 275 = .ok (.iload 4, 2) := by decide +kernel
theorem dL_law_277 : decode cL_law 277 = .ok (.iconst 3, 1) := by decide +kernel
theorem dL_law_278 : decode cL_law 278 = .ok (.iadd, 1) := by decide +kernel
theorem dL_law_279 : decode cL_law 279 = .ok (.iaload, 1) := by decide +kernel
theorem dL_law_280 : decode cL_law 280 = .ok (.invokevirtual 61, 3) := by decide +kernel
theorem dL_law_283 : decode cL_law 283 = .ok (.istore 6, 2) := by decide +kernel
theorem dL_law_285 : decode cL_law 285 = .ok (.aload_n 2, 1) := by decide +kernel
theorem dL_law_286 : decode cL_law 286 = .ok (.invokevirtual 51, 3) := by decide +kernel
theorem dL_law_289 : decode cL_law 289 = .ok (.iload 5, 2) := by decide +kernel
theorem dL_law_291 : decode cL_law 291 = .ok (.if_icmp .eq 5, 3) := by decide +kernel
theorem dL_law_294 : decode cL_law 294 = .ok (.iconst 0, 1) := by decide +kernel
theorem dL_law_295 : decode cL_law 295 = .ok (.ireturn, 1) := by decide +kernel
theorem dL_law_296 : decode cL_law 296 = .ok (.iload 5, 2) := by decide +kernel
theorem dL_law_298 : decode cL_law 298 = .ok (.ifCond .ne 15, 3) := by decide +kernel
theorem dL_law_301 : decode cL_law 301 = .ok (.aload_n 3, 1) := by decide +kernel
theorem dL_law_302 : decode cL_law 302 = .ok (.iconst 0, 1) := by decide +kernel
theorem dL_law_303 : decode cL_law 303 = .ok (.laload, 1) := by decide +kernel
theorem dL_law_304 : decode cL_law 304 = .ok (.iload 6, 2) := by decide +kernel
theorem dL_law_306 : decode cL_law 306 = .ok (.i2l, 1) := by decide +kernel
theorem dL_law_307 : decode cL_law 307 = .ok (.lcmp, 1) := by decide +kernel
theorem dL_law_308 : decode cL_law 308 = .ok (.ifCond .eq 5, 3) := by decide +kernel
theorem dL_law_311 : decode cL_law 311 = .ok (.iconst 0, 1) := by decide +kernel
theorem dL_law_312 : decode cL_law 312 = .ok (.ireturn, 1) := by decide +kernel
theorem dL_law_313 : decode cL_law 313 = .ok (.goto 358, 3) := by decide +kernel
theorem dL_law_316 : decode cL_law 316 = .ok (.aload_n 1, 1) := by decide +kernel
theorem dL_law_317 : decode cL_law 317 = .ok (.invokevirtual 62, 3) := by decide +kernel
theorem dL_law_320 : decode cL_law 320 = .ok (.aload_n 2, 1) := by decide +kernel
theorem dL_law_321 : decode cL_law 321 = .ok (.invokevirtual 65, 3) := by decide +kernel
theorem dL_law_324 : decode cL_law 324 = .ok (.if_icmp .eq 347, 3) := by decide +kernel
theorem dL_law_327 : decode cL_law 327 = .ok (.iconst 0, 1) := by decide +kernel
theorem dL_law_328 : decode cL_law 328 = .ok (.ireturn, 1) := by decide +kernel
theorem dL_law_329 : decode cL_law 329 = .ok (.aload_n 1, 1) := by decide +kernel
theorem dL_law_330 : decode cL_law 330 = .ok (.invokevirtual 66, 3) := by decide +kernel
theorem dL_law_333 : decode cL_law 333 = .ok (.aload_n 2, 1) := by decide +kernel
theorem dL_law_334 : decode cL_law 334 = .ok (.invokevirtual 69, 3) := by decide +kernel
theorem dL_law_337 : decode cL_law 337 = .ok (.if_icmp .eq 334, 3) := by decide +kernel
theorem dL_law_340 : decode cL_law 340 = .ok (.iconst 0, 1) := by decide +kernel
theorem dL_law_341 : decode cL_law 341 = .ok (.ireturn, 1) := by decide +kernel
theorem dL_law_342 : decode cL_law 342 = .ok (.aload_n 1, 1) := by decide +kernel
theorem dL_law_343 : decode cL_law 343 = .ok (.invokevirtual 70, 3) := by decide +kernel
theorem dL_law_346 : decode cL_law 346 = .ok (.aload_n 2, 1) := by decide +kernel
theorem dL_law_347 : decode cL_law 347 = .ok (.invokevirtual 73, 3) := by decide +kernel
theorem dL_law_350 : decode cL_law 350 = .ok (.if_icmp .eq 321, 3) := by decide +kernel
theorem dL_law_353 : decode cL_law 353 = .ok (.iconst 0, 1) := by decide +kernel
theorem dL_law_354 : decode cL_law 354 = .ok (.ireturn, 1) := by decide +kernel
theorem dL_law_355 : decode cL_law 355 = .ok (.aload_n 1, 1) := by decide +kernel
theorem dL_law_356 : decode cL_law 356 = .ok (.aload_n 0, 1) := by decide +kernel
theorem dL_law_357 : decode cL_law 357 = .ok (.iload 4, 2) := by decide +kernel
theorem dL_law_359 : decode cL_law 359 = .ok (.iconst 1, 1) := by decide +kernel
theorem dL_law_360 : decode cL_law 360 = .ok (.iadd, 1) := by decide +kernel
theorem dL_law_361 : decode cL_law 361 = .ok (.iaload, 1) := by decide +kernel
theorem dL_law_362 : decode cL_law 362 = .ok (.aload_n 3, 1) := by decide +kernel
theorem dL_law_363 : decode cL_law 363 = .ok (.invokestatic 74, 3) := by decide +kernel
theorem dL_law_366 : decode cL_law 366 = .ok (.istore 5, 2) := by decide +kernel
theorem dL_law_368 : decode cL_law 368 = .ok (.aload_n 2, 1) := by decide +kernel
theorem dL_law_369 : decode cL_law 369 = .ok (.aload_n 0, 1) := by decide +kernel
theorem dL_law_370 : decode cL_law 370 = .ok (.iload 4, 2) := by decide +kernel
theorem dL_law_372 : decode cL_law 372 = .ok (.iconst 1, 1) := by decide +kernel
theorem dL_law_373 : decode cL_law 373 = .ok (.iadd, 1) := by decide +kernel
theorem dL_law_374 : decode cL_law 374 = .ok (.iaload, 1) := by decide +kernel
theorem dL_law_375 : decode cL_law 375 = .ok (.invokevirtual 77, 3) := by decide +kernel
theorem dL_law_378 : decode cL_law 378 = .ok (.istore 6, 2) := by decide +kernel
theorem dL_law_380 : decode cL_law 380 = .ok (.aload_n 2, 1) := by decide +kernel
theorem dL_law_381 : decode cL_law 381 = .ok (.invokevirtual 51, 3) := by decide +kernel
theorem dL_law_384 : decode cL_law 384 = .ok (.iload 5, 2) := by decide +kernel
theorem dL_law_386 : decode cL_law 386 = .ok (.if_icmp .eq 5, 3) := by decide +kernel
theorem dL_law_389 : decode cL_law 389 = .ok (.iconst 0, 1) := by decide +kernel
theorem dL_law_390 : decode cL_law 390 = .ok (.ireturn, 1) := by decide +kernel
theorem dL_law_391 : decode cL_law 391 = .ok (.iload 5, 2) := by decide +kernel
theorem dL_law_393 : decode cL_law 393 = .ok (.ifCond .ne 15, 3) := by decide +kernel
theorem dL_law_396 : decode cL_law 396 = .ok (.aload_n 3, 1) := by decide +kernel
theorem dL_law_397 : decode cL_law 397 = .ok (.iconst 0, 1) := by decide +kernel
theorem dL_law_398 : decode cL_law 398 = .ok (.laload, 1) := by decide +kernel
theorem dL_law_399 : decode cL_law 399 = .ok (.iload 6, 2) := by decide +kernel
theorem dL_law_401 : decode cL_law 401 = .ok (.i2l, 1) := by decide +kernel
theorem dL_law_402 : decode cL_law 402 = .ok (.lcmp, 1) := by decide +kernel
theorem dL_law_403 : decode cL_law 403 = .ok (.ifCond .eq 5, 3) := by decide +kernel
theorem dL_law_406 : decode cL_law 406 = .ok (.iconst 0, 1) := by decide +kernel
theorem dL_law_407 : decode cL_law 407 = .ok (.ireturn, 1) := by decide +kernel
theorem dL_law_408 : decode cL_law 408 = .ok (.goto 263, 3) := by decide +kernel
theorem dL_law_411 : decode cL_law 411 = .ok (.aload_n 1, 1) := by decide +kernel
theorem dL_law_412 : decode cL_law 412 = .ok (.aload_n 0, 1) := by decide +kernel
theorem dL_law_413 : decode cL_law 413 = .ok (.iload 4, 2) := by decide +kernel
theorem dL_law_415 : decode cL_law 415 = .ok (.iconst 1, 1) := by decide +kernel
theorem dL_law_416 : decode cL_law 416 = .ok (.iadd, 1) := by decide +kernel
theorem dL_law_417 : decode cL_law 417 = .ok (.iaload, 1) := by decide +kernel
theorem dL_law_418 : decode cL_law 418 = .ok (.aload_n 3, 1) := by decide +kernel
theorem dL_law_419 : decode cL_law 419 = .ok (.invokestatic 78, 3) := by decide +kernel
theorem dL_law_422 : decode cL_law 422 = .ok (.istore 5, 2) := by decide +kernel
theorem dL_law_424 : decode cL_law 424 = .ok (.aload_n 2, 1) := by decide +kernel
theorem dL_law_425 : decode cL_law 425 = .ok (.aload_n 0, 1) := by decide +kernel
theorem dL_law_426 : decode cL_law 426 = .ok (.iload 4, 2) := by decide +kernel
theorem dL_law_428 : decode cL_law 428 = .ok (.iconst 1, 1) := by decide +kernel
theorem dL_law_429 : decode cL_law 429 = .ok (.iadd, 1) := by decide +kernel
theorem dL_law_430 : decode cL_law 430 = .ok (.iaload, 1) := by decide +kernel
theorem dL_law_431 : decode cL_law 431 = .ok (.invokevirtual 80, 3) := by decide +kernel
theorem dL_law_434 : decode cL_law 434 = .ok (.istore 6, 2) := by decide +kernel
theorem dL_law_436 : decode cL_law 436 = .ok (.aload_n 2, 1) := by decide +kernel
theorem dL_law_437 : decode cL_law 437 = .ok (.invokevirtual 51, 3) := by decide +kernel
theorem dL_law_440 : decode cL_law 440 = .ok (.iload 5, 2) := by decide +kernel
theorem dL_law_442 : decode cL_law 442 = .ok (.if_icmp .eq 5, 3) := by decide +kernel
theorem dL_law_445 : decode cL_law 445 = .ok (.iconst 0, 1) := by decide +kernel
theorem dL_law_446 : decode cL_law 446 = .ok (.ireturn, 1) := by decide +kernel
theorem dL_law_447 : decode cL_law 447 = .ok (.iload 5, 2) := by decide +kernel
theorem dL_law_449 : decode cL_law 449 = .ok (.ifCond .ne 15, 3) := by decide +kernel
theorem dL_law_452 : decode cL_law 452 = .ok (.aload_n 3, 1) := by decide +kernel
theorem dL_law_453 : decode cL_law 453 = .ok (.iconst 0, 1) := by decide +kernel
theorem dL_law_454 : decode cL_law 454 = .ok (.laload, 1) := by decide +kernel
theorem dL_law_455 : decode cL_law 455 = .ok (.iload 6, 2) := by decide +kernel
theorem dL_law_457 : decode cL_law 457 = .ok (.i2l, 1) := by decide +kernel
theorem dL_law_458 : decode cL_law 458 = .ok (.lcmp, 1) := by decide +kernel
theorem dL_law_459 : decode cL_law 459 = .ok (.ifCond .eq 5, 3) := by decide +kernel
theorem dL_law_462 : decode cL_law 462 = .ok (.iconst 0, 1) := by decide +kernel
theorem dL_law_463 : decode cL_law 463 = .ok (.ireturn, 1) := by decide +kernel
theorem dL_law_464 : decode cL_law 464 = .ok (.goto 207, 3) := by decide +kernel
theorem dL_law_467 : decode cL_law 467 = .ok (.aload_n 1, 1) := by decide +kernel
theorem dL_law_468 : decode cL_law 468 = .ok (.aload_n 0, 1) := by decide +kernel
theorem dL_law_469 : decode cL_law 469 = .ok (.iload 4, 2) := by decide +kernel
theorem dL_law_471 : decode cL_law 471 = .ok (.iconst 1, 1) := by decide +kernel
theorem dL_law_472 : decode cL_law 472 = .ok (.iadd, 1) := by decide +kernel
theorem dL_law_473 : decode cL_law 473 = .ok (.iaload, 1) := by decide +kernel
theorem dL_law_474 : decode cL_law 474 = .ok (.aload_n 0, 1) := by decide +kernel
theorem dL_law_475 : decode cL_law 475 = .ok (.iload 4, 2) := by decide +kernel
theorem dL_law_477 : decode cL_law 477 = .ok (.iconst 2, 1) := by decide +kernel
theorem dL_law_478 : decode cL_law 478 = .ok (.iadd, 1) := by decide +kernel
theorem dL_law_479 : decode cL_law 479 = .ok (.iaload, 1) := by decide +kernel
theorem dL_law_480 : decode cL_law 480 = .ok (.aload_n 3, 1) := by decide +kernel
theorem dL_law_481 : decode cL_law 481 = .ok (.invokestatic 81, 3) := by decide +kernel
theorem dL_law_484 : decode cL_law 484 = .ok (.istore 5, 2) := by decide +kernel
theorem dL_law_486 : decode cL_law 486 = .ok (.aload_n 2, 1) := by decide +kernel
theorem dL_law_487 : decode cL_law 487 = .ok (.aload_n 0, 1) := by decide +kernel
theorem dL_law_488 : decode cL_law 488 = .ok (.iload 4, 2) := by decide +kernel
theorem dL_law_490 : decode cL_law 490 = .ok (.iconst 1, 1) := by decide +kernel
theorem dL_law_491 : decode cL_law 491 = .ok (.iadd, 1) := by decide +kernel
theorem dL_law_492 : decode cL_law 492 = .ok (.iaload, 1) := by decide +kernel
theorem dL_law_493 : decode cL_law 493 = .ok (.aload_n 0, 1) := by decide +kernel
theorem dL_law_494 : decode cL_law 494 = .ok (.iload 4, 2) := by decide +kernel
theorem dL_law_496 : decode cL_law 496 = .ok (.iconst 2, 1) := by decide +kernel
theorem dL_law_497 : decode cL_law 497 = .ok (.iadd, 1) := by decide +kernel
theorem dL_law_498 : decode cL_law 498 = .ok (.iaload, 1) := by decide +kernel
theorem dL_law_499 : decode cL_law 499 = .ok (.invokevirtual 84, 3) := by decide +kernel
theorem dL_law_502 : decode cL_law 502 = .ok (.istore 6, 2) := by decide +kernel
theorem dL_law_504 : decode cL_law 504 = .ok (.aload_n 2, 1) := by decide +kernel
theorem dL_law_505 : decode cL_law 505 = .ok (.invokevirtual 51, 3) := by decide +kernel
theorem dL_law_508 : decode cL_law 508 = .ok (.iload 5, 2) := by decide +kernel
theorem dL_law_510 : decode cL_law 510 = .ok (.if_icmp .eq 5, 3) := by decide +kernel
theorem dL_law_513 : decode cL_law 513 = .ok (.iconst 0, 1) := by decide +kernel
theorem dL_law_514 : decode cL_law 514 = .ok (.ireturn, 1) := by decide +kernel
theorem dL_law_515 : decode cL_law 515 = .ok (.iload 5, 2) := by decide +kernel
theorem dL_law_517 : decode cL_law 517 = .ok (.ifCond .ne 15, 3) := by decide +kernel
theorem dL_law_520 : decode cL_law 520 = .ok (.aload_n 3, 1) := by decide +kernel
theorem dL_law_521 : decode cL_law 521 = .ok (.iconst 0, 1) := by decide +kernel
theorem dL_law_522 : decode cL_law 522 = .ok (.laload, 1) := by decide +kernel
theorem dL_law_523 : decode cL_law 523 = .ok (.iload 6, 2) := by decide +kernel
theorem dL_law_525 : decode cL_law 525 = .ok (.i2l, 1) := by decide +kernel
theorem dL_law_526 : decode cL_law 526 = .ok (.lcmp, 1) := by decide +kernel
theorem dL_law_527 : decode cL_law 527 = .ok (.ifCond .eq 5, 3) := by decide +kernel
theorem dL_law_530 : decode cL_law 530 = .ok (.iconst 0, 1) := by decide +kernel
theorem dL_law_531 : decode cL_law 531 = .ok (.ireturn, 1) := by decide +kernel
theorem dL_law_532 : decode cL_law 532 = .ok (.goto 139, 3) := by decide +kernel
theorem dL_law_535 : decode cL_law 535 = .ok (.aload_n 1, 1) := by decide +kernel
theorem dL_law_536 : decode cL_law 536 = .ok (.aload_n 0, 1) := by decide +kernel
theorem dL_law_537 : decode cL_law 537 = .ok (.iload 4, 2) := by decide +kernel
theorem dL_law_539 : decode cL_law 539 = .ok (.iconst 1, 1) := by decide +kernel
theorem dL_law_540 : decode cL_law 540 = .ok (.iadd, 1) := by decide +kernel
theorem dL_law_541 : decode cL_law 541 = .ok (.iaload, 1) := by decide +kernel
theorem dL_law_542 : decode cL_law 542 = .ok (.aload_n 0, 1) := by decide +kernel
theorem dL_law_543 : decode cL_law 543 = .ok (.iload 4, 2) := by decide +kernel
theorem dL_law_545 : decode cL_law 545 = .ok (.iconst 2, 1) := by decide +kernel
theorem dL_law_546 : decode cL_law 546 = .ok (.iadd, 1) := by decide +kernel
theorem dL_law_547 : decode cL_law 547 = .ok (.iaload, 1) := by decide +kernel
theorem dL_law_548 : decode cL_law 548 = .ok (.aload_n 0, 1) := by decide +kernel
theorem dL_law_549 : decode cL_law 549 = .ok (.iload 4, 2) := by decide +kernel
theorem dL_law_551 : decode cL_law 551 = .ok (.iconst 3, 1) := by decide +kernel
theorem dL_law_552 : decode cL_law 552 = .ok (.iadd, 1) := by decide +kernel
theorem dL_law_553 : decode cL_law 553 = .ok (.iaload, 1) := by decide +kernel
theorem dL_law_554 : decode cL_law 554 = .ok (.aload_n 3, 1) := by decide +kernel
theorem dL_law_555 : decode cL_law 555 = .ok (.invokestatic 85, 3) := by decide +kernel
theorem dL_law_558 : decode cL_law 558 = .ok (.istore 5, 2) := by decide +kernel
theorem dL_law_560 : decode cL_law 560 = .ok (.aload_n 2, 1) := by decide +kernel
theorem dL_law_561 : decode cL_law 561 = .ok (.aload_n 0, 1) := by decide +kernel
theorem dL_law_562 : decode cL_law 562 = .ok (.iload 4, 2) := by decide +kernel
theorem dL_law_564 : decode cL_law 564 = .ok (.iconst 1, 1) := by decide +kernel
theorem dL_law_565 : decode cL_law 565 = .ok (.iadd, 1) := by decide +kernel
theorem dL_law_566 : decode cL_law 566 = .ok (.iaload, 1) := by decide +kernel
theorem dL_law_567 : decode cL_law 567 = .ok (.aload_n 0, 1) := by decide +kernel
theorem dL_law_568 : decode cL_law 568 = .ok (.iload 4, 2) := by decide +kernel
theorem dL_law_570 : decode cL_law 570 = .ok (.iconst 2, 1) := by decide +kernel
theorem dL_law_571 : decode cL_law 571 = .ok (.iadd, 1) := by decide +kernel
theorem dL_law_572 : decode cL_law 572 = .ok (.iaload, 1) := by decide +kernel
theorem dL_law_573 : decode cL_law 573 = .ok (.aload_n 0, 1) := by decide +kernel
theorem dL_law_574 : decode cL_law 574 = .ok (.iload 4, 2) := by decide +kernel
theorem dL_law_576 : decode cL_law 576 = .ok (.iconst 3, 1) := by decide +kernel
theorem dL_law_577 : decode cL_law 577 = .ok (.iadd, 1) := by decide +kernel
theorem dL_law_578 : decode cL_law 578 = .ok (.iaload, 1) := by decide +kernel
theorem dL_law_579 : decode cL_law 579 = .ok (.invokevirtual 87, 3) := by decide +kernel
theorem dL_law_582 : decode cL_law 582 = .ok (.istore 6, 2) := by decide +kernel
theorem dL_law_584 : decode cL_law 584 = .ok (.aload_n 2, 1) := by decide +kernel
theorem dL_law_585 : decode cL_law 585 = .ok (.invokevirtual 51, 3) := by decide +kernel
theorem dL_law_588 : decode cL_law 588 = .ok (.iload 5, 2) := by decide +kernel
theorem dL_law_590 : decode cL_law 590 = .ok (.if_icmp .eq 5, 3) := by decide +kernel
theorem dL_law_593 : decode cL_law 593 = .ok (.iconst 0, 1) := by decide +kernel
theorem dL_law_594 : decode cL_law 594 = .ok (.ireturn, 1) := by decide +kernel
theorem dL_law_595 : decode cL_law 595 = .ok (.iload 5, 2) := by decide +kernel
theorem dL_law_597 : decode cL_law 597 = .ok (.ifCond .ne 15, 3) := by decide +kernel
theorem dL_law_600 : decode cL_law 600 = .ok (.aload_n 3, 1) := by decide +kernel
theorem dL_law_601 : decode cL_law 601 = .ok (.iconst 0, 1) := by decide +kernel
theorem dL_law_602 : decode cL_law 602 = .ok (.laload, 1) := by decide +kernel
theorem dL_law_603 : decode cL_law 603 = .ok (.iload 6, 2) := by decide +kernel
theorem dL_law_605 : decode cL_law 605 = .ok (.i2l, 1) := by decide +kernel
theorem dL_law_606 : decode cL_law 606 = .ok (.lcmp, 1) := by decide +kernel
theorem dL_law_607 : decode cL_law 607 = .ok (.ifCond .eq 5, 3) := by decide +kernel
theorem dL_law_610 : decode cL_law 610 = .ok (.iconst 0, 1) := by decide +kernel
theorem dL_law_611 : decode cL_law 611 = .ok (.ireturn, 1) := by decide +kernel
theorem dL_law_612 : decode cL_law 612 = .ok (.goto 59, 3) := by decide +kernel
theorem dL_law_615 : decode cL_law 615 = .ok (.aload_n 1, 1) := by decide +kernel
theorem dL_law_616 : decode cL_law 616 = .ok (.aload_n 0, 1) := by decide +kernel
theorem dL_law_617 : decode cL_law 617 = .ok (.iload 4, 2) := by decide +kernel
theorem dL_law_619 : decode cL_law 619 = .ok (.iconst 1, 1) := by decide +kernel
theorem dL_law_620 : decode cL_law 620 = .ok (.iadd, 1) := by decide +kernel
theorem dL_law_621 : decode cL_law 621 = .ok (.iaload, 1) := by decide +kernel
theorem dL_law_622 : decode cL_law 622 = .ok (.aload_n 3, 1) := by decide +kernel
theorem dL_law_623 : decode cL_law 623 = .ok (.invokestatic 88, 3) := by decide +kernel
theorem dL_law_626 : decode cL_law 626 = .ok (.istore 5, 2) := by decide +kernel
theorem dL_law_628 : decode cL_law 628 = .ok (.aload_n 2, 1) := by decide +kernel
theorem dL_law_629 : decode cL_law 629 = .ok (.aload_n 0, 1) := by decide +kernel
theorem dL_law_630 : decode cL_law 630 = .ok (.iload 4, 2) := by decide +kernel
theorem dL_law_632 : decode cL_law 632 = .ok (.iconst 1, 1) := by decide +kernel
theorem dL_law_633 : decode cL_law 633 = .ok (.iadd, 1) := by decide +kernel
theorem dL_law_634 : decode cL_law 634 = .ok (.iaload, 1) := by decide +kernel
theorem dL_law_635 : decode cL_law 635 = .ok (.invokevirtual 90, 3) := by decide +kernel
theorem dL_law_638 : decode cL_law 638 = .ok (.istore 6, 2) := by decide +kernel
theorem dL_law_640 : decode cL_law 640 = .ok (.aload_n 2, 1) := by decide +kernel
theorem dL_law_641 : decode cL_law 641 = .ok (.invokevirtual 51, 3) := by decide +kernel
theorem dL_law_644 : decode cL_law 644 = .ok (.iload 5, 2) := by decide +kernel
theorem dL_law_646 : decode cL_law 646 = .ok (.if_icmp .eq 5, 3) := by decide +kernel
theorem dL_law_649 : decode cL_law 649 = .ok (.iconst 0, 1) := by decide +kernel
theorem dL_law_650 : decode cL_law 650 = .ok (.ireturn, 1) := by decide +kernel
theorem dL_law_651 : decode cL_law 651 = .ok (.iload 5, 2) := by decide +kernel
theorem dL_law_653 : decode cL_law 653 = .ok (.ifCond .ne 15, 3) := by decide +kernel
theorem dL_law_656 : decode cL_law 656 = .ok (.aload_n 3, 1) := by decide +kernel
theorem dL_law_657 : decode cL_law 657 = .ok (.iconst 0, 1) := by decide +kernel
theorem dL_law_658 : decode cL_law 658 = .ok (.laload, 1) := by decide +kernel
theorem dL_law_659 : decode cL_law 659 = .ok (.iload 6, 2) := by decide +kernel
theorem dL_law_661 : decode cL_law 661 = .ok (.i2l, 1) := by decide +kernel
theorem dL_law_662 : decode cL_law 662 = .ok (.lcmp, 1) := by decide +kernel
theorem dL_law_663 : decode cL_law 663 = .ok (.ifCond .eq 5, 3) := by decide +kernel
theorem dL_law_666 : decode cL_law 666 = .ok (.iconst 0, 1) := by decide +kernel
theorem dL_law_667 : decode cL_law 667 = .ok (.ireturn, 1) := by decide +kernel
theorem dL_law_668 : decode cL_law 668 = .ok (.goto 3, 3) := by decide +kernel
theorem dL_law_671 : decode cL_law 671 = .ok (.iinc 4 4, 3) := by decide +kernel
theorem dL_law_674 : decode cL_law 674 = .ok (.goto (-651), 3) := by decide +kernel
theorem dL_law_677 : decode cL_law 677 = .ok (.iconst 1, 1) := by decide +kernel
theorem dL_law_678 : decode cL_law 678 = .ok (.ireturn, 1) := by decide +kernel
abbrev vwCl : List vw_C := [(RX0, TX0, 15), (RX1, TX1, 2), (RX2, TX2, 7), (RX3, TX3, 22)]
end
section
/-! THE LOGICAL MACHINE. A world of n places; place k lies at the address B + k; a reference in a place, a local or on the stack is the place's number; the script (the law's array) is told by a float, at the address b. -/
abbrev lm_L : Type := Nat → va_E
abbrev lm_O : Type := List (Option Value)
abbrev lm_K : Type := Nat → lm_O → List Value → Nat → lm_L → Nat → Nat → Prop
abbrev lm_Q : Type := Option Value → Nat → lm_L → Prop
abbrev lm_X : Type := String → Nat → lm_L → Prop
abbrev lm_S : Type := List Value → Nat → lm_L → lm_Q → lm_X → Prop
/-- a callee as a caller sees it: how many values it takes (the receiver among them), its receiver's kind, what it does, the cells and slots that it may make -/
abbrev lm_C : Type := Nat × Nat × lm_S × Nat × Nat
/-- fields: pool number to (kind of object, place of the field, type: 0 int, 1 boolean, 2 a reference, final) -/
abbrev lm_E : Type := (Nat → Option (Nat × Nat × Nat)) × (Nat → Option lm_C) × (Nat → Option lm_C) × (Nat → Option lm_C) × (Nat → Option Int32) × (Nat → Option String) × (Nat → String → Option Nat) × (Nat → ClassId) × Option (Nat × (Nat → Int32)) × (Nat → Option (Nat × List Value)) × Nat × Nat × Bool × Option Nat × Bool
abbrev lm_fld (E : lm_E) : Nat → Option (Nat × Nat × Nat) := E.1
abbrev lm_cv (E : lm_E) : Nat → Option lm_C := E.2.1
abbrev lm_cs (E : lm_E) : Nat → Option lm_C := E.2.2.1
abbrev lm_ci (E : lm_E) : Nat → Option lm_C := E.2.2.2.1
abbrev lm_kon (E : lm_E) : Nat → Option Int32 := E.2.2.2.2.1
abbrev lm_thr (E : lm_E) : Nat → Option String := E.2.2.2.2.2.1
abbrev lm_ct (E : lm_E) : Nat → String → Option Nat := E.2.2.2.2.2.2.1
abbrev lm_id (E : lm_E) : Nat → ClassId := E.2.2.2.2.2.2.2.1
abbrev lm_scr (E : lm_E) : Option (Nat × (Nat → Int32)) := E.2.2.2.2.2.2.2.2.1
abbrev lm_new (E : lm_E) : Nat → Option (Nat × List Value) := E.2.2.2.2.2.2.2.2.2.1
abbrev lm_mc (E : lm_E) : Nat := E.2.2.2.2.2.2.2.2.2.2.1
abbrev lm_ms (E : lm_E) : Nat := E.2.2.2.2.2.2.2.2.2.2.2.1
abbrev lm_ini (E : lm_E) : Bool := E.2.2.2.2.2.2.2.2.2.2.2.2.1
abbrev lm_cpj (E : lm_E) : Option Nat := E.2.2.2.2.2.2.2.2.2.2.2.2.2.1
abbrev lm_alc (E : lm_E) : Bool := E.2.2.2.2.2.2.2.2.2.2.2.2.2.2
def lm_ldi (lo : lm_O) (i : Nat) (k : Int32 → Prop) : Prop := match lo[i]? with
  | some (some (.int x)) => k x
  | _ => False
def lm_lda (lo : lm_O) (i : Nat) (k : Value → Prop) : Prop := match lo[i]? with
  | some (some (.ref a)) => k (.ref a)
  | some (some .null) => k .null
  | some (some (.float f)) => k (.float f)
  | _ => False
def lm_s1 (st : List Value) (k : Int32 → List Value → Prop) : Prop := match st with
  | .int x :: r => k x r
  | _ => False
def lm_s2 (st : List Value) (k : Int32 → Int32 → List Value → Prop) : Prop := match st with
  | .int y :: .int x :: r => k x y r
  | _ => False
def lm_sr (st : List Value) (k : Nat → List Value → Prop) : Prop := match st with
  | .ref a :: r => k a r
  | _ => False
/-- an object of the kind ci: its fields -/
def lm_ob (c : va_E) (ci : Nat) (k : List Value → Prop) : Prop := match c with
  | .inr o => o.1 = ci ∧ k o.2
  | .inl _ => False
/-- an array of ints (or booleans) of the class cA -/
def lm_ia (c : va_E) (cA : ClassId) (k : Nat → (Nat → Int32) → Prop) : Prop := match c with
  | .inl (c1, len, .inl f) => c1 = cA ∧ k len f
  | _ => False
def lm_la (c : va_E) (cA : ClassId) (k : Nat → (Nat → Int64) → Prop) : Prop := match c with
  | .inl (c1, len, .inr (.inl f)) => c1 = cA ∧ k len f
  | _ => False
def lm_qa (c : va_E) (k : ClassId → Nat → (Nat → Option Nat) → Prop) : Prop := match c with
  | .inl (c1, len, .inr (.inr (.inr (.inr f)))) => k c1 len f
  | _ => False
def lm_at {α : Type} (o : Option α) (k : α → Prop) : Prop := match o with
  | some v => k v
  | none => False
/-- what a field of the type ty takes -/
def lm_fit (E : lm_E) (ty : Nat) (v : Value) : Prop := match ty, v with
  | 0, .int _ => True
  | 1, .int x => x = 0 ∨ x = 1
  | 2, .ref _ => lm_ini E = true
  | _, _ => False
def lm_pop : Nat → List Value → List Value → (List Value → List Value → Prop) → Prop
  | 0, st, acc, k => k acc st
  | m + 1, v :: st, acc, k => lm_pop m st (v :: acc) k
  | _ + 1, [], _, _ => False
def lm_to (pc : Nat) (off : Int) (k : Nat → Prop) : Prop := 0 ≤ (pc : Int) + off ∧ k ((pc : Int) + off).toNat
/-- a call: what it may throw goes to a row of the table here, or on to the caller -/
def lm_do (E : lm_E) (X : lm_X) (K : lm_K) (pc : Nat) (lo : lm_O) (r : List Value) (wp : lm_S) (mc ms : Nat) (As : List Value) (n : Nat) (L : lm_L) (bc bs : Nat) : Prop :=
  bc + mc ≤ lm_mc E ∧ bs + ms ≤ lm_ms E ∧ (r.map fun v => v.category).sum ≤ 8 ∧
  wp As n L (fun rv n1 L1 => K (pc + 3) lo (rv.toList ++ r) n1 L1 (bc + mc) (bs + ms)) (fun en n1 L1 => match lm_ct E pc en with
    | some h => ∀ k : Nat, K h lo [.retAddr k] n1 L1 (bc + mc) (bs + ms)
    | none => X en n1 L1)
def lm_step (E : lm_E) (Q : lm_Q) (X : lm_X) (K : lm_K) (i : Instr) (len pc : Nat) (lo : lm_O) (st : List Value) (n : Nat) (L : lm_L) (bc bs : Nat) : Prop :=
  match i with
  | .iconst v => len = 1 ∧ K (pc + 1) lo (.int (Int32.ofInt v) :: st) n L bc bs
  | .bipush v => len = 2 ∧ K (pc + 2) lo (.int (Int8.ofInt v).toInt32 :: st) n L bc bs
  | .sipush v => len = 3 ∧ K (pc + 3) lo (.int (Int16.ofInt v).toInt32 :: st) n L bc bs
  | .aconst_null => len = 1 ∧ K (pc + 1) lo (.null :: st) n L bc bs
  | .ldc j => len = 2 ∧ lm_at (lm_kon E j) fun v => K (pc + 2) lo (.int v :: st) n L bc bs
  | .iload_n j => len = 1 ∧ lm_ldi lo j.val fun x => K (pc + 1) lo (.int x :: st) n L bc bs
  | .iload j => len = 2 ∧ lm_ldi lo j fun x => K (pc + 2) lo (.int x :: st) n L bc bs
  | .aload_n j => len = 1 ∧ lm_lda lo j.val fun x => K (pc + 1) lo (x :: st) n L bc bs
  | .aload j => len = 2 ∧ lm_lda lo j fun x => K (pc + 2) lo (x :: st) n L bc bs
  | .istore_n j => len = 1 ∧ j.val < lo.length ∧ lm_s1 st fun x r => K (pc + 1) (lo.set j.val (some (.int x))) r n L bc bs
  | .istore j => len = 2 ∧ j < lo.length ∧ lm_s1 st fun x r => K (pc + 2) (lo.set j (some (.int x))) r n L bc bs
  | .astore_n j => len = 1 ∧ j.val < lo.length ∧ (match st with
    | .ref a :: r => K (pc + 1) (lo.set j.val (some (.ref a))) r n L bc bs
    | .null :: r => K (pc + 1) (lo.set j.val (some .null)) r n L bc bs
    | .retAddr a :: r => K (pc + 1) (lo.set j.val (some (.retAddr a))) r n L bc bs
    | _ => False)
  | .astore j => len = 2 ∧ j < lo.length ∧ (match st with
    | .ref a :: r => K (pc + 2) (lo.set j (some (.ref a))) r n L bc bs
    | .null :: r => K (pc + 2) (lo.set j (some .null)) r n L bc bs
    | .retAddr a :: r => K (pc + 2) (lo.set j (some (.retAddr a))) r n L bc bs
    | _ => False)
  | .iinc j v => len = 3 ∧ j < lo.length ∧ lm_ldi lo j fun x => K (pc + 3) (lo.set j (some (.int (x + Int32.ofInt v)))) st n L bc bs
  | .iadd => len = 1 ∧ lm_s2 st fun x y r => K (pc + 1) lo (.int (x + y) :: r) n L bc bs
  | .isub => len = 1 ∧ lm_s2 st fun x y r => K (pc + 1) lo (.int (x - y) :: r) n L bc bs
  | .imul => len = 1 ∧ lm_s2 st fun x y r => K (pc + 1) lo (.int (x * y) :: r) n L bc bs
  | .iand => len = 1 ∧ lm_s2 st fun x y r => K (pc + 1) lo (.int (x &&& y) :: r) n L bc bs
  | .ixor => len = 1 ∧ lm_s2 st fun x y r => K (pc + 1) lo (.int (x ^^^ y) :: r) n L bc bs
  | .idiv => len = 1 ∧ lm_s2 st fun x y r => (¬ y = 0) ∧ K (pc + 1) lo (.int (x / y) :: r) n L bc bs
  | .irem => len = 1 ∧ lm_s2 st fun x y r => (¬ y = 0) ∧ K (pc + 1) lo (.int (x - x / y * y) :: r) n L bc bs
  | .i2l => len = 1 ∧ lm_s1 st fun x r => K (pc + 1) lo (.long x.toInt64 :: r) n L bc bs
  | .lcmp => len = 1 ∧ (match st with
    | .long y :: .long x :: r => K (pc + 1) lo (.int (lg_cmp x y) :: r) n L bc bs
    | _ => False)
  | .dup => len = 1 ∧ (match st with
    | v :: r => v.category = 1 ∧ K (pc + 1) lo (v :: v :: r) n L bc bs
    | _ => False)
  | .dup2 => len = 1 ∧ (match st with
    | v :: u :: r => v.category = 1 ∧ u.category = 1 ∧ K (pc + 1) lo (v :: u :: v :: u :: r) n L bc bs
    | _ => False)
  | .pop => len = 1 ∧ (match st with
    | v :: r => v.category = 1 ∧ K (pc + 1) lo r n L bc bs
    | _ => False)
  | .goto o => len = 3 ∧ lm_to pc o fun t => K t lo st n L bc bs
  | .ifCond .eq o => len = 3 ∧ 0 ≤ (pc : Int) + o ∧ lm_s1 st fun x r => (x = 0 → K ((pc : Int) + o).toNat lo r n L bc bs) ∧ (¬ x = 0 → K (pc + 3) lo r n L bc bs)
  | .ifCond .ne o => len = 3 ∧ 0 ≤ (pc : Int) + o ∧ lm_s1 st fun x r => ((¬ x = 0) → K ((pc : Int) + o).toNat lo r n L bc bs) ∧ (x = 0 → K (pc + 3) lo r n L bc bs)
  | .ifCond .lt o => len = 3 ∧ 0 ≤ (pc : Int) + o ∧ lm_s1 st fun x r => (x < 0 → K ((pc : Int) + o).toNat lo r n L bc bs) ∧ (¬ x < 0 → K (pc + 3) lo r n L bc bs)
  | .ifCond .ge o => len = 3 ∧ 0 ≤ (pc : Int) + o ∧ lm_s1 st fun x r => ((¬ x < 0) → K ((pc : Int) + o).toNat lo r n L bc bs) ∧ (x < 0 → K (pc + 3) lo r n L bc bs)
  | .ifCond .gt o => len = 3 ∧ 0 ≤ (pc : Int) + o ∧ lm_s1 st fun x r => ((¬ x ≤ 0) → K ((pc : Int) + o).toNat lo r n L bc bs) ∧ (x ≤ 0 → K (pc + 3) lo r n L bc bs)
  | .ifCond .le o => len = 3 ∧ 0 ≤ (pc : Int) + o ∧ lm_s1 st fun x r => (x ≤ 0 → K ((pc : Int) + o).toNat lo r n L bc bs) ∧ (¬ x ≤ 0 → K (pc + 3) lo r n L bc bs)
  | .if_icmp .eq o => len = 3 ∧ 0 ≤ (pc : Int) + o ∧ lm_s2 st fun x y r => (x = y → K ((pc : Int) + o).toNat lo r n L bc bs) ∧ (¬ x = y → K (pc + 3) lo r n L bc bs)
  | .if_icmp .ne o => len = 3 ∧ 0 ≤ (pc : Int) + o ∧ lm_s2 st fun x y r => ((¬ x = y) → K ((pc : Int) + o).toNat lo r n L bc bs) ∧ (x = y → K (pc + 3) lo r n L bc bs)
  | .if_icmp .lt o => len = 3 ∧ 0 ≤ (pc : Int) + o ∧ lm_s2 st fun x y r => (x < y → K ((pc : Int) + o).toNat lo r n L bc bs) ∧ (¬ x < y → K (pc + 3) lo r n L bc bs)
  | .if_icmp .ge o => len = 3 ∧ 0 ≤ (pc : Int) + o ∧ lm_s2 st fun x y r => ((¬ x < y) → K ((pc : Int) + o).toNat lo r n L bc bs) ∧ (x < y → K (pc + 3) lo r n L bc bs)
  | .if_icmp .gt o => len = 3 ∧ 0 ≤ (pc : Int) + o ∧ lm_s2 st fun x y r => ((¬ x ≤ y) → K ((pc : Int) + o).toNat lo r n L bc bs) ∧ (x ≤ y → K (pc + 3) lo r n L bc bs)
  | .if_icmp .le o => len = 3 ∧ 0 ≤ (pc : Int) + o ∧ lm_s2 st fun x y r => (x ≤ y → K ((pc : Int) + o).toNat lo r n L bc bs) ∧ (¬ x ≤ y → K (pc + 3) lo r n L bc bs)
  | .ifnonnull o => len = 3 ∧ (match st with
    | .ref _ :: r => lm_to pc o fun t => K t lo r n L bc bs
    | .null :: r => K (pc + 3) lo r n L bc bs
    | _ => False)
  | .tableswitch d a b os => lm_s1 st fun x r => (x.toInt < a ∨ b < x.toInt → lm_to pc d fun t => K t lo r n L bc bs) ∧ (¬ x.toInt < a → ¬ b < x.toInt → lm_at os[(x.toInt - a).toNat]? fun o => lm_to pc o fun t => K t lo r n L bc bs)
  | .getfield j => len = 3 ∧ lm_sr st fun q r => lm_at (lm_fld E j) fun f => q < n ∧ lm_ob (L q) f.1 fun fs => lm_at fs[f.2.1]? fun v => K (pc + 3) lo (v :: r) n L bc bs
  | .putfield j => len = 3 ∧ (match st with
    | v :: .ref q :: r => lm_at (lm_fld E j) fun f => q < n ∧ lm_fit E f.2.2 v ∧ lm_ob (L q) f.1 fun fs => f.2.1 < fs.length ∧ K (pc + 3) lo r n (va_up L q (.inr (f.1, fs.set f.2.1 v))) bc bs
    | _ => False)
  | .iaload => len = 1 ∧ (match st with
    | .int i :: .ref a :: r => a < n ∧ lm_ia (L a) (lm_id E 0) fun k f => vp_in i k ∧ K (pc + 1) lo (.int (f i.toNatClampNeg) :: r) n L bc bs
    | .int i :: .float _ :: r => lm_at (lm_scr E) fun q => vp_in i q.1 ∧ K (pc + 1) lo (.int (q.2 i.toNatClampNeg) :: r) n L bc bs
    | _ => False)
  | .baload => len = 1 ∧ (match st with
    | .int i :: .ref a :: r => a < n ∧ lm_ia (L a) (lm_id E 1) fun k f => vp_in i k ∧ K (pc + 1) lo (.int (f i.toNatClampNeg) :: r) n L bc bs
    | _ => False)
  | .laload => len = 1 ∧ (match st with
    | .int i :: .ref a :: r => a < n ∧ lm_la (L a) (lm_id E 2) fun k f => vp_in i k ∧ K (pc + 1) lo (.long (f i.toNatClampNeg) :: r) n L bc bs
    | _ => False)
  | .aaload => len = 1 ∧ (match st with
    | .int i :: .ref a :: r => a < n ∧ lm_qa (L a) fun c1 k f => (c1 = lm_id E 3 ∨ c1 = lm_id E 4) ∧ vp_in i k ∧ K (pc + 1) lo (va_rf (f i.toNatClampNeg) :: r) n L bc bs
    | _ => False)
  | .iastore => len = 1 ∧ (match st with
    | .int x :: .int i :: .ref a :: r => a < n ∧ lm_ia (L a) (lm_id E 0) fun k f => vp_in i k ∧ K (pc + 1) lo r n (va_up L a (.inl (lm_id E 0, k, .inl (upd f i.toNatClampNeg x)))) bc bs
    | _ => False)
  | .bastore => len = 1 ∧ (match st with
    | .int x :: .int i :: .ref a :: r => a < n ∧ (x = 0 ∨ x = 1) ∧ lm_ia (L a) (lm_id E 1) fun k f => vp_in i k ∧ K (pc + 1) lo r n (va_up L a (.inl (lm_id E 1, k, .inl (upd f i.toNatClampNeg x)))) bc bs
    | _ => False)
  | .lastore => len = 1 ∧ (match st with
    | .long x :: .int i :: .ref a :: r => a < n ∧ lm_la (L a) (lm_id E 2) fun k f => vp_in i k ∧ K (pc + 1) lo r n (va_up L a (.inl (lm_id E 2, k, .inr (.inl (vp_updL f i.toNatClampNeg x))))) bc bs
    | _ => False)
  | .arraylength => len = 1 ∧ (match st with
    | .ref a :: r => a < n ∧ (match L a with
      | .inl (c1, k, _) => (c1 = lm_id E 0 ∨ c1 = lm_id E 3 ∨ c1 = lm_id E 4) ∧ K (pc + 1) lo (.int (Int32.ofNat k) :: r) n L bc bs
      | .inr _ => False)
    | .float _ :: r => lm_at (lm_scr E) fun q => K (pc + 1) lo (.int (Int32.ofNat q.1) :: r) n L bc bs
    | _ => False)
  | .invokevirtual j => len = 3 ∧ lm_at (lm_cv E j) fun f => lm_pop f.1 st [] fun As r => (match As with
    | .ref q :: _ => q < n ∧ lm_ob (L q) f.2.1 fun _ => lm_do E X K pc lo r f.2.2.1 f.2.2.2.1 f.2.2.2.2 As n L bc bs
    | _ => False)
  | .invokestatic j => len = 3 ∧ (if lm_cpj E = some j then (match st with
      | .int k :: .int dp :: .ref a :: .int sp :: .ref a0 :: r => a0 = a ∧ a < n ∧ (r.map fun v => v.category).sum ≤ 8 ∧ lm_ia (L a) (lm_id E 0) fun N f => (¬ sp < 0) ∧ (¬ dp < 0) ∧ (¬ k < 0) ∧ sp.toNatClampNeg + k.toNatClampNeg ≤ N ∧ dp.toNatClampNeg + k.toNatClampNeg ≤ N ∧ K (pc + 3) lo r n (va_up L a (.inl (lm_id E 0, N, .inl (va_cpy f f sp.toNatClampNeg dp.toNatClampNeg k.toNatClampNeg)))) bc bs
      | _ => False)
    else lm_at (lm_cs E j) fun f => lm_pop f.1 st [] fun As r => lm_do E X K pc lo r f.2.2.1 f.2.2.2.1 f.2.2.2.2 As n L bc bs)
  | .invokespecial j => len = 3 ∧ lm_at (lm_ci E j) fun f => lm_pop f.1 st [] fun As r => (match As with
    | .ref _ :: _ => lm_do E X K pc lo r f.2.2.1 f.2.2.2.1 f.2.2.2.2 As n L bc bs
    | _ => False)
  | .newarray t => len = 2 ∧ lm_alc E = true ∧ lm_s1 st fun x r => (¬ x < 0) ∧ x.toNatClampNeg ≤ 2000 ∧ bc + 1 ≤ lm_mc E ∧ bs + x.toNatClampNeg ≤ lm_ms E ∧ (match t with
    | .int => K (pc + 2) lo (.ref n :: r) (n + 1) (va_up L n (.inl (lm_id E 0, x.toNatClampNeg, .inl (fun _ => 0)))) (bc + 1) (bs + x.toNatClampNeg)
    | .boolean => K (pc + 2) lo (.ref n :: r) (n + 1) (va_up L n (.inl (lm_id E 1, x.toNatClampNeg, .inl (fun _ => 0)))) (bc + 1) (bs + x.toNatClampNeg)
    | .long => K (pc + 2) lo (.ref n :: r) (n + 1) (va_up L n (.inl (lm_id E 2, x.toNatClampNeg, .inr (.inl (fun _ => 0))))) (bc + 1) (bs + x.toNatClampNeg)
    | _ => False)
  | .anewarray j => len = 3 ∧ lm_s1 st fun x r => lm_at (lm_new E j) fun f => f.1 < 2 ∧ (¬ x < 0) ∧ x.toNatClampNeg ≤ 2000 ∧ bc + 1 ≤ lm_mc E ∧ bs + x.toNatClampNeg ≤ lm_ms E ∧ K (pc + 3) lo (.ref n :: r) (n + 1) (va_up L n (.inl (lm_id E (3 + f.1), x.toNatClampNeg, .inr (.inr (.inr (.inr (fun _ => none))))))) (bc + 1) (bs + x.toNatClampNeg)
  | .aastore => len = 1 ∧ (match st with
    | .ref v :: .int i :: .ref a :: r => a < n ∧ v < n ∧ lm_qa (L a) fun c1 k f => ((c1 = lm_id E 3 ∧ lm_ob (L v) 0 fun _ => True) ∨ (c1 = lm_id E 4 ∧ lm_ob (L v) 1 fun _ => True)) ∧ vp_in i k ∧ K (pc + 1) lo r n (va_up L a (.inl (c1, k, .inr (.inr (.inr (.inr (va_up f i.toNatClampNeg (some v)))))))) bc bs
    | _ => False)
  | .ireturn => len = 1 ∧ (match st with
    | [.int x] => bc ≤ lm_mc E ∧ bs ≤ lm_ms E ∧ Q (some (.int x)) n L
    | _ => False)
  | .areturn => len = 1 ∧ (match st with
    | [.ref x] => bc ≤ lm_mc E ∧ bs ≤ lm_ms E ∧ Q (some (.ref x)) n L
    | [.null] => bc ≤ lm_mc E ∧ bs ≤ lm_ms E ∧ Q (some .null) n L
    | _ => False)
  | .return_ => len = 1 ∧ (match st with
    | [] => bc ≤ lm_mc E ∧ bs ≤ lm_ms E ∧ Q none n L
    | _ => False)
  | .new j => len = 3 ∧ (match lm_thr E pc with
    | some en => st = [] ∧ bc + 1 ≤ lm_mc E ∧ bs + 6 ≤ lm_ms E ∧ X en n L
    | none => lm_at (lm_new E j) fun f => bc + 1 ≤ lm_mc E ∧ bs + f.2.length ≤ lm_ms E ∧ K (pc + 3) lo (.ref n :: st) (n + 1) (va_up L n (.inr (f.1, f.2))) (bc + 1) (bs + f.2.length))
  | _ => False
/-- from pc on, step by step, to a place where 'stop' says so: there G -/
def lm_seg (E : lm_E) (cc : ByteArray) (Q : lm_Q) (X : lm_X) (stop : Nat → Bool) (G : lm_K) : Nat → lm_K
  | 0, _, _, _, _, _, _, _ => False
  | f + 1, pc, lo, st, n, L, bc, bs => match decode cc pc with
    | .ok (i, len) => lm_step E Q X (fun pc lo st n L bc bs => if stop pc = true then G pc lo st n L bc bs else lm_seg E cc Q X stop G f pc lo st n L bc bs) i len pc lo st n L bc bs
    | _ => False
/-- the machine comes, from there, to an end with Q (or X) -/
def lm_wp (E : lm_E) (cc : ByteArray) (Q : lm_Q) (X : lm_X) : lm_K := fun pc lo st n L bc bs =>
  ∀ G : lm_K, (∀ (stop : Nat → Bool) (f pc : Nat) (lo : lm_O) (st : List Value) (n : Nat) (L : lm_L) (bc bs : Nat), lm_seg E cc Q X stop G f pc lo st n L bc bs → G pc lo st n L bc bs) → G pc lo st n L bc bs
end
section
/-! how the logical world lies in the heap -/
def lm_v (B b : Nat) : Value → Value
  | .ref k => .ref (B + k)
  | .float _ => .ref b
  | .retAddr a => .ref a
  | v => v
def lm_ar (B : Nat) : vp_A → vp_A
  | (n, .inr (.inr (.inr (.inr f)))) => (n, .inr (.inr (.inr (.inr (fun j => (f j).map (fun k => B + k))))))
  | x => x
def lm_e (B b : Nat) : va_E → va_E
  | .inr o => .inr (o.1, o.2.map (lm_v B b))
  | .inl a => .inl (a.1, lm_ar B a.2)
def lm_w (B b n : Nat) (L : lm_L) : va_W := (List.range n).map (fun k => (B + k, lm_e B b (L k)))
theorem lm_v_cat (B b : Nat) (v : Value) : (lm_v B b v).category = v.category := by cases v <;> rfl
theorem lm_cats (B b : Nat) (st : List Value) : ((st.map (lm_v B b)).map fun v => v.category).sum = (st.map fun v => v.category).sum := by
  rw [List.map_map]
  congr 1
  exact List.map_congr_left (fun v _ => lm_v_cat B b v)
theorem lm_v_rf (B b : Nat) (o : Option Nat) : lm_v B b (va_rf o) = va_rf (o.map (fun k => B + k)) := by cases o <;> rfl
theorem lm_w_at {B b n k : Nat} {L : lm_L} (h : k < n) : (lm_w B b n L)[k]? = some (B + k, lm_e B b (L k)) := by simp [lm_w, h]
theorem lm_w_inv {B b n k : Nat} {L : lm_L} {q : Nat × va_E} (h : (lm_w B b n L)[k]? = some q) : k < n ∧ q = (B + k, lm_e B b (L k)) := by
  have hk : k < n := by
    have := (List.getElem?_eq_some_iff.mp h).1
    simpa [lm_w] using this
  rw [lm_w_at hk] at h
  exact ⟨hk, (Option.some.inj h).symm⟩
theorem lm_w_set {B b n k : Nat} {L : lm_L} (h : k < n) {e e1 : va_E} (he : lm_e B b e = e1) : (lm_w B b n L).set k (B + k, e1) = lm_w B b n (va_up L k e) := by
  subst he
  apply List.ext_getElem?
  intro j
  by_cases hj : j < n
  · rw [lm_w_at hj]
    by_cases hjk : j = k
    · subst hjk
      rw [List.getElem?_set_self (by simpa [lm_w] using hj), va_up_self]
    · rw [List.getElem?_set_ne (Ne.symm hjk), lm_w_at hj, va_up_ne _ _ hjk]
  · rw [List.getElem?_eq_none (by simp [lm_w]; omega), List.getElem?_eq_none (by simp [lm_w]; omega)]
theorem lm_w_push {B b n : Nat} {L : lm_L} {e e1 : va_E} (he : lm_e B b e = e1) : lm_w B b n L ++ [(B + n, e1)] = lm_w B b (n + 1) (va_up L n e) := by
  subst he
  apply List.ext_getElem?
  intro j
  by_cases hj : j < n
  · rw [List.getElem?_append_left (by simpa [lm_w] using hj), lm_w_at hj, lm_w_at (by omega), va_up_ne _ _ (by omega)]
  · rw [List.getElem?_append_right (by simp [lm_w]; omega)]
    by_cases hjn : j = n
    · subst hjn
      rw [lm_w_at (Nat.lt_succ_self _), va_up_self]
      simp [lm_w]
    · rw [List.getElem?_eq_none (by simp [lm_w]; omega), List.getElem?_eq_none (by simp [lm_w]; omega)]
theorem lm_w_D {B b n : Nat} {L : lm_L} : va_D (fun q => B ≤ q) (lm_w B b n L) := by
  refine ⟨fun i j p q hi hj hpq => ?_, fun k q hk => ?_⟩
  · obtain ⟨-, rfl⟩ := lm_w_inv hi
    obtain ⟨-, rfl⟩ := lm_w_inv hj
    exact Nat.add_left_cancel hpq
  · obtain ⟨-, rfl⟩ := lm_w_inv hk
    exact Nat.le_add_right _ _
/-- the locals -/
def lm_ls (B b : Nat) (lo : lm_O) : List (Nat × Value) := (List.range lo.length).filterMap (fun i => (lo[i]?.join).map (fun v => (i, lm_v B b v)))
theorem lm_ls_mem {B b : Nat} {lo : lm_O} {q : Nat × Value} : q ∈ lm_ls B b lo ↔ ∃ v, lo[q.1]? = some (some v) ∧ q.2 = lm_v B b v := by
  unfold lm_ls
  rw [List.mem_filterMap]
  constructor
  · rintro ⟨i, hi, h⟩
    cases hl : lo[i]? with
    | none => rw [hl] at h; simp at h
    | some o =>
      cases o with
      | none => rw [hl] at h; simp at h
      | some v =>
        rw [hl] at h
        simp at h
        subst h
        exact ⟨v, hl, rfl⟩
  · rintro ⟨v, h1, h2⟩
    refine ⟨q.1, ?_, ?_⟩
    · rw [List.mem_range]
      exact (List.getElem?_eq_some_iff.mp h1).1
    · rw [h1]
      simp [← h2]
def lm_H (B b nL : Nat) (lo : lm_O) (ls : Array Slot) : Prop := lo.length = nL ∧ lv_has ls nL (lm_ls B b lo) ∧ ∀ (i : Nat) (v : Value), lo[i]? = some (some v) → v.category = 1
theorem lm_H.get {B b nL : Nat} {lo : lm_O} {ls : Array Slot} (h : lm_H B b nL lo ls) {i : Nat} {v : Value} (hi : lo[i]? = some (some v)) : ls[i]? = some (.val (lm_v B b v)) :=
  h.2.1.2.2 (i, lm_v B b v) (lm_ls_mem.mpr ⟨v, hi, rfl⟩)
theorem lm_H.put {B b nL : Nat} {lo : lm_O} {ls ls1 : Array Slot} (h : lm_H B b nL lo ls) {i : Nat} (hi : i < lo.length) {v w : Value} (hc : v.category = 1) (hw : w = lm_v B b v)
    (h1 : lv_has ls1 nL ((i, w) :: (lm_ls B b lo).filter (fun q => !(q.1 == i) && !(q.1 + 1 == i && q.2.category == 2)))) : lm_H B b nL (lo.set i (some v)) ls1 := by
  subst hw
  have key : ∀ (j : Nat) (u : Value), (lo.set i (some v))[j]? = some (some u) → (j = i ∧ u = v) ∨ (j ≠ i ∧ lo[j]? = some (some u)) := by
    intro j u hj
    by_cases hji : j = i
    · subst hji
      rw [List.getElem?_set_self hi] at hj
      exact Or.inl ⟨rfl, (Option.some.inj (Option.some.inj hj)).symm⟩
    · rw [List.getElem?_set_ne (Ne.symm hji)] at hj
      exact Or.inr ⟨hji, hj⟩
  refine ⟨by rw [List.length_set]; exact h.1, ⟨h1.1, h1.2.1, fun q hq => h1.2.2 q ?_⟩, fun j u hj => ?_⟩
  · obtain ⟨u, hu, he⟩ := lm_ls_mem.mp hq
    rcases key _ _ hu with ⟨e1, e2⟩ | ⟨e1, e2⟩
    · have : q = (i, lm_v B b v) := by
        obtain ⟨a, c⟩ := q
        simp only at e1 he
        rw [e1, he, e2]
      rw [this]
      exact List.mem_cons_self
    · refine List.mem_cons_of_mem _ (List.mem_filter.mpr ⟨lm_ls_mem.mpr ⟨u, e2, he⟩, ?_⟩)
      have h9 : q.2.category = 1 := by rw [he, lm_v_cat]; exact h.2.2 _ _ e2
      simp [e1, h9]
  · rcases key _ _ hj with ⟨e1, e2⟩ | ⟨e1, e2⟩
    · rw [e2]; exact hc
    · exact h.2.2 _ _ e2
/-- a method's entry -/
def lm_ent (As : List Value) (nL : Nat) : lm_O := As.map some ++ List.replicate (nL - As.length) none
def lm_Z (ex : Bool) (B n : Nat) (H : Heap) : Prop := B + n ≤ H.size ∧ (ex = true → H.size = B + n)
end
section
/-! what every method of the system stands on: the tables' steady words, the words that only warm, strings, two statics -/
def lm_WT : List Cond := lw_tbl.filter goodWord
theorem lm_wt {w : Cond} (i : Nat) (h : lw_tbl[i]? = some w) (hg : goodWord w = true) : w ∈ lm_WT := List.mem_filter.mpr ⟨List.mem_of_getElem? h, hg⟩
theorem lm_wg {w : Cond} (h : w ∈ lm_WT) : goodWord w = true := (List.mem_filter.mp h).2
theorem lm_good {c1 c2 : Cond} (h2 : c2 ∈ lm_WT) : GoodIn (c1 :: lm_WT) (c2 :: lm_WT) := by
  intro w hw
  have h9 : w ∈ lm_WT := by
    rcases List.mem_cons.mp hw with e | e
    · rw [e]; exact h2
    · exact e
  exact ⟨List.mem_cons_of_mem _ h9, good_of_word (lm_wg h9)⟩
abbrev lm_iae : String := "java/lang/IllegalArgumentException"
abbrev lm_iob : String := "java/lang/IndexOutOfBoundsException"
def lm_nest : List Cond := [
  .fieldLinkNest RX2 52 RX0 "count" "I" RX2, .fieldLinkNest RX2 140 RX0 "costs" "I" RX2, .fieldLinkNest RX2 45 RX0 "kind" "I" RX2, .fieldLinkNest RX2 42 RX0 "quantum" "I" RX2, .fieldLinkNest RX2 39 RX0 "quota" "I" RX2, .fieldLinkNest RX2 35 RX0 "kept" "I" RX2,
  .fieldLinkNest RX2 118 RX0 "deficit" "I" RX2, .fieldLinkNest RX2 121 RX0 "hasTurn" "Z" RX2, .fieldLinkNest RX2 128 RX0 "pushed" "I" RX2, .fieldLinkNest RX2 131 RX0 "lost" "I" RX2, .fieldLinkNest RX2 134 RX0 "served" "I" RX2, .fieldLinkNest RX2 137 RX0 "servedCosts" "I" RX2,
  .fieldLinkNest RX2 196 RX1 "size" "I" RX2, .methodLinkNest RX2 21 yX0_init RX2, .methodLinkNest RX2 22 yX1_init RX2,
  .declares ⟨"java/lang/RuntimeException", "<init>", "(Ljava/lang/String;)V"⟩, .declares ⟨"java/lang/Exception", "<init>", "(Ljava/lang/String;)V"⟩, .declares ⟨"java/lang/Throwable", "<init>", "(Ljava/lang/String;)V"⟩,
  .castable lm_iae lm_iae, .castable lm_iob lm_iob]
def lm_str : List (Nat × String) := [(173, "no such queue"), (175, "out of range"), (145, "no such what"), (152, "no such item")]
def lm_soft : Cond → Bool
  | .fieldLinkNest .. => true
  | .methodLinkNest .. => true
  | .declares _ => true
  | .castable .. => true
  | _ => false
theorem lm_soft_on {w : Cond} (h : lm_soft w = true) : w.onTables = true := by
  cases w <;> first | rfl | (simp [lm_soft] at h)
theorem lm_castable {a b : String} {s U : State} (hvm : s.vm.Alike U.vm) (h : va_Nw (.castable a b) s) : va_Nw (.castable a b) U := by
  obtain ⟨c, t, h1, h2, h3⟩ := Cond.castable_spec (show (Cond.castable a b).holds #[] s none s [] = true from h)
  show (Cond.castable a b).holds #[] U none U [] = true
  have e1 : U.vm.findClass a = some c := by rw [hvm.findClass]; exact h1
  have e2 : U.vm.findClass b = some t := by rw [hvm.findClass]; exact h2
  have e3 : U.vm.assignable c t = true := by rw [hvm.assignable]; exact h3
  simp [Cond.holds, Cond.value, e1, e2, e3]
theorem lm_soft_warm {w : Cond} (hw : lm_soft w = true) {s U : State} (hW : s.WarmedH U.vm) (h : va_Nw w s) : va_Nw w U := by
  cases w with
  | fieldLinkNest a i b n d h0 => exact va_Nw.warmF hW h
  | methodLinkNest a i x h0 => exact va_Nw.warmM hW h
  | declares x => exact va_Nw.warmD hW h
  | castable a b => exact lm_castable hW.alike h
  | _ => simp [lm_soft] at hw
theorem lm_nest_soft : ∀ w ∈ lm_nest, lm_soft w = true := by decide
abbrev lm_A (B : Nat) : Nat → Prop := fun q => B ≤ q
/-- the context at a state -/
def lm_cx (D : va_G) (tys : List (ClassId × FieldType)) (B : Nat) (U : State) : Prop :=
  va_K D vwCl tys U ∧ (∀ w ∈ lm_nest, va_Nw w U) ∧ (∀ q ∈ lm_str, ∃ sa, vk_R RX2 q.1 q.2 sa U) ∧
  vx_Zq Bundle.tN "UNASSIGNED_STACK" Bundle.steD (lm_A B) U U.heap ∧ vx_Zq Bundle.tN "SUPPRESSED_SENTINEL" Bundle.listD (lm_A B) U U.heap ∧ va_Nc lm_iob lm_iae U ∧ va_AO RX0 U ∧ va_AO RX1 U
theorem lm_cx.to {D : va_G} {tys : List (ClassId × FieldType)} {B : Nat} {s U : State} (h : lm_cx D tys B s) (hW : s.WarmedH U.vm) (hk : ∀ a : Nat, a < s.heap.size → ¬ lm_A B a → U.heap[a]? = s.heap[a]?) : lm_cx D tys B U := by
  obtain ⟨h1, h2, h3, h4, h5, h6, h7, h8⟩ := h
  refine ⟨va_K.moved hW.alike h1, fun w hw => lm_soft_warm (lm_nest_soft w hw) hW (h2 w hw), fun q hq => ?_, vx_Zq.moved hW.alike (h4.kept hk), vx_Zq.moved hW.alike (h5.kept hk), h6.moved hW.alike, va_AO.moved hW.alike h7, va_AO.moved hW.alike h8⟩
  obtain ⟨sa, hs⟩ := h3 q hq
  exact ⟨sa, vk_R.warm hW hs⟩
theorem lm_cx.same {D : va_G} {tys : List (ClassId × FieldType)} {B : Nat} {s U : State} (h : lm_cx D tys B s) (hv : U.vm = s.vm) (hh : U.heap = s.heap) : lm_cx D tys B U := by
  refine h.to ?_ (fun a _ _ => by rw [hh])
  rw [hv]
  exact State.WarmedH.refl s
section LMC
variable (l : Launch) (D : va_G) (tys : List (ClassId × FieldType)) (B b : Nat) (ex : Bool)
def lm_Pc (As : List Value) (n : Nat) (L : lm_L) : Array Value → State → Prop := va_Pc (As.map (lm_v B b)) (fun U => lm_Z ex B n U.heap ∧ va_P D vwCl (lm_w B b n L) U.heap ∧ lm_cx D tys B U)
def lm_Qc (post : lm_Q) : Array Value → State → Outcome → State → Prop := fun _ st oc t => ∃ (r : Option Value) (n1 : Nat) (L1 : lm_L), oc = .returned (r.map (lm_v B b)) ∧ post r n1 L1 ∧ lm_Z ex B n1 t.heap ∧ va_P D vwCl (lm_w B b n1 L1) t.heap ∧ va_F (lm_A B) st t
def lm_XC (post : lm_X) : String → State → State → Prop := fun E st t => ∃ (n1 : Nat) (L1 : lm_L), post E n1 L1 ∧ lm_Z ex B n1 t.heap ∧ va_P D vwCl (lm_w B b n1 L1) t.heap ∧ va_F (lm_A B) st t
/-- THE CONTRACT of a method: from every start that its sentence wp allows -/
def lm_M (y : MethodName) (cc : ByteArray) (maxL : Nat) (ret : Option FieldType) (rm : Room) (mc ms : Nat) (wp : lm_S) : Prop :=
  ∀ (As : List Value) (n : Nat) (L : lm_L) (post : lm_Q) (postX : lm_X), wp As n L post postX → vx_Met l y (.code y cc maxL ret :: lm_WT) rm (lm_Pc D tys B b ex As n L) (lm_Qc D B b ex post) (lm_XC D B b ex postX) mc ms (lm_A B)
theorem lm_blind (As : List Value) (n : Nat) (L : lm_L) : FrameBlind (lm_Pc D tys B b ex As n L) := by
  intro a U g mk h
  obtain ⟨h0, h1, h2, h3⟩ := h
  exact ⟨h0, h1, h2, h3.same rfl rfl⟩
end LMC
end
section
/-! each step of the logical machine is a step of the machine -/
def lm_tys (E : lm_E) : List (ClassId × FieldType) := [(lm_id E 0, .int), (lm_id E 1, .boolean), (lm_id E 2, .long), (lm_id E 3, .object RX0), (lm_id E 4, .object RX1)]
/-- a class of the worlds: what its rows say -/
def lm_cls (ci : Nat) (C : String) (T : u_T) (N : Nat) : Prop := vwCl[ci]? = some (C, T, N) ∧ (∀ w ∈ u_ws C T N, w ∈ lm_WT) ∧ (∃ ty : Nat → FieldType, ∀ k, k < N → parseFieldDescriptor (T k).2.2.1 = some (ty k)) ∧ ∀ a, a < N → ∀ b, b < N → a ≠ b → (T a).2.1 ≠ (T b).2.1
def lm_fty (ty : Nat) (own : String) (ini : Bool) (d : String × String × String × Bool) : Prop := match ty with
  | 0 => d.2.2.2 = false ∧ parseFieldDescriptor d.2.2.1 = some .int
  | 1 => d.2.2.2 = false ∧ parseFieldDescriptor d.2.2.1 = some .boolean
  | _ => d.2.2.2 = true ∧ (ini = true → d.1 = own) ∧ ∃ t, parseFieldDescriptor d.2.2.1 = some (.array t)
section LMS
variable (p : Program) (l : Launch) (e : Env) (R : Room) (s : State) (m : MethodId) (args : Array Value) (below : List Frame) (meth : Method) (c : Code)
variable (D : va_G) (B b : Nat) (ex : Bool) (nL : Nat) (own : String) (cc : ByteArray) (E : lm_E) (Q : lm_Q) (X : lm_X) (QF : State → Prop)
def lm_G : lm_K := fun pc lo st n L bc bs => ∀ (H : Heap) (locs : List Loc) (ls : Array Slot), lm_Z ex B n H → va_P D vwCl (lm_w B b n L) H → va_S (lm_A B) s.heap H locs → lm_H B b nL lo ls →
  W p l e R s m args below meth c H locs bc bs QF (F0 m pc ls (st.map (lm_v B b)))
def lm_GX : Nat → lm_O → List Value → Nat → lm_L → Nat → Nat → String → Prop := fun pc lo st n L bc bs en => ∀ (H : Heap) (locs : List Loc) (ls : Array Slot) (q : Addr) (ce : Cell), lm_Z ex B n H → va_P D vwCl (lm_w B b n L) H → va_S (lm_A B) s.heap H locs → lm_H B b nL lo ls → H[q]? = some ce → ce.vm = .none → s.vm.findClass en = some ce.cls →
  vx_W p l e R s m args below meth c H locs bc bs QF (F0 m pc ls (st.map (lm_v B b))) q
/-- the machine's side of a method's surroundings -/
def lm_T : Prop :=
  p.tables.exec = Jvm.exec ∧ c.code = cc ∧ c.maxLocals = nL ∧ s.vm.findClass own = some m.cls ∧ (∀ w ∈ lm_WT, w.before args s = true) ∧ lm_cx D (lm_tys E) B s ∧ B ≤ s.heap.size ∧ (lm_ini E = true → meth.name = "<init>") ∧ lm_mc E ≤ R.cells ∧ lm_ms E ≤ R.slots ∧
  (∀ j f, lm_fld E j = some f → ∃ C T N, lm_cls f.1 C T N ∧ f.2.1 < N ∧ ((Cond.fieldLink own j (T f.2.1).1 (T f.2.1).2.1 (T f.2.1).2.2.1).before args s = true ∨ ∃ host, (Cond.fieldLinkNest own j (T f.2.1).1 (T f.2.1).2.1 (T f.2.1).2.2.1 host).before args s = true ∧ f.2.2 < 2) ∧ lm_fty f.2.2 own (lm_ini E) (T f.2.1)) ∧
  (∀ j f, lm_cv E j = some f → ∃ y c1 maxL ret rm C T N k, f.1 = k + 1 ∧ vwCl[f.2.1]? = some (C, T, N) ∧ lm_M l D (lm_tys E) B b ex y c1 maxL ret rm f.2.2.2.1 f.2.2.2.2 f.2.2.1 ∧ CallW R s args own C j y c1 maxL ret (.code y c1 maxL ret :: lm_WT) rm f.2.2.2.1 f.2.2.2.2 k) ∧
  (∀ j f, lm_cs E j = some f → ∃ y c1 maxL ret rm, lm_M l D (lm_tys E) B b ex y c1 maxL ret rm f.2.2.2.1 f.2.2.2.2 f.2.2.1 ∧ CallB R s args own j y c1 maxL ret (.code y c1 maxL ret :: lm_WT) rm f.2.2.2.1 f.2.2.2.2 f.1 ∧ (Cond.static y).before args s = true) ∧
  (∀ j v, lm_kon E j = some v → (Cond.constant own j v).before args s = true) ∧
  (∀ pc en lo n L bc bs, lm_thr E pc = some en → bc + 1 ≤ lm_mc E → bs + 6 ≤ lm_ms E → X en n L → lm_G p l e R s m args below meth c D B b ex nL QF pc lo [] n L bc bs) ∧
  (∀ pc en lo st n L bc bs, lm_ct E pc en = none → bc ≤ lm_mc E → bs ≤ lm_ms E → X en n L → lm_GX p l e R s m args below meth c D B b ex nL QF pc lo st n L bc bs en) ∧
  (∀ pc en h lo st n L bc bs, lm_ct E pc en = some h → (∀ k, lm_G p l e R s m args below meth c D B b ex nL QF h lo [.retAddr k] n L bc bs) → lm_GX p l e R s m args below meth c D B b ex nL QF pc lo st n L bc bs en) ∧
  (∀ pc lo x n L bc bs, decode cc pc = .ok (.ireturn, 1) → bc ≤ lm_mc E → bs ≤ lm_ms E → Q (some (.int x)) n L → lm_G p l e R s m args below meth c D B b ex nL QF pc lo [.int x] n L bc bs) ∧
  (∀ pc lo v n L bc bs, decode cc pc = .ok (.areturn, 1) → bc ≤ lm_mc E → bs ≤ lm_ms E → (v = .null ∨ ∃ k, v = .ref k) → Q (some v) n L → lm_G p l e R s m args below meth c D B b ex nL QF pc lo [v] n L bc bs) ∧
  (∀ pc lo n L bc bs, decode cc pc = .ok (.return_, 1) → bc ≤ lm_mc E → bs ≤ lm_ms E → Q none n L → lm_G p l e R s m args below meth c D B b ex nL QF pc lo [] n L bc bs) ∧
  (∀ q, lm_scr E = some q → va_X b q.1 q.2 s s.heap ∧ b < B ∧ b < s.heap.size) ∧
  (∀ j, lm_cpj E = some j → ex = false ∧ Cond.methodLink own j arraycopyName ∈ lm_WT ∧ Cond.native arraycopyName ∈ lm_WT ∧ Cond.static arraycopyName ∈ lm_WT ∧ Cond.initialized "java/lang/System" ∈ lm_WT ∧ 1 ≤ R.frames ∧ 8 + (nativeFrameWords "java/lang/System" "arraycopy" 5 + 11) ≤ R.locals) ∧
  (∀ j f, lm_new E j = some f → ∃ C T, ex = true ∧ lm_cls f.1 C T f.2.length ∧ Cond.classLink own j C ∈ lm_WT ∧ Cond.instantiable C f.2.length ∈ lm_WT ∧ Cond.initialized C ∈ lm_WT ∧ (∃ ty : Nat → FieldType, (∀ k, k < f.2.length → parseFieldDescriptor (T k).2.2.1 = some (ty k)) ∧ ∀ k, k < f.2.length → defaultValue (ty k) = vp_V f.2 k) ∧ f.2.map (lm_v B b) = f.2) ∧
  (lm_alc E = true → ex = true ∧ Cond.arrayClass .int ∈ lm_WT ∧ Cond.arrayClass .boolean ∈ lm_WT ∧ Cond.arrayClass .long ∈ lm_WT) ∧
  (∀ j f, lm_ci E j = some f → (f.1 = 1 ∧ f.2.2 = (fun _ n L post _ => post none n L, 0, 0) ∧ Cond.methodLink own j objectInit ∈ lm_WT ∧ Cond.instanceMethod objectInit ∈ lm_WT ∧ Cond.code objectInit ⟨#[0xb1]⟩ 1 none ∈ lm_WT ∧ 1 ≤ R.frames ∧ 20 ≤ R.locals) ∨
    ∃ y c1 maxL rm, f.1 = 1 ∧ y.name = "<init>" ∧ lm_M l D (lm_tys E) B b ex y c1 maxL none rm f.2.2.2.1 f.2.2.2.2 f.2.2.1 ∧ (∀ As n L post postX, f.2.2.1 As n L post postX → f.2.2.1 As n L post (fun _ _ _ => False)) ∧
      ((CallB R s args own j y c1 maxL none (.code y c1 maxL none :: lm_WT) rm f.2.2.2.1 f.2.2.2.2 0 ∧ y.name = "<init>" ∧ (Cond.instanceMethod y).before args s = true) ∨ ∃ host, va_CN R s args own j y host c1 maxL none (.code y c1 maxL none :: lm_WT) rm f.2.2.2.1 f.2.2.2.2 0 ∧ y.name = "<init>" ∧ (Cond.instanceMethod y).before args s = true))
end LMS
end
section
theorem lm_at_of {α : Type} {o : Option α} {k : α → Prop} (h : lm_at o k) : ∃ v, o = some v ∧ k v := by
  cases o with
  | none => exact h.elim
  | some v => exact ⟨v, rfl, h⟩
theorem lm_ldi_of {lo : lm_O} {i : Nat} {k : Int32 → Prop} (h : lm_ldi lo i k) : ∃ x, lo[i]? = some (some (.int x)) ∧ k x := by
  unfold lm_ldi at h
  split at h
  · exact ⟨_, by assumption, h⟩
  · exact h.elim
theorem lm_lda_of {lo : lm_O} {i : Nat} {k : Value → Prop} (h : lm_lda lo i k) : (∃ a, lo[i]? = some (some (.ref a)) ∧ k (.ref a)) ∨ (lo[i]? = some (some .null) ∧ k .null) ∨ ∃ f, lo[i]? = some (some (.float f)) ∧ k (.float f) := by
  unfold lm_lda at h
  split at h
  · exact Or.inl ⟨_, by assumption, h⟩
  · exact Or.inr (Or.inl ⟨by assumption, h⟩)
  · exact Or.inr (Or.inr ⟨_, by assumption, h⟩)
  · exact h.elim
theorem lm_s1_of {st : List Value} {k : Int32 → List Value → Prop} (h : lm_s1 st k) : ∃ x r, st = .int x :: r ∧ k x r := by
  unfold lm_s1 at h
  split at h
  · exact ⟨_, _, rfl, h⟩
  · exact h.elim
theorem lm_s2_of {st : List Value} {k : Int32 → Int32 → List Value → Prop} (h : lm_s2 st k) : ∃ x y r, st = .int y :: .int x :: r ∧ k x y r := by
  unfold lm_s2 at h
  split at h
  · exact ⟨_, _, _, rfl, h⟩
  · exact h.elim
theorem lm_sr_of {st : List Value} {k : Nat → List Value → Prop} (h : lm_sr st k) : ∃ a r, st = .ref a :: r ∧ k a r := by
  unfold lm_sr at h
  split at h
  · exact ⟨_, _, rfl, h⟩
  · exact h.elim
theorem lm_ob_of {c : va_E} {ci : Nat} {k : List Value → Prop} (h : lm_ob c ci k) : ∃ fs, c = .inr (ci, fs) ∧ k fs := by
  cases c with
  | inl x => exact h.elim
  | inr o => obtain ⟨a, fs⟩ := o; obtain ⟨h1, h2⟩ := h; exact ⟨fs, by simp only at h1; rw [h1], h2⟩
theorem lm_ia_of {c : va_E} {cA : ClassId} {k : Nat → (Nat → Int32) → Prop} (h : lm_ia c cA k) : ∃ n f, c = .inl (cA, n, .inl f) ∧ k n f := by
  unfold lm_ia at h
  split at h
  · obtain ⟨rfl, h⟩ := h; exact ⟨_, _, rfl, h⟩
  · exact h.elim
theorem lm_la_of {c : va_E} {cA : ClassId} {k : Nat → (Nat → Int64) → Prop} (h : lm_la c cA k) : ∃ n f, c = .inl (cA, n, .inr (.inl f)) ∧ k n f := by
  unfold lm_la at h
  split at h
  · obtain ⟨rfl, h⟩ := h; exact ⟨_, _, rfl, h⟩
  · exact h.elim
theorem lm_qa_of {c : va_E} {k : ClassId → Nat → (Nat → Option Nat) → Prop} (h : lm_qa c k) : ∃ c1 n f, c = .inl (c1, n, .inr (.inr (.inr (.inr f)))) ∧ k c1 n f := by
  unfold lm_qa at h
  split at h
  · exact ⟨_, _, _, rfl, h⟩
  · exact h.elim
theorem lm_pop_of : ∀ (m : Nat) (st acc : List Value) {k : List Value → List Value → Prop}, lm_pop m st acc k → ∃ As r, As.length = m ∧ st = As.reverse ++ r ∧ k (As ++ acc) r
  | 0, st, acc, k, h => ⟨[], st, rfl, rfl, h⟩
  | m + 1, v :: st, acc, k, h => by
    obtain ⟨As, r, h1, h2, h3⟩ := lm_pop_of m st (v :: acc) h
    refine ⟨As ++ [v], r, by simp [h1], by simp [h2], ?_⟩
    rw [List.append_assoc]
    exact h3
  | _ + 1, [], _, _, h => h.elim
theorem lm_map_rev (B b : Nat) (As r : List Value) : (As.reverse ++ r).map (lm_v B b) = (As.map (lm_v B b)).reverse ++ r.map (lm_v B b) := by simp
end
section
section LMW
variable {p : Program} {l : Launch} {e : Env} {R : Room} {s : State} {m : MethodId} {args : Array Value} {below : List Frame} {meth : Method} {c : Code} {H : Heap} {locs : List Loc} {cells slots : Nat} {Q : State → Prop}
variable {cc : ByteArray} {pc : Nat} {ls : Array Slot} {rest : List Value} {D : va_G} {cl : List vw_C} {a : Nat} {tys : List (ClassId × FieldType)} {B b n : Nat} {L : lm_L}
/-- a put, and the heap's size -/
theorem lm_put (hexec : p.tables.exec = Jvm.exec) (hb : c.code = cc) {own C : String} {T : u_T} {N ci index : Nat} {Ts : List Cond} (hts : ∀ w ∈ Ts, w.before args s = true) (hin : ∀ w ∈ u_ws C T N, w ∈ Ts) (ty0 : Nat → FieldType) (hty : ∀ k, k < N → parseFieldDescriptor (T k).2.2.1 = some (ty0 k)) (hnm : ∀ a, a < N → ∀ b, b < N → a ≠ b → (T a).2.1 ≠ (T b).2.1) (hown : s.vm.findClass own = some m.cls) (hK : va_K D vwCl tys s) (hP : va_P D vwCl (lm_w B b n L) H) (hS0 : va_S (lm_A B) s.heap H locs) (q0 : Nat) {fs : List Value} (he : (lm_w B b n L)[q0]? = some (a, .inr (ci, fs))) (hc : vwCl[ci]? = some (C, T, N)) (k : Nat) (hk : k < N) (hlink : (Cond.fieldLink own index (T k).1 (T k).2.1 (T k).2.2.1).before args s = true) (hfin : (T k).2.2.2 = false) {ty : FieldType} {v : Value} (hd : parseFieldDescriptor (T k).2.2.1 = some ty) (hn : narrow ty v = v) (hfit : fits ty v = true) (hl : k < fs.length)
    (hdg : decode cc pc = .ok (.putfield index, 3)) (kk : ∀ (H1 : Heap) (locs1 : List Loc), va_P D vwCl ((lm_w B b n L).set q0 (a, .inr (ci, fs.set k v))) H1 → va_S (lm_A B) s.heap H1 locs1 → H1.size = H.size → W p l e R s m args below meth c H1 locs1 cells slots Q (F0 m (pc + 3) ls rest)) : W p l e R s m args below meth c H locs cells slots Q (F0 m pc ls (v :: .ref a :: rest)) := by
  have hap := va_apart (own := own) hts hin ty0 hty hnm hK hc
  obtain ⟨r, h1, cell, q1, q2, q3, q4⟩ := hP q0 _ he
  have hr : r = (C, T, N) := Option.some.inj (h1.symm.trans hc)
  subst hr
  obtain ⟨hS, hfc, kC, hkC, hkind⟩ := hK.1 ci _ hc
  obtain ⟨cf, kf, fi, f, hi, hsl⟩ := hS k hk
  have hlay := hts _ (hin _ (u_in_lay hk))
  unfold u_lay at hlay
  rw [if_neg (by rw [hfin]; decide)] at hlay
  have hst := (u_facts hfc hkC (u_lays hts hin hk) hi).1
  have h6 := u_store hfc hkC hkind hlay hi hd hn hfit
  refine W.putK hexec hb (f := f) ⟨hown, hlink, ⟨_, _, _, hi⟩, hst⟩ (by rw [q2]; exact h6) q1 q3 (by rw [hsl]; exact k2_hasslot (q4 k hk)) rfl rfl hdg fun H9 e1 e2 e3 => ?_
  rw [hsl] at e1 ⊢
  exact kk H9 _ (hP.set lm_w_D he ⟨_, hc, t_OB.to (V := updV (vp_V fs) k v) ⟨_, e1, q2, q3, t_set q4 hap hk v⟩ (fun j _ => vp_updV_set hl v j)⟩ e3) (hS0.put e2 e3 (lm_w_D.2 q0 _ he)) e2
theorem lm_putN (hexec : p.tables.exec = Jvm.exec) (hb : c.code = cc) {own C host : String} {T : u_T} {N ci index : Nat} {Ts : List Cond} (hts : ∀ w ∈ Ts, w.before args s = true) (hin : ∀ w ∈ u_ws C T N, w ∈ Ts) (ty0 : Nat → FieldType) (hty : ∀ k, k < N → parseFieldDescriptor (T k).2.2.1 = some (ty0 k)) (hnm : ∀ a, a < N → ∀ b, b < N → a ≠ b → (T a).2.1 ≠ (T b).2.1) (hown : s.vm.findClass own = some m.cls) (hK : va_K D vwCl tys s) (hP : va_P D vwCl (lm_w B b n L) H) (hS0 : va_S (lm_A B) s.heap H locs) (q0 : Nat) {fs : List Value} (he : (lm_w B b n L)[q0]? = some (a, .inr (ci, fs))) (hc : vwCl[ci]? = some (C, T, N)) (k : Nat) (hk : k < N) (hlink : (Cond.fieldLinkNest own index (T k).1 (T k).2.1 (T k).2.2.1 host).before args s = true) (hfin : (T k).2.2.2 = false) {ty : FieldType} {v : Value} (hd : parseFieldDescriptor (T k).2.2.1 = some ty) (hn : narrow ty v = v) (hfit : fits ty v = true) (hl : k < fs.length)
    (hdg : decode cc pc = .ok (.putfield index, 3)) (kk : ∀ (H1 : Heap) (locs1 : List Loc), va_P D vwCl ((lm_w B b n L).set q0 (a, .inr (ci, fs.set k v))) H1 → va_S (lm_A B) s.heap H1 locs1 → H1.size = H.size → W p l e R s m args below meth c H1 locs1 cells slots Q (F0 m (pc + 3) ls rest)) : W p l e R s m args below meth c H locs cells slots Q (F0 m pc ls (v :: .ref a :: rest)) := by
  have hap := va_apart (own := own) hts hin ty0 hty hnm hK hc
  obtain ⟨r, h1, cell, q1, q2, q3, q4⟩ := hP q0 _ he
  have hr : r = (C, T, N) := Option.some.inj (h1.symm.trans hc)
  subst hr
  obtain ⟨hS, hfc, kC, hkC, hkind⟩ := hK.1 ci _ hc
  obtain ⟨cf, kf, fi, f, hi, hsl⟩ := hS k hk
  have hlay := hts _ (hin _ (u_in_lay hk))
  unfold u_lay at hlay
  rw [if_neg (by rw [hfin]; decide)] at hlay
  have hst := (u_facts hfc hkC (u_lays hts hin hk) hi).1
  have h6 := u_store hfc hkC hkind hlay hi hd hn hfit
  refine va_WputK hexec hb (f := f) hown hlink hi hst (by rw [q2]; exact h6) q1 q3 (by rw [hsl]; exact k2_hasslot (q4 k hk)) rfl rfl hdg fun H9 e1 e2 e3 => ?_
  rw [hsl] at e1 ⊢
  exact kk H9 _ (hP.set lm_w_D he ⟨_, hc, t_OB.to (V := updV (vp_V fs) k v) ⟨_, e1, q2, q3, t_set q4 hap hk v⟩ (fun j _ => vp_updV_set hl v j)⟩ e3) (hS0.put e2 e3 (lm_w_D.2 q0 _ he)) e2
theorem lm_putF (hexec : p.tables.exec = Jvm.exec) (hb : c.code = cc) {own C : String} {T : u_T} {N ci index : Nat} {Ts : List Cond} (hts : ∀ w ∈ Ts, w.before args s = true) (hin : ∀ w ∈ u_ws C T N, w ∈ Ts) (ty0 : Nat → FieldType) (hty : ∀ k, k < N → parseFieldDescriptor (T k).2.2.1 = some (ty0 k)) (hnm : ∀ a, a < N → ∀ b, b < N → a ≠ b → (T a).2.1 ≠ (T b).2.1) (hown : s.vm.findClass own = some m.cls) (hK : va_K D vwCl tys s) (hP : va_P D vwCl (lm_w B b n L) H) (hS0 : va_S (lm_A B) s.heap H locs) (q0 : Nat) {fs : List Value} (he : (lm_w B b n L)[q0]? = some (a, .inr (ci, fs))) (hc : vwCl[ci]? = some (C, T, N)) (k : Nat) (hk : k < N) (hlink : (Cond.fieldLink own index (T k).1 (T k).2.1 (T k).2.2.1).before args s = true) (hfin : (T k).2.2.2 = true) (hin2 : meth.name = "<init>") (hdecl : (T k).1 = own) {ty : FieldType} {v : Value} (hd : parseFieldDescriptor (T k).2.2.1 = some ty) (hn : narrow ty v = v) (hfit : fits ty v = true) (hl : k < fs.length)
    (hdg : decode cc pc = .ok (.putfield index, 3)) (kk : ∀ (H1 : Heap) (locs1 : List Loc), va_P D vwCl ((lm_w B b n L).set q0 (a, .inr (ci, fs.set k v))) H1 → va_S (lm_A B) s.heap H1 locs1 → H1.size = H.size → W p l e R s m args below meth c H1 locs1 cells slots Q (F0 m (pc + 3) ls rest)) : W p l e R s m args below meth c H locs cells slots Q (F0 m pc ls (v :: .ref a :: rest)) := by
  have hap := va_apart (own := own) hts hin ty0 hty hnm hK hc
  obtain ⟨r, h1, cell, q1, q2, q3, q4⟩ := hP q0 _ he
  have hr : r = (C, T, N) := Option.some.inj (h1.symm.trans hc)
  subst hr
  obtain ⟨hS, hfc, kC, hkC, hkind⟩ := hK.1 ci _ hc
  obtain ⟨cf, kf, fi, f, hi, hsl⟩ := hS k hk
  have hlay := hts _ (hin _ (u_in_lay hk))
  unfold u_lay at hlay
  rw [if_pos hfin] at hlay
  have hst := (u_facts hfc hkC (u_lays hts hin hk) hi).1
  have hcf : m.cls = cf := by
    obtain ⟨_, _, c', _, _, _, -, -, hf', -, -, -, hown2, -⟩ := Cond.laysFinal_spec hlay
    have e1 : c' = cf := by have := hi.symm.trans hf'; simp at this; exact this.1.symm
    rw [hdecl] at hown2
    rw [← e1]; exact Option.some.inj (hown.symm.trans hown2)
  have h6 := u_fits hfc hkC hkind (Or.inr hlay) hi hd hn hfit
  refine W.putFinK hexec hb hown hlink hi hst hcf hin2 (by rw [q2]; exact h6) q1 q3 (by rw [hsl]; exact k2_hasslot (q4 k hk)) rfl rfl hdg fun H9 e1 e2 e3 => ?_
  rw [hsl] at e1 ⊢
  exact kk H9 _ (hP.set lm_w_D he ⟨_, hc, t_OB.to (V := updV (vp_V fs) k v) ⟨_, e1, q2, q3, t_set q4 hap hk v⟩ (fun j _ => vp_updV_set hl v j)⟩ e3) (hS0.put e2 e3 (lm_w_D.2 q0 _ he)) e2
theorem lm_iast (hexec : p.tables.exec = Jvm.exec) (hb : c.code = cc) (hK : va_K D vwCl tys s) (hP : va_P D vwCl (lm_w B b n L) H) (hS : va_S (lm_A B) s.heap H locs) (q0 t0 : Nat) {cA : ClassId} {k : Nat} {f : Nat → Int32} (ha : (lm_w B b n L)[q0]? = some (a, .inl (cA, k, .inl f))) (ht : tys[t0]? = some (cA, .int)) {i : Int32} {x : Int32} (hin : vp_in i k) (hdg : decode cc pc = .ok (.iastore, 1))
    (kk : ∀ (H1 : Heap) (locs1 : List Loc), va_P D vwCl ((lm_w B b n L).set q0 (a, .inl (cA, k, .inl (upd f i.toNatClampNeg x)))) H1 → va_S (lm_A B) s.heap H1 locs1 → H1.size = H.size → W p l e R s m args below meth c H1 locs1 cells slots Q (F0 m (pc + 1) ls rest)) : W p l e R s m args below meth c H locs cells slots Q (F0 m pc ls (.int x :: .int i :: .ref a :: rest)) := by
  refine W.iast hexec hb (hP q0 _ ha) ((hK.2 t0 _ ht).1 k (fun j => .int (f j))) (fun q => by cases q) (by show ¬ (i < 0 ∨ (arrV _ _ _).slots.size ≤ _); rw [arrV_size]; exact hin) rfl rfl hdg fun H1 e z oq => ?_
  refine kk H1 _ (hP.set lm_w_D ha ?_ oq) (hS.put z oq (lm_w_D.2 q0 _ ha)) z
  show H1[a]? = some (vp_cell _ _)
  rw [e]
  rw [vp_cell_i, vp_cell_i, arrV_store]
  congr 2
  funext q
  by_cases hq : q = i.toNatClampNeg
  · subst hq
    simp [updV, upd]
  · simp [updV, upd, hq]
theorem lm_zast (hexec : p.tables.exec = Jvm.exec) (hb : c.code = cc) (hK : va_K D vwCl tys s) (hP : va_P D vwCl (lm_w B b n L) H) (hS : va_S (lm_A B) s.heap H locs) (q0 t0 : Nat) {cA : ClassId} {k : Nat} {f : Nat → Int32} (ha : (lm_w B b n L)[q0]? = some (a, .inl (cA, k, .inl f))) (ht : tys[t0]? = some (cA, .boolean)) {i : Int32} {x : Int32} (h01 : x = 0 ∨ x = 1) (hin : vp_in i k) (hdg : decode cc pc = .ok (.bastore, 1))
    (kk : ∀ (H1 : Heap) (locs1 : List Loc), va_P D vwCl ((lm_w B b n L).set q0 (a, .inl (cA, k, .inl (upd f i.toNatClampNeg x)))) H1 → va_S (lm_A B) s.heap H1 locs1 → H1.size = H.size → W p l e R s m args below meth c H1 locs1 cells slots Q (F0 m (pc + 1) ls rest)) : W p l e R s m args below meth c H locs cells slots Q (F0 m pc ls (.int x :: .int i :: .ref a :: rest)) := by
  have hnx : vp_nar .boolean x = x := by rcases h01 with rfl | rfl <;> rfl
  refine W.zast hexec hb (hP q0 _ ha) ((hK.2 t0 _ ht).1 k (fun j => .int (f j))) (fun q => by cases q) (by show ¬ (i < 0 ∨ (arrV _ _ _).slots.size ≤ _); rw [arrV_size]; exact hin) rfl rfl hdg fun H1 e z oq => ?_
  refine kk H1 _ (hP.set lm_w_D ha ?_ oq) (hS.put z oq (lm_w_D.2 q0 _ ha)) z
  show H1[a]? = some (vp_cell _ _)
  rw [e]
  rw [vp_cell_i, vp_cell_i, arrV_store]
  congr 2
  funext q
  by_cases hq : q = i.toNatClampNeg
  · subst hq
    rw [← hnx]
    simp [updV, upd, vp_nar]
    rcases h01 with rfl | rfl <;> rfl
  · simp [updV, upd, hq]
theorem lm_last (hexec : p.tables.exec = Jvm.exec) (hb : c.code = cc) (hK : va_K D vwCl tys s) (hP : va_P D vwCl (lm_w B b n L) H) (hS : va_S (lm_A B) s.heap H locs) (q0 t0 : Nat) {cA : ClassId} {k : Nat} {f : Nat → Int64} (ha : (lm_w B b n L)[q0]? = some (a, .inl (cA, k, .inr (.inl f)))) (ht : tys[t0]? = some (cA, .long)) {i : Int32} {x : Int64} (hin : vp_in i k) (hdg : decode cc pc = .ok (.lastore, 1))
    (kk : ∀ (H1 : Heap) (locs1 : List Loc), va_P D vwCl ((lm_w B b n L).set q0 (a, .inl (cA, k, .inr (.inl (vp_updL f i.toNatClampNeg x))))) H1 → va_S (lm_A B) s.heap H1 locs1 → H1.size = H.size → W p l e R s m args below meth c H1 locs1 cells slots Q (F0 m (pc + 1) ls rest)) : W p l e R s m args below meth c H locs cells slots Q (F0 m pc ls (.long x :: .int i :: .ref a :: rest)) := by
  refine W.last hexec hb (hP q0 _ ha) ((hK.2 t0 _ ht).1 k (fun j => .long (f j))) (fun q => by cases q) (by show ¬ (i < 0 ∨ (arrV _ _ _).slots.size ≤ _); rw [arrV_size]; exact hin) rfl rfl hdg fun H1 e z oq => ?_
  refine kk H1 _ (hP.set lm_w_D ha ?_ oq) (hS.put z oq (lm_w_D.2 q0 _ ha)) z
  show H1[a]? = some (vp_cell _ _)
  rw [e]
  rw [vp_cell_l, vp_cell_l, arrV_store]
  congr 2
  funext q
  by_cases hq : q = i.toNatClampNeg
  · subst hq
    simp [updV, vp_updL]
  · simp [updV, vp_updL, hq]
theorem lm_astq (hexec : p.tables.exec = Jvm.exec) (hb : c.code = cc) (hK : va_K D vwCl tys s) (hP : va_P D vwCl (lm_w B b n L) H) (hS : va_S (lm_A B) s.heap H locs) (q0 t0 qk ci : Nat) {cA : ClassId} {r : vw_C} {k v : Nat} {vs : List Value} {f : Nat → Option Nat} (ha : (lm_w B b n L)[q0]? = some (a, .inl (cA, k, .inr (.inr (.inr (.inr f)))))) (ht : tys[t0]? = some (cA, .object r.1)) (hv : (lm_w B b n L)[qk]? = some (v, .inr (ci, vs))) (hc : vwCl[ci]? = some r) {i : Int32} (hin : vp_in i k) (hdg : decode cc pc = .ok (.aastore, 1))
    (kk : ∀ (H1 : Heap) (locs1 : List Loc), va_P D vwCl ((lm_w B b n L).set q0 (a, .inl (cA, k, .inr (.inr (.inr (.inr (va_up f i.toNatClampNeg (some v)))))))) H1 → va_S (lm_A B) s.heap H1 locs1 → H1.size = H.size → W p l e R s m args below meth c H1 locs1 cells slots Q (F0 m (pc + 1) ls rest)) : W p l e R s m args below meth c H locs cells slots Q (F0 m pc ls (.ref v :: .int i :: .ref a :: rest)) := by
  have hlt : i.toNatClampNeg < k := Nat.not_le.mp fun q => hin (Or.inr q)
  have h0 : ¬ i < 0 := fun q => hin (Or.inl q)
  obtain ⟨r', hr', cellV, g1, g2, g3, -⟩ := hP qk _ hv
  have hcls := (hK.1 ci r hc).2
  obtain ⟨kA, comp, k1, k2, k3, -⟩ := (hK.2 t0 _ ht).2
  have hcomp : comp = D.1 ci := Option.some.inj (k3.symm.trans hcls.1)
  subst hcomp
  obtain ⟨kC, hkC, -⟩ := hcls.2
  refine W.aast hexec hb (hP q0 _ ha) (fun q h => by cases h) (fun h => by cases h) k1 k2 rfl hkC ⟨h0, by show _ < (arrV _ _ _).slots.size; rw [arrV_size]; exact hlt⟩ g1 (fun q h => by rw [g3] at h; cases h) (by rw [g2]; exact hkC) (by rw [g2]; exact va_assign hcls) rfl rfl hdg fun H1 e z oq => ?_
  refine kk H1 _ (hP.set lm_w_D ha ?_ oq) (hS.put z oq (lm_w_D.2 q0 _ ha)) z
  show H1[a]? = some (vp_cell _ _)
  rw [e]
  rw [vp_cell_q, vp_cell_q, arrV_store]
  congr 2
  funext q
  by_cases hq : q = i.toNatClampNeg
  · subst hq
    simp [updV, va_up, va_rf]
  · simp [updV, va_up, hq]
end LMW
end
section
theorem lm_call {p : Program} {l : Launch} {e : Env} {R : Room} {s : State} {m : MethodId} {args : Array Value} {below : List Frame} {meth : Method} {c : Code} {H : Heap} {locs : List Loc} {cells slots mc ms : Nat} {QF : State → Prop} {D : va_G} {B b : Nat} {ex : Bool} {pc : Nat} {ls : Array Slot} {st0 rest : List Value} {a : Array Value} {post : lm_Q} {postX : lm_X}
    (hr : vx_Run p l e R s m args below meth c H locs cells slots mc ms (F0 m pc ls st0) rest (lm_Qc D B b ex post a) (lm_XC D B b ex postX) (lm_A B)) (hS : va_S (lm_A B) s.heap H locs)
    (kk : ∀ (rv : Option Value) (n1 : Nat) (L1 : lm_L) (H1 : Heap) (locs1 : List Loc), post rv n1 L1 → lm_Z ex B n1 H1 → va_P D vwCl (lm_w B b n1 L1) H1 → va_S (lm_A B) s.heap H1 locs1 → W p l e R s m args below meth c H1 locs1 (cells + mc) (slots + ms) QF (F0 m (pc + 3) ls ((rv.map (lm_v B b)).toList ++ rest)))
    (kx : ∀ (en : String) (n1 : Nat) (L1 : lm_L) (H1 : Heap) (locs1 : List Loc) (q9 : Addr) (ce : Cell), postX en n1 L1 → lm_Z ex B n1 H1 → va_P D vwCl (lm_w B b n1 L1) H1 → va_S (lm_A B) s.heap H1 locs1 → H1[q9]? = some ce → ce.vm = .none → s.vm.findClass en = some ce.cls → vx_W p l e R s m args below meth c H1 locs1 (cells + mc) (slots + ms) QF (F0 m pc ls rest) q9) :
    W p l e R s m args below meth c H locs cells slots QF (F0 m pc ls st0) := by
  intro T hT X
  rcases hr T hT X with ⟨v, st₀, t, T9, L, h0, X9, hL, e1, e2, ⟨rv, n1, L1, hv, hp, z1, p1, hF⟩, st⟩ | ⟨q, st₀, t, T9, L, E, ce, h0, X9, hL, e1, e2, ⟨n1, L1, hp, z1, p1, hF⟩, hce, hcv, hcl, st⟩
  · cases hv
    obtain ⟨k1, k2, k3⟩ := vx_keep h0 e1 hS (fun _ _ h => h) (fun _ h => h) hL hF
    obtain ⟨t2, a1, b1⟩ := kk rv n1 L1 T9.heap (locs ++ L) hp (by rw [e1]; exact z1) (by rw [e1]; exact p1) k3 T9 rfl X9
    exact ⟨t2, st t2 a1, b1⟩
  · obtain ⟨k1, k2, k3⟩ := vx_keep h0 e1 hS (fun _ _ h => h) (fun _ h => h) hL hF
    obtain ⟨t2, a1, b1⟩ := kx E n1 L1 T9.heap (locs ++ L) q ce hp (by rw [e1]; exact z1) (by rw [e1]; exact p1) k3 (by rw [e1]; exact hce) hcv hcl T9 rfl X9
    exact ⟨t2, st.trans a1, b1⟩
theorem lm_callN {p : Program} {l : Launch} {e : Env} {R : Room} {s : State} {m : MethodId} {args : Array Value} {below : List Frame} {meth : Method} {c : Code} {H : Heap} {locs : List Loc} {cells slots mc ms : Nat} {QF : State → Prop} {D : va_G} {B b : Nat} {ex : Bool} {pc : Nat} {ls : Array Slot} {st0 rest : List Value} {a : Array Value} {post : lm_Q}
    (hr : va_Run p l e R s m args below meth c H locs cells slots mc ms (F0 m pc ls st0) rest (lm_Qc D B b ex post a) (lm_A B)) (hS : va_S (lm_A B) s.heap H locs)
    (kk : ∀ (rv : Option Value) (n1 : Nat) (L1 : lm_L) (H1 : Heap) (locs1 : List Loc), post rv n1 L1 → lm_Z ex B n1 H1 → va_P D vwCl (lm_w B b n1 L1) H1 → va_S (lm_A B) s.heap H1 locs1 → W p l e R s m args below meth c H1 locs1 (cells + mc) (slots + ms) QF (F0 m (pc + 3) ls ((rv.map (lm_v B b)).toList ++ rest))) :
    W p l e R s m args below meth c H locs cells slots QF (F0 m pc ls st0) := by
  intro T hT X
  obtain ⟨v, st₀, t, T9, L, h0, X9, hL, e1, e2, ⟨rv, n1, L1, hv, hp, z1, p1, hF⟩, st⟩ := hr T hT X
  cases hv
  obtain ⟨k1, k2, k3⟩ := vx_keep h0 e1 hS (fun _ _ h => h) (fun _ h => h) hL hF
  obtain ⟨t2, a1, b1⟩ := kk rv n1 L1 T9.heap (locs ++ L) hp (by rw [e1]; exact z1) (by rw [e1]; exact p1) k3 T9 rfl X9
  exact ⟨t2, st t2 a1, b1⟩
theorem lm_grow {A : Nat → Prop} {H0 H H1 : Heap} {locs : List Loc} (hS : va_S A H0 H locs) (hz : H.size ≤ H1.size) (hk : ∀ q : Nat, q < H.size → H1[q]? = H[q]?) : va_S A H0 H1 locs :=
  ⟨Nat.le_trans hS.1 hz, fun q h1 h2 => (hk q (Nat.lt_of_lt_of_le h1 hS.1)).trans (hS.2.1 q h1 h2), hS.2.2⟩
theorem lm_fresh {s : State} {D : va_G} {B b n : Nat} {L : lm_L} {ex : Bool} {H H1 : Heap} {locs : List Loc} {tys : List (ClassId × FieldType)} {cA cA0 : ClassId} {N : Nat} {a0 : vp_A} {ty : FieldType} {P : Prop} (t0 : Nat) (hK : va_K D vwCl tys s) (ht : tys[t0]? = some (cA0, ty)) (hnm : s.vm.findClass ("[" ++ ty.toString) = some cA) (hZ : lm_Z ex B n H) (hz : H.size = B + n) (hP : va_P D vwCl (lm_w B b n L) H) (hS : va_S (lm_A B) s.heap H locs)
    (e1 : H1[B + n]? = some (arrV cA N (fun _ => defaultValue ty))) (z1 : H1.size = B + n + 1) (o1 : ∀ q, q < B + n → H1[q]? = H[q]?) (k : lm_Z ex B (n + 1) H1 → va_P D vwCl (lm_w B b (n + 1) (va_up L n (.inl (cA0, a0)))) H1 → va_S (lm_A B) s.heap H1 locs → P)
    (hty : ty = .int ∨ ty = .boolean ∨ ty = .long := by first | exact Or.inl rfl | exact Or.inr (Or.inl rfl) | exact Or.inr (Or.inr rfl)) (ha : ∀ c, vp_cell c (lm_ar B a0) = arrV c N (fun _ => defaultValue ty) := by intro c; rfl) : P := by
  have hcA : cA = cA0 := by
    have h9 := (hK.2 t0 _ ht).2
    rcases hty with rfl | rfl | rfl <;> exact Option.some.inj (hnm.symm.trans h9)
  subst hcA
  refine k ⟨by rw [z1]; omega, fun _ => by rw [z1]; omega⟩ ?_ (lm_grow hS (by rw [z1, hz]; omega) (fun q hq => o1 q (by rw [← hz]; exact hq)))
  rw [← lm_w_push (e := .inl (cA, a0)) rfl]
  refine (hP.kept (fun k x hx9 => o1 x.1 (by rw [← hz]; exact (hP k x hx9).lt))).app (fun k x hx9 => ?_)
  have hz9 : k < 1 := (List.getElem?_eq_some_iff.mp hx9).1
  rw [show k = 0 by omega] at hx9
  cases hx9
  show H1[B + n]? = some (vp_cell cA (lm_ar B a0))
  rw [ha]
  exact e1
set_option maxHeartbeats 4000000 in
set_option maxRecDepth 20000 in
theorem lm_step_ok {p : Program} {l : Launch} {e : Env} {R : Room} {s : State} {m : MethodId} {args : Array Value} {below : List Frame} {meth : Method} {c : Code} {D : va_G} {B b : Nat} {ex : Bool} {nL : Nat} {own : String} {cc : ByteArray} {E : lm_E} {Q : lm_Q} {X : lm_X} {QF : State → Prop}
    (hT : lm_T p l e R s m args below meth c D B b ex nL own cc E Q X QF) {K : lm_K} (hK : ∀ pc lo st n L bc bs, K pc lo st n L bc bs → lm_G p l e R s m args below meth c D B b ex nL QF pc lo st n L bc bs)
    {i : Instr} {len pc : Nat} {lo : lm_O} {st : List Value} {n : Nat} {L : lm_L} {bc bs : Nat} (hd : decode cc pc = .ok (i, len)) (h : lm_step E Q X K i len pc lo st n L bc bs) : lm_G p l e R s m args below meth c D B b ex nL QF pc lo st n L bc bs := by
  obtain ⟨hx, hb, hml, hown, hts, hcx, hB, hini, hrc, hrs, hfld, hcv, hcs, hkon, hthr, hXo, hXc, hQi, hQa, hQv, hscr, hcp, hnew, hnar, hci⟩ := id hT
  intro H locs ls hZ hP hS hH
  have go : ∀ {pc lo st n L bc bs} {H : Heap} {locs : List Loc} {ls : Array Slot}, K pc lo st n L bc bs → lm_Z ex B n H → va_P D vwCl (lm_w B b n L) H → va_S (lm_A B) s.heap H locs → lm_H B b nL lo ls → W p l e R s m args below meth c H locs bc bs QF (F0 m pc ls (st.map (lm_v B b))) := fun hk a1 a2 a3 a4 => hK _ _ _ _ _ _ _ hk _ _ _ a1 a2 a3 a4
  have to : ∀ {o : Int}, 0 ≤ (pc : Int) + o → (pc : Int) + o = ((((pc : Int) + o).toNat : Nat) : Int) := fun h0 => (Int.toNat_of_nonneg h0).symm
  cases i with
  | iconst v =>
    obtain ⟨rfl, h⟩ := h
    exact lv_iconst hx hb hd rfl (go h hZ hP hS hH)
  | bipush v =>
    obtain ⟨rfl, h⟩ := h
    exact lv_bipush hx hb hd rfl (go h hZ hP hS hH)
  | sipush v =>
    obtain ⟨rfl, h⟩ := h
    exact lv_sipush hx hb hd rfl (go h hZ hP hS hH)
  | aconst_null =>
    obtain ⟨rfl, h⟩ := h
    exact lv_null hx hb hd (go h hZ hP hS hH)
  | ldc j =>
    obtain ⟨rfl, h⟩ := h
    obtain ⟨v, h1, h⟩ := lm_at_of h
    exact lv_ldc hx hb hown (hkon _ _ h1) hd (go h hZ hP hS hH)
  | iload_n j =>
    obtain ⟨rfl, h⟩ := h
    obtain ⟨x, h1, h⟩ := lm_ldi_of h
    exact lv_iload_n hx hb hd rfl (hH.get h1) (go h hZ hP hS hH)
  | iload j =>
    obtain ⟨rfl, h⟩ := h
    obtain ⟨x, h1, h⟩ := lm_ldi_of h
    exact lv_iload hx hb hd (hH.get h1) (go h hZ hP hS hH)
  | aload_n j =>
    obtain ⟨rfl, h⟩ := h
    rcases lm_lda_of h with ⟨a, h1, h⟩ | ⟨h1, h⟩ | ⟨a, h1, h⟩
    · exact lv_aload_n hx hb hd rfl (hH.get h1) (go h hZ hP hS hH)
    · exact lv_aload_nN hx hb hd rfl (hH.get h1) (go h hZ hP hS hH)
    · exact lv_aload_n hx hb hd rfl (hH.get h1) (go h hZ hP hS hH)
  | aload j =>
    obtain ⟨rfl, h⟩ := h
    rcases lm_lda_of h with ⟨a, h1, h⟩ | ⟨h1, h⟩ | ⟨a, h1, h⟩
    · exact lv_aload hx hb hd (hH.get h1) (go h hZ hP hS hH)
    · exact lv_aloadN hx hb hd (hH.get h1) (go h hZ hP hS hH)
    · exact lv_aload hx hb hd (hH.get h1) (go h hZ hP hS hH)
  | istore_n j =>
    obtain ⟨rfl, hj, h⟩ := h
    obtain ⟨x, r, rfl, h⟩ := lm_s1_of h
    exact lv_istore_n hx hb hd rfl hH.2.1 (by rw [← hH.1]; exact hj) rfl (fun ls1 h1 => go h hZ hP hS (hH.put hj rfl rfl h1))
  | istore j =>
    obtain ⟨rfl, hj, h⟩ := h
    obtain ⟨x, r, rfl, h⟩ := lm_s1_of h
    exact lv_istore hx hb hd hH.2.1 (by rw [← hH.1]; exact hj) rfl (fun ls1 h1 => go h hZ hP hS (hH.put hj rfl rfl h1))
  | astore_n j =>
    obtain ⟨rfl, hj, h⟩ := h
    split at h
    · exact lv_astore_n hx hb hd rfl hH.2.1 (by rw [← hH.1]; exact hj) rfl (fun ls1 h1 => go h hZ hP hS (hH.put hj rfl rfl h1))
    · exact lv_astore_nN hx hb hd rfl hH.2.1 (by rw [← hH.1]; exact hj) rfl (fun ls1 h1 => go h hZ hP hS (hH.put hj rfl rfl h1))
    · exact lv_astore_n hx hb hd rfl hH.2.1 (by rw [← hH.1]; exact hj) rfl (fun ls1 h1 => go h hZ hP hS (hH.put hj rfl rfl h1))
    · exact h.elim
  | astore j =>
    obtain ⟨rfl, hj, h⟩ := h
    split at h
    · exact lv_astore hx hb hd hH.2.1 (by rw [← hH.1]; exact hj) rfl (fun ls1 h1 => go h hZ hP hS (hH.put hj rfl rfl h1))
    · exact lv_astoreN hx hb hd hH.2.1 (by rw [← hH.1]; exact hj) rfl (fun ls1 h1 => go h hZ hP hS (hH.put hj rfl rfl h1))
    · exact lv_astore hx hb hd hH.2.1 (by rw [← hH.1]; exact hj) rfl (fun ls1 h1 => go h hZ hP hS (hH.put hj rfl rfl h1))
    · exact h.elim
  | iinc j v =>
    obtain ⟨rfl, hj, h⟩ := h
    obtain ⟨x, h1, h⟩ := lm_ldi_of h
    obtain ⟨k, hk⟩ := List.getElem?_of_mem (lm_ls_mem (B := B) (b := b) (q := (j, .int x)) |>.mpr ⟨_, h1, rfl⟩)
    exact lv_iinc hx hb hd hH.2.1 hk rfl (by rw [← hH.1]; exact hj) rfl (fun ls1 h1 => go h hZ hP hS (hH.put hj rfl rfl h1))
  | iadd =>
    obtain ⟨rfl, h⟩ := h
    obtain ⟨x, y, r, rfl, h⟩ := lm_s2_of h
    exact lv_iadd hx hb hd (go h hZ hP hS hH)
  | isub =>
    obtain ⟨rfl, h⟩ := h
    obtain ⟨x, y, r, rfl, h⟩ := lm_s2_of h
    exact lv_isub hx hb hd (go h hZ hP hS hH)
  | imul =>
    obtain ⟨rfl, h⟩ := h
    obtain ⟨x, y, r, rfl, h⟩ := lm_s2_of h
    exact lv_imul hx hb hd (go h hZ hP hS hH)
  | iand =>
    obtain ⟨rfl, h⟩ := h
    obtain ⟨x, y, r, rfl, h⟩ := lm_s2_of h
    exact lv_iand hx hb hd (go h hZ hP hS hH)
  | ixor =>
    obtain ⟨rfl, h⟩ := h
    obtain ⟨x, y, r, rfl, h⟩ := lm_s2_of h
    exact lv_ixor hx hb hd (go h hZ hP hS hH)
  | idiv =>
    obtain ⟨rfl, h⟩ := h
    obtain ⟨x, y, r, rfl, h0, h⟩ := lm_s2_of h
    exact lv_idiv hx hb hd h0 (go h hZ hP hS hH)
  | irem =>
    obtain ⟨rfl, h⟩ := h
    obtain ⟨x, y, r, rfl, h0, h⟩ := lm_s2_of h
    exact lv_irem hx hb hd h0 (go h hZ hP hS hH)
  | i2l =>
    obtain ⟨rfl, h⟩ := h
    obtain ⟨x, r, rfl, h⟩ := lm_s1_of h
    exact lv_i2l hx hb hd rfl (go h hZ hP hS hH)
  | lcmp =>
    obtain ⟨rfl, h⟩ := h
    split at h
    · exact W.lcmp hx hb hd (go h hZ hP hS hH)
    · exact h.elim
  | dup =>
    obtain ⟨rfl, h⟩ := h
    split at h
    · exact lv_dup hx hb hd (by rw [lm_v_cat]; exact h.1) (go h.2 hZ hP hS hH)
    · exact h.elim
  | dup2 =>
    obtain ⟨rfl, h⟩ := h
    split at h
    · exact lv_dup2_11 hx hb hd (by rw [lm_v_cat]; exact h.1) (by rw [lm_v_cat]; exact h.2.1) (go h.2.2 hZ hP hS hH)
    · exact h.elim
  | pop =>
    obtain ⟨rfl, h⟩ := h
    split at h
    · exact lv_pop hx hb hd (by rw [lm_v_cat]; exact h.1) (go h.2 hZ hP hS hH)
    · exact h.elim
  | goto o =>
    obtain ⟨rfl, h0, h⟩ := h
    exact lv_goto hx hb hd (to h0) (go h hZ hP hS hH)
  | ifCond cd o =>
    cases cd with
    | eq =>
      obtain ⟨rfl, h0, h⟩ := h
      obtain ⟨x, r, rfl, h⟩ := lm_s1_of h
      exact lv_if_eq hx hb hd (to h0) (fun q => go (h.1 q) hZ hP hS hH) (fun q => go (h.2 q) hZ hP hS hH)
    | ne =>
      obtain ⟨rfl, h0, h⟩ := h
      obtain ⟨x, r, rfl, h⟩ := lm_s1_of h
      exact lv_if_ne hx hb hd (to h0) (fun q => go (h.1 q) hZ hP hS hH) (fun q => go (h.2 q) hZ hP hS hH)
    | lt =>
      obtain ⟨rfl, h0, h⟩ := h
      obtain ⟨x, r, rfl, h⟩ := lm_s1_of h
      exact lv_if_lt hx hb hd (to h0) (fun q => go (h.1 q) hZ hP hS hH) (fun q => go (h.2 q) hZ hP hS hH)
    | le =>
      obtain ⟨rfl, h0, h⟩ := h
      obtain ⟨x, r, rfl, h⟩ := lm_s1_of h
      exact lv_if_le hx hb hd (to h0) (fun q => go (h.1 q) hZ hP hS hH) (fun q => go (h.2 q) hZ hP hS hH)
    | ge =>
      obtain ⟨rfl, h0, h⟩ := h
      obtain ⟨x, r, rfl, h⟩ := lm_s1_of h
      exact lv_if_ge hx hb hd (to h0) (fun q => go (h.1 (Int32.not_lt.mpr q)) hZ hP hS hH) (fun q => go (h.2 (Int32.not_le.mp q)) hZ hP hS hH)
    | gt =>
      obtain ⟨rfl, h0, h⟩ := h
      obtain ⟨x, r, rfl, h⟩ := lm_s1_of h
      exact lv_if_gt hx hb hd (to h0) (fun q => go (h.1 (Int32.not_le.mpr q)) hZ hP hS hH) (fun q => go (h.2 (Int32.not_lt.mp q)) hZ hP hS hH)
  | if_icmp cd o =>
    cases cd with
    | eq =>
      obtain ⟨rfl, h0, h⟩ := h
      obtain ⟨x, y, r, rfl, h⟩ := lm_s2_of h
      exact lv_icmp_eq hx hb hd (to h0) (fun q => go (h.1 q) hZ hP hS hH) (fun q => go (h.2 q) hZ hP hS hH)
    | ne =>
      obtain ⟨rfl, h0, h⟩ := h
      obtain ⟨x, y, r, rfl, h⟩ := lm_s2_of h
      exact lv_icmp_ne hx hb hd (to h0) (fun q => go (h.1 q) hZ hP hS hH) (fun q => go (h.2 q) hZ hP hS hH)
    | lt =>
      obtain ⟨rfl, h0, h⟩ := h
      obtain ⟨x, y, r, rfl, h⟩ := lm_s2_of h
      exact lv_icmp_lt hx hb hd (to h0) (fun q => go (h.1 q) hZ hP hS hH) (fun q => go (h.2 q) hZ hP hS hH)
    | le =>
      obtain ⟨rfl, h0, h⟩ := h
      obtain ⟨x, y, r, rfl, h⟩ := lm_s2_of h
      exact lv_icmp_le hx hb hd (to h0) (fun q => go (h.1 q) hZ hP hS hH) (fun q => go (h.2 q) hZ hP hS hH)
    | ge =>
      obtain ⟨rfl, h0, h⟩ := h
      obtain ⟨x, y, r, rfl, h⟩ := lm_s2_of h
      exact lv_icmp_ge hx hb hd (to h0) (fun q => go (h.1 (Int32.not_lt.mpr q)) hZ hP hS hH) (fun q => go (h.2 (Int32.not_le.mp q)) hZ hP hS hH)
    | gt =>
      obtain ⟨rfl, h0, h⟩ := h
      obtain ⟨x, y, r, rfl, h⟩ := lm_s2_of h
      exact lv_icmp_gt hx hb hd (to h0) (fun q => go (h.1 (Int32.not_le.mpr q)) hZ hP hS hH) (fun q => go (h.2 (Int32.not_lt.mp q)) hZ hP hS hH)
  | ifnonnull o =>
    obtain ⟨rfl, h⟩ := h
    split at h
    · exact lv_ifnonnull hx hb hd (to h.1) (go h.2 hZ hP hS hH)
    · exact lv_ifnonnullN hx hb hd (go h hZ hP hS hH)
    · exact h.elim
  | tableswitch d a1 a2 os =>
    obtain ⟨x, r, rfl, h⟩ := lm_s1_of h
    by_cases q : x.toInt < a1 ∨ a2 < x.toInt
    · obtain ⟨h0, h1⟩ := h.1 q
      exact lv_tableOut hx hb hd q (to h0) (go h1 hZ hP hS hH)
    · obtain ⟨o, ho, h0, h1⟩ := lm_at_of (h.2 (fun z => q (Or.inl z)) (fun z => q (Or.inr z)))
      exact lv_tableIn hx hb hd (fun z => q (Or.inl z)) (fun z => q (Or.inr z)) ho (to h0) (go h1 hZ hP hS hH)
  | getfield j =>
    obtain ⟨rfl, h⟩ := h
    obtain ⟨q, r, rfl, h⟩ := lm_sr_of h
    obtain ⟨f, hf, hq, h⟩ := lm_at_of h
    obtain ⟨fs, hL, h⟩ := lm_ob_of h
    obtain ⟨v, hv, h⟩ := lm_at_of h
    obtain ⟨C, T, N, ⟨hc, hw, -, -⟩, hk, hl, -⟩ := hfld _ _ hf
    have he : (lm_w B b n L)[q]? = some (B + q, .inr (f.1, fs.map (lm_v B b))) := by rw [lm_w_at hq, hL]; rfl
    have hv2 : (fs.map (lm_v B b))[f.2.1]? = some (lm_v B b v) := by rw [List.getElem?_map, hv]; rfl
    rcases hl with hl | ⟨host, hl, -⟩
    · exact va_get (D := D) hx hb hts hw hown hcx.1 hP q he hc f.2.1 hk hl (fun _ h9 => h9) hv2 hd (go h hZ hP hS hH)
    · exact va_getN (D := D) hx hb hts hw hown hcx.1 hP q he hc f.2.1 hk hl (fun _ h9 => h9) hv2 hd (go h hZ hP hS hH)
  | putfield j =>
    obtain ⟨rfl, h⟩ := h
    split at h
    · rename_i v q r
      obtain ⟨f, hf, hq, hft, h⟩ := lm_at_of h
      obtain ⟨fs, hL, hlen, h⟩ := lm_ob_of h
      obtain ⟨C, T, N, ⟨hc, hw, ⟨ty, hty⟩, hnm⟩, hk, hl, hfy⟩ := hfld _ _ hf
      have he : (lm_w B b n L)[q]? = some (B + q, .inr (f.1, fs.map (lm_v B b))) := by rw [lm_w_at hq, hL]; rfl
      have hlen2 : f.2.1 < (fs.map (lm_v B b)).length := by rw [List.length_map]; exact hlen
      have hset : lm_e B b (.inr (f.1, fs.set f.2.1 v)) = .inr (f.1, (fs.map (lm_v B b)).set f.2.1 (lm_v B b v)) := by
        show (Sum.inr (f.1, (fs.set f.2.1 v).map (lm_v B b)) : va_E) = _
        rw [List.map_set]
      have hZq : ∀ H1 : Heap, H1.size = H.size → lm_Z ex B n H1 := fun H1 hz => ⟨by rw [hz]; exact hZ.1, fun h9 => by rw [hz]; exact hZ.2 h9⟩
      obtain ⟨f0, f1, f2⟩ := f
      dsimp only at hft hfy hl hk hc he hlen2 hset h ⊢
      match f2, v, hft with
      | 0, .int x, _ =>
        rcases hl with hl | ⟨host, hl, -⟩
        · exact lm_put hx hb hts hw ty hty hnm hown hcx.1 hP hS q he hc f1 hk hl hfy.1 hfy.2 rfl rfl hlen2 hd (fun H1 locs1 a1 a2 a3 => go h (hZq H1 a3) (by rw [← lm_w_set hq hset]; exact a1) a2 hH)
        · exact lm_putN hx hb hts hw ty hty hnm hown hcx.1 hP hS q he hc f1 hk hl hfy.1 hfy.2 rfl rfl hlen2 hd (fun H1 locs1 a1 a2 a3 => go h (hZq H1 a3) (by rw [← lm_w_set hq hset]; exact a1) a2 hH)
      | 1, .int x, hx01 =>
        have hn : narrow .boolean (.int x) = .int x := by rcases hx01 with rfl | rfl <;> rfl
        have hn2 : fits .boolean (.int x) = true := by rcases hx01 with rfl | rfl <;> rfl
        rcases hl with hl | ⟨host, hl, -⟩
        · exact lm_put hx hb hts hw ty hty hnm hown hcx.1 hP hS q he hc f1 hk hl hfy.1 hfy.2 hn hn2 hlen2 hd (fun H1 locs1 a1 a2 a3 => go h (hZq H1 a3) (by rw [← lm_w_set hq hset]; exact a1) a2 hH)
        · exact lm_putN hx hb hts hw ty hty hnm hown hcx.1 hP hS q he hc f1 hk hl hfy.1 hfy.2 hn hn2 hlen2 hd (fun H1 locs1 a1 a2 a3 => go h (hZq H1 a3) (by rw [← lm_w_set hq hset]; exact a1) a2 hH)
      | 2, .ref x, hi =>
        obtain ⟨hfin, ho, t, ht⟩ := hfy
        rcases hl with hl | ⟨host, hl, h9⟩
        · exact lm_putF hx hb hts hw ty hty hnm hown hcx.1 hP hS q he hc f1 hk hl hfin (hini hi) (ho hi) ht rfl rfl hlen2 hd (fun H1 locs1 a1 a2 a3 => go h (hZq H1 a3) (by rw [← lm_w_set hq hset]; exact a1) a2 hH)
        · exact absurd h9 (by decide)
    · exact h.elim
  | iaload =>
    obtain ⟨rfl, h⟩ := h
    split at h
    · obtain ⟨hq, h⟩ := h
      obtain ⟨k, f, hL, hin, h⟩ := lm_ia_of h
      exact va_iald hx hb hcx.1 hP _ 0 (by rw [lm_w_at hq, hL]; rfl) rfl hin hd (go h hZ hP hS hH)
    · obtain ⟨q, hq, hin, h⟩ := lm_at_of h
      obtain ⟨hX, hbB, hbl⟩ := hscr _ hq
      exact va_sld hx hb hX hbl (Nat.not_le.mpr hbB) hS hin hd (go h hZ hP hS hH)
    · exact h.elim
  | baload =>
    obtain ⟨rfl, h⟩ := h
    split at h
    · obtain ⟨hq, h⟩ := h
      obtain ⟨k, f, hL, hin, h⟩ := lm_ia_of h
      exact va_zald hx hb hcx.1 hP _ 1 (by rw [lm_w_at hq, hL]; rfl) rfl hin hd (go h hZ hP hS hH)
    · exact h.elim
  | laload =>
    obtain ⟨rfl, h⟩ := h
    split at h
    · obtain ⟨hq, h⟩ := h
      obtain ⟨k, f, hL, hin, h⟩ := lm_la_of h
      exact va_lald hx hb hcx.1 hP _ 2 (by rw [lm_w_at hq, hL]; rfl) rfl hin hd (go h hZ hP hS hH)
    · exact h.elim
  | aaload =>
    obtain ⟨rfl, h⟩ := h
    split at h
    · obtain ⟨hq, h⟩ := h
      obtain ⟨c1, k, f, hL, hc1, hin, h⟩ := lm_qa_of h
      have h9 := go h hZ hP hS hH
      rw [List.map_cons, lm_v_rf] at h9
      rcases hc1 with rfl | rfl
      · exact va_aldq (C := RX0) hx hb hcx.1 hP _ 3 (by rw [lm_w_at hq, hL]; rfl) rfl hin hd h9
      · exact va_aldq (C := RX1) hx hb hcx.1 hP _ 4 (by rw [lm_w_at hq, hL]; rfl) rfl hin hd h9
    · exact h.elim
  | iastore =>
    obtain ⟨rfl, h⟩ := h
    split at h
    · obtain ⟨hq, h⟩ := h
      obtain ⟨k, f, hL, hin, h⟩ := lm_ia_of h
      exact lm_iast hx hb hcx.1 hP hS _ 0 (by rw [lm_w_at hq, hL]; rfl) rfl hin hd (fun H1 locs1 a1 a2 a3 => go h ⟨by rw [a3]; exact hZ.1, fun h9 => by rw [a3]; exact hZ.2 h9⟩ (by rw [← lm_w_set hq rfl]; exact a1) a2 hH)
    · exact h.elim
  | bastore =>
    obtain ⟨rfl, h⟩ := h
    split at h
    · obtain ⟨hq, h01, h⟩ := h
      obtain ⟨k, f, hL, hin, h⟩ := lm_ia_of h
      exact lm_zast hx hb hcx.1 hP hS _ 1 (by rw [lm_w_at hq, hL]; rfl) rfl h01 hin hd (fun H1 locs1 a1 a2 a3 => go h ⟨by rw [a3]; exact hZ.1, fun h9 => by rw [a3]; exact hZ.2 h9⟩ (by rw [← lm_w_set hq rfl]; exact a1) a2 hH)
    · exact h.elim
  | lastore =>
    obtain ⟨rfl, h⟩ := h
    split at h
    · obtain ⟨hq, h⟩ := h
      obtain ⟨k, f, hL, hin, h⟩ := lm_la_of h
      exact lm_last hx hb hcx.1 hP hS _ 2 (by rw [lm_w_at hq, hL]; rfl) rfl hin hd (fun H1 locs1 a1 a2 a3 => go h ⟨by rw [a3]; exact hZ.1, fun h9 => by rw [a3]; exact hZ.2 h9⟩ (by rw [← lm_w_set hq rfl]; exact a1) a2 hH)
    · exact h.elim
  | arraylength =>
    obtain ⟨rfl, h⟩ := h
    split at h
    · rename_i a r
      obtain ⟨hq, h⟩ := h
      split at h
      · rename_i c1 k x hL
        obtain ⟨hc1, h⟩ := h
        have he : (lm_w B b n L)[a]? = some (B + a, .inl (c1, lm_ar B (k, x))) := by rw [lm_w_at hq, hL]; rfl
        have hz : Int32.ofNat (lm_ar B (k, x)).1 = Int32.ofNat k := by rcases x with x | x | x | x | x <;> rfl
        rcases hc1 with rfl | rfl | rfl
        · exact va_alen hx hb hcx.1 hP _ 0 he rfl hz hd (go h hZ hP hS hH)
        · exact va_alen hx hb hcx.1 hP _ 3 he rfl hz hd (go h hZ hP hS hH)
        · exact va_alen hx hb hcx.1 hP _ 4 he rfl hz hd (go h hZ hP hS hH)
      · exact h.elim
    · obtain ⟨q, hq, h⟩ := lm_at_of h
      obtain ⟨hX, hbB, hbl⟩ := hscr _ hq
      exact va_slen hx hb hX hbl (Nat.not_le.mpr hbB) hS hd (go h hZ hP hS hH)
    · exact h.elim
  | invokevirtual j =>
    obtain ⟨rfl, h⟩ := h
    obtain ⟨f, hf, h⟩ := lm_at_of h
    obtain ⟨As, r, hAl, hst0, h1⟩ := lm_pop_of _ _ _ h
    clear h
    subst hst0
    rw [List.append_nil] at h1
    obtain ⟨y, c1, maxL, ret, rm, C, T, N, k, hk, hc, hM, hcw⟩ := hcv _ _ hf
    match As, hAl, h1 with
    | .ref q :: As, hAl, h1 =>
      obtain ⟨hq, h1⟩ := h1
      obtain ⟨fs, hL, b1, b2, hst, hwp⟩ := lm_ob_of h1
      have he : (lm_w B b n L)[q]? = some (B + q, .inr (f.2.1, fs.map (lm_v B b))) := by rw [lm_w_at hq, hL]; rfl
      rw [lm_map_rev]
      refine lm_call (vx_runV (As := As.map (lm_v B b)) (rest := r.map (lm_v B b)) (b := B + q) ⟨hx, hb, hml, hown, hts⟩ (hM _ _ _ _ _ hwp) hcw ⟨lm_blind _ _ _ _ _ _ _ _, va_recv (q := (C, T, N)) (ci := f.2.1) (q0 := q) hcx.1 hP hc he, fun U hU hW => ⟨rfl, by rw [hU]; exact hZ, by rw [hU]; exact hP, hcx.to hW (by rw [hU]; exact hS.2.1)⟩⟩ rfl (by rw [List.length_map]; rw [hk] at hAl; simpa using hAl) hH.2.1.1 (by simp [lm_v]) (lv_room (by rw [lm_cats]; exact hst)) hd ⟨Nat.le_trans b1 hrc, Nat.le_trans b2 hrs⟩) hS ?_ ?_
      · intro rv n1 L1 H1 locs1 hp z1 p1 s1
        have h9 := go hp z1 p1 s1 hH
        rw [List.map_append] at h9
        cases rv <;> exact h9
      · intro en n1 L1 H1 locs1 q9 ce hp z1 p1 s1 e1 e2 e3
        cases hct : lm_ct E pc en with
        | none =>
          rw [hct] at hp
          exact hXo pc en lo r n1 L1 _ _ hct b1 b2 hp H1 locs1 ls q9 ce z1 p1 s1 hH e1 e2 e3
        | some h0 =>
          rw [hct] at hp
          exact hXc pc en h0 lo r n1 L1 _ _ hct (fun k9 => hK _ _ _ _ _ _ _ (hp k9)) H1 locs1 ls q9 ce z1 p1 s1 hH e1 e2 e3
    | [], _, h1 => exact h1.elim
    | .int _ :: _, _, h1 => exact h1.elim
    | .long _ :: _, _, h1 => exact h1.elim
    | .float _ :: _, _, h1 => exact h1.elim
    | .double _ :: _, _, h1 => exact h1.elim
    | .null :: _, _, h1 => exact h1.elim
    | .retAddr _ :: _, _, h1 => exact h1.elim
  | invokestatic j =>
    obtain ⟨rfl, h⟩ := h
    split at h
    · rename_i hcj
      obtain ⟨hex, w1, w2, w3, w4, hf1, hl1⟩ := hcp _ hcj
      split at h
      · rename_i k dp a sp a0 r
        obtain ⟨rfl, hq, hst, h⟩ := h
        obtain ⟨N, f, hL, c1, c2, c3, c4, c5, h⟩ := lm_ia_of h
        have he : (lm_w B b n L)[a0]? = some (B + a0, .inl (lm_id E 0, N, .inl f)) := by rw [lm_w_at hq, hL]; rfl
        refine va_copyi hx hb (by rw [hml]; exact hH.2.1.1.symm) hown (hts _ w1) (hts _ w2) (hts _ w3) (hts _ w4) hcx.1 hP lm_w_D hS a0 a0 0 0 he he rfl rfl rfl c1 c2 c3 c4 c5 (fun _ _ => rfl) hf1 (Nat.le_trans (Nat.add_le_add_right (by rw [lm_cats]; exact hst) _) hl1) hd (fun H1 locs1 a1 _ a3 => ?_)
        have a1 : va_P D vwCl (lm_w B b n (va_up L a0 (.inl (lm_id E 0, N, .inl (va_cpy f f sp.toNatClampNeg dp.toNatClampNeg k.toNatClampNeg))))) H1 := by rw [← lm_w_set hq rfl]; exact a1
        refine go h ⟨?_, fun h9 => by rw [hex] at h9; cases h9⟩ a1 a3 hH
        have hn0 : 0 < n := Nat.lt_of_le_of_lt (Nat.zero_le _) hq
        have hn1 : n - 1 < n := by omega
        have h9 := (a1 (n - 1) _ (lm_w_at hn1)).lt
        dsimp only at h9
        omega
      · exact h.elim
    · obtain ⟨f, hf, h⟩ := lm_at_of h
      obtain ⟨As, r, hAl, hst0, h1⟩ := lm_pop_of _ _ _ h
      clear h
      subst hst0
      rw [List.append_nil] at h1
      obtain ⟨y, c1, maxL, ret, rm, hM, hcw⟩ := hcs _ _ hf
      obtain ⟨b1, b2, hst, hwp⟩ := h1
      rw [lm_map_rev]
      refine lm_call (vx_runS (As := As.map (lm_v B b)) (rest := r.map (lm_v B b)) ⟨hx, hb, hml, hown, hts⟩ (hM _ _ _ _ _ hwp) hcw ⟨lm_blind _ _ _ _ _ _ _ _, fun U hU hW => ⟨rfl, by rw [hU]; exact hZ, by rw [hU]; exact hP, hcx.to hW (by rw [hU]; exact hS.2.1)⟩⟩ rfl (by rw [List.length_map]; exact hAl) hH.2.1.1 rfl (lv_room (by rw [lm_cats]; exact hst)) hd ⟨Nat.le_trans b1 hrc, Nat.le_trans b2 hrs⟩) hS ?_ ?_
      · intro rv n1 L1 H1 locs1 hp z1 p1 s1
        have h9 := go hp z1 p1 s1 hH
        rw [List.map_append] at h9
        cases rv <;> exact h9
      · intro en n1 L1 H1 locs1 q9 ce hp z1 p1 s1 e1 e2 e3
        cases hct : lm_ct E pc en with
        | none =>
          rw [hct] at hp
          exact hXo pc en lo r n1 L1 _ _ hct b1 b2 hp H1 locs1 ls q9 ce z1 p1 s1 hH e1 e2 e3
        | some h0 =>
          rw [hct] at hp
          exact hXc pc en h0 lo r n1 L1 _ _ hct (fun k9 => hK _ _ _ _ _ _ _ (hp k9)) H1 locs1 ls q9 ce z1 p1 s1 hH e1 e2 e3
  | invokespecial j =>
    obtain ⟨rfl, h⟩ := h
    obtain ⟨f, hf, h⟩ := lm_at_of h
    obtain ⟨As, r, hAl, hst0, h1⟩ := lm_pop_of _ _ _ h
    clear h
    subst hst0
    rw [List.append_nil] at h1
    match As, hAl, h1 with
    | .ref q :: As, hAl, h1 =>
      obtain ⟨b1, b2, hst, hwp⟩ := h1
      rw [lm_map_rev]
      rcases hci _ _ hf with ⟨hk, hf2, w1, w2, w3, hf1, hl1⟩ | ⟨y, c1, maxL, rm, hk, hyn, hM, hmono, hcw⟩
      · obtain ⟨f0, f1, f2, f3, f4⟩ := f
        obtain ⟨rfl, rfl, rfl⟩ : f2 = (fun _ n L post _ => post none n L) ∧ f3 = 0 ∧ f4 = 0 := by
          simp only [Prod.mk.injEq] at hf2
          exact hf2
        have hA0 : As = [] := by
          have h9 : f0 = 1 := hk
          rw [h9] at hAl
          simpa using hAl
        subst hA0
        refine W.objInit hx hb hown (hts _ w1) (hts _ w2) (hts _ w3) rfl (by rw [hml]; exact hH.2.1.1) rfl hd hf1 ?_ (go hwp hZ hP hS hH)
        show 0 + ((r.map (lm_v B b)).map fun v => v.category).sum + 12 ≤ R.locals
        rw [lm_cats]
        omega
      · have hA0 : As = [] := by
          rw [hk] at hAl
          simpa using hAl
        subst hA0
        have hMet : Met l y (.code y c1 maxL none :: lm_WT) rm (lm_Pc D (lm_tys E) B b ex [.ref q] n L) (lm_Qc D B b ex (fun rv n1 L1 => K (pc + 3) lo (rv.toList ++ r) n1 L1 (bc + f.2.2.2.1) (bs + f.2.2.2.2))) f.2.2.2.1 f.2.2.2.2 (lm_A B) := by
          refine MetFree.mono (hM _ _ _ _ _ (hmono _ _ _ _ _ hwp)) (fun _ _ h => h) (fun _ _ _ _ _ _ => trivial) (fun a9 s9 o9 t9 _ h9 => ?_)
          rcases h9 with h9 | ⟨q9, -, E9, ce9, L9, ⟨n9, L9', hF, -⟩, -⟩
          · exact h9
          · exact hF.elim
        have hrun : va_Run p l e R s m args below meth c H locs bc bs f.2.2.2.1 f.2.2.2.2 (F0 m pc ls (([Value.ref q].map (lm_v B b)).reverse ++ r.map (lm_v B b))) (r.map (lm_v B b)) (lm_Qc D B b ex (fun rv n1 L1 => K (pc + 3) lo (rv.toList ++ r) n1 L1 (bc + f.2.2.2.1) (bs + f.2.2.2.2)) #[.ref (B + q)]) (lm_A B) := by
          rcases hcw with hcw | ⟨host, hcw⟩
          · exact va_runI (As := []) (rest := r.map (lm_v B b)) (b := B + q) ⟨hx, hb, hml, hown, hts⟩ hMet hcw ⟨lm_blind _ _ _ _ _ _ _ _, fun U hU hW => ⟨rfl, by rw [hU]; exact hZ, by rw [hU]; exact hP, hcx.to hW (by rw [hU]; exact hS.2.1)⟩⟩ rfl rfl hH.2.1.1 rfl (lv_room (by rw [lm_cats]; exact hst)) hd ⟨Nat.le_trans b1 hrc, Nat.le_trans b2 hrs⟩
          · exact va_runIN (As := []) (rest := r.map (lm_v B b)) (b := B + q) ⟨hx, hb, hml, hown, hts⟩ hMet hcw ⟨lm_blind _ _ _ _ _ _ _ _, fun U hU hW => ⟨rfl, by rw [hU]; exact hZ, by rw [hU]; exact hP, hcx.to hW (by rw [hU]; exact hS.2.1)⟩⟩ rfl rfl hH.2.1.1 rfl (lv_room (by rw [lm_cats]; exact hst)) hd ⟨Nat.le_trans b1 hrc, Nat.le_trans b2 hrs⟩
        refine lm_callN hrun hS ?_
        intro rv n1 L1 H1 locs1 hp z1 p1 s1
        have h9 := go hp z1 p1 s1 hH
        rw [List.map_append] at h9
        cases rv <;> exact h9
    | [], _, h1 => exact h1.elim
    | .int _ :: _, _, h1 => exact h1.elim
    | .long _ :: _, _, h1 => exact h1.elim
    | .float _ :: _, _, h1 => exact h1.elim
    | .double _ :: _, _, h1 => exact h1.elim
    | .null :: _, _, h1 => exact h1.elim
    | .retAddr _ :: _, _, h1 => exact h1.elim
  | ireturn =>
    obtain ⟨rfl, h⟩ := h
    split at h
    · exact hQi _ _ _ _ _ _ _ hd h.1 h.2.1 h.2.2 H locs ls hZ hP hS hH
    · exact h.elim
  | areturn =>
    obtain ⟨rfl, h⟩ := h
    split at h
    · exact hQa _ _ _ _ _ _ _ hd h.1 h.2.1 (Or.inr ⟨_, rfl⟩) h.2.2 H locs ls hZ hP hS hH
    · exact hQa _ _ _ _ _ _ _ hd h.1 h.2.1 (Or.inl rfl) h.2.2 H locs ls hZ hP hS hH
    · exact h.elim
  | return_ =>
    obtain ⟨rfl, h⟩ := h
    split at h
    · exact hQv _ _ _ _ _ _ hd h.1 h.2.1 h.2.2 H locs ls hZ hP hS hH
    · exact h.elim
  | new j =>
    obtain ⟨rfl, h⟩ := h
    split at h
    · rename_i en hen
      obtain ⟨rfl, b1, b2, h2⟩ := h
      exact hthr _ _ _ _ _ _ _ hen b1 b2 h2 H locs ls hZ hP hS hH
    · obtain ⟨f, hf, b1, b2, h⟩ := lm_at_of h
      obtain ⟨C, T, hex, ⟨hc, hw, -, -⟩, w1, w2, w3, ⟨ty, hty, hdf⟩, hmp⟩ := hnew _ _ hf
      have hz := hZ.2 hex
      have hKn := hcx.1.1 f.1 _ hc
      refine W.newcK hx hb hown (hts _ w1) (hts _ w2) (hts _ w3) rfl hd (Nat.le_trans b1 hrc) (Nat.le_trans b2 hrs) hKn.2.1 hz fun H1 kC hkC e1 z1 o1 => ?_
      have hP1 : va_P D vwCl (lm_w B b (n + 1) (va_up L n (.inr (f.1, f.2)))) H1 := by
        rw [← lm_w_push (e := .inr (f.1, f.2)) rfl]
        refine (hP.kept (fun k x hx9 => o1 x.1 (by rw [← hz]; exact (hP k x hx9).lt))).app (fun k x hx9 => ?_)
        have hz9 : k < 1 := (List.getElem?_eq_some_iff.mp hx9).1
        rw [show k = 0 by omega] at hx9
        cases hx9
        refine ⟨_, hc, (u_born ty hts hw hKn hkC e1 hty).to (fun j hj => ?_)⟩
        rw [hdf j hj]
        show vp_V f.2 j = vp_V (f.2.map (lm_v B b)) j
        rw [hmp]
      exact go h ⟨by rw [z1]; omega, fun _ => by rw [z1]; omega⟩ hP1 (lm_grow hS (by rw [z1, hz]; omega) (fun q hq => o1 q (by rw [← hz]; exact hq))) hH
  | newarray t =>
    obtain ⟨rfl, hal, h⟩ := h
    obtain ⟨x, r, rfl, hx0, hx1, b1, b2, h⟩ := lm_s1_of h
    obtain ⟨hex, wi, wz, wj⟩ := hnar hal
    have hz := hZ.2 hex
    cases t with
    | int =>
      refine va_newaK hx hb (atype := .int) (hts _ wi) rfl hd rfl hx0 rfl (Nat.le_trans (Nat.mul_le_mul_right _ hx1) (by decide)) (Nat.le_trans b1 hrc) (Nat.le_trans b2 hrs) hz fun H1 cA e1 z1 o1 _ hnm => ?_
      exact lm_fresh (a0 := (x.toNatClampNeg, .inl (fun _ => 0))) (ty := .int) 0 hcx.1 rfl hnm hZ hz hP hS e1 z1 o1 (fun a1 a2 a3 => go h a1 a2 a3 hH)
    | boolean =>
      refine va_newaK hx hb (atype := .boolean) (hts _ wz) rfl hd rfl hx0 rfl (Nat.le_trans (Nat.mul_le_mul_right _ hx1) (by decide)) (Nat.le_trans b1 hrc) (Nat.le_trans b2 hrs) hz fun H1 cA e1 z1 o1 _ hnm => ?_
      exact lm_fresh (a0 := (x.toNatClampNeg, .inl (fun _ => 0))) (ty := .boolean) 1 hcx.1 rfl hnm hZ hz hP hS e1 z1 o1 (fun a1 a2 a3 => go h a1 a2 a3 hH)
    | long =>
      refine va_newaK hx hb (atype := .long) (hts _ wj) rfl hd rfl hx0 rfl (Nat.le_trans (Nat.mul_le_mul_right _ hx1) (by decide)) (Nat.le_trans b1 hrc) (Nat.le_trans b2 hrs) hz fun H1 cA e1 z1 o1 _ hnm => ?_
      exact lm_fresh (a0 := (x.toNatClampNeg, .inr (.inl (fun _ => 0)))) (ty := .long) 2 hcx.1 rfl hnm hZ hz hP hS e1 z1 o1 (fun a1 a2 a3 => go h a1 a2 a3 hH)
    | _ => exact h.elim
  | anewarray j =>
    obtain ⟨rfl, h⟩ := h
    obtain ⟨x, r, rfl, h⟩ := lm_s1_of h
    obtain ⟨f, hf, hf2, hx0, hx1, b1, b2, h⟩ := lm_at_of h
    obtain ⟨C, T, hex, ⟨hc, -, -, -⟩, w1, -⟩ := hnew _ _ hf
    have hz := hZ.2 hex
    have hCC : (f.1 = 0 ∧ C = RX0) ∨ (f.1 = 1 ∧ C = RX1) := by
      rcases (show f.1 = 0 ∨ f.1 = 1 by omega) with e | e
      · rw [e] at hc; exact Or.inl ⟨e, (congrArg Prod.fst (Option.some.inj (show some (RX0, TX0, 15) = some (C, T, f.2.length) from hc))).symm⟩
      · rw [e] at hc; exact Or.inr ⟨e, (congrArg Prod.fst (Option.some.inj (show some (RX1, TX1, 2) = some (C, T, f.2.length) from hc))).symm⟩
    have key : ∀ (C1 : String) (t0 : Nat) (cA0 : ClassId), C = C1 → va_AO C1 s → (lm_tys E)[t0]? = some (cA0, .object C1) → K (pc + 3) lo (.ref n :: r) (n + 1) (va_up L n (.inl (cA0, x.toNatClampNeg, .inr (.inr (.inr (.inr (fun _ => none))))))) (bc + 1) (bs + x.toNatClampNeg) → W p l e R s m args below meth c H locs bc bs QF (F0 m pc ls ((.int x :: r).map (lm_v B b))) := by
      intro C1 t0 cA0 e0 hAO ht0 h
      subst e0
      refine W.anew hx hb hown (hts _ w1) (va_AO.use hAO) rfl hd rfl hx0 (Nat.le_trans (Nat.mul_le_mul_right _ hx1) (by decide)) (Nat.le_trans b1 hrc) (Nat.le_trans b2 hrs) fun cA kA comp f1 f2 f3 f4 => ?_
      have hcA : cA = cA0 := by
        obtain ⟨kA9, comp9, -, -, -, h9⟩ := (hcx.1.2 t0 _ ht0).2
        exact Option.some.inj (f1.symm.trans h9)
      subst hcA
      have e1 : (H.push ({ cls := cA, slots := Array.replicate x.toNatClampNeg .null, vm := .none } : Cell))[B + n]? = some (vp_cell cA (lm_ar B (x.toNatClampNeg, .inr (.inr (.inr (.inr (fun _ => none))))))) := by
        rw [← hz, Array.getElem?_push_size]
        exact congrArg some (by first | exact arrV_new _ _ _ | exact arrV_new)
      have hP1 : va_P D vwCl (lm_w B b (n + 1) (va_up L n (.inl (cA, x.toNatClampNeg, .inr (.inr (.inr (.inr (fun _ => none)))))))) (H.push ({ cls := cA, slots := Array.replicate x.toNatClampNeg .null, vm := .none } : Cell)) := by
        rw [← lm_w_push (e := .inl (cA, x.toNatClampNeg, .inr (.inr (.inr (.inr (fun _ => none)))))) rfl]
        refine (hP.kept (fun k y hy9 => by rw [Array.getElem?_push, if_neg (Nat.ne_of_lt ((hP k y hy9).lt))])).app (fun k y hy9 => ?_)
        have hz9 : k < 1 := (List.getElem?_eq_some_iff.mp hy9).1
        rw [show k = 0 by omega] at hy9
        cases hy9
        exact e1
      have h9 := go (locs := locs) h ⟨by rw [Array.size_push]; omega, fun _ => by rw [Array.size_push]; omega⟩ hP1 (lm_grow hS (by rw [Array.size_push]; omega) (fun q hq => by rw [Array.getElem?_push, if_neg (Nat.ne_of_lt hq)])) hH
      rw [show H.size = B + n from hz]
      exact h9
    rcases hCC with ⟨e1, e2⟩ | ⟨e1, e2⟩
    · rw [e1] at h; exact key RX0 3 _ e2 hcx.2.2.2.2.2.2.1 rfl h
    · rw [e1] at h; exact key RX1 4 _ e2 hcx.2.2.2.2.2.2.2 rfl h
  | aastore =>
    obtain ⟨rfl, h⟩ := h
    split at h
    · rename_i v i a r
      obtain ⟨hq, hv, h⟩ := h
      obtain ⟨c1, k, f, hL, hc1, hin, h⟩ := lm_qa_of h
      have he : (lm_w B b n L)[a]? = some (B + a, .inl (c1, k, .inr (.inr (.inr (.inr (fun j => (f j).map (fun q => B + q))))))) := by rw [lm_w_at hq, hL]; rfl
      have hup : (va_up (fun j => (f j).map (fun q => B + q)) i.toNatClampNeg (some (B + v))) = (fun j => ((va_up f i.toNatClampNeg (some v)) j).map (fun q => B + q)) := by
        funext j
        by_cases hj : j = i.toNatClampNeg
        · subst hj; rw [va_up_self, va_up_self]; rfl
        · rw [va_up_ne _ _ hj, va_up_ne _ _ hj]
      rcases hc1 with ⟨rfl, ho⟩ | ⟨rfl, ho⟩
      · obtain ⟨vs, hLv, -⟩ := lm_ob_of ho
        exact lm_astq (r := (RX0, TX0, 15)) hx hb hcx.1 hP hS a 3 v 0 he rfl (by rw [lm_w_at hv, hLv]; rfl) rfl hin hd (fun H1 locs1 a1 a2 a3 => go h ⟨by rw [a3]; exact hZ.1, fun h9 => by rw [a3]; exact hZ.2 h9⟩ (by rw [← lm_w_set hq rfl]; rw [hup] at a1; exact a1) a2 hH)
      · obtain ⟨vs, hLv, -⟩ := lm_ob_of ho
        exact lm_astq (r := (RX1, TX1, 2)) hx hb hcx.1 hP hS a 4 v 1 he rfl (by rw [lm_w_at hv, hLv]; rfl) rfl hin hd (fun H1 locs1 a1 a2 a3 => go h ⟨by rw [a3]; exact hZ.1, fun h9 => by rw [a3]; exact hZ.2 h9⟩ (by rw [← lm_w_set hq rfl]; rw [hup] at a1; exact a1) a2 hH)
    · exact h.elim
  | _ => exact h.elim
end
section
/-! from a segment to the machine; a method's entry, its ends, its contract -/
theorem lm_seg_ok {p : Program} {l : Launch} {e : Env} {R : Room} {s : State} {m : MethodId} {args : Array Value} {below : List Frame} {meth : Method} {c : Code} {D : va_G} {B b : Nat} {ex : Bool} {nL : Nat} {own : String} {cc : ByteArray} {E : lm_E} {Q : lm_Q} {X : lm_X} {QF : State → Prop}
    (hT : lm_T p l e R s m args below meth c D B b ex nL own cc E Q X QF) (stop : Nat → Bool) : ∀ (f pc : Nat) (lo : lm_O) (st : List Value) (n : Nat) (L : lm_L) (bc bs : Nat),
    lm_seg E cc Q X stop (lm_G p l e R s m args below meth c D B b ex nL QF) f pc lo st n L bc bs → lm_G p l e R s m args below meth c D B b ex nL QF pc lo st n L bc bs := by
  intro f
  induction f with
  | zero => intro pc lo st n L bc bs h; exact h.elim
  | succ f ih =>
    intro pc lo st n L bc bs h
    unfold lm_seg at h
    split at h
    · rename_i i len hd
      refine lm_step_ok hT (fun pc lo st n L bc bs hk => ?_) hd h
      by_cases hs : stop pc = true
      · rw [if_pos hs] at hk; exact hk
      · rw [if_neg hs] at hk; exact ih _ _ _ _ _ _ _ hk
    · exact h.elim
theorem lm_wp_ok {p : Program} {l : Launch} {e : Env} {R : Room} {s : State} {m : MethodId} {args : Array Value} {below : List Frame} {meth : Method} {c : Code} {D : va_G} {B b : Nat} {ex : Bool} {nL : Nat} {own : String} {cc : ByteArray} {E : lm_E} {Q : lm_Q} {X : lm_X} {QF : State → Prop}
    (hT : lm_T p l e R s m args below meth c D B b ex nL own cc E Q X QF) {pc : Nat} {lo : lm_O} {st : List Value} {n : Nat} {L : lm_L} {bc bs : Nat} (h : lm_wp E cc Q X pc lo st n L bc bs) : lm_G p l e R s m args below meth c D B b ex nL QF pc lo st n L bc bs :=
  h _ (fun stop f pc lo st n L bc bs h9 => lm_seg_ok hT stop f pc lo st n L bc bs h9)
theorem lm_args_at : ∀ (vs : List Value) (i j : Nat) (v : Value), (∀ u ∈ vs, u.category = 1) → vs[j]? = some v → (i + j, v) ∈ lv_args i vs
  | [], i, j, v, _, h => by simp at h
  | u :: vs, i, 0, v, hc, h => by
    simp at h
    subst h
    exact List.mem_cons_self
  | u :: vs, i, j + 1, v, hc, h => by
    unfold lv_args
    rw [if_neg (by rw [hc u List.mem_cons_self]; decide)]
    refine List.mem_cons_of_mem _ ?_
    have h9 := lm_args_at vs (i + 1) j v (fun w hw => hc w (List.mem_cons_of_mem _ hw)) (by simpa using h)
    rw [show i + (j + 1) = i + 1 + j by omega]
    exact h9
theorem lm_sl_len : ∀ (vs : List Value), (∀ u ∈ vs, u.category = 1) → (lg_sl vs).length = vs.length
  | [], _ => rfl
  | u :: vs, h => by
    have h1 := lm_sl_len vs (fun w hw => h w (List.mem_cons_of_mem _ hw))
    have h2 : ¬ u.category = 2 := by rw [h u List.mem_cons_self]; decide
    simp [lg_sl, h2] at h1 ⊢
    omega
theorem lm_entry {B b nL : Nat} {As : List Value} (hc : ∀ u ∈ As, u.category = 1) (hl : As.length ≤ nL) : lm_H B b nL (lm_ent As nL) ((lg_sl (As.map (lm_v B b)) ++ List.replicate (nL - (lg_sl (As.map (lm_v B b))).length) Slot.unset).toArray) := by
  have hc2 : ∀ u ∈ As.map (lm_v B b), u.category = 1 := by
    intro u hu
    obtain ⟨w, hw, rfl⟩ := List.mem_map.mp hu
    rw [lm_v_cat]
    exact hc w hw
  have hl2 : (lg_sl (As.map (lm_v B b))).length ≤ nL := by rw [lm_sl_len _ hc2, List.length_map]; exact hl
  have h1 := lv_entry (As.map (lm_v B b)) hl2
  have key : ∀ (i : Nat) (v : Value), (lm_ent As nL)[i]? = some (some v) → As[i]? = some v := by
    intro i v hi
    unfold lm_ent at hi
    by_cases hia : i < As.length
    · rw [List.getElem?_append_left (by simpa using hia), List.getElem?_map] at hi
      cases ha : As[i]? with
      | none => rw [ha] at hi; simp at hi
      | some w => rw [ha] at hi; simp at hi; rw [hi]
    · rw [List.getElem?_append_right (by simp; omega)] at hi
      have := List.mem_of_getElem? hi
      simp at this
  refine ⟨by simp [lm_ent]; omega, ⟨h1.1, h1.2.1, fun q hq => h1.2.2 q ?_⟩, fun i v hi => hc v (List.mem_of_getElem? (key i v hi))⟩
  obtain ⟨v, hv, he⟩ := lm_ls_mem.mp hq
  have h2 := key _ _ hv
  have h3 := lm_args_at (As.map (lm_v B b)) 0 q.1 (lm_v B b v) hc2 (by rw [List.getElem?_map, h2]; rfl)
  rw [Nat.zero_add, ← he] at h3
  exact h3
/-- the world stays where cells are only made -/
theorem lm_kept {D : va_G} {B b n : Nat} {L : lm_L} {H H1 : Heap} (hP : va_P D vwCl (lm_w B b n L) H) (hk : ∀ q : Nat, q < H.size → H1[q]? = H[q]?) : va_P D vwCl (lm_w B b n L) H1 :=
  hP.kept (fun k q hq => hk q.1 ((hP k q hq).lt))
/-! a method's ends -/
section LME
variable {p : Program} {l : Launch} {e : Env} {R : Room} {s : State} {m : MethodId} {args : Array Value} {below : List Frame} {meth : Method} {c : Code} {D : va_G} {B b : Nat} {ex : Bool} {nL : Nat} {cc : ByteArray} {post Q : lm_Q} {X : lm_X} {mc ms : Nat}
theorem lm_endi (hx : p.tables.exec = Jvm.exec) (hb : c.code = cc) (hr : meth.sig.returnType = some .int) (hlk : meth.locks = false) (hQ : ∀ r n L, Q r n L → post r n L) {pc : Nat} {lo : lm_O} {x : Int32} {n : Nat} {L : lm_L} {bc bs : Nat} (hd : decode cc pc = .ok (.ireturn, 1)) (b1 : bc ≤ mc) (b2 : bs ≤ ms) (h : Q (some (.int x)) n L) :
    lm_G p l e R s m args below meth c D B b ex nL (vx_MQ below (lm_Qc D B b ex post) (lm_XC D B b ex X) args s mc ms (lm_A B)) pc lo [.int x] n L bc bs := by
  intro H locs ls hZ hP hS hH
  exact vx_ret (W.widen b1 b2 (W.iret hx hb hr (fun t ht hW => ⟨some (.int x), n, L, rfl, hQ _ _ _ h, by rw [ht]; exact hZ, by rw [ht]; exact hP, hS.F ht⟩) hS.2.2 hd))
theorem lm_endz (hx : p.tables.exec = Jvm.exec) (hb : c.code = cc) (hr : meth.sig.returnType = some .boolean) (hlk : meth.locks = false) (hQ : ∀ r n L, Q r n L → post r n L ∧ (r = some (.int 0) ∨ r = some (.int 1))) {pc : Nat} {lo : lm_O} {x : Int32} {n : Nat} {L : lm_L} {bc bs : Nat} (hd : decode cc pc = .ok (.ireturn, 1)) (b1 : bc ≤ mc) (b2 : bs ≤ ms) (h : Q (some (.int x)) n L) :
    lm_G p l e R s m args below meth c D B b ex nL (vx_MQ below (lm_Qc D B b ex post) (lm_XC D B b ex X) args s mc ms (lm_A B)) pc lo [.int x] n L bc bs := by
  intro H locs ls hZ hP hS hH
  have hn : narrow .boolean (.int x) = .int x := by
    rcases (hQ _ _ _ h).2 with h9 | h9 <;> (cases h9; rfl)
  exact vx_ret (W.widen b1 b2 (W.zret hx hb hr hn (fun t ht hW => ⟨some (.int x), n, L, rfl, (hQ _ _ _ h).1, by rw [ht]; exact hZ, by rw [ht]; exact hP, hS.F ht⟩) hS.2.2 hd))
theorem lm_endv (hx : p.tables.exec = Jvm.exec) (hb : c.code = cc) (hr : meth.sig.returnType = none) (hlk : meth.locks = false) (hQ : ∀ r n L, Q r n L → post r n L) {pc : Nat} {lo : lm_O} {n : Nat} {L : lm_L} {bc bs : Nat} (hd : decode cc pc = .ok (.return_, 1)) (b1 : bc ≤ mc) (b2 : bs ≤ ms) (h : Q none n L) :
    lm_G p l e R s m args below meth c D B b ex nL (vx_MQ below (lm_Qc D B b ex post) (lm_XC D B b ex X) args s mc ms (lm_A B)) pc lo [] n L bc bs := by
  intro H locs ls hZ hP hS hH
  exact vx_ret (W.widen b1 b2 (W.vret hx hb hr (fun t ht hW => ⟨none, n, L, rfl, hQ _ _ _ h, by rw [ht]; exact hZ, by rw [ht]; exact hP, hS.F ht⟩) hS.2.2 hd))
theorem lm_enda (hx : p.tables.exec = Jvm.exec) (hb : c.code = cc) {cn : String} (hr : meth.sig.returnType = some (.object cn)) (hlk : meth.locks = false) (hQ : ∀ r n L, Q r n L → post r n L) {pc : Nat} {lo : lm_O} {v : Value} {n : Nat} {L : lm_L} {bc bs : Nat} (hd : decode cc pc = .ok (.areturn, 1)) (b1 : bc ≤ mc) (b2 : bs ≤ ms) (hv : v = .null ∨ ∃ k, v = .ref k) (h : Q (some v) n L) :
    lm_G p l e R s m args below meth c D B b ex nL (vx_MQ below (lm_Qc D B b ex post) (lm_XC D B b ex X) args s mc ms (lm_A B)) pc lo [v] n L bc bs := by
  intro H locs ls hZ hP hS hH
  refine vx_ret (W.widen b1 b2 (W.aret (v := lm_v B b v) hx hb hr (Or.inl ⟨_, rfl⟩) ?_ (fun t ht hW => ⟨some v, n, L, rfl, hQ _ _ _ h, by rw [ht]; exact hZ, by rw [ht]; exact hP, hS.F ht⟩) hS.2.2 hd))
  rcases hv with rfl | ⟨k, rfl⟩
  · exact Or.inl rfl
  · exact Or.inr ⟨_, rfl⟩
/-- a throw goes out -/
theorem lm_endx (htab : ∀ x ∈ c.exceptionTable.toList, False) (hlk : meth.locks = false) {pc : Nat} {en : String} {lo : lm_O} {st : List Value} {n : Nat} {L : lm_L} {bc bs : Nat} (b1 : bc ≤ mc) (b2 : bs ≤ ms) (h : X en n L) :
    lm_GX p l e R s m args below meth c D B b ex nL (vx_MQ below (lm_Qc D B b ex post) (lm_XC D B b ex X) args s mc ms (lm_A B)) pc lo st n L bc bs en := by
  intro H locs ls q ce hZ hP hS hH e1 e2 e3
  exact vx_out (fun x hx => (htab x hx).elim) hlk e1 e2 e3 (fun t ht hW => ⟨n, L, h, by rw [ht]; exact hZ, by rw [ht]; exact hP, hS.F ht⟩) hS.2.2 b1 b2
end LME
end
section
/-! a throw of SharedQueues: new, dup, ldc, the constructor, athrow -/
def lm_xn : List String := ["java/lang/RuntimeException", "java/lang/Exception"]
def lm_xw (cls : String) (ik ic : Nat) : Prop := (Cond.classLink RX2 ik cls ∈ lm_WT ∧ Cond.initialized cls ∈ lm_WT ∧ ∀ w ∈ (vx_atS RX2 ic cls lm_xn).filter goodWord, w ∈ lm_WT) ∧ (∀ w ∈ (vx_atS RX2 ic cls lm_xn).filter (fun w => !goodWord w), w ∈ lm_nest) ∧ (∀ w ∈ Cond.classLink RX2 ik cls :: Cond.initialized cls :: vx_atS RX2 ic cls lm_xn, vx_ot w = true) ∧ Bundle.fit cls = true
theorem lm_xn_fit : ∀ n ∈ lm_xn, Bundle.fit n = true := by decide +kernel
section LMX
variable {p : Program} {l : Launch} {e : Env} {R : Room} {s : State} {m : MethodId} {args : Array Value} {below : List Frame} {meth : Method} {c : Code} {D : va_G} {B b : Nat} {nL : Nat} {cc : ByteArray} {post : lm_Q} {X : lm_X} {mc ms : Nat} {tys : List (ClassId × FieldType)}
theorem lm_throw (hl : l.stackTraces = false) (hx : p.tables.exec = Jvm.exec) (hb : c.code = cc) (hml : c.maxLocals = nL) (hown : s.vm.findClass RX2 = some m.cls) (hts : ∀ w ∈ lm_WT, w.before args s = true) (hcx : lm_cx D tys B s) (htab : ∀ x ∈ c.exceptionTable.toList, False) (hlk : meth.locks = false)
    {cls : String} {ik is ic pc : Nat} {text : String} (hw : lm_xw cls ik ic) (hs : (is, text) ∈ lm_str)
    (d0 : decode cc pc = .ok (.new ik, 3)) (d3 : decode cc (pc + 3) = .ok (.dup, 1)) (d4 : decode cc (pc + 4) = .ok (.ldc is, 2)) (d6 : decode cc (pc + 6) = .ok (.invokespecial ic, 3)) (d9 : decode cc (pc + 9) = .ok (.athrow, 1))
    (hRf : 5 < R.frames) (hRl : 82 ≤ R.locals) (hRc : mc ≤ R.cells) (hRs : ms ≤ R.slots)
    {lo : lm_O} {n : Nat} {L : lm_L} {bc bs : Nat} (b1 : bc + 1 ≤ mc) (b2 : bs + 6 ≤ ms) (h : X cls n L) :
    lm_G p l e R s m args below meth c D B b false nL (vx_MQ below (lm_Qc D B b false post) (lm_XC D B b false X) args s mc ms (lm_A B)) pc lo [] n L bc bs := by
  intro H locs ls hZ hP hS hH
  obtain ⟨⟨w1, w2, w3⟩, w4, w5, w6⟩ := hw
  obtain ⟨sa, hstr⟩ := hcx.2.2.1 _ hs
  refine vx_throwS (own := RX2) (names := lm_xn) (A := lm_A B) (rest := []) hx hb hl hown w6 lm_xn_fit (hts _ w1) (hts _ w2) hstr ?_ w5 hcx.2.2.2.1 hcx.2.2.2.2.1 hS ?_ d0 d3 d4 d6 d9 (fun x hx9 => (htab x hx9).elim) hRf ?_ (Nat.le_trans b1 hRc) (Nat.le_trans b2 hRs) hlk ?_ hS.2.2 b1 b2
  · exact vx_hat (B := lm_nest) (fun w hw => hts w (w3 w hw)) w4 (fun w hw => va_Nw.use (lm_soft_on (lm_nest_soft w hw)) (hcx.2.1 w hw))
  · rw [hml]; exact hH.2.1.1
  · show 0 + (13 * 3 + 43) ≤ R.locals
    exact hRl
  · intro t hA hz hk
    refine ⟨n, L, h, ⟨Nat.le_trans hZ.1 hz, fun h9 => by cases h9⟩, lm_kept hP hk, Nat.le_trans hS.1 hz, fun q h1 h2 => ?_⟩
    rw [hk q (Nat.lt_of_lt_of_le h1 hS.1)]
    exact hS.2.1 q h1 h2
end LMX
abbrev lm_mk (fld : Nat → Option (Nat × Nat × Nat)) (cv cs : Nat → Option lm_C) (ci : Nat → Option lm_C) (kon : Nat → Option Int32) (thr : Nat → Option String) (nw : Nat → Option (Nat × List Value)) (ids : Nat → ClassId) (mc ms : Nat) (ini : Bool) (cp : Option Nat) (alc : Bool) : lm_E :=
  (fld, cv, cs, ci, kon, thr, fun _ _ => none, ids, none, nw, mc, ms, ini, cp, alc)
def lm_ty (ids : Nat → ClassId) : List (ClassId × FieldType) := [(ids 0, .int), (ids 1, .boolean), (ids 2, .long), (ids 3, .object RX0), (ids 4, .object RX1)]
/-- what a field table of the class own says -/
def lm_fok (own : String) (fld : Nat → Option (Nat × Nat × Nat)) (ini : Bool) : Prop := ∀ (D : va_G) (tys : List (ClassId × FieldType)) (B : Nat) (args : Array Value) (s : State), (∀ w ∈ lm_WT, w.before args s = true) → lm_cx D tys B s →
  ∀ j f, fld j = some f → ∃ C T N, lm_cls f.1 C T N ∧ f.2.1 < N ∧ ((Cond.fieldLink own j (T f.2.1).1 (T f.2.1).2.1 (T f.2.1).2.2.1).before args s = true ∨ ∃ host, (Cond.fieldLinkNest own j (T f.2.1).1 (T f.2.1).2.1 (T f.2.1).2.2.1 host).before args s = true ∧ f.2.2 < 2) ∧ lm_fty f.2.2 own ini (T f.2.1)
/-- the words of a virtual callee -/
def lm_yV (C : String) (y : MethodName) (c1 : ByteArray) (maxL : Nat) (ret : Option FieldType) : Prop := Cond.instanceMethod y ∈ lm_WT ∧ Cond.selects C y y ∈ lm_WT ∧ Cond.initialized C ∈ lm_WT ∧ Cond.code y c1 maxL ret ∈ lm_WT
def lm_yS (y : MethodName) (c1 : ByteArray) (maxL : Nat) (ret : Option FieldType) : Prop := Cond.static y ∈ lm_WT ∧ Cond.initialized y.cls ∈ lm_WT ∧ Cond.code y c1 maxL ret ∈ lm_WT
theorem lm_cwV {R : Room} {s : State} {args : Array Value} {own C : String} {j : Nat} {y : MethodName} {c1 : ByteArray} {maxL : Nat} {ret : Option FieldType} {rm : Room} {mc ms k : Nat} (hts : ∀ w ∈ lm_WT, w.before args s = true) (hy : lm_yV C y c1 maxL ret) (hlk : Cond.methodLink own j y ∈ lm_WT) (hrc : rm.cells = mc) (hrs : rm.slots = ms)
    (hd : y.cls = C ∧ y.cls ≠ "java/lang/invoke/MethodHandle" ∧ y.cls ≠ "java/lang/invoke/VarHandle" ∧ (parseMethodDescriptor y.desc).map (fun d => d.parameters.length) = some k) (hR : rm.frames + 1 ≤ R.frames ∧ 8 + (maxL + 11) + rm.locals ≤ R.locals) :
    CallW R s args own C j y c1 maxL ret (.code y c1 maxL ret :: lm_WT) rm mc ms k := by
  refine cwV (Ts := lm_WT) k hts ?_ rfl hrc hrs hd hR
  intro w hw
  have h9 : w ∈ lm_WT := by
    unfold wsV at hw
    rcases List.mem_append.mp hw with h | h
    · simp only [List.mem_cons, List.not_mem_nil, or_false] at h
      rcases h with rfl | rfl | rfl | rfl
      · exact hlk
      · exact hy.1
      · exact hy.2.1
      · exact hy.2.2.1
    · rcases List.mem_cons.mp h with e | e
      · rw [e]; exact hy.2.2.2
      · exact e
  exact ⟨h9, good_of_word (lm_wg h9)⟩
theorem lm_cwS {R : Room} {s : State} {args : Array Value} {own : String} {j : Nat} {y : MethodName} {c1 : ByteArray} {maxL : Nat} {ret : Option FieldType} {rm : Room} {mc ms k : Nat} (hts : ∀ w ∈ lm_WT, w.before args s = true) (hy : lm_yS y c1 maxL ret) (hlk : Cond.methodLink own j y ∈ lm_WT) (hrc : rm.cells = mc) (hrs : rm.slots = ms)
    (hd : y.cls ≠ "java/lang/invoke/MethodHandle" ∧ y.cls ≠ "java/lang/invoke/VarHandle" ∧ (parseMethodDescriptor y.desc).map (fun d => d.parameters.length) = some k) (hR : rm.frames + 1 ≤ R.frames ∧ 8 + (maxL + 11) + rm.locals ≤ R.locals) :
    CallB R s args own j y c1 maxL ret (.code y c1 maxL ret :: lm_WT) rm mc ms k ∧ (Cond.static y).before args s = true := by
  refine ⟨callB_of (Ts := lm_WT) k hts ?_ rfl hrc hrs (hts _ hy.2.1) (hts _ hlk) hd hR, hts _ hy.1⟩
  intro w hw
  have h9 : w ∈ lm_WT := by
    rcases List.mem_cons.mp hw with e | e
    · rw [e]; exact hy.2.2
    · exact e
  exact ⟨h9, good_of_word (lm_wg h9)⟩
/-- what a call table says, in the room R -/
def lm_cok (l : Launch) (D : va_G) (ids : Nat → ClassId) (B b : Nat) (ex : Bool) (own : String) (R : Room) (cv cs : Nat → Option lm_C) : Prop :=
  (∀ j f, cv j = some f → ∃ y c1 maxL ret rm C T N k, f.1 = k + 1 ∧ vwCl[f.2.1]? = some (C, T, N) ∧ lm_M l D (lm_ty ids) B b ex y c1 maxL ret rm f.2.2.2.1 f.2.2.2.2 f.2.2.1 ∧ lm_yV C y c1 maxL ret ∧ Cond.methodLink own j y ∈ lm_WT ∧ rm.cells = f.2.2.2.1 ∧ rm.slots = f.2.2.2.2 ∧
    (y.cls = C ∧ y.cls ≠ "java/lang/invoke/MethodHandle" ∧ y.cls ≠ "java/lang/invoke/VarHandle" ∧ (parseMethodDescriptor y.desc).map (fun d => d.parameters.length) = some k) ∧ (rm.frames + 1 ≤ R.frames ∧ 8 + (maxL + 11) + rm.locals ≤ R.locals)) ∧
  (∀ j f, cs j = some f → ∃ y c1 maxL ret rm, lm_M l D (lm_ty ids) B b ex y c1 maxL ret rm f.2.2.2.1 f.2.2.2.2 f.2.2.1 ∧ lm_yS y c1 maxL ret ∧ Cond.methodLink own j y ∈ lm_WT ∧ rm.cells = f.2.2.2.1 ∧ rm.slots = f.2.2.2.2 ∧
    (y.cls ≠ "java/lang/invoke/MethodHandle" ∧ y.cls ≠ "java/lang/invoke/VarHandle" ∧ (parseMethodDescriptor y.desc).map (fun d => d.parameters.length) = some f.1) ∧ (rm.frames + 1 ≤ R.frames ∧ 8 + (maxL + 11) + rm.locals ≤ R.locals))
/-- a throw table of SharedQueues: pc to the exception -/
def lm_xok (cc : ByteArray) (thr : Nat → Option String) : Prop := ∀ pc en, thr pc = some en → ∃ ik is ic text, lm_xw en ik ic ∧ (is, text) ∈ lm_str ∧ decode cc pc = .ok (.new ik, 3) ∧ decode cc (pc + 3) = .ok (.dup, 1) ∧ decode cc (pc + 4) = .ok (.ldc is, 2) ∧ decode cc (pc + 6) = .ok (.invokespecial ic, 3) ∧ decode cc (pc + 9) = .ok (.athrow, 1)
/-- an answer of the type -/
def lm_rt (ret : Option FieldType) (r : Option Value) : Prop := match ret, r with
  | none, none => True
  | some .int, some (.int _) => True
  | some .boolean, some (.int x) => x = 0 ∨ x = 1
  | some (.object _), some (.ref _) => True
  | some (.object _), some .null => True
  | _, _ => False
def lm_rq (ret : Option FieldType) (post : lm_Q) : lm_Q := fun r n L => lm_rt ret r ∧ post r n L
/-- what a constructor's tables say -/
def lm_aok (l : Launch) (D : va_G) (ids : Nat → ClassId) (B b : Nat) (ex : Bool) (own : String) (R : Room) (ci : Nat → Option lm_C) (nw : Nat → Option (Nat × List Value)) (cp : Option Nat) (alc : Bool) : Prop :=
  (∀ j, cp = some j → ex = false ∧ Cond.methodLink own j arraycopyName ∈ lm_WT ∧ Cond.native arraycopyName ∈ lm_WT ∧ Cond.static arraycopyName ∈ lm_WT ∧ Cond.initialized "java/lang/System" ∈ lm_WT ∧ 1 ≤ R.frames ∧ 8 + (nativeFrameWords "java/lang/System" "arraycopy" 5 + 11) ≤ R.locals) ∧
  (∀ j f, nw j = some f → ∃ C T, ex = true ∧ lm_cls f.1 C T f.2.length ∧ Cond.classLink own j C ∈ lm_WT ∧ Cond.instantiable C f.2.length ∈ lm_WT ∧ Cond.initialized C ∈ lm_WT ∧ (∃ ty : Nat → FieldType, (∀ k, k < f.2.length → parseFieldDescriptor (T k).2.2.1 = some (ty k)) ∧ ∀ k, k < f.2.length → defaultValue (ty k) = vp_V f.2 k) ∧ f.2.map (lm_v B b) = f.2) ∧
  (alc = true → ex = true ∧ Cond.arrayClass .int ∈ lm_WT ∧ Cond.arrayClass .boolean ∈ lm_WT ∧ Cond.arrayClass .long ∈ lm_WT) ∧
  (∀ j f, ci j = some f → (f.1 = 1 ∧ f.2.2 = (fun _ n L post _ => post none n L, 0, 0) ∧ Cond.methodLink own j objectInit ∈ lm_WT ∧ Cond.instanceMethod objectInit ∈ lm_WT ∧ Cond.code objectInit ⟨#[0xb1]⟩ 1 none ∈ lm_WT ∧ 1 ≤ R.frames ∧ 20 ≤ R.locals) ∨
    ∃ y c1 maxL rm, f.1 = 1 ∧ y.name = "<init>" ∧ lm_M l D (lm_ty ids) B b ex y c1 maxL none rm f.2.2.2.1 f.2.2.2.2 f.2.2.1 ∧ (∀ As n L post postX, f.2.2.1 As n L post postX → f.2.2.1 As n L post (fun _ _ _ => False)) ∧ rm.cells = f.2.2.2.1 ∧ rm.slots = f.2.2.2.2 ∧ rm.frames + 1 ≤ R.frames ∧ 8 + (maxL + 11) + rm.locals ≤ R.locals ∧ Cond.code y c1 maxL none ∈ lm_WT ∧ Cond.initialized y.cls ∈ lm_WT ∧ Cond.instanceMethod y ∈ lm_WT ∧
      (y.cls ≠ "java/lang/invoke/MethodHandle" ∧ y.cls ≠ "java/lang/invoke/VarHandle" ∧ (parseMethodDescriptor y.desc).map (fun d => d.parameters.length) = some 0) ∧ (Cond.methodLink own j y ∈ lm_WT ∨ ∃ host, Cond.methodLinkNest own j y host ∈ lm_nest))
theorem lm_ofW {l : Launch} {y : MethodName} {ws ws' : List Cond} {rm : Room} {Pc : Array Value → State → Prop} {Qc : Array Value → State → Outcome → State → Prop} {XC : String → State → State → Prop} {mc ms : Nat} {free : Addr → Prop} {cc : ByteArray} {maxL : Nat} {ret : Option FieldType}
    (hy : plainFor y = true) (hw : ws = Cond.code y cc maxL ret :: ws')
    (body : ∀ p e s m args below meth c s₁, BodyLoose p l y (headSpec ws rm) cc maxL ret e s m args below meth c s₁ → c.maxLocals = maxL → (∀ x ∈ c.exceptionTable.toList, False) → Pc args s →
      W p l e (headSpec ws rm).room s m args below meth c s.heap [] 0 0 (vx_MQ below Qc XC args s mc ms free) (entryFrame m args maxL)) : vx_Met l y ws rm Pc Qc XC mc ms free := by
  refine MetFree.of_bodySF (code := cc) (maxLocals := maxL) (ret := ret) hy ?_ ?_
  · intro args s m h hn
    obtain ⟨meth, c, h1, h2, h3, h4, h5, h6, -, -⟩ := Cond.code_spec hn (atoms_spec (ws := ws) h _ (by rw [hw]; exact List.mem_cons_self))
    exact ⟨meth, c, h1, h2, h3, h4, h5, h6⟩
  · intro p e s m args below meth c s₁ B hml hP _
    have hh0 : s₁.heap = s.heap := by rw [B.state]; rfl
    have ht : ∀ x ∈ c.exceptionTable.toList, False := by
      obtain ⟨meth9, c9, h1, h2, -, -, -, -, h7, -⟩ := Cond.code_spec B.named (atoms_spec (ws := ws) B.pre _ (by rw [hw]; exact List.mem_cons_self))
      cases Option.some.inj (h1.symm.trans B.method)
      cases Option.some.inj (h2.symm.trans (Stand.of_body B).code)
      intro x hx
      rw [Array.isEmpty_iff.mp h7] at hx
      cases hx
    obtain ⟨t, a1, o, b1, b2, b3⟩ := body p e s m args below meth c s₁ B hml ht hP s₁ hh0 (Stand.of_body B)
    exact ⟨t, o, a1, b1, b2, b3⟩
/-- A METHOD WITHOUT A TABLE OF ITS OWN: out of the logical walk of its body -/
theorem lm_method {l : Launch} {D : va_G} {ids : Nat → ClassId} {B b : Nat} {ex : Bool} {own : String} {y : MethodName} {cc : ByteArray} {maxL : Nat} {ret : Option FieldType} {rm : Room} {mc ms : Nat} {fld : Nat → Option (Nat × Nat × Nat)} {cv cs : Nat → Option lm_C} {ci : Nat → Option lm_C} {kon : Nat → Option Int32} {thr : Nat → Option String} {nw : Nat → Option (Nat × List Value)} {ini : Bool} {cp : Option Nat} {alc : Bool} {wp : lm_S}
    (hp : plainFor y = true) (ho : y.cls = own) (hrc : rm.cells = mc) (hrs : rm.slots = ms) (hfld : lm_fok own fld ini) (hc : lm_cok l D ids B b ex own rm cv cs) (hk : ∀ j v, kon j = some v → Cond.constant own j v ∈ lm_WT) (hi : ini = true → y.name = "<init>") (hal : lm_aok l D ids B b ex own rm ci nw cp alc)
    (ht : (∀ pc, thr pc = none) ∨ (ex = false ∧ own = RX2 ∧ l.stackTraces = false ∧ 5 < rm.frames ∧ 82 ≤ rm.locals ∧ lm_xok cc thr))
    (hbody : ∀ (As : List Value) (n : Nat) (L : lm_L) (post : lm_Q) (postX : lm_X), wp As n L post postX → (∀ u ∈ As, u.category = 1) ∧ As.length ≤ maxL ∧ lm_wp (lm_mk fld cv cs ci kon thr nw ids mc ms ini cp alc) cc (lm_rq ret post) postX 0 (lm_ent As maxL) [] n L 0 0) :
    lm_M l D (lm_ty ids) B b ex y cc maxL ret rm mc ms wp := by
  intro As n L post postX hwp
  obtain ⟨hca, hle, hb9⟩ := hbody As n L post postX hwp
  refine lm_ofW hp rfl ?_
  intro p e s m args below meth c s₁ Bd hml htab hv
  obtain ⟨rfl, hZ, hP, hcx⟩ := hv
  have hx := Bd.exec
  have hb := Bd.bytes
  have hr := Bd.returns
  have hts0 := atoms_spec (ws := Cond.code y cc maxL ret :: lm_WT) Bd.pre
  have hts : ∀ w ∈ lm_WT, w.before (As.map (lm_v B b)).toArray s = true := fun w hw => hts0 w (List.mem_cons_of_mem _ hw)
  have hown : s.vm.findClass own = some m.cls := by rw [← ho]; exact findClass_of_methodNamed Bd.named
  have hlk := Bd.notSynchronized
  have hT : lm_T p l e (headSpec (Cond.code y cc maxL ret :: lm_WT) rm).room s m (As.map (lm_v B b)).toArray below meth c D B b ex maxL own cc (lm_mk fld cv cs ci kon thr nw ids mc ms ini cp alc) (lm_rq ret post) postX (vx_MQ below (lm_Qc D B b ex post) (lm_XC D B b ex postX) (As.map (lm_v B b)).toArray s mc ms (lm_A B)) := by
    refine ⟨hx, hb, hml, hown, hts, hcx, Nat.le_trans (Nat.le_add_right _ _) hZ.1, fun h9 => ?_, Nat.le_of_eq hrc.symm, Nat.le_of_eq hrs.symm, fun j f hf => hfld D _ B _ s hts hcx j f hf, fun j f hf => ?_, fun j f hf => ?_, fun j v hv => hts _ (hk j v hv), ?_, ?_, ?_, ?_, ?_, ?_, ?_, hal.1, hal.2.1, hal.2.2.1, fun j f hf => ?_⟩
    · exact (name_of_methodNamed Bd.named Bd.method).1.trans (hi h9)
    · obtain ⟨y1, c1, mL, rt, r1, C, T, N, k, a1, a2, a3, a4, a5, a6, a7, a8, a9⟩ := hc.1 j f hf
      exact ⟨y1, c1, mL, rt, r1, C, T, N, k, a1, a2, a3, lm_cwV hts a4 a5 a6 a7 a8 a9⟩
    · obtain ⟨y1, c1, mL, rt, r1, a3, a4, a5, a6, a7, a8, a9⟩ := hc.2 j f hf
      exact ⟨y1, c1, mL, rt, r1, a3, lm_cwS hts a4 a5 a6 a7 a8 a9⟩
    · intro pc en lo n1 L1 bc bs h1 h2 h3 h4
      rcases ht with ht | ⟨rfl, hox, hlx, hf1, hl1, hxo⟩
      · exact absurd (h1.symm.trans (ht pc)) (by simp)
      · obtain ⟨ik, is, ic, text, x1, x2, x3, x4, x5, x6, x7⟩ := hxo pc en h1
        rw [hox] at hown
        exact lm_throw hlx hx hb hml hown hts hcx htab hlk x1 x2 x3 x4 x5 x6 x7 hf1 hl1 (Nat.le_of_eq hrc.symm) (Nat.le_of_eq hrs.symm) h2 h3 h4
    · intro pc en lo st n1 L1 bc bs _ h2 h3 h4
      exact lm_endx htab hlk h2 h3 h4
    · intro pc en h lo st n1 L1 bc bs h1
      cases h1
    · intro pc lo x n1 L1 bc bs hd h1 h2 h3
      obtain ⟨h4, h5⟩ := h3
      unfold lm_rt at h4
      split at h4
      · rename_i e9; cases e9
      · exact lm_endi (Q := post) hx hb hr hlk (fun _ _ _ h => h) hd h1 h2 h5
      · rename_i e9; cases e9
        exact lm_endz (Q := fun r n L => post r n L ∧ (r = some (.int 0) ∨ r = some (.int 1))) hx hb hr hlk (fun _ _ _ h => h) hd h1 h2 ⟨h5, by rcases h4 with rfl | rfl; exact Or.inl rfl; exact Or.inr rfl⟩
      · rename_i e9; cases e9
      · rename_i e9; cases e9
      · exact h4.elim
    · intro pc lo v n1 L1 bc bs hd h1 h2 h3 h4
      obtain ⟨h4, h5⟩ := h4
      unfold lm_rt at h4
      split at h4
      · rename_i e9; cases e9
      · rename_i e9; cases e9; rcases h3 with h3 | ⟨k, h3⟩ <;> cases h3
      · rename_i e9; cases e9; rcases h3 with h3 | ⟨k, h3⟩ <;> cases h3
      · exact lm_enda (Q := post) hx hb hr hlk (fun _ _ _ h => h) hd h1 h2 h3 h5
      · exact lm_enda (Q := post) hx hb hr hlk (fun _ _ _ h => h) hd h1 h2 h3 h5
      · exact h4.elim
    · intro pc lo n1 L1 bc bs hd h1 h2 h3
      obtain ⟨h4, h5⟩ := h3
      unfold lm_rt at h4
      split at h4
      · exact lm_endv (Q := post) hx hb hr hlk (fun _ _ _ h => h) hd h1 h2 h5
      · rename_i e9; cases e9
      · rename_i e9; cases e9
      · rename_i e9; cases e9
      · rename_i e9; cases e9
      · exact h4.elim
    · intro q hq; cases hq
    · rcases hal.2.2.2 j f hf with h9 | ⟨y1, c1, mL, r1, a1, a2, a3, a4, a5, a6, a7, a8, w1, w2, w3, a9, a10⟩
      · exact Or.inl h9
      · have hG1 : GoodIn lm_WT (Cond.code y1 c1 mL none :: lm_WT) := by
          intro w hw
          have h9 : w ∈ lm_WT := by
            rcases List.mem_cons.mp hw with e9 | e9
            · rw [e9]; exact w1
            · exact e9
          exact ⟨h9, good_of_word (lm_wg h9)⟩
        refine Or.inr ⟨y1, c1, mL, r1, a1, a2, a3, a4, ?_⟩
        rcases a10 with hlk9 | ⟨host, hlk9⟩
        · exact Or.inl ⟨callB_of (Ts := lm_WT) 0 hts hG1 rfl a5 a6 (hts _ w2) (hts _ hlk9) a9 ⟨a7, a8⟩, a2, hts _ w3⟩
        · exact Or.inr ⟨host, va_cnB (Ts := lm_WT) 0 hts hG1 rfl a5 a6 (hcx.2.1 _ hlk9) (hts _ w2) a9 ⟨a7, a8⟩, a2, hts _ w3⟩
  rw [lg_entry_eq]
  exact lm_wp_ok hT hb9 s.heap [] _ hZ hP va_S.rf (lm_entry hca hle)
end
section
set_option maxRecDepth 100000 in
theorem lc_0 : lm_cls 0 RX0 TX0 15 := ⟨rfl, fun w hw => List.mem_filter.mpr ⟨zl_X00 w hw, (by decide +kernel : ∀ w ∈ wsX00, goodWord w = true) w hw⟩, ⟨tyX0, tyX0_ok⟩, nmX0⟩
set_option maxRecDepth 100000 in
theorem lc_1 : lm_cls 1 RX1 TX1 2 := ⟨rfl, fun w hw => List.mem_filter.mpr ⟨zl_X10 w hw, (by decide +kernel : ∀ w ∈ wsX10, goodWord w = true) w hw⟩, ⟨tyX1, tyX1_ok⟩, nmX1⟩
set_option maxRecDepth 100000 in
theorem lc_2 : lm_cls 2 RX2 TX2 7 := ⟨rfl, fun w hw => List.mem_filter.mpr ⟨zl_X20 w hw, (by decide +kernel : ∀ w ∈ wsX20, goodWord w = true) w hw⟩, ⟨tyX2, tyX2_ok⟩, nmX2⟩
set_option maxRecDepth 100000 in
theorem lc_3 : lm_cls 3 RX3 TX3 22 := ⟨rfl, fun w hw => List.mem_filter.mpr ⟨zl_X30 w hw, (by decide +kernel : ∀ w ∈ wsX30, goodWord w = true) w hw⟩, ⟨tyX3, tyX3_ok⟩, nmX3⟩
def lf_0 : Nat → Option (Nat × Nat × Nat) := fun j => match j with
  | 9 => some (0, 0, 2)
  | 15 => some (0, 1, 2)
  | 18 => some (0, 6, 0)
  | 22 => some (0, 7, 0)
  | 25 => some (0, 3, 0)
  | 28 => some (0, 8, 0)
  | 38 => some (0, 4, 0)
  | 45 => some (0, 2, 0)
  | 48 => some (0, 10, 1)
  | 52 => some (0, 9, 0)
  | _ => none
set_option maxRecDepth 100000 in
theorem lf_0_ok (ini : Bool) : lm_fok RX0 lf_0 ini := by
  intro D tys B args s hts hcx j f hf
  unfold lf_0 at hf
  split at hf
  · cases hf; exact ⟨_, _, _, lc_0, by decide, Or.inl (hts _ (lm_wt 59 rfl rfl)), ⟨rfl, fun _ => rfl, .int, by decide +kernel⟩⟩
  · cases hf; exact ⟨_, _, _, lc_0, by decide, Or.inl (hts _ (lm_wt 60 rfl rfl)), ⟨rfl, fun _ => rfl, .int, by decide +kernel⟩⟩
  · cases hf; exact ⟨_, _, _, lc_0, by decide, Or.inl (hts _ (lm_wt 67 rfl rfl)), ⟨rfl, by decide +kernel⟩⟩
  · cases hf; exact ⟨_, _, _, lc_0, by decide, Or.inl (hts _ (lm_wt 69 rfl rfl)), ⟨rfl, by decide +kernel⟩⟩
  · cases hf; exact ⟨_, _, _, lc_0, by decide, Or.inl (hts _ (lm_wt 62 rfl rfl)), ⟨rfl, by decide +kernel⟩⟩
  · cases hf; exact ⟨_, _, _, lc_0, by decide, Or.inl (hts _ (lm_wt 71 rfl rfl)), ⟨rfl, by decide +kernel⟩⟩
  · cases hf; exact ⟨_, _, _, lc_0, by decide, Or.inl (hts _ (lm_wt 64 rfl rfl)), ⟨rfl, by decide +kernel⟩⟩
  · cases hf; exact ⟨_, _, _, lc_0, by decide, Or.inl (hts _ (lm_wt 61 rfl rfl)), ⟨rfl, by decide +kernel⟩⟩
  · cases hf; exact ⟨_, _, _, lc_0, by decide, Or.inl (hts _ (lm_wt 75 rfl rfl)), ⟨rfl, by decide +kernel⟩⟩
  · cases hf; exact ⟨_, _, _, lc_0, by decide, Or.inl (hts _ (lm_wt 73 rfl rfl)), ⟨rfl, by decide +kernel⟩⟩
  · cases hf
def lf_1 : Nat → Option (Nat × Nat × Nat) := fun j => match j with
  | 9 => some (1, 0, 2)
  | 15 => some (1, 1, 0)
  | _ => none
set_option maxRecDepth 100000 in
theorem lf_1_ok (ini : Bool) : lm_fok RX1 lf_1 ini := by
  intro D tys B args s hts hcx j f hf
  unfold lf_1 at hf
  split at hf
  · cases hf; exact ⟨_, _, _, lc_1, by decide, Or.inl (hts _ (lm_wt 118 rfl rfl)), ⟨rfl, fun _ => rfl, .int, by decide +kernel⟩⟩
  · cases hf; exact ⟨_, _, _, lc_1, by decide, Or.inl (hts _ (lm_wt 119 rfl rfl)), ⟨rfl, by decide +kernel⟩⟩
  · cases hf
def lf_2 : Nat → Option (Nat × Nat × Nat) := fun j => match j with
  | 11 => some (2, 0, 2)
  | 17 => some (2, 1, 2)
  | 35 => some (0, 8, 0)
  | 39 => some (0, 7, 0)
  | 42 => some (0, 6, 0)
  | 45 => some (0, 5, 0)
  | 52 => some (0, 3, 0)
  | 55 => some (2, 5, 0)
  | 72 => some (2, 6, 0)
  | 98 => some (2, 2, 0)
  | 118 => some (0, 9, 0)
  | 121 => some (0, 10, 1)
  | 128 => some (0, 11, 0)
  | 131 => some (0, 12, 0)
  | 134 => some (0, 13, 0)
  | 137 => some (0, 14, 0)
  | 140 => some (0, 4, 0)
  | 167 => some (2, 3, 0)
  | 170 => some (2, 4, 0)
  | 196 => some (1, 1, 0)
  | _ => none
set_option maxRecDepth 100000 in
theorem lf_2_ok (ini : Bool) : lm_fok RX2 lf_2 ini := by
  intro D tys B args s hts hcx j f hf
  unfold lf_2 at hf
  split at hf
  · cases hf; exact ⟨_, _, _, lc_2, by decide, Or.inl (hts _ (lm_wt 126 rfl rfl)), ⟨rfl, fun _ => rfl, .object "SharedQueues$Queue", by decide +kernel⟩⟩
  · cases hf; exact ⟨_, _, _, lc_2, by decide, Or.inl (hts _ (lm_wt 127 rfl rfl)), ⟨rfl, fun _ => rfl, .object "SharedQueues$Ring", by decide +kernel⟩⟩
  · cases hf; exact ⟨_, _, _, lc_0, by decide, Or.inr ⟨RX2, va_Nw.use rfl (hcx.2.1 (.fieldLinkNest RX2 35 RX0 "kept" "I" RX2) (by decide)), by decide⟩, ⟨rfl, by decide +kernel⟩⟩
  · cases hf; exact ⟨_, _, _, lc_0, by decide, Or.inr ⟨RX2, va_Nw.use rfl (hcx.2.1 (.fieldLinkNest RX2 39 RX0 "quota" "I" RX2) (by decide)), by decide⟩, ⟨rfl, by decide +kernel⟩⟩
  · cases hf; exact ⟨_, _, _, lc_0, by decide, Or.inr ⟨RX2, va_Nw.use rfl (hcx.2.1 (.fieldLinkNest RX2 42 RX0 "quantum" "I" RX2) (by decide)), by decide⟩, ⟨rfl, by decide +kernel⟩⟩
  · cases hf; exact ⟨_, _, _, lc_0, by decide, Or.inr ⟨RX2, va_Nw.use rfl (hcx.2.1 (.fieldLinkNest RX2 45 RX0 "kind" "I" RX2) (by decide)), by decide⟩, ⟨rfl, by decide +kernel⟩⟩
  · cases hf; exact ⟨_, _, _, lc_0, by decide, Or.inr ⟨RX2, va_Nw.use rfl (hcx.2.1 (.fieldLinkNest RX2 52 RX0 "count" "I" RX2) (by decide)), by decide⟩, ⟨rfl, by decide +kernel⟩⟩
  · cases hf; exact ⟨_, _, _, lc_2, by decide, Or.inl (hts _ (lm_wt 131 rfl rfl)), ⟨rfl, by decide +kernel⟩⟩
  · cases hf; exact ⟨_, _, _, lc_2, by decide, Or.inl (hts _ (lm_wt 132 rfl rfl)), ⟨rfl, by decide +kernel⟩⟩
  · cases hf; exact ⟨_, _, _, lc_2, by decide, Or.inl (hts _ (lm_wt 128 rfl rfl)), ⟨rfl, by decide +kernel⟩⟩
  · cases hf; exact ⟨_, _, _, lc_0, by decide, Or.inr ⟨RX2, va_Nw.use rfl (hcx.2.1 (.fieldLinkNest RX2 118 RX0 "deficit" "I" RX2) (by decide)), by decide⟩, ⟨rfl, by decide +kernel⟩⟩
  · cases hf; exact ⟨_, _, _, lc_0, by decide, Or.inr ⟨RX2, va_Nw.use rfl (hcx.2.1 (.fieldLinkNest RX2 121 RX0 "hasTurn" "Z" RX2) (by decide)), by decide⟩, ⟨rfl, by decide +kernel⟩⟩
  · cases hf; exact ⟨_, _, _, lc_0, by decide, Or.inr ⟨RX2, va_Nw.use rfl (hcx.2.1 (.fieldLinkNest RX2 128 RX0 "pushed" "I" RX2) (by decide)), by decide⟩, ⟨rfl, by decide +kernel⟩⟩
  · cases hf; exact ⟨_, _, _, lc_0, by decide, Or.inr ⟨RX2, va_Nw.use rfl (hcx.2.1 (.fieldLinkNest RX2 131 RX0 "lost" "I" RX2) (by decide)), by decide⟩, ⟨rfl, by decide +kernel⟩⟩
  · cases hf; exact ⟨_, _, _, lc_0, by decide, Or.inr ⟨RX2, va_Nw.use rfl (hcx.2.1 (.fieldLinkNest RX2 134 RX0 "served" "I" RX2) (by decide)), by decide⟩, ⟨rfl, by decide +kernel⟩⟩
  · cases hf; exact ⟨_, _, _, lc_0, by decide, Or.inr ⟨RX2, va_Nw.use rfl (hcx.2.1 (.fieldLinkNest RX2 137 RX0 "servedCosts" "I" RX2) (by decide)), by decide⟩, ⟨rfl, by decide +kernel⟩⟩
  · cases hf; exact ⟨_, _, _, lc_0, by decide, Or.inr ⟨RX2, va_Nw.use rfl (hcx.2.1 (.fieldLinkNest RX2 140 RX0 "costs" "I" RX2) (by decide)), by decide⟩, ⟨rfl, by decide +kernel⟩⟩
  · cases hf; exact ⟨_, _, _, lc_2, by decide, Or.inl (hts _ (lm_wt 129 rfl rfl)), ⟨rfl, by decide +kernel⟩⟩
  · cases hf; exact ⟨_, _, _, lc_2, by decide, Or.inl (hts _ (lm_wt 130 rfl rfl)), ⟨rfl, by decide +kernel⟩⟩
  · cases hf; exact ⟨_, _, _, lc_1, by decide, Or.inr ⟨RX2, va_Nw.use rfl (hcx.2.1 (.fieldLinkNest RX2 196 RX1 "size" "I" RX2) (by decide)), by decide⟩, ⟨rfl, by decide +kernel⟩⟩
  · cases hf
def lf_3 : Nat → Option (Nat × Nat × Nat) := fun j => match j with
  | 7 => some (3, 1, 2)
  | 13 => some (3, 2, 2)
  | 16 => some (3, 3, 2)
  | 19 => some (3, 4, 2)
  | 22 => some (3, 5, 2)
  | 25 => some (3, 6, 2)
  | 28 => some (3, 7, 2)
  | 32 => some (3, 8, 2)
  | 35 => some (3, 9, 2)
  | 38 => some (3, 10, 2)
  | 41 => some (3, 11, 2)
  | 44 => some (3, 12, 2)
  | 47 => some (3, 13, 2)
  | 50 => some (3, 14, 2)
  | 53 => some (3, 15, 2)
  | 56 => some (3, 19, 2)
  | 59 => some (3, 20, 2)
  | 62 => some (3, 21, 2)
  | 65 => some (3, 0, 0)
  | 94 => some (3, 17, 0)
  | 103 => some (3, 18, 0)
  | 109 => some (3, 16, 0)
  | _ => none
set_option maxRecDepth 100000 in
theorem lf_3_ok (ini : Bool) : lm_fok RX3 lf_3 ini := by
  intro D tys B args s hts hcx j f hf
  unfold lf_3 at hf
  split at hf
  · cases hf; exact ⟨_, _, _, lc_3, by decide, Or.inl (hts _ (lm_wt 454 rfl rfl)), ⟨rfl, fun _ => rfl, .int, by decide +kernel⟩⟩
  · cases hf; exact ⟨_, _, _, lc_3, by decide, Or.inl (hts _ (lm_wt 455 rfl rfl)), ⟨rfl, fun _ => rfl, .int, by decide +kernel⟩⟩
  · cases hf; exact ⟨_, _, _, lc_3, by decide, Or.inl (hts _ (lm_wt 456 rfl rfl)), ⟨rfl, fun _ => rfl, .int, by decide +kernel⟩⟩
  · cases hf; exact ⟨_, _, _, lc_3, by decide, Or.inl (hts _ (lm_wt 457 rfl rfl)), ⟨rfl, fun _ => rfl, .int, by decide +kernel⟩⟩
  · cases hf; exact ⟨_, _, _, lc_3, by decide, Or.inl (hts _ (lm_wt 458 rfl rfl)), ⟨rfl, fun _ => rfl, .int, by decide +kernel⟩⟩
  · cases hf; exact ⟨_, _, _, lc_3, by decide, Or.inl (hts _ (lm_wt 459 rfl rfl)), ⟨rfl, fun _ => rfl, .int, by decide +kernel⟩⟩
  · cases hf; exact ⟨_, _, _, lc_3, by decide, Or.inl (hts _ (lm_wt 460 rfl rfl)), ⟨rfl, fun _ => rfl, .boolean, by decide +kernel⟩⟩
  · cases hf; exact ⟨_, _, _, lc_3, by decide, Or.inl (hts _ (lm_wt 461 rfl rfl)), ⟨rfl, fun _ => rfl, .int, by decide +kernel⟩⟩
  · cases hf; exact ⟨_, _, _, lc_3, by decide, Or.inl (hts _ (lm_wt 462 rfl rfl)), ⟨rfl, fun _ => rfl, .int, by decide +kernel⟩⟩
  · cases hf; exact ⟨_, _, _, lc_3, by decide, Or.inl (hts _ (lm_wt 463 rfl rfl)), ⟨rfl, fun _ => rfl, .int, by decide +kernel⟩⟩
  · cases hf; exact ⟨_, _, _, lc_3, by decide, Or.inl (hts _ (lm_wt 464 rfl rfl)), ⟨rfl, fun _ => rfl, .int, by decide +kernel⟩⟩
  · cases hf; exact ⟨_, _, _, lc_3, by decide, Or.inl (hts _ (lm_wt 465 rfl rfl)), ⟨rfl, fun _ => rfl, .int, by decide +kernel⟩⟩
  · cases hf; exact ⟨_, _, _, lc_3, by decide, Or.inl (hts _ (lm_wt 466 rfl rfl)), ⟨rfl, fun _ => rfl, .int, by decide +kernel⟩⟩
  · cases hf; exact ⟨_, _, _, lc_3, by decide, Or.inl (hts _ (lm_wt 467 rfl rfl)), ⟨rfl, fun _ => rfl, .int, by decide +kernel⟩⟩
  · cases hf; exact ⟨_, _, _, lc_3, by decide, Or.inl (hts _ (lm_wt 468 rfl rfl)), ⟨rfl, fun _ => rfl, .int, by decide +kernel⟩⟩
  · cases hf; exact ⟨_, _, _, lc_3, by decide, Or.inl (hts _ (lm_wt 472 rfl rfl)), ⟨rfl, fun _ => rfl, .int, by decide +kernel⟩⟩
  · cases hf; exact ⟨_, _, _, lc_3, by decide, Or.inl (hts _ (lm_wt 473 rfl rfl)), ⟨rfl, fun _ => rfl, .boolean, by decide +kernel⟩⟩
  · cases hf; exact ⟨_, _, _, lc_3, by decide, Or.inl (hts _ (lm_wt 474 rfl rfl)), ⟨rfl, fun _ => rfl, .int, by decide +kernel⟩⟩
  · cases hf; exact ⟨_, _, _, lc_3, by decide, Or.inl (hts _ (lm_wt 453 rfl rfl)), ⟨rfl, by decide +kernel⟩⟩
  · cases hf; exact ⟨_, _, _, lc_3, by decide, Or.inl (hts _ (lm_wt 470 rfl rfl)), ⟨rfl, by decide +kernel⟩⟩
  · cases hf; exact ⟨_, _, _, lc_3, by decide, Or.inl (hts _ (lm_wt 471 rfl rfl)), ⟨rfl, by decide +kernel⟩⟩
  · cases hf; exact ⟨_, _, _, lc_3, by decide, Or.inl (hts _ (lm_wt 469 rfl rfl)), ⟨rfl, by decide +kernel⟩⟩
  · cases hf
set_option maxRecDepth 100000 in
theorem lw_0_cellOf : lm_yV RX0 yX0_cellOf cX0_cellOf 2 (some .int) := ⟨lm_wt 178 rfl rfl, lm_wt 2 rfl rfl, lm_wt 32 rfl rfl, lm_wt 179 rfl rfl⟩
set_option maxRecDepth 100000 in
theorem lw_0_costAt : lm_yV RX0 yX0_costAt cX0_costAt 2 (some .int) := ⟨lm_wt 173 rfl rfl, lm_wt 174 rfl rfl, lm_wt 32 rfl rfl, lm_wt 175 rfl rfl⟩
set_option maxRecDepth 100000 in
theorem lw_0_dropAll : lm_yV RX0 yX0_dropAll cX0_dropAll 1 none := ⟨lm_wt 403 rfl rfl, lm_wt 404 rfl rfl, lm_wt 32 rfl rfl, lm_wt 405 rfl rfl⟩
set_option maxRecDepth 100000 in
theorem lw_0_dropFirst : lm_yV RX0 yX0_dropFirst cX0_dropFirst 1 none := ⟨lm_wt 224 rfl rfl, lm_wt 225 rfl rfl, lm_wt 32 rfl rfl, lm_wt 226 rfl rfl⟩
set_option maxRecDepth 100000 in
theorem lw_0_dropLast : lm_yV RX0 yX0_dropLast cX0_dropLast 1 none := ⟨lm_wt 382 rfl rfl, lm_wt 383 rfl rfl, lm_wt 32 rfl rfl, lm_wt 384 rfl rfl⟩
set_option maxRecDepth 100000 in
theorem lw_0_excess : lm_yV RX0 yX0_excess cX0_excess 1 (some .int) := ⟨lm_wt 355 rfl rfl, lm_wt 356 rfl rfl, lm_wt 32 rfl rfl, lm_wt 357 rfl rfl⟩
set_option maxRecDepth 100000 in
theorem lw_0_firstCost : lm_yV RX0 yX0_firstCost cX0_firstCost 1 (some .int) := ⟨lm_wt 169 rfl rfl, lm_wt 170 rfl rfl, lm_wt 32 rfl rfl, lm_wt 171 rfl rfl⟩
set_option maxRecDepth 100000 in
theorem lw_0_lookInVain : lm_yV RX0 yX0_lookInVain cX0_lookInVain 3 none := ⟨lm_wt 188 rfl rfl, lm_wt 189 rfl rfl, lm_wt 32 rfl rfl, lm_wt 190 rfl rfl⟩
set_option maxRecDepth 100000 in
theorem lw_0_looksInVain : lm_yV RX0 yX0_looksInVain cX0_looksInVain 3 (some .int) := ⟨lm_wt 165 rfl rfl, lm_wt 166 rfl rfl, lm_wt 32 rfl rfl, lm_wt 167 rfl rfl⟩
set_option maxRecDepth 100000 in
theorem lw_0_putLast : lm_yV RX0 yX0_putLast cX0_putLast 4 none := ⟨lm_wt 370 rfl rfl, lm_wt 371 rfl rfl, lm_wt 32 rfl rfl, lm_wt 372 rfl rfl⟩
set_option maxRecDepth 100000 in
theorem lw_0_takeTurn : lm_yV RX0 yX0_takeTurn cX0_takeTurn 1 none := ⟨lm_wt 215 rfl rfl, lm_wt 216 rfl rfl, lm_wt 32 rfl rfl, lm_wt 217 rfl rfl⟩
set_option maxRecDepth 100000 in
theorem lw_0_wordAt : lm_yV RX0 yX0_wordAt cX0_wordAt 2 (some .int) := ⟨lm_wt 220 rfl rfl, lm_wt 221 rfl rfl, lm_wt 32 rfl rfl, lm_wt 222 rfl rfl⟩
set_option maxRecDepth 100000 in
theorem lw_1_placeOf : lm_yV RX1 yX1_placeOf cX1_placeOf 3 (some .int) := ⟨lm_wt 200 rfl rfl, lm_wt 201 rfl rfl, lm_wt 33 rfl rfl, lm_wt 202 rfl rfl⟩
set_option maxRecDepth 100000 in
theorem lw_1_putAtEnd : lm_yV RX1 yX1_putAtEnd cX1_putAtEnd 2 none := ⟨lm_wt 207 rfl rfl, lm_wt 208 rfl rfl, lm_wt 33 rfl rfl, lm_wt 209 rfl rfl⟩
set_option maxRecDepth 100000 in
theorem lw_1_queueAt : lm_yV RX1 yX1_queueAt cX1_queueAt 2 (some .int) := ⟨lm_wt 161 rfl rfl, lm_wt 162 rfl rfl, lm_wt 33 rfl rfl, lm_wt 163 rfl rfl⟩
set_option maxRecDepth 100000 in
theorem lw_1_takeOut : lm_yV RX1 yX1_takeOut cX1_takeOut 3 none := ⟨lm_wt 196 rfl rfl, lm_wt 197 rfl rfl, lm_wt 33 rfl rfl, lm_wt 198 rfl rfl⟩
set_option maxRecDepth 100000 in
theorem lw_1_turnBy : lm_yV RX1 yX1_turnBy cX1_turnBy 4 none := ⟨lm_wt 192 rfl rfl, lm_wt 193 rfl rfl, lm_wt 33 rfl rfl, lm_wt 194 rfl rfl⟩
set_option maxRecDepth 100000 in
theorem lw_2_addItem : lm_yV RX2 yX2_addItem cX2_addItem 5 none := ⟨lm_wt 367 rfl rfl, lm_wt 13 rfl rfl, lm_wt 31 rfl rfl, lm_wt 368 rfl rfl⟩
set_option maxRecDepth 100000 in
theorem lw_2_all : lm_yV RX2 yX2_all cX2_all 2 (some .int) := ⟨lm_wt 444 rfl rfl, lm_wt 445 rfl rfl, lm_wt 31 rfl rfl, lm_wt 446 rfl rfl⟩
set_option maxRecDepth 100000 in
theorem lw_2_bringToFront : lm_yV RX2 yX2_bringToFront cX2_bringToFront 5 none := ⟨lm_wt 185 rfl rfl, lm_wt 3 rfl rfl, lm_wt 31 rfl rfl, lm_wt 186 rfl rfl⟩
set_option maxRecDepth 100000 in
theorem lw_2_changeClass : lm_yV RX2 yX2_changeClass cX2_changeClass 4 none := ⟨lm_wt 336 rfl rfl, lm_wt 9 rfl rfl, lm_wt 31 rfl rfl, lm_wt 337 rfl rfl⟩
set_option maxRecDepth 100000 in
theorem lw_2_checkRange : lm_yS yX2_checkRange cX2_checkRange 3 none := ⟨lm_wt 320 rfl rfl, lm_wt 31 rfl rfl, lm_wt 321 rfl rfl⟩
set_option maxRecDepth 100000 in
theorem lw_2_empty : lm_yV RX2 yX2_empty cX2_empty 4 (some .int) := ⟨lm_wt 399 rfl rfl, lm_wt 400 rfl rfl, lm_wt 31 rfl rfl, lm_wt 401 rfl rfl⟩
set_option maxRecDepth 100000 in
theorem lw_2_firstRingWithQueues : lm_yV RX2 yX2_firstRingWithQueues cX2_firstRingWithQueues 5 (some (.object "SharedQueues$Ring")) := ⟨lm_wt 154 rfl rfl, lm_wt 0 rfl rfl, lm_wt 31 rfl rfl, lm_wt 155 rfl rfl⟩
set_option maxRecDepth 100000 in
theorem lw_2_freeCells : lm_yV RX2 yX2_freeCells cX2_freeCells 6 (some .int) := ⟨lm_wt 352 rfl rfl, lm_wt 11 rfl rfl, lm_wt 31 rfl rfl, lm_wt 353 rfl rfl⟩
set_option maxRecDepth 100000 in
theorem lw_2_hasRoomFor : lm_yV RX2 yX2_hasRoomFor cX2_hasRoomFor 2 (some .boolean) := ⟨lm_wt 348 rfl rfl, lm_wt 10 rfl rfl, lm_wt 31 rfl rfl, lm_wt 349 rfl rfl⟩
set_option maxRecDepth 100000 in
theorem lw_2_item : lm_yV RX2 yX2_item cX2_item 5 (some .int) := ⟨lm_wt 420 rfl rfl, lm_wt 421 rfl rfl, lm_wt 31 rfl rfl, lm_wt 422 rfl rfl⟩
set_option maxRecDepth 100000 in
theorem lw_2_keptCells : lm_yV RX2 yX2_keptCells cX2_keptCells 6 (some .int) := ⟨lm_wt 325 rfl rfl, lm_wt 8 rfl rfl, lm_wt 31 rfl rfl, lm_wt 326 rfl rfl⟩
set_option maxRecDepth 100000 in
theorem lw_2_kind : lm_yV RX2 yX2_kind cX2_kind 5 none := ⟨lm_wt 331 rfl rfl, lm_wt 332 rfl rfl, lm_wt 31 rfl rfl, lm_wt 333 rfl rfl⟩
set_option maxRecDepth 100000 in
theorem lw_2_leaveRing : lm_yV RX2 yX2_leaveRing cX2_leaveRing 3 none := ⟨lm_wt 229 rfl rfl, lm_wt 5 rfl rfl, lm_wt 31 rfl rfl, lm_wt 230 rfl rfl⟩
set_option maxRecDepth 100000 in
theorem lw_2_loseLastItem : lm_yV RX2 yX2_loseLastItem cX2_loseLastItem 3 none := ⟨lm_wt 379 rfl rfl, lm_wt 15 rfl rfl, lm_wt 31 rfl rfl, lm_wt 380 rfl rfl⟩
set_option maxRecDepth 100000 in
theorem lw_2_next : lm_yV RX2 yX2_next cX2_next 2 (some .int) := ⟨lm_wt 233 rfl rfl, lm_wt 234 rfl rfl, lm_wt 31 rfl rfl, lm_wt 235 rfl rfl⟩
set_option maxRecDepth 100000 in
theorem lw_2_openCells : lm_yV RX2 yX2_openCells cX2_openCells 6 (some .int) := ⟨lm_wt 360 rfl rfl, lm_wt 12 rfl rfl, lm_wt 31 rfl rfl, lm_wt 361 rfl rfl⟩
set_option maxRecDepth 100000 in
theorem lw_2_placeServedNext : lm_yV RX2 yX2_placeServedNext cX2_placeServedNext 6 (some .int) := ⟨lm_wt 158 rfl rfl, lm_wt 1 rfl rfl, lm_wt 31 rfl rfl, lm_wt 159 rfl rfl⟩
set_option maxRecDepth 100000 in
theorem lw_2_push : lm_yV RX2 yX2_push cX2_push 6 (some .int) := ⟨lm_wt 343 rfl rfl, lm_wt 344 rfl rfl, lm_wt 31 rfl rfl, lm_wt 345 rfl rfl⟩
set_option maxRecDepth 100000 in
theorem lw_2_queueOf : lm_yV RX2 yX2_queueOf cX2_queueOf 2 (some (.object "SharedQueues$Queue")) := ⟨lm_wt 250 rfl rfl, lm_wt 6 rfl rfl, lm_wt 31 rfl rfl, lm_wt 251 rfl rfl⟩
set_option maxRecDepth 100000 in
theorem lw_2_queueOfGreatestExcess : lm_yV RX2 yX2_queueOfGreatestExcess cX2_queueOfGreatestExcess 3 (some .int) := ⟨lm_wt 375 rfl rfl, lm_wt 14 rfl rfl, lm_wt 31 rfl rfl, lm_wt 376 rfl rfl⟩
set_option maxRecDepth 100000 in
theorem lw_2_quota : lm_yV RX2 yX2_quota cX2_quota 6 (some .int) := ⟨lm_wt 245 rfl rfl, lm_wt 246 rfl rfl, lm_wt 31 rfl rfl, lm_wt 247 rfl rfl⟩
set_option maxRecDepth 100000 in
theorem lw_2_serve : lm_yV RX2 yX2_serve cX2_serve 4 (some .int) := ⟨lm_wt 149 rfl rfl, lm_wt 150 rfl rfl, lm_wt 31 rfl rfl, lm_wt 151 rfl rfl⟩
set_option maxRecDepth 100000 in
theorem lw_2_serveFirstItem : lm_yV RX2 yX2_serveFirstItem cX2_serveFirstItem 4 none := ⟨lm_wt 212 rfl rfl, lm_wt 4 rfl rfl, lm_wt 31 rfl rfl, lm_wt 213 rfl rfl⟩
set_option maxRecDepth 100000 in
theorem lw_2_serveUpTo : lm_yV RX2 yX2_serveUpTo cX2_serveUpTo 6 (some .int) := ⟨lm_wt 389 rfl rfl, lm_wt 390 rfl rfl, lm_wt 31 rfl rfl, lm_wt 391 rfl rfl⟩
set_option maxRecDepth 100000 in
theorem lw_2_told : lm_yV RX2 yX2_told cX2_told 4 (some .int) := ⟨lm_wt 410 rfl rfl, lm_wt 411 rfl rfl, lm_wt 31 rfl rfl, lm_wt 412 rfl rfl⟩
set_option maxRecDepth 100000 in
theorem lw_2_word : lm_yV RX2 yX2_word cX2_word 1 (some .int) := ⟨lm_wt 237 rfl rfl, lm_wt 238 rfl rfl, lm_wt 31 rfl rfl, lm_wt 239 rfl rfl⟩
set_option maxRecDepth 100000 in
theorem lw_3_all : lm_yV RX3 yX3_all cX3_all 4 (some .int) := ⟨lm_wt 626 rfl rfl, lm_wt 627 rfl rfl, lm_wt 34 rfl rfl, lm_wt 628 rfl rfl⟩
set_option maxRecDepth 100000 in
theorem lw_3_costOf : lm_yV RX3 yX3_costOf cX3_costOf 4 (some .int) := ⟨lm_wt 619 rfl rfl, lm_wt 29 rfl rfl, lm_wt 34 rfl rfl, lm_wt 620 rfl rfl⟩
set_option maxRecDepth 100000 in
theorem lw_3_empty : lm_yV RX3 yX3_empty cX3_empty 3 (some .int) := ⟨lm_wt 610 rfl rfl, lm_wt 611 rfl rfl, lm_wt 34 rfl rfl, lm_wt 612 rfl rfl⟩
set_option maxRecDepth 100000 in
theorem lw_3_enter : lm_yV RX3 yX3_enter cX3_enter 3 none := ⟨lm_wt 550 rfl rfl, lm_wt 19 rfl rfl, lm_wt 34 rfl rfl, lm_wt 551 rfl rfl⟩
set_option maxRecDepth 100000 in
theorem lw_3_excess : lm_yV RX3 yX3_excess cX3_excess 2 (some .int) := ⟨lm_wt 562 rfl rfl, lm_wt 21 rfl rfl, lm_wt 34 rfl rfl, lm_wt 563 rfl rfl⟩
set_option maxRecDepth 100000 in
theorem lw_3_find : lm_yV RX3 yX3_find cX3_find 4 (some .int) := ⟨lm_wt 582 rfl rfl, lm_wt 25 rfl rfl, lm_wt 34 rfl rfl, lm_wt 583 rfl rfl⟩
set_option maxRecDepth 100000 in
theorem lw_3_free : lm_yV RX3 yX3_free cX3_free 3 (some .int) := ⟨lm_wt 558 rfl rfl, lm_wt 20 rfl rfl, lm_wt 34 rfl rfl, lm_wt 559 rfl rfl⟩
set_option maxRecDepth 100000 in
theorem lw_3_greediest : lm_yV RX3 yX3_greediest cX3_greediest 3 (some .int) := ⟨lm_wt 570 rfl rfl, lm_wt 23 rfl rfl, lm_wt 34 rfl rfl, lm_wt 571 rfl rfl⟩
set_option maxRecDepth 100000 in
theorem lw_3_item : lm_yV RX3 yX3_item cX3_item 4 (some .int) := ⟨lm_wt 622 rfl rfl, lm_wt 623 rfl rfl, lm_wt 34 rfl rfl, lm_wt 624 rfl rfl⟩
set_option maxRecDepth 100000 in
theorem lw_3_keepTurns : lm_yV RX3 yX3_keepTurns cX3_keepTurns 2 none := ⟨lm_wt 594 rfl rfl, lm_wt 27 rfl rfl, lm_wt 34 rfl rfl, lm_wt 595 rfl rfl⟩
set_option maxRecDepth 100000 in
theorem lw_3_keptInAll : lm_yV RX3 yX3_keptInAll cX3_keptInAll 3 (some .int) := ⟨lm_wt 534 rfl rfl, lm_wt 16 rfl rfl, lm_wt 34 rfl rfl, lm_wt 535 rfl rfl⟩
set_option maxRecDepth 100000 in
theorem lw_3_kind : lm_yV RX3 yX3_kind cX3_kind 4 none := ⟨lm_wt 537 rfl rfl, lm_wt 538 rfl rfl, lm_wt 34 rfl rfl, lm_wt 539 rfl rfl⟩
set_option maxRecDepth 100000 in
theorem lw_3_leave : lm_yV RX3 yX3_leave cX3_leave 5 none := ⟨lm_wt 542 rfl rfl, lm_wt 17 rfl rfl, lm_wt 34 rfl rfl, lm_wt 543 rfl rfl⟩
set_option maxRecDepth 100000 in
theorem lw_3_next : lm_yV RX3 yX3_next cX3_next 2 (some .int) := ⟨lm_wt 589 rfl rfl, lm_wt 590 rfl rfl, lm_wt 34 rfl rfl, lm_wt 591 rfl rfl⟩
set_option maxRecDepth 100000 in
theorem lw_3_noQueue : lm_yS yX3_noQueue cX3_noQueue 1 (some .boolean) := ⟨lm_wt 530 rfl rfl, lm_wt 34 rfl rfl, lm_wt 531 rfl rfl⟩
set_option maxRecDepth 100000 in
theorem lw_3_open : lm_yV RX3 yX3_open cX3_open 3 (some .int) := ⟨lm_wt 566 rfl rfl, lm_wt 22 rfl rfl, lm_wt 34 rfl rfl, lm_wt 567 rfl rfl⟩
set_option maxRecDepth 100000 in
theorem lw_3_placeOf : lm_yV RX3 yX3_placeOf cX3_placeOf 4 (some .int) := ⟨lm_wt 546 rfl rfl, lm_wt 18 rfl rfl, lm_wt 34 rfl rfl, lm_wt 547 rfl rfl⟩
set_option maxRecDepth 100000 in
theorem lw_3_push : lm_yV RX3 yX3_push cX3_push 5 (some .int) := ⟨lm_wt 553 rfl rfl, lm_wt 554 rfl rfl, lm_wt 34 rfl rfl, lm_wt 555 rfl rfl⟩
set_option maxRecDepth 100000 in
theorem lw_3_quota : lm_yV RX3 yX3_quota cX3_quota 4 (some .int) := ⟨lm_wt 526 rfl rfl, lm_wt 527 rfl rfl, lm_wt 34 rfl rfl, lm_wt 528 rfl rfl⟩
set_option maxRecDepth 100000 in
theorem lw_3_serve : lm_yV RX3 yX3_serve cX3_serve 2 (some .int) := ⟨lm_wt 577 rfl rfl, lm_wt 578 rfl rfl, lm_wt 34 rfl rfl, lm_wt 579 rfl rfl⟩
set_option maxRecDepth 100000 in
theorem lw_3_serveUpTo : lm_yV RX3 yX3_serveUpTo cX3_serveUpTo 6 (some .int) := ⟨lm_wt 605 rfl rfl, lm_wt 606 rfl rfl, lm_wt 34 rfl rfl, lm_wt 607 rfl rfl⟩
set_option maxRecDepth 100000 in
theorem lw_3_settle : lm_yV RX3 yX3_settle cX3_settle 2 none := ⟨lm_wt 574 rfl rfl, lm_wt 24 rfl rfl, lm_wt 34 rfl rfl, lm_wt 575 rfl rfl⟩
set_option maxRecDepth 100000 in
theorem lw_3_take : lm_yV RX3 yX3_take cX3_take 4 none := ⟨lm_wt 586 rfl rfl, lm_wt 26 rfl rfl, lm_wt 34 rfl rfl, lm_wt 587 rfl rfl⟩
set_option maxRecDepth 100000 in
theorem lw_3_thrown : lm_yV RX3 yX3_thrown cX3_thrown 1 (some .int) := ⟨lm_wt 522 rfl rfl, lm_wt 523 rfl rfl, lm_wt 34 rfl rfl, lm_wt 524 rfl rfl⟩
set_option maxRecDepth 100000 in
theorem lw_3_told : lm_yV RX3 yX3_told cX3_told 3 (some .int) := ⟨lm_wt 614 rfl rfl, lm_wt 615 rfl rfl, lm_wt 34 rfl rfl, lm_wt 616 rfl rfl⟩
set_option maxRecDepth 100000 in
theorem lw_3_turnBack : lm_yV RX3 yX3_turnBack cX3_turnBack 2 none := ⟨lm_wt 598 rfl rfl, lm_wt 28 rfl rfl, lm_wt 34 rfl rfl, lm_wt 599 rfl rfl⟩
set_option maxRecDepth 100000 in
theorem lw_3_word : lm_yV RX3 yX3_word cX3_word 1 (some .int) := ⟨lm_wt 601 rfl rfl, lm_wt 602 rfl rfl, lm_wt 34 rfl rfl, lm_wt 603 rfl rfl⟩
set_option maxRecDepth 100000 in
theorem lw_9_floorMod : lm_yS yJ9_floorMod_7cf53 cJ9_floorMod_7cf53 3 (some .int) := ⟨lm_wt 181 rfl rfl, lm_wt 40 rfl rfl, lm_wt 182 rfl rfl⟩
set_option maxRecDepth 100000 in
theorem lw_9_min : lm_yS yJ9_min_7cf53 cJ9_min_7cf53 2 (some .int) := ⟨lm_wt 363 rfl rfl, lm_wt 40 rfl rfl, lm_wt 364 rfl rfl⟩
set_option maxRecDepth 100000 in
theorem ll_0_31 : Cond.methodLink RX0 31 yX0_cellOf ∈ lm_WT := lm_wt 176 rfl rfl
set_option maxRecDepth 100000 in
theorem ll_0_35 : Cond.methodLink RX0 35 yX0_costAt ∈ lm_WT := lm_wt 172 rfl rfl
set_option maxRecDepth 100000 in
theorem ll_0_41 : Cond.methodLink RX0 41 yX0_firstCost ∈ lm_WT := lm_wt 168 rfl rfl
set_option maxRecDepth 100000 in
theorem ll_0_55 : Cond.methodLink RX0 55 yJ9_floorMod_7cf53 ∈ lm_WT := lm_wt 180 rfl rfl
set_option maxRecDepth 100000 in
theorem ll_1_19 : Cond.methodLink RX1 19 yX1_placeOf ∈ lm_WT := lm_wt 199 rfl rfl
set_option maxRecDepth 100000 in
theorem ll_1_29 : Cond.methodLink RX1 29 yX1_takeOut ∈ lm_WT := lm_wt 195 rfl rfl
set_option maxRecDepth 100000 in
theorem ll_1_33 : Cond.methodLink RX1 33 yX1_putAtEnd ∈ lm_WT := lm_wt 206 rfl rfl
set_option maxRecDepth 100000 in
theorem ll_2_23 : Cond.methodLink RX2 23 yX2_queueOf ∈ lm_WT := lm_wt 248 rfl rfl
set_option maxRecDepth 100000 in
theorem ll_2_27 : Cond.methodLink RX2 27 yX2_checkRange ∈ lm_WT := lm_wt 319 rfl rfl
set_option maxRecDepth 100000 in
theorem ll_2_31 : Cond.methodLink RX2 31 yX2_keptCells ∈ lm_WT := lm_wt 323 rfl rfl
set_option maxRecDepth 100000 in
theorem ll_2_48 : Cond.methodLink RX2 48 yX2_changeClass ∈ lm_WT := lm_wt 334 rfl rfl
set_option maxRecDepth 100000 in
theorem ll_2_58 : Cond.methodLink RX2 58 yX2_hasRoomFor ∈ lm_WT := lm_wt 346 rfl rfl
set_option maxRecDepth 100000 in
theorem ll_2_62 : Cond.methodLink RX2 62 yX2_addItem ∈ lm_WT := lm_wt 365 rfl rfl
set_option maxRecDepth 100000 in
theorem ll_2_66 : Cond.methodLink RX2 66 yX2_queueOfGreatestExcess ∈ lm_WT := lm_wt 373 rfl rfl
set_option maxRecDepth 100000 in
theorem ll_2_69 : Cond.methodLink RX2 69 yX0_excess ∈ lm_WT := lm_wt 354 rfl rfl
set_option maxRecDepth 100000 in
theorem ll_2_75 : Cond.methodLink RX2 75 yX2_loseLastItem ∈ lm_WT := lm_wt 377 rfl rfl
set_option maxRecDepth 100000 in
theorem ll_2_79 : Cond.methodLink RX2 79 yX2_firstRingWithQueues ∈ lm_WT := lm_wt 152 rfl rfl
set_option maxRecDepth 100000 in
theorem ll_2_83 : Cond.methodLink RX2 83 yX2_placeServedNext ∈ lm_WT := lm_wt 156 rfl rfl
set_option maxRecDepth 100000 in
theorem ll_2_87 : Cond.methodLink RX2 87 yX1_queueAt ∈ lm_WT := lm_wt 160 rfl rfl
set_option maxRecDepth 100000 in
theorem ll_2_91 : Cond.methodLink RX2 91 yX2_bringToFront ∈ lm_WT := lm_wt 183 rfl rfl
set_option maxRecDepth 100000 in
theorem ll_2_95 : Cond.methodLink RX2 95 yX2_serveFirstItem ∈ lm_WT := lm_wt 210 rfl rfl
set_option maxRecDepth 100000 in
theorem ll_2_102 : Cond.methodLink RX2 102 yX2_next ∈ lm_WT := lm_wt 393 rfl rfl
set_option maxRecDepth 100000 in
theorem ll_2_105 : Cond.methodLink RX2 105 yX0_firstCost ∈ lm_WT := lm_wt 218 rfl rfl
set_option maxRecDepth 100000 in
theorem ll_2_108 : Cond.methodLink RX2 108 yX2_serve ∈ lm_WT := lm_wt 394 rfl rfl
set_option maxRecDepth 100000 in
theorem ll_2_111 : Cond.methodLink RX2 111 yX0_dropAll ∈ lm_WT := lm_wt 402 rfl rfl
set_option maxRecDepth 100000 in
theorem ll_2_114 : Cond.methodLink RX2 114 yX2_leaveRing ∈ lm_WT := lm_wt 227 rfl rfl
set_option maxRecDepth 100000 in
theorem ll_2_125 : Cond.methodLink RX2 125 yX1_placeOf ∈ lm_WT := lm_wt 413 rfl rfl
set_option maxRecDepth 100000 in
theorem ll_2_155 : Cond.methodLink RX2 155 yX0_wordAt ∈ lm_WT := lm_wt 219 rfl rfl
set_option maxRecDepth 100000 in
theorem ll_2_158 : Cond.methodLink RX2 158 yX0_costAt ∈ lm_WT := lm_wt 439 rfl rfl
set_option maxRecDepth 100000 in
theorem ll_2_161 : Cond.methodLink RX2 161 yX2_freeCells ∈ lm_WT := lm_wt 350 rfl rfl
set_option maxRecDepth 100000 in
theorem ll_2_164 : Cond.methodLink RX2 164 yX2_openCells ∈ lm_WT := lm_wt 358 rfl rfl
set_option maxRecDepth 100000 in
theorem ll_2_177 : Cond.methodLink RX2 177 yJ9_min_7cf53 ∈ lm_WT := lm_wt 362 rfl rfl
set_option maxRecDepth 100000 in
theorem ll_2_183 : Cond.methodLink RX2 183 yX0_putLast ∈ lm_WT := lm_wt 369 rfl rfl
set_option maxRecDepth 100000 in
theorem ll_2_187 : Cond.methodLink RX2 187 yX1_putAtEnd ∈ lm_WT := lm_wt 338 rfl rfl
set_option maxRecDepth 100000 in
theorem ll_2_190 : Cond.methodLink RX2 190 yX0_dropLast ∈ lm_WT := lm_wt 381 rfl rfl
set_option maxRecDepth 100000 in
theorem ll_2_193 : Cond.methodLink RX2 193 yX1_takeOut ∈ lm_WT := lm_wt 231 rfl rfl
set_option maxRecDepth 100000 in
theorem ll_2_199 : Cond.methodLink RX2 199 yX0_looksInVain ∈ lm_WT := lm_wt 164 rfl rfl
set_option maxRecDepth 100000 in
theorem ll_2_202 : Cond.methodLink RX2 202 yX0_lookInVain ∈ lm_WT := lm_wt 187 rfl rfl
set_option maxRecDepth 100000 in
theorem ll_2_205 : Cond.methodLink RX2 205 yX1_turnBy ∈ lm_WT := lm_wt 191 rfl rfl
set_option maxRecDepth 100000 in
theorem ll_2_208 : Cond.methodLink RX2 208 yX0_takeTurn ∈ lm_WT := lm_wt 214 rfl rfl
set_option maxRecDepth 100000 in
theorem ll_2_211 : Cond.methodLink RX2 211 yX0_dropFirst ∈ lm_WT := lm_wt 223 rfl rfl
set_option maxRecDepth 100000 in
theorem ll_3_69 : Cond.methodLink RX3 69 yX3_noQueue ∈ lm_WT := lm_wt 529 rfl rfl
set_option maxRecDepth 100000 in
theorem ll_3_73 : Cond.methodLink RX3 73 yX3_keptInAll ∈ lm_WT := lm_wt 532 rfl rfl
set_option maxRecDepth 100000 in
theorem ll_3_77 : Cond.methodLink RX3 77 yX3_placeOf ∈ lm_WT := lm_wt 544 rfl rfl
set_option maxRecDepth 100000 in
theorem ll_3_81 : Cond.methodLink RX3 81 yX3_leave ∈ lm_WT := lm_wt 540 rfl rfl
set_option maxRecDepth 100000 in
theorem ll_3_85 : Cond.methodLink RX3 85 yX3_enter ∈ lm_WT := lm_wt 548 rfl rfl
set_option maxRecDepth 100000 in
theorem ll_3_88 : Cond.methodLink RX3 88 yX3_free ∈ lm_WT := lm_wt 556 rfl rfl
set_option maxRecDepth 100000 in
theorem ll_3_91 : Cond.methodLink RX3 91 yX3_excess ∈ lm_WT := lm_wt 560 rfl rfl
set_option maxRecDepth 100000 in
theorem ll_3_97 : Cond.methodLink RX3 97 yX3_open ∈ lm_WT := lm_wt 564 rfl rfl
set_option maxRecDepth 100000 in
theorem ll_3_100 : Cond.methodLink RX3 100 yX3_greediest ∈ lm_WT := lm_wt 568 rfl rfl
set_option maxRecDepth 100000 in
theorem ll_3_106 : Cond.methodLink RX3 106 yX3_settle ∈ lm_WT := lm_wt 572 rfl rfl
set_option maxRecDepth 100000 in
theorem ll_3_112 : Cond.methodLink RX3 112 yX3_find ∈ lm_WT := lm_wt 580 rfl rfl
set_option maxRecDepth 100000 in
theorem ll_3_115 : Cond.methodLink RX3 115 yX3_take ∈ lm_WT := lm_wt 584 rfl rfl
set_option maxRecDepth 100000 in
theorem ll_3_118 : Cond.methodLink RX3 118 yX3_keepTurns ∈ lm_WT := lm_wt 592 rfl rfl
set_option maxRecDepth 100000 in
theorem ll_3_121 : Cond.methodLink RX3 121 yX3_turnBack ∈ lm_WT := lm_wt 596 rfl rfl
set_option maxRecDepth 100000 in
theorem ll_3_125 : Cond.methodLink RX3 125 yX3_costOf ∈ lm_WT := lm_wt 617 rfl rfl
set_option maxRecDepth 100000 in
theorem lk_2_101 : Cond.constant RX2 101 100000 ∈ lm_WT := lm_wt 392 rfl rfl
set_option maxRecDepth 100000 in
theorem lk_3_124 : Cond.constant RX3 124 100000 ∈ lm_WT := lm_wt 608 rfl rfl
set_option maxRecDepth 100000 in
theorem lx_iae : lm_xw lm_iae 143 147 := ⟨⟨lm_wt 252 rfl rfl, lm_wt 38 rfl rfl, fun w hw => List.mem_filter.mpr ⟨wsL_law_x0 w hw, (List.mem_filter.mp hw).2⟩⟩, by decide +kernel, by decide +kernel, by decide +kernel⟩
set_option maxRecDepth 100000 in
theorem lx_iob : lm_xw lm_iob 150 154 := ⟨⟨lm_wt 423 rfl rfl, lm_wt 41 rfl rfl, fun w hw => List.mem_filter.mpr ⟨wsL_law_x1 w hw, (List.mem_filter.mp hw).2⟩⟩, by decide +kernel, by decide +kernel, by decide +kernel⟩
end
section
/-! rows: G is closed under the logical machine's steps; 'refine lg_.. hG d .. ?_' goes one instruction on -/
def lm_cl (E : lm_E) (cc : ByteArray) (Q : lm_Q) (X : lm_X) (G : lm_K) : Prop := ∀ (i : Instr) (len pc : Nat) (lo : lm_O) (st : List Value) (n : Nat) (L : lm_L) (bc bs : Nat), decode cc pc = .ok (i, len) → lm_step E Q X G i len pc lo st n L bc bs → G pc lo st n L bc bs
theorem lm_cl_of {E : lm_E} {cc : ByteArray} {Q : lm_Q} {X : lm_X} {pc : Nat} {lo : lm_O} {st : List Value} {n : Nat} {L : lm_L} {bc bs : Nat} (h : ∀ G : lm_K, lm_cl E cc Q X G → G pc lo st n L bc bs) : lm_wp E cc Q X pc lo st n L bc bs := by
  intro G hG
  refine h G (fun i len pc lo st n L bc bs hd hs => hG (fun _ => true) 1 pc lo st n L bc bs ?_)
  unfold lm_seg
  rw [hd]
  simpa using hs
section LMR
variable {E : lm_E} {cc : ByteArray} {Q : lm_Q} {X : lm_X} {G : lm_K} {pc : Nat} {lo : lm_O} {r : List Value} {n : Nat} {L : lm_L} {bc bs : Nat}
theorem lg_iconst (hG : lm_cl E cc Q X G) {v : Int} (hd : decode cc pc = .ok (.iconst v, 1)) {x : Int32} (hv : Int32.ofInt v = x) (k : G (pc + 1) lo (.int x :: r) n L bc bs) : G pc lo (r) n L bc bs := hG _ _ _ _ _ _ _ _ _ hd ⟨rfl, by rw [hv]; exact k⟩
theorem lg_bipush (hG : lm_cl E cc Q X G) {v : Int} (hd : decode cc pc = .ok (.bipush v, 2)) {x : Int32} (hv : (Int8.ofInt v).toInt32 = x) (k : G (pc + 2) lo (.int x :: r) n L bc bs) : G pc lo (r) n L bc bs := hG _ _ _ _ _ _ _ _ _ hd ⟨rfl, by rw [hv]; exact k⟩
theorem lg_sipush (hG : lm_cl E cc Q X G) {v : Int} (hd : decode cc pc = .ok (.sipush v, 3)) {x : Int32} (hv : (Int16.ofInt v).toInt32 = x) (k : G (pc + 3) lo (.int x :: r) n L bc bs) : G pc lo (r) n L bc bs := hG _ _ _ _ _ _ _ _ _ hd ⟨rfl, by rw [hv]; exact k⟩
theorem lg_null (hG : lm_cl E cc Q X G) (hd : decode cc pc = .ok (.aconst_null, 1)) (k : G (pc + 1) lo (.null :: r) n L bc bs) : G pc lo (r) n L bc bs := hG _ _ _ _ _ _ _ _ _ hd ⟨rfl, k⟩
theorem lg_ldc (hG : lm_cl E cc Q X G) {j : Nat} (hd : decode cc pc = .ok (.ldc j, 2)) {x : Int32} (hv : lm_kon E j = some x) (k : G (pc + 2) lo (.int x :: r) n L bc bs) : G pc lo (r) n L bc bs := hG _ _ _ _ _ _ _ _ _ hd ⟨rfl, by unfold lm_at; rw [hv]; exact k⟩
theorem lg_iload_n (hG : lm_cl E cc Q X G) {j : Fin 4} (hd : decode cc pc = .ok (.iload_n j, 1)) {x : Int32} (hl : lo[j.val]? = some (some (.int x))) (k : G (pc + 1) lo (.int x :: r) n L bc bs) : G pc lo (r) n L bc bs := hG _ _ _ _ _ _ _ _ _ hd ⟨rfl, by unfold lm_ldi; rw [hl]; exact k⟩
theorem lg_iload (hG : lm_cl E cc Q X G) {j : Nat} (hd : decode cc pc = .ok (.iload j, 2)) {x : Int32} (hl : lo[j]? = some (some (.int x))) (k : G (pc + 2) lo (.int x :: r) n L bc bs) : G pc lo (r) n L bc bs := hG _ _ _ _ _ _ _ _ _ hd ⟨rfl, by unfold lm_ldi; rw [hl]; exact k⟩
theorem lg_aload_n (hG : lm_cl E cc Q X G) {j : Fin 4} {a : Nat} (hd : decode cc pc = .ok (.aload_n j, 1)) (hl : lo[j.val]? = some (some (.ref a))) (k : G (pc + 1) lo (.ref a :: r) n L bc bs) : G pc lo (r) n L bc bs := hG _ _ _ _ _ _ _ _ _ hd ⟨rfl, by unfold lm_lda; rw [hl]; exact k⟩
theorem lg_aload_nN (hG : lm_cl E cc Q X G) {j : Fin 4} (hd : decode cc pc = .ok (.aload_n j, 1)) (hl : lo[j.val]? = some (some (.null))) (k : G (pc + 1) lo (.null :: r) n L bc bs) : G pc lo (r) n L bc bs := hG _ _ _ _ _ _ _ _ _ hd ⟨rfl, by unfold lm_lda; rw [hl]; exact k⟩
theorem lg_aload_nS (hG : lm_cl E cc Q X G) {j : Fin 4} {a : UInt32} (hd : decode cc pc = .ok (.aload_n j, 1)) (hl : lo[j.val]? = some (some (.float a))) (k : G (pc + 1) lo (.float a :: r) n L bc bs) : G pc lo (r) n L bc bs := hG _ _ _ _ _ _ _ _ _ hd ⟨rfl, by unfold lm_lda; rw [hl]; exact k⟩
theorem lg_aload (hG : lm_cl E cc Q X G) {j : Nat} {a : Nat} (hd : decode cc pc = .ok (.aload j, 2)) (hl : lo[j]? = some (some (.ref a))) (k : G (pc + 2) lo (.ref a :: r) n L bc bs) : G pc lo (r) n L bc bs := hG _ _ _ _ _ _ _ _ _ hd ⟨rfl, by unfold lm_lda; rw [hl]; exact k⟩
theorem lg_aloadN (hG : lm_cl E cc Q X G) {j : Nat} (hd : decode cc pc = .ok (.aload j, 2)) (hl : lo[j]? = some (some (.null))) (k : G (pc + 2) lo (.null :: r) n L bc bs) : G pc lo (r) n L bc bs := hG _ _ _ _ _ _ _ _ _ hd ⟨rfl, by unfold lm_lda; rw [hl]; exact k⟩
theorem lg_aloadS (hG : lm_cl E cc Q X G) {j : Nat} {a : UInt32} (hd : decode cc pc = .ok (.aload j, 2)) (hl : lo[j]? = some (some (.float a))) (k : G (pc + 2) lo (.float a :: r) n L bc bs) : G pc lo (r) n L bc bs := hG _ _ _ _ _ _ _ _ _ hd ⟨rfl, by unfold lm_lda; rw [hl]; exact k⟩
theorem lg_istore_n (hG : lm_cl E cc Q X G) {j : Fin 4} {x : Int32} {lo1 : lm_O} (hd : decode cc pc = .ok (.istore_n j, 1)) (hj : j.val < lo.length) (hl : lo.set j.val (some (.int x)) = lo1) (k : G (pc + 1) lo1 (r) n L bc bs) : G pc lo (.int x :: r) n L bc bs := hG _ _ _ _ _ _ _ _ _ hd ⟨rfl, hj, by unfold lm_s1; dsimp only; rw [hl]; exact k⟩
theorem lg_istore (hG : lm_cl E cc Q X G) {j : Nat} {x : Int32} {lo1 : lm_O} (hd : decode cc pc = .ok (.istore j, 2)) (hj : j < lo.length) (hl : lo.set j (some (.int x)) = lo1) (k : G (pc + 2) lo1 (r) n L bc bs) : G pc lo (.int x :: r) n L bc bs := hG _ _ _ _ _ _ _ _ _ hd ⟨rfl, hj, by unfold lm_s1; dsimp only; rw [hl]; exact k⟩
theorem lg_astore_n (hG : lm_cl E cc Q X G) {j : Fin 4} {a : Nat} {lo1 : lm_O} (hd : decode cc pc = .ok (.astore_n j, 1)) (hj : j.val < lo.length) (hl : lo.set j.val (some (.ref a)) = lo1) (k : G (pc + 1) lo1 (r) n L bc bs) : G pc lo (.ref a :: r) n L bc bs := hG _ _ _ _ _ _ _ _ _ hd ⟨rfl, hj, by dsimp only; rw [hl]; exact k⟩
theorem lg_astore_nN (hG : lm_cl E cc Q X G) {j : Fin 4} {lo1 : lm_O} (hd : decode cc pc = .ok (.astore_n j, 1)) (hj : j.val < lo.length) (hl : lo.set j.val (some (.null)) = lo1) (k : G (pc + 1) lo1 (r) n L bc bs) : G pc lo (.null :: r) n L bc bs := hG _ _ _ _ _ _ _ _ _ hd ⟨rfl, hj, by dsimp only; rw [hl]; exact k⟩
theorem lg_astore_nR (hG : lm_cl E cc Q X G) {j : Fin 4} {a : Nat} {lo1 : lm_O} (hd : decode cc pc = .ok (.astore_n j, 1)) (hj : j.val < lo.length) (hl : lo.set j.val (some (.retAddr a)) = lo1) (k : G (pc + 1) lo1 (r) n L bc bs) : G pc lo (.retAddr a :: r) n L bc bs := hG _ _ _ _ _ _ _ _ _ hd ⟨rfl, hj, by dsimp only; rw [hl]; exact k⟩
theorem lg_astore (hG : lm_cl E cc Q X G) {j : Nat} {a : Nat} {lo1 : lm_O} (hd : decode cc pc = .ok (.astore j, 2)) (hj : j < lo.length) (hl : lo.set j (some (.ref a)) = lo1) (k : G (pc + 2) lo1 (r) n L bc bs) : G pc lo (.ref a :: r) n L bc bs := hG _ _ _ _ _ _ _ _ _ hd ⟨rfl, hj, by dsimp only; rw [hl]; exact k⟩
theorem lg_astoreN (hG : lm_cl E cc Q X G) {j : Nat} {lo1 : lm_O} (hd : decode cc pc = .ok (.astore j, 2)) (hj : j < lo.length) (hl : lo.set j (some (.null)) = lo1) (k : G (pc + 2) lo1 (r) n L bc bs) : G pc lo (.null :: r) n L bc bs := hG _ _ _ _ _ _ _ _ _ hd ⟨rfl, hj, by dsimp only; rw [hl]; exact k⟩
theorem lg_astoreR (hG : lm_cl E cc Q X G) {j : Nat} {a : Nat} {lo1 : lm_O} (hd : decode cc pc = .ok (.astore j, 2)) (hj : j < lo.length) (hl : lo.set j (some (.retAddr a)) = lo1) (k : G (pc + 2) lo1 (r) n L bc bs) : G pc lo (.retAddr a :: r) n L bc bs := hG _ _ _ _ _ _ _ _ _ hd ⟨rfl, hj, by dsimp only; rw [hl]; exact k⟩
theorem lg_iinc (hG : lm_cl E cc Q X G) {j : Nat} {v : Int} {x y : Int32} {lo1 : lm_O} (hd : decode cc pc = .ok (.iinc j v, 3)) (hj : j < lo.length) (hx : lo[j]? = some (some (.int x))) (hy : x + Int32.ofInt v = y) (hl : lo.set j (some (.int y)) = lo1) (k : G (pc + 3) lo1 (r) n L bc bs) : G pc lo (r) n L bc bs := hG _ _ _ _ _ _ _ _ _ hd ⟨rfl, hj, by unfold lm_ldi; rw [hx]; dsimp only; rw [hy, hl]; exact k⟩
theorem lg_iadd (hG : lm_cl E cc Q X G) {x y z : Int32} (hd : decode cc pc = .ok (.iadd, 1)) (hz : x + y = z) (k : G (pc + 1) lo (.int z :: r) n L bc bs) : G pc lo (.int y :: .int x :: r) n L bc bs := hG _ _ _ _ _ _ _ _ _ hd ⟨rfl, by unfold lm_s2; dsimp only; rw [hz]; exact k⟩
theorem lg_isub (hG : lm_cl E cc Q X G) {x y z : Int32} (hd : decode cc pc = .ok (.isub, 1)) (hz : x - y = z) (k : G (pc + 1) lo (.int z :: r) n L bc bs) : G pc lo (.int y :: .int x :: r) n L bc bs := hG _ _ _ _ _ _ _ _ _ hd ⟨rfl, by unfold lm_s2; dsimp only; rw [hz]; exact k⟩
theorem lg_imul (hG : lm_cl E cc Q X G) {x y z : Int32} (hd : decode cc pc = .ok (.imul, 1)) (hz : x * y = z) (k : G (pc + 1) lo (.int z :: r) n L bc bs) : G pc lo (.int y :: .int x :: r) n L bc bs := hG _ _ _ _ _ _ _ _ _ hd ⟨rfl, by unfold lm_s2; dsimp only; rw [hz]; exact k⟩
theorem lg_iand (hG : lm_cl E cc Q X G) {x y z : Int32} (hd : decode cc pc = .ok (.iand, 1)) (hz : x &&& y = z) (k : G (pc + 1) lo (.int z :: r) n L bc bs) : G pc lo (.int y :: .int x :: r) n L bc bs := hG _ _ _ _ _ _ _ _ _ hd ⟨rfl, by unfold lm_s2; dsimp only; rw [hz]; exact k⟩
theorem lg_ixor (hG : lm_cl E cc Q X G) {x y z : Int32} (hd : decode cc pc = .ok (.ixor, 1)) (hz : x ^^^ y = z) (k : G (pc + 1) lo (.int z :: r) n L bc bs) : G pc lo (.int y :: .int x :: r) n L bc bs := hG _ _ _ _ _ _ _ _ _ hd ⟨rfl, by unfold lm_s2; dsimp only; rw [hz]; exact k⟩
theorem lg_idiv (hG : lm_cl E cc Q X G) {x y z : Int32} (hd : decode cc pc = .ok (.idiv, 1)) (h0 : ¬ y = 0) (hz : x / y = z) (k : G (pc + 1) lo (.int z :: r) n L bc bs) : G pc lo (.int y :: .int x :: r) n L bc bs := hG _ _ _ _ _ _ _ _ _ hd ⟨rfl, by unfold lm_s2; dsimp only; rw [hz]; exact ⟨h0, k⟩⟩
theorem lg_irem (hG : lm_cl E cc Q X G) {x y z : Int32} (hd : decode cc pc = .ok (.irem, 1)) (h0 : ¬ y = 0) (hz : x - x / y * y = z) (k : G (pc + 1) lo (.int z :: r) n L bc bs) : G pc lo (.int y :: .int x :: r) n L bc bs := hG _ _ _ _ _ _ _ _ _ hd ⟨rfl, by unfold lm_s2; dsimp only; rw [hz]; exact ⟨h0, k⟩⟩
theorem lg_i2l (hG : lm_cl E cc Q X G) {x : Int32} (hd : decode cc pc = .ok (.i2l, 1)) (k : G (pc + 1) lo (.long x.toInt64 :: r) n L bc bs) : G pc lo (.int x :: r) n L bc bs := hG _ _ _ _ _ _ _ _ _ hd ⟨rfl, k⟩
theorem lg_lcmp (hG : lm_cl E cc Q X G) {x y : Int64} (hd : decode cc pc = .ok (.lcmp, 1)) (k : G (pc + 1) lo (.int (lg_cmp x y) :: r) n L bc bs) : G pc lo (.long y :: .long x :: r) n L bc bs := hG _ _ _ _ _ _ _ _ _ hd ⟨rfl, k⟩
theorem lg_dup (hG : lm_cl E cc Q X G) {v : Value} (hd : decode cc pc = .ok (.dup, 1)) (hc : v.category = 1) (k : G (pc + 1) lo (v :: v :: r) n L bc bs) : G pc lo (v :: r) n L bc bs := hG _ _ _ _ _ _ _ _ _ hd ⟨rfl, hc, k⟩
theorem lg_dup2 (hG : lm_cl E cc Q X G) {v u : Value} (hd : decode cc pc = .ok (.dup2, 1)) (hc : v.category = 1) (hc2 : u.category = 1) (k : G (pc + 1) lo (v :: u :: v :: u :: r) n L bc bs) : G pc lo (v :: u :: r) n L bc bs := hG _ _ _ _ _ _ _ _ _ hd ⟨rfl, hc, hc2, k⟩
theorem lg_pop (hG : lm_cl E cc Q X G) {v : Value} (hd : decode cc pc = .ok (.pop, 1)) (hc : v.category = 1) (k : G (pc + 1) lo (r) n L bc bs) : G pc lo (v :: r) n L bc bs := hG _ _ _ _ _ _ _ _ _ hd ⟨rfl, hc, k⟩
theorem lg_goto (hG : lm_cl E cc Q X G) {o : Int} (hd : decode cc pc = .ok (.goto o, 3)) {tgt : Nat} (ht : ((pc : Int) + o).toNat = tgt) (h0 : 0 ≤ (pc : Int) + o) (k : G tgt lo r n L bc bs) : G pc lo (r) n L bc bs := hG _ _ _ _ _ _ _ _ _ hd ⟨rfl, h0, by rw [ht]; exact k⟩
theorem lg_if_eq (hG : lm_cl E cc Q X G) {o : Int} {x : Int32} (hd : decode cc pc = .ok (.ifCond .eq o, 3)) {tgt : Nat} (ht : ((pc : Int) + o).toNat = tgt) (h0 : 0 ≤ (pc : Int) + o) (k1 : x = 0 → G tgt lo r n L bc bs) (k2 : ¬ x = 0 → G (pc + 3) lo r n L bc bs) : G pc lo (.int x :: r) n L bc bs := hG _ _ _ _ _ _ _ _ _ hd ⟨rfl, h0, by unfold lm_s1; dsimp only; rw [ht]; exact ⟨k1, k2⟩⟩
theorem lg_icmp_eq (hG : lm_cl E cc Q X G) {o : Int} {x y : Int32} (hd : decode cc pc = .ok (.if_icmp .eq o, 3)) {tgt : Nat} (ht : ((pc : Int) + o).toNat = tgt) (h0 : 0 ≤ (pc : Int) + o) (k1 : x = y → G tgt lo r n L bc bs) (k2 : ¬ x = y → G (pc + 3) lo r n L bc bs) : G pc lo (.int y :: .int x :: r) n L bc bs := hG _ _ _ _ _ _ _ _ _ hd ⟨rfl, h0, by unfold lm_s2; dsimp only; rw [ht]; exact ⟨k1, k2⟩⟩
theorem lg_if_ne (hG : lm_cl E cc Q X G) {o : Int} {x : Int32} (hd : decode cc pc = .ok (.ifCond .ne o, 3)) {tgt : Nat} (ht : ((pc : Int) + o).toNat = tgt) (h0 : 0 ≤ (pc : Int) + o) (k1 : ¬ x = 0 → G tgt lo r n L bc bs) (k2 : x = 0 → G (pc + 3) lo r n L bc bs) : G pc lo (.int x :: r) n L bc bs := hG _ _ _ _ _ _ _ _ _ hd ⟨rfl, h0, by unfold lm_s1; dsimp only; rw [ht]; exact ⟨k1, k2⟩⟩
theorem lg_icmp_ne (hG : lm_cl E cc Q X G) {o : Int} {x y : Int32} (hd : decode cc pc = .ok (.if_icmp .ne o, 3)) {tgt : Nat} (ht : ((pc : Int) + o).toNat = tgt) (h0 : 0 ≤ (pc : Int) + o) (k1 : ¬ x = y → G tgt lo r n L bc bs) (k2 : x = y → G (pc + 3) lo r n L bc bs) : G pc lo (.int y :: .int x :: r) n L bc bs := hG _ _ _ _ _ _ _ _ _ hd ⟨rfl, h0, by unfold lm_s2; dsimp only; rw [ht]; exact ⟨k1, k2⟩⟩
theorem lg_if_lt (hG : lm_cl E cc Q X G) {o : Int} {x : Int32} (hd : decode cc pc = .ok (.ifCond .lt o, 3)) {tgt : Nat} (ht : ((pc : Int) + o).toNat = tgt) (h0 : 0 ≤ (pc : Int) + o) (k1 : x < 0 → G tgt lo r n L bc bs) (k2 : ¬ x < 0 → G (pc + 3) lo r n L bc bs) : G pc lo (.int x :: r) n L bc bs := hG _ _ _ _ _ _ _ _ _ hd ⟨rfl, h0, by unfold lm_s1; dsimp only; rw [ht]; exact ⟨k1, k2⟩⟩
theorem lg_icmp_lt (hG : lm_cl E cc Q X G) {o : Int} {x y : Int32} (hd : decode cc pc = .ok (.if_icmp .lt o, 3)) {tgt : Nat} (ht : ((pc : Int) + o).toNat = tgt) (h0 : 0 ≤ (pc : Int) + o) (k1 : x < y → G tgt lo r n L bc bs) (k2 : ¬ x < y → G (pc + 3) lo r n L bc bs) : G pc lo (.int y :: .int x :: r) n L bc bs := hG _ _ _ _ _ _ _ _ _ hd ⟨rfl, h0, by unfold lm_s2; dsimp only; rw [ht]; exact ⟨k1, k2⟩⟩
theorem lg_if_ge (hG : lm_cl E cc Q X G) {o : Int} {x : Int32} (hd : decode cc pc = .ok (.ifCond .ge o, 3)) {tgt : Nat} (ht : ((pc : Int) + o).toNat = tgt) (h0 : 0 ≤ (pc : Int) + o) (k1 : ¬ x < 0 → G tgt lo r n L bc bs) (k2 : x < 0 → G (pc + 3) lo r n L bc bs) : G pc lo (.int x :: r) n L bc bs := hG _ _ _ _ _ _ _ _ _ hd ⟨rfl, h0, by unfold lm_s1; dsimp only; rw [ht]; exact ⟨k1, k2⟩⟩
theorem lg_icmp_ge (hG : lm_cl E cc Q X G) {o : Int} {x y : Int32} (hd : decode cc pc = .ok (.if_icmp .ge o, 3)) {tgt : Nat} (ht : ((pc : Int) + o).toNat = tgt) (h0 : 0 ≤ (pc : Int) + o) (k1 : ¬ x < y → G tgt lo r n L bc bs) (k2 : x < y → G (pc + 3) lo r n L bc bs) : G pc lo (.int y :: .int x :: r) n L bc bs := hG _ _ _ _ _ _ _ _ _ hd ⟨rfl, h0, by unfold lm_s2; dsimp only; rw [ht]; exact ⟨k1, k2⟩⟩
theorem lg_if_gt (hG : lm_cl E cc Q X G) {o : Int} {x : Int32} (hd : decode cc pc = .ok (.ifCond .gt o, 3)) {tgt : Nat} (ht : ((pc : Int) + o).toNat = tgt) (h0 : 0 ≤ (pc : Int) + o) (k1 : ¬ x ≤ 0 → G tgt lo r n L bc bs) (k2 : x ≤ 0 → G (pc + 3) lo r n L bc bs) : G pc lo (.int x :: r) n L bc bs := hG _ _ _ _ _ _ _ _ _ hd ⟨rfl, h0, by unfold lm_s1; dsimp only; rw [ht]; exact ⟨k1, k2⟩⟩
theorem lg_icmp_gt (hG : lm_cl E cc Q X G) {o : Int} {x y : Int32} (hd : decode cc pc = .ok (.if_icmp .gt o, 3)) {tgt : Nat} (ht : ((pc : Int) + o).toNat = tgt) (h0 : 0 ≤ (pc : Int) + o) (k1 : ¬ x ≤ y → G tgt lo r n L bc bs) (k2 : x ≤ y → G (pc + 3) lo r n L bc bs) : G pc lo (.int y :: .int x :: r) n L bc bs := hG _ _ _ _ _ _ _ _ _ hd ⟨rfl, h0, by unfold lm_s2; dsimp only; rw [ht]; exact ⟨k1, k2⟩⟩
theorem lg_if_le (hG : lm_cl E cc Q X G) {o : Int} {x : Int32} (hd : decode cc pc = .ok (.ifCond .le o, 3)) {tgt : Nat} (ht : ((pc : Int) + o).toNat = tgt) (h0 : 0 ≤ (pc : Int) + o) (k1 : x ≤ 0 → G tgt lo r n L bc bs) (k2 : ¬ x ≤ 0 → G (pc + 3) lo r n L bc bs) : G pc lo (.int x :: r) n L bc bs := hG _ _ _ _ _ _ _ _ _ hd ⟨rfl, h0, by unfold lm_s1; dsimp only; rw [ht]; exact ⟨k1, k2⟩⟩
theorem lg_icmp_le (hG : lm_cl E cc Q X G) {o : Int} {x y : Int32} (hd : decode cc pc = .ok (.if_icmp .le o, 3)) {tgt : Nat} (ht : ((pc : Int) + o).toNat = tgt) (h0 : 0 ≤ (pc : Int) + o) (k1 : x ≤ y → G tgt lo r n L bc bs) (k2 : ¬ x ≤ y → G (pc + 3) lo r n L bc bs) : G pc lo (.int y :: .int x :: r) n L bc bs := hG _ _ _ _ _ _ _ _ _ hd ⟨rfl, h0, by unfold lm_s2; dsimp only; rw [ht]; exact ⟨k1, k2⟩⟩
theorem lg_ifnonnull (hG : lm_cl E cc Q X G) {o : Int} {a : Nat} (hd : decode cc pc = .ok (.ifnonnull o, 3)) {tgt : Nat} (ht : ((pc : Int) + o).toNat = tgt) (h0 : 0 ≤ (pc : Int) + o) (k : G tgt lo r n L bc bs) : G pc lo (.ref a :: r) n L bc bs := hG _ _ _ _ _ _ _ _ _ hd ⟨rfl, h0, by rw [ht]; exact k⟩
theorem lg_ifnonnullN (hG : lm_cl E cc Q X G) {o : Int} (hd : decode cc pc = .ok (.ifnonnull o, 3)) (k : G (pc + 3) lo r n L bc bs) : G pc lo (.null :: r) n L bc bs := hG _ _ _ _ _ _ _ _ _ hd ⟨rfl, k⟩
theorem lg_tabOut (hG : lm_cl E cc Q X G) {len : Nat} {d a b o : Int} {os : Array Int} {x : Int32} (hd : decode cc pc = .ok (.tableswitch d a b os, len)) (hx : x.toInt < a ∨ b < x.toInt) (ho : d = o) {tgt : Nat} (ht : ((pc : Int) + o).toNat = tgt) (h0 : 0 ≤ (pc : Int) + o) (k : G tgt lo r n L bc bs) : G pc lo (.int x :: r) n L bc bs := hG _ _ _ _ _ _ _ _ _ hd ⟨fun _ => by subst ho; exact ⟨h0, by rw [ht]; exact k⟩, fun h1 h2 => absurd hx (fun h => h.elim h1 h2)⟩
theorem lg_tabIn (hG : lm_cl E cc Q X G) {len : Nat} {d a b o : Int} {os : Array Int} {x : Int32} (hd : decode cc pc = .ok (.tableswitch d a b os, len)) (h1 : ¬ x.toInt < a) (h2 : ¬ b < x.toInt) (ho : os[(x.toInt - a).toNat]? = some o) {tgt : Nat} (ht : ((pc : Int) + o).toNat = tgt) (h0 : 0 ≤ (pc : Int) + o) (k : G tgt lo r n L bc bs) : G pc lo (.int x :: r) n L bc bs := hG _ _ _ _ _ _ _ _ _ hd ⟨fun h => absurd h (fun h => h.elim h1 h2), fun _ _ => by unfold lm_at; rw [ho]; exact ⟨h0, by rw [ht]; exact k⟩⟩
theorem lg_get (hG : lm_cl E cc Q X G) {j ci f ty q : Nat} {fs : List Value} {v : Value} (hd : decode cc pc = .ok (.getfield j, 3)) (hf : lm_fld E j = some (ci, f, ty)) (hq : q < n) (hL : L q = .inr (ci, fs)) (hv : fs[f]? = some v) (k : G (pc + 3) lo (v :: r) n L bc bs) : G pc lo (.ref q :: r) n L bc bs := hG _ _ _ _ _ _ _ _ _ hd ⟨rfl, by unfold lm_sr; dsimp only; unfold lm_at; rw [hf]; refine ⟨hq, ?_⟩; unfold lm_ob; rw [hL]; refine ⟨rfl, ?_⟩; dsimp only; rw [hv]; exact k⟩
theorem lg_put (hG : lm_cl E cc Q X G) {j ci f ty q : Nat} {fs fs1 : List Value} {v : Value} (hd : decode cc pc = .ok (.putfield j, 3)) (hf : lm_fld E j = some (ci, f, ty)) (hq : q < n) (hv : lm_fit E ty v) (hL : L q = .inr (ci, fs)) (hl : f < fs.length) (h1 : fs.set f v = fs1) (k : G (pc + 3) lo r n (va_up L q (.inr (ci, fs1))) bc bs) : G pc lo (v :: .ref q :: r) n L bc bs := hG _ _ _ _ _ _ _ _ _ hd ⟨rfl, by dsimp only; unfold lm_at; rw [hf]; refine ⟨hq, hv, ?_⟩; unfold lm_ob; rw [hL]; refine ⟨rfl, hl, ?_⟩; dsimp only; rw [h1]; exact k⟩
theorem lg_iald (hG : lm_cl E cc Q X G) {i : Int32} {a k : Nat} {f : Nat → Int32} (hd : decode cc pc = .ok (.iaload, 1)) (hq : a < n) (hL : L a = .inl (lm_id E 0, k, .inl f)) (hi : vp_in i k) (kk : G (pc + 1) lo (.int (f i.toNatClampNeg) :: r) n L bc bs) : G pc lo (.int i :: .ref a :: r) n L bc bs := hG _ _ _ _ _ _ _ _ _ hd ⟨rfl, hq, by unfold lm_ia; rw [hL]; exact ⟨rfl, hi, kk⟩⟩
theorem lg_bald (hG : lm_cl E cc Q X G) {i : Int32} {a k : Nat} {f : Nat → Int32} (hd : decode cc pc = .ok (.baload, 1)) (hq : a < n) (hL : L a = .inl (lm_id E 1, k, .inl f)) (hi : vp_in i k) (kk : G (pc + 1) lo (.int (f i.toNatClampNeg) :: r) n L bc bs) : G pc lo (.int i :: .ref a :: r) n L bc bs := hG _ _ _ _ _ _ _ _ _ hd ⟨rfl, hq, by unfold lm_ia; rw [hL]; exact ⟨rfl, hi, kk⟩⟩
theorem lg_sld (hG : lm_cl E cc Q X G) {i : Int32} {a : UInt32} {q : Nat × (Nat → Int32)} (hd : decode cc pc = .ok (.iaload, 1)) (hs : lm_scr E = some q) (hi : vp_in i q.1) (kk : G (pc + 1) lo (.int (q.2 i.toNatClampNeg) :: r) n L bc bs) : G pc lo (.int i :: .float a :: r) n L bc bs := hG _ _ _ _ _ _ _ _ _ hd ⟨rfl, by dsimp only; unfold lm_at; rw [hs]; exact ⟨hi, kk⟩⟩
theorem lg_lald (hG : lm_cl E cc Q X G) {i : Int32} {a k : Nat} {f : Nat → Int64} (hd : decode cc pc = .ok (.laload, 1)) (hq : a < n) (hL : L a = .inl (lm_id E 2, k, .inr (.inl f))) (hi : vp_in i k) (kk : G (pc + 1) lo (.long (f i.toNatClampNeg) :: r) n L bc bs) : G pc lo (.int i :: .ref a :: r) n L bc bs := hG _ _ _ _ _ _ _ _ _ hd ⟨rfl, hq, by unfold lm_la; rw [hL]; exact ⟨rfl, hi, kk⟩⟩
theorem lg_aald (hG : lm_cl E cc Q X G) {i : Int32} {a k : Nat} {c1 : ClassId} {v : Value} {f : Nat → Option Nat} (hd : decode cc pc = .ok (.aaload, 1)) (hq : a < n) (hL : L a = .inl (c1, k, .inr (.inr (.inr (.inr f))))) (hc : c1 = lm_id E 3 ∨ c1 = lm_id E 4) (hi : vp_in i k) (hv : va_rf (f i.toNatClampNeg) = v) (kk : G (pc + 1) lo (v :: r) n L bc bs) : G pc lo (.int i :: .ref a :: r) n L bc bs := hG _ _ _ _ _ _ _ _ _ hd ⟨rfl, hq, by unfold lm_qa; rw [hL]; exact ⟨hc, hi, by rw [hv]; exact kk⟩⟩
theorem lg_iast (hG : lm_cl E cc Q X G) {i x : Int32} {a k : Nat} {f : Nat → Int32} (hd : decode cc pc = .ok (.iastore, 1)) (hq : a < n) (hL : L a = .inl (lm_id E 0, k, .inl f)) (hi : vp_in i k) (kk : G (pc + 1) lo r n (va_up L a (.inl (lm_id E 0, k, .inl (upd f i.toNatClampNeg x)))) bc bs) : G pc lo (.int x :: .int i :: .ref a :: r) n L bc bs := hG _ _ _ _ _ _ _ _ _ hd ⟨rfl, hq, by unfold lm_ia; rw [hL]; exact ⟨rfl, hi, kk⟩⟩
theorem lg_bast (hG : lm_cl E cc Q X G) {i x : Int32} {a k : Nat} {f : Nat → Int32} (hd : decode cc pc = .ok (.bastore, 1)) (hq : a < n) (h01 : x = 0 ∨ x = 1) (hL : L a = .inl (lm_id E 1, k, .inl f)) (hi : vp_in i k) (kk : G (pc + 1) lo r n (va_up L a (.inl (lm_id E 1, k, .inl (upd f i.toNatClampNeg x)))) bc bs) : G pc lo (.int x :: .int i :: .ref a :: r) n L bc bs := hG _ _ _ _ _ _ _ _ _ hd ⟨rfl, hq, h01, by unfold lm_ia; rw [hL]; exact ⟨rfl, hi, kk⟩⟩
theorem lg_last (hG : lm_cl E cc Q X G) {i : Int32} {x : Int64} {a k : Nat} {f : Nat → Int64} (hd : decode cc pc = .ok (.lastore, 1)) (hq : a < n) (hL : L a = .inl (lm_id E 2, k, .inr (.inl f))) (hi : vp_in i k) (kk : G (pc + 1) lo r n (va_up L a (.inl (lm_id E 2, k, .inr (.inl (vp_updL f i.toNatClampNeg x))))) bc bs) : G pc lo (.long x :: .int i :: .ref a :: r) n L bc bs := hG _ _ _ _ _ _ _ _ _ hd ⟨rfl, hq, by unfold lm_la; rw [hL]; exact ⟨rfl, hi, kk⟩⟩
theorem lg_alen (hG : lm_cl E cc Q X G) {a k : Nat} {c1 : ClassId} {x : Int32} {g : (Nat → Int32) ⊕ (Nat → Int64) ⊕ (Nat → UInt32) ⊕ (Nat → UInt64) ⊕ (Nat → Option Nat)} (hd : decode cc pc = .ok (.arraylength, 1)) (hq : a < n) (hL : L a = .inl (c1, k, g)) (hc : c1 = lm_id E 0 ∨ c1 = lm_id E 3 ∨ c1 = lm_id E 4) (hx : Int32.ofNat k = x) (kk : G (pc + 1) lo (.int x :: r) n L bc bs) : G pc lo (.ref a :: r) n L bc bs := hG _ _ _ _ _ _ _ _ _ hd ⟨rfl, hq, by rw [hL]; exact ⟨hc, by rw [hx]; exact kk⟩⟩
theorem lg_slen (hG : lm_cl E cc Q X G) {a : UInt32} {q : Nat × (Nat → Int32)} {x : Int32} (hd : decode cc pc = .ok (.arraylength, 1)) (hs : lm_scr E = some q) (hx : Int32.ofNat q.1 = x) (kk : G (pc + 1) lo (.int x :: r) n L bc bs) : G pc lo (.float a :: r) n L bc bs := hG _ _ _ _ _ _ _ _ _ hd ⟨rfl, by dsimp only; unfold lm_at; rw [hs]; dsimp only; rw [hx]; exact kk⟩
theorem lg_callV (hG : lm_cl E cc Q X G) {st : List Value} {j k ci q mc ms : Nat} {wp : lm_S} {fs : List Value} {As : List Value} (hd : decode cc pc = .ok (.invokevirtual j, 3)) (hf : lm_cv E j = some (k, ci, wp, mc, ms)) (hs : ∀ P : List Value → List Value → Prop, P (.ref q :: As) r → lm_pop k st [] P) (hq : q < n) (hL : L q = .inr (ci, fs)) (b1 : bc + mc ≤ lm_mc E) (b2 : bs + ms ≤ lm_ms E) (hw : (r.map fun v => v.category).sum ≤ 8) (kk : wp (.ref q :: As) n L (fun rv n1 L1 => G (pc + 3) lo (rv.toList ++ r) n1 L1 (bc + mc) (bs + ms)) (fun en n1 L1 => match lm_ct E pc en with
    | some h => ∀ k : Nat, G h lo [.retAddr k] n1 L1 (bc + mc) (bs + ms)
    | none => X en n1 L1)) : G pc lo st n L bc bs := hG _ _ _ _ _ _ _ _ _ hd ⟨rfl, by unfold lm_at; rw [hf]; refine hs _ ⟨hq, ?_⟩; unfold lm_ob; rw [hL]; exact ⟨rfl, b1, b2, hw, kk⟩⟩
theorem lg_callS (hG : lm_cl E cc Q X G) {st : List Value} {j k ci mc ms : Nat} {wp : lm_S} {As : List Value} (hd : decode cc pc = .ok (.invokestatic j, 3)) (hcp : lm_cpj E ≠ some j) (hf : lm_cs E j = some (k, ci, wp, mc, ms)) (hs : ∀ P : List Value → List Value → Prop, P As r → lm_pop k st [] P) (b1 : bc + mc ≤ lm_mc E) (b2 : bs + ms ≤ lm_ms E) (hw : (r.map fun v => v.category).sum ≤ 8) (kk : wp As n L (fun rv n1 L1 => G (pc + 3) lo (rv.toList ++ r) n1 L1 (bc + mc) (bs + ms)) (fun en n1 L1 => match lm_ct E pc en with
    | some h => ∀ k : Nat, G h lo [.retAddr k] n1 L1 (bc + mc) (bs + ms)
    | none => X en n1 L1)) : G pc lo st n L bc bs := hG _ _ _ _ _ _ _ _ _ hd ⟨rfl, by rw [if_neg hcp]; unfold lm_at; rw [hf]; exact hs _ ⟨b1, b2, hw, kk⟩⟩
theorem lg_iret (hG : lm_cl E cc Q X G) {x : Int32} (hd : decode cc pc = .ok (.ireturn, 1)) (b1 : bc ≤ lm_mc E) (b2 : bs ≤ lm_ms E) (k : Q (some (.int x)) n L) : G pc lo [.int x] n L bc bs := hG _ _ _ _ _ _ _ _ _ hd ⟨rfl, b1, b2, k⟩
theorem lg_aret (hG : lm_cl E cc Q X G) {x : Nat} (hd : decode cc pc = .ok (.areturn, 1)) (b1 : bc ≤ lm_mc E) (b2 : bs ≤ lm_ms E) (k : Q (some (.ref x)) n L) : G pc lo [.ref x] n L bc bs := hG _ _ _ _ _ _ _ _ _ hd ⟨rfl, b1, b2, k⟩
theorem lg_aretN (hG : lm_cl E cc Q X G) (hd : decode cc pc = .ok (.areturn, 1)) (b1 : bc ≤ lm_mc E) (b2 : bs ≤ lm_ms E) (k : Q (some .null) n L) : G pc lo [.null] n L bc bs := hG _ _ _ _ _ _ _ _ _ hd ⟨rfl, b1, b2, k⟩
theorem lg_vret (hG : lm_cl E cc Q X G) (hd : decode cc pc = .ok (.return_, 1)) (b1 : bc ≤ lm_mc E) (b2 : bs ≤ lm_ms E) (k : Q none n L) : G pc lo [] n L bc bs := hG _ _ _ _ _ _ _ _ _ hd ⟨rfl, b1, b2, k⟩
theorem lg_throw (hG : lm_cl E cc Q X G) {j : Nat} {en : String} (hd : decode cc pc = .ok (.new j, 3)) (he : lm_thr E pc = some en) (b1 : bc + 1 ≤ lm_mc E) (b2 : bs + 6 ≤ lm_ms E) (k : X en n L) : G pc lo [] n L bc bs := hG _ _ _ _ _ _ _ _ _ hd ⟨rfl, by rw [he]; exact ⟨rfl, b1, b2, k⟩⟩
theorem lg_callI (hG : lm_cl E cc Q X G) {st : List Value} {j k ci q mc ms : Nat} {wp : lm_S} {As : List Value} (hd : decode cc pc = .ok (.invokespecial j, 3)) (hf : lm_ci E j = some (k, ci, wp, mc, ms)) (hs : ∀ P : List Value → List Value → Prop, P (.ref q :: As) r → lm_pop k st [] P) (b1 : bc + mc ≤ lm_mc E) (b2 : bs + ms ≤ lm_ms E) (hw : (r.map fun v => v.category).sum ≤ 8) (kk : wp (.ref q :: As) n L (fun rv n1 L1 => G (pc + 3) lo (rv.toList ++ r) n1 L1 (bc + mc) (bs + ms)) (fun en n1 L1 => match lm_ct E pc en with
    | some h => ∀ k : Nat, G h lo [.retAddr k] n1 L1 (bc + mc) (bs + ms)
    | none => X en n1 L1)) : G pc lo st n L bc bs := hG _ _ _ _ _ _ _ _ _ hd ⟨rfl, by unfold lm_at; rw [hf]; exact hs _ ⟨b1, b2, hw, kk⟩⟩
theorem lg_new (hG : lm_cl E cc Q X G) {j ci : Nat} {fs : List Value} (hd : decode cc pc = .ok (.new j, 3)) (ht : lm_thr E pc = none) (hf : lm_new E j = some (ci, fs)) (b1 : bc + 1 ≤ lm_mc E) (b2 : bs + fs.length ≤ lm_ms E) (k : G (pc + 3) lo (.ref n :: r) (n + 1) (va_up L n (.inr (ci, fs))) (bc + 1) (bs + fs.length)) : G pc lo (r) n L bc bs := hG _ _ _ _ _ _ _ _ _ hd ⟨rfl, by rw [ht]; show lm_at _ _; unfold lm_at; rw [hf]; exact ⟨b1, b2, k⟩⟩
theorem lg_newI (hG : lm_cl E cc Q X G) {x : Int32} {N : Nat} (hd : decode cc pc = .ok (.newarray .int, 2)) (ha : lm_alc E = true) (hN : x.toNatClampNeg = N) (h0 : ¬ x < 0) (h1 : N ≤ 2000) (b1 : bc + 1 ≤ lm_mc E) (b2 : bs + N ≤ lm_ms E) (k : G (pc + 2) lo (.ref n :: r) (n + 1) (va_up L n (.inl (lm_id E 0, N, .inl (fun _ => 0)))) (bc + 1) (bs + N)) : G pc lo (.int x :: r) n L bc bs := hG _ _ _ _ _ _ _ _ _ hd (by subst hN; exact ⟨rfl, ha, h0, h1, b1, b2, k⟩)
theorem lg_newZ (hG : lm_cl E cc Q X G) {x : Int32} {N : Nat} (hd : decode cc pc = .ok (.newarray .boolean, 2)) (ha : lm_alc E = true) (hN : x.toNatClampNeg = N) (h0 : ¬ x < 0) (h1 : N ≤ 2000) (b1 : bc + 1 ≤ lm_mc E) (b2 : bs + N ≤ lm_ms E) (k : G (pc + 2) lo (.ref n :: r) (n + 1) (va_up L n (.inl (lm_id E 1, N, .inl (fun _ => 0)))) (bc + 1) (bs + N)) : G pc lo (.int x :: r) n L bc bs := hG _ _ _ _ _ _ _ _ _ hd (by subst hN; exact ⟨rfl, ha, h0, h1, b1, b2, k⟩)
theorem lg_newJ (hG : lm_cl E cc Q X G) {x : Int32} {N : Nat} (hd : decode cc pc = .ok (.newarray .long, 2)) (ha : lm_alc E = true) (hN : x.toNatClampNeg = N) (h0 : ¬ x < 0) (h1 : N ≤ 2000) (b1 : bc + 1 ≤ lm_mc E) (b2 : bs + N ≤ lm_ms E) (k : G (pc + 2) lo (.ref n :: r) (n + 1) (va_up L n (.inl (lm_id E 2, N, .inr (.inl (fun _ => 0))))) (bc + 1) (bs + N)) : G pc lo (.int x :: r) n L bc bs := hG _ _ _ _ _ _ _ _ _ hd (by subst hN; exact ⟨rfl, ha, h0, h1, b1, b2, k⟩)
theorem lg_newA (hG : lm_cl E cc Q X G) {x : Int32} {N j ci : Nat} {fs : List Value} (hd : decode cc pc = .ok (.anewarray j, 3)) (hf : lm_new E j = some (ci, fs)) (hc : ci < 2) (hN : x.toNatClampNeg = N) (h0 : ¬ x < 0) (h1 : N ≤ 2000) (b1 : bc + 1 ≤ lm_mc E) (b2 : bs + N ≤ lm_ms E) (k : G (pc + 3) lo (.ref n :: r) (n + 1) (va_up L n (.inl (lm_id E (3 + ci), N, .inr (.inr (.inr (.inr (fun _ => none))))))) (bc + 1) (bs + N)) : G pc lo (.int x :: r) n L bc bs := hG _ _ _ _ _ _ _ _ _ hd (by subst hN; exact ⟨rfl, by unfold lm_s1; dsimp only; unfold lm_at; rw [hf]; exact ⟨hc, h0, h1, b1, b2, k⟩⟩)
theorem lg_aast0 (hG : lm_cl E cc Q X G) {i : Int32} {a v k : Nat} {f : Nat → Option Nat} {fs : List Value} (hd : decode cc pc = .ok (.aastore, 1)) (hq : a < n) (hv : v < n) (hL : L a = .inl (lm_id E 3, k, .inr (.inr (.inr (.inr f))))) (hL2 : L v = .inr (0, fs)) (hi : vp_in i k) (kk : G (pc + 1) lo r n (va_up L a (.inl (lm_id E 3, k, .inr (.inr (.inr (.inr (va_up f i.toNatClampNeg (some v)))))))) bc bs) : G pc lo (.ref v :: .int i :: .ref a :: r) n L bc bs := hG _ _ _ _ _ _ _ _ _ hd ⟨rfl, hq, hv, by unfold lm_qa; rw [hL]; exact ⟨Or.inl ⟨rfl, by unfold lm_ob; rw [hL2]; exact ⟨rfl, trivial⟩⟩, hi, kk⟩⟩
theorem lg_aast1 (hG : lm_cl E cc Q X G) {i : Int32} {a v k : Nat} {f : Nat → Option Nat} {fs : List Value} (hd : decode cc pc = .ok (.aastore, 1)) (hq : a < n) (hv : v < n) (hL : L a = .inl (lm_id E 4, k, .inr (.inr (.inr (.inr f))))) (hL2 : L v = .inr (1, fs)) (hi : vp_in i k) (kk : G (pc + 1) lo r n (va_up L a (.inl (lm_id E 4, k, .inr (.inr (.inr (.inr (va_up f i.toNatClampNeg (some v)))))))) bc bs) : G pc lo (.ref v :: .int i :: .ref a :: r) n L bc bs := hG _ _ _ _ _ _ _ _ _ hd ⟨rfl, hq, hv, by unfold lm_qa; rw [hL]; exact ⟨Or.inr ⟨rfl, by unfold lm_ob; rw [hL2]; exact ⟨rfl, trivial⟩⟩, hi, kk⟩⟩
theorem lg_copy (hG : lm_cl E cc Q X G) {x dp sp : Int32} {j a N : Nat} {f : Nat → Int32} (hd : decode cc pc = .ok (.invokestatic j, 3)) (hcp : lm_cpj E = some j) (hq : a < n) (hw : (r.map fun v => v.category).sum ≤ 8) (hL : L a = .inl (lm_id E 0, N, .inl f)) (h1 : ¬ sp < 0) (h2 : ¬ dp < 0) (h3 : ¬ x < 0) (h4 : sp.toNatClampNeg + x.toNatClampNeg ≤ N) (h5 : dp.toNatClampNeg + x.toNatClampNeg ≤ N) (k : G (pc + 3) lo r n (va_up L a (.inl (lm_id E 0, N, .inl (va_cpy f f sp.toNatClampNeg dp.toNatClampNeg x.toNatClampNeg)))) bc bs) : G pc lo (.int x :: .int dp :: .ref a :: .int sp :: .ref a :: r) n L bc bs := hG _ _ _ _ _ _ _ _ _ hd ⟨rfl, by rw [if_pos hcp]; exact ⟨rfl, hq, hw, by unfold lm_ia; rw [hL]; exact ⟨rfl, h1, h2, h3, h4, h5, k⟩⟩⟩
end LMR
theorem lm_aok0 (l : Launch) (D : va_G) (ids : Nat → ClassId) (B b : Nat) (ex : Bool) (own : String) (R : Room) : lm_aok l D ids B b ex own R (fun _ => none) (fun _ => none) none false := ⟨(fun _ h => by cases h), (fun _ _ h => by cases h), (fun h => by cases h), (fun _ _ h => by cases h)⟩
end
section
/-- a Queue's object: v by the number of the field -/
def qo (w c : Nat) (v : Nat → Int32) : va_E := .inr (0, [.ref w, .ref c, .int (v 2), .int (v 3), .int (v 4), .int (v 5), .int (v 6), .int (v 7), .int (v 8), .int (v 9), .int (v 10), .int (v 11), .int (v 12), .int (v 13), .int (v 14)])
abbrev ia (c : ClassId) (k : Nat) (f : Nat → Int32) : va_E := .inl (c, k, .inl f)
/-- a Queue at the place q: its object and its two rows -/
def QH (ids : Nat → ClassId) (n : Nat) (L : lm_L) (q w c : Nat) (v W C : Nat → Int32) (a : Nat) : Prop := q < n ∧ w < n ∧ c < n ∧ q ≠ w ∧ q ≠ c ∧ w ≠ c ∧ L q = qo w c v ∧ L w = ia (ids 0) 96 W ∧ L c = ia (ids 0) 96 C ∧ v 2 = nI a ∧ a < 96
theorem va_up_id {α : Type} {f : Nat → α} {k : Nat} {v : α} (h : f k = v) : va_up f k v = f := by
  funext j
  by_cases hj : j = k
  · subst hj; rw [va_up_self, h]
  · rw [va_up_ne _ _ hj]
theorem fm_xor (a b : Nat) : nI a ^^^ nI b = nI (a ^^^ b) := by
  apply Int32.toBitVec_inj.1
  show BitVec.ofNat 32 a ^^^ BitVec.ofNat 32 b = BitVec.ofNat 32 (a ^^^ b)
  apply BitVec.eq_of_getLsbD_eq
  intro i hi
  simp [hi]
theorem fm_nn {a : Nat} (h : a < 2 ^ 30) : ¬ (nI a ^^^ 96 < 0) := by
  rw [show (96 : Int32) = nI 96 from rfl, fm_xor]
  exact nI_pos (Nat.lt_of_lt_of_le (Nat.xor_lt_two_pow h (by decide : (96 : Nat) < 2 ^ 30)) (by decide))
def lkv (t : Bool) (d u p : Nat) : Nat := (p - (if t then d else d + u) + (u - 1)) / u
theorem lk_le {p d : Nat} (hp : p < 2 ^ 30) (hd : d < 2 ^ 30) : nI p - nI d ≤ 0 ↔ p ≤ d := by
  rw [Int32.le_iff_toInt_le, pk_sub_toInt hp hd, Int32.toInt_zero]
  omega
theorem lk_val {p d u : Nat} (hp : p < 2 ^ 29) (h : d < p) (hu : 0 < u) (hu2 : u < 2 ^ 29) : (nI p - nI d + nI u - 1) / nI u = nI ((p - d + (u - 1)) / u) := by
  rw [pk_sub (Nat.le_of_lt h), nI_add, show (1 : Int32) = nI 1 from rfl, pk_sub (by omega), pk_div (by omega) hu (by omega)]
  congr 2
  omega
theorem lk_pos {u : Nat} (h : 0 < u) (h2 : u < 2 ^ 31) : ¬ nI u ≤ 0 := nI_nle h h2
def rm_X0_excess : Room := { frames := 0, cells := 0, slots := 0, locals := 0 }
theorem ld_X0_excess : yX0_excess.cls ≠ "java/lang/invoke/MethodHandle" ∧ yX0_excess.cls ≠ "java/lang/invoke/VarHandle" ∧ (parseMethodDescriptor yX0_excess.desc).map (fun d => d.parameters.length) = some 0 := by decide +kernel
def sp_X0_excess (ids : Nat → ClassId) : lm_S := fun As n L post _ => ∃ q w c v, As = [.ref q] ∧ q < n ∧ L q = qo w c v ∧ post (some (.int (v 3 - v 8))) n L
set_option maxHeartbeats 4000000 in
set_option maxRecDepth 20000 in
theorem ok_X0_excess (l : Launch) (D : va_G) (ids : Nat → ClassId) (B b : Nat) : lm_M l D (lm_ty ids) B b false yX0_excess cX0_excess 1 (some .int) rm_X0_excess 0 0 (sp_X0_excess ids) := by
  refine lm_method (own := RX0) (fld := lf_0) (cv := (fun _ => none)) (cs := (fun _ => none)) (ci := (fun _ => none)) (kon := (fun _ => none)) (thr := (fun _ => none)) (nw := (fun _ => none)) (ini := false) (cp := none) (alc := false) (by decide +kernel) rfl rfl rfl (lf_0_ok _) ⟨?_, ?_⟩ ?_ (fun h => by cases h) (lm_aok0 _ _ _ _ _ _ _ _) ?_ ?_
  · intro j f hf
    cases hf
  · intro j f hf
    cases hf
  · intro j v hv; cases hv
  · exact Or.inl fun _ => rfl
  rintro As n L post postX ⟨q, w, c, v, rfl, hq, hL, hp⟩
  refine ⟨by simp [Value.category], (Nat.le_of_ble_eq_true rfl), lm_cl_of ?_⟩
  intro G hG
  refine lg_aload_n hG dX0_excess_0 rfl ?_
  refine lg_get hG dX0_excess_1 rfl (by first | assumption | omega) (by first | assumption | exact va_up_self _ _ _ | (rw [va_up_ne _ _ (by first | assumption | omega)]; first | assumption | exact va_up_self _ _ _ | (rw [va_up_ne _ _ (by first | assumption | omega)]; first | assumption | exact va_up_self _ _ _ | (rw [va_up_ne _ _ (by first | assumption | omega)]; first | assumption | exact va_up_self _ _ _ | (rw [va_up_ne _ _ (by first | assumption | omega)]; first | assumption | exact va_up_self _ _ _))))) (by rfl) ?_
  refine lg_aload_n hG dX0_excess_4 rfl ?_
  refine lg_get hG dX0_excess_5 rfl (by first | assumption | omega) (by first | assumption | exact va_up_self _ _ _ | (rw [va_up_ne _ _ (by first | assumption | omega)]; first | assumption | exact va_up_self _ _ _ | (rw [va_up_ne _ _ (by first | assumption | omega)]; first | assumption | exact va_up_self _ _ _ | (rw [va_up_ne _ _ (by first | assumption | omega)]; first | assumption | exact va_up_self _ _ _ | (rw [va_up_ne _ _ (by first | assumption | omega)]; first | assumption | exact va_up_self _ _ _))))) (by rfl) ?_
  refine lg_isub hG dX0_excess_8 rfl ?_
  refine lg_iret hG dX0_excess_9 (Nat.le_of_ble_eq_true rfl) (Nat.le_of_ble_eq_true rfl) ?_
  exact ⟨trivial, hp⟩

def rm_J9_floorMod : Room := { frames := 0, cells := 0, slots := 0, locals := 0 }
theorem ld_J9_floorMod : yJ9_floorMod_7cf53.cls ≠ "java/lang/invoke/MethodHandle" ∧ yJ9_floorMod_7cf53.cls ≠ "java/lang/invoke/VarHandle" ∧ (parseMethodDescriptor yJ9_floorMod_7cf53.desc).map (fun d => d.parameters.length) = some 2 := by decide +kernel
def sp_J9_floorMod (ids : Nat → ClassId) : lm_S := fun As n L post _ => ∃ x : Nat, x < 2 ^ 30 ∧ As = [.int (nI x), .int 96] ∧ post (some (.int (nI (x % 96)))) n L
set_option maxHeartbeats 4000000 in
set_option maxRecDepth 20000 in
theorem ok_J9_floorMod (l : Launch) (D : va_G) (ids : Nat → ClassId) (B b : Nat) : lm_M l D (lm_ty ids) B b false yJ9_floorMod_7cf53 cJ9_floorMod_7cf53 3 (some .int) rm_J9_floorMod 0 0 (sp_J9_floorMod ids) := by
  refine lm_method (own := RJ9) (fld := (fun _ => none)) (cv := (fun _ => none)) (cs := (fun _ => none)) (ci := (fun _ => none)) (kon := (fun _ => none)) (thr := (fun _ => none)) (nw := (fun _ => none)) (ini := false) (cp := none) (alc := false) (by decide +kernel) rfl rfl rfl (fun _ _ _ _ _ _ _ _ _ h => by cases h) ⟨?_, ?_⟩ ?_ (fun h => by cases h) (lm_aok0 _ _ _ _ _ _ _ _) ?_ ?_
  · intro j f hf
    cases hf
  · intro j f hf
    cases hf
  · intro j v hv; cases hv
  · exact Or.inl fun _ => rfl
  rintro As n L post postX ⟨x, hx, rfl, hp⟩
  refine ⟨by simp [Value.category], (Nat.le_of_ble_eq_true rfl), lm_cl_of ?_⟩
  intro G hG
  refine lg_iload_n hG dJ9_floorMod_7cf53_0 rfl ?_
  refine lg_iload_n hG dJ9_floorMod_7cf53_1 rfl ?_
  refine lg_irem hG dJ9_floorMod_7cf53_2 (by decide) (pk_rem (d := 96) (by omega) (by decide) (by decide)) ?_
  refine lg_istore_n hG dJ9_floorMod_7cf53_3 (Nat.le_of_ble_eq_true rfl) rfl ?_
  refine lg_iload_n hG dJ9_floorMod_7cf53_4 rfl ?_
  refine lg_iload_n hG dJ9_floorMod_7cf53_5 rfl ?_
  refine lg_ixor hG dJ9_floorMod_7cf53_6 rfl ?_
  refine lg_if_ge hG dJ9_floorMod_7cf53_7 (tgt := 18) (by decide) (by decide) (fun h_7 => ?_) (fun h_7 => ?_)
  · skip
    refine lg_iload_n hG dJ9_floorMod_7cf53_18 rfl ?_
    refine lg_iret hG dJ9_floorMod_7cf53_19 (Nat.le_of_ble_eq_true rfl) (Nat.le_of_ble_eq_true rfl) ?_
    exact ⟨trivial, hp⟩
  · skip
    exact (fm_nn hx h_7).elim --END

def rm_X0_cellOf : Room := { frames := 1, cells := 0, slots := 0, locals := 22 }
theorem ld_X0_cellOf : yX0_cellOf.cls ≠ "java/lang/invoke/MethodHandle" ∧ yX0_cellOf.cls ≠ "java/lang/invoke/VarHandle" ∧ (parseMethodDescriptor yX0_cellOf.desc).map (fun d => d.parameters.length) = some 1 := by decide +kernel
def sp_X0_cellOf (ids : Nat → ClassId) : lm_S := fun As n L post _ => ∃ q w c v a k, As = [.ref q, .int (nI k)] ∧ q < n ∧ L q = qo w c v ∧ v 2 = nI a ∧ a + k < 2 ^ 30 ∧ post (some (.int (nI ((a + k) % 96)))) n L
def cs_X0_cellOf (ids : Nat → ClassId) : Nat → Option lm_C := fun j => match j with
  | 55 => some (2, 0, sp_J9_floorMod ids, 0, 0)
  | _ => none
set_option maxHeartbeats 4000000 in
set_option maxRecDepth 20000 in
theorem ok_X0_cellOf (l : Launch) (D : va_G) (ids : Nat → ClassId) (B b : Nat) : lm_M l D (lm_ty ids) B b false yX0_cellOf cX0_cellOf 2 (some .int) rm_X0_cellOf 0 0 (sp_X0_cellOf ids) := by
  refine lm_method (own := RX0) (fld := lf_0) (cv := (fun _ => none)) (cs := (cs_X0_cellOf ids)) (ci := (fun _ => none)) (kon := (fun _ => none)) (thr := (fun _ => none)) (nw := (fun _ => none)) (ini := false) (cp := none) (alc := false) (by decide +kernel) rfl rfl rfl (lf_0_ok _) ⟨?_, ?_⟩ ?_ (fun h => by cases h) (lm_aok0 _ _ _ _ _ _ _ _) ?_ ?_
  · intro j f hf
    cases hf
  · intro j f hf
    unfold cs_X0_cellOf at hf
    split at hf
    · cases hf; exact ⟨yJ9_floorMod_7cf53, cJ9_floorMod_7cf53, 3, (some .int), rm_J9_floorMod, ok_J9_floorMod l D ids B b, lw_9_floorMod, ll_0_55, rfl, rfl, ld_J9_floorMod, by decide⟩
    · cases hf
  · intro j v hv; cases hv
  · exact Or.inl fun _ => rfl
  rintro As n L post postX ⟨q, w, c, v, a, k, rfl, hq, hL, hv, hk, hp⟩
  refine ⟨by simp [Value.category], (Nat.le_of_ble_eq_true rfl), lm_cl_of ?_⟩
  intro G hG
  refine lg_aload_n hG dX0_cellOf_0 rfl ?_
  refine lg_get hG dX0_cellOf_1 rfl (by first | assumption | omega) (by first | assumption | exact va_up_self _ _ _ | (rw [va_up_ne _ _ (by first | assumption | omega)]; first | assumption | exact va_up_self _ _ _ | (rw [va_up_ne _ _ (by first | assumption | omega)]; first | assumption | exact va_up_self _ _ _ | (rw [va_up_ne _ _ (by first | assumption | omega)]; first | assumption | exact va_up_self _ _ _ | (rw [va_up_ne _ _ (by first | assumption | omega)]; first | assumption | exact va_up_self _ _ _))))) (by rfl) ?_
  refine lg_iload_n hG dX0_cellOf_4 rfl ?_
  refine lg_iadd hG dX0_cellOf_5 (show v 2 + nI k = nI (a + k) by rw [hv]; exact nI_add a k) ?_
  refine lg_bipush hG dX0_cellOf_6 (x := (96)) (by decide) ?_
  refine lg_callS hG dX0_cellOf_8 (by simp) rfl (fun P h => h) (Nat.le_of_ble_eq_true rfl) (Nat.le_of_ble_eq_true rfl) (Nat.le_of_ble_eq_true rfl) ?_
  refine ⟨a + k, hk, rfl, ?_⟩
  refine lg_iret hG dX0_cellOf_11 (Nat.le_of_ble_eq_true rfl) (Nat.le_of_ble_eq_true rfl) ?_
  exact ⟨trivial, hp⟩

def rm_X0_wordAt : Room := { frames := 2, cells := 0, slots := 0, locals := 43 }
theorem ld_X0_wordAt : yX0_wordAt.cls ≠ "java/lang/invoke/MethodHandle" ∧ yX0_wordAt.cls ≠ "java/lang/invoke/VarHandle" ∧ (parseMethodDescriptor yX0_wordAt.desc).map (fun d => d.parameters.length) = some 1 := by decide +kernel
def sp_X0_wordAt (ids : Nat → ClassId) : lm_S := fun As n L post _ => ∃ q w c v W C a k, As = [.ref q, .int (nI k)] ∧ QH ids n L q w c v W C a ∧ k < 2 ^ 20 ∧ post (some (.int (W ((a + k) % 96)))) n L
def cv_X0_wordAt (ids : Nat → ClassId) : Nat → Option lm_C := fun j => match j with
  | 31 => some (2, 0, sp_X0_cellOf ids, 0, 0)
  | _ => none
set_option maxHeartbeats 4000000 in
set_option maxRecDepth 20000 in
theorem ok_X0_wordAt (l : Launch) (D : va_G) (ids : Nat → ClassId) (B b : Nat) : lm_M l D (lm_ty ids) B b false yX0_wordAt cX0_wordAt 2 (some .int) rm_X0_wordAt 0 0 (sp_X0_wordAt ids) := by
  refine lm_method (own := RX0) (fld := lf_0) (cv := (cv_X0_wordAt ids)) (cs := (fun _ => none)) (ci := (fun _ => none)) (kon := (fun _ => none)) (thr := (fun _ => none)) (nw := (fun _ => none)) (ini := false) (cp := none) (alc := false) (by decide +kernel) rfl rfl rfl (lf_0_ok _) ⟨?_, ?_⟩ ?_ (fun h => by cases h) (lm_aok0 _ _ _ _ _ _ _ _) ?_ ?_
  · intro j f hf
    unfold cv_X0_wordAt at hf
    split at hf
    · cases hf; exact ⟨yX0_cellOf, cX0_cellOf, 2, (some .int), rm_X0_cellOf, RX0, TX0, 15, 1, rfl, rfl, ok_X0_cellOf l D ids B b, lw_0_cellOf, ll_0_31, rfl, rfl, ⟨rfl, ld_X0_cellOf⟩, by decide⟩
    · cases hf
  · intro j f hf
    cases hf
  · intro j v hv; cases hv
  · exact Or.inl fun _ => rfl
  rintro As n L post postX ⟨q, w, c, v, W, C, a, k, rfl, ⟨hq, hw, hc, hqw, hqc, hwc, hL, hLw, hLc, hv, ha⟩, hk, hp⟩
  refine ⟨by simp [Value.category], (Nat.le_of_ble_eq_true rfl), lm_cl_of ?_⟩
  intro G hG
  refine lg_aload_n hG dX0_wordAt_0 rfl ?_
  refine lg_get hG dX0_wordAt_1 rfl (by first | assumption | omega) (by first | assumption | exact va_up_self _ _ _ | (rw [va_up_ne _ _ (by first | assumption | omega)]; first | assumption | exact va_up_self _ _ _ | (rw [va_up_ne _ _ (by first | assumption | omega)]; first | assumption | exact va_up_self _ _ _ | (rw [va_up_ne _ _ (by first | assumption | omega)]; first | assumption | exact va_up_self _ _ _ | (rw [va_up_ne _ _ (by first | assumption | omega)]; first | assumption | exact va_up_self _ _ _))))) (by rfl) ?_
  refine lg_aload_n hG dX0_wordAt_4 rfl ?_
  refine lg_iload_n hG dX0_wordAt_5 rfl ?_
  refine lg_callV hG dX0_wordAt_6 rfl (fun P h => h) (by first | assumption | omega) (by first | assumption | exact va_up_self _ _ _ | (rw [va_up_ne _ _ (by first | assumption | omega)]; first | assumption | exact va_up_self _ _ _ | (rw [va_up_ne _ _ (by first | assumption | omega)]; first | assumption | exact va_up_self _ _ _ | (rw [va_up_ne _ _ (by first | assumption | omega)]; first | assumption | exact va_up_self _ _ _ | (rw [va_up_ne _ _ (by first | assumption | omega)]; first | assumption | exact va_up_self _ _ _))))) (Nat.le_of_ble_eq_true rfl) (Nat.le_of_ble_eq_true rfl) (Nat.le_of_ble_eq_true rfl) ?_
  refine ⟨q, w, c, v, a, k, rfl, hq, hL, hv, by omega, ?_⟩
  refine lg_iald hG dX0_wordAt_9 (by first | assumption | omega) (by first | assumption | exact va_up_self _ _ _ | (rw [va_up_ne _ _ (by first | assumption | omega)]; first | assumption | exact va_up_self _ _ _ | (rw [va_up_ne _ _ (by first | assumption | omega)]; first | assumption | exact va_up_self _ _ _ | (rw [va_up_ne _ _ (by first | assumption | omega)]; first | assumption | exact va_up_self _ _ _ | (rw [va_up_ne _ _ (by first | assumption | omega)]; first | assumption | exact va_up_self _ _ _))))) (vp_in_nI (by omega) (by decide)) ?_
  rw [nI_clamp (by omega)]
  refine lg_iret hG dX0_wordAt_10 (Nat.le_of_ble_eq_true rfl) (Nat.le_of_ble_eq_true rfl) ?_
  exact ⟨trivial, hp⟩

def rm_X0_costAt : Room := { frames := 2, cells := 0, slots := 0, locals := 43 }
theorem ld_X0_costAt : yX0_costAt.cls ≠ "java/lang/invoke/MethodHandle" ∧ yX0_costAt.cls ≠ "java/lang/invoke/VarHandle" ∧ (parseMethodDescriptor yX0_costAt.desc).map (fun d => d.parameters.length) = some 1 := by decide +kernel
def sp_X0_costAt (ids : Nat → ClassId) : lm_S := fun As n L post _ => ∃ q w c v W C a k, As = [.ref q, .int (nI k)] ∧ QH ids n L q w c v W C a ∧ k < 2 ^ 20 ∧ post (some (.int (C ((a + k) % 96)))) n L
def cv_X0_costAt (ids : Nat → ClassId) : Nat → Option lm_C := fun j => match j with
  | 31 => some (2, 0, sp_X0_cellOf ids, 0, 0)
  | _ => none
set_option maxHeartbeats 4000000 in
set_option maxRecDepth 20000 in
theorem ok_X0_costAt (l : Launch) (D : va_G) (ids : Nat → ClassId) (B b : Nat) : lm_M l D (lm_ty ids) B b false yX0_costAt cX0_costAt 2 (some .int) rm_X0_costAt 0 0 (sp_X0_costAt ids) := by
  refine lm_method (own := RX0) (fld := lf_0) (cv := (cv_X0_costAt ids)) (cs := (fun _ => none)) (ci := (fun _ => none)) (kon := (fun _ => none)) (thr := (fun _ => none)) (nw := (fun _ => none)) (ini := false) (cp := none) (alc := false) (by decide +kernel) rfl rfl rfl (lf_0_ok _) ⟨?_, ?_⟩ ?_ (fun h => by cases h) (lm_aok0 _ _ _ _ _ _ _ _) ?_ ?_
  · intro j f hf
    unfold cv_X0_costAt at hf
    split at hf
    · cases hf; exact ⟨yX0_cellOf, cX0_cellOf, 2, (some .int), rm_X0_cellOf, RX0, TX0, 15, 1, rfl, rfl, ok_X0_cellOf l D ids B b, lw_0_cellOf, ll_0_31, rfl, rfl, ⟨rfl, ld_X0_cellOf⟩, by decide⟩
    · cases hf
  · intro j f hf
    cases hf
  · intro j v hv; cases hv
  · exact Or.inl fun _ => rfl
  rintro As n L post postX ⟨q, w, c, v, W, C, a, k, rfl, ⟨hq, hw, hc, hqw, hqc, hwc, hL, hLw, hLc, hv, ha⟩, hk, hp⟩
  refine ⟨by simp [Value.category], (Nat.le_of_ble_eq_true rfl), lm_cl_of ?_⟩
  intro G hG
  refine lg_aload_n hG dX0_costAt_0 rfl ?_
  refine lg_get hG dX0_costAt_1 rfl (by first | assumption | omega) (by first | assumption | exact va_up_self _ _ _ | (rw [va_up_ne _ _ (by first | assumption | omega)]; first | assumption | exact va_up_self _ _ _ | (rw [va_up_ne _ _ (by first | assumption | omega)]; first | assumption | exact va_up_self _ _ _ | (rw [va_up_ne _ _ (by first | assumption | omega)]; first | assumption | exact va_up_self _ _ _ | (rw [va_up_ne _ _ (by first | assumption | omega)]; first | assumption | exact va_up_self _ _ _))))) (by rfl) ?_
  refine lg_aload_n hG dX0_costAt_4 rfl ?_
  refine lg_iload_n hG dX0_costAt_5 rfl ?_
  refine lg_callV hG dX0_costAt_6 rfl (fun P h => h) (by first | assumption | omega) (by first | assumption | exact va_up_self _ _ _ | (rw [va_up_ne _ _ (by first | assumption | omega)]; first | assumption | exact va_up_self _ _ _ | (rw [va_up_ne _ _ (by first | assumption | omega)]; first | assumption | exact va_up_self _ _ _ | (rw [va_up_ne _ _ (by first | assumption | omega)]; first | assumption | exact va_up_self _ _ _ | (rw [va_up_ne _ _ (by first | assumption | omega)]; first | assumption | exact va_up_self _ _ _))))) (Nat.le_of_ble_eq_true rfl) (Nat.le_of_ble_eq_true rfl) (Nat.le_of_ble_eq_true rfl) ?_
  refine ⟨q, w, c, v, a, k, rfl, hq, hL, hv, by omega, ?_⟩
  refine lg_iald hG dX0_costAt_9 (by first | assumption | omega) (by first | assumption | exact va_up_self _ _ _ | (rw [va_up_ne _ _ (by first | assumption | omega)]; first | assumption | exact va_up_self _ _ _ | (rw [va_up_ne _ _ (by first | assumption | omega)]; first | assumption | exact va_up_self _ _ _ | (rw [va_up_ne _ _ (by first | assumption | omega)]; first | assumption | exact va_up_self _ _ _ | (rw [va_up_ne _ _ (by first | assumption | omega)]; first | assumption | exact va_up_self _ _ _))))) (vp_in_nI (by omega) (by decide)) ?_
  rw [nI_clamp (by omega)]
  refine lg_iret hG dX0_costAt_10 (Nat.le_of_ble_eq_true rfl) (Nat.le_of_ble_eq_true rfl) ?_
  exact ⟨trivial, hp⟩

def rm_X0_firstCost : Room := { frames := 3, cells := 0, slots := 0, locals := 64 }
theorem ld_X0_firstCost : yX0_firstCost.cls ≠ "java/lang/invoke/MethodHandle" ∧ yX0_firstCost.cls ≠ "java/lang/invoke/VarHandle" ∧ (parseMethodDescriptor yX0_firstCost.desc).map (fun d => d.parameters.length) = some 0 := by decide +kernel
def sp_X0_firstCost (ids : Nat → ClassId) : lm_S := fun As n L post _ => ∃ q w c v W C a, As = [.ref q] ∧ QH ids n L q w c v W C a ∧ post (some (.int (C a))) n L
def cv_X0_firstCost (ids : Nat → ClassId) : Nat → Option lm_C := fun j => match j with
  | 35 => some (2, 0, sp_X0_costAt ids, 0, 0)
  | _ => none
set_option maxHeartbeats 4000000 in
set_option maxRecDepth 20000 in
theorem ok_X0_firstCost (l : Launch) (D : va_G) (ids : Nat → ClassId) (B b : Nat) : lm_M l D (lm_ty ids) B b false yX0_firstCost cX0_firstCost 1 (some .int) rm_X0_firstCost 0 0 (sp_X0_firstCost ids) := by
  refine lm_method (own := RX0) (fld := lf_0) (cv := (cv_X0_firstCost ids)) (cs := (fun _ => none)) (ci := (fun _ => none)) (kon := (fun _ => none)) (thr := (fun _ => none)) (nw := (fun _ => none)) (ini := false) (cp := none) (alc := false) (by decide +kernel) rfl rfl rfl (lf_0_ok _) ⟨?_, ?_⟩ ?_ (fun h => by cases h) (lm_aok0 _ _ _ _ _ _ _ _) ?_ ?_
  · intro j f hf
    unfold cv_X0_firstCost at hf
    split at hf
    · cases hf; exact ⟨yX0_costAt, cX0_costAt, 2, (some .int), rm_X0_costAt, RX0, TX0, 15, 1, rfl, rfl, ok_X0_costAt l D ids B b, lw_0_costAt, ll_0_35, rfl, rfl, ⟨rfl, ld_X0_costAt⟩, by decide⟩
    · cases hf
  · intro j f hf
    cases hf
  · intro j v hv; cases hv
  · exact Or.inl fun _ => rfl
  rintro As n L post postX ⟨q, w, c, v, W, C, a, rfl, Q, hp⟩
  refine ⟨by simp [Value.category], (Nat.le_of_ble_eq_true rfl), lm_cl_of ?_⟩
  intro G hG
  have Q9 := Q
  obtain ⟨hq, hw, hc, hqw, hqc, hwc, hL, hLw, hLc, hv, ha⟩ := Q
  refine lg_aload_n hG dX0_firstCost_0 rfl ?_
  refine lg_iconst hG dX0_firstCost_1 (x := 0) (by decide) ?_
  refine lg_callV hG dX0_firstCost_2 rfl (fun P h => h) (by first | assumption | omega) (by first | assumption | exact va_up_self _ _ _ | (rw [va_up_ne _ _ (by first | assumption | omega)]; first | assumption | exact va_up_self _ _ _ | (rw [va_up_ne _ _ (by first | assumption | omega)]; first | assumption | exact va_up_self _ _ _ | (rw [va_up_ne _ _ (by first | assumption | omega)]; first | assumption | exact va_up_self _ _ _ | (rw [va_up_ne _ _ (by first | assumption | omega)]; first | assumption | exact va_up_self _ _ _))))) (Nat.le_of_ble_eq_true rfl) (Nat.le_of_ble_eq_true rfl) (Nat.le_of_ble_eq_true rfl) ?_
  refine ⟨q, w, c, v, W, C, a, 0, rfl, Q9, by decide, ?_⟩
  rw [show (a + 0) % 96 = a by omega]
  refine lg_iret hG dX0_firstCost_5 (Nat.le_of_ble_eq_true rfl) (Nat.le_of_ble_eq_true rfl) ?_
  exact ⟨trivial, hp⟩

def rm_X0_putLast : Room := { frames := 2, cells := 0, slots := 0, locals := 43 }
theorem ld_X0_putLast : yX0_putLast.cls ≠ "java/lang/invoke/MethodHandle" ∧ yX0_putLast.cls ≠ "java/lang/invoke/VarHandle" ∧ (parseMethodDescriptor yX0_putLast.desc).map (fun d => d.parameters.length) = some 2 := by decide +kernel
def sp_X0_putLast (ids : Nat → ClassId) : lm_S := fun As n L post _ => ∃ q w c v W C a m word cost, As = [.ref q, .int word, .int cost] ∧ QH ids n L q w c v W C a ∧ v 3 = nI m ∧ m < 2 ^ 20 ∧ post none n (va_up (va_up (va_up L w (ia (ids 0) 96 (upd W ((a + m) % 96) word))) c (ia (ids 0) 96 (upd C ((a + m) % 96) cost))) q (qo w c (upd (upd v 4 (v 4 + cost)) 3 (v 3 + 1))))
def cv_X0_putLast (ids : Nat → ClassId) : Nat → Option lm_C := fun j => match j with
  | 31 => some (2, 0, sp_X0_cellOf ids, 0, 0)
  | _ => none
set_option maxHeartbeats 4000000 in
set_option maxRecDepth 20000 in
theorem ok_X0_putLast (l : Launch) (D : va_G) (ids : Nat → ClassId) (B b : Nat) : lm_M l D (lm_ty ids) B b false yX0_putLast cX0_putLast 4 none rm_X0_putLast 0 0 (sp_X0_putLast ids) := by
  refine lm_method (own := RX0) (fld := lf_0) (cv := (cv_X0_putLast ids)) (cs := (fun _ => none)) (ci := (fun _ => none)) (kon := (fun _ => none)) (thr := (fun _ => none)) (nw := (fun _ => none)) (ini := false) (cp := none) (alc := false) (by decide +kernel) rfl rfl rfl (lf_0_ok _) ⟨?_, ?_⟩ ?_ (fun h => by cases h) (lm_aok0 _ _ _ _ _ _ _ _) ?_ ?_
  · intro j f hf
    unfold cv_X0_putLast at hf
    split at hf
    · cases hf; exact ⟨yX0_cellOf, cX0_cellOf, 2, (some .int), rm_X0_cellOf, RX0, TX0, 15, 1, rfl, rfl, ok_X0_cellOf l D ids B b, lw_0_cellOf, ll_0_31, rfl, rfl, ⟨rfl, ld_X0_cellOf⟩, by decide⟩
    · cases hf
  · intro j f hf
    cases hf
  · intro j v hv; cases hv
  · exact Or.inl fun _ => rfl
  rintro As n L post postX ⟨q, w, c, v, W, C, a, m, word, cost, rfl, Q, hm, hm2, hp⟩
  refine ⟨by simp [Value.category], (Nat.le_of_ble_eq_true rfl), lm_cl_of ?_⟩
  intro G hG
  have Q9 := Q
  obtain ⟨hq, hw, hc, hqw, hqc, hwc, hL, hLw, hLc, hv, ha⟩ := Q
  have hcl : (nI ((a + m) % 96)).toNatClampNeg = (a + m) % 96 := nI_clamp (by omega)
  have hin : vp_in (nI ((a + m) % 96)) 96 := vp_in_nI (by omega) (by decide)
  have hwq := hqw.symm
  have hcq := hqc.symm
  have hcw := hwc.symm
  refine lg_aload_n hG dX0_putLast_0 rfl ?_
  refine lg_aload_n hG dX0_putLast_1 rfl ?_
  refine lg_get hG dX0_putLast_2 rfl (by first | assumption | omega) (by first | assumption | exact va_up_self _ _ _ | (rw [va_up_ne _ _ (by first | assumption | omega)]; first | assumption | exact va_up_self _ _ _ | (rw [va_up_ne _ _ (by first | assumption | omega)]; first | assumption | exact va_up_self _ _ _ | (rw [va_up_ne _ _ (by first | assumption | omega)]; first | assumption | exact va_up_self _ _ _ | (rw [va_up_ne _ _ (by first | assumption | omega)]; first | assumption | exact va_up_self _ _ _))))) (by rfl) ?_
  refine lg_callV hG dX0_putLast_5 rfl (fun P h => h) (by first | assumption | omega) (by first | assumption | exact va_up_self _ _ _ | (rw [va_up_ne _ _ (by first | assumption | omega)]; first | assumption | exact va_up_self _ _ _ | (rw [va_up_ne _ _ (by first | assumption | omega)]; first | assumption | exact va_up_self _ _ _ | (rw [va_up_ne _ _ (by first | assumption | omega)]; first | assumption | exact va_up_self _ _ _ | (rw [va_up_ne _ _ (by first | assumption | omega)]; first | assumption | exact va_up_self _ _ _))))) (Nat.le_of_ble_eq_true rfl) (Nat.le_of_ble_eq_true rfl) (Nat.le_of_ble_eq_true rfl) ?_
  refine ⟨q, w, c, v, a, m, by rw [hm], hq, hL, hv, by omega, ?_⟩
  refine lg_istore_n hG dX0_putLast_8 (Nat.le_of_ble_eq_true rfl) rfl ?_
  refine lg_aload_n hG dX0_putLast_9 rfl ?_
  refine lg_get hG dX0_putLast_10 rfl (by first | assumption | omega) (by first | assumption | exact va_up_self _ _ _ | (rw [va_up_ne _ _ (by first | assumption | omega)]; first | assumption | exact va_up_self _ _ _ | (rw [va_up_ne _ _ (by first | assumption | omega)]; first | assumption | exact va_up_self _ _ _ | (rw [va_up_ne _ _ (by first | assumption | omega)]; first | assumption | exact va_up_self _ _ _ | (rw [va_up_ne _ _ (by first | assumption | omega)]; first | assumption | exact va_up_self _ _ _))))) (by rfl) ?_
  refine lg_iload_n hG dX0_putLast_13 rfl ?_
  refine lg_iload_n hG dX0_putLast_14 rfl ?_
  refine lg_iast hG dX0_putLast_15 (by first | assumption | omega) (by first | assumption | exact va_up_self _ _ _ | (rw [va_up_ne _ _ (by first | assumption | omega)]; first | assumption | exact va_up_self _ _ _ | (rw [va_up_ne _ _ (by first | assumption | omega)]; first | assumption | exact va_up_self _ _ _ | (rw [va_up_ne _ _ (by first | assumption | omega)]; first | assumption | exact va_up_self _ _ _ | (rw [va_up_ne _ _ (by first | assumption | omega)]; first | assumption | exact va_up_self _ _ _))))) hin ?_
  rw [hcl]
  refine lg_aload_n hG dX0_putLast_16 rfl ?_
  refine lg_get hG dX0_putLast_17 rfl (by first | assumption | omega) (by first | assumption | exact va_up_self _ _ _ | (rw [va_up_ne _ _ (by first | assumption | omega)]; first | assumption | exact va_up_self _ _ _ | (rw [va_up_ne _ _ (by first | assumption | omega)]; first | assumption | exact va_up_self _ _ _ | (rw [va_up_ne _ _ (by first | assumption | omega)]; first | assumption | exact va_up_self _ _ _ | (rw [va_up_ne _ _ (by first | assumption | omega)]; first | assumption | exact va_up_self _ _ _))))) (by rfl) ?_
  refine lg_iload_n hG dX0_putLast_20 rfl ?_
  refine lg_iload_n hG dX0_putLast_21 rfl ?_
  refine lg_iast hG dX0_putLast_22 (by first | assumption | omega) (by first | assumption | exact va_up_self _ _ _ | (rw [va_up_ne _ _ (by first | assumption | omega)]; first | assumption | exact va_up_self _ _ _ | (rw [va_up_ne _ _ (by first | assumption | omega)]; first | assumption | exact va_up_self _ _ _ | (rw [va_up_ne _ _ (by first | assumption | omega)]; first | assumption | exact va_up_self _ _ _ | (rw [va_up_ne _ _ (by first | assumption | omega)]; first | assumption | exact va_up_self _ _ _))))) hin ?_
  rw [hcl]
  refine lg_aload_n hG dX0_putLast_23 rfl ?_
  refine lg_dup hG dX0_putLast_24 rfl ?_
  refine lg_get hG dX0_putLast_25 rfl (by first | assumption | omega) (by first | assumption | exact va_up_self _ _ _ | (rw [va_up_ne _ _ (by first | assumption | omega)]; first | assumption | exact va_up_self _ _ _ | (rw [va_up_ne _ _ (by first | assumption | omega)]; first | assumption | exact va_up_self _ _ _ | (rw [va_up_ne _ _ (by first | assumption | omega)]; first | assumption | exact va_up_self _ _ _ | (rw [va_up_ne _ _ (by first | assumption | omega)]; first | assumption | exact va_up_self _ _ _))))) (by rfl) ?_
  refine lg_iload_n hG dX0_putLast_28 rfl ?_
  refine lg_iadd hG dX0_putLast_29 rfl ?_
  refine lg_put hG dX0_putLast_30 rfl (by first | assumption | omega) (by first | trivial | exact Or.inl rfl | exact Or.inr rfl | assumption) (by first | assumption | exact va_up_self _ _ _ | (rw [va_up_ne _ _ (by first | assumption | omega)]; first | assumption | exact va_up_self _ _ _ | (rw [va_up_ne _ _ (by first | assumption | omega)]; first | assumption | exact va_up_self _ _ _ | (rw [va_up_ne _ _ (by first | assumption | omega)]; first | assumption | exact va_up_self _ _ _ | (rw [va_up_ne _ _ (by first | assumption | omega)]; first | assumption | exact va_up_self _ _ _))))) (Nat.le_of_ble_eq_true rfl) (by rfl) ?_
  try rw [bx_uu]
  change G _ _ _ _ (va_up (va_up (va_up L w (ia (ids 0) 96 (upd W ((a + m) % 96) word))) c (ia (ids 0) 96 (upd C ((a + m) % 96) cost))) q (qo w c (upd v 4 (v 4 + cost)))) _ _
  refine lg_aload_n hG dX0_putLast_33 rfl ?_
  refine lg_dup hG dX0_putLast_34 rfl ?_
  refine lg_get hG dX0_putLast_35 rfl (by first | assumption | omega) (by first | assumption | exact va_up_self _ _ _ | (rw [va_up_ne _ _ (by first | assumption | omega)]; first | assumption | exact va_up_self _ _ _ | (rw [va_up_ne _ _ (by first | assumption | omega)]; first | assumption | exact va_up_self _ _ _ | (rw [va_up_ne _ _ (by first | assumption | omega)]; first | assumption | exact va_up_self _ _ _ | (rw [va_up_ne _ _ (by first | assumption | omega)]; first | assumption | exact va_up_self _ _ _))))) (by rfl) ?_
  refine lg_iconst hG dX0_putLast_38 (x := 1) (by decide) ?_
  refine lg_iadd hG dX0_putLast_39 rfl ?_
  refine lg_put hG dX0_putLast_40 rfl (by first | assumption | omega) (by first | trivial | exact Or.inl rfl | exact Or.inr rfl | assumption) (by first | assumption | exact va_up_self _ _ _ | (rw [va_up_ne _ _ (by first | assumption | omega)]; first | assumption | exact va_up_self _ _ _ | (rw [va_up_ne _ _ (by first | assumption | omega)]; first | assumption | exact va_up_self _ _ _ | (rw [va_up_ne _ _ (by first | assumption | omega)]; first | assumption | exact va_up_self _ _ _ | (rw [va_up_ne _ _ (by first | assumption | omega)]; first | assumption | exact va_up_self _ _ _))))) (Nat.le_of_ble_eq_true rfl) (by rfl) ?_
  try rw [bx_uu]
  change G _ _ _ _ (va_up (va_up (va_up L w (ia (ids 0) 96 (upd W ((a + m) % 96) word))) c (ia (ids 0) 96 (upd C ((a + m) % 96) cost))) q (qo w c (upd (upd v 4 (v 4 + cost)) 3 (v 3 + 1)))) _ _
  refine lg_vret hG dX0_putLast_43 (Nat.le_of_ble_eq_true rfl) (Nat.le_of_ble_eq_true rfl) ?_
  exact ⟨trivial, hp⟩

def rm_X0_dropFirst : Room := { frames := 4, cells := 0, slots := 0, locals := 84 }
theorem ld_X0_dropFirst : yX0_dropFirst.cls ≠ "java/lang/invoke/MethodHandle" ∧ yX0_dropFirst.cls ≠ "java/lang/invoke/VarHandle" ∧ (parseMethodDescriptor yX0_dropFirst.desc).map (fun d => d.parameters.length) = some 0 := by decide +kernel
def sp_X0_dropFirst (ids : Nat → ClassId) : lm_S := fun As n L post _ => ∃ q w c v W C a, As = [.ref q] ∧ QH ids n L q w c v W C a ∧ post none n (va_up L q (qo w c (upd (upd (upd v 4 (v 4 - C a)) 2 (nI ((a + 1) % 96))) 3 (v 3 - 1))))
def cv_X0_dropFirst (ids : Nat → ClassId) : Nat → Option lm_C := fun j => match j with
  | 31 => some (2, 0, sp_X0_cellOf ids, 0, 0)
  | 41 => some (1, 0, sp_X0_firstCost ids, 0, 0)
  | _ => none
set_option maxHeartbeats 4000000 in
set_option maxRecDepth 20000 in
theorem ok_X0_dropFirst (l : Launch) (D : va_G) (ids : Nat → ClassId) (B b : Nat) : lm_M l D (lm_ty ids) B b false yX0_dropFirst cX0_dropFirst 1 none rm_X0_dropFirst 0 0 (sp_X0_dropFirst ids) := by
  refine lm_method (own := RX0) (fld := lf_0) (cv := (cv_X0_dropFirst ids)) (cs := (fun _ => none)) (ci := (fun _ => none)) (kon := (fun _ => none)) (thr := (fun _ => none)) (nw := (fun _ => none)) (ini := false) (cp := none) (alc := false) (by decide +kernel) rfl rfl rfl (lf_0_ok _) ⟨?_, ?_⟩ ?_ (fun h => by cases h) (lm_aok0 _ _ _ _ _ _ _ _) ?_ ?_
  · intro j f hf
    unfold cv_X0_dropFirst at hf
    split at hf
    · cases hf; exact ⟨yX0_cellOf, cX0_cellOf, 2, (some .int), rm_X0_cellOf, RX0, TX0, 15, 1, rfl, rfl, ok_X0_cellOf l D ids B b, lw_0_cellOf, ll_0_31, rfl, rfl, ⟨rfl, ld_X0_cellOf⟩, by decide⟩
    · cases hf; exact ⟨yX0_firstCost, cX0_firstCost, 1, (some .int), rm_X0_firstCost, RX0, TX0, 15, 0, rfl, rfl, ok_X0_firstCost l D ids B b, lw_0_firstCost, ll_0_41, rfl, rfl, ⟨rfl, ld_X0_firstCost⟩, by decide⟩
    · cases hf
  · intro j f hf
    cases hf
  · intro j v hv; cases hv
  · exact Or.inl fun _ => rfl
  rintro As n L post postX ⟨q, w, c, v, W, C, a, rfl, Q, hp⟩
  refine ⟨by simp [Value.category], (Nat.le_of_ble_eq_true rfl), lm_cl_of ?_⟩
  intro G hG
  have Q9 := Q
  obtain ⟨hq, hw, hc, hqw, hqc, hwc, hL, hLw, hLc, hv, ha⟩ := Q
  refine lg_aload_n hG dX0_dropFirst_0 rfl ?_
  refine lg_dup hG dX0_dropFirst_1 rfl ?_
  refine lg_get hG dX0_dropFirst_2 rfl (by first | assumption | omega) (by first | assumption | exact va_up_self _ _ _ | (rw [va_up_ne _ _ (by first | assumption | omega)]; first | assumption | exact va_up_self _ _ _ | (rw [va_up_ne _ _ (by first | assumption | omega)]; first | assumption | exact va_up_self _ _ _ | (rw [va_up_ne _ _ (by first | assumption | omega)]; first | assumption | exact va_up_self _ _ _ | (rw [va_up_ne _ _ (by first | assumption | omega)]; first | assumption | exact va_up_self _ _ _))))) (by rfl) ?_
  refine lg_aload_n hG dX0_dropFirst_5 rfl ?_
  refine lg_callV hG dX0_dropFirst_6 rfl (fun P h => h) (by first | assumption | omega) (by first | assumption | exact va_up_self _ _ _ | (rw [va_up_ne _ _ (by first | assumption | omega)]; first | assumption | exact va_up_self _ _ _ | (rw [va_up_ne _ _ (by first | assumption | omega)]; first | assumption | exact va_up_self _ _ _ | (rw [va_up_ne _ _ (by first | assumption | omega)]; first | assumption | exact va_up_self _ _ _ | (rw [va_up_ne _ _ (by first | assumption | omega)]; first | assumption | exact va_up_self _ _ _))))) (Nat.le_of_ble_eq_true rfl) (Nat.le_of_ble_eq_true rfl) (Nat.le_of_ble_eq_true rfl) ?_
  refine ⟨q, w, c, v, W, C, a, rfl, Q9, ?_⟩
  refine lg_isub hG dX0_dropFirst_9 rfl ?_
  refine lg_put hG dX0_dropFirst_10 rfl (by first | assumption | omega) (by first | trivial | exact Or.inl rfl | exact Or.inr rfl | assumption) (by first | assumption | exact va_up_self _ _ _ | (rw [va_up_ne _ _ (by first | assumption | omega)]; first | assumption | exact va_up_self _ _ _ | (rw [va_up_ne _ _ (by first | assumption | omega)]; first | assumption | exact va_up_self _ _ _ | (rw [va_up_ne _ _ (by first | assumption | omega)]; first | assumption | exact va_up_self _ _ _ | (rw [va_up_ne _ _ (by first | assumption | omega)]; first | assumption | exact va_up_self _ _ _))))) (Nat.le_of_ble_eq_true rfl) (by rfl) ?_
  try rw [bx_uu]
  change G _ _ _ _ (va_up L q (qo w c (upd v 4 (v 4 - C a)))) _ _
  refine lg_aload_n hG dX0_dropFirst_13 rfl ?_
  refine lg_aload_n hG dX0_dropFirst_14 rfl ?_
  refine lg_iconst hG dX0_dropFirst_15 (x := 1) (by decide) ?_
  refine lg_callV hG dX0_dropFirst_16 rfl (fun P h => h) (by first | assumption | omega) (by first | assumption | exact va_up_self _ _ _ | (rw [va_up_ne _ _ (by first | assumption | omega)]; first | assumption | exact va_up_self _ _ _ | (rw [va_up_ne _ _ (by first | assumption | omega)]; first | assumption | exact va_up_self _ _ _ | (rw [va_up_ne _ _ (by first | assumption | omega)]; first | assumption | exact va_up_self _ _ _ | (rw [va_up_ne _ _ (by first | assumption | omega)]; first | assumption | exact va_up_self _ _ _))))) (Nat.le_of_ble_eq_true rfl) (Nat.le_of_ble_eq_true rfl) (Nat.le_of_ble_eq_true rfl) ?_
  refine ⟨q, w, c, upd v 4 (v 4 - C a), a, 1, rfl, hq, va_up_self _ _ _, hv, by omega, ?_⟩
  refine lg_put hG dX0_dropFirst_19 rfl (by first | assumption | omega) (by first | trivial | exact Or.inl rfl | exact Or.inr rfl | assumption) (by first | assumption | exact va_up_self _ _ _ | (rw [va_up_ne _ _ (by first | assumption | omega)]; first | assumption | exact va_up_self _ _ _ | (rw [va_up_ne _ _ (by first | assumption | omega)]; first | assumption | exact va_up_self _ _ _ | (rw [va_up_ne _ _ (by first | assumption | omega)]; first | assumption | exact va_up_self _ _ _ | (rw [va_up_ne _ _ (by first | assumption | omega)]; first | assumption | exact va_up_self _ _ _))))) (Nat.le_of_ble_eq_true rfl) (by rfl) ?_
  try rw [bx_uu]
  change G _ _ _ _ (va_up L q (qo w c (upd (upd v 4 (v 4 - C a)) 2 (nI ((a + 1) % 96))))) _ _
  refine lg_aload_n hG dX0_dropFirst_22 rfl ?_
  refine lg_dup hG dX0_dropFirst_23 rfl ?_
  refine lg_get hG dX0_dropFirst_24 rfl (by first | assumption | omega) (by first | assumption | exact va_up_self _ _ _ | (rw [va_up_ne _ _ (by first | assumption | omega)]; first | assumption | exact va_up_self _ _ _ | (rw [va_up_ne _ _ (by first | assumption | omega)]; first | assumption | exact va_up_self _ _ _ | (rw [va_up_ne _ _ (by first | assumption | omega)]; first | assumption | exact va_up_self _ _ _ | (rw [va_up_ne _ _ (by first | assumption | omega)]; first | assumption | exact va_up_self _ _ _))))) (by rfl) ?_
  refine lg_iconst hG dX0_dropFirst_27 (x := 1) (by decide) ?_
  refine lg_isub hG dX0_dropFirst_28 rfl ?_
  refine lg_put hG dX0_dropFirst_29 rfl (by first | assumption | omega) (by first | trivial | exact Or.inl rfl | exact Or.inr rfl | assumption) (by first | assumption | exact va_up_self _ _ _ | (rw [va_up_ne _ _ (by first | assumption | omega)]; first | assumption | exact va_up_self _ _ _ | (rw [va_up_ne _ _ (by first | assumption | omega)]; first | assumption | exact va_up_self _ _ _ | (rw [va_up_ne _ _ (by first | assumption | omega)]; first | assumption | exact va_up_self _ _ _ | (rw [va_up_ne _ _ (by first | assumption | omega)]; first | assumption | exact va_up_self _ _ _))))) (Nat.le_of_ble_eq_true rfl) (by rfl) ?_
  try rw [bx_uu]
  change G _ _ _ _ (va_up L q (qo w c (upd (upd (upd v 4 (v 4 - C a)) 2 (nI ((a + 1) % 96))) 3 (v 3 - 1)))) _ _
  refine lg_vret hG dX0_dropFirst_32 (Nat.le_of_ble_eq_true rfl) (Nat.le_of_ble_eq_true rfl) ?_
  exact ⟨trivial, hp⟩

def rm_X0_dropLast : Room := { frames := 3, cells := 0, slots := 0, locals := 64 }
theorem ld_X0_dropLast : yX0_dropLast.cls ≠ "java/lang/invoke/MethodHandle" ∧ yX0_dropLast.cls ≠ "java/lang/invoke/VarHandle" ∧ (parseMethodDescriptor yX0_dropLast.desc).map (fun d => d.parameters.length) = some 0 := by decide +kernel
def sp_X0_dropLast (ids : Nat → ClassId) : lm_S := fun As n L post _ => ∃ q w c v W C a m, As = [.ref q] ∧ QH ids n L q w c v W C a ∧ v 3 = nI (m + 1) ∧ m < 2 ^ 20 ∧ post none n (va_up L q (qo w c (upd (upd v 4 (v 4 - C ((a + m) % 96))) 3 (v 3 - 1))))
def cv_X0_dropLast (ids : Nat → ClassId) : Nat → Option lm_C := fun j => match j with
  | 35 => some (2, 0, sp_X0_costAt ids, 0, 0)
  | _ => none
set_option maxHeartbeats 4000000 in
set_option maxRecDepth 20000 in
theorem ok_X0_dropLast (l : Launch) (D : va_G) (ids : Nat → ClassId) (B b : Nat) : lm_M l D (lm_ty ids) B b false yX0_dropLast cX0_dropLast 1 none rm_X0_dropLast 0 0 (sp_X0_dropLast ids) := by
  refine lm_method (own := RX0) (fld := lf_0) (cv := (cv_X0_dropLast ids)) (cs := (fun _ => none)) (ci := (fun _ => none)) (kon := (fun _ => none)) (thr := (fun _ => none)) (nw := (fun _ => none)) (ini := false) (cp := none) (alc := false) (by decide +kernel) rfl rfl rfl (lf_0_ok _) ⟨?_, ?_⟩ ?_ (fun h => by cases h) (lm_aok0 _ _ _ _ _ _ _ _) ?_ ?_
  · intro j f hf
    unfold cv_X0_dropLast at hf
    split at hf
    · cases hf; exact ⟨yX0_costAt, cX0_costAt, 2, (some .int), rm_X0_costAt, RX0, TX0, 15, 1, rfl, rfl, ok_X0_costAt l D ids B b, lw_0_costAt, ll_0_35, rfl, rfl, ⟨rfl, ld_X0_costAt⟩, by decide⟩
    · cases hf
  · intro j f hf
    cases hf
  · intro j v hv; cases hv
  · exact Or.inl fun _ => rfl
  rintro As n L post postX ⟨q, w, c, v, W, C, a, m, rfl, Q, hm, hm2, hp⟩
  refine ⟨by simp [Value.category], (Nat.le_of_ble_eq_true rfl), lm_cl_of ?_⟩
  intro G hG
  have Q9 := Q
  obtain ⟨hq, hw, hc, hqw, hqc, hwc, hL, hLw, hLc, hv, ha⟩ := Q
  refine lg_aload_n hG dX0_dropLast_0 rfl ?_
  refine lg_dup hG dX0_dropLast_1 rfl ?_
  refine lg_get hG dX0_dropLast_2 rfl (by first | assumption | omega) (by first | assumption | exact va_up_self _ _ _ | (rw [va_up_ne _ _ (by first | assumption | omega)]; first | assumption | exact va_up_self _ _ _ | (rw [va_up_ne _ _ (by first | assumption | omega)]; first | assumption | exact va_up_self _ _ _ | (rw [va_up_ne _ _ (by first | assumption | omega)]; first | assumption | exact va_up_self _ _ _ | (rw [va_up_ne _ _ (by first | assumption | omega)]; first | assumption | exact va_up_self _ _ _))))) (by rfl) ?_
  refine lg_aload_n hG dX0_dropLast_5 rfl ?_
  refine lg_aload_n hG dX0_dropLast_6 rfl ?_
  refine lg_get hG dX0_dropLast_7 rfl (by first | assumption | omega) (by first | assumption | exact va_up_self _ _ _ | (rw [va_up_ne _ _ (by first | assumption | omega)]; first | assumption | exact va_up_self _ _ _ | (rw [va_up_ne _ _ (by first | assumption | omega)]; first | assumption | exact va_up_self _ _ _ | (rw [va_up_ne _ _ (by first | assumption | omega)]; first | assumption | exact va_up_self _ _ _ | (rw [va_up_ne _ _ (by first | assumption | omega)]; first | assumption | exact va_up_self _ _ _))))) (by rfl) ?_
  refine lg_iconst hG dX0_dropLast_10 (x := 1) (by decide) ?_
  refine lg_isub hG dX0_dropLast_11 (show v 3 - 1 = nI m by rw [hm]; exact nI_pred m) ?_
  refine lg_callV hG dX0_dropLast_12 rfl (fun P h => h) (by first | assumption | omega) (by first | assumption | exact va_up_self _ _ _ | (rw [va_up_ne _ _ (by first | assumption | omega)]; first | assumption | exact va_up_self _ _ _ | (rw [va_up_ne _ _ (by first | assumption | omega)]; first | assumption | exact va_up_self _ _ _ | (rw [va_up_ne _ _ (by first | assumption | omega)]; first | assumption | exact va_up_self _ _ _ | (rw [va_up_ne _ _ (by first | assumption | omega)]; first | assumption | exact va_up_self _ _ _))))) (Nat.le_of_ble_eq_true rfl) (Nat.le_of_ble_eq_true rfl) (Nat.le_of_ble_eq_true rfl) ?_
  refine ⟨q, w, c, v, W, C, a, m, rfl, Q9, hm2, ?_⟩
  refine lg_isub hG dX0_dropLast_15 rfl ?_
  refine lg_put hG dX0_dropLast_16 rfl (by first | assumption | omega) (by first | trivial | exact Or.inl rfl | exact Or.inr rfl | assumption) (by first | assumption | exact va_up_self _ _ _ | (rw [va_up_ne _ _ (by first | assumption | omega)]; first | assumption | exact va_up_self _ _ _ | (rw [va_up_ne _ _ (by first | assumption | omega)]; first | assumption | exact va_up_self _ _ _ | (rw [va_up_ne _ _ (by first | assumption | omega)]; first | assumption | exact va_up_self _ _ _ | (rw [va_up_ne _ _ (by first | assumption | omega)]; first | assumption | exact va_up_self _ _ _))))) (Nat.le_of_ble_eq_true rfl) (by rfl) ?_
  try rw [bx_uu]
  change G _ _ _ _ (va_up L q (qo w c (upd v 4 (v 4 - C ((a + m) % 96))))) _ _
  refine lg_aload_n hG dX0_dropLast_19 rfl ?_
  refine lg_dup hG dX0_dropLast_20 rfl ?_
  refine lg_get hG dX0_dropLast_21 rfl (by first | assumption | omega) (by first | assumption | exact va_up_self _ _ _ | (rw [va_up_ne _ _ (by first | assumption | omega)]; first | assumption | exact va_up_self _ _ _ | (rw [va_up_ne _ _ (by first | assumption | omega)]; first | assumption | exact va_up_self _ _ _ | (rw [va_up_ne _ _ (by first | assumption | omega)]; first | assumption | exact va_up_self _ _ _ | (rw [va_up_ne _ _ (by first | assumption | omega)]; first | assumption | exact va_up_self _ _ _))))) (by rfl) ?_
  refine lg_iconst hG dX0_dropLast_24 (x := 1) (by decide) ?_
  refine lg_isub hG dX0_dropLast_25 rfl ?_
  refine lg_put hG dX0_dropLast_26 rfl (by first | assumption | omega) (by first | trivial | exact Or.inl rfl | exact Or.inr rfl | assumption) (by first | assumption | exact va_up_self _ _ _ | (rw [va_up_ne _ _ (by first | assumption | omega)]; first | assumption | exact va_up_self _ _ _ | (rw [va_up_ne _ _ (by first | assumption | omega)]; first | assumption | exact va_up_self _ _ _ | (rw [va_up_ne _ _ (by first | assumption | omega)]; first | assumption | exact va_up_self _ _ _ | (rw [va_up_ne _ _ (by first | assumption | omega)]; first | assumption | exact va_up_self _ _ _))))) (Nat.le_of_ble_eq_true rfl) (by rfl) ?_
  try rw [bx_uu]
  change G _ _ _ _ (va_up L q (qo w c (upd (upd v 4 (v 4 - C ((a + m) % 96))) 3 (v 3 - 1)))) _ _
  refine lg_vret hG dX0_dropLast_29 (Nat.le_of_ble_eq_true rfl) (Nat.le_of_ble_eq_true rfl) ?_
  exact ⟨trivial, hp⟩

def rm_X0_dropAll : Room := { frames := 0, cells := 0, slots := 0, locals := 0 }
theorem ld_X0_dropAll : yX0_dropAll.cls ≠ "java/lang/invoke/MethodHandle" ∧ yX0_dropAll.cls ≠ "java/lang/invoke/VarHandle" ∧ (parseMethodDescriptor yX0_dropAll.desc).map (fun d => d.parameters.length) = some 0 := by decide +kernel
def sp_X0_dropAll (ids : Nat → ClassId) : lm_S := fun As n L post _ => ∃ q w c v, As = [.ref q] ∧ q < n ∧ L q = qo w c v ∧ post none n (va_up L q (qo w c (upd (upd v 4 0) 3 0)))
set_option maxHeartbeats 4000000 in
set_option maxRecDepth 20000 in
theorem ok_X0_dropAll (l : Launch) (D : va_G) (ids : Nat → ClassId) (B b : Nat) : lm_M l D (lm_ty ids) B b false yX0_dropAll cX0_dropAll 1 none rm_X0_dropAll 0 0 (sp_X0_dropAll ids) := by
  refine lm_method (own := RX0) (fld := lf_0) (cv := (fun _ => none)) (cs := (fun _ => none)) (ci := (fun _ => none)) (kon := (fun _ => none)) (thr := (fun _ => none)) (nw := (fun _ => none)) (ini := false) (cp := none) (alc := false) (by decide +kernel) rfl rfl rfl (lf_0_ok _) ⟨?_, ?_⟩ ?_ (fun h => by cases h) (lm_aok0 _ _ _ _ _ _ _ _) ?_ ?_
  · intro j f hf
    cases hf
  · intro j f hf
    cases hf
  · intro j v hv; cases hv
  · exact Or.inl fun _ => rfl
  rintro As n L post postX ⟨q, w, c, v, rfl, hq, hL, hp⟩
  refine ⟨by simp [Value.category], (Nat.le_of_ble_eq_true rfl), lm_cl_of ?_⟩
  intro G hG
  refine lg_aload_n hG dX0_dropAll_0 rfl ?_
  refine lg_iconst hG dX0_dropAll_1 (x := 0) (by decide) ?_
  refine lg_put hG dX0_dropAll_2 rfl (by first | assumption | omega) (by first | trivial | exact Or.inl rfl | exact Or.inr rfl | assumption) (by first | assumption | exact va_up_self _ _ _ | (rw [va_up_ne _ _ (by first | assumption | omega)]; first | assumption | exact va_up_self _ _ _ | (rw [va_up_ne _ _ (by first | assumption | omega)]; first | assumption | exact va_up_self _ _ _ | (rw [va_up_ne _ _ (by first | assumption | omega)]; first | assumption | exact va_up_self _ _ _ | (rw [va_up_ne _ _ (by first | assumption | omega)]; first | assumption | exact va_up_self _ _ _))))) (Nat.le_of_ble_eq_true rfl) (by rfl) ?_
  try rw [bx_uu]
  change G _ _ _ _ (va_up L q (qo w c (upd v 4 0))) _ _
  refine lg_aload_n hG dX0_dropAll_5 rfl ?_
  refine lg_iconst hG dX0_dropAll_6 (x := 0) (by decide) ?_
  refine lg_put hG dX0_dropAll_7 rfl (by first | assumption | omega) (by first | trivial | exact Or.inl rfl | exact Or.inr rfl | assumption) (by first | assumption | exact va_up_self _ _ _ | (rw [va_up_ne _ _ (by first | assumption | omega)]; first | assumption | exact va_up_self _ _ _ | (rw [va_up_ne _ _ (by first | assumption | omega)]; first | assumption | exact va_up_self _ _ _ | (rw [va_up_ne _ _ (by first | assumption | omega)]; first | assumption | exact va_up_self _ _ _ | (rw [va_up_ne _ _ (by first | assumption | omega)]; first | assumption | exact va_up_self _ _ _))))) (Nat.le_of_ble_eq_true rfl) (by rfl) ?_
  try rw [bx_uu]
  change G _ _ _ _ (va_up L q (qo w c (upd (upd v 4 0) 3 0))) _ _
  refine lg_vret hG dX0_dropAll_10 (Nat.le_of_ble_eq_true rfl) (Nat.le_of_ble_eq_true rfl) ?_
  exact ⟨trivial, hp⟩

def rm_X0_looksInVain : Room := { frames := 4, cells := 0, slots := 0, locals := 84 }
theorem ld_X0_looksInVain : yX0_looksInVain.cls ≠ "java/lang/invoke/MethodHandle" ∧ yX0_looksInVain.cls ≠ "java/lang/invoke/VarHandle" ∧ (parseMethodDescriptor yX0_looksInVain.desc).map (fun d => d.parameters.length) = some 0 := by decide +kernel
def sp_X0_looksInVain (ids : Nat → ClassId) : lm_S := fun As n L post _ => ∃ q w c v W C a t d u p, As = [.ref q] ∧ QH ids n L q w c v W C a ∧ v 10 = (if t then 1 else 0) ∧ v 9 = nI d ∧ v 6 = nI u ∧ C a = nI p ∧ d < 2 ^ 28 ∧ 0 < u ∧ u < 2 ^ 28 ∧ p < 2 ^ 28 ∧ post (some (.int (nI (lkv t d u p)))) n L
def cv_X0_looksInVain (ids : Nat → ClassId) : Nat → Option lm_C := fun j => match j with
  | 41 => some (1, 0, sp_X0_firstCost ids, 0, 0)
  | _ => none
set_option maxHeartbeats 4000000 in
set_option maxRecDepth 20000 in
theorem ok_X0_looksInVain (l : Launch) (D : va_G) (ids : Nat → ClassId) (B b : Nat) : lm_M l D (lm_ty ids) B b false yX0_looksInVain cX0_looksInVain 3 (some .int) rm_X0_looksInVain 0 0 (sp_X0_looksInVain ids) := by
  refine lm_method (own := RX0) (fld := lf_0) (cv := (cv_X0_looksInVain ids)) (cs := (fun _ => none)) (ci := (fun _ => none)) (kon := (fun _ => none)) (thr := (fun _ => none)) (nw := (fun _ => none)) (ini := false) (cp := none) (alc := false) (by decide +kernel) rfl rfl rfl (lf_0_ok _) ⟨?_, ?_⟩ ?_ (fun h => by cases h) (lm_aok0 _ _ _ _ _ _ _ _) ?_ ?_
  · intro j f hf
    unfold cv_X0_looksInVain at hf
    split at hf
    · cases hf; exact ⟨yX0_firstCost, cX0_firstCost, 1, (some .int), rm_X0_firstCost, RX0, TX0, 15, 0, rfl, rfl, ok_X0_firstCost l D ids B b, lw_0_firstCost, ll_0_41, rfl, rfl, ⟨rfl, ld_X0_firstCost⟩, by decide⟩
    · cases hf
  · intro j f hf
    cases hf
  · intro j v hv; cases hv
  · exact Or.inl fun _ => rfl
  rintro As n L post postX ⟨q, w, c, v, W, C, a, t, d, u, p, rfl, Q, ht, hd, hu, hpc, hd2, hu1, hu2, hp2, hp⟩
  refine ⟨by simp [Value.category], (Nat.le_of_ble_eq_true rfl), lm_cl_of ?_⟩
  intro G hG
  have Q9 := Q
  obtain ⟨hq, hw, hc, hqw, hqc, hwc, hL, hLw, hLc, hv, ha⟩ := Q
  cases t with
  | true =>
    refine lg_aload_n hG dX0_looksInVain_0 rfl ?_
    refine lg_get hG dX0_looksInVain_1 rfl (by first | assumption | omega) (by first | assumption | exact va_up_self _ _ _ | (rw [va_up_ne _ _ (by first | assumption | omega)]; first | assumption | exact va_up_self _ _ _ | (rw [va_up_ne _ _ (by first | assumption | omega)]; first | assumption | exact va_up_self _ _ _ | (rw [va_up_ne _ _ (by first | assumption | omega)]; first | assumption | exact va_up_self _ _ _ | (rw [va_up_ne _ _ (by first | assumption | omega)]; first | assumption | exact va_up_self _ _ _))))) (by rfl) ?_
    refine lg_if_eq hG dX0_looksInVain_4 (tgt := 14) (by decide) (by decide) (fun h_4 => ?_) (fun h_4 => ?_)
    · skip
      rw [ht] at h_4; exact absurd h_4 (by decide) --END
    · skip
      refine lg_aload_n hG dX0_looksInVain_7 rfl ?_
      refine lg_get hG dX0_looksInVain_8 rfl (by first | assumption | omega) (by first | assumption | exact va_up_self _ _ _ | (rw [va_up_ne _ _ (by first | assumption | omega)]; first | assumption | exact va_up_self _ _ _ | (rw [va_up_ne _ _ (by first | assumption | omega)]; first | assumption | exact va_up_self _ _ _ | (rw [va_up_ne _ _ (by first | assumption | omega)]; first | assumption | exact va_up_self _ _ _ | (rw [va_up_ne _ _ (by first | assumption | omega)]; first | assumption | exact va_up_self _ _ _))))) (by rfl) ?_
      rw [hd]
      refine lg_goto hG dX0_looksInVain_11 (tgt := 23) (by decide) (by decide) ?_
      refine lg_istore_n hG dX0_looksInVain_23 (Nat.le_of_ble_eq_true rfl) rfl ?_
      refine lg_aload_n hG dX0_looksInVain_24 rfl ?_
      refine lg_callV hG dX0_looksInVain_25 rfl (fun P h => h) (by first | assumption | omega) (by first | assumption | exact va_up_self _ _ _ | (rw [va_up_ne _ _ (by first | assumption | omega)]; first | assumption | exact va_up_self _ _ _ | (rw [va_up_ne _ _ (by first | assumption | omega)]; first | assumption | exact va_up_self _ _ _ | (rw [va_up_ne _ _ (by first | assumption | omega)]; first | assumption | exact va_up_self _ _ _ | (rw [va_up_ne _ _ (by first | assumption | omega)]; first | assumption | exact va_up_self _ _ _))))) (Nat.le_of_ble_eq_true rfl) (Nat.le_of_ble_eq_true rfl) (Nat.le_of_ble_eq_true rfl) ?_
      refine ⟨q, w, c, v, W, C, a, rfl, Q9, ?_⟩
      rw [hpc]
      refine lg_iload_n hG dX0_looksInVain_28 rfl ?_
      refine lg_isub hG dX0_looksInVain_29 rfl ?_
      refine lg_istore_n hG dX0_looksInVain_30 (Nat.le_of_ble_eq_true rfl) rfl ?_
      refine lg_iload_n hG dX0_looksInVain_31 rfl ?_
      refine lg_if_le hG dX0_looksInVain_32 (tgt := 42) (by decide) (by decide) (fun h_32 => ?_) (fun h_32 => ?_)
      · skip
        refine lg_iconst hG dX0_looksInVain_42 (x := 0) (by decide) ?_
        refine lg_iret hG dX0_looksInVain_43 (Nat.le_of_ble_eq_true rfl) (Nat.le_of_ble_eq_true rfl) ?_
        refine ⟨trivial, ?_⟩
        have hz : lkv true d u p = 0 := by
          unfold lkv
          have h9 := (lk_le (by omega) (by omega)).mp h_32
          simp only [if_true, Bool.false_eq_true, if_false]
          rw [show p - d = 0 by omega]
          exact Nat.div_eq_of_lt (by omega)
        rw [hz] at hp
        exact hp
      · skip
        refine lg_aload_n hG dX0_looksInVain_35 rfl ?_
        refine lg_get hG dX0_looksInVain_36 rfl (by first | assumption | omega) (by first | assumption | exact va_up_self _ _ _ | (rw [va_up_ne _ _ (by first | assumption | omega)]; first | assumption | exact va_up_self _ _ _ | (rw [va_up_ne _ _ (by first | assumption | omega)]; first | assumption | exact va_up_self _ _ _ | (rw [va_up_ne _ _ (by first | assumption | omega)]; first | assumption | exact va_up_self _ _ _ | (rw [va_up_ne _ _ (by first | assumption | omega)]; first | assumption | exact va_up_self _ _ _))))) (by rfl) ?_
        refine lg_if_gt hG dX0_looksInVain_39 (tgt := 44) (by decide) (by decide) (fun h_39 => ?_) (fun h_39 => ?_)
        · skip
          refine lg_iload_n hG dX0_looksInVain_44 rfl ?_
          refine lg_aload_n hG dX0_looksInVain_45 rfl ?_
          refine lg_get hG dX0_looksInVain_46 rfl (by first | assumption | omega) (by first | assumption | exact va_up_self _ _ _ | (rw [va_up_ne _ _ (by first | assumption | omega)]; first | assumption | exact va_up_self _ _ _ | (rw [va_up_ne _ _ (by first | assumption | omega)]; first | assumption | exact va_up_self _ _ _ | (rw [va_up_ne _ _ (by first | assumption | omega)]; first | assumption | exact va_up_self _ _ _ | (rw [va_up_ne _ _ (by first | assumption | omega)]; first | assumption | exact va_up_self _ _ _))))) (by rfl) ?_
          refine lg_iadd hG dX0_looksInVain_49 rfl ?_
          refine lg_iconst hG dX0_looksInVain_50 (x := 1) (by decide) ?_
          refine lg_isub hG dX0_looksInVain_51 rfl ?_
          refine lg_aload_n hG dX0_looksInVain_52 rfl ?_
          refine lg_get hG dX0_looksInVain_53 rfl (by first | assumption | omega) (by first | assumption | exact va_up_self _ _ _ | (rw [va_up_ne _ _ (by first | assumption | omega)]; first | assumption | exact va_up_self _ _ _ | (rw [va_up_ne _ _ (by first | assumption | omega)]; first | assumption | exact va_up_self _ _ _ | (rw [va_up_ne _ _ (by first | assumption | omega)]; first | assumption | exact va_up_self _ _ _ | (rw [va_up_ne _ _ (by first | assumption | omega)]; first | assumption | exact va_up_self _ _ _))))) (by rfl) ?_
          refine lg_idiv hG dX0_looksInVain_56 (by rw [hu]; exact nI_ne0 hu1 (by omega)) (show (nI p - nI d + v 6 - 1) / v 6 = nI ((p - d + (u - 1)) / u) by rw [hu]; exact lk_val (by omega) (by have h9 : ¬ p ≤ d := (fun h => h_32 ((lk_le (by omega) (by omega)).mpr h)); omega) hu1 (by omega)) ?_
          refine lg_iret hG dX0_looksInVain_57 (Nat.le_of_ble_eq_true rfl) (Nat.le_of_ble_eq_true rfl) ?_
          refine ⟨trivial, ?_⟩
          have h9 : ¬ p ≤ d := fun h => h_32 ((lk_le (by omega) (by omega)).mpr h)
          have hz : lkv true d u p = (p - d + (u - 1)) / u := rfl
          rw [hz] at hp
          exact hp
        · skip
          exact absurd h_39 (by rw [hu]; exact lk_pos hu1 (by omega)) --END
  | false =>
    refine lg_aload_n hG dX0_looksInVain_0 rfl ?_
    refine lg_get hG dX0_looksInVain_1 rfl (by first | assumption | omega) (by first | assumption | exact va_up_self _ _ _ | (rw [va_up_ne _ _ (by first | assumption | omega)]; first | assumption | exact va_up_self _ _ _ | (rw [va_up_ne _ _ (by first | assumption | omega)]; first | assumption | exact va_up_self _ _ _ | (rw [va_up_ne _ _ (by first | assumption | omega)]; first | assumption | exact va_up_self _ _ _ | (rw [va_up_ne _ _ (by first | assumption | omega)]; first | assumption | exact va_up_self _ _ _))))) (by rfl) ?_
    refine lg_if_eq hG dX0_looksInVain_4 (tgt := 14) (by decide) (by decide) (fun h_4 => ?_) (fun h_4 => ?_)
    · skip
      refine lg_aload_n hG dX0_looksInVain_14 rfl ?_
      refine lg_get hG dX0_looksInVain_15 rfl (by first | assumption | omega) (by first | assumption | exact va_up_self _ _ _ | (rw [va_up_ne _ _ (by first | assumption | omega)]; first | assumption | exact va_up_self _ _ _ | (rw [va_up_ne _ _ (by first | assumption | omega)]; first | assumption | exact va_up_self _ _ _ | (rw [va_up_ne _ _ (by first | assumption | omega)]; first | assumption | exact va_up_self _ _ _ | (rw [va_up_ne _ _ (by first | assumption | omega)]; first | assumption | exact va_up_self _ _ _))))) (by rfl) ?_
      refine lg_aload_n hG dX0_looksInVain_18 rfl ?_
      refine lg_get hG dX0_looksInVain_19 rfl (by first | assumption | omega) (by first | assumption | exact va_up_self _ _ _ | (rw [va_up_ne _ _ (by first | assumption | omega)]; first | assumption | exact va_up_self _ _ _ | (rw [va_up_ne _ _ (by first | assumption | omega)]; first | assumption | exact va_up_self _ _ _ | (rw [va_up_ne _ _ (by first | assumption | omega)]; first | assumption | exact va_up_self _ _ _ | (rw [va_up_ne _ _ (by first | assumption | omega)]; first | assumption | exact va_up_self _ _ _))))) (by rfl) ?_
      refine lg_iadd hG dX0_looksInVain_22 (show v 9 + v 6 = nI (d + u) by rw [hd, hu]; exact nI_add d u) ?_
      refine lg_istore_n hG dX0_looksInVain_23 (Nat.le_of_ble_eq_true rfl) rfl ?_
      refine lg_aload_n hG dX0_looksInVain_24 rfl ?_
      refine lg_callV hG dX0_looksInVain_25 rfl (fun P h => h) (by first | assumption | omega) (by first | assumption | exact va_up_self _ _ _ | (rw [va_up_ne _ _ (by first | assumption | omega)]; first | assumption | exact va_up_self _ _ _ | (rw [va_up_ne _ _ (by first | assumption | omega)]; first | assumption | exact va_up_self _ _ _ | (rw [va_up_ne _ _ (by first | assumption | omega)]; first | assumption | exact va_up_self _ _ _ | (rw [va_up_ne _ _ (by first | assumption | omega)]; first | assumption | exact va_up_self _ _ _))))) (Nat.le_of_ble_eq_true rfl) (Nat.le_of_ble_eq_true rfl) (Nat.le_of_ble_eq_true rfl) ?_
      refine ⟨q, w, c, v, W, C, a, rfl, Q9, ?_⟩
      rw [hpc]
      refine lg_iload_n hG dX0_looksInVain_28 rfl ?_
      refine lg_isub hG dX0_looksInVain_29 rfl ?_
      refine lg_istore_n hG dX0_looksInVain_30 (Nat.le_of_ble_eq_true rfl) rfl ?_
      refine lg_iload_n hG dX0_looksInVain_31 rfl ?_
      refine lg_if_le hG dX0_looksInVain_32 (tgt := 42) (by decide) (by decide) (fun h_32 => ?_) (fun h_32 => ?_)
      · skip
        refine lg_iconst hG dX0_looksInVain_42 (x := 0) (by decide) ?_
        refine lg_iret hG dX0_looksInVain_43 (Nat.le_of_ble_eq_true rfl) (Nat.le_of_ble_eq_true rfl) ?_
        refine ⟨trivial, ?_⟩
        have hz : lkv false d u p = 0 := by
          unfold lkv
          have h9 := (lk_le (by omega) (by omega)).mp h_32
          simp only [if_true, Bool.false_eq_true, if_false]
          rw [show p - (d + u) = 0 by omega]
          exact Nat.div_eq_of_lt (by omega)
        rw [hz] at hp
        exact hp
      · skip
        refine lg_aload_n hG dX0_looksInVain_35 rfl ?_
        refine lg_get hG dX0_looksInVain_36 rfl (by first | assumption | omega) (by first | assumption | exact va_up_self _ _ _ | (rw [va_up_ne _ _ (by first | assumption | omega)]; first | assumption | exact va_up_self _ _ _ | (rw [va_up_ne _ _ (by first | assumption | omega)]; first | assumption | exact va_up_self _ _ _ | (rw [va_up_ne _ _ (by first | assumption | omega)]; first | assumption | exact va_up_self _ _ _ | (rw [va_up_ne _ _ (by first | assumption | omega)]; first | assumption | exact va_up_self _ _ _))))) (by rfl) ?_
        refine lg_if_gt hG dX0_looksInVain_39 (tgt := 44) (by decide) (by decide) (fun h_39 => ?_) (fun h_39 => ?_)
        · skip
          refine lg_iload_n hG dX0_looksInVain_44 rfl ?_
          refine lg_aload_n hG dX0_looksInVain_45 rfl ?_
          refine lg_get hG dX0_looksInVain_46 rfl (by first | assumption | omega) (by first | assumption | exact va_up_self _ _ _ | (rw [va_up_ne _ _ (by first | assumption | omega)]; first | assumption | exact va_up_self _ _ _ | (rw [va_up_ne _ _ (by first | assumption | omega)]; first | assumption | exact va_up_self _ _ _ | (rw [va_up_ne _ _ (by first | assumption | omega)]; first | assumption | exact va_up_self _ _ _ | (rw [va_up_ne _ _ (by first | assumption | omega)]; first | assumption | exact va_up_self _ _ _))))) (by rfl) ?_
          refine lg_iadd hG dX0_looksInVain_49 rfl ?_
          refine lg_iconst hG dX0_looksInVain_50 (x := 1) (by decide) ?_
          refine lg_isub hG dX0_looksInVain_51 rfl ?_
          refine lg_aload_n hG dX0_looksInVain_52 rfl ?_
          refine lg_get hG dX0_looksInVain_53 rfl (by first | assumption | omega) (by first | assumption | exact va_up_self _ _ _ | (rw [va_up_ne _ _ (by first | assumption | omega)]; first | assumption | exact va_up_self _ _ _ | (rw [va_up_ne _ _ (by first | assumption | omega)]; first | assumption | exact va_up_self _ _ _ | (rw [va_up_ne _ _ (by first | assumption | omega)]; first | assumption | exact va_up_self _ _ _ | (rw [va_up_ne _ _ (by first | assumption | omega)]; first | assumption | exact va_up_self _ _ _))))) (by rfl) ?_
          refine lg_idiv hG dX0_looksInVain_56 (by rw [hu]; exact nI_ne0 hu1 (by omega)) (show (nI p - nI (d + u) + v 6 - 1) / v 6 = nI ((p - (d + u) + (u - 1)) / u) by rw [hu]; exact lk_val (by omega) (by have h9 : ¬ p ≤ (d + u) := (fun h => h_32 ((lk_le (by omega) (by omega)).mpr h)); omega) hu1 (by omega)) ?_
          refine lg_iret hG dX0_looksInVain_57 (Nat.le_of_ble_eq_true rfl) (Nat.le_of_ble_eq_true rfl) ?_
          refine ⟨trivial, ?_⟩
          have h9 : ¬ p ≤ (d + u) := fun h => h_32 ((lk_le (by omega) (by omega)).mpr h)
          have hz : lkv false d u p = (p - (d + u) + (u - 1)) / u := rfl
          rw [hz] at hp
          exact hp
        · skip
          exact absurd h_39 (by rw [hu]; exact lk_pos hu1 (by omega)) --END
    · skip
      rw [ht] at h_4; exact absurd rfl h_4 --END

def rm_X0_takeTurn : Room := { frames := 0, cells := 0, slots := 0, locals := 0 }
theorem ld_X0_takeTurn : yX0_takeTurn.cls ≠ "java/lang/invoke/MethodHandle" ∧ yX0_takeTurn.cls ≠ "java/lang/invoke/VarHandle" ∧ (parseMethodDescriptor yX0_takeTurn.desc).map (fun d => d.parameters.length) = some 0 := by decide +kernel
def sp_X0_takeTurn (ids : Nat → ClassId) : lm_S := fun As n L post _ => ∃ q w c v, As = [.ref q] ∧ q < n ∧ L q = qo w c v ∧ post none n (va_up L q (qo w c (if v 10 = 0 then upd (upd v 10 1) 9 (v 9 + v 6) else v)))
set_option maxHeartbeats 4000000 in
set_option maxRecDepth 20000 in
theorem ok_X0_takeTurn (l : Launch) (D : va_G) (ids : Nat → ClassId) (B b : Nat) : lm_M l D (lm_ty ids) B b false yX0_takeTurn cX0_takeTurn 1 none rm_X0_takeTurn 0 0 (sp_X0_takeTurn ids) := by
  refine lm_method (own := RX0) (fld := lf_0) (cv := (fun _ => none)) (cs := (fun _ => none)) (ci := (fun _ => none)) (kon := (fun _ => none)) (thr := (fun _ => none)) (nw := (fun _ => none)) (ini := false) (cp := none) (alc := false) (by decide +kernel) rfl rfl rfl (lf_0_ok _) ⟨?_, ?_⟩ ?_ (fun h => by cases h) (lm_aok0 _ _ _ _ _ _ _ _) ?_ ?_
  · intro j f hf
    cases hf
  · intro j f hf
    cases hf
  · intro j v hv; cases hv
  · exact Or.inl fun _ => rfl
  rintro As n L post postX ⟨q, w, c, v, rfl, hq, hL, hp⟩
  refine ⟨by simp [Value.category], (Nat.le_of_ble_eq_true rfl), lm_cl_of ?_⟩
  intro G hG
  refine lg_aload_n hG dX0_takeTurn_0 rfl ?_
  refine lg_get hG dX0_takeTurn_1 rfl (by first | assumption | omega) (by first | assumption | exact va_up_self _ _ _ | (rw [va_up_ne _ _ (by first | assumption | omega)]; first | assumption | exact va_up_self _ _ _ | (rw [va_up_ne _ _ (by first | assumption | omega)]; first | assumption | exact va_up_self _ _ _ | (rw [va_up_ne _ _ (by first | assumption | omega)]; first | assumption | exact va_up_self _ _ _ | (rw [va_up_ne _ _ (by first | assumption | omega)]; first | assumption | exact va_up_self _ _ _))))) (by rfl) ?_
  refine lg_if_ne hG dX0_takeTurn_4 (tgt := 25) (by decide) (by decide) (fun h_4 => ?_) (fun h_4 => ?_)
  · skip
    rw [if_neg h_4, va_up_id hL] at hp
    refine lg_vret hG dX0_takeTurn_25 (Nat.le_of_ble_eq_true rfl) (Nat.le_of_ble_eq_true rfl) ?_
    exact ⟨trivial, hp⟩
  · skip
    rw [if_pos h_4] at hp
    refine lg_aload_n hG dX0_takeTurn_7 rfl ?_
    refine lg_iconst hG dX0_takeTurn_8 (x := 1) (by decide) ?_
    refine lg_put hG dX0_takeTurn_9 rfl (by first | assumption | omega) (by first | trivial | exact Or.inl rfl | exact Or.inr rfl | assumption) (by first | assumption | exact va_up_self _ _ _ | (rw [va_up_ne _ _ (by first | assumption | omega)]; first | assumption | exact va_up_self _ _ _ | (rw [va_up_ne _ _ (by first | assumption | omega)]; first | assumption | exact va_up_self _ _ _ | (rw [va_up_ne _ _ (by first | assumption | omega)]; first | assumption | exact va_up_self _ _ _ | (rw [va_up_ne _ _ (by first | assumption | omega)]; first | assumption | exact va_up_self _ _ _))))) (Nat.le_of_ble_eq_true rfl) (by rfl) ?_
    try rw [bx_uu]
    change G _ _ _ _ (va_up L q (qo w c (upd v 10 1))) _ _
    refine lg_aload_n hG dX0_takeTurn_12 rfl ?_
    refine lg_dup hG dX0_takeTurn_13 rfl ?_
    refine lg_get hG dX0_takeTurn_14 rfl (by first | assumption | omega) (by first | assumption | exact va_up_self _ _ _ | (rw [va_up_ne _ _ (by first | assumption | omega)]; first | assumption | exact va_up_self _ _ _ | (rw [va_up_ne _ _ (by first | assumption | omega)]; first | assumption | exact va_up_self _ _ _ | (rw [va_up_ne _ _ (by first | assumption | omega)]; first | assumption | exact va_up_self _ _ _ | (rw [va_up_ne _ _ (by first | assumption | omega)]; first | assumption | exact va_up_self _ _ _))))) (by rfl) ?_
    refine lg_aload_n hG dX0_takeTurn_17 rfl ?_
    refine lg_get hG dX0_takeTurn_18 rfl (by first | assumption | omega) (by first | assumption | exact va_up_self _ _ _ | (rw [va_up_ne _ _ (by first | assumption | omega)]; first | assumption | exact va_up_self _ _ _ | (rw [va_up_ne _ _ (by first | assumption | omega)]; first | assumption | exact va_up_self _ _ _ | (rw [va_up_ne _ _ (by first | assumption | omega)]; first | assumption | exact va_up_self _ _ _ | (rw [va_up_ne _ _ (by first | assumption | omega)]; first | assumption | exact va_up_self _ _ _))))) (by rfl) ?_
    refine lg_iadd hG dX0_takeTurn_21 rfl ?_
    refine lg_put hG dX0_takeTurn_22 rfl (by first | assumption | omega) (by first | trivial | exact Or.inl rfl | exact Or.inr rfl | assumption) (by first | assumption | exact va_up_self _ _ _ | (rw [va_up_ne _ _ (by first | assumption | omega)]; first | assumption | exact va_up_self _ _ _ | (rw [va_up_ne _ _ (by first | assumption | omega)]; first | assumption | exact va_up_self _ _ _ | (rw [va_up_ne _ _ (by first | assumption | omega)]; first | assumption | exact va_up_self _ _ _ | (rw [va_up_ne _ _ (by first | assumption | omega)]; first | assumption | exact va_up_self _ _ _))))) (Nat.le_of_ble_eq_true rfl) (by rfl) ?_
    try rw [bx_uu]
    change G _ _ _ _ (va_up L q (qo w c (upd (upd v 10 1) 9 (v 9 + v 6)))) _ _
    refine lg_vret hG dX0_takeTurn_25 (Nat.le_of_ble_eq_true rfl) (Nat.le_of_ble_eq_true rfl) ?_
    exact ⟨trivial, hp⟩

def rm_X0_lookInVain : Room := { frames := 0, cells := 0, slots := 0, locals := 0 }
theorem ld_X0_lookInVain : yX0_lookInVain.cls ≠ "java/lang/invoke/MethodHandle" ∧ yX0_lookInVain.cls ≠ "java/lang/invoke/VarHandle" ∧ (parseMethodDescriptor yX0_lookInVain.desc).map (fun d => d.parameters.length) = some 1 := by decide +kernel
def sp_X0_lookInVain (ids : Nat → ClassId) : lm_S := fun As n L post _ => ∃ q w c v k d u, As = [.ref q, .int (nI k)] ∧ q < n ∧ L q = qo w c v ∧ v 9 = nI d ∧ v 6 = nI u ∧ k < 2 ^ 20 ∧ post none n (va_up L q (qo w c (if k = 0 then v else upd (upd v 9 (nI (d + (if v 10 = 0 then k else k - 1) * u))) 10 0)))
set_option maxHeartbeats 4000000 in
set_option maxRecDepth 20000 in
theorem ok_X0_lookInVain (l : Launch) (D : va_G) (ids : Nat → ClassId) (B b : Nat) : lm_M l D (lm_ty ids) B b false yX0_lookInVain cX0_lookInVain 3 none rm_X0_lookInVain 0 0 (sp_X0_lookInVain ids) := by
  refine lm_method (own := RX0) (fld := lf_0) (cv := (fun _ => none)) (cs := (fun _ => none)) (ci := (fun _ => none)) (kon := (fun _ => none)) (thr := (fun _ => none)) (nw := (fun _ => none)) (ini := false) (cp := none) (alc := false) (by decide +kernel) rfl rfl rfl (lf_0_ok _) ⟨?_, ?_⟩ ?_ (fun h => by cases h) (lm_aok0 _ _ _ _ _ _ _ _) ?_ ?_
  · intro j f hf
    cases hf
  · intro j f hf
    cases hf
  · intro j v hv; cases hv
  · exact Or.inl fun _ => rfl
  rintro As n L post postX ⟨q, w, c, v, k, d, u, rfl, hq, hL, hd, hu, hk, hp⟩
  refine ⟨by simp [Value.category], (Nat.le_of_ble_eq_true rfl), lm_cl_of ?_⟩
  intro G hG
  refine lg_iload_n hG dX0_lookInVain_0 rfl ?_
  refine lg_if_le hG dX0_lookInVain_1 (tgt := 39) (by decide) (by decide) (fun h_1 => ?_) (fun h_1 => ?_)
  · skip
    have hk0 : k = 0 := by
      rcases Nat.eq_zero_or_pos k with h | h
      · exact h
      · exact absurd h_1 (nI_nle h (by omega))
    rw [if_pos hk0, va_up_id hL] at hp
    refine lg_vret hG dX0_lookInVain_39 (Nat.le_of_ble_eq_true rfl) (Nat.le_of_ble_eq_true rfl) ?_
    exact ⟨trivial, hp⟩
  · skip
    have hk0 : ¬ k = 0 := fun h => by subst h; exact h_1 (by decide)
    rw [if_neg hk0] at hp
    refine lg_aload_n hG dX0_lookInVain_4 rfl ?_
    refine lg_get hG dX0_lookInVain_5 rfl (by first | assumption | omega) (by first | assumption | exact va_up_self _ _ _ | (rw [va_up_ne _ _ (by first | assumption | omega)]; first | assumption | exact va_up_self _ _ _ | (rw [va_up_ne _ _ (by first | assumption | omega)]; first | assumption | exact va_up_self _ _ _ | (rw [va_up_ne _ _ (by first | assumption | omega)]; first | assumption | exact va_up_self _ _ _ | (rw [va_up_ne _ _ (by first | assumption | omega)]; first | assumption | exact va_up_self _ _ _))))) (by rfl) ?_
    refine lg_if_eq hG dX0_lookInVain_8 (tgt := 17) (by decide) (by decide) (fun h_8 => ?_) (fun h_8 => ?_)
    · skip
      rw [if_pos h_8] at hp
      refine lg_iload_n hG dX0_lookInVain_17 rfl ?_
      refine lg_istore_n hG dX0_lookInVain_18 (Nat.le_of_ble_eq_true rfl) rfl ?_
      refine lg_aload_n hG dX0_lookInVain_19 rfl ?_
      refine lg_dup hG dX0_lookInVain_20 rfl ?_
      refine lg_get hG dX0_lookInVain_21 rfl (by first | assumption | omega) (by first | assumption | exact va_up_self _ _ _ | (rw [va_up_ne _ _ (by first | assumption | omega)]; first | assumption | exact va_up_self _ _ _ | (rw [va_up_ne _ _ (by first | assumption | omega)]; first | assumption | exact va_up_self _ _ _ | (rw [va_up_ne _ _ (by first | assumption | omega)]; first | assumption | exact va_up_self _ _ _ | (rw [va_up_ne _ _ (by first | assumption | omega)]; first | assumption | exact va_up_self _ _ _))))) (by rfl) ?_
      refine lg_iload_n hG dX0_lookInVain_24 rfl ?_
      refine lg_aload_n hG dX0_lookInVain_25 rfl ?_
      refine lg_get hG dX0_lookInVain_26 rfl (by first | assumption | omega) (by first | assumption | exact va_up_self _ _ _ | (rw [va_up_ne _ _ (by first | assumption | omega)]; first | assumption | exact va_up_self _ _ _ | (rw [va_up_ne _ _ (by first | assumption | omega)]; first | assumption | exact va_up_self _ _ _ | (rw [va_up_ne _ _ (by first | assumption | omega)]; first | assumption | exact va_up_self _ _ _ | (rw [va_up_ne _ _ (by first | assumption | omega)]; first | assumption | exact va_up_self _ _ _))))) (by rfl) ?_
      refine lg_imul hG dX0_lookInVain_29 (show nI k * v 6 = nI (k * u) by rw [hu]; exact pk_mul _ _) ?_
      refine lg_iadd hG dX0_lookInVain_30 (show v 9 + nI (k * u) = nI (d + k * u) by rw [hd]; exact nI_add _ _) ?_
      refine lg_put hG dX0_lookInVain_31 rfl (by first | assumption | omega) (by first | trivial | exact Or.inl rfl | exact Or.inr rfl | assumption) (by first | assumption | exact va_up_self _ _ _ | (rw [va_up_ne _ _ (by first | assumption | omega)]; first | assumption | exact va_up_self _ _ _ | (rw [va_up_ne _ _ (by first | assumption | omega)]; first | assumption | exact va_up_self _ _ _ | (rw [va_up_ne _ _ (by first | assumption | omega)]; first | assumption | exact va_up_self _ _ _ | (rw [va_up_ne _ _ (by first | assumption | omega)]; first | assumption | exact va_up_self _ _ _))))) (Nat.le_of_ble_eq_true rfl) (by rfl) ?_
      try rw [bx_uu]
      change G _ _ _ _ (va_up L q (qo w c (upd v 9 (nI (d + k * u))))) _ _
      refine lg_aload_n hG dX0_lookInVain_34 rfl ?_
      refine lg_iconst hG dX0_lookInVain_35 (x := 0) (by decide) ?_
      refine lg_put hG dX0_lookInVain_36 rfl (by first | assumption | omega) (by first | trivial | exact Or.inl rfl | exact Or.inr rfl | assumption) (by first | assumption | exact va_up_self _ _ _ | (rw [va_up_ne _ _ (by first | assumption | omega)]; first | assumption | exact va_up_self _ _ _ | (rw [va_up_ne _ _ (by first | assumption | omega)]; first | assumption | exact va_up_self _ _ _ | (rw [va_up_ne _ _ (by first | assumption | omega)]; first | assumption | exact va_up_self _ _ _ | (rw [va_up_ne _ _ (by first | assumption | omega)]; first | assumption | exact va_up_self _ _ _))))) (Nat.le_of_ble_eq_true rfl) (by rfl) ?_
      try rw [bx_uu]
      change G _ _ _ _ (va_up L q (qo w c (upd (upd v 9 (nI (d + k * u))) 10 0))) _ _
      refine lg_vret hG dX0_lookInVain_39 (Nat.le_of_ble_eq_true rfl) (Nat.le_of_ble_eq_true rfl) ?_
      exact ⟨trivial, hp⟩
      --END
    · skip
      rw [if_neg h_8] at hp
      refine lg_iload_n hG dX0_lookInVain_11 rfl ?_
      refine lg_iconst hG dX0_lookInVain_12 (x := 1) (by decide) ?_
      refine lg_isub hG dX0_lookInVain_13 (show nI k - 1 = nI (k - 1) from pk_sub (a := k) (b := 1) (by omega)) ?_
      refine lg_goto hG dX0_lookInVain_14 (tgt := 18) (by decide) (by decide) ?_
      refine lg_istore_n hG dX0_lookInVain_18 (Nat.le_of_ble_eq_true rfl) rfl ?_
      refine lg_aload_n hG dX0_lookInVain_19 rfl ?_
      refine lg_dup hG dX0_lookInVain_20 rfl ?_
      refine lg_get hG dX0_lookInVain_21 rfl (by first | assumption | omega) (by first | assumption | exact va_up_self _ _ _ | (rw [va_up_ne _ _ (by first | assumption | omega)]; first | assumption | exact va_up_self _ _ _ | (rw [va_up_ne _ _ (by first | assumption | omega)]; first | assumption | exact va_up_self _ _ _ | (rw [va_up_ne _ _ (by first | assumption | omega)]; first | assumption | exact va_up_self _ _ _ | (rw [va_up_ne _ _ (by first | assumption | omega)]; first | assumption | exact va_up_self _ _ _))))) (by rfl) ?_
      refine lg_iload_n hG dX0_lookInVain_24 rfl ?_
      refine lg_aload_n hG dX0_lookInVain_25 rfl ?_
      refine lg_get hG dX0_lookInVain_26 rfl (by first | assumption | omega) (by first | assumption | exact va_up_self _ _ _ | (rw [va_up_ne _ _ (by first | assumption | omega)]; first | assumption | exact va_up_self _ _ _ | (rw [va_up_ne _ _ (by first | assumption | omega)]; first | assumption | exact va_up_self _ _ _ | (rw [va_up_ne _ _ (by first | assumption | omega)]; first | assumption | exact va_up_self _ _ _ | (rw [va_up_ne _ _ (by first | assumption | omega)]; first | assumption | exact va_up_self _ _ _))))) (by rfl) ?_
      refine lg_imul hG dX0_lookInVain_29 (show nI (k - 1) * v 6 = nI ((k - 1) * u) by rw [hu]; exact pk_mul _ _) ?_
      refine lg_iadd hG dX0_lookInVain_30 (show v 9 + nI ((k - 1) * u) = nI (d + (k - 1) * u) by rw [hd]; exact nI_add _ _) ?_
      refine lg_put hG dX0_lookInVain_31 rfl (by first | assumption | omega) (by first | trivial | exact Or.inl rfl | exact Or.inr rfl | assumption) (by first | assumption | exact va_up_self _ _ _ | (rw [va_up_ne _ _ (by first | assumption | omega)]; first | assumption | exact va_up_self _ _ _ | (rw [va_up_ne _ _ (by first | assumption | omega)]; first | assumption | exact va_up_self _ _ _ | (rw [va_up_ne _ _ (by first | assumption | omega)]; first | assumption | exact va_up_self _ _ _ | (rw [va_up_ne _ _ (by first | assumption | omega)]; first | assumption | exact va_up_self _ _ _))))) (Nat.le_of_ble_eq_true rfl) (by rfl) ?_
      try rw [bx_uu]
      change G _ _ _ _ (va_up L q (qo w c (upd v 9 (nI (d + (k - 1) * u))))) _ _
      refine lg_aload_n hG dX0_lookInVain_34 rfl ?_
      refine lg_iconst hG dX0_lookInVain_35 (x := 0) (by decide) ?_
      refine lg_put hG dX0_lookInVain_36 rfl (by first | assumption | omega) (by first | trivial | exact Or.inl rfl | exact Or.inr rfl | assumption) (by first | assumption | exact va_up_self _ _ _ | (rw [va_up_ne _ _ (by first | assumption | omega)]; first | assumption | exact va_up_self _ _ _ | (rw [va_up_ne _ _ (by first | assumption | omega)]; first | assumption | exact va_up_self _ _ _ | (rw [va_up_ne _ _ (by first | assumption | omega)]; first | assumption | exact va_up_self _ _ _ | (rw [va_up_ne _ _ (by first | assumption | omega)]; first | assumption | exact va_up_self _ _ _))))) (Nat.le_of_ble_eq_true rfl) (by rfl) ?_
      try rw [bx_uu]
      change G _ _ _ _ (va_up L q (qo w c (upd (upd v 9 (nI (d + (k - 1) * u))) 10 0))) _ _
      refine lg_vret hG dX0_lookInVain_39 (Nat.le_of_ble_eq_true rfl) (Nat.le_of_ble_eq_true rfl) ?_
      exact ⟨trivial, hp⟩
      --END
end
section
def ro (o : Nat) (sz : Int32) : va_E := .inr (1, [.ref o, .int sz])
/-- the first places of a row hold the list -/
def LF (l : List Nat) (f : Nat → Int32) : Prop := ∀ (k x : Nat), l[k]? = some x → f k = nI x
/-- a Ring at the place r, its row at o, that holds the list l -/
def RH (ids : Nat → ClassId) (n : Nat) (L : lm_L) (r o : Nat) (l : List Nat) (f : Nat → Int32) : Prop := r < n ∧ o < n ∧ r ≠ o ∧ L r = ro o (nI l.length) ∧ L o = ia (ids 0) 12 f ∧ l.length ≤ 12 ∧ LF l f ∧ ∀ x ∈ l, x < 12
/-- .. laid anew -/
def RU (ids : Nat → ClassId) (L : lm_L) (r o : Nat) (l : List Nat) (f : Nat → Int32) : lm_L := va_up (va_up L o (ia (ids 0) 12 f)) r (ro o (nI l.length))
theorem va_up_comm {α : Type} {f : Nat → α} {i j : Nat} (h : i ≠ j) (a b : α) : va_up (va_up f i a) j b = va_up (va_up f j b) i a := by
  funext k
  by_cases h1 : k = i
  · subst h1; rw [va_up_ne _ _ h, va_up_self, va_up_self]
  · by_cases h2 : k = j
    · subst h2; rw [va_up_self, va_up_ne _ _ h1, va_up_self]
    · rw [va_up_ne _ _ h2, va_up_ne _ _ h1, va_up_ne _ _ h1, va_up_ne _ _ h2]
theorem RU_at {ids : Nat → ClassId} {L : lm_L} {r o j : Nat} {l : List Nat} {f : Nat → Int32} (h1 : j ≠ r) (h2 : j ≠ o) : RU ids L r o l f j = L j := by
  unfold RU
  rw [va_up_ne _ _ h1, va_up_ne _ _ h2]
theorem RU_RH {ids : Nat → ClassId} {n : Nat} {L : lm_L} {r o : Nat} {l l1 : List Nat} {f f1 : Nat → Int32} (h : RH ids n L r o l f) (h1 : LF l1 f1) (h2 : l1.length ≤ 12) (h3 : ∀ x ∈ l1, x < 12) : RH ids n (RU ids L r o l1 f1) r o l1 f1 := by
  obtain ⟨a1, a2, a3, -⟩ := h
  refine ⟨a1, a2, a3, va_up_self _ _ _, ?_, h2, h1, h3⟩
  unfold RU
  rw [va_up_ne _ _ a3.symm, va_up_self]
theorem RU_RU {ids : Nat → ClassId} {L : lm_L} {r o : Nat} (h : r ≠ o) {l l1 : List Nat} {f f1 : Nat → Int32} : RU ids (RU ids L r o l f) r o l1 f1 = RU ids L r o l1 f1 := by
  unfold RU
  rw [va_up_comm h, bx_uu, bx_uu]
theorem rg_idx : ∀ (l : List Nat) (k x : Nat), l[k]? = some x → x ∉ l.take k → x ∈ l ∧ l.idxOf x = k
  | [], k, x, h, _ => by simp at h
  | y :: l, 0, x, h, _ => by
    simp at h
    subst h
    exact ⟨List.mem_cons_self, by simp⟩
  | y :: l, k + 1, x, h, hn => by
    simp at h hn
    obtain ⟨h1, h2⟩ := rg_idx l k x h hn.2
    refine ⟨List.mem_cons_of_mem _ h1, ?_⟩
    rw [List.idxOf_cons]
    have : (y == x) = false := by simpa using fun e : y = x => hn.1 e.symm
    rw [this]
    simp [h2]
theorem rg_take {l : List Nat} {k x y : Nat} (h : l[k]? = some y) (hn : x ∉ l.take k) (hy : y ≠ x) : x ∉ l.take (k + 1) := by
  rw [List.take_add_one, h]
  simp
  exact ⟨hn, fun e => hy e.symm⟩
theorem LF_snoc {l : List Nat} {f : Nat → Int32} {x : Nat} (h : LF l f) : LF (l ++ [x]) (upd f l.length (nI x)) := by
  intro k y hk
  by_cases hkl : k < l.length
  · rw [List.getElem?_append_left hkl] at hk
    rw [pk_un (by omega)]
    exact h k y hk
  · rw [List.getElem?_append_right (by omega)] at hk
    have hz : k - l.length = 0 := by
      have := (List.getElem?_eq_some_iff.mp hk).1
      simp at this
      omega
    rw [hz] at hk
    simp at hk
    subst hk
    rw [show k = l.length by omega, pk_us]
theorem er_get : ∀ (l : List Nat) (x k : Nat), x ∈ l → (l.erase x)[k]? = if k < l.idxOf x then l[k]? else l[k + 1]?
  | [], x, k, h => by simp at h
  | y :: l, x, k, h => by
    by_cases e : y = x
    · subst e; simp
    · have h2 : x ∈ l := by
        rcases List.mem_cons.mp h with h | h
        · exact absurd h.symm e
        · exact h
      have e2 : (y == x) = false := by simpa using e
      rw [List.erase_cons, List.idxOf_cons, e2]
      simp only [Bool.false_eq_true, if_false, cond_false]
      cases k with
      | zero => simp
      | succ k =>
        have := er_get l x k h2
        simp only [List.getElem?_cons_succ, this, Nat.add_lt_add_iff_right]
theorem LF_erase {l : List Nat} {f : Nat → Int32} {x : Nat} (h : LF l f) (hx : x ∈ l) : LF (l.erase x) (va_cpy f f (l.idxOf x + 1) (l.idxOf x) (l.length - 1 - l.idxOf x)) := by
  intro k y hk
  have hlen : k < (l.erase x).length := (List.getElem?_eq_some_iff.mp hk).1
  rw [List.length_erase_of_mem hx] at hlen
  rw [er_get l x k hx] at hk
  by_cases hi : k < l.idxOf x
  · rw [if_pos hi] at hk
    rw [pk_cpy_out (Or.inl hi)]
    exact h k y hk
  · rw [if_neg hi] at hk
    rw [pk_cpy_in (by omega) (by omega), show l.idxOf x + 1 + (k - l.idxOf x) = k + 1 by omega]
    exact h _ y hk
theorem rg_turn {l : List Nat} {j : Nat} (h : j < l.length) : ∃ x t, l.drop j ++ l.take j = x :: t ∧ l.drop (j + 1) ++ l.take (j + 1) = t ++ [x] := by
  refine ⟨l[j], l.drop (j + 1) ++ l.take j, ?_, ?_⟩
  · rw [List.drop_eq_getElem_cons h]; rfl
  · rw [List.take_add_one, List.getElem?_eq_getElem h]; simp
def rm_X1_queueAt : Room := { frames := 0, cells := 0, slots := 0, locals := 0 }
theorem ld_X1_queueAt : yX1_queueAt.cls ≠ "java/lang/invoke/MethodHandle" ∧ yX1_queueAt.cls ≠ "java/lang/invoke/VarHandle" ∧ (parseMethodDescriptor yX1_queueAt.desc).map (fun d => d.parameters.length) = some 1 := by decide +kernel
def sp_X1_queueAt (ids : Nat → ClassId) : lm_S := fun As n L post _ => ∃ r o l f k x, As = [.ref r, .int (nI k)] ∧ RH ids n L r o l f ∧ l[k]? = some x ∧ post (some (.int (nI x))) n L
set_option maxHeartbeats 4000000 in
set_option maxRecDepth 20000 in
theorem ok_X1_queueAt (l : Launch) (D : va_G) (ids : Nat → ClassId) (B b : Nat) : lm_M l D (lm_ty ids) B b false yX1_queueAt cX1_queueAt 2 (some .int) rm_X1_queueAt 0 0 (sp_X1_queueAt ids) := by
  refine lm_method (own := RX1) (fld := lf_1) (cv := (fun _ => none)) (cs := (fun _ => none)) (ci := (fun _ => none)) (kon := (fun _ => none)) (thr := (fun _ => none)) (nw := (fun _ => none)) (ini := false) (cp := none) (alc := false) (by decide +kernel) rfl rfl rfl (lf_1_ok _) ⟨?_, ?_⟩ ?_ (fun h => by cases h) (lm_aok0 _ _ _ _ _ _ _ _) ?_ ?_
  · intro j f hf
    cases hf
  · intro j f hf
    cases hf
  · intro j v hv; cases hv
  · exact Or.inl fun _ => rfl
  rintro As n L post postX ⟨r, o, l, f, k, x, rfl, Q, hk, hp⟩
  refine ⟨by simp [Value.category], (Nat.le_of_ble_eq_true rfl), lm_cl_of ?_⟩
  intro G hG
  obtain ⟨hr, ho, hro, hLr, hLo, hl12, hLF, hx12⟩ := Q
  have hk2 := (List.getElem?_eq_some_iff.mp hk).1
  refine lg_aload_n hG dX1_queueAt_0 rfl ?_
  refine lg_get hG dX1_queueAt_1 rfl (by first | assumption | omega) (by first | assumption | exact va_up_self _ _ _ | (rw [va_up_ne _ _ (by first | assumption | omega)]; first | assumption | exact va_up_self _ _ _ | (rw [va_up_ne _ _ (by first | assumption | omega)]; first | assumption | exact va_up_self _ _ _ | (rw [va_up_ne _ _ (by first | assumption | omega)]; first | assumption | exact va_up_self _ _ _ | (rw [va_up_ne _ _ (by first | assumption | omega)]; first | assumption | exact va_up_self _ _ _))))) (by rfl) ?_
  refine lg_iload_n hG dX1_queueAt_4 rfl ?_
  refine lg_iald hG dX1_queueAt_5 (by first | assumption | omega) (by first | assumption | exact va_up_self _ _ _ | (rw [va_up_ne _ _ (by first | assumption | omega)]; first | assumption | exact va_up_self _ _ _ | (rw [va_up_ne _ _ (by first | assumption | omega)]; first | assumption | exact va_up_self _ _ _ | (rw [va_up_ne _ _ (by first | assumption | omega)]; first | assumption | exact va_up_self _ _ _ | (rw [va_up_ne _ _ (by first | assumption | omega)]; first | assumption | exact va_up_self _ _ _))))) (vp_in_nI (by omega) (by decide)) ?_
  rw [nI_clamp (by omega), hLF k x hk]
  refine lg_iret hG dX1_queueAt_6 (Nat.le_of_ble_eq_true rfl) (Nat.le_of_ble_eq_true rfl) ?_
  exact ⟨trivial, hp⟩

def rm_X1_placeOf : Room := { frames := 0, cells := 0, slots := 0, locals := 0 }
theorem ld_X1_placeOf : yX1_placeOf.cls ≠ "java/lang/invoke/MethodHandle" ∧ yX1_placeOf.cls ≠ "java/lang/invoke/VarHandle" ∧ (parseMethodDescriptor yX1_placeOf.desc).map (fun d => d.parameters.length) = some 1 := by decide +kernel
def sp_X1_placeOf (ids : Nat → ClassId) : lm_S := fun As n L post _ => ∃ r o l f x, As = [.ref r, .int (nI x)] ∧ RH ids n L r o l f ∧ x < 12 ∧ post (some (.int (if x ∈ l then nI (l.idxOf x) else -1))) n L
set_option maxHeartbeats 4000000 in
set_option maxRecDepth 20000 in
theorem ok_X1_placeOf (l : Launch) (D : va_G) (ids : Nat → ClassId) (B b : Nat) : lm_M l D (lm_ty ids) B b false yX1_placeOf cX1_placeOf 3 (some .int) rm_X1_placeOf 0 0 (sp_X1_placeOf ids) := by
  refine lm_method (own := RX1) (fld := lf_1) (cv := (fun _ => none)) (cs := (fun _ => none)) (ci := (fun _ => none)) (kon := (fun _ => none)) (thr := (fun _ => none)) (nw := (fun _ => none)) (ini := false) (cp := none) (alc := false) (by decide +kernel) rfl rfl rfl (lf_1_ok _) ⟨?_, ?_⟩ ?_ (fun h => by cases h) (lm_aok0 _ _ _ _ _ _ _ _) ?_ ?_
  · intro j f hf
    cases hf
  · intro j f hf
    cases hf
  · intro j v hv; cases hv
  · exact Or.inl fun _ => rfl
  rintro As n L post postX ⟨r, o, l, f, x, rfl, Q, hx, hp⟩
  refine ⟨by simp [Value.category], (Nat.le_of_ble_eq_true rfl), lm_cl_of ?_⟩
  intro G hG
  obtain ⟨hr, ho, hro, hLr, hLo, hl12, hLF, hx12⟩ := Q
  have loop : ∀ (m k : Nat), k ≤ l.length → l.length - k < m → x ∉ l.take k → G 2 [some (.ref r), some (.int (nI x)), some (.int (nI k))] [] n L 0 0 := by
    intro m
    induction m with
    | zero => intro k h1 h2; omega
    | succ m ih =>
      intro k hk hkm hn
      refine lg_iload_n hG dX1_placeOf_2 rfl ?_
      refine lg_aload_n hG dX1_placeOf_3 rfl ?_
      refine lg_get hG dX1_placeOf_4 rfl (by first | assumption | omega) (by first | assumption | exact va_up_self _ _ _ | (rw [va_up_ne _ _ (by first | assumption | omega)]; first | assumption | exact va_up_self _ _ _ | (rw [va_up_ne _ _ (by first | assumption | omega)]; first | assumption | exact va_up_self _ _ _ | (rw [va_up_ne _ _ (by first | assumption | omega)]; first | assumption | exact va_up_self _ _ _ | (rw [va_up_ne _ _ (by first | assumption | omega)]; first | assumption | exact va_up_self _ _ _))))) (by rfl) ?_
      refine lg_icmp_ge hG dX1_placeOf_7 (tgt := 28) (by decide) (by decide) (fun h_7 => ?_) (fun h_7 => ?_)
      · skip
        have hkl : k = l.length := by
          rcases Nat.lt_or_ge k l.length with h | h
          · exact absurd (nI_lt h (by omega)) h_7
          · omega
        have hnl : x ∉ l := by rw [hkl, List.take_length] at hn; exact hn
        rw [if_neg hnl] at hp
        refine lg_iconst hG dX1_placeOf_28 (x := (-1)) (by decide) ?_
        refine lg_iret hG dX1_placeOf_29 (Nat.le_of_ble_eq_true rfl) (Nat.le_of_ble_eq_true rfl) ?_
        exact ⟨trivial, hp⟩
      · skip
        have hkl : k < l.length := (nI_ltI (by omega) (by omega)).mp h_7
        obtain ⟨y, hy⟩ : ∃ y, l[k]? = some y := ⟨_, List.getElem?_eq_getElem hkl⟩
        have hy12 := hx12 y (List.mem_of_getElem? hy)
        refine lg_aload_n hG dX1_placeOf_10 rfl ?_
        refine lg_get hG dX1_placeOf_11 rfl (by first | assumption | omega) (by first | assumption | exact va_up_self _ _ _ | (rw [va_up_ne _ _ (by first | assumption | omega)]; first | assumption | exact va_up_self _ _ _ | (rw [va_up_ne _ _ (by first | assumption | omega)]; first | assumption | exact va_up_self _ _ _ | (rw [va_up_ne _ _ (by first | assumption | omega)]; first | assumption | exact va_up_self _ _ _ | (rw [va_up_ne _ _ (by first | assumption | omega)]; first | assumption | exact va_up_self _ _ _))))) (by rfl) ?_
        refine lg_iload_n hG dX1_placeOf_14 rfl ?_
        refine lg_iald hG dX1_placeOf_15 (by first | assumption | omega) (by first | assumption | exact va_up_self _ _ _ | (rw [va_up_ne _ _ (by first | assumption | omega)]; first | assumption | exact va_up_self _ _ _ | (rw [va_up_ne _ _ (by first | assumption | omega)]; first | assumption | exact va_up_self _ _ _ | (rw [va_up_ne _ _ (by first | assumption | omega)]; first | assumption | exact va_up_self _ _ _ | (rw [va_up_ne _ _ (by first | assumption | omega)]; first | assumption | exact va_up_self _ _ _))))) (vp_in_nI (by omega) (by decide)) ?_
        rw [nI_clamp (by omega), hLF k y hy]
        refine lg_iload_n hG dX1_placeOf_16 rfl ?_
        refine lg_icmp_ne hG dX1_placeOf_17 (tgt := 22) (by decide) (by decide) (fun h_17 => ?_) (fun h_17 => ?_)
        · skip
          have hyx : y ≠ x := fun e => h_17 (by rw [e])
          refine lg_iinc hG dX1_placeOf_22 (Nat.le_of_ble_eq_true rfl) rfl rfl rfl ?_
          refine lg_goto hG dX1_placeOf_25 (tgt := 2) (by decide) (by decide) ?_
          rw [show nI k + Int32.ofInt 1 = nI (k + 1) from nI_1 k]
          exact ih (k + 1) (by omega) (by omega) (rg_take hy hn hyx)
        · skip
          have hyx : y = x := (nI_eq (by omega) (by omega)).mp h_17
          subst hyx
          obtain ⟨hml, hix⟩ := rg_idx l k y hy hn
          rw [if_pos hml, hix] at hp
          refine lg_iload_n hG dX1_placeOf_20 rfl ?_
          refine lg_iret hG dX1_placeOf_21 (Nat.le_of_ble_eq_true rfl) (Nat.le_of_ble_eq_true rfl) ?_
          exact ⟨trivial, hp⟩
  refine lg_iconst hG dX1_placeOf_0 (x := 0) (by decide) ?_
  refine lg_istore_n hG dX1_placeOf_1 (Nat.le_of_ble_eq_true rfl) rfl ?_
  exact loop (l.length + 1) 0 (by omega) (by omega) (by simp)

def rm_X1_putAtEnd : Room := { frames := 0, cells := 0, slots := 0, locals := 0 }
theorem ld_X1_putAtEnd : yX1_putAtEnd.cls ≠ "java/lang/invoke/MethodHandle" ∧ yX1_putAtEnd.cls ≠ "java/lang/invoke/VarHandle" ∧ (parseMethodDescriptor yX1_putAtEnd.desc).map (fun d => d.parameters.length) = some 1 := by decide +kernel
def sp_X1_putAtEnd (ids : Nat → ClassId) : lm_S := fun As n L post _ => ∃ r o l f x, As = [.ref r, .int (nI x)] ∧ RH ids n L r o l f ∧ l.length < 12 ∧ ∀ f1, LF (l ++ [x]) f1 → post none n (RU ids L r o (l ++ [x]) f1)
set_option maxHeartbeats 4000000 in
set_option maxRecDepth 20000 in
theorem ok_X1_putAtEnd (l : Launch) (D : va_G) (ids : Nat → ClassId) (B b : Nat) : lm_M l D (lm_ty ids) B b false yX1_putAtEnd cX1_putAtEnd 2 none rm_X1_putAtEnd 0 0 (sp_X1_putAtEnd ids) := by
  refine lm_method (own := RX1) (fld := lf_1) (cv := (fun _ => none)) (cs := (fun _ => none)) (ci := (fun _ => none)) (kon := (fun _ => none)) (thr := (fun _ => none)) (nw := (fun _ => none)) (ini := false) (cp := none) (alc := false) (by decide +kernel) rfl rfl rfl (lf_1_ok _) ⟨?_, ?_⟩ ?_ (fun h => by cases h) (lm_aok0 _ _ _ _ _ _ _ _) ?_ ?_
  · intro j f hf
    cases hf
  · intro j f hf
    cases hf
  · intro j v hv; cases hv
  · exact Or.inl fun _ => rfl
  rintro As n L post postX ⟨r, o, l, f, x, rfl, Q, hx, hp⟩
  refine ⟨by simp [Value.category], (Nat.le_of_ble_eq_true rfl), lm_cl_of ?_⟩
  intro G hG
  obtain ⟨hr, ho, hro, hLr, hLo, hl12, hLF, hx12⟩ := Q
  have hp := hp _ (LF_snoc (x := x) hLF)
  have hor := hro.symm
  refine lg_aload_n hG dX1_putAtEnd_0 rfl ?_
  refine lg_get hG dX1_putAtEnd_1 rfl (by first | assumption | omega) (by first | assumption | exact va_up_self _ _ _ | (rw [va_up_ne _ _ (by first | assumption | omega)]; first | assumption | exact va_up_self _ _ _ | (rw [va_up_ne _ _ (by first | assumption | omega)]; first | assumption | exact va_up_self _ _ _ | (rw [va_up_ne _ _ (by first | assumption | omega)]; first | assumption | exact va_up_self _ _ _ | (rw [va_up_ne _ _ (by first | assumption | omega)]; first | assumption | exact va_up_self _ _ _))))) (by rfl) ?_
  refine lg_bipush hG dX1_putAtEnd_4 (x := (12)) (by decide) ?_
  refine lg_icmp_ge hG dX1_putAtEnd_6 (tgt := 29) (by decide) (by decide) (fun h_6 => ?_) (fun h_6 => ?_)
  · skip
    exact absurd (nI_lt (a := l.length) (b := 12) hx (by decide)) h_6 --END
  · skip
    refine lg_aload_n hG dX1_putAtEnd_9 rfl ?_
    refine lg_get hG dX1_putAtEnd_10 rfl (by first | assumption | omega) (by first | assumption | exact va_up_self _ _ _ | (rw [va_up_ne _ _ (by first | assumption | omega)]; first | assumption | exact va_up_self _ _ _ | (rw [va_up_ne _ _ (by first | assumption | omega)]; first | assumption | exact va_up_self _ _ _ | (rw [va_up_ne _ _ (by first | assumption | omega)]; first | assumption | exact va_up_self _ _ _ | (rw [va_up_ne _ _ (by first | assumption | omega)]; first | assumption | exact va_up_self _ _ _))))) (by rfl) ?_
    refine lg_aload_n hG dX1_putAtEnd_13 rfl ?_
    refine lg_get hG dX1_putAtEnd_14 rfl (by first | assumption | omega) (by first | assumption | exact va_up_self _ _ _ | (rw [va_up_ne _ _ (by first | assumption | omega)]; first | assumption | exact va_up_self _ _ _ | (rw [va_up_ne _ _ (by first | assumption | omega)]; first | assumption | exact va_up_self _ _ _ | (rw [va_up_ne _ _ (by first | assumption | omega)]; first | assumption | exact va_up_self _ _ _ | (rw [va_up_ne _ _ (by first | assumption | omega)]; first | assumption | exact va_up_self _ _ _))))) (by rfl) ?_
    refine lg_iload_n hG dX1_putAtEnd_17 rfl ?_
    refine lg_iast hG dX1_putAtEnd_18 (by first | assumption | omega) (by first | assumption | exact va_up_self _ _ _ | (rw [va_up_ne _ _ (by first | assumption | omega)]; first | assumption | exact va_up_self _ _ _ | (rw [va_up_ne _ _ (by first | assumption | omega)]; first | assumption | exact va_up_self _ _ _ | (rw [va_up_ne _ _ (by first | assumption | omega)]; first | assumption | exact va_up_self _ _ _ | (rw [va_up_ne _ _ (by first | assumption | omega)]; first | assumption | exact va_up_self _ _ _))))) (vp_in_nI hx (by decide)) ?_
    rw [nI_clamp (by omega)]
    refine lg_aload_n hG dX1_putAtEnd_19 rfl ?_
    refine lg_dup hG dX1_putAtEnd_20 rfl ?_
    refine lg_get hG dX1_putAtEnd_21 rfl (by first | assumption | omega) (by first | assumption | exact va_up_self _ _ _ | (rw [va_up_ne _ _ (by first | assumption | omega)]; first | assumption | exact va_up_self _ _ _ | (rw [va_up_ne _ _ (by first | assumption | omega)]; first | assumption | exact va_up_self _ _ _ | (rw [va_up_ne _ _ (by first | assumption | omega)]; first | assumption | exact va_up_self _ _ _ | (rw [va_up_ne _ _ (by first | assumption | omega)]; first | assumption | exact va_up_self _ _ _))))) (by rfl) ?_
    refine lg_iconst hG dX1_putAtEnd_24 (x := 1) (by decide) ?_
    refine lg_iadd hG dX1_putAtEnd_25 (nI_1 l.length) ?_
    refine lg_put hG dX1_putAtEnd_26 rfl (by first | assumption | omega) (by first | trivial | exact Or.inl rfl | exact Or.inr rfl | assumption) (by first | assumption | exact va_up_self _ _ _ | (rw [va_up_ne _ _ (by first | assumption | omega)]; first | assumption | exact va_up_self _ _ _ | (rw [va_up_ne _ _ (by first | assumption | omega)]; first | assumption | exact va_up_self _ _ _ | (rw [va_up_ne _ _ (by first | assumption | omega)]; first | assumption | exact va_up_self _ _ _ | (rw [va_up_ne _ _ (by first | assumption | omega)]; first | assumption | exact va_up_self _ _ _))))) (Nat.le_of_ble_eq_true rfl) (by rfl) ?_
    try rw [bx_uu]
    change G _ _ _ _ (va_up (va_up L o (ia (ids 0) 12 (upd f l.length (nI x)))) r (ro o (nI (l.length + 1)))) _ _
    refine lg_vret hG dX1_putAtEnd_29 (Nat.le_of_ble_eq_true rfl) (Nat.le_of_ble_eq_true rfl) ?_
    refine ⟨trivial, ?_⟩
    unfold RU at hp
    rw [List.length_append] at hp
    exact hp

theorem nI_nm1 {a : Nat} (h : a < 2 ^ 31) : ¬ nI a = nI (2 ^ 32 - 1) := by
  intro e
  have := congrArg Int32.toInt e
  rw [nI_toInt h] at this
  have h2 : (nI (2 ^ 32 - 1)).toInt = -1 := by decide
  omega
def rm_X1_takeOut : Room := { frames := 1, cells := 0, slots := 0, locals := 26 }
theorem ld_X1_takeOut : yX1_takeOut.cls ≠ "java/lang/invoke/MethodHandle" ∧ yX1_takeOut.cls ≠ "java/lang/invoke/VarHandle" ∧ (parseMethodDescriptor yX1_takeOut.desc).map (fun d => d.parameters.length) = some 1 := by decide +kernel
def sp_X1_takeOut (ids : Nat → ClassId) : lm_S := fun As n L post _ => ∃ r o l f x, As = [.ref r, .int (nI x)] ∧ RH ids n L r o l f ∧ x ∈ l ∧ ∀ f1, LF (l.erase x) f1 → post none n (RU ids L r o (l.erase x) f1)
def cv_X1_takeOut (ids : Nat → ClassId) : Nat → Option lm_C := fun j => match j with
  | 19 => some (2, 1, sp_X1_placeOf ids, 0, 0)
  | _ => none
set_option maxHeartbeats 4000000 in
set_option maxRecDepth 20000 in
theorem ok_X1_takeOut (l : Launch) (D : va_G) (ids : Nat → ClassId) (B b : Nat) : lm_M l D (lm_ty ids) B b false yX1_takeOut cX1_takeOut 3 none rm_X1_takeOut 0 0 (sp_X1_takeOut ids) := by
  refine lm_method (own := RX1) (fld := lf_1) (cv := (cv_X1_takeOut ids)) (cs := (fun _ => none)) (ci := (fun _ => none)) (kon := (fun _ => none)) (thr := (fun _ => none)) (nw := (fun _ => none)) (ini := false) (cp := (some 23)) (alc := false) (by decide +kernel) rfl rfl rfl (lf_1_ok _) ⟨?_, ?_⟩ ?_ (fun h => by cases h) ⟨(fun j h => by cases h; exact ⟨rfl, lm_wt 203 rfl rfl, lm_wt 205 rfl rfl, lm_wt 204 rfl rfl, lm_wt 39 rfl rfl, by decide, by decide⟩), (fun _ _ h => by cases h), (fun h => by cases h), (fun _ _ h => by cases h)⟩ ?_ ?_
  · intro j f hf
    unfold cv_X1_takeOut at hf
    split at hf
    · cases hf; exact ⟨yX1_placeOf, cX1_placeOf, 3, (some .int), rm_X1_placeOf, RX1, TX1, 2, 1, rfl, rfl, ok_X1_placeOf l D ids B b, lw_1_placeOf, ll_1_19, rfl, rfl, ⟨rfl, ld_X1_placeOf⟩, by decide⟩
    · cases hf
  · intro j f hf
    cases hf
  · intro j v hv; cases hv
  · exact Or.inl fun _ => rfl
  rintro As n L post postX ⟨r, o, l, f, x, rfl, Q, hx, hp⟩
  refine ⟨by simp [Value.category], (Nat.le_of_ble_eq_true rfl), lm_cl_of ?_⟩
  intro G hG
  have Q9 := Q
  obtain ⟨hr, ho, hro, hLr, hLo, hl12, hLF, hx12⟩ := Q
  have hp := hp _ (LF_erase hLF hx)
  have hor := hro.symm
  have hix : l.idxOf x < l.length := List.idxOf_lt_length_of_mem hx
  have hle := List.length_erase_of_mem hx
  refine lg_aload_n hG dX1_takeOut_0 rfl ?_
  refine lg_iload_n hG dX1_takeOut_1 rfl ?_
  refine lg_callV hG dX1_takeOut_2 rfl (fun P h => h) (by first | assumption | omega) (by first | assumption | exact va_up_self _ _ _ | (rw [va_up_ne _ _ (by first | assumption | omega)]; first | assumption | exact va_up_self _ _ _ | (rw [va_up_ne _ _ (by first | assumption | omega)]; first | assumption | exact va_up_self _ _ _ | (rw [va_up_ne _ _ (by first | assumption | omega)]; first | assumption | exact va_up_self _ _ _ | (rw [va_up_ne _ _ (by first | assumption | omega)]; first | assumption | exact va_up_self _ _ _))))) (Nat.le_of_ble_eq_true rfl) (Nat.le_of_ble_eq_true rfl) (Nat.le_of_ble_eq_true rfl) ?_
  refine ⟨r, o, l, f, x, rfl, Q9, hx12 x hx, ?_⟩
  rw [if_pos hx]
  refine lg_istore_n hG dX1_takeOut_5 (Nat.le_of_ble_eq_true rfl) rfl ?_
  refine lg_iload_n hG dX1_takeOut_6 rfl ?_
  refine lg_iconst hG dX1_takeOut_7 (x := (-1)) (by decide) ?_
  refine lg_icmp_eq hG dX1_takeOut_8 (tgt := 42) (by decide) (by decide) (fun h_8 => ?_) (fun h_8 => ?_)
  · skip
    exact absurd h_8 (by rw [show (-1 : Int32) = nI (2 ^ 32 - 1) from rfl]; exact nI_nm1 (by omega)) --END
  · skip
    refine lg_aload_n hG dX1_takeOut_11 rfl ?_
    refine lg_dup hG dX1_takeOut_12 rfl ?_
    refine lg_get hG dX1_takeOut_13 rfl (by first | assumption | omega) (by first | assumption | exact va_up_self _ _ _ | (rw [va_up_ne _ _ (by first | assumption | omega)]; first | assumption | exact va_up_self _ _ _ | (rw [va_up_ne _ _ (by first | assumption | omega)]; first | assumption | exact va_up_self _ _ _ | (rw [va_up_ne _ _ (by first | assumption | omega)]; first | assumption | exact va_up_self _ _ _ | (rw [va_up_ne _ _ (by first | assumption | omega)]; first | assumption | exact va_up_self _ _ _))))) (by rfl) ?_
    refine lg_iconst hG dX1_takeOut_16 (x := 1) (by decide) ?_
    refine lg_isub hG dX1_takeOut_17 (show nI l.length - 1 = nI (l.length - 1) from pk_sub (a := l.length) (b := 1) (by omega)) ?_
    refine lg_put hG dX1_takeOut_18 rfl (by first | assumption | omega) (by first | trivial | exact Or.inl rfl | exact Or.inr rfl | assumption) (by first | assumption | exact va_up_self _ _ _ | (rw [va_up_ne _ _ (by first | assumption | omega)]; first | assumption | exact va_up_self _ _ _ | (rw [va_up_ne _ _ (by first | assumption | omega)]; first | assumption | exact va_up_self _ _ _ | (rw [va_up_ne _ _ (by first | assumption | omega)]; first | assumption | exact va_up_self _ _ _ | (rw [va_up_ne _ _ (by first | assumption | omega)]; first | assumption | exact va_up_self _ _ _))))) (Nat.le_of_ble_eq_true rfl) (by rfl) ?_
    try rw [bx_uu]
    change G _ _ _ _ (va_up L r (ro o (nI (l.length - 1)))) _ _
    refine lg_aload_n hG dX1_takeOut_21 rfl ?_
    refine lg_get hG dX1_takeOut_22 rfl (by first | assumption | omega) (by first | assumption | exact va_up_self _ _ _ | (rw [va_up_ne _ _ (by first | assumption | omega)]; first | assumption | exact va_up_self _ _ _ | (rw [va_up_ne _ _ (by first | assumption | omega)]; first | assumption | exact va_up_self _ _ _ | (rw [va_up_ne _ _ (by first | assumption | omega)]; first | assumption | exact va_up_self _ _ _ | (rw [va_up_ne _ _ (by first | assumption | omega)]; first | assumption | exact va_up_self _ _ _))))) (by rfl) ?_
    refine lg_iload_n hG dX1_takeOut_25 rfl ?_
    refine lg_iconst hG dX1_takeOut_26 (x := 1) (by decide) ?_
    refine lg_iadd hG dX1_takeOut_27 (nI_1 (l.idxOf x)) ?_
    refine lg_aload_n hG dX1_takeOut_28 rfl ?_
    refine lg_get hG dX1_takeOut_29 rfl (by first | assumption | omega) (by first | assumption | exact va_up_self _ _ _ | (rw [va_up_ne _ _ (by first | assumption | omega)]; first | assumption | exact va_up_self _ _ _ | (rw [va_up_ne _ _ (by first | assumption | omega)]; first | assumption | exact va_up_self _ _ _ | (rw [va_up_ne _ _ (by first | assumption | omega)]; first | assumption | exact va_up_self _ _ _ | (rw [va_up_ne _ _ (by first | assumption | omega)]; first | assumption | exact va_up_self _ _ _))))) (by rfl) ?_
    refine lg_iload_n hG dX1_takeOut_32 rfl ?_
    refine lg_aload_n hG dX1_takeOut_33 rfl ?_
    refine lg_get hG dX1_takeOut_34 rfl (by first | assumption | omega) (by first | assumption | exact va_up_self _ _ _ | (rw [va_up_ne _ _ (by first | assumption | omega)]; first | assumption | exact va_up_self _ _ _ | (rw [va_up_ne _ _ (by first | assumption | omega)]; first | assumption | exact va_up_self _ _ _ | (rw [va_up_ne _ _ (by first | assumption | omega)]; first | assumption | exact va_up_self _ _ _ | (rw [va_up_ne _ _ (by first | assumption | omega)]; first | assumption | exact va_up_self _ _ _))))) (by rfl) ?_
    refine lg_iload_n hG dX1_takeOut_37 rfl ?_
    refine lg_isub hG dX1_takeOut_38 (show nI (l.length - 1) - nI (l.idxOf x) = nI (l.length - 1 - l.idxOf x) from pk_sub (by omega)) ?_
    refine lg_copy hG dX1_takeOut_39 rfl ho (Nat.le_of_ble_eq_true rfl) (N := 12) (f := f) (by rw [va_up_ne _ _ hor]; exact hLo) (nI_pos (by omega)) (nI_pos (by omega)) (nI_pos (by omega)) (by rw [nI_clamp (by omega), nI_clamp (by omega)]; omega) (by rw [nI_clamp (by omega), nI_clamp (by omega)]; omega) ?_
    rw [nI_clamp (by omega), nI_clamp (by omega), nI_clamp (by omega)]
    refine lg_vret hG dX1_takeOut_42 (Nat.le_of_ble_eq_true rfl) (Nat.le_of_ble_eq_true rfl) ?_
    refine ⟨trivial, ?_⟩
    unfold RU at hp
    rw [hle, va_up_comm hor] at hp
    exact hp

theorem RU_id {ids : Nat → ClassId} {n : Nat} {L : lm_L} {r o : Nat} {l : List Nat} {f : Nat → Int32} (h : RH ids n L r o l f) : RU ids L r o l f = L := by
  obtain ⟨-, -, -, h1, h2, -⟩ := h
  unfold RU
  rw [va_up_id h2, va_up_id h1]
def rm_X1_turnBy : Room := { frames := 2, cells := 0, slots := 0, locals := 48 }
theorem ld_X1_turnBy : yX1_turnBy.cls ≠ "java/lang/invoke/MethodHandle" ∧ yX1_turnBy.cls ≠ "java/lang/invoke/VarHandle" ∧ (parseMethodDescriptor yX1_turnBy.desc).map (fun d => d.parameters.length) = some 1 := by decide +kernel
def sp_X1_turnBy (ids : Nat → ClassId) : lm_S := fun As n L post _ => ∃ r o l f k, As = [.ref r, .int (nI k)] ∧ RH ids n L r o l f ∧ k ≤ l.length ∧ ∀ f1, LF (l.drop k ++ l.take k) f1 → post none n (RU ids L r o (l.drop k ++ l.take k) f1)
def cv_X1_turnBy (ids : Nat → ClassId) : Nat → Option lm_C := fun j => match j with
  | 29 => some (2, 1, sp_X1_takeOut ids, 0, 0)
  | 33 => some (2, 1, sp_X1_putAtEnd ids, 0, 0)
  | _ => none
set_option maxHeartbeats 4000000 in
set_option maxRecDepth 20000 in
theorem ok_X1_turnBy (l : Launch) (D : va_G) (ids : Nat → ClassId) (B b : Nat) : lm_M l D (lm_ty ids) B b false yX1_turnBy cX1_turnBy 4 none rm_X1_turnBy 0 0 (sp_X1_turnBy ids) := by
  refine lm_method (own := RX1) (fld := lf_1) (cv := (cv_X1_turnBy ids)) (cs := (fun _ => none)) (ci := (fun _ => none)) (kon := (fun _ => none)) (thr := (fun _ => none)) (nw := (fun _ => none)) (ini := false) (cp := none) (alc := false) (by decide +kernel) rfl rfl rfl (lf_1_ok _) ⟨?_, ?_⟩ ?_ (fun h => by cases h) (lm_aok0 _ _ _ _ _ _ _ _) ?_ ?_
  · intro j f hf
    unfold cv_X1_turnBy at hf
    split at hf
    · cases hf; exact ⟨yX1_takeOut, cX1_takeOut, 3, none, rm_X1_takeOut, RX1, TX1, 2, 1, rfl, rfl, ok_X1_takeOut l D ids B b, lw_1_takeOut, ll_1_29, rfl, rfl, ⟨rfl, ld_X1_takeOut⟩, by decide⟩
    · cases hf; exact ⟨yX1_putAtEnd, cX1_putAtEnd, 2, none, rm_X1_putAtEnd, RX1, TX1, 2, 1, rfl, rfl, ok_X1_putAtEnd l D ids B b, lw_1_putAtEnd, ll_1_33, rfl, rfl, ⟨rfl, ld_X1_putAtEnd⟩, by decide⟩
    · cases hf
  · intro j f hf
    cases hf
  · intro j v hv; cases hv
  · exact Or.inl fun _ => rfl
  rintro As n L post postX ⟨r, o, l, f, k, rfl, Q, hk, hp⟩
  refine ⟨by simp [Value.category], (Nat.le_of_ble_eq_true rfl), lm_cl_of ?_⟩
  intro G hG
  have Q9 := Q
  obtain ⟨hr, ho, hro, hLr, hLo, hl12, hLF, hx12⟩ := Q
  have loop : ∀ (m j : Nat) (fj : Nat → Int32), j ≤ k → k - j < m → LF (l.drop j ++ l.take j) fj → ∀ z, G 2 [some (.ref r), some (.int (nI k)), some (.int (nI j)), z] [] n (RU ids L r o (l.drop j ++ l.take j) fj) 0 0 := by
    intro m
    induction m with
    | zero => intro j fj h1 h2; omega
    | succ m ih =>
      intro j fj hjk hjm hfj z
      refine lg_iload_n hG dX1_turnBy_2 rfl ?_
      refine lg_iload_n hG dX1_turnBy_3 rfl ?_
      refine lg_icmp_ge hG dX1_turnBy_4 (tgt := 30) (by decide) (by decide) (fun h_4 => ?_) (fun h_4 => ?_)
      · skip
        have hjk2 : j = k := by
          rcases Nat.lt_or_ge j k with h | h
          · exact absurd (nI_lt h (by omega)) h_4
          · omega
        subst hjk2
        have hp := hp _ hfj
        refine lg_vret hG dX1_turnBy_30 (Nat.le_of_ble_eq_true rfl) (Nat.le_of_ble_eq_true rfl) ?_
        exact ⟨trivial, hp⟩
      · skip
        have hjk2 : j < k := (nI_ltI (by omega) (by omega)).mp h_4
        obtain ⟨x, t, e1, e2⟩ := rg_turn (l := l) (j := j) (by omega)
        have hmx : x ∈ x :: t := List.mem_cons_self
        have hxt : ∀ y ∈ x :: t, y < 12 := fun y hy => hx12 y (by rw [← e1] at hy; rcases List.mem_append.mp hy with h | h; exact List.mem_of_mem_drop h; exact List.mem_of_mem_take h)
        have hlt : (x :: t).length = l.length := by rw [← e1]; simp; omega
        rw [e1] at hfj ⊢
        have Qj := RU_RH (l1 := x :: t) Q9 hfj (by omega) hxt
        refine lg_aload_n hG dX1_turnBy_7 rfl ?_
        refine lg_get hG dX1_turnBy_8 rfl hr Qj.2.2.2.1 (by rfl) ?_
        refine lg_iconst hG dX1_turnBy_11 (x := 0) (by decide) ?_
        refine lg_iald hG dX1_turnBy_12 ho Qj.2.2.2.2.1 (vp_in_nI (n := 0) (by decide) (by decide)) ?_
        rw [show (0 : Int32).toNatClampNeg = 0 from rfl, hfj 0 x rfl]
        refine lg_istore_n hG dX1_turnBy_13 (Nat.le_of_ble_eq_true rfl) rfl ?_
        refine lg_aload_n hG dX1_turnBy_14 rfl ?_
        refine lg_iload_n hG dX1_turnBy_15 rfl ?_
        refine lg_callV hG dX1_turnBy_16 rfl (fun P h => h) hr Qj.2.2.2.1 (Nat.le_of_ble_eq_true rfl) (Nat.le_of_ble_eq_true rfl) (Nat.le_of_ble_eq_true rfl) ?_
        refine ⟨r, o, x :: t, fj, x, rfl, Qj, hmx, fun f1 hf1 => ?_⟩
        rw [List.erase_cons_head] at hf1 ⊢
        rw [RU_RU hro]
        have Q1 := RU_RH (l1 := t) Q9 hf1 (by simp at hlt; omega) (fun y hy => hxt y (List.mem_cons_of_mem _ hy))
        refine lg_aload_n hG dX1_turnBy_19 rfl ?_
        refine lg_iload_n hG dX1_turnBy_20 rfl ?_
        refine lg_callV hG dX1_turnBy_21 rfl (fun P h => h) hr Q1.2.2.2.1 (Nat.le_of_ble_eq_true rfl) (Nat.le_of_ble_eq_true rfl) (Nat.le_of_ble_eq_true rfl) ?_
        refine ⟨r, o, t, f1, x, rfl, Q1, by simp at hlt; omega, fun f2 hf2 => ?_⟩
        rw [RU_RU hro]
        rw [← e2] at hf2 ⊢
        refine lg_iinc hG dX1_turnBy_24 (Nat.le_of_ble_eq_true rfl) rfl rfl rfl ?_
        refine lg_goto hG dX1_turnBy_27 (tgt := 2) (by decide) (by decide) ?_
        rw [show nI j + Int32.ofInt 1 = nI (j + 1) from nI_1 j]
        exact ih (j + 1) f2 (by omega) (by omega) hf2 _
  refine lg_iconst hG dX1_turnBy_0 (x := 0) (by decide) ?_
  refine lg_istore_n hG dX1_turnBy_1 (Nat.le_of_ble_eq_true rfl) rfl ?_
  have h0 := loop (k + 1) 0 f (by omega) (by omega) (by simpa using hLF)
  rw [List.drop_zero, List.take_zero, List.append_nil] at h0
  rw [RU_id Q9] at h0
  exact h0 _
end
section
/-! the class's world, told by plain values: Q the queues, R the rings, g the five numbers of the object -/
abbrev Qs : Type := List (Int32 × Nat) × Nat × Nat × Nat × Nat × Nat × Bool × Int32 × Int32 × Int32 × Int32
abbrev qI (x : Qs) : List (Int32 × Nat) := x.1
abbrev qk (x : Qs) : Nat := x.2.1
abbrev qu (x : Qs) : Nat := x.2.2.1
abbrev qq (x : Qs) : Nat := x.2.2.2.1
abbrev qp (x : Qs) : Nat := x.2.2.2.2.1
abbrev qd (x : Qs) : Nat := x.2.2.2.2.2.1
abbrev qt (x : Qs) : Bool := x.2.2.2.2.2.2.1
abbrev q0 (x : Qs) : Int32 := x.2.2.2.2.2.2.2.1
abbrev q1 (x : Qs) : Int32 := x.2.2.2.2.2.2.2.2.1
abbrev q2 (x : Qs) : Int32 := x.2.2.2.2.2.2.2.2.2.1
abbrev q3 (x : Qs) : Int32 := x.2.2.2.2.2.2.2.2.2.2
def bI (t : Bool) : Int32 := if t then 1 else 0
def csum : List (Int32 × Nat) → Nat
  | [] => 0
  | y :: l => y.2 + csum l
theorem csum_app : ∀ (l m : List (Int32 × Nat)), csum (l ++ m) = csum l + csum m
  | [], m => by simp [csum]
  | y :: l, m => by
    show y.2 + csum (l ++ m) = y.2 + csum l + csum m
    rw [csum_app l m]
    omega
def qv (a : Nat) (x : Qs) : Nat → Int32 := fun f => match f with
  | 2 => nI a
  | 3 => nI (qI x).length
  | 4 => nI (csum (qI x))
  | 5 => nI (qk x)
  | 6 => nI (qu x)
  | 7 => nI (qq x)
  | 8 => nI (qp x)
  | 9 => nI (qd x)
  | 10 => bI (qt x)
  | 11 => q0 x
  | 12 => q1 x
  | 13 => q2 x
  | _ => q3 x
def IT (I : List (Int32 × Nat)) (W C : Nat → Int32) (a : Nat) : Prop := ∀ k y, I[k]? = some y → W ((a + k) % 96) = y.1 ∧ C ((a + k) % 96) = nI y.2
def CQ (ids : Nat → ClassId) (L : lm_L) (q : Nat) (x : Qs) : Prop := ∃ a W C, L (3 + 3 * q) = qo (4 + 3 * q) (5 + 3 * q) (qv a x) ∧ L (4 + 3 * q) = ia (ids 0) 96 W ∧ L (5 + 3 * q) = ia (ids 0) 96 C ∧ a < 96 ∧ (qI x).length ≤ 96 ∧ IT (qI x) W C a
def CR (ids : Nat → ClassId) (L : lm_L) (c : Nat) (l : List Nat) : Prop := ∃ f, L (39 + 2 * c) = ro (40 + 2 * c) (nI l.length) ∧ L (40 + 2 * c) = ia (ids 0) 12 f ∧ l.length ≤ 12 ∧ LF l f ∧ ∀ x ∈ l, x < 12
def mo (g : Nat → Int32) : va_E := .inr (2, [.ref 1, .ref 2, .int (g 0), .int (g 1), .int (g 2), .int (g 3), .int (g 4)])
def CW (ids : Nat → ClassId) (n : Nat) (Q : Nat → Qs) (R : Nat → List Nat) (g : Nat → Int32) (L0 L : lm_L) : Prop :=
  47 ≤ n ∧ L 0 = mo g ∧ (∃ f, L 1 = .inl (ids 3, 12, .inr (.inr (.inr (.inr f)))) ∧ ∀ q, q < 12 → f q = some (3 + 3 * q)) ∧ (∃ f, L 2 = .inl (ids 4, 4, .inr (.inr (.inr (.inr f)))) ∧ ∀ c, c < 4 → f c = some (39 + 2 * c)) ∧
  (∀ q, q < 12 → CQ ids L q (Q q)) ∧ (∀ c, c < 4 → CR ids L c (R c)) ∧ ∀ k, 47 ≤ k → L k = L0 k
theorem CQ.cg {ids : Nat → ClassId} {L L' : lm_L} {q : Nat} {x : Qs} (h : CQ ids L q x) (h1 : L' (3 + 3 * q) = L (3 + 3 * q)) (h2 : L' (4 + 3 * q) = L (4 + 3 * q)) (h3 : L' (5 + 3 * q) = L (5 + 3 * q)) : CQ ids L' q x := by
  obtain ⟨a, W, C, a1, a2, a3, a4⟩ := h
  exact ⟨a, W, C, h1.trans a1, h2.trans a2, h3.trans a3, a4⟩
theorem CR.cg {ids : Nat → ClassId} {L L' : lm_L} {c : Nat} {l : List Nat} (h : CR ids L c l) (h1 : L' (39 + 2 * c) = L (39 + 2 * c)) (h2 : L' (40 + 2 * c) = L (40 + 2 * c)) : CR ids L' c l := by
  obtain ⟨f, a1, a2, a3⟩ := h
  exact ⟨f, h1.trans a1, h2.trans a2, a3⟩
section CWS
variable {ids : Nat → ClassId} {n : Nat} {Q : Nat → Qs} {R : Nat → List Nat} {g : Nat → Int32} {L0 L : lm_L}
theorem CW.setQ (h : CW ids n Q R g L0 L) {q : Nat} (hq : q < 12) {L' : lm_L} {x : Qs} (hk : ∀ k, k ≠ 3 + 3 * q → k ≠ 4 + 3 * q → k ≠ 5 + 3 * q → L' k = L k) (hx : CQ ids L' q x) : CW ids n (va_up Q q x) R g L0 L' := by
  obtain ⟨h0, h1, h2, h3, h4, h5, h6⟩ := h
  refine ⟨h0, ?_, ?_, ?_, ?_, ?_, ?_⟩
  · rw [hk 0 (by omega) (by omega) (by omega)]; exact h1
  · rw [hk 1 (by omega) (by omega) (by omega)]; exact h2
  · rw [hk 2 (by omega) (by omega) (by omega)]; exact h3
  · intro q' hq'
    by_cases e : q' = q
    · subst e; rw [va_up_self]; exact hx
    · rw [va_up_ne _ _ e]
      exact (h4 q' hq').cg (hk _ (by omega) (by omega) (by omega)) (hk _ (by omega) (by omega) (by omega)) (hk _ (by omega) (by omega) (by omega))
  · intro c hc
    exact (h5 c hc).cg (hk _ (by omega) (by omega) (by omega)) (hk _ (by omega) (by omega) (by omega))
  · intro k hk9
    rw [hk k (by omega) (by omega) (by omega)]; exact h6 k hk9
theorem CW.setR (h : CW ids n Q R g L0 L) {c : Nat} (hc : c < 4) {L' : lm_L} {l : List Nat} (hk : ∀ k, k ≠ 39 + 2 * c → k ≠ 40 + 2 * c → L' k = L k) (hx : CR ids L' c l) : CW ids n Q (va_up R c l) g L0 L' := by
  obtain ⟨h0, h1, h2, h3, h4, h5, h6⟩ := h
  refine ⟨h0, ?_, ?_, ?_, ?_, ?_, ?_⟩
  · rw [hk 0 (by omega) (by omega)]; exact h1
  · rw [hk 1 (by omega) (by omega)]; exact h2
  · rw [hk 2 (by omega) (by omega)]; exact h3
  · intro q' hq'
    exact (h4 q' hq').cg (hk _ (by omega) (by omega)) (hk _ (by omega) (by omega)) (hk _ (by omega) (by omega))
  · intro c' hc'
    by_cases e : c' = c
    · subst e; rw [va_up_self]; exact hx
    · rw [va_up_ne _ _ e]
      exact (h5 c' hc').cg (hk _ (by omega) (by omega)) (hk _ (by omega) (by omega))
  · intro k hk9
    rw [hk k (by omega) (by omega)]; exact h6 k hk9
theorem CW.setG (h : CW ids n Q R g L0 L) {g' : Nat → Int32} : CW ids n Q R g' L0 (va_up L 0 (mo g')) := by
  obtain ⟨h0, h1, h2, h3, h4, h5, h6⟩ := h
  refine ⟨h0, va_up_self _ _ _, ?_, ?_, ?_, ?_, ?_⟩
  · rw [va_up_ne _ _ (by omega)]; exact h2
  · rw [va_up_ne _ _ (by omega)]; exact h3
  · intro q' hq'
    exact (h4 q' hq').cg (va_up_ne _ _ (by omega)) (va_up_ne _ _ (by omega)) (va_up_ne _ _ (by omega))
  · intro c' hc'
    exact (h5 c' hc').cg (va_up_ne _ _ (by omega)) (va_up_ne _ _ (by omega))
  · intro k hk9
    rw [va_up_ne _ _ (by omega)]; exact h6 k hk9
end CWS
/-! rows of the class's walks -/
section CGR
variable {ids : Nat → ClassId} {n : Nat} {Qq : Nat → Qs} {R : Nat → List Nat} {g : Nat → Int32} {L0 L : lm_L}
variable {E : lm_E} {cc : ByteArray} {Q : lm_Q} {X : lm_X} {G : lm_K} {pc : Nat} {lo : lm_O} {r : List Value} {bc bs : Nat}
def qfl (x : Qs) : List Value := [.int (nI (qI x).length), .int (nI (csum (qI x))), .int (nI (qk x)), .int (nI (qu x)), .int (nI (qq x)), .int (nI (qp x)), .int (nI (qd x)), .int (bI (qt x)), .int (q0 x), .int (q1 x), .int (q2 x), .int (q3 x)]
theorem cg_get (hG : lm_cl E cc Q X G) (hC : CW ids n Qq R g L0 L) {j f ty q : Nat} {x : Qs} {v : Value} (hd : decode cc pc = .ok (.getfield j, 3)) (hf : lm_fld E j = some (0, f + 3, ty)) (hq : q < 12) (hx : Qq q = x) (hv : (qfl x)[f]? = some v) (k : G (pc + 3) lo (v :: r) n L bc bs) : G pc lo (.ref (3 + 3 * q) :: r) n L bc bs := by
  obtain ⟨a, W, C, a1, -⟩ := hC.2.2.2.2.1 q hq
  rw [hx] at a1
  exact lg_get hG hd hf (by have := hC.1; omega) (fs := .ref (4 + 3 * q) :: .ref (5 + 3 * q) :: .int (nI a) :: qfl x) a1 hv k
theorem cg_put (hG : lm_cl E cc Q X G) (hC : CW ids n Qq R g L0 L) {j f ty q : Nat} {x x' : Qs} {v : Value} (hd : decode cc pc = .ok (.putfield j, 3)) (hf : lm_fld E j = some (0, f + 3, ty)) (hq : q < 12) (hx : Qq q = x) (ht : lm_fit E ty v) (hf2 : f < 12) (hI : qI x' = qI x) (h2 : (qfl x).set f v = qfl x') (k : ∀ L1, CW ids n (va_up Qq q x') R g L0 L1 → G (pc + 3) lo r n L1 bc bs) : G pc lo (v :: .ref (3 + 3 * q) :: r) n L bc bs := by
  obtain ⟨a, W, C, a1, a2, a3, a4, a5, a6⟩ := hC.2.2.2.2.1 q hq
  rw [hx] at a1 a5 a6
  refine lg_put hG hd hf (by have := hC.1; omega) ht (fs := .ref (4 + 3 * q) :: .ref (5 + 3 * q) :: .int (nI a) :: qfl x) a1 (Nat.add_lt_add_right hf2 3) (fs1 := .ref (4 + 3 * q) :: .ref (5 + 3 * q) :: .int (nI a) :: qfl x') (by rw [← h2]; rfl) (k _ ?_)
  refine hC.setQ hq (fun k a _ _ => va_up_ne _ _ a) ⟨a, W, C, va_up_self _ _ _, ?_, ?_, a4, by rw [hI]; exact a5, by rw [hI]; exact a6⟩
  · rw [va_up_ne _ _ (by omega)]; exact a2
  · rw [va_up_ne _ _ (by omega)]; exact a3
theorem cg_getg (hG : lm_cl E cc Q X G) (hC : CW ids n Qq R g L0 L) {j f ty : Nat} {v : Value} (hd : decode cc pc = .ok (.getfield j, 3)) (hf : lm_fld E j = some (2, f, ty)) (hv : [.ref 1, .ref 2, .int (g 0), .int (g 1), .int (g 2), .int (g 3), .int (g 4)][f]? = some v) (k : G (pc + 3) lo (v :: r) n L bc bs) : G pc lo (.ref 0 :: r) n L bc bs :=
  lg_get hG hd hf (by have := hC.1; omega) hC.2.1 hv k
theorem cg_putg (hG : lm_cl E cc Q X G) (hC : CW ids n Qq R g L0 L) {j f ty : Nat} {v : Value} {g' : Nat → Int32} (hd : decode cc pc = .ok (.putfield j, 3)) (hf : lm_fld E j = some (2, f, ty)) (ht : lm_fit E ty v) (hf2 : f < 7) (hv : [.ref 1, .ref 2, .int (g 0), .int (g 1), .int (g 2), .int (g 3), .int (g 4)].set f v = [.ref 1, .ref 2, .int (g' 0), .int (g' 1), .int (g' 2), .int (g' 3), .int (g' 4)]) (k : ∀ L1, CW ids n Qq R g' L0 L1 → G (pc + 3) lo r n L1 bc bs) : G pc lo (v :: .ref 0 :: r) n L bc bs :=
  lg_put hG hd hf (by have := hC.1; omega) ht hC.2.1 hf2 hv (k _ hC.setG)
theorem cg_size (hG : lm_cl E cc Q X G) (hC : CW ids n Qq R g L0 L) {j c : Nat} {l : List Nat} (hd : decode cc pc = .ok (.getfield j, 3)) (hf : lm_fld E j = some (1, 1, 0)) (hc : c < 4) (hx : R c = l) (k : G (pc + 3) lo (.int (nI l.length) :: r) n L bc bs) : G pc lo (.ref (39 + 2 * c) :: r) n L bc bs := by
  obtain ⟨f, a1, -⟩ := hC.2.2.2.2.2.1 c hc
  rw [hx] at a1
  exact lg_get hG hd hf (by have := hC.1; omega) a1 rfl k
theorem cg_aq (hG : lm_cl E cc Q X G) (hC : CW ids n Qq R g L0 L) {q : Nat} (hd : decode cc pc = .ok (.aaload, 1)) (hi3 : lm_id E 3 = ids 3) (hq : q < 12) (k : G (pc + 1) lo (.ref (3 + 3 * q) :: r) n L bc bs) : G pc lo (.int (nI q) :: .ref 1 :: r) n L bc bs := by
  obtain ⟨f, a1, a2⟩ := hC.2.2.1
  refine lg_aald hG hd (by have := hC.1; omega) a1 (Or.inl hi3.symm) (vp_in_nI hq (by decide)) ?_ k
  rw [nI_clamp (by omega), a2 q hq]
  rfl
theorem cg_ar (hG : lm_cl E cc Q X G) (hC : CW ids n Qq R g L0 L) {c : Nat} (hd : decode cc pc = .ok (.aaload, 1)) (hi3 : lm_id E 4 = ids 4) (hq : c < 4) (k : G (pc + 1) lo (.ref (39 + 2 * c) :: r) n L bc bs) : G pc lo (.int (nI c) :: .ref 2 :: r) n L bc bs := by
  obtain ⟨f, a1, a2⟩ := hC.2.2.2.1
  refine lg_aald hG hd (by have := hC.1; omega) a1 (Or.inr hi3.symm) (vp_in_nI hq (by decide)) ?_ k
  rw [nI_clamp (by omega), a2 c hq]
  rfl
theorem cg_lenq (hG : lm_cl E cc Q X G) (hC : CW ids n Qq R g L0 L) (hd : decode cc pc = .ok (.arraylength, 1)) (hi3 : lm_id E 3 = ids 3) (k : G (pc + 1) lo (.int (nI 12) :: r) n L bc bs) : G pc lo (.ref 1 :: r) n L bc bs := by
  obtain ⟨f, a1, a2⟩ := hC.2.2.1
  exact lg_alen hG hd (by have := hC.1; omega) a1 (Or.inr (Or.inl hi3.symm)) rfl k
theorem cg_lenr (hG : lm_cl E cc Q X G) (hC : CW ids n Qq R g L0 L) (hd : decode cc pc = .ok (.arraylength, 1)) (hi3 : lm_id E 4 = ids 4) (k : G (pc + 1) lo (.int (nI 4) :: r) n L bc bs) : G pc lo (.ref 2 :: r) n L bc bs := by
  obtain ⟨f, a1, a2⟩ := hC.2.2.2.1
  exact lg_alen hG hd (by have := hC.1; omega) a1 (Or.inr (Or.inr hi3.symm)) rfl k
/-- a call of a method of a queue, of a ring, of the object -/
theorem cg_callQ (hG : lm_cl E cc Q X G) (hC : CW ids n Qq R g L0 L) {st : List Value} {j k q mc ms : Nat} {wp : lm_S} {As : List Value} (hd : decode cc pc = .ok (.invokevirtual j, 3)) (hf : lm_cv E j = some (k, 0, wp, mc, ms)) (hs : ∀ P : List Value → List Value → Prop, P (.ref (3 + 3 * q) :: As) r → lm_pop k st [] P) (hq : q < 12) (b1 : bc + mc ≤ lm_mc E) (b2 : bs + ms ≤ lm_ms E) (hw : (r.map fun v => v.category).sum ≤ 8) (kk : wp (.ref (3 + 3 * q) :: As) n L (fun rv n1 L1 => G (pc + 3) lo (rv.toList ++ r) n1 L1 (bc + mc) (bs + ms)) (fun en n1 L1 => match lm_ct E pc en with
    | some h => ∀ k : Nat, G h lo [.retAddr k] n1 L1 (bc + mc) (bs + ms)
    | none => X en n1 L1)) : G pc lo st n L bc bs := by
  obtain ⟨a, W, C, a1, -⟩ := hC.2.2.2.2.1 q hq
  exact lg_callV hG hd hf hs (by have := hC.1; omega) a1 b1 b2 hw kk
theorem cg_callR (hG : lm_cl E cc Q X G) (hC : CW ids n Qq R g L0 L) {st : List Value} {j k c mc ms : Nat} {wp : lm_S} {As : List Value} (hd : decode cc pc = .ok (.invokevirtual j, 3)) (hf : lm_cv E j = some (k, 1, wp, mc, ms)) (hs : ∀ P : List Value → List Value → Prop, P (.ref (39 + 2 * c) :: As) r → lm_pop k st [] P) (hq : c < 4) (b1 : bc + mc ≤ lm_mc E) (b2 : bs + ms ≤ lm_ms E) (hw : (r.map fun v => v.category).sum ≤ 8) (kk : wp (.ref (39 + 2 * c) :: As) n L (fun rv n1 L1 => G (pc + 3) lo (rv.toList ++ r) n1 L1 (bc + mc) (bs + ms)) (fun en n1 L1 => match lm_ct E pc en with
    | some h => ∀ k : Nat, G h lo [.retAddr k] n1 L1 (bc + mc) (bs + ms)
    | none => X en n1 L1)) : G pc lo st n L bc bs := by
  obtain ⟨f, a1, -⟩ := hC.2.2.2.2.2.1 c hq
  exact lg_callV hG hd hf hs (by have := hC.1; omega) a1 b1 b2 hw kk
theorem cg_callO (hG : lm_cl E cc Q X G) (hC : CW ids n Qq R g L0 L) {st : List Value} {j k mc ms : Nat} {wp : lm_S} {As : List Value} (hd : decode cc pc = .ok (.invokevirtual j, 3)) (hf : lm_cv E j = some (k, 2, wp, mc, ms)) (hs : ∀ P : List Value → List Value → Prop, P (.ref 0 :: As) r → lm_pop k st [] P) (b1 : bc + mc ≤ lm_mc E) (b2 : bs + ms ≤ lm_ms E) (hw : (r.map fun v => v.category).sum ≤ 8) (kk : wp (.ref 0 :: As) n L (fun rv n1 L1 => G (pc + 3) lo (rv.toList ++ r) n1 L1 (bc + mc) (bs + ms)) (fun en n1 L1 => match lm_ct E pc en with
    | some h => ∀ k : Nat, G h lo [.retAddr k] n1 L1 (bc + mc) (bs + ms)
    | none => X en n1 L1)) : G pc lo st n L bc bs :=
  lg_callV hG hd hf hs (by have := hC.1; omega) hC.2.1 b1 b2 hw kk
end CGR
/-! whole numbers as ints -/
def iI (z : Int) : Int32 := Int32.ofInt z
theorem iI_n (a : Nat) : nI a = iI a := (Int32.ofInt_eq_ofNat).symm
theorem iI_add (a b : Int) : iI a + iI b = iI (a + b) := (Int32.ofInt_add a b).symm
theorem iI_sub (a b : Int) : iI a - iI b = iI (a - b) := (Int32.ofInt_sub a b).symm
theorem iI_nn (a b : Nat) : nI a - nI b = iI (a - b) := by rw [iI_n, iI_n, iI_sub]
theorem iI_toInt {z : Int} (h1 : -2147483648 ≤ z) (h2 : z < 2147483648) : (iI z).toInt = z := Int32.toInt_ofInt_of_le (by simpa using h1) (by simpa using h2)
theorem iI_lt {a b : Int} (h1 : -2147483648 ≤ a) (h2 : a < 2147483648) (h3 : -2147483648 ≤ b) (h4 : b < 2147483648) : iI a < iI b ↔ a < b := by rw [Int32.lt_iff_toInt_lt, iI_toInt h1 h2, iI_toInt h3 h4]
theorem iI_le {a b : Int} (h1 : -2147483648 ≤ a) (h2 : a < 2147483648) (h3 : -2147483648 ≤ b) (h4 : b < 2147483648) : iI a ≤ iI b ↔ a ≤ b := by rw [Int32.le_iff_toInt_le, iI_toInt h1 h2, iI_toInt h3 h4]
end
section
/-! what the methods of Queue and Ring do, told of the class's world -/
/-- the looks in vain, k of them -/
def vlk (x : Qs) (k : Nat) : Qs := if k = 0 then x else (qI x, qk x, qu x, qq x, qp x, qd x + (if qt x then k - 1 else k) * qu x, false, q0 x, q1 x, q2 x, q3 x)
def tkt (x : Qs) : Qs := if qt x then x else (qI x, qk x, qu x, qq x, qp x, qd x + qu x, true, q0 x, q1 x, q2 x, q3 x)
def sI (x : Qs) (I : List (Int32 × Nat)) : Qs := (I, qk x, qu x, qq x, qp x, qd x, qt x, q0 x, q1 x, q2 x, q3 x)
/-- how often the queue is looked at in vain -/
def lkx (x : Qs) : Nat := match qI x with
  | [] => 0
  | y :: _ => lkv (qt x) (qd x) (qu x) y.2
def exc (Q : Nat → Qs) (q : Nat) : Int := ((qI (Q q)).length : Int) - (qp (Q q) : Int)
section CQL
variable {ids : Nat → ClassId} {n : Nat} {Q : Nat → Qs} {R : Nat → List Nat} {g : Nat → Int32} {L0 L : lm_L} {q : Nat} {x : Qs} {post : lm_Q} {postX : lm_X}
theorem CW.qh (hC : CW ids n Q R g L0 L) (hq : q < 12) (hx : Q q = x) : ∃ a W C, QH ids n L (3 + 3 * q) (4 + 3 * q) (5 + 3 * q) (qv a x) W C a ∧ a < 96 ∧ (qI x).length ≤ 96 ∧ IT (qI x) W C a := by
  obtain ⟨a, W, C, a1, a2, a3, a4, a5, a6⟩ := hC.2.2.2.2.1 q hq
  rw [hx] at a1 a5 a6
  have := hC.1
  exact ⟨a, W, C, ⟨by omega, by omega, by omega, by omega, by omega, by omega, a1, a2, a3, rfl, a4⟩, a4, a5, a6⟩
theorem CW.rh (hC : CW ids n Q R g L0 L) {c : Nat} {l : List Nat} (hc : c < 4) (hx : R c = l) : ∃ f, RH ids n L (39 + 2 * c) (40 + 2 * c) l f := by
  obtain ⟨f, a1, a2, a3, a4, a5⟩ := hC.2.2.2.2.2.1 c hc
  rw [hx] at a1 a3 a4 a5
  have := hC.1
  exact ⟨f, by omega, by omega, by omega, a1, a2, a3, a4, a5⟩
theorem cq_excess (hC : CW ids n Q R g L0 L) (hq : q < 12) (k : post (some (.int (iI (exc Q q)))) n L) : sp_X0_excess ids [.ref (3 + 3 * q)] n L post postX := by
  obtain ⟨a, W, C, H, -⟩ := hC.qh hq rfl
  refine ⟨_, _, _, _, rfl, H.1, H.2.2.2.2.2.2.1, ?_⟩
  show post (some (.int (nI (qI (Q q)).length - nI (qp (Q q))))) n L
  rw [iI_nn]
  exact k
theorem cq_word (hC : CW ids n Q R g L0 L) (hq : q < 12) (hx : Q q = x) {i : Nat} {y : Int32 × Nat} (hy : (qI x)[i]? = some y) (k : post (some (.int y.1)) n L) : sp_X0_wordAt ids [.ref (3 + 3 * q), .int (nI i)] n L post postX := by
  obtain ⟨a, W, C, H, h1, h2, h3⟩ := hC.qh hq hx
  have := (List.getElem?_eq_some_iff.mp hy).1
  refine ⟨_, _, _, _, W, C, a, i, rfl, H, by omega, ?_⟩
  rw [(h3 i y hy).1]
  exact k
theorem cq_cost (hC : CW ids n Q R g L0 L) (hq : q < 12) (hx : Q q = x) {i : Nat} {y : Int32 × Nat} (hy : (qI x)[i]? = some y) (k : post (some (.int (nI y.2))) n L) : sp_X0_costAt ids [.ref (3 + 3 * q), .int (nI i)] n L post postX := by
  obtain ⟨a, W, C, H, h1, h2, h3⟩ := hC.qh hq hx
  have := (List.getElem?_eq_some_iff.mp hy).1
  refine ⟨_, _, _, _, W, C, a, i, rfl, H, by omega, ?_⟩
  rw [(h3 i y hy).2]
  exact k
theorem IT.hd {I : List (Int32 × Nat)} {W C : Nat → Int32} {a : Nat} (h : IT I W C a) (ha : a < 96) {y : Int32 × Nat} {t : List (Int32 × Nat)} (e : I = y :: t) : W a = y.1 ∧ C a = nI y.2 := by
  have := h 0 y (by rw [e]; rfl)
  rw [show (a + 0) % 96 = a by omega] at this
  exact this
theorem cq_first (hC : CW ids n Q R g L0 L) (hq : q < 12) (hx : Q q = x) {y : Int32 × Nat} {t : List (Int32 × Nat)} (hy : qI x = y :: t) (k : post (some (.int (nI y.2))) n L) : sp_X0_firstCost ids [.ref (3 + 3 * q)] n L post postX := by
  obtain ⟨a, W, C, H, h1, h2, h3⟩ := hC.qh hq hx
  refine ⟨_, _, _, _, W, C, a, rfl, H, ?_⟩
  rw [(h3.hd h1 hy).2]
  exact k
theorem cq_looks (hC : CW ids n Q R g L0 L) (hq : q < 12) (hx : Q q = x) {y : Int32 × Nat} {t : List (Int32 × Nat)} (hy : qI x = y :: t) (hd : qd x < 2 ^ 28) (hu : 0 < qu x) (hu2 : qu x < 2 ^ 28) (hp : y.2 < 2 ^ 28) (k : post (some (.int (nI (lkx x)))) n L) : sp_X0_looksInVain ids [.ref (3 + 3 * q)] n L post postX := by
  obtain ⟨a, W, C, H, h1, h2, h3⟩ := hC.qh hq hx
  refine ⟨_, _, _, _, W, C, a, qt x, qd x, qu x, y.2, rfl, H, ?_, rfl, rfl, (h3.hd h1 hy).2, hd, hu, hu2, hp, ?_⟩
  · show bI (qt x) = _
    unfold bI
    cases qt x <;> rfl
  · have : lkx x = lkv (qt x) (qd x) (qu x) y.2 := by unfold lkx; rw [hy]
    rw [← this]
    exact k
/-- a queue's object laid anew, its items as they are -/
theorem CW.obj (hC : CW ids n Q R g L0 L) (hq : q < 12) (hx : Q q = x) {x' : Qs} {v : Nat → Int32} (hI : qI x' = qI x) (hv : ∀ a, L (3 + 3 * q) = qo (4 + 3 * q) (5 + 3 * q) (qv a x) → qo (4 + 3 * q) (5 + 3 * q) v = qo (4 + 3 * q) (5 + 3 * q) (qv a x')) : CW ids n (va_up Q q x') R g L0 (va_up L (3 + 3 * q) (qo (4 + 3 * q) (5 + 3 * q) v)) := by
  obtain ⟨a, W, C, a1, a2, a3, a4, a5, a6⟩ := hC.2.2.2.2.1 q hq
  rw [hx] at a1 a5 a6
  refine hC.setQ hq (fun k a _ _ => va_up_ne _ _ a) ⟨a, W, C, ?_, ?_, ?_, a4, by rw [hI]; exact a5, by rw [hI]; exact a6⟩
  · rw [va_up_self]; exact hv a a1
  · rw [va_up_ne _ _ (by omega)]; exact a2
  · rw [va_up_ne _ _ (by omega)]; exact a3
theorem cq_vain (hC : CW ids n Q R g L0 L) (hq : q < 12) (hx : Q q = x) {i : Nat} (hi : i < 2 ^ 20) (k : ∀ L1, CW ids n (va_up Q q (vlk x i)) R g L0 L1 → post none n L1) : sp_X0_lookInVain ids [.ref (3 + 3 * q), .int (nI i)] n L post postX := by
  obtain ⟨a, W, C, H, h1, h2, h3⟩ := hC.qh hq hx
  refine ⟨_, _, _, _, i, qd x, qu x, rfl, H.1, H.2.2.2.2.2.2.1, rfl, rfl, hi, k _ ?_⟩
  obtain ⟨b, W', C', b1, b2, b3, b4, b5, b6⟩ := hC.2.2.2.2.1 q hq
  rw [hx] at b1 b5 b6
  have a1 := H.2.2.2.2.2.2.1
  refine hC.setQ hq (fun k a _ _ => va_up_ne _ _ a) ⟨a, W, C, ?_, ?_, ?_, h1, ?_, ?_⟩
  · rw [va_up_self]
    unfold vlk
    by_cases e : i = 0
    · rw [if_pos e, if_pos e]
    · rw [if_neg e, if_neg e]
      have h10 : qv a x 10 = bI (qt x) := rfl
      rw [h10]
      cases ht : qt x
      · rw [if_pos (by rfl)]; rfl
      · rw [if_neg (by decide)]; rfl
  · rw [va_up_ne _ _ (by omega)]; exact H.2.2.2.2.2.2.2.1
  · rw [va_up_ne _ _ (by omega)]; exact H.2.2.2.2.2.2.2.2.1
  · unfold vlk; split <;> exact h2
  · unfold vlk; split <;> exact h3
theorem cq_turn (hC : CW ids n Q R g L0 L) (hq : q < 12) (hx : Q q = x) (k : ∀ L1, CW ids n (va_up Q q (tkt x)) R g L0 L1 → post none n L1) : sp_X0_takeTurn ids [.ref (3 + 3 * q)] n L post postX := by
  obtain ⟨a, W, C, H, h1, h2, h3⟩ := hC.qh hq hx
  refine ⟨_, _, _, _, rfl, H.1, H.2.2.2.2.2.2.1, k _ ?_⟩
  refine hC.setQ hq (fun k a _ _ => va_up_ne _ _ a) ⟨a, W, C, ?_, ?_, ?_, h1, ?_, ?_⟩
  · rw [va_up_self]
    unfold tkt
    have h10 : qv a x 10 = bI (qt x) := rfl
    have h9 : qv a x 9 + qv a x 6 = nI (qd x + qu x) := nI_add _ _
    rw [h10, h9]
    cases ht : qt x
    · rw [if_pos (by rfl), if_neg (by decide)]; rfl
    · rw [if_neg (by decide), if_pos rfl]
  · rw [va_up_ne _ _ (by omega)]; exact H.2.2.2.2.2.2.2.1
  · rw [va_up_ne _ _ (by omega)]; exact H.2.2.2.2.2.2.2.2.1
  · unfold tkt; split <;> exact h2
  · unfold tkt; split <;> exact h3
theorem IT.put {I : List (Int32 × Nat)} {W C : Nat → Int32} {a : Nat} (h : IT I W C a) (hl : I.length < 96) {w : Int32} {c : Nat} : IT (I ++ [(w, c)]) (upd W ((a + I.length) % 96) w) (upd C ((a + I.length) % 96) (nI c)) a := by
  intro k y hk
  by_cases hkl : k < I.length
  · rw [List.getElem?_append_left hkl] at hk
    rw [pk_un (by omega), pk_un (by omega)]
    exact h k y hk
  · rw [List.getElem?_append_right (by omega)] at hk
    have hz : k - I.length = 0 := by
      have := (List.getElem?_eq_some_iff.mp hk).1
      simp at this
      omega
    rw [hz] at hk
    simp at hk
    subst hk
    rw [show k = I.length by omega, pk_us, pk_us]
    exact ⟨rfl, rfl⟩
theorem cq_put (hC : CW ids n Q R g L0 L) (hq : q < 12) (hx : Q q = x) {w : Int32} {c : Nat} (hl : (qI x).length < 96) (k : ∀ L1, CW ids n (va_up Q q (sI x (qI x ++ [(w, c)]))) R g L0 L1 → post none n L1) : sp_X0_putLast ids [.ref (3 + 3 * q), .int w, .int (nI c)] n L post postX := by
  obtain ⟨a, W, C, H, h1, h2, h3⟩ := hC.qh hq hx
  refine ⟨_, _, _, _, W, C, a, (qI x).length, w, nI c, rfl, H, rfl, by omega, k _ ?_⟩
  refine hC.setQ hq (fun k e1 e2 e3 => ?_) ⟨a, upd W ((a + (qI x).length) % 96) w, upd C ((a + (qI x).length) % 96) (nI c), ?_, ?_, ?_, h1, ?_, ?_⟩
  · rw [va_up_ne _ _ e1, va_up_ne _ _ e3, va_up_ne _ _ e2]
  · rw [va_up_self]
    have e4 : qv a x 4 + nI c = nI (csum (qI x ++ [(w, c)])) := by rw [csum_app]; exact nI_add _ _
    have e3 : qv a x 3 + 1 = nI (qI x ++ [(w, c)]).length := by rw [List.length_append]; exact nI_1 _
    rw [e4, e3]
    rfl
  · rw [va_up_ne _ _ (by omega), va_up_ne _ _ (by omega), va_up_self]
  · rw [va_up_ne _ _ (by omega), va_up_self]
  · show (qI x ++ [(w, c)]).length ≤ 96
    rw [List.length_append]
    exact hl
  · exact h3.put hl
theorem cq_dropF (hC : CW ids n Q R g L0 L) (hq : q < 12) (hx : Q q = x) {y : Int32 × Nat} {t : List (Int32 × Nat)} (hy : qI x = y :: t) (k : ∀ L1, CW ids n (va_up Q q (sI x t)) R g L0 L1 → post none n L1) : sp_X0_dropFirst ids [.ref (3 + 3 * q)] n L post postX := by
  obtain ⟨a, W, C, H, h1, h2, h3⟩ := hC.qh hq hx
  refine ⟨_, _, _, _, W, C, a, rfl, H, k _ ?_⟩
  refine hC.setQ hq (fun k a _ _ => va_up_ne _ _ a) ⟨(a + 1) % 96, W, C, ?_, ?_, ?_, by omega, ?_, ?_⟩
  · rw [va_up_self]
    have e4 : qv a x 4 - C a = nI (csum t) := by
      rw [(h3.hd h1 hy).2]
      show nI (csum (qI x)) - nI y.2 = _
      rw [hy]
      show nI (y.2 + csum t) - nI y.2 = _
      rw [pk_sub (by omega), show y.2 + csum t - y.2 = csum t by omega]
    have e3 : qv a x 3 - 1 = nI t.length := by
      show nI (qI x).length - 1 = _
      rw [hy]
      exact nI_pred _
    rw [e4, e3]
    rfl
  · rw [va_up_ne _ _ (by omega)]; exact H.2.2.2.2.2.2.2.1
  · rw [va_up_ne _ _ (by omega)]; exact H.2.2.2.2.2.2.2.2.1
  · show t.length ≤ 96
    rw [hy] at h2
    simp at h2
    omega
  · intro i z hz
    have := h3 (i + 1) z (by rw [hy]; exact hz)
    rw [show ((a + 1) % 96 + i) % 96 = (a + (i + 1)) % 96 by omega]
    exact this
theorem cq_dropL (hC : CW ids n Q R g L0 L) (hq : q < 12) (hx : Q q = x) {y : Int32 × Nat} {t : List (Int32 × Nat)} (hy : qI x = t ++ [y]) (k : ∀ L1, CW ids n (va_up Q q (sI x t)) R g L0 L1 → post none n L1) : sp_X0_dropLast ids [.ref (3 + 3 * q)] n L post postX := by
  obtain ⟨a, W, C, H, h1, h2, h3⟩ := hC.qh hq hx
  have h2' : t.length + 1 ≤ 96 := by rw [hy, List.length_append] at h2; exact h2
  have e9 : qv a x 3 = nI (t.length + 1) := by
    show nI (qI x).length = _
    rw [hy, List.length_append]
    rfl
  refine ⟨_, _, _, _, W, C, a, t.length, rfl, H, e9, by omega, k _ ?_⟩
  refine hC.setQ hq (fun k a _ _ => va_up_ne _ _ a) ⟨a, W, C, ?_, ?_, ?_, h1, ?_, ?_⟩
  · rw [va_up_self]
    have e4 : qv a x 4 - C ((a + t.length) % 96) = nI (csum t) := by
      rw [(h3 t.length y (by rw [hy]; simp)).2]
      show nI (csum (qI x)) - nI y.2 = _
      rw [hy, csum_app]
      show nI (csum t + (y.2 + 0)) - nI y.2 = _
      rw [pk_sub (by omega), show csum t + (y.2 + 0) - y.2 = csum t by omega]
    have e3 : qv a x 3 - 1 = nI t.length := by rw [e9]; exact nI_pred _
    rw [e4, e3]
    rfl
  · rw [va_up_ne _ _ (by omega)]; exact H.2.2.2.2.2.2.2.1
  · rw [va_up_ne _ _ (by omega)]; exact H.2.2.2.2.2.2.2.2.1
  · show t.length ≤ 96
    omega
  · intro i z hz
    have hz : t[i]? = some z := hz
    refine h3 i z ?_
    rw [hy, List.getElem?_append_left ((List.getElem?_eq_some_iff.mp hz).1)]
    exact hz
theorem cq_dropA (hC : CW ids n Q R g L0 L) (hq : q < 12) (hx : Q q = x) (k : ∀ L1, CW ids n (va_up Q q (sI x [])) R g L0 L1 → post none n L1) : sp_X0_dropAll ids [.ref (3 + 3 * q)] n L post postX := by
  obtain ⟨a, W, C, H, h1, h2, h3⟩ := hC.qh hq hx
  refine ⟨_, _, _, _, rfl, H.1, H.2.2.2.2.2.2.1, k _ ?_⟩
  refine hC.setQ hq (fun k a _ _ => va_up_ne _ _ a) ⟨a, W, C, ?_, ?_, ?_, h1, Nat.zero_le _, ?_⟩
  · rw [va_up_self]; rfl
  · rw [va_up_ne _ _ (by omega)]; exact H.2.2.2.2.2.2.2.1
  · rw [va_up_ne _ _ (by omega)]; exact H.2.2.2.2.2.2.2.2.1
  · intro i z hz
    have hz : ([] : List (Int32 × Nat))[i]? = some z := hz
    simp at hz
theorem CW.ring (hC : CW ids n Q R g L0 L) {c : Nat} {l l1 : List Nat} {f1 : Nat → Int32} (hc : c < 4) (h1 : LF l1 f1) (h2 : l1.length ≤ 12) (h3 : ∀ x ∈ l1, x < 12) : CW ids n Q (va_up R c l1) g L0 (RU ids L (39 + 2 * c) (40 + 2 * c) l1 f1) := by
  refine hC.setR hc (fun k e1 e2 => RU_at e1 e2) ⟨f1, va_up_self _ _ _, ?_, h2, h1, h3⟩
  unfold RU
  rw [va_up_ne _ _ (by omega), va_up_self]
theorem cr_at (hC : CW ids n Q R g L0 L) {c i z : Nat} {l : List Nat} (hc : c < 4) (hx : R c = l) (hi : l[i]? = some z) (k : post (some (.int (nI z))) n L) : sp_X1_queueAt ids [.ref (39 + 2 * c), .int (nI i)] n L post postX := by
  obtain ⟨f, H⟩ := hC.rh hc hx
  exact ⟨_, _, l, f, i, z, rfl, H, hi, k⟩
theorem cr_place (hC : CW ids n Q R g L0 L) {c z : Nat} {l : List Nat} (hc : c < 4) (hx : R c = l) (hz : z < 12) (k : post (some (.int (if z ∈ l then nI (l.idxOf z) else -1))) n L) : sp_X1_placeOf ids [.ref (39 + 2 * c), .int (nI z)] n L post postX := by
  obtain ⟨f, H⟩ := hC.rh hc hx
  exact ⟨_, _, l, f, z, rfl, H, hz, k⟩
theorem cr_put (hC : CW ids n Q R g L0 L) {c z : Nat} {l : List Nat} (hc : c < 4) (hx : R c = l) (hz : z < 12) (hl : l.length < 12) (k : ∀ L1, CW ids n Q (va_up R c (l ++ [z])) g L0 L1 → post none n L1) : sp_X1_putAtEnd ids [.ref (39 + 2 * c), .int (nI z)] n L post postX := by
  obtain ⟨f, H⟩ := hC.rh hc hx
  refine ⟨_, _, l, f, z, rfl, H, hl, fun f1 hf1 => k _ (hC.ring (l := l) hc hf1 (by simp; omega) ?_)⟩
  intro y hy
  rcases List.mem_append.mp hy with h | h
  · exact H.2.2.2.2.2.2.2 y h
  · simp at h; omega
theorem cr_take (hC : CW ids n Q R g L0 L) {c z : Nat} {l : List Nat} (hc : c < 4) (hx : R c = l) (hz : z ∈ l) (k : ∀ L1, CW ids n Q (va_up R c (l.erase z)) g L0 L1 → post none n L1) : sp_X1_takeOut ids [.ref (39 + 2 * c), .int (nI z)] n L post postX := by
  obtain ⟨f, H⟩ := hC.rh hc hx
  refine ⟨_, _, l, f, z, rfl, H, hz, fun f1 hf1 => k _ (hC.ring (l := l) hc hf1 ?_ ?_)⟩
  · rw [List.length_erase_of_mem hz]
    have := H.2.2.2.2.2.1
    omega
  · intro y hy
    exact H.2.2.2.2.2.2.2 y (List.mem_of_mem_erase hy)
theorem cr_turn (hC : CW ids n Q R g L0 L) {c i : Nat} {l : List Nat} (hc : c < 4) (hx : R c = l) (hi : i ≤ l.length) (k : ∀ L1, CW ids n Q (va_up R c (l.drop i ++ l.take i)) g L0 L1 → post none n L1) : sp_X1_turnBy ids [.ref (39 + 2 * c), .int (nI i)] n L post postX := by
  obtain ⟨f, H⟩ := hC.rh hc hx
  refine ⟨_, _, l, f, i, rfl, H, hi, fun f1 hf1 => k _ (hC.ring (l := l) hc hf1 ?_ ?_)⟩
  · have := H.2.2.2.2.2.1
    simp
    omega
  · intro y hy
    refine H.2.2.2.2.2.2.2 y ?_
    rcases List.mem_append.mp hy with h | h
    · exact List.mem_of_mem_drop h
    · exact List.mem_of_mem_take h
end CQL
end
section
def sumN (f : Nat → Nat) : Nat → Nat
  | 0 => 0
  | k + 1 => sumN f k + f k
def sumZ (f : Nat → Int) : Nat → Int
  | 0 => 0
  | k + 1 => sumZ f k + f k
theorem sumN_le {f : Nat → Nat} {m N : Nat} (h : ∀ q, q < N → f q ≤ m) : ∀ k, k ≤ N → sumN f k ≤ m * k
  | 0, _ => by simp [sumN]
  | k + 1, hk => by
    have := sumN_le h k (by omega)
    have := h k (by omega)
    unfold sumN
    rw [Nat.mul_add]
    omega
theorem sumZ_bd {f : Nat → Int} {m : Int} {N : Nat} (h : ∀ q, q < N → -m ≤ f q ∧ f q ≤ m) : ∀ k : Nat, k ≤ N → -(m * (k : Int)) ≤ sumZ f k ∧ sumZ f k ≤ m * (k : Int)
  | 0, _ => by simp [sumZ]
  | k + 1, hk => by
    have := sumZ_bd h k (by omega)
    have := h k (by omega)
    unfold sumZ
    rw [show ((k + 1 : Nat) : Int) = (k : Int) + 1 from rfl, Int.mul_add, Int.mul_one]
    omega
def fre (Q : Nat → Qs) : Int := 96 - (sumN (fun q => (qI (Q q)).length) 12 : Nat)
def opn (Q : Nat → Qs) (k : Nat) : Int := fre Q + sumZ (fun q => min (exc Q q) 0) k
def room (Q : Nat → Qs) (q : Nat) : Bool := decide (0 < fre Q ∧ (exc Q q < 0 ∨ 0 < opn Q 12))
def grd (Q : Nat → Qs) : Nat → Nat
  | 0 => 0
  | k + 1 => if exc Q (grd Q k) < exc Q (k + 1) then k + 1 else grd Q k
theorem grd_le (Q : Nat → Qs) : ∀ k, grd Q k ≤ k
  | 0 => Nat.le_refl _
  | k + 1 => by
    have := grd_le Q k
    unfold grd
    split <;> omega
/-- a queue with kept cells in range -/
def KP (Q : Nat → Qs) : Prop := ∀ q, q < 12 → qp (Q q) ≤ 96
theorem CW.blen {ids : Nat → ClassId} {n : Nat} {Q : Nat → Qs} {R : Nat → List Nat} {g : Nat → Int32} {L0 L : lm_L} (hC : CW ids n Q R g L0 L) {q : Nat} (hq : q < 12) : (qI (Q q)).length ≤ 96 := by
  obtain ⟨a, W, C, -, -, -, -, h, -⟩ := hC.2.2.2.2.1 q hq
  exact h
theorem CW.bexc {ids : Nat → ClassId} {n : Nat} {Q : Nat → Qs} {R : Nat → List Nat} {g : Nat → Int32} {L0 L : lm_L} (hC : CW ids n Q R g L0 L) (hK : KP Q) {q : Nat} (hq : q < 12) : -96 ≤ exc Q q ∧ exc Q q ≤ 96 := by
  have h1 := hC.blen hq
  have h2 := hK q hq
  unfold exc
  omega
theorem CW.bfre {ids : Nat → ClassId} {n : Nat} {Q : Nat → Qs} {R : Nat → List Nat} {g : Nat → Int32} {L0 L : lm_L} (hC : CW ids n Q R g L0 L) : -1056 ≤ fre Q ∧ fre Q ≤ 96 := by
  have h := sumN_le (f := fun q => (qI (Q q)).length) (m := 96) (N := 12) (fun q hq => hC.blen hq) 12 (by omega)
  unfold fre
  omega
theorem CW.bopn {ids : Nat → ClassId} {n : Nat} {Q : Nat → Qs} {R : Nat → List Nat} {g : Nat → Int32} {L0 L : lm_L} (hC : CW ids n Q R g L0 L) (hK : KP Q) {k : Nat} (hk : k ≤ 12) : -2208 ≤ opn Q k ∧ opn Q k ≤ 1248 := by
  have h := hC.bfre
  have h2 := sumZ_bd (f := fun q => min (exc Q q) 0) (m := 96) (N := 12) (fun q hq => by have := hC.bexc hK hq; omega) k hk
  unfold opn
  omega
theorem qn_of {z : Int32} (h1 : ¬ z < 0) (h2 : z < 12) : ∃ q, q < 12 ∧ z = nI q := by
  obtain ⟨j, hj, rfl⟩ := nI_of h1
  exact ⟨j, (nI_ltI hj (by decide)).mp h2, rfl⟩
theorem qn_neg {z : Int32} (h : z < 0) : ∀ q, q < 12 → z ≠ nI q := by
  rintro q hq rfl
  exact nI_pos (by omega) h
theorem qn_big {z : Int32} (h : ¬ z < 12) : ∀ q, q < 12 → z ≠ nI q := by
  rintro q hq rfl
  exact h (nI_lt (b := 12) hq (by decide))
def rm_X2_queueOf : Room := { frames := 6, cells := 1, slots := 6, locals := 82 }
theorem ld_X2_queueOf : yX2_queueOf.cls ≠ "java/lang/invoke/MethodHandle" ∧ yX2_queueOf.cls ≠ "java/lang/invoke/VarHandle" ∧ (parseMethodDescriptor yX2_queueOf.desc).map (fun d => d.parameters.length) = some 1 := by decide +kernel
def sp_X2_queueOf (ids : Nat → ClassId) : lm_S := fun As n L post postX => ∃ Q R g L0 z, CW ids n Q R g L0 L ∧ As = [.ref 0, .int z] ∧ (∀ q, q < 12 → z = nI q → post (some (.ref (3 + 3 * q))) n L) ∧ ((∀ q, q < 12 → z ≠ nI q) → postX lm_iae n L)
def th_X2_queueOf : Nat → Option String := fun j => match j with
  | 10 => some lm_iae
  | _ => none
set_option maxHeartbeats 4000000 in
set_option maxRecDepth 20000 in
theorem ok_X2_queueOf (l : Launch) (D : va_G) (ids : Nat → ClassId) (B b : Nat) (hlt : l.stackTraces = false) : lm_M l D (lm_ty ids) B b false yX2_queueOf cX2_queueOf 2 (some (.object "SharedQueues$Queue")) rm_X2_queueOf 1 6 (sp_X2_queueOf ids) := by
  refine lm_method (own := RX2) (fld := lf_2) (cv := (fun _ => none)) (cs := (fun _ => none)) (ci := (fun _ => none)) (kon := (fun _ => none)) (thr := th_X2_queueOf) (nw := (fun _ => none)) (ini := false) (cp := none) (alc := false) (by decide +kernel) rfl rfl rfl (lf_2_ok _) ⟨?_, ?_⟩ ?_ (fun h => by cases h) (lm_aok0 _ _ _ _ _ _ _ _) ?_ ?_
  · intro j f hf
    cases hf
  · intro j f hf
    cases hf
  · intro j v hv; cases hv
  · refine Or.inr ⟨rfl, rfl, hlt, by decide, by decide, ?_⟩
    intro pc en he
    unfold th_X2_queueOf at he
    split at he
    · cases he; exact ⟨143, 173, 147, "no such queue", lx_iae, by decide, dX2_queueOf_10, dX2_queueOf_13, dX2_queueOf_14, dX2_queueOf_16, dX2_queueOf_19⟩
    · cases he
  rintro As n L post postX ⟨Q, R, g, L0, z, hC, rfl, hp, hpx⟩
  refine ⟨by simp [Value.category], (Nat.le_of_ble_eq_true rfl), lm_cl_of ?_⟩
  intro G hG
  refine lg_iload_n hG dX2_queueOf_0 rfl ?_
  refine lg_if_lt hG dX2_queueOf_1 (tgt := 10) (by decide) (by decide) (fun h_1 => ?_) (fun h_1 => ?_)
  · skip
    have hpx := hpx (qn_neg h_1)
    refine lg_throw hG dX2_queueOf_10 rfl (Nat.le_of_ble_eq_true rfl) (Nat.le_of_ble_eq_true rfl) ?_
    exact hpx
  · skip
    refine lg_iload_n hG dX2_queueOf_4 rfl ?_
    refine lg_bipush hG dX2_queueOf_5 (x := (12)) (by decide) ?_
    refine lg_icmp_lt hG dX2_queueOf_7 (tgt := 20) (by decide) (by decide) (fun h_7 => ?_) (fun h_7 => ?_)
    · skip
      obtain ⟨q, hq, rfl⟩ := qn_of h_1 h_7
      have hp := hp q hq rfl
      refine lg_aload_n hG dX2_queueOf_20 rfl ?_
      refine cg_getg hG hC dX2_queueOf_21 rfl rfl ?_
      refine lg_iload_n hG dX2_queueOf_24 rfl ?_
      first | refine cg_aq hG hC dX2_queueOf_25 rfl (by first | assumption | omega) ?_ | refine cg_ar hG hC dX2_queueOf_25 rfl (by first | assumption | omega) ?_
      refine lg_aret hG dX2_queueOf_26 (Nat.le_of_ble_eq_true rfl) (Nat.le_of_ble_eq_true rfl) ?_
      exact ⟨trivial, hp⟩
    · skip
      have hpx := hpx (qn_big h_7)
      refine lg_throw hG dX2_queueOf_10 rfl (Nat.le_of_ble_eq_true rfl) (Nat.le_of_ble_eq_true rfl) ?_
      exact hpx

def rm_X2_checkRange : Room := { frames := 6, cells := 1, slots := 6, locals := 82 }
theorem ld_X2_checkRange : yX2_checkRange.cls ≠ "java/lang/invoke/MethodHandle" ∧ yX2_checkRange.cls ≠ "java/lang/invoke/VarHandle" ∧ (parseMethodDescriptor yX2_checkRange.desc).map (fun d => d.parameters.length) = some 3 := by decide +kernel
def sp_X2_checkRange (ids : Nat → ClassId) : lm_S := fun As n L post postX => ∃ z a b, As = [.int z, .int a, .int b] ∧ ((z < a ∨ ¬ z ≤ b) → postX lm_iae n L) ∧ (¬ z < a → z ≤ b → post none n L)
def th_X2_checkRange : Nat → Option String := fun j => match j with
  | 10 => some lm_iae
  | _ => none
set_option maxHeartbeats 4000000 in
set_option maxRecDepth 20000 in
theorem ok_X2_checkRange (l : Launch) (D : va_G) (ids : Nat → ClassId) (B b : Nat) (hlt : l.stackTraces = false) : lm_M l D (lm_ty ids) B b false yX2_checkRange cX2_checkRange 3 none rm_X2_checkRange 1 6 (sp_X2_checkRange ids) := by
  refine lm_method (own := RX2) (fld := lf_2) (cv := (fun _ => none)) (cs := (fun _ => none)) (ci := (fun _ => none)) (kon := (fun _ => none)) (thr := th_X2_checkRange) (nw := (fun _ => none)) (ini := false) (cp := none) (alc := false) (by decide +kernel) rfl rfl rfl (lf_2_ok _) ⟨?_, ?_⟩ ?_ (fun h => by cases h) (lm_aok0 _ _ _ _ _ _ _ _) ?_ ?_
  · intro j f hf
    cases hf
  · intro j f hf
    cases hf
  · intro j v hv; cases hv
  · refine Or.inr ⟨rfl, rfl, hlt, by decide, by decide, ?_⟩
    intro pc en he
    unfold th_X2_checkRange at he
    split at he
    · cases he; exact ⟨143, 175, 147, "out of range", lx_iae, by decide, dX2_checkRange_10, dX2_checkRange_13, dX2_checkRange_14, dX2_checkRange_16, dX2_checkRange_19⟩
    · cases he
  rintro As n L post postX ⟨z, a, b, rfl, hpx, hp⟩
  refine ⟨by simp [Value.category], (Nat.le_of_ble_eq_true rfl), lm_cl_of ?_⟩
  intro G hG
  refine lg_iload_n hG dX2_checkRange_0 rfl ?_
  refine lg_iload_n hG dX2_checkRange_1 rfl ?_
  refine lg_icmp_lt hG dX2_checkRange_2 (tgt := 10) (by decide) (by decide) (fun h_2 => ?_) (fun h_2 => ?_)
  · skip
    have hpx := hpx (Or.inl h_2)
    refine lg_throw hG dX2_checkRange_10 rfl (Nat.le_of_ble_eq_true rfl) (Nat.le_of_ble_eq_true rfl) ?_
    exact hpx
  · skip
    refine lg_iload_n hG dX2_checkRange_5 rfl ?_
    refine lg_iload_n hG dX2_checkRange_6 rfl ?_
    refine lg_icmp_le hG dX2_checkRange_7 (tgt := 20) (by decide) (by decide) (fun h_7 => ?_) (fun h_7 => ?_)
    · skip
      have hp := hp h_2 h_7
      refine lg_vret hG dX2_checkRange_20 (Nat.le_of_ble_eq_true rfl) (Nat.le_of_ble_eq_true rfl) ?_
      exact ⟨trivial, hp⟩
    · skip
      have hpx := hpx (Or.inr h_7)
      refine lg_throw hG dX2_checkRange_10 rfl (Nat.le_of_ble_eq_true rfl) (Nat.le_of_ble_eq_true rfl) ?_
      exact hpx

def rm_X2_keptCells : Room := { frames := 0, cells := 0, slots := 0, locals := 0 }
theorem ld_X2_keptCells : yX2_keptCells.cls ≠ "java/lang/invoke/MethodHandle" ∧ yX2_keptCells.cls ≠ "java/lang/invoke/VarHandle" ∧ (parseMethodDescriptor yX2_keptCells.desc).map (fun d => d.parameters.length) = some 0 := by decide +kernel
def sp_X2_keptCells (ids : Nat → ClassId) : lm_S := fun As n L post postX => ∃ Q R g L0, CW ids n Q R g L0 L ∧ As = [.ref 0] ∧ post (some (.int (nI (sumN (fun q => qp (Q q)) 12)))) n L
set_option maxHeartbeats 4000000 in
set_option maxRecDepth 20000 in
theorem ok_X2_keptCells (l : Launch) (D : va_G) (ids : Nat → ClassId) (B b : Nat) : lm_M l D (lm_ty ids) B b false yX2_keptCells cX2_keptCells 6 (some .int) rm_X2_keptCells 0 0 (sp_X2_keptCells ids) := by
  refine lm_method (own := RX2) (fld := lf_2) (cv := (fun _ => none)) (cs := (fun _ => none)) (ci := (fun _ => none)) (kon := (fun _ => none)) (thr := (fun _ => none)) (nw := (fun _ => none)) (ini := false) (cp := none) (alc := false) (by decide +kernel) rfl rfl rfl (lf_2_ok _) ⟨?_, ?_⟩ ?_ (fun h => by cases h) (lm_aok0 _ _ _ _ _ _ _ _) ?_ ?_
  · intro j f hf
    cases hf
  · intro j f hf
    cases hf
  · intro j v hv; cases hv
  · exact Or.inl fun _ => rfl
  rintro As n L post postX ⟨Q, R, g, L0, hC, rfl, hp⟩
  refine ⟨by simp [Value.category], (Nat.le_of_ble_eq_true rfl), lm_cl_of ?_⟩
  intro G hG
  have loop : ∀ (m k : Nat), k ≤ 12 → 12 - k < m → ∀ z, G 13 [some (.ref 0), some (.int (nI (sumN (fun q => qp (Q q)) k))), some (.ref 1), some (.int (nI 12)), some (.int (nI k)), z] [] n L 0 0 := by
    intro m
    induction m with
    | zero => intro k h1 h2; omega
    | succ m ih =>
      intro k hk hkm z
      refine lg_iload hG dX2_keptCells_13 rfl ?_
      refine lg_iload_n hG dX2_keptCells_15 rfl ?_
      refine lg_icmp_ge hG dX2_keptCells_16 (tgt := 39) (by decide) (by decide) (fun h_16 => ?_) (fun h_16 => ?_)
      · skip
        have hkl : k = 12 := by
          rcases Nat.lt_or_ge k 12 with h | h
          · exact absurd (nI_lt h (by omega)) h_16
          · omega
        subst hkl
        refine lg_iload_n hG dX2_keptCells_39 rfl ?_
        refine lg_iret hG dX2_keptCells_40 (Nat.le_of_ble_eq_true rfl) (Nat.le_of_ble_eq_true rfl) ?_
        exact ⟨trivial, hp⟩
      · skip
        have hkl : k < 12 := (nI_ltI (by omega) (by omega)).mp h_16
        refine lg_aload_n hG dX2_keptCells_19 rfl ?_
        refine lg_iload hG dX2_keptCells_20 rfl ?_
        first | refine cg_aq hG hC dX2_keptCells_22 rfl (by first | assumption | omega) ?_ | refine cg_ar hG hC dX2_keptCells_22 rfl (by first | assumption | omega) ?_
        refine lg_astore hG dX2_keptCells_23 (Nat.le_of_ble_eq_true rfl) rfl ?_
        refine lg_iload_n hG dX2_keptCells_25 rfl ?_
        refine lg_aload hG dX2_keptCells_26 rfl ?_
        refine cg_get hG hC dX2_keptCells_28 rfl (by first | assumption | omega) rfl rfl ?_
        refine lg_iadd hG dX2_keptCells_31 (show nI (sumN (fun q => qp (Q q)) k) + nI (qp (Q k)) = nI (sumN (fun q => qp (Q q)) (k + 1)) from nI_add _ _) ?_
        refine lg_istore_n hG dX2_keptCells_32 (Nat.le_of_ble_eq_true rfl) rfl ?_
        refine lg_iinc hG dX2_keptCells_33 (Nat.le_of_ble_eq_true rfl) rfl rfl rfl ?_
        refine lg_goto hG dX2_keptCells_36 (tgt := 13) (by decide) (by decide) ?_
        rw [show nI k + Int32.ofInt 1 = nI (k + 1) from nI_1 k]
        exact ih (k + 1) (by omega) (by omega) _
  refine lg_iconst hG dX2_keptCells_0 (x := 0) (by decide) ?_
  refine lg_istore_n hG dX2_keptCells_1 (Nat.le_of_ble_eq_true rfl) rfl ?_
  refine lg_aload_n hG dX2_keptCells_2 rfl ?_
  refine cg_getg hG hC dX2_keptCells_3 rfl rfl ?_
  refine lg_astore_n hG dX2_keptCells_6 (Nat.le_of_ble_eq_true rfl) rfl ?_
  refine lg_aload_n hG dX2_keptCells_7 rfl ?_
  first | refine cg_lenq hG hC dX2_keptCells_8 rfl ?_ | refine cg_lenr hG hC dX2_keptCells_8 rfl ?_
  refine lg_istore_n hG dX2_keptCells_9 (Nat.le_of_ble_eq_true rfl) rfl ?_
  refine lg_iconst hG dX2_keptCells_10 (x := 0) (by decide) ?_
  refine lg_istore hG dX2_keptCells_11 (Nat.le_of_ble_eq_true rfl) rfl ?_
  exact loop 13 0 (by omega) (by omega) _

def rm_X2_freeCells : Room := { frames := 0, cells := 0, slots := 0, locals := 0 }
theorem ld_X2_freeCells : yX2_freeCells.cls ≠ "java/lang/invoke/MethodHandle" ∧ yX2_freeCells.cls ≠ "java/lang/invoke/VarHandle" ∧ (parseMethodDescriptor yX2_freeCells.desc).map (fun d => d.parameters.length) = some 0 := by decide +kernel
def sp_X2_freeCells (ids : Nat → ClassId) : lm_S := fun As n L post postX => ∃ Q R g L0, CW ids n Q R g L0 L ∧ As = [.ref 0] ∧ post (some (.int (iI (fre Q)))) n L
set_option maxHeartbeats 4000000 in
set_option maxRecDepth 20000 in
theorem ok_X2_freeCells (l : Launch) (D : va_G) (ids : Nat → ClassId) (B b : Nat) : lm_M l D (lm_ty ids) B b false yX2_freeCells cX2_freeCells 6 (some .int) rm_X2_freeCells 0 0 (sp_X2_freeCells ids) := by
  refine lm_method (own := RX2) (fld := lf_2) (cv := (fun _ => none)) (cs := (fun _ => none)) (ci := (fun _ => none)) (kon := (fun _ => none)) (thr := (fun _ => none)) (nw := (fun _ => none)) (ini := false) (cp := none) (alc := false) (by decide +kernel) rfl rfl rfl (lf_2_ok _) ⟨?_, ?_⟩ ?_ (fun h => by cases h) (lm_aok0 _ _ _ _ _ _ _ _) ?_ ?_
  · intro j f hf
    cases hf
  · intro j f hf
    cases hf
  · intro j v hv; cases hv
  · exact Or.inl fun _ => rfl
  rintro As n L post postX ⟨Q, R, g, L0, hC, rfl, hp⟩
  refine ⟨by simp [Value.category], (Nat.le_of_ble_eq_true rfl), lm_cl_of ?_⟩
  intro G hG
  have loop : ∀ (m k : Nat), k ≤ 12 → 12 - k < m → ∀ z, G 14 [some (.ref 0), some (.int (iI (96 - (sumN (fun q => (qI (Q q)).length) k : Nat)))), some (.ref 1), some (.int (nI 12)), some (.int (nI k)), z] [] n L 0 0 := by
    intro m
    induction m with
    | zero => intro k h1 h2; omega
    | succ m ih =>
      intro k hk hkm z
      refine lg_iload hG dX2_freeCells_14 rfl ?_
      refine lg_iload_n hG dX2_freeCells_16 rfl ?_
      refine lg_icmp_ge hG dX2_freeCells_17 (tgt := 40) (by decide) (by decide) (fun h_17 => ?_) (fun h_17 => ?_)
      · skip
        have hkl : k = 12 := by
          rcases Nat.lt_or_ge k 12 with h | h
          · exact absurd (nI_lt h (by omega)) h_17
          · omega
        subst hkl
        refine lg_iload_n hG dX2_freeCells_40 rfl ?_
        refine lg_iret hG dX2_freeCells_41 (Nat.le_of_ble_eq_true rfl) (Nat.le_of_ble_eq_true rfl) ?_
        exact ⟨trivial, hp⟩
      · skip
        have hkl : k < 12 := (nI_ltI (by omega) (by omega)).mp h_17
        refine lg_aload_n hG dX2_freeCells_20 rfl ?_
        refine lg_iload hG dX2_freeCells_21 rfl ?_
        first | refine cg_aq hG hC dX2_freeCells_23 rfl (by first | assumption | omega) ?_ | refine cg_ar hG hC dX2_freeCells_23 rfl (by first | assumption | omega) ?_
        refine lg_astore hG dX2_freeCells_24 (Nat.le_of_ble_eq_true rfl) rfl ?_
        refine lg_iload_n hG dX2_freeCells_26 rfl ?_
        refine lg_aload hG dX2_freeCells_27 rfl ?_
        refine cg_get hG hC dX2_freeCells_29 rfl (by first | assumption | omega) rfl rfl ?_
        refine lg_isub hG dX2_freeCells_32 (show iI (96 - (sumN (fun q => (qI (Q q)).length) k : Nat)) - nI (qI (Q k)).length = iI (96 - (sumN (fun q => (qI (Q q)).length) (k + 1) : Nat)) by rw [iI_n, iI_sub]; congr 1; simp only [sumN]; omega) ?_
        refine lg_istore_n hG dX2_freeCells_33 (Nat.le_of_ble_eq_true rfl) rfl ?_
        refine lg_iinc hG dX2_freeCells_34 (Nat.le_of_ble_eq_true rfl) rfl rfl rfl ?_
        refine lg_goto hG dX2_freeCells_37 (tgt := 14) (by decide) (by decide) ?_
        rw [show nI k + Int32.ofInt 1 = nI (k + 1) from nI_1 k]
        exact ih (k + 1) (by omega) (by omega) _
  refine lg_bipush hG dX2_freeCells_0 (x := (96)) (by decide) ?_
  refine lg_istore_n hG dX2_freeCells_2 (Nat.le_of_ble_eq_true rfl) rfl ?_
  refine lg_aload_n hG dX2_freeCells_3 rfl ?_
  refine cg_getg hG hC dX2_freeCells_4 rfl rfl ?_
  refine lg_astore_n hG dX2_freeCells_7 (Nat.le_of_ble_eq_true rfl) rfl ?_
  refine lg_aload_n hG dX2_freeCells_8 rfl ?_
  first | refine cg_lenq hG hC dX2_freeCells_9 rfl ?_ | refine cg_lenr hG hC dX2_freeCells_9 rfl ?_
  refine lg_istore_n hG dX2_freeCells_10 (Nat.le_of_ble_eq_true rfl) rfl ?_
  refine lg_iconst hG dX2_freeCells_11 (x := 0) (by decide) ?_
  refine lg_istore hG dX2_freeCells_12 (Nat.le_of_ble_eq_true rfl) rfl ?_
  exact loop 13 0 (by omega) (by omega) _

def rm_J9_min : Room := { frames := 0, cells := 0, slots := 0, locals := 0 }
theorem ld_J9_min : yJ9_min_7cf53.cls ≠ "java/lang/invoke/MethodHandle" ∧ yJ9_min_7cf53.cls ≠ "java/lang/invoke/VarHandle" ∧ (parseMethodDescriptor yJ9_min_7cf53.desc).map (fun d => d.parameters.length) = some 2 := by decide +kernel
def sp_J9_min (ids : Nat → ClassId) : lm_S := fun As n L post _ => ∃ x y, As = [.int x, .int y] ∧ post (some (.int (if x ≤ y then x else y))) n L
set_option maxHeartbeats 4000000 in
set_option maxRecDepth 20000 in
theorem ok_J9_min (l : Launch) (D : va_G) (ids : Nat → ClassId) (B b : Nat) : lm_M l D (lm_ty ids) B b false yJ9_min_7cf53 cJ9_min_7cf53 2 (some .int) rm_J9_min 0 0 (sp_J9_min ids) := by
  refine lm_method (own := RJ9) (fld := (fun _ => none)) (cv := (fun _ => none)) (cs := (fun _ => none)) (ci := (fun _ => none)) (kon := (fun _ => none)) (thr := (fun _ => none)) (nw := (fun _ => none)) (ini := false) (cp := none) (alc := false) (by decide +kernel) rfl rfl rfl (fun _ _ _ _ _ _ _ _ _ h => by cases h) ⟨?_, ?_⟩ ?_ (fun h => by cases h) (lm_aok0 _ _ _ _ _ _ _ _) ?_ ?_
  · intro j f hf
    cases hf
  · intro j f hf
    cases hf
  · intro j v hv; cases hv
  · exact Or.inl fun _ => rfl
  rintro As n L post postX ⟨x, y, rfl, hp⟩
  refine ⟨by simp [Value.category], (Nat.le_of_ble_eq_true rfl), lm_cl_of ?_⟩
  intro G hG
  refine lg_iload_n hG dJ9_min_7cf53_0 rfl ?_
  refine lg_iload_n hG dJ9_min_7cf53_1 rfl ?_
  refine lg_icmp_gt hG dJ9_min_7cf53_2 (tgt := 9) (by decide) (by decide) (fun h_2 => ?_) (fun h_2 => ?_)
  · skip
    rw [if_neg h_2] at hp
    refine lg_iload_n hG dJ9_min_7cf53_9 rfl ?_
    refine lg_iret hG dJ9_min_7cf53_10 (Nat.le_of_ble_eq_true rfl) (Nat.le_of_ble_eq_true rfl) ?_
    exact ⟨trivial, hp⟩
  · skip
    rw [if_pos h_2] at hp
    refine lg_iload_n hG dJ9_min_7cf53_5 rfl ?_
    refine lg_goto hG dJ9_min_7cf53_6 (tgt := 10) (by decide) (by decide) ?_
    refine lg_iret hG dJ9_min_7cf53_10 (Nat.le_of_ble_eq_true rfl) (Nat.le_of_ble_eq_true rfl) ?_
    exact ⟨trivial, hp⟩

theorem op_min {z : Int} (h1 : -96 ≤ z) (h2 : z ≤ 96) : (if iI z ≤ iI 0 then iI z else iI 0) = iI (min z 0) := by
  by_cases h : z ≤ 0
  · rw [if_pos ((iI_le (by omega) (by omega) (by omega) (by omega)).mpr h), show min z 0 = z by omega]
  · rw [if_neg (fun h9 => h ((iI_le (by omega) (by omega) (by omega) (by omega)).mp h9)), show min z 0 = 0 by omega]
def rm_X2_openCells : Room := { frames := 1, cells := 0, slots := 0, locals := 25 }
theorem ld_X2_openCells : yX2_openCells.cls ≠ "java/lang/invoke/MethodHandle" ∧ yX2_openCells.cls ≠ "java/lang/invoke/VarHandle" ∧ (parseMethodDescriptor yX2_openCells.desc).map (fun d => d.parameters.length) = some 0 := by decide +kernel
def sp_X2_openCells (ids : Nat → ClassId) : lm_S := fun As n L post postX => ∃ Q R g L0, CW ids n Q R g L0 L ∧ As = [.ref 0] ∧ KP Q ∧ post (some (.int (iI (opn Q 12)))) n L
def cv_X2_openCells (ids : Nat → ClassId) : Nat → Option lm_C := fun j => match j with
  | 69 => some (1, 0, sp_X0_excess ids, 0, 0)
  | 161 => some (1, 2, sp_X2_freeCells ids, 0, 0)
  | _ => none
def cs_X2_openCells (ids : Nat → ClassId) : Nat → Option lm_C := fun j => match j with
  | 177 => some (2, 0, sp_J9_min ids, 0, 0)
  | _ => none
set_option maxHeartbeats 4000000 in
set_option maxRecDepth 20000 in
theorem ok_X2_openCells (l : Launch) (D : va_G) (ids : Nat → ClassId) (B b : Nat) : lm_M l D (lm_ty ids) B b false yX2_openCells cX2_openCells 6 (some .int) rm_X2_openCells 0 0 (sp_X2_openCells ids) := by
  refine lm_method (own := RX2) (fld := lf_2) (cv := (cv_X2_openCells ids)) (cs := (cs_X2_openCells ids)) (ci := (fun _ => none)) (kon := (fun _ => none)) (thr := (fun _ => none)) (nw := (fun _ => none)) (ini := false) (cp := none) (alc := false) (by decide +kernel) rfl rfl rfl (lf_2_ok _) ⟨?_, ?_⟩ ?_ (fun h => by cases h) (lm_aok0 _ _ _ _ _ _ _ _) ?_ ?_
  · intro j f hf
    unfold cv_X2_openCells at hf
    split at hf
    · cases hf; exact ⟨yX0_excess, cX0_excess, 1, (some .int), rm_X0_excess, RX0, TX0, 15, 0, rfl, rfl, ok_X0_excess l D ids B b, lw_0_excess, ll_2_69, rfl, rfl, ⟨rfl, ld_X0_excess⟩, by decide⟩
    · cases hf; exact ⟨yX2_freeCells, cX2_freeCells, 6, (some .int), rm_X2_freeCells, RX2, TX2, 7, 0, rfl, rfl, ok_X2_freeCells l D ids B b, lw_2_freeCells, ll_2_161, rfl, rfl, ⟨rfl, ld_X2_freeCells⟩, by decide⟩
    · cases hf
  · intro j f hf
    unfold cs_X2_openCells at hf
    split at hf
    · cases hf; exact ⟨yJ9_min_7cf53, cJ9_min_7cf53, 2, (some .int), rm_J9_min, ok_J9_min l D ids B b, lw_9_min, ll_2_177, rfl, rfl, ld_J9_min, by decide⟩
    · cases hf
  · intro j v hv; cases hv
  · exact Or.inl fun _ => rfl
  rintro As n L post postX ⟨Q, R, g, L0, hC, rfl, hK, hp⟩
  refine ⟨by simp [Value.category], (Nat.le_of_ble_eq_true rfl), lm_cl_of ?_⟩
  intro G hG
  have loop : ∀ (m k : Nat), k ≤ 12 → 12 - k < m → ∀ z, G 16 [some (.ref 0), some (.int (iI (opn Q k))), some (.ref 1), some (.int (nI 12)), some (.int (nI k)), z] [] n L 0 0 := by
    intro m
    induction m with
    | zero => intro k h1 h2; omega
    | succ m ih =>
      intro k hk hkm z
      refine lg_iload hG dX2_openCells_16 rfl ?_
      refine lg_iload_n hG dX2_openCells_18 rfl ?_
      refine lg_icmp_ge hG dX2_openCells_19 (tgt := 46) (by decide) (by decide) (fun h_19 => ?_) (fun h_19 => ?_)
      · skip
        have hkl : k = 12 := by
          rcases Nat.lt_or_ge k 12 with h | h
          · exact absurd (nI_lt h (by omega)) h_19
          · omega
        subst hkl
        refine lg_iload_n hG dX2_openCells_46 rfl ?_
        refine lg_iret hG dX2_openCells_47 (Nat.le_of_ble_eq_true rfl) (Nat.le_of_ble_eq_true rfl) ?_
        exact ⟨trivial, hp⟩
      · skip
        have hkl : k < 12 := (nI_ltI (by omega) (by omega)).mp h_19
        refine lg_aload_n hG dX2_openCells_22 rfl ?_
        refine lg_iload hG dX2_openCells_23 rfl ?_
        first | refine cg_aq hG hC dX2_openCells_25 rfl (by first | assumption | omega) ?_ | refine cg_ar hG hC dX2_openCells_25 rfl (by first | assumption | omega) ?_
        refine lg_astore hG dX2_openCells_26 (Nat.le_of_ble_eq_true rfl) rfl ?_
        refine lg_iload_n hG dX2_openCells_28 rfl ?_
        refine lg_aload hG dX2_openCells_29 rfl ?_
        refine cg_callQ hG hC dX2_openCells_31 rfl (fun P h => h) (by first | assumption | omega) (Nat.le_of_ble_eq_true rfl) (Nat.le_of_ble_eq_true rfl) (Nat.le_of_ble_eq_true rfl) ?_
        refine cq_excess hC (by assumption) ?_
        refine lg_iconst hG dX2_openCells_34 (x := 0) (by decide) ?_
        refine lg_callS hG dX2_openCells_35 (by simp) rfl (fun P h => h) (Nat.le_of_ble_eq_true rfl) (Nat.le_of_ble_eq_true rfl) (Nat.le_of_ble_eq_true rfl) ?_
        refine ⟨_, _, rfl, ?_⟩
        have he := hC.bexc hK hkl
        rw [show ((0 : Int32)) = iI 0 from rfl, op_min (by omega) (by omega)]
        refine lg_iadd hG dX2_openCells_38 (show iI (opn Q k) + iI (min (exc Q k) 0) = iI (opn Q (k + 1)) by rw [iI_add]; congr 1; unfold opn; simp only [sumZ]; omega) ?_
        refine lg_istore_n hG dX2_openCells_39 (Nat.le_of_ble_eq_true rfl) rfl ?_
        refine lg_iinc hG dX2_openCells_40 (Nat.le_of_ble_eq_true rfl) rfl rfl rfl ?_
        refine lg_goto hG dX2_openCells_43 (tgt := 16) (by decide) (by decide) ?_
        rw [show nI k + Int32.ofInt 1 = nI (k + 1) from nI_1 k]
        exact ih (k + 1) (by omega) (by omega) _
  refine lg_aload_n hG dX2_openCells_0 rfl ?_
  refine cg_callO hG hC dX2_openCells_1 rfl (fun P h => h) (Nat.le_of_ble_eq_true rfl) (Nat.le_of_ble_eq_true rfl) (Nat.le_of_ble_eq_true rfl) ?_
  refine ⟨Q, R, g, L0, hC, rfl, ?_⟩
  refine lg_istore_n hG dX2_openCells_4 (Nat.le_of_ble_eq_true rfl) rfl ?_
  refine lg_aload_n hG dX2_openCells_5 rfl ?_
  refine cg_getg hG hC dX2_openCells_6 rfl rfl ?_
  refine lg_astore_n hG dX2_openCells_9 (Nat.le_of_ble_eq_true rfl) rfl ?_
  refine lg_aload_n hG dX2_openCells_10 rfl ?_
  first | refine cg_lenq hG hC dX2_openCells_11 rfl ?_ | refine cg_lenr hG hC dX2_openCells_11 rfl ?_
  refine lg_istore_n hG dX2_openCells_12 (Nat.le_of_ble_eq_true rfl) rfl ?_
  refine lg_iconst hG dX2_openCells_13 (x := 0) (by decide) ?_
  refine lg_istore hG dX2_openCells_14 (Nat.le_of_ble_eq_true rfl) rfl ?_
  have h0 := loop 13 0 (by omega) (by omega)
  rw [show opn Q 0 = fre Q by unfold opn sumZ; omega] at h0
  exact h0 _

def rm_X2_hasRoomFor : Room := { frames := 2, cells := 0, slots := 0, locals := 50 }
theorem ld_X2_hasRoomFor : yX2_hasRoomFor.cls ≠ "java/lang/invoke/MethodHandle" ∧ yX2_hasRoomFor.cls ≠ "java/lang/invoke/VarHandle" ∧ (parseMethodDescriptor yX2_hasRoomFor.desc).map (fun d => d.parameters.length) = some 1 := by decide +kernel
def sp_X2_hasRoomFor (ids : Nat → ClassId) : lm_S := fun As n L post postX => ∃ Q R g L0 q, CW ids n Q R g L0 L ∧ As = [.ref 0, .ref (3 + 3 * q)] ∧ q < 12 ∧ KP Q ∧ post (some (.int (bI (room Q q)))) n L
def cv_X2_hasRoomFor (ids : Nat → ClassId) : Nat → Option lm_C := fun j => match j with
  | 69 => some (1, 0, sp_X0_excess ids, 0, 0)
  | 161 => some (1, 2, sp_X2_freeCells ids, 0, 0)
  | 164 => some (1, 2, sp_X2_openCells ids, 0, 0)
  | _ => none
set_option maxHeartbeats 4000000 in
set_option maxRecDepth 20000 in
theorem ok_X2_hasRoomFor (l : Launch) (D : va_G) (ids : Nat → ClassId) (B b : Nat) : lm_M l D (lm_ty ids) B b false yX2_hasRoomFor cX2_hasRoomFor 2 (some .boolean) rm_X2_hasRoomFor 0 0 (sp_X2_hasRoomFor ids) := by
  refine lm_method (own := RX2) (fld := lf_2) (cv := (cv_X2_hasRoomFor ids)) (cs := (fun _ => none)) (ci := (fun _ => none)) (kon := (fun _ => none)) (thr := (fun _ => none)) (nw := (fun _ => none)) (ini := false) (cp := none) (alc := false) (by decide +kernel) rfl rfl rfl (lf_2_ok _) ⟨?_, ?_⟩ ?_ (fun h => by cases h) (lm_aok0 _ _ _ _ _ _ _ _) ?_ ?_
  · intro j f hf
    unfold cv_X2_hasRoomFor at hf
    split at hf
    · cases hf; exact ⟨yX0_excess, cX0_excess, 1, (some .int), rm_X0_excess, RX0, TX0, 15, 0, rfl, rfl, ok_X0_excess l D ids B b, lw_0_excess, ll_2_69, rfl, rfl, ⟨rfl, ld_X0_excess⟩, by decide⟩
    · cases hf; exact ⟨yX2_freeCells, cX2_freeCells, 6, (some .int), rm_X2_freeCells, RX2, TX2, 7, 0, rfl, rfl, ok_X2_freeCells l D ids B b, lw_2_freeCells, ll_2_161, rfl, rfl, ⟨rfl, ld_X2_freeCells⟩, by decide⟩
    · cases hf; exact ⟨yX2_openCells, cX2_openCells, 6, (some .int), rm_X2_openCells, RX2, TX2, 7, 0, rfl, rfl, ok_X2_openCells l D ids B b, lw_2_openCells, ll_2_164, rfl, rfl, ⟨rfl, ld_X2_openCells⟩, by decide⟩
    · cases hf
  · intro j f hf
    cases hf
  · intro j v hv; cases hv
  · exact Or.inl fun _ => rfl
  rintro As n L post postX ⟨Q, R, g, L0, q, hC, rfl, hq, hK, hp⟩
  refine ⟨by simp [Value.category], (Nat.le_of_ble_eq_true rfl), lm_cl_of ?_⟩
  intro G hG
  have hf := hC.bfre
  have he := hC.bexc hK hq
  have ho := hC.bopn hK (k := 12) (by omega)
  have hb : ∀ (x : Bool), room Q q = x → lm_rt (some .boolean) (some (.int (bI x))) ∧ post (some (.int (bI x))) n L := by
    intro x hx
    rw [hx] at hp
    exact ⟨by cases x; exact Or.inl rfl; exact Or.inr rfl, hp⟩
  refine lg_aload_n hG dX2_hasRoomFor_0 rfl ?_
  refine cg_callO hG hC dX2_hasRoomFor_1 rfl (fun P h => h) (Nat.le_of_ble_eq_true rfl) (Nat.le_of_ble_eq_true rfl) (Nat.le_of_ble_eq_true rfl) ?_
  refine ⟨Q, R, g, L0, hC, rfl, ?_⟩
  refine lg_if_le hG dX2_hasRoomFor_4 (tgt := 25) (by decide) (by decide) (fun h_4 => ?_) (fun h_4 => ?_)
  · skip
    have e1 : ¬ 0 < fre Q := by
      have := (iI_le (b := 0) (by omega) (by omega) (by omega) (by omega)).mp h_4
      omega
    refine lg_iconst hG dX2_hasRoomFor_25 (x := 0) (by decide) ?_
    refine lg_iret hG dX2_hasRoomFor_26 (Nat.le_of_ble_eq_true rfl) (Nat.le_of_ble_eq_true rfl) ?_
    first | exact hb true (by simp [room, *]) | exact hb false (by simp [room, *])
  · skip
    have e1 : 0 < fre Q := by
      rcases Int.lt_or_le 0 (fre Q) with h | h
      · exact h
      · exact absurd ((iI_le (b := 0) (by omega) (by omega) (by omega) (by omega)).mpr h) h_4
    refine lg_aload_n hG dX2_hasRoomFor_7 rfl ?_
    refine cg_callQ hG hC dX2_hasRoomFor_8 rfl (fun P h => h) (by first | assumption | omega) (Nat.le_of_ble_eq_true rfl) (Nat.le_of_ble_eq_true rfl) (Nat.le_of_ble_eq_true rfl) ?_
    refine cq_excess hC hq ?_
    refine lg_if_lt hG dX2_hasRoomFor_11 (tgt := 21) (by decide) (by decide) (fun h_11 => ?_) (fun h_11 => ?_)
    · skip
      have e2 : exc Q q < 0 := (iI_lt (b := 0) (by omega) (by omega) (by omega) (by omega)).mp h_11
      refine lg_iconst hG dX2_hasRoomFor_21 (x := 1) (by decide) ?_
      refine lg_goto hG dX2_hasRoomFor_22 (tgt := 26) (by decide) (by decide) ?_
      refine lg_iret hG dX2_hasRoomFor_26 (Nat.le_of_ble_eq_true rfl) (Nat.le_of_ble_eq_true rfl) ?_
      first | exact hb true (by simp [room, *]) | exact hb false (by simp [room, *])
    · skip
      have e2 : ¬ exc Q q < 0 := fun h => h_11 ((iI_lt (b := 0) (by omega) (by omega) (by omega) (by omega)).mpr h)
      refine lg_aload_n hG dX2_hasRoomFor_14 rfl ?_
      refine cg_callO hG hC dX2_hasRoomFor_15 rfl (fun P h => h) (Nat.le_of_ble_eq_true rfl) (Nat.le_of_ble_eq_true rfl) (Nat.le_of_ble_eq_true rfl) ?_
      refine ⟨Q, R, g, L0, hC, rfl, hK, ?_⟩
      refine lg_if_le hG dX2_hasRoomFor_18 (tgt := 25) (by decide) (by decide) (fun h_18 => ?_) (fun h_18 => ?_)
      · skip
        have e3 : ¬ 0 < opn Q 12 := by
          have := (iI_le (b := 0) (by omega) (by omega) (by omega) (by omega)).mp h_18
          omega
        refine lg_iconst hG dX2_hasRoomFor_25 (x := 0) (by decide) ?_
        refine lg_iret hG dX2_hasRoomFor_26 (Nat.le_of_ble_eq_true rfl) (Nat.le_of_ble_eq_true rfl) ?_
        first | exact hb true (by simp [room, *]) | exact hb false (by simp [room, *])
      · skip
        have e3 : 0 < opn Q 12 := by
          rcases Int.lt_or_le 0 (opn Q 12) with h | h
          · exact h
          · exact absurd ((iI_le (b := 0) (by omega) (by omega) (by omega) (by omega)).mpr h) h_18
        refine lg_iconst hG dX2_hasRoomFor_21 (x := 1) (by decide) ?_
        refine lg_goto hG dX2_hasRoomFor_22 (tgt := 26) (by decide) (by decide) ?_
        refine lg_iret hG dX2_hasRoomFor_26 (Nat.le_of_ble_eq_true rfl) (Nat.le_of_ble_eq_true rfl) ?_
        first | exact hb true (by simp [room, *]) | exact hb false (by simp [room, *])

def rm_X2_queueOfGreatestExcess : Room := { frames := 1, cells := 0, slots := 0, locals := 20 }
theorem ld_X2_queueOfGreatestExcess : yX2_queueOfGreatestExcess.cls ≠ "java/lang/invoke/MethodHandle" ∧ yX2_queueOfGreatestExcess.cls ≠ "java/lang/invoke/VarHandle" ∧ (parseMethodDescriptor yX2_queueOfGreatestExcess.desc).map (fun d => d.parameters.length) = some 0 := by decide +kernel
def sp_X2_queueOfGreatestExcess (ids : Nat → ClassId) : lm_S := fun As n L post postX => ∃ Q R g L0, CW ids n Q R g L0 L ∧ As = [.ref 0] ∧ KP Q ∧ post (some (.int (nI (grd Q 11)))) n L
def cv_X2_queueOfGreatestExcess (ids : Nat → ClassId) : Nat → Option lm_C := fun j => match j with
  | 69 => some (1, 0, sp_X0_excess ids, 0, 0)
  | _ => none
set_option maxHeartbeats 4000000 in
set_option maxRecDepth 20000 in
theorem ok_X2_queueOfGreatestExcess (l : Launch) (D : va_G) (ids : Nat → ClassId) (B b : Nat) : lm_M l D (lm_ty ids) B b false yX2_queueOfGreatestExcess cX2_queueOfGreatestExcess 3 (some .int) rm_X2_queueOfGreatestExcess 0 0 (sp_X2_queueOfGreatestExcess ids) := by
  refine lm_method (own := RX2) (fld := lf_2) (cv := (cv_X2_queueOfGreatestExcess ids)) (cs := (fun _ => none)) (ci := (fun _ => none)) (kon := (fun _ => none)) (thr := (fun _ => none)) (nw := (fun _ => none)) (ini := false) (cp := none) (alc := false) (by decide +kernel) rfl rfl rfl (lf_2_ok _) ⟨?_, ?_⟩ ?_ (fun h => by cases h) (lm_aok0 _ _ _ _ _ _ _ _) ?_ ?_
  · intro j f hf
    unfold cv_X2_queueOfGreatestExcess at hf
    split at hf
    · cases hf; exact ⟨yX0_excess, cX0_excess, 1, (some .int), rm_X0_excess, RX0, TX0, 15, 0, rfl, rfl, ok_X0_excess l D ids B b, lw_0_excess, ll_2_69, rfl, rfl, ⟨rfl, ld_X0_excess⟩, by decide⟩
    · cases hf
  · intro j f hf
    cases hf
  · intro j v hv; cases hv
  · exact Or.inl fun _ => rfl
  rintro As n L post postX ⟨Q, R, g, L0, hC, rfl, hK, hp⟩
  refine ⟨by simp [Value.category], (Nat.le_of_ble_eq_true rfl), lm_cl_of ?_⟩
  intro G hG
  have loop : ∀ (m k : Nat), k ≤ 11 → 11 - k < m → G 4 [some (.ref 0), some (.int (nI (grd Q k))), some (.int (nI (k + 1)))] [] n L 0 0 := by
    intro m
    induction m with
    | zero => intro k h1 h2; omega
    | succ m ih =>
      intro k hk hkm
      refine lg_iload_n hG dX2_queueOfGreatestExcess_4 rfl ?_
      refine lg_bipush hG dX2_queueOfGreatestExcess_5 (x := (12)) (by decide) ?_
      refine lg_icmp_ge hG dX2_queueOfGreatestExcess_7 (tgt := 39) (by decide) (by decide) (fun h_7 => ?_) (fun h_7 => ?_)
      · skip
        have hkl : k = 11 := by
          rcases Nat.lt_or_ge k 11 with h | h
          · exact absurd (nI_lt (b := 12) (by omega) (by omega)) h_7
          · omega
        subst hkl
        refine lg_iload_n hG dX2_queueOfGreatestExcess_39 rfl ?_
        refine lg_iret hG dX2_queueOfGreatestExcess_40 (Nat.le_of_ble_eq_true rfl) (Nat.le_of_ble_eq_true rfl) ?_
        exact ⟨trivial, hp⟩
      · skip
        have hkl : k + 1 < 12 := (nI_ltI (b := 12) (by omega) (by omega)).mp h_7
        have hg := grd_le Q k
        have hg12 : grd Q k < 12 := by omega
        have he1 := hC.bexc hK hkl
        have he2 := hC.bexc hK hg12
        refine lg_aload_n hG dX2_queueOfGreatestExcess_10 rfl ?_
        refine cg_getg hG hC dX2_queueOfGreatestExcess_11 rfl rfl ?_
        refine lg_iload_n hG dX2_queueOfGreatestExcess_14 rfl ?_
        first | refine cg_aq hG hC dX2_queueOfGreatestExcess_15 rfl (by first | assumption | omega) ?_ | refine cg_ar hG hC dX2_queueOfGreatestExcess_15 rfl (by first | assumption | omega) ?_
        refine cg_callQ hG hC dX2_queueOfGreatestExcess_16 rfl (fun P h => h) (by first | assumption | omega) (Nat.le_of_ble_eq_true rfl) (Nat.le_of_ble_eq_true rfl) (Nat.le_of_ble_eq_true rfl) ?_
        refine cq_excess hC (by assumption) ?_
        refine lg_aload_n hG dX2_queueOfGreatestExcess_19 rfl ?_
        refine cg_getg hG hC dX2_queueOfGreatestExcess_20 rfl rfl ?_
        refine lg_iload_n hG dX2_queueOfGreatestExcess_23 rfl ?_
        first | refine cg_aq hG hC dX2_queueOfGreatestExcess_24 rfl (by first | assumption | omega) ?_ | refine cg_ar hG hC dX2_queueOfGreatestExcess_24 rfl (by first | assumption | omega) ?_
        refine cg_callQ hG hC dX2_queueOfGreatestExcess_25 rfl (fun P h => h) (by first | assumption | omega) (Nat.le_of_ble_eq_true rfl) (Nat.le_of_ble_eq_true rfl) (Nat.le_of_ble_eq_true rfl) ?_
        refine cq_excess hC (by assumption) ?_
        refine lg_icmp_le hG dX2_queueOfGreatestExcess_28 (tgt := 33) (by decide) (by decide) (fun h_28 => ?_) (fun h_28 => ?_)
        · skip
          have e1 : ¬ exc Q (grd Q k) < exc Q (k + 1) := by
            have := (iI_le (a := exc Q (k + 1)) (b := exc Q (grd Q k)) (by omega) (by omega) (by omega) (by omega)).mp h_28
            omega
          have e2 : grd Q (k + 1) = grd Q k := by show (if _ then _ else _) = _; rw [if_neg e1]
          refine lg_iinc hG dX2_queueOfGreatestExcess_33 (Nat.le_of_ble_eq_true rfl) rfl rfl rfl ?_
          refine lg_goto hG dX2_queueOfGreatestExcess_36 (tgt := 4) (by decide) (by decide) ?_
          rw [show nI (k + 1) + Int32.ofInt 1 = nI (k + 1 + 1) from nI_1 _]
          have h9 := ih (k + 1) (by omega) (by omega)
          rw [e2] at h9
          exact h9
        · skip
          have e1 : exc Q (grd Q k) < exc Q (k + 1) := by
            rcases Int.lt_or_le (exc Q (grd Q k)) (exc Q (k + 1)) with h | h
            · exact h
            · exact absurd ((iI_le (a := exc Q (k + 1)) (b := exc Q (grd Q k)) (by omega) (by omega) (by omega) (by omega)).mpr h) h_28
          have e2 : grd Q (k + 1) = k + 1 := by show (if _ then _ else _) = _; rw [if_pos e1]
          refine lg_iload_n hG dX2_queueOfGreatestExcess_31 rfl ?_
          refine lg_istore_n hG dX2_queueOfGreatestExcess_32 (Nat.le_of_ble_eq_true rfl) rfl ?_
          refine lg_iinc hG dX2_queueOfGreatestExcess_33 (Nat.le_of_ble_eq_true rfl) rfl rfl rfl ?_
          refine lg_goto hG dX2_queueOfGreatestExcess_36 (tgt := 4) (by decide) (by decide) ?_
          rw [show nI (k + 1) + Int32.ofInt 1 = nI (k + 1 + 1) from nI_1 _]
          have h9 := ih (k + 1) (by omega) (by omega)
          rw [e2] at h9
          exact h9
  refine lg_iconst hG dX2_queueOfGreatestExcess_0 (x := 0) (by decide) ?_
  refine lg_istore_n hG dX2_queueOfGreatestExcess_1 (Nat.le_of_ble_eq_true rfl) rfl ?_
  refine lg_iconst hG dX2_queueOfGreatestExcess_2 (x := 1) (by decide) ?_
  refine lg_istore_n hG dX2_queueOfGreatestExcess_3 (Nat.le_of_ble_eq_true rfl) rfl ?_
  exact loop 12 0 (by omega) (by omega)
end
section
def sK (x : Qs) (k : Nat) : Qs := (qI x, k, qu x, qq x, qp x, qd x, qt x, q0 x, q1 x, q2 x, q3 x)
def sU (x : Qs) (u : Nat) : Qs := (qI x, qk x, u, qq x, qp x, qd x, qt x, q0 x, q1 x, q2 x, q3 x)
def sO (x : Qs) (o : Nat) : Qs := (qI x, qk x, qu x, o, qp x, qd x, qt x, q0 x, q1 x, q2 x, q3 x)
def sP (x : Qs) (p : Nat) : Qs := (qI x, qk x, qu x, qq x, p, qd x, qt x, q0 x, q1 x, q2 x, q3 x)
def sD (x : Qs) (d : Nat) : Qs := (qI x, qk x, qu x, qq x, qp x, d, qt x, q0 x, q1 x, q2 x, q3 x)
def sT (x : Qs) (t : Bool) : Qs := (qI x, qk x, qu x, qq x, qp x, qd x, t, q0 x, q1 x, q2 x, q3 x)
def s0 (x : Qs) (c : Int32) : Qs := (qI x, qk x, qu x, qq x, qp x, qd x, qt x, c, q1 x, q2 x, q3 x)
def s1 (x : Qs) (c : Int32) : Qs := (qI x, qk x, qu x, qq x, qp x, qd x, qt x, q0 x, c, q2 x, q3 x)
def s2 (x : Qs) (c : Int32) : Qs := (qI x, qk x, qu x, qq x, qp x, qd x, qt x, q0 x, q1 x, c, q3 x)
def s3 (x : Qs) (c : Int32) : Qs := (qI x, qk x, qu x, qq x, qp x, qd x, qt x, q0 x, q1 x, q2 x, c)
def adq (x : Qs) (w : Int32) (c : Nat) : Qs := s0 (sI x (qI x ++ [(w, c)])) (q0 x + 1)
def adR (Q : Nat → Qs) (R : Nat → List Nat) (q : Nat) : Nat → List Nat := if (qI (Q q)).length = 0 then va_up R (qk (Q q)) (R (qk (Q q)) ++ [q]) else R
def lvq (x : Qs) : Qs := sT (sD x 0) false
def lvR (Q : Nat → Qs) (R : Nat → List Nat) (q : Nat) : Nat → List Nat := va_up R (qk (Q q)) ((R (qk (Q q))).erase q)
def loq (x : Qs) (t : List (Int32 × Nat)) : Qs := s1 (sI x t) (q1 x + 1)
def srv (x : Qs) (y : Int32 × Nat) (t : List (Int32 × Nat)) : Qs := sI (s2 (s3 (sD (tkt x) (qd (tkt x) - y.2)) (q3 (tkt x) + nI y.2)) (q2 (tkt x) + 1)) t
theorem tkt_I (x : Qs) : qI (tkt x) = qI x := by unfold tkt; split <;> rfl
theorem tkt_k (x : Qs) : qk (tkt x) = qk x := by unfold tkt; split <;> rfl
theorem vlk_I (x : Qs) (k : Nat) : qI (vlk x k) = qI x := by unfold vlk; split <;> rfl
theorem vlk_k (x : Qs) (k : Nat) : qk (vlk x k) = qk x := by unfold vlk; split <;> rfl
def rm_X2_addItem : Room := { frames := 3, cells := 0, slots := 0, locals := 66 }
theorem ld_X2_addItem : yX2_addItem.cls ≠ "java/lang/invoke/MethodHandle" ∧ yX2_addItem.cls ≠ "java/lang/invoke/VarHandle" ∧ (parseMethodDescriptor yX2_addItem.desc).map (fun d => d.parameters.length) = some 4 := by decide +kernel
def sp_X2_addItem (ids : Nat → ClassId) : lm_S := fun As n L post postX => ∃ Q R g L0 q w c, CW ids n Q R g L0 L ∧ As = [.ref 0, .int (nI q), .ref (3 + 3 * q), .int w, .int (nI c)] ∧ q < 12 ∧ (qI (Q q)).length < 96 ∧ qk (Q q) < 4 ∧ ((qI (Q q)).length = 0 → (R (qk (Q q))).length < 12) ∧ ∀ L1, CW ids n (va_up Q q (adq (Q q) w c)) (adR Q R q) g L0 L1 → post none n L1
def cv_X2_addItem (ids : Nat → ClassId) : Nat → Option lm_C := fun j => match j with
  | 183 => some (3, 0, sp_X0_putLast ids, 0, 0)
  | 187 => some (2, 1, sp_X1_putAtEnd ids, 0, 0)
  | _ => none
set_option maxHeartbeats 4000000 in
set_option maxRecDepth 20000 in
theorem ok_X2_addItem (l : Launch) (D : va_G) (ids : Nat → ClassId) (B b : Nat) : lm_M l D (lm_ty ids) B b false yX2_addItem cX2_addItem 5 none rm_X2_addItem 0 0 (sp_X2_addItem ids) := by
  refine lm_method (own := RX2) (fld := lf_2) (cv := (cv_X2_addItem ids)) (cs := (fun _ => none)) (ci := (fun _ => none)) (kon := (fun _ => none)) (thr := (fun _ => none)) (nw := (fun _ => none)) (ini := false) (cp := none) (alc := false) (by decide +kernel) rfl rfl rfl (lf_2_ok _) ⟨?_, ?_⟩ ?_ (fun h => by cases h) (lm_aok0 _ _ _ _ _ _ _ _) ?_ ?_
  · intro j f hf
    unfold cv_X2_addItem at hf
    split at hf
    · cases hf; exact ⟨yX0_putLast, cX0_putLast, 4, none, rm_X0_putLast, RX0, TX0, 15, 2, rfl, rfl, ok_X0_putLast l D ids B b, lw_0_putLast, ll_2_183, rfl, rfl, ⟨rfl, ld_X0_putLast⟩, by decide⟩
    · cases hf; exact ⟨yX1_putAtEnd, cX1_putAtEnd, 2, none, rm_X1_putAtEnd, RX1, TX1, 2, 1, rfl, rfl, ok_X1_putAtEnd l D ids B b, lw_1_putAtEnd, ll_2_187, rfl, rfl, ⟨rfl, ld_X1_putAtEnd⟩, by decide⟩
    · cases hf
  · intro j f hf
    cases hf
  · intro j v hv; cases hv
  · exact Or.inl fun _ => rfl
  rintro As n L post postX ⟨Q, R, g, L0, q, w, c, hC, rfl, hq, hl, hk, hr, hp⟩
  refine ⟨by simp [Value.category], (Nat.le_of_ble_eq_true rfl), lm_cl_of ?_⟩
  intro G hG
  refine lg_aload_n hG dX2_addItem_0 rfl ?_
  refine lg_iload_n hG dX2_addItem_1 rfl ?_
  refine lg_iload hG dX2_addItem_2 rfl ?_
  refine cg_callQ hG hC dX2_addItem_4 rfl (fun P h => h) (by first | assumption | omega) (Nat.le_of_ble_eq_true rfl) (Nat.le_of_ble_eq_true rfl) (Nat.le_of_ble_eq_true rfl) ?_
  refine cq_put hC hq rfl hl (fun L hC => ?_)
  refine lg_aload_n hG dX2_addItem_7 rfl ?_
  refine lg_dup hG dX2_addItem_8 rfl ?_
  refine cg_get hG hC dX2_addItem_9 rfl (by first | assumption | omega) (va_up_self _ _ _) rfl ?_
  refine lg_iconst hG dX2_addItem_12 (x := 1) (by decide) ?_
  refine lg_iadd hG dX2_addItem_13 rfl ?_
  refine cg_put hG hC dX2_addItem_14 rfl (by first | assumption | omega) (va_up_self _ _ _) (by first | trivial | exact Or.inl rfl | exact Or.inr rfl | assumption) (by decide) (x' := adq (Q q) w c) rfl rfl (fun L hC => ?_)
  try rw [bx_uu] at hC
  refine lg_aload_n hG dX2_addItem_17 rfl ?_
  refine cg_get hG hC dX2_addItem_18 rfl (by first | assumption | omega) (va_up_self _ _ _) rfl ?_
  refine lg_iconst hG dX2_addItem_21 (x := 1) (by decide) ?_
  refine lg_icmp_ne hG dX2_addItem_22 (tgt := 38) (by decide) (by decide) (fun h_22 => ?_) (fun h_22 => ?_)
  · skip
    have e1 : ¬ (qI (Q q)).length = 0 := fun h => h_22 (by show nI (qI (Q q) ++ [(w, c)]).length = 1; rw [List.length_append, h]; rfl)
    unfold adR at hp
    rw [if_neg e1] at hp
    refine lg_vret hG dX2_addItem_38 (Nat.le_of_ble_eq_true rfl) (Nat.le_of_ble_eq_true rfl) ?_
    exact ⟨trivial, hp _ hC⟩
  · skip
    have e1 : (qI (Q q)).length = 0 := by
      have h9 : nI (qI (Q q) ++ [(w, c)]).length = nI 1 := h_22
      rw [List.length_append] at h9
      have := (nI_eq (by simp; omega) (by decide)).mp h9
      simpa using this
    unfold adR at hp
    rw [if_pos e1] at hp
    refine lg_aload_n hG dX2_addItem_25 rfl ?_
    refine cg_getg hG hC dX2_addItem_26 rfl rfl ?_
    refine lg_aload_n hG dX2_addItem_29 rfl ?_
    refine cg_get hG hC dX2_addItem_30 rfl (by first | assumption | omega) (va_up_self _ _ _) rfl ?_
    first | refine cg_aq hG hC dX2_addItem_33 rfl hk ?_ | refine cg_ar hG hC dX2_addItem_33 rfl hk ?_
    refine lg_iload_n hG dX2_addItem_34 rfl ?_
    refine cg_callR hG hC dX2_addItem_35 rfl (fun P h => h) hk (Nat.le_of_ble_eq_true rfl) (Nat.le_of_ble_eq_true rfl) (Nat.le_of_ble_eq_true rfl) ?_
    refine cr_put hC hk rfl hq (hr e1) (fun L hC => ?_)
    refine lg_vret hG dX2_addItem_38 (Nat.le_of_ble_eq_true rfl) (Nat.le_of_ble_eq_true rfl) ?_
    exact ⟨trivial, hp _ hC⟩

def rm_X2_leaveRing : Room := { frames := 2, cells := 0, slots := 0, locals := 48 }
theorem ld_X2_leaveRing : yX2_leaveRing.cls ≠ "java/lang/invoke/MethodHandle" ∧ yX2_leaveRing.cls ≠ "java/lang/invoke/VarHandle" ∧ (parseMethodDescriptor yX2_leaveRing.desc).map (fun d => d.parameters.length) = some 2 := by decide +kernel
def sp_X2_leaveRing (ids : Nat → ClassId) : lm_S := fun As n L post postX => ∃ Q R g L0 q, CW ids n Q R g L0 L ∧ As = [.ref 0, .int (nI q), .ref (3 + 3 * q)] ∧ q < 12 ∧ qk (Q q) < 4 ∧ q ∈ R (qk (Q q)) ∧ ∀ L1, CW ids n (va_up Q q (lvq (Q q))) (lvR Q R q) g L0 L1 → post none n L1
def cv_X2_leaveRing (ids : Nat → ClassId) : Nat → Option lm_C := fun j => match j with
  | 193 => some (2, 1, sp_X1_takeOut ids, 0, 0)
  | _ => none
set_option maxHeartbeats 4000000 in
set_option maxRecDepth 20000 in
theorem ok_X2_leaveRing (l : Launch) (D : va_G) (ids : Nat → ClassId) (B b : Nat) : lm_M l D (lm_ty ids) B b false yX2_leaveRing cX2_leaveRing 3 none rm_X2_leaveRing 0 0 (sp_X2_leaveRing ids) := by
  refine lm_method (own := RX2) (fld := lf_2) (cv := (cv_X2_leaveRing ids)) (cs := (fun _ => none)) (ci := (fun _ => none)) (kon := (fun _ => none)) (thr := (fun _ => none)) (nw := (fun _ => none)) (ini := false) (cp := none) (alc := false) (by decide +kernel) rfl rfl rfl (lf_2_ok _) ⟨?_, ?_⟩ ?_ (fun h => by cases h) (lm_aok0 _ _ _ _ _ _ _ _) ?_ ?_
  · intro j f hf
    unfold cv_X2_leaveRing at hf
    split at hf
    · cases hf; exact ⟨yX1_takeOut, cX1_takeOut, 3, none, rm_X1_takeOut, RX1, TX1, 2, 1, rfl, rfl, ok_X1_takeOut l D ids B b, lw_1_takeOut, ll_2_193, rfl, rfl, ⟨rfl, ld_X1_takeOut⟩, by decide⟩
    · cases hf
  · intro j f hf
    cases hf
  · intro j v hv; cases hv
  · exact Or.inl fun _ => rfl
  rintro As n L post postX ⟨Q, R, g, L0, q, hC, rfl, hq, hk, hr, hp⟩
  refine ⟨by simp [Value.category], (Nat.le_of_ble_eq_true rfl), lm_cl_of ?_⟩
  intro G hG
  refine lg_aload_n hG dX2_leaveRing_0 rfl ?_
  refine cg_getg hG hC dX2_leaveRing_1 rfl rfl ?_
  refine lg_aload_n hG dX2_leaveRing_4 rfl ?_
  refine cg_get hG hC dX2_leaveRing_5 rfl (by first | assumption | omega) rfl rfl ?_
  first | refine cg_aq hG hC dX2_leaveRing_8 rfl hk ?_ | refine cg_ar hG hC dX2_leaveRing_8 rfl hk ?_
  refine lg_iload_n hG dX2_leaveRing_9 rfl ?_
  refine cg_callR hG hC dX2_leaveRing_10 rfl (fun P h => h) hk (Nat.le_of_ble_eq_true rfl) (Nat.le_of_ble_eq_true rfl) (Nat.le_of_ble_eq_true rfl) ?_
  refine cr_take hC hk rfl hr (fun L hC => ?_)
  refine lg_aload_n hG dX2_leaveRing_13 rfl ?_
  refine lg_iconst hG dX2_leaveRing_14 (x := 0) (by decide) ?_
  refine cg_put hG hC dX2_leaveRing_15 rfl (by first | assumption | omega) rfl (by first | trivial | exact Or.inl rfl | exact Or.inr rfl | assumption) (by decide) (x' := sD (Q q) 0) rfl rfl (fun L hC => ?_)
  try rw [bx_uu] at hC
  refine lg_aload_n hG dX2_leaveRing_18 rfl ?_
  refine lg_iconst hG dX2_leaveRing_19 (x := 0) (by decide) ?_
  refine cg_put hG hC dX2_leaveRing_20 rfl (by first | assumption | omega) (va_up_self _ _ _) (by first | trivial | exact Or.inl rfl | exact Or.inr rfl | assumption) (by decide) (x' := lvq (Q q)) rfl rfl (fun L hC => ?_)
  try rw [bx_uu] at hC
  refine lg_vret hG dX2_leaveRing_23 (Nat.le_of_ble_eq_true rfl) (Nat.le_of_ble_eq_true rfl) ?_
  exact ⟨trivial, hp _ hC⟩

def rm_X2_loseLastItem : Room := { frames := 4, cells := 0, slots := 0, locals := 84 }
theorem ld_X2_loseLastItem : yX2_loseLastItem.cls ≠ "java/lang/invoke/MethodHandle" ∧ yX2_loseLastItem.cls ≠ "java/lang/invoke/VarHandle" ∧ (parseMethodDescriptor yX2_loseLastItem.desc).map (fun d => d.parameters.length) = some 1 := by decide +kernel
def sp_X2_loseLastItem (ids : Nat → ClassId) : lm_S := fun As n L post postX => ∃ Q R g L0 q y t, CW ids n Q R g L0 L ∧ As = [.ref 0, .int (nI q)] ∧ q < 12 ∧ qI (Q q) = t ++ [y] ∧ qk (Q q) < 4 ∧ q ∈ R (qk (Q q)) ∧ ∀ L1, CW ids n (va_up Q q (if t.length = 0 then lvq (loq (Q q) t) else loq (Q q) t)) (if t.length = 0 then lvR Q R q else R) (upd g 2 (g 2 + 1)) L0 L1 → post none n L1
def cv_X2_loseLastItem (ids : Nat → ClassId) : Nat → Option lm_C := fun j => match j with
  | 114 => some (3, 2, sp_X2_leaveRing ids, 0, 0)
  | 190 => some (1, 0, sp_X0_dropLast ids, 0, 0)
  | _ => none
set_option maxHeartbeats 4000000 in
set_option maxRecDepth 20000 in
theorem ok_X2_loseLastItem (l : Launch) (D : va_G) (ids : Nat → ClassId) (B b : Nat) : lm_M l D (lm_ty ids) B b false yX2_loseLastItem cX2_loseLastItem 3 none rm_X2_loseLastItem 0 0 (sp_X2_loseLastItem ids) := by
  refine lm_method (own := RX2) (fld := lf_2) (cv := (cv_X2_loseLastItem ids)) (cs := (fun _ => none)) (ci := (fun _ => none)) (kon := (fun _ => none)) (thr := (fun _ => none)) (nw := (fun _ => none)) (ini := false) (cp := none) (alc := false) (by decide +kernel) rfl rfl rfl (lf_2_ok _) ⟨?_, ?_⟩ ?_ (fun h => by cases h) (lm_aok0 _ _ _ _ _ _ _ _) ?_ ?_
  · intro j f hf
    unfold cv_X2_loseLastItem at hf
    split at hf
    · cases hf; exact ⟨yX2_leaveRing, cX2_leaveRing, 3, none, rm_X2_leaveRing, RX2, TX2, 7, 2, rfl, rfl, ok_X2_leaveRing l D ids B b, lw_2_leaveRing, ll_2_114, rfl, rfl, ⟨rfl, ld_X2_leaveRing⟩, by decide⟩
    · cases hf; exact ⟨yX0_dropLast, cX0_dropLast, 1, none, rm_X0_dropLast, RX0, TX0, 15, 0, rfl, rfl, ok_X0_dropLast l D ids B b, lw_0_dropLast, ll_2_190, rfl, rfl, ⟨rfl, ld_X0_dropLast⟩, by decide⟩
    · cases hf
  · intro j f hf
    cases hf
  · intro j v hv; cases hv
  · exact Or.inl fun _ => rfl
  rintro As n L post postX ⟨Q, R, g, L0, q, y, t, hC, rfl, hq, hy, hk, hr, hp⟩
  refine ⟨by simp [Value.category], (Nat.le_of_ble_eq_true rfl), lm_cl_of ?_⟩
  intro G hG
  have hlt : t.length < 96 := by
    have := hC.blen hq
    rw [hy] at this
    simp at this
    omega
  refine lg_aload_n hG dX2_loseLastItem_0 rfl ?_
  refine cg_getg hG hC dX2_loseLastItem_1 rfl rfl ?_
  refine lg_iload_n hG dX2_loseLastItem_4 rfl ?_
  first | refine cg_aq hG hC dX2_loseLastItem_5 rfl (by first | assumption | omega) ?_ | refine cg_ar hG hC dX2_loseLastItem_5 rfl (by first | assumption | omega) ?_
  refine lg_astore_n hG dX2_loseLastItem_6 (Nat.le_of_ble_eq_true rfl) rfl ?_
  refine lg_aload_n hG dX2_loseLastItem_7 rfl ?_
  refine cg_callQ hG hC dX2_loseLastItem_8 rfl (fun P h => h) (by first | assumption | omega) (Nat.le_of_ble_eq_true rfl) (Nat.le_of_ble_eq_true rfl) (Nat.le_of_ble_eq_true rfl) ?_
  refine cq_dropL hC hq rfl hy (fun L hC => ?_)
  refine lg_aload_n hG dX2_loseLastItem_11 rfl ?_
  refine lg_dup hG dX2_loseLastItem_12 rfl ?_
  refine cg_get hG hC dX2_loseLastItem_13 rfl (by first | assumption | omega) (va_up_self _ _ _) rfl ?_
  refine lg_iconst hG dX2_loseLastItem_16 (x := 1) (by decide) ?_
  refine lg_iadd hG dX2_loseLastItem_17 rfl ?_
  refine cg_put hG hC dX2_loseLastItem_18 rfl (by first | assumption | omega) (va_up_self _ _ _) (by first | trivial | exact Or.inl rfl | exact Or.inr rfl | assumption) (by decide) (x' := loq (Q q) t) rfl rfl (fun L hC => ?_)
  try rw [bx_uu] at hC
  refine lg_aload_n hG dX2_loseLastItem_21 rfl ?_
  refine lg_dup hG dX2_loseLastItem_22 rfl ?_
  refine cg_getg hG hC dX2_loseLastItem_23 rfl rfl ?_
  refine lg_iconst hG dX2_loseLastItem_26 (x := 1) (by decide) ?_
  refine lg_iadd hG dX2_loseLastItem_27 rfl ?_
  refine cg_putg hG hC dX2_loseLastItem_28 rfl (by first | trivial | exact Or.inl rfl | exact Or.inr rfl | assumption) (by decide) (g' := upd g 2 (g 2 + 1)) rfl (fun L hC => ?_)
  refine lg_aload_n hG dX2_loseLastItem_31 rfl ?_
  refine cg_get hG hC dX2_loseLastItem_32 rfl (by first | assumption | omega) (va_up_self _ _ _) rfl ?_
  refine lg_if_ne hG dX2_loseLastItem_35 (tgt := 44) (by decide) (by decide) (fun h_35 => ?_) (fun h_35 => ?_)
  · skip
    have e1 : ¬ t.length = 0 := fun h => h_35 (by show nI t.length = 0; rw [h]; rfl)
    rw [if_neg e1, if_neg e1] at hp
    refine lg_vret hG dX2_loseLastItem_44 (Nat.le_of_ble_eq_true rfl) (Nat.le_of_ble_eq_true rfl) ?_
    first | exact ⟨trivial, hp⟩ | exact ⟨trivial, hp _ hC⟩
  · skip
    have e1 : t.length = 0 := by
      have h9 : nI t.length = nI 0 := h_35
      exact (nI_eq (by omega) (by decide)).mp h9
    rw [if_pos e1, if_pos e1] at hp
    refine lg_aload_n hG dX2_loseLastItem_38 rfl ?_
    refine lg_iload_n hG dX2_loseLastItem_39 rfl ?_
    refine lg_aload_n hG dX2_loseLastItem_40 rfl ?_
    refine cg_callO hG hC dX2_loseLastItem_41 rfl (fun P h => h) (Nat.le_of_ble_eq_true rfl) (Nat.le_of_ble_eq_true rfl) (Nat.le_of_ble_eq_true rfl) ?_
    refine ⟨_, _, _, _, q, hC, rfl, hq, by rw [va_up_self]; exact hk, by rw [va_up_self]; exact hr, fun L1 hC1 => ?_⟩
    have hp := hp L1 (by rw [va_up_self, bx_uu] at hC1; unfold lvR at hC1; rw [va_up_self] at hC1; exact hC1)
    refine lg_vret hG dX2_loseLastItem_44 (Nat.le_of_ble_eq_true rfl) (Nat.le_of_ble_eq_true rfl) ?_
    first | exact ⟨trivial, hp⟩ | exact ⟨trivial, hp _ hC⟩

def rm_X2_changeClass : Room := { frames := 2, cells := 0, slots := 0, locals := 48 }
theorem ld_X2_changeClass : yX2_changeClass.cls ≠ "java/lang/invoke/MethodHandle" ∧ yX2_changeClass.cls ≠ "java/lang/invoke/VarHandle" ∧ (parseMethodDescriptor yX2_changeClass.desc).map (fun d => d.parameters.length) = some 3 := by decide +kernel
def sp_X2_changeClass (ids : Nat → ClassId) : lm_S := fun As n L post postX => ∃ Q R g L0 q j, CW ids n Q R g L0 L ∧ As = [.ref 0, .int (nI q), .ref (3 + 3 * q), .int (nI j)] ∧ q < 12 ∧ j < 4 ∧ j ≠ qk (Q q) ∧ qk (Q q) < 4 ∧ (0 < (qI (Q q)).length → q ∈ R (qk (Q q)) ∧ (R j).length < 12) ∧ ∀ L1, CW ids n (va_up Q q (sK (sT (Q q) false) j)) (if 0 < (qI (Q q)).length then va_up (va_up R (qk (Q q)) ((R (qk (Q q))).erase q)) j (R j ++ [q]) else R) g L0 L1 → post none n L1
def cv_X2_changeClass (ids : Nat → ClassId) : Nat → Option lm_C := fun j => match j with
  | 187 => some (2, 1, sp_X1_putAtEnd ids, 0, 0)
  | 193 => some (2, 1, sp_X1_takeOut ids, 0, 0)
  | _ => none
set_option maxHeartbeats 4000000 in
set_option maxRecDepth 20000 in
theorem ok_X2_changeClass (l : Launch) (D : va_G) (ids : Nat → ClassId) (B b : Nat) : lm_M l D (lm_ty ids) B b false yX2_changeClass cX2_changeClass 4 none rm_X2_changeClass 0 0 (sp_X2_changeClass ids) := by
  refine lm_method (own := RX2) (fld := lf_2) (cv := (cv_X2_changeClass ids)) (cs := (fun _ => none)) (ci := (fun _ => none)) (kon := (fun _ => none)) (thr := (fun _ => none)) (nw := (fun _ => none)) (ini := false) (cp := none) (alc := false) (by decide +kernel) rfl rfl rfl (lf_2_ok _) ⟨?_, ?_⟩ ?_ (fun h => by cases h) (lm_aok0 _ _ _ _ _ _ _ _) ?_ ?_
  · intro j f hf
    unfold cv_X2_changeClass at hf
    split at hf
    · cases hf; exact ⟨yX1_putAtEnd, cX1_putAtEnd, 2, none, rm_X1_putAtEnd, RX1, TX1, 2, 1, rfl, rfl, ok_X1_putAtEnd l D ids B b, lw_1_putAtEnd, ll_2_187, rfl, rfl, ⟨rfl, ld_X1_putAtEnd⟩, by decide⟩
    · cases hf; exact ⟨yX1_takeOut, cX1_takeOut, 3, none, rm_X1_takeOut, RX1, TX1, 2, 1, rfl, rfl, ok_X1_takeOut l D ids B b, lw_1_takeOut, ll_2_193, rfl, rfl, ⟨rfl, ld_X1_takeOut⟩, by decide⟩
    · cases hf
  · intro j f hf
    cases hf
  · intro j v hv; cases hv
  · exact Or.inl fun _ => rfl
  rintro As n L post postX ⟨Q, R, g, L0, q, j, hC, rfl, hq, hj, hjk, hk, hr, hp⟩
  refine ⟨by simp [Value.category], (Nat.le_of_ble_eq_true rfl), lm_cl_of ?_⟩
  intro G hG
  have hlq := hC.blen hq
  refine lg_aload_n hG dX2_changeClass_0 rfl ?_
  refine cg_get hG hC dX2_changeClass_1 rfl (by first | assumption | omega) rfl rfl ?_
  refine lg_if_le hG dX2_changeClass_4 (tgt := 30) (by decide) (by decide) (fun h_4 => ?_) (fun h_4 => ?_)
  · skip
    have e1 : ¬ 0 < (qI (Q q)).length := fun h => absurd h_4 (nI_nle h (by omega))
    rw [if_neg e1] at hp
    refine lg_aload_n hG dX2_changeClass_30 rfl ?_
    refine lg_iconst hG dX2_changeClass_31 (x := 0) (by decide) ?_
    refine cg_put hG hC dX2_changeClass_32 rfl (by first | assumption | omega) rfl (by first | trivial | exact Or.inl rfl | exact Or.inr rfl | assumption) (by decide) (x' := sT (Q q) false) rfl rfl (fun L hC => ?_)
    try rw [bx_uu] at hC
    refine lg_aload_n hG dX2_changeClass_35 rfl ?_
    refine lg_iload_n hG dX2_changeClass_36 rfl ?_
    refine cg_put hG hC dX2_changeClass_37 rfl (by first | assumption | omega) (va_up_self _ _ _) (by first | trivial | exact Or.inl rfl | exact Or.inr rfl | assumption) (by decide) (x' := sK (sT (Q q) false) j) rfl rfl (fun L hC => ?_)
    try rw [bx_uu] at hC
    refine lg_vret hG dX2_changeClass_40 (Nat.le_of_ble_eq_true rfl) (Nat.le_of_ble_eq_true rfl) ?_
    exact ⟨trivial, hp _ hC⟩
  · skip
    have e1 : 0 < (qI (Q q)).length := by
      rcases Nat.eq_zero_or_pos (qI (Q q)).length with h | h
      · exact absurd (by rw [h]; decide) h_4
      · exact h
    rw [if_pos e1] at hp
    obtain ⟨hr1, hr2⟩ := hr e1
    refine lg_aload_n hG dX2_changeClass_7 rfl ?_
    refine cg_getg hG hC dX2_changeClass_8 rfl rfl ?_
    refine lg_aload_n hG dX2_changeClass_11 rfl ?_
    refine cg_get hG hC dX2_changeClass_12 rfl (by first | assumption | omega) rfl rfl ?_
    first | refine cg_aq hG hC dX2_changeClass_15 rfl hk ?_ | refine cg_ar hG hC dX2_changeClass_15 rfl hk ?_
    refine lg_iload_n hG dX2_changeClass_16 rfl ?_
    refine cg_callR hG hC dX2_changeClass_17 rfl (fun P h => h) hk (Nat.le_of_ble_eq_true rfl) (Nat.le_of_ble_eq_true rfl) (Nat.le_of_ble_eq_true rfl) ?_
    refine cr_take hC hk rfl hr1 (fun L hC => ?_)
    refine lg_aload_n hG dX2_changeClass_20 rfl ?_
    refine cg_getg hG hC dX2_changeClass_21 rfl rfl ?_
    refine lg_iload_n hG dX2_changeClass_24 rfl ?_
    first | refine cg_aq hG hC dX2_changeClass_25 rfl hj ?_ | refine cg_ar hG hC dX2_changeClass_25 rfl hj ?_
    refine lg_iload_n hG dX2_changeClass_26 rfl ?_
    refine cg_callR hG hC dX2_changeClass_27 rfl (fun P h => h) hj (Nat.le_of_ble_eq_true rfl) (Nat.le_of_ble_eq_true rfl) (Nat.le_of_ble_eq_true rfl) ?_
    refine cr_put hC hj (va_up_ne _ _ hjk) hq hr2 (fun L hC => ?_)
    refine lg_aload_n hG dX2_changeClass_30 rfl ?_
    refine lg_iconst hG dX2_changeClass_31 (x := 0) (by decide) ?_
    refine cg_put hG hC dX2_changeClass_32 rfl (by first | assumption | omega) rfl (by first | trivial | exact Or.inl rfl | exact Or.inr rfl | assumption) (by decide) (x' := sT (Q q) false) rfl rfl (fun L hC => ?_)
    try rw [bx_uu] at hC
    refine lg_aload_n hG dX2_changeClass_35 rfl ?_
    refine lg_iload_n hG dX2_changeClass_36 rfl ?_
    refine cg_put hG hC dX2_changeClass_37 rfl (by first | assumption | omega) (va_up_self _ _ _) (by first | trivial | exact Or.inl rfl | exact Or.inr rfl | assumption) (by decide) (x' := sK (sT (Q q) false) j) rfl rfl (fun L hC => ?_)
    try rw [bx_uu] at hC
    refine lg_vret hG dX2_changeClass_40 (Nat.le_of_ble_eq_true rfl) (Nat.le_of_ble_eq_true rfl) ?_
    exact ⟨trivial, hp _ hC⟩

def rm_X2_firstRingWithQueues : Room := { frames := 0, cells := 0, slots := 0, locals := 0 }
theorem ld_X2_firstRingWithQueues : yX2_firstRingWithQueues.cls ≠ "java/lang/invoke/MethodHandle" ∧ yX2_firstRingWithQueues.cls ≠ "java/lang/invoke/VarHandle" ∧ (parseMethodDescriptor yX2_firstRingWithQueues.desc).map (fun d => d.parameters.length) = some 0 := by decide +kernel
def sp_X2_firstRingWithQueues (ids : Nat → ClassId) : lm_S := fun As n L post postX => ∃ Q R g L0, CW ids n Q R g L0 L ∧ As = [.ref 0] ∧ (∀ c, c < 4 → 0 < (R c).length → (∀ d, d < c → (R d).length = 0) → post (some (.ref (39 + 2 * c))) n L) ∧ ((∀ c, c < 4 → (R c).length = 0) → post (some .null) n L)
set_option maxHeartbeats 4000000 in
set_option maxRecDepth 20000 in
theorem ok_X2_firstRingWithQueues (l : Launch) (D : va_G) (ids : Nat → ClassId) (B b : Nat) : lm_M l D (lm_ty ids) B b false yX2_firstRingWithQueues cX2_firstRingWithQueues 5 (some (.object "SharedQueues$Ring")) rm_X2_firstRingWithQueues 0 0 (sp_X2_firstRingWithQueues ids) := by
  refine lm_method (own := RX2) (fld := lf_2) (cv := (fun _ => none)) (cs := (fun _ => none)) (ci := (fun _ => none)) (kon := (fun _ => none)) (thr := (fun _ => none)) (nw := (fun _ => none)) (ini := false) (cp := none) (alc := false) (by decide +kernel) rfl rfl rfl (lf_2_ok _) ⟨?_, ?_⟩ ?_ (fun h => by cases h) (lm_aok0 _ _ _ _ _ _ _ _) ?_ ?_
  · intro j f hf
    cases hf
  · intro j f hf
    cases hf
  · intro j v hv; cases hv
  · exact Or.inl fun _ => rfl
  rintro As n L post postX ⟨Q, R, g, L0, hC, rfl, hp, hpn⟩
  refine ⟨by simp [Value.category], (Nat.le_of_ble_eq_true rfl), lm_cl_of ?_⟩
  intro G hG
  have loop : ∀ (m k : Nat), k ≤ 4 → 4 - k < m → (∀ d, d < k → (R d).length = 0) → ∀ z, G 10 [some (.ref 0), some (.ref 2), some (.int (nI 4)), some (.int (nI k)), z] [] n L 0 0 := by
    intro m
    induction m with
    | zero => intro k h1 h2; omega
    | succ m ih =>
      intro k hk hkm h0 z
      refine lg_iload_n hG dX2_firstRingWithQueues_10 rfl ?_
      refine lg_iload_n hG dX2_firstRingWithQueues_11 rfl ?_
      refine lg_icmp_ge hG dX2_firstRingWithQueues_12 (tgt := 37) (by decide) (by decide) (fun h_12 => ?_) (fun h_12 => ?_)
      · skip
        have hkl : k = 4 := by
          rcases Nat.lt_or_ge k 4 with h | h
          · exact absurd (nI_lt h (by omega)) h_12
          · omega
        subst hkl
        have hp := hpn h0
        refine lg_null hG dX2_firstRingWithQueues_37 ?_
        refine lg_aretN hG dX2_firstRingWithQueues_38 (Nat.le_of_ble_eq_true rfl) (Nat.le_of_ble_eq_true rfl) ?_
        exact ⟨trivial, hp⟩
      · skip
        have hkl : k < 4 := (nI_ltI (by omega) (by omega)).mp h_12
        obtain ⟨f9, -, -, hl9, -⟩ := hC.2.2.2.2.2.1 k hkl
        refine lg_aload_n hG dX2_firstRingWithQueues_15 rfl ?_
        refine lg_iload_n hG dX2_firstRingWithQueues_16 rfl ?_
        first | refine cg_aq hG hC dX2_firstRingWithQueues_17 rfl (by first | assumption | omega) ?_ | refine cg_ar hG hC dX2_firstRingWithQueues_17 rfl (by first | assumption | omega) ?_
        refine lg_astore hG dX2_firstRingWithQueues_18 (Nat.le_of_ble_eq_true rfl) rfl ?_
        refine lg_aload hG dX2_firstRingWithQueues_20 rfl ?_
        refine cg_size hG hC dX2_firstRingWithQueues_22 rfl hkl rfl ?_
        refine lg_if_le hG dX2_firstRingWithQueues_25 (tgt := 31) (by decide) (by decide) (fun h_25 => ?_) (fun h_25 => ?_)
        · skip
          have e1 : (R k).length = 0 := by
            rcases Nat.eq_zero_or_pos (R k).length with h | h
            · exact h
            · exact absurd h_25 (nI_nle h (by omega))
          refine lg_iinc hG dX2_firstRingWithQueues_31 (Nat.le_of_ble_eq_true rfl) rfl rfl rfl ?_
          refine lg_goto hG dX2_firstRingWithQueues_34 (tgt := 10) (by decide) (by decide) ?_
          rw [show nI k + Int32.ofInt 1 = nI (k + 1) from nI_1 k]
          exact ih (k + 1) (by omega) (by omega) (fun d hd => by rcases Nat.lt_succ_iff_lt_or_eq.mp hd with h | h; exact h0 d h; rw [h]; exact e1) _
        · skip
          have e1 : 0 < (R k).length := by
            rcases Nat.eq_zero_or_pos (R k).length with h | h
            · exact absurd (by rw [h]; decide) h_25
            · exact h
          have hp := hp k hkl e1 h0
          refine lg_aload hG dX2_firstRingWithQueues_28 rfl ?_
          refine lg_aret hG dX2_firstRingWithQueues_30 (Nat.le_of_ble_eq_true rfl) (Nat.le_of_ble_eq_true rfl) ?_
          exact ⟨trivial, hp⟩
  refine lg_aload_n hG dX2_firstRingWithQueues_0 rfl ?_
  refine cg_getg hG hC dX2_firstRingWithQueues_1 rfl rfl ?_
  refine lg_astore_n hG dX2_firstRingWithQueues_4 (Nat.le_of_ble_eq_true rfl) rfl ?_
  refine lg_aload_n hG dX2_firstRingWithQueues_5 rfl ?_
  first | refine cg_lenq hG hC dX2_firstRingWithQueues_6 rfl ?_ | refine cg_lenr hG hC dX2_firstRingWithQueues_6 rfl ?_
  refine lg_istore_n hG dX2_firstRingWithQueues_7 (Nat.le_of_ble_eq_true rfl) rfl ?_
  refine lg_iconst hG dX2_firstRingWithQueues_8 (x := 0) (by decide) ?_
  refine lg_istore_n hG dX2_firstRingWithQueues_9 (Nat.le_of_ble_eq_true rfl) rfl ?_
  exact loop 5 0 (by omega) (by omega) (fun d hd => by omega) _

/-- a ring whose queues may be looked at -/
def LG (Q : Nat → Qs) (l : List Nat) : Prop := ∀ z ∈ l, z < 12 ∧ (∃ y t, qI (Q z) = y :: t ∧ y.2 < 2 ^ 19) ∧ qd (Q z) < 2 ^ 28 ∧ 0 < qu (Q z) ∧ qu (Q z) < 2 ^ 28
theorem lkv_le {t : Bool} {d u p : Nat} (hu : 0 < u) : lkv t d u p ≤ p := by
  unfold lkv
  have h1 : p - (if t then d else d + u) + (u - 1) ≤ p + (u - 1) := by omega
  refine Nat.le_of_lt_succ ((Nat.div_lt_iff_lt_mul hu).mpr ?_)
  refine Nat.lt_of_le_of_lt h1 ?_
  rw [Nat.succ_mul]
  have : p ≤ p * u := Nat.le_mul_of_pos_right p hu
  omega
theorem LG.lt {Q : Nat → Qs} {l : List Nat} (h : LG Q l) {z : Nat} (hz : z ∈ l) : lkx (Q z) < 2 ^ 19 := by
  obtain ⟨-, ⟨y, t, hy, hp⟩, -, hu, -⟩ := h z hz
  unfold lkx
  rw [hy]
  exact Nat.lt_of_le_of_lt (lkv_le hu) hp
/-- the first place, of the first k, of those looked at in vain least often -/
def PN (Q : Nat → Qs) (l : List Nat) (k p z : Nat) : Prop := l[p]? = some z ∧ p < k ∧ ∀ i x, i < k → l[i]? = some x → lkx (Q z) ≤ lkx (Q x) ∧ (i < p → lkx (Q z) < lkx (Q x))
theorem PN.one {Q : Nat → Qs} {l : List Nat} {z : Nat} (h : l[0]? = some z) : PN Q l 1 0 z := by
  refine ⟨h, by omega, fun i x hi hx => ?_⟩
  have : i = 0 := by omega
  subst this
  cases Option.some.inj (h.symm.trans hx)
  exact ⟨Nat.le_refl _, fun h => by omega⟩
theorem PN.keep {Q : Nat → Qs} {l : List Nat} {k p z x : Nat} (h : PN Q l k p z) (hx : l[k]? = some x) (h2 : lkx (Q z) ≤ lkx (Q x)) : PN Q l (k + 1) p z := by
  obtain ⟨a, b, c⟩ := h
  refine ⟨a, by omega, fun i y hi hy => ?_⟩
  rcases Nat.lt_succ_iff_lt_or_eq.mp hi with h | h
  · exact c i y h hy
  · subst h
    cases Option.some.inj (hx.symm.trans hy)
    exact ⟨h2, fun h => by omega⟩
theorem PN.next {Q : Nat → Qs} {l : List Nat} {k p z x : Nat} (h : PN Q l k p z) (hx : l[k]? = some x) (h2 : lkx (Q x) < lkx (Q z)) : PN Q l (k + 1) k x := by
  obtain ⟨a, b, c⟩ := h
  refine ⟨hx, by omega, fun i y hi hy => ?_⟩
  rcases Nat.lt_succ_iff_lt_or_eq.mp hi with h | h
  · have := (c i y h hy).1
    exact ⟨by omega, fun _ => by omega⟩
  · subst h
    cases Option.some.inj (hx.symm.trans hy)
    exact ⟨Nat.le_refl _, fun h => by omega⟩
def rm_X2_placeServedNext : Room := { frames := 5, cells := 0, slots := 0, locals := 106 }
theorem ld_X2_placeServedNext : yX2_placeServedNext.cls ≠ "java/lang/invoke/MethodHandle" ∧ yX2_placeServedNext.cls ≠ "java/lang/invoke/VarHandle" ∧ (parseMethodDescriptor yX2_placeServedNext.desc).map (fun d => d.parameters.length) = some 1 := by decide +kernel
def sp_X2_placeServedNext (ids : Nat → ClassId) : lm_S := fun As n L post postX => ∃ Q R g L0 c l, CW ids n Q R g L0 L ∧ As = [.ref 0, .ref (39 + 2 * c)] ∧ c < 4 ∧ R c = l ∧ 0 < l.length ∧ LG Q l ∧ ∀ p z, PN Q l l.length p z → post (some (.int (nI p))) n L
def cv_X2_placeServedNext (ids : Nat → ClassId) : Nat → Option lm_C := fun j => match j with
  | 87 => some (2, 1, sp_X1_queueAt ids, 0, 0)
  | 199 => some (1, 0, sp_X0_looksInVain ids, 0, 0)
  | _ => none
set_option maxHeartbeats 4000000 in
set_option maxRecDepth 20000 in
theorem ok_X2_placeServedNext (l : Launch) (D : va_G) (ids : Nat → ClassId) (B b : Nat) : lm_M l D (lm_ty ids) B b false yX2_placeServedNext cX2_placeServedNext 6 (some .int) rm_X2_placeServedNext 0 0 (sp_X2_placeServedNext ids) := by
  refine lm_method (own := RX2) (fld := lf_2) (cv := (cv_X2_placeServedNext ids)) (cs := (fun _ => none)) (ci := (fun _ => none)) (kon := (fun _ => none)) (thr := (fun _ => none)) (nw := (fun _ => none)) (ini := false) (cp := none) (alc := false) (by decide +kernel) rfl rfl rfl (lf_2_ok _) ⟨?_, ?_⟩ ?_ (fun h => by cases h) (lm_aok0 _ _ _ _ _ _ _ _) ?_ ?_
  · intro j f hf
    unfold cv_X2_placeServedNext at hf
    split at hf
    · cases hf; exact ⟨yX1_queueAt, cX1_queueAt, 2, (some .int), rm_X1_queueAt, RX1, TX1, 2, 1, rfl, rfl, ok_X1_queueAt l D ids B b, lw_1_queueAt, ll_2_87, rfl, rfl, ⟨rfl, ld_X1_queueAt⟩, by decide⟩
    · cases hf; exact ⟨yX0_looksInVain, cX0_looksInVain, 3, (some .int), rm_X0_looksInVain, RX0, TX0, 15, 0, rfl, rfl, ok_X0_looksInVain l D ids B b, lw_0_looksInVain, ll_2_199, rfl, rfl, ⟨rfl, ld_X0_looksInVain⟩, by decide⟩
    · cases hf
  · intro j f hf
    cases hf
  · intro j v hv; cases hv
  · exact Or.inl fun _ => rfl
  rintro As n L post postX ⟨Q, R, g, L0, c, l, hC, rfl, hc, hl, hl0, hg, hp⟩
  refine ⟨by simp [Value.category], (Nat.le_of_ble_eq_true rfl), lm_cl_of ?_⟩
  intro G hG
  obtain ⟨z0, hz0⟩ : ∃ z, l[0]? = some z := ⟨_, List.getElem?_eq_getElem hl0⟩
  have hl12 : l.length ≤ 12 := by
    obtain ⟨f9, -, -, hl9, -⟩ := hC.2.2.2.2.2.1 c hc
    rw [hl] at hl9
    exact hl9
  have loop : ∀ (m k p z : Nat), k ≤ l.length → l.length - k < m → PN Q l k p z → ∀ w, G 19 [some (.ref 0), some (.ref (39 + 2 * c)), some (.int (nI p)), some (.int (nI (lkx (Q z)))), some (.int (nI k)), w] [] n L 0 0 := by
    intro m
    induction m with
    | zero => intro k p z h1 h2; omega
    | succ m ih =>
      intro k p z hk hkm hP w
      refine lg_iload hG dX2_placeServedNext_19 rfl ?_
      refine lg_aload_n hG dX2_placeServedNext_21 rfl ?_
      refine cg_size hG hC dX2_placeServedNext_22 rfl hc hl ?_
      refine lg_icmp_ge hG dX2_placeServedNext_25 (tgt := 62) (by decide) (by decide) (fun h_25 => ?_) (fun h_25 => ?_)
      · skip
        have hkl : k = l.length := by
          rcases Nat.lt_or_ge k l.length with h | h
          · exact absurd (nI_lt h (by omega)) h_25
          · omega
        subst hkl
        have hp := hp p z hP
        refine lg_iload_n hG dX2_placeServedNext_62 rfl ?_
        refine lg_iret hG dX2_placeServedNext_63 (Nat.le_of_ble_eq_true rfl) (Nat.le_of_ble_eq_true rfl) ?_
        exact ⟨trivial, hp⟩
      · skip
        have hkl : k < l.length := (nI_ltI (by omega) (by omega)).mp h_25
        obtain ⟨x, hx⟩ : ∃ z, l[k]? = some z := ⟨_, List.getElem?_eq_getElem hkl⟩
        obtain ⟨c1, ⟨y1, t1, c2, c3⟩, c4, c5, c6⟩ := hg x (List.mem_of_getElem? hx)
        have hlt1 := hg.lt (List.mem_of_getElem? hx)
        have hltz := hg.lt (List.mem_of_getElem? hP.1)
        refine lg_aload_n hG dX2_placeServedNext_28 rfl ?_
        refine cg_getg hG hC dX2_placeServedNext_29 rfl rfl ?_
        refine lg_aload_n hG dX2_placeServedNext_32 rfl ?_
        refine lg_iload hG dX2_placeServedNext_33 rfl ?_
        refine cg_callR hG hC dX2_placeServedNext_35 rfl (fun P h => h) hc (Nat.le_of_ble_eq_true rfl) (Nat.le_of_ble_eq_true rfl) (Nat.le_of_ble_eq_true rfl) ?_
        refine cr_at hC hc hl hx ?_
        first | refine cg_aq hG hC dX2_placeServedNext_38 rfl c1 ?_ | refine cg_ar hG hC dX2_placeServedNext_38 rfl c1 ?_
        refine cg_callQ hG hC dX2_placeServedNext_39 rfl (fun P h => h) c1 (Nat.le_of_ble_eq_true rfl) (Nat.le_of_ble_eq_true rfl) (Nat.le_of_ble_eq_true rfl) ?_
        refine cq_looks hC c1 rfl c2 c4 c5 c6 (by omega) ?_
        refine lg_istore hG dX2_placeServedNext_42 (Nat.le_of_ble_eq_true rfl) rfl ?_
        refine lg_iload hG dX2_placeServedNext_44 rfl ?_
        refine lg_iload_n hG dX2_placeServedNext_46 rfl ?_
        refine lg_icmp_ge hG dX2_placeServedNext_47 (tgt := 56) (by decide) (by decide) (fun h_47 => ?_) (fun h_47 => ?_)
        · skip
          have e1 : lkx (Q z) ≤ lkx (Q x) := by
            rcases Nat.lt_or_ge (lkx (Q x)) (lkx (Q z)) with h | h
            · exact absurd (nI_lt h (by omega)) h_47
            · exact h
          have hP := hP.keep hx e1
          refine lg_iinc hG dX2_placeServedNext_56 (Nat.le_of_ble_eq_true rfl) rfl rfl rfl ?_
          refine lg_goto hG dX2_placeServedNext_59 (tgt := 19) (by decide) (by decide) ?_
          rw [show nI k + Int32.ofInt 1 = nI (k + 1) from nI_1 k]
          exact ih (k + 1) _ _ (by omega) (by omega) hP _
        · skip
          have e1 : lkx (Q x) < lkx (Q z) := (nI_ltI (by omega) (by omega)).mp h_47
          have hP := hP.next hx e1
          refine lg_iload hG dX2_placeServedNext_50 rfl ?_
          refine lg_istore_n hG dX2_placeServedNext_52 (Nat.le_of_ble_eq_true rfl) rfl ?_
          refine lg_iload hG dX2_placeServedNext_53 rfl ?_
          refine lg_istore_n hG dX2_placeServedNext_55 (Nat.le_of_ble_eq_true rfl) rfl ?_
          refine lg_iinc hG dX2_placeServedNext_56 (Nat.le_of_ble_eq_true rfl) rfl rfl rfl ?_
          refine lg_goto hG dX2_placeServedNext_59 (tgt := 19) (by decide) (by decide) ?_
          rw [show nI k + Int32.ofInt 1 = nI (k + 1) from nI_1 k]
          exact ih (k + 1) _ _ (by omega) (by omega) hP _
  refine lg_iconst hG dX2_placeServedNext_0 (x := 0) (by decide) ?_
  refine lg_istore_n hG dX2_placeServedNext_1 (Nat.le_of_ble_eq_true rfl) rfl ?_
  refine lg_aload_n hG dX2_placeServedNext_2 rfl ?_
  refine cg_getg hG hC dX2_placeServedNext_3 rfl rfl ?_
  refine lg_aload_n hG dX2_placeServedNext_6 rfl ?_
  refine lg_iconst hG dX2_placeServedNext_7 (x := 0) (by decide) ?_
  refine cg_callR hG hC dX2_placeServedNext_8 rfl (fun P h => h) hc (Nat.le_of_ble_eq_true rfl) (Nat.le_of_ble_eq_true rfl) (Nat.le_of_ble_eq_true rfl) ?_
  refine cr_at (i := 0) hC hc hl hz0 ?_
  obtain ⟨c1, ⟨y1, t1, c2, c3⟩, c4, c5, c6⟩ := hg z0 (List.mem_of_getElem? hz0)
  have hlt1 := hg.lt (List.mem_of_getElem? hz0)
  first | refine cg_aq hG hC dX2_placeServedNext_11 rfl c1 ?_ | refine cg_ar hG hC dX2_placeServedNext_11 rfl c1 ?_
  refine cg_callQ hG hC dX2_placeServedNext_12 rfl (fun P h => h) c1 (Nat.le_of_ble_eq_true rfl) (Nat.le_of_ble_eq_true rfl) (Nat.le_of_ble_eq_true rfl) ?_
  refine cq_looks hC c1 rfl c2 c4 c5 c6 (by omega) ?_
  refine lg_istore_n hG dX2_placeServedNext_15 (Nat.le_of_ble_eq_true rfl) rfl ?_
  refine lg_iconst hG dX2_placeServedNext_16 (x := 1) (by decide) ?_
  refine lg_istore hG dX2_placeServedNext_17 (Nat.le_of_ble_eq_true rfl) rfl ?_
  exact loop (l.length + 1) 1 0 z0 (by omega) (by omega) (PN.one hz0) _

/-- the first i of the ring's queues have been looked at in vain, r times or, before the place p, r + 1 -/
def btf (Q : Nat → Qs) (l : List Nat) (p r i : Nat) : Nat → Qs := fun q => if q ∈ l.take i then vlk (Q q) (if l.idxOf q < p then r + 1 else r) else Q q
theorem btf_zero (Q : Nat → Qs) (l : List Nat) (p r : Nat) : btf Q l p r 0 = Q := by
  funext q
  unfold btf
  simp
theorem nd_tk : ∀ (l : List Nat), l.Nodup → ∀ (i x : Nat), l[i]? = some x → x ∉ l.take i
  | [], _, i, x, h => by simp at h
  | y :: l, hn, 0, x, h => by simp
  | y :: l, hn, i + 1, x, h => by
    have h1 := List.nodup_cons.mp hn
    have h2 : l[i]? = some x := h
    rw [List.take_succ_cons]
    intro h3
    rcases List.mem_cons.mp h3 with h4 | h4
    · subst h4; exact h1.1 (List.mem_of_getElem? h2)
    · exact nd_tk l h1.2 i x h2 h4
theorem nd_take {l : List Nat} (hn : l.Nodup) {i x : Nat} (hx : l[i]? = some x) : x ∉ l.take i ∧ l.idxOf x = i :=
  ⟨nd_tk l hn i x hx, (rg_idx l i x hx (nd_tk l hn i x hx)).2⟩
theorem btf_at {Q : Nat → Qs} {l : List Nat} {p r i x : Nat} (hn : l.Nodup) (hx : l[i]? = some x) : btf Q l p r i x = Q x := by
  unfold btf
  rw [if_neg (nd_take hn hx).1]
theorem btf_succ {Q : Nat → Qs} {l : List Nat} {p r i x : Nat} (hn : l.Nodup) (hx : l[i]? = some x) : va_up (btf Q l p r i) x (vlk (Q x) (if i < p then r + 1 else r)) = btf Q l p r (i + 1) := by
  funext q
  have ht : l.take (i + 1) = l.take i ++ [x] := by rw [List.take_add_one, hx]; rfl
  by_cases e : q = x
  · subst e
    rw [va_up_self]
    unfold btf
    rw [if_pos (show q ∈ l.take (i + 1) by rw [ht]; simp), (nd_take hn hx).2]
  · rw [va_up_ne _ _ e]
    unfold btf
    have : q ∈ l.take (i + 1) ↔ q ∈ l.take i := by rw [ht]; simp [e]
    simp only [this]
theorem btf_cg {ids : Nat → ClassId} {n : Nat} {A B : Nat → Qs} {R : Nat → List Nat} {g : Nat → Int32} {L0 L : lm_L} {x j : Nat} {v : Qs} (h2 : va_up A x (vlk v j) = B) {i : Nat} (hC : CW ids n (va_up A x (vlk v i)) R g L0 L) (hi : i = j) : CW ids n B R g L0 L := by
  subst hi
  rw [h2] at hC
  exact hC
def rm_X2_bringToFront : Room := { frames := 5, cells := 0, slots := 0, locals := 106 }
theorem ld_X2_bringToFront : yX2_bringToFront.cls ≠ "java/lang/invoke/MethodHandle" ∧ yX2_bringToFront.cls ≠ "java/lang/invoke/VarHandle" ∧ (parseMethodDescriptor yX2_bringToFront.desc).map (fun d => d.parameters.length) = some 2 := by decide +kernel
def sp_X2_bringToFront (ids : Nat → ClassId) : lm_S := fun As n L post postX => ∃ Q R g L0 c l p z, CW ids n Q R g L0 L ∧ As = [.ref 0, .ref (39 + 2 * c), .int (nI p)] ∧ c < 4 ∧ R c = l ∧ l.Nodup ∧ LG Q l ∧ l[p]? = some z ∧ ∀ L1, CW ids n (btf Q l p (lkx (Q z)) l.length) (va_up R c (l.drop p ++ l.take p)) g L0 L1 → post none n L1
def cv_X2_bringToFront (ids : Nat → ClassId) : Nat → Option lm_C := fun j => match j with
  | 87 => some (2, 1, sp_X1_queueAt ids, 0, 0)
  | 199 => some (1, 0, sp_X0_looksInVain ids, 0, 0)
  | 202 => some (2, 0, sp_X0_lookInVain ids, 0, 0)
  | 205 => some (2, 1, sp_X1_turnBy ids, 0, 0)
  | _ => none
set_option maxHeartbeats 4000000 in
set_option maxRecDepth 20000 in
theorem ok_X2_bringToFront (l : Launch) (D : va_G) (ids : Nat → ClassId) (B b : Nat) : lm_M l D (lm_ty ids) B b false yX2_bringToFront cX2_bringToFront 5 none rm_X2_bringToFront 0 0 (sp_X2_bringToFront ids) := by
  refine lm_method (own := RX2) (fld := lf_2) (cv := (cv_X2_bringToFront ids)) (cs := (fun _ => none)) (ci := (fun _ => none)) (kon := (fun _ => none)) (thr := (fun _ => none)) (nw := (fun _ => none)) (ini := false) (cp := none) (alc := false) (by decide +kernel) rfl rfl rfl (lf_2_ok _) ⟨?_, ?_⟩ ?_ (fun h => by cases h) (lm_aok0 _ _ _ _ _ _ _ _) ?_ ?_
  · intro j f hf
    unfold cv_X2_bringToFront at hf
    split at hf
    · cases hf; exact ⟨yX1_queueAt, cX1_queueAt, 2, (some .int), rm_X1_queueAt, RX1, TX1, 2, 1, rfl, rfl, ok_X1_queueAt l D ids B b, lw_1_queueAt, ll_2_87, rfl, rfl, ⟨rfl, ld_X1_queueAt⟩, by decide⟩
    · cases hf; exact ⟨yX0_looksInVain, cX0_looksInVain, 3, (some .int), rm_X0_looksInVain, RX0, TX0, 15, 0, rfl, rfl, ok_X0_looksInVain l D ids B b, lw_0_looksInVain, ll_2_199, rfl, rfl, ⟨rfl, ld_X0_looksInVain⟩, by decide⟩
    · cases hf; exact ⟨yX0_lookInVain, cX0_lookInVain, 3, none, rm_X0_lookInVain, RX0, TX0, 15, 1, rfl, rfl, ok_X0_lookInVain l D ids B b, lw_0_lookInVain, ll_2_202, rfl, rfl, ⟨rfl, ld_X0_lookInVain⟩, by decide⟩
    · cases hf; exact ⟨yX1_turnBy, cX1_turnBy, 4, none, rm_X1_turnBy, RX1, TX1, 2, 1, rfl, rfl, ok_X1_turnBy l D ids B b, lw_1_turnBy, ll_2_205, rfl, rfl, ⟨rfl, ld_X1_turnBy⟩, by decide⟩
    · cases hf
  · intro j f hf
    cases hf
  · intro j v hv; cases hv
  · exact Or.inl fun _ => rfl
  rintro As n L post postX ⟨Q, R, g, L0, c, l, p, z, hC, rfl, hc, hl, hn, hg, hz, hp⟩
  refine ⟨by simp [Value.category], (Nat.le_of_ble_eq_true rfl), lm_cl_of ?_⟩
  intro G hG
  have hpl : p < l.length := (List.getElem?_eq_some_iff.mp hz).1
  have hl12 : l.length ≤ 12 := by
    obtain ⟨f9, -, -, hl9, -⟩ := hC.2.2.2.2.2.1 c hc
    rw [hl] at hl9
    exact hl9
  obtain ⟨c1, ⟨y1, t1, c2, c3⟩, c4, c5, c6⟩ := hg z (List.mem_of_getElem? hz)
  have hlt1 := hg.lt (List.mem_of_getElem? hz)
  have loop : ∀ (m k : Nat) (L : lm_L), k ≤ l.length → l.length - k < m → CW ids n (btf Q l p (lkx (Q z)) k) R g L0 L → G 17 [some (.ref 0), some (.ref (39 + 2 * c)), some (.int (nI p)), some (.int (nI (lkx (Q z)))), some (.int (nI k))] [] n L 0 0 := by
    intro m
    induction m with
    | zero => intro k L h1 h2; omega
    | succ m ih =>
      intro k L hk hkm hC
      refine lg_iload hG dX2_bringToFront_17 rfl ?_
      refine lg_aload_n hG dX2_bringToFront_19 rfl ?_
      refine cg_size hG hC dX2_bringToFront_20 rfl hc hl ?_
      refine lg_icmp_ge hG dX2_bringToFront_23 (tgt := 59) (by decide) (by decide) (fun h_23 => ?_) (fun h_23 => ?_)
      · skip
        have hkl : k = l.length := by
          rcases Nat.lt_or_ge k l.length with h | h
          · exact absurd (nI_lt h (by omega)) h_23
          · omega
        subst hkl
        refine lg_aload_n hG dX2_bringToFront_59 rfl ?_
        refine lg_iload_n hG dX2_bringToFront_60 rfl ?_
        refine cg_callR hG hC dX2_bringToFront_61 rfl (fun P h => h) hc (Nat.le_of_ble_eq_true rfl) (Nat.le_of_ble_eq_true rfl) (Nat.le_of_ble_eq_true rfl) ?_
        refine cr_turn hC hc hl (by omega) (fun L hC => ?_)
        refine lg_vret hG dX2_bringToFront_64 (Nat.le_of_ble_eq_true rfl) (Nat.le_of_ble_eq_true rfl) ?_
        exact ⟨trivial, hp _ hC⟩
      · skip
        have hkl : k < l.length := (nI_ltI (by omega) (by omega)).mp h_23
        obtain ⟨x, hx⟩ : ∃ z, l[k]? = some z := ⟨_, List.getElem?_eq_getElem hkl⟩
        have hx12 : x < 12 := (hg x (List.mem_of_getElem? hx)).1
        refine lg_aload_n hG dX2_bringToFront_26 rfl ?_
        refine cg_getg hG hC dX2_bringToFront_27 rfl rfl ?_
        refine lg_aload_n hG dX2_bringToFront_30 rfl ?_
        refine lg_iload hG dX2_bringToFront_31 rfl ?_
        refine cg_callR hG hC dX2_bringToFront_33 rfl (fun P h => h) hc (Nat.le_of_ble_eq_true rfl) (Nat.le_of_ble_eq_true rfl) (Nat.le_of_ble_eq_true rfl) ?_
        refine cr_at hC hc hl hx ?_
        first | refine cg_aq hG hC dX2_bringToFront_36 rfl hx12 ?_ | refine cg_ar hG hC dX2_bringToFront_36 rfl hx12 ?_
        refine lg_iload hG dX2_bringToFront_37 rfl ?_
        refine lg_iload_n hG dX2_bringToFront_39 rfl ?_
        refine lg_icmp_ge hG dX2_bringToFront_40 (tgt := 49) (by decide) (by decide) (fun h_40 => ?_) (fun h_40 => ?_)
        · skip
          have e1 : ¬ k < p := fun h => h_40 (nI_lt h (by omega))
          refine lg_iload_n hG dX2_bringToFront_49 rfl ?_
          refine cg_callQ hG hC dX2_bringToFront_50 rfl (fun P h => h) hx12 (Nat.le_of_ble_eq_true rfl) (Nat.le_of_ble_eq_true rfl) (Nat.le_of_ble_eq_true rfl) ?_
          refine cq_vain hC hx12 (btf_at hn hx) (by omega) (fun L hC => ?_)
          have hC := btf_cg (btf_succ (p := p) (r := lkx (Q z)) hn hx) hC (by first | rw [if_pos e1] | rw [if_neg e1])
          refine lg_iinc hG dX2_bringToFront_53 (Nat.le_of_ble_eq_true rfl) rfl rfl rfl ?_
          refine lg_goto hG dX2_bringToFront_56 (tgt := 17) (by decide) (by decide) ?_
          rw [show nI k + Int32.ofInt 1 = nI (k + 1) from nI_1 k]
          exact ih (k + 1) L (by omega) (by omega) hC
        · skip
          have e1 : k < p := (nI_ltI (by omega) (by omega)).mp h_40
          refine lg_iload_n hG dX2_bringToFront_43 rfl ?_
          refine lg_iconst hG dX2_bringToFront_44 (x := 1) (by decide) ?_
          refine lg_iadd hG dX2_bringToFront_45 (nI_1 (lkx (Q z))) ?_
          refine lg_goto hG dX2_bringToFront_46 (tgt := 50) (by decide) (by decide) ?_
          refine cg_callQ hG hC dX2_bringToFront_50 rfl (fun P h => h) hx12 (Nat.le_of_ble_eq_true rfl) (Nat.le_of_ble_eq_true rfl) (Nat.le_of_ble_eq_true rfl) ?_
          refine cq_vain hC hx12 (btf_at hn hx) (by omega) (fun L hC => ?_)
          have hC := btf_cg (btf_succ (p := p) (r := lkx (Q z)) hn hx) hC (by first | rw [if_pos e1] | rw [if_neg e1])
          refine lg_iinc hG dX2_bringToFront_53 (Nat.le_of_ble_eq_true rfl) rfl rfl rfl ?_
          refine lg_goto hG dX2_bringToFront_56 (tgt := 17) (by decide) (by decide) ?_
          rw [show nI k + Int32.ofInt 1 = nI (k + 1) from nI_1 k]
          exact ih (k + 1) L (by omega) (by omega) hC
  refine lg_aload_n hG dX2_bringToFront_0 rfl ?_
  refine cg_getg hG hC dX2_bringToFront_1 rfl rfl ?_
  refine lg_aload_n hG dX2_bringToFront_4 rfl ?_
  refine lg_iload_n hG dX2_bringToFront_5 rfl ?_
  refine cg_callR hG hC dX2_bringToFront_6 rfl (fun P h => h) hc (Nat.le_of_ble_eq_true rfl) (Nat.le_of_ble_eq_true rfl) (Nat.le_of_ble_eq_true rfl) ?_
  refine cr_at hC hc hl hz ?_
  first | refine cg_aq hG hC dX2_bringToFront_9 rfl c1 ?_ | refine cg_ar hG hC dX2_bringToFront_9 rfl c1 ?_
  refine cg_callQ hG hC dX2_bringToFront_10 rfl (fun P h => h) c1 (Nat.le_of_ble_eq_true rfl) (Nat.le_of_ble_eq_true rfl) (Nat.le_of_ble_eq_true rfl) ?_
  refine cq_looks hC c1 rfl c2 c4 c5 c6 (by omega) ?_
  refine lg_istore_n hG dX2_bringToFront_13 (Nat.le_of_ble_eq_true rfl) rfl ?_
  refine lg_iconst hG dX2_bringToFront_14 (x := 0) (by decide) ?_
  refine lg_istore hG dX2_bringToFront_15 (Nat.le_of_ble_eq_true rfl) rfl ?_
  exact loop (l.length + 1) 0 L (by omega) (by omega) (by rw [btf_zero]; exact hC)

def rm_X2_serveFirstItem : Room := { frames := 5, cells := 0, slots := 0, locals := 104 }
theorem ld_X2_serveFirstItem : yX2_serveFirstItem.cls ≠ "java/lang/invoke/MethodHandle" ∧ yX2_serveFirstItem.cls ≠ "java/lang/invoke/VarHandle" ∧ (parseMethodDescriptor yX2_serveFirstItem.desc).map (fun d => d.parameters.length) = some 1 := by decide +kernel
def sp_X2_serveFirstItem (ids : Nat → ClassId) : lm_S := fun As n L post postX => ∃ Q R g L0 q y t, CW ids n Q R g L0 L ∧ As = [.ref 0, .int (nI q)] ∧ q < 12 ∧ qI (Q q) = y :: t ∧ qk (Q q) < 4 ∧ q ∈ R (qk (Q q)) ∧ y.2 ≤ qd (tkt (Q q)) ∧ ∀ L1, CW ids n (va_up Q q (if t.length = 0 then lvq (srv (Q q) y t) else srv (Q q) y t)) (if t.length = 0 then lvR Q R q else R) (upd (upd g 0 y.1) 1 (g 1 + 1)) L0 L1 → post none n L1
def cv_X2_serveFirstItem (ids : Nat → ClassId) : Nat → Option lm_C := fun j => match j with
  | 105 => some (1, 0, sp_X0_firstCost ids, 0, 0)
  | 114 => some (3, 2, sp_X2_leaveRing ids, 0, 0)
  | 155 => some (2, 0, sp_X0_wordAt ids, 0, 0)
  | 208 => some (1, 0, sp_X0_takeTurn ids, 0, 0)
  | 211 => some (1, 0, sp_X0_dropFirst ids, 0, 0)
  | _ => none
set_option maxHeartbeats 4000000 in
set_option maxRecDepth 20000 in
theorem ok_X2_serveFirstItem (l : Launch) (D : va_G) (ids : Nat → ClassId) (B b : Nat) : lm_M l D (lm_ty ids) B b false yX2_serveFirstItem cX2_serveFirstItem 4 none rm_X2_serveFirstItem 0 0 (sp_X2_serveFirstItem ids) := by
  refine lm_method (own := RX2) (fld := lf_2) (cv := (cv_X2_serveFirstItem ids)) (cs := (fun _ => none)) (ci := (fun _ => none)) (kon := (fun _ => none)) (thr := (fun _ => none)) (nw := (fun _ => none)) (ini := false) (cp := none) (alc := false) (by decide +kernel) rfl rfl rfl (lf_2_ok _) ⟨?_, ?_⟩ ?_ (fun h => by cases h) (lm_aok0 _ _ _ _ _ _ _ _) ?_ ?_
  · intro j f hf
    unfold cv_X2_serveFirstItem at hf
    split at hf
    · cases hf; exact ⟨yX0_firstCost, cX0_firstCost, 1, (some .int), rm_X0_firstCost, RX0, TX0, 15, 0, rfl, rfl, ok_X0_firstCost l D ids B b, lw_0_firstCost, ll_2_105, rfl, rfl, ⟨rfl, ld_X0_firstCost⟩, by decide⟩
    · cases hf; exact ⟨yX2_leaveRing, cX2_leaveRing, 3, none, rm_X2_leaveRing, RX2, TX2, 7, 2, rfl, rfl, ok_X2_leaveRing l D ids B b, lw_2_leaveRing, ll_2_114, rfl, rfl, ⟨rfl, ld_X2_leaveRing⟩, by decide⟩
    · cases hf; exact ⟨yX0_wordAt, cX0_wordAt, 2, (some .int), rm_X0_wordAt, RX0, TX0, 15, 1, rfl, rfl, ok_X0_wordAt l D ids B b, lw_0_wordAt, ll_2_155, rfl, rfl, ⟨rfl, ld_X0_wordAt⟩, by decide⟩
    · cases hf; exact ⟨yX0_takeTurn, cX0_takeTurn, 1, none, rm_X0_takeTurn, RX0, TX0, 15, 0, rfl, rfl, ok_X0_takeTurn l D ids B b, lw_0_takeTurn, ll_2_208, rfl, rfl, ⟨rfl, ld_X0_takeTurn⟩, by decide⟩
    · cases hf; exact ⟨yX0_dropFirst, cX0_dropFirst, 1, none, rm_X0_dropFirst, RX0, TX0, 15, 0, rfl, rfl, ok_X0_dropFirst l D ids B b, lw_0_dropFirst, ll_2_211, rfl, rfl, ⟨rfl, ld_X0_dropFirst⟩, by decide⟩
    · cases hf
  · intro j f hf
    cases hf
  · intro j v hv; cases hv
  · exact Or.inl fun _ => rfl
  rintro As n L post postX ⟨Q, R, g, L0, q, y, t, hC, rfl, hq, hy, hk, hr, hd, hp⟩
  refine ⟨by simp [Value.category], (Nat.le_of_ble_eq_true rfl), lm_cl_of ?_⟩
  intro G hG
  have hlt : t.length < 96 := by
    have := hC.blen hq
    rw [hy] at this
    simp at this
    omega
  have hyt : qI (tkt (Q q)) = y :: t := (tkt_I _).trans hy
  refine lg_aload_n hG dX2_serveFirstItem_0 rfl ?_
  refine cg_getg hG hC dX2_serveFirstItem_1 rfl rfl ?_
  refine lg_iload_n hG dX2_serveFirstItem_4 rfl ?_
  first | refine cg_aq hG hC dX2_serveFirstItem_5 rfl (by first | assumption | omega) ?_ | refine cg_ar hG hC dX2_serveFirstItem_5 rfl (by first | assumption | omega) ?_
  refine lg_astore_n hG dX2_serveFirstItem_6 (Nat.le_of_ble_eq_true rfl) rfl ?_
  refine lg_aload_n hG dX2_serveFirstItem_7 rfl ?_
  refine cg_callQ hG hC dX2_serveFirstItem_8 rfl (fun P h => h) (by first | assumption | omega) (Nat.le_of_ble_eq_true rfl) (Nat.le_of_ble_eq_true rfl) (Nat.le_of_ble_eq_true rfl) ?_
  refine cq_turn hC hq rfl (fun L hC => ?_)
  refine lg_aload_n hG dX2_serveFirstItem_11 rfl ?_
  refine cg_callQ hG hC dX2_serveFirstItem_12 rfl (fun P h => h) (by first | assumption | omega) (Nat.le_of_ble_eq_true rfl) (Nat.le_of_ble_eq_true rfl) (Nat.le_of_ble_eq_true rfl) ?_
  refine cq_first hC hq (va_up_self _ _ _) hyt ?_
  refine lg_istore_n hG dX2_serveFirstItem_15 (Nat.le_of_ble_eq_true rfl) rfl ?_
  refine lg_aload_n hG dX2_serveFirstItem_16 rfl ?_
  refine lg_aload_n hG dX2_serveFirstItem_17 rfl ?_
  refine lg_iconst hG dX2_serveFirstItem_18 (x := 0) (by decide) ?_
  refine cg_callQ hG hC dX2_serveFirstItem_19 rfl (fun P h => h) (by first | assumption | omega) (Nat.le_of_ble_eq_true rfl) (Nat.le_of_ble_eq_true rfl) (Nat.le_of_ble_eq_true rfl) ?_
  refine cq_word (i := 0) (y := y) hC hq (va_up_self _ _ _) (by rw [hyt]; rfl) ?_
  refine cg_putg hG hC dX2_serveFirstItem_22 rfl (by first | trivial | exact Or.inl rfl | exact Or.inr rfl | assumption) (by decide) (g' := upd g 0 y.1) rfl (fun L hC => ?_)
  refine lg_aload_n hG dX2_serveFirstItem_25 rfl ?_
  refine lg_dup hG dX2_serveFirstItem_26 rfl ?_
  refine cg_get hG hC dX2_serveFirstItem_27 rfl (by first | assumption | omega) (va_up_self _ _ _) rfl ?_
  refine lg_iload_n hG dX2_serveFirstItem_30 rfl ?_
  refine lg_isub hG dX2_serveFirstItem_31 (pk_sub hd) ?_
  refine cg_put hG hC dX2_serveFirstItem_32 rfl (by first | assumption | omega) (va_up_self _ _ _) (by first | trivial | exact Or.inl rfl | exact Or.inr rfl | assumption) (by decide) (x' := sD (tkt (Q q)) (qd (tkt (Q q)) - y.2)) rfl rfl (fun L hC => ?_)
  try rw [bx_uu] at hC
  refine lg_aload_n hG dX2_serveFirstItem_35 rfl ?_
  refine lg_dup hG dX2_serveFirstItem_36 rfl ?_
  refine cg_get hG hC dX2_serveFirstItem_37 rfl (by first | assumption | omega) (va_up_self _ _ _) rfl ?_
  refine lg_iload_n hG dX2_serveFirstItem_40 rfl ?_
  refine lg_iadd hG dX2_serveFirstItem_41 rfl ?_
  refine cg_put hG hC dX2_serveFirstItem_42 rfl (by first | assumption | omega) (va_up_self _ _ _) (by first | trivial | exact Or.inl rfl | exact Or.inr rfl | assumption) (by decide) (x' := s3 (sD (tkt (Q q)) (qd (tkt (Q q)) - y.2)) (q3 (tkt (Q q)) + nI y.2)) rfl rfl (fun L hC => ?_)
  try rw [bx_uu] at hC
  refine lg_aload_n hG dX2_serveFirstItem_45 rfl ?_
  refine lg_dup hG dX2_serveFirstItem_46 rfl ?_
  refine cg_get hG hC dX2_serveFirstItem_47 rfl (by first | assumption | omega) (va_up_self _ _ _) rfl ?_
  refine lg_iconst hG dX2_serveFirstItem_50 (x := 1) (by decide) ?_
  refine lg_iadd hG dX2_serveFirstItem_51 rfl ?_
  refine cg_put hG hC dX2_serveFirstItem_52 rfl (by first | assumption | omega) (va_up_self _ _ _) (by first | trivial | exact Or.inl rfl | exact Or.inr rfl | assumption) (by decide) (x' := s2 (s3 (sD (tkt (Q q)) (qd (tkt (Q q)) - y.2)) (q3 (tkt (Q q)) + nI y.2)) (q2 (tkt (Q q)) + 1)) rfl rfl (fun L hC => ?_)
  try rw [bx_uu] at hC
  refine lg_aload_n hG dX2_serveFirstItem_55 rfl ?_
  refine lg_dup hG dX2_serveFirstItem_56 rfl ?_
  refine cg_getg hG hC dX2_serveFirstItem_57 rfl rfl ?_
  refine lg_iconst hG dX2_serveFirstItem_60 (x := 1) (by decide) ?_
  refine lg_iadd hG dX2_serveFirstItem_61 rfl ?_
  refine cg_putg hG hC dX2_serveFirstItem_62 rfl (by first | trivial | exact Or.inl rfl | exact Or.inr rfl | assumption) (by decide) (g' := upd (upd g 0 y.1) 1 (g 1 + 1)) rfl (fun L hC => ?_)
  refine lg_aload_n hG dX2_serveFirstItem_65 rfl ?_
  refine cg_callQ hG hC dX2_serveFirstItem_66 rfl (fun P h => h) (by first | assumption | omega) (Nat.le_of_ble_eq_true rfl) (Nat.le_of_ble_eq_true rfl) (Nat.le_of_ble_eq_true rfl) ?_
  refine cq_dropF hC hq (va_up_self _ _ _) hyt (fun L hC => ?_)
  rw [bx_uu] at hC
  refine lg_aload_n hG dX2_serveFirstItem_69 rfl ?_
  refine cg_get hG hC dX2_serveFirstItem_70 rfl (by first | assumption | omega) (va_up_self _ _ _) rfl ?_
  refine lg_if_ne hG dX2_serveFirstItem_73 (tgt := 82) (by decide) (by decide) (fun h_73 => ?_) (fun h_73 => ?_)
  · skip
    have e1 : ¬ t.length = 0 := fun h => h_73 (by show nI t.length = 0; rw [h]; rfl)
    rw [if_neg e1, if_neg e1] at hp
    refine lg_vret hG dX2_serveFirstItem_82 (Nat.le_of_ble_eq_true rfl) (Nat.le_of_ble_eq_true rfl) ?_
    first | exact ⟨trivial, hp⟩ | exact ⟨trivial, hp _ hC⟩
  · skip
    have e1 : t.length = 0 := by
      have h9 : nI t.length = nI 0 := h_73
      exact (nI_eq (by omega) (by decide)).mp h9
    rw [if_pos e1, if_pos e1] at hp
    have hk2 : qk (srv (Q q) y t) = qk (Q q) := tkt_k _
    refine lg_aload_n hG dX2_serveFirstItem_76 rfl ?_
    refine lg_iload_n hG dX2_serveFirstItem_77 rfl ?_
    refine lg_aload_n hG dX2_serveFirstItem_78 rfl ?_
    refine cg_callO hG hC dX2_serveFirstItem_79 rfl (fun P h => h) (Nat.le_of_ble_eq_true rfl) (Nat.le_of_ble_eq_true rfl) (Nat.le_of_ble_eq_true rfl) ?_
    refine ⟨_, _, _, _, q, hC, rfl, hq, by rw [va_up_self]; exact hk2 ▸ hk, by rw [va_up_self]; exact hk2 ▸ hr, fun L1 hC1 => ?_⟩
    have hp := hp L1 (by rw [va_up_self, bx_uu] at hC1; unfold lvR at hC1; rw [va_up_self] at hC1; unfold lvR; rw [← hk2]; exact hC1)
    refine lg_vret hG dX2_serveFirstItem_82 (Nat.le_of_ble_eq_true rfl) (Nat.le_of_ble_eq_true rfl) ?_
    first | exact ⟨trivial, hp⟩ | exact ⟨trivial, hp _ hC⟩
end
section
/-! the plain state: queues, rings, numbers; what a call makes of it; what always holds of it -/
abbrev St : Type := (Nat → Qs) × (Nat → List Nat) × (Nat → Int32)
def CS (ids : Nat → ClassId) (n : Nat) (σ : St) (L0 L : lm_L) : Prop := CW ids n σ.1 σ.2.1 σ.2.2 L0 L
def addS (σ : St) (q : Nat) (w : Int32) (k : Nat) : St := (va_up σ.1 q (adq (σ.1 q) w k), adR σ.1 σ.2.1 q, σ.2.2)
def losS (σ : St) (q : Nat) : St := (va_up σ.1 q (if (qI (σ.1 q)).dropLast.length = 0 then lvq (loq (σ.1 q) (qI (σ.1 q)).dropLast) else loq (σ.1 q) (qI (σ.1 q)).dropLast), (if (qI (σ.1 q)).dropLast.length = 0 then lvR σ.1 σ.2.1 q else σ.2.1), upd σ.2.2 2 (σ.2.2 2 + 1))
def psh (σ : St) (q : Nat) (w : Int32) (k : Nat) : St × Int32 :=
  if qq (σ.1 q) ≤ (qI (σ.1 q)).length then ((σ.1, σ.2.1, upd σ.2.2 3 (σ.2.2 3 + 1)), -2)
  else if room σ.1 q = true then (addS σ q w k, 100)
  else if exc σ.1 (grd σ.1 11) - exc σ.1 q < 2 then ((σ.1, σ.2.1, upd σ.2.2 4 (σ.2.2 4 + 1)), -3)
  else (addS (losS σ (grd σ.1 11)) q w k, nI (grd σ.1 11))
def kdS (σ : St) (q j u : Nat) : St := if qk (σ.1 q) = j then (va_up σ.1 q (sU (σ.1 q) u), σ.2) else
  (va_up σ.1 q (sK (sT (sU (σ.1 q) u) false) j), (if 0 < (qI (σ.1 q)).length then va_up (va_up σ.2.1 (qk (σ.1 q)) ((σ.2.1 (qk (σ.1 q))).erase q)) j (σ.2.1 j ++ [q]) else σ.2.1), σ.2.2)
def quS (σ : St) (q i j : Nat) : St := (va_up σ.1 q (sP (sO (σ.1 q) i) j), σ.2)
def emS (σ : St) (q : Nat) : St := if 0 < (qI (σ.1 q)).length then (va_up σ.1 q (lvq (sI (σ.1 q) [])), lvR σ.1 σ.2.1 q, σ.2.2) else σ
def bfS (σ : St) (c p z : Nat) : St := (btf σ.1 (σ.2.1 c) p (lkx (σ.1 z)) (σ.2.1 c).length, va_up σ.2.1 c ((σ.2.1 c).drop p ++ (σ.2.1 c).take p), σ.2.2)
def sfS (σ : St) (q : Nat) : St := match qI (σ.1 q) with
  | [] => σ
  | y :: t => (va_up σ.1 q (if t.length = 0 then lvq (srv (σ.1 q) y t) else srv (σ.1 q) y t), (if t.length = 0 then lvR σ.1 σ.2.1 q else σ.2.1), upd (upd σ.2.2 0 y.1) 1 (σ.2.2 1 + 1))
def svS (σ : St) (c p z : Nat) : St := sfS (bfS σ c p z) z
def fc (x : Qs) : Nat := match qI x with
  | [] => 0
  | y :: _ => y.2
/-- the queue z, at the place p of the ring c, is served next -/
def FP (σ : St) (c p z : Nat) : Prop := c < 4 ∧ 0 < (σ.2.1 c).length ∧ (∀ d, d < c → (σ.2.1 d).length = 0) ∧ PN σ.1 (σ.2.1 c) (σ.2.1 c).length p z
def NQ (σ : St) : Prop := ∀ c, c < 4 → (σ.2.1 c).length = 0
def SUR : Nat → St → Nat → St → Nat → Prop
  | 0, σ, _, σ', s => σ' = σ ∧ s = 0
  | f + 1, σ, rest, σ', s => (NQ σ ∧ σ' = σ ∧ s = 0) ∨ ∃ c p z, FP σ c p z ∧ ((rest < fc (σ.1 z) ∧ σ' = σ ∧ s = 0) ∨ (fc (σ.1 z) ≤ rest ∧ ∃ s1, s = s1 + 1 ∧ SUR f (svS σ c p z) (rest - fc (σ.1 z)) σ' s1))
def tldv (σ : St) (q i : Nat) : Int32 := match i with
  | 0 => nI (qI (σ.1 q)).length
  | 1 => nI (qk (σ.1 q))
  | 2 => nI (qu (σ.1 q))
  | 3 => nI (qq (σ.1 q))
  | 4 => nI (qp (σ.1 q))
  | 5 => nI (qd (σ.1 q))
  | 6 => bI (qt (σ.1 q))
  | 7 => if q ∈ σ.2.1 (qk (σ.1 q)) then nI ((σ.2.1 (qk (σ.1 q))).idxOf q) else -1
  | 8 => q0 (σ.1 q)
  | 9 => q1 (σ.1 q)
  | 10 => q2 (σ.1 q)
  | 11 => q3 (σ.1 q)
  | _ => nI (csum (qI (σ.1 q)))
def allv (σ : St) (i : Nat) : Int32 := match i with
  | 0 => iI (fre σ.1)
  | 1 => iI (opn σ.1 12)
  | 2 => nI (sumN (fun q => qp (σ.1 q)) 12)
  | 3 => σ.2.2 1
  | 4 => σ.2.2 2
  | 5 => σ.2.2 3
  | _ => σ.2.2 4
def okQ (Q : Nat → Qs) (z a b : Int32) (q i j : Nat) : Prop := (q < 12 ∧ z = nI q) ∧ (i ≤ 96 ∧ a = nI i) ∧ (j ≤ 96 ∧ b = nI j) ∧ sumN (fun q => qp (Q q)) 12 - qp (Q q) + j ≤ 96
def okK (z a b : Int32) (q j u : Nat) : Prop := (q < 12 ∧ z = nI q) ∧ (j < 4 ∧ a = nI j) ∧ (0 < u ∧ u ≤ 1000 ∧ b = nI u)
def okP (z c : Int32) (q k : Nat) : Prop := (q < 12 ∧ z = nI q) ∧ (0 < k ∧ k ≤ 2000 ∧ c = nI k)
def okN (N : Nat) (z : Int32) (q : Nat) : Prop := q < N ∧ z = nI q
def sumI (f : Nat → Int32) : Nat → Int32
  | 0 => 0
  | k + 1 => sumI f k + f k
def IQ (K : Nat) (R : Nat → List Nat) (q : Nat) (x : Qs) : Prop := qk x < 4 ∧ 0 < qu x ∧ qu x ≤ 1000 ∧ qq x ≤ 96 ∧ qp x ≤ 96 ∧ qd x ≤ 2000 + 1000 * K ∧ (∀ y ∈ qI x, 0 < y.2 ∧ y.2 ≤ 2000) ∧ ((qI x).length = 0 → qd x = 0 ∧ qt x = false) ∧ (0 < (qI x).length → q ∈ R (qk x))
def IR (Q : Nat → Qs) (c : Nat) (l : List Nat) : Prop := l.Nodup ∧ ∀ q ∈ l, q < 12 ∧ qk (Q q) = c ∧ 0 < (qI (Q q)).length
def INV (K : Nat) (σ : St) : Prop := (∀ q, q < 12 → IQ K σ.2.1 q (σ.1 q)) ∧ (∀ c, c < 4 → IR σ.1 c (σ.2.1 c)) ∧ sumN (fun q => qp (σ.1 q)) 12 ≤ 96 ∧ sumN (fun q => (qI (σ.1 q)).length) 12 ≤ 96 ∧ σ.2.2 1 = sumI (fun q => q2 (σ.1 q)) 12 ∧ σ.2.2 2 = sumI (fun q => q1 (σ.1 q)) 12
theorem nd_len : ∀ (n : Nat) (l : List Nat), l.Nodup → (∀ x ∈ l, x < n) → l.length ≤ n
  | 0, l, _, h => by
    cases l with
    | nil => exact Nat.le_refl _
    | cons a l => exact absurd (h a List.mem_cons_self) (by omega)
  | n + 1, l, hn, h => by
    have h1 := nd_len n (l.erase n) (hn.erase n) (fun x hx => by
      have h2 := (List.Nodup.mem_erase_iff hn).mp hx
      have := h x h2.2
      have := h2.1
      omega)
    rw [List.length_erase] at h1
    split at h1 <;> omega
theorem nd_len1 {l : List Nat} {q n : Nat} (hn : l.Nodup) (h : ∀ x ∈ l, x < n) (hq : q < n) (hm : q ∉ l) : l.length < n := by
  have := nd_len n (q :: l) (List.nodup_cons.mpr ⟨hm, hn⟩) (fun x hx => by
    rcases List.mem_cons.mp hx with h9 | h9
    · rw [h9]; exact hq
    · exact h x h9)
  exact this
theorem fc_mem {x : Qs} (h : 0 < (qI x).length) : ∃ y t, qI x = y :: t ∧ fc x = y.2 := by
  unfold fc
  cases hx : qI x with
  | nil => rw [hx] at h; simp at h
  | cons y t => exact ⟨y, t, rfl, rfl⟩
section INVS
variable {K : Nat} {σ : St}
theorem INV.kp (h : INV K σ) : KP σ.1 := fun q hq => (h.1 q hq).2.2.2.2.1
theorem INV.lg (h : INV K σ) (hK : K ≤ 2 ^ 17) {c : Nat} (hc : c < 4) : LG σ.1 (σ.2.1 c) := by
  intro z hz
  obtain ⟨h1, h2, h3⟩ := (h.2.1 c hc).2 z hz
  obtain ⟨-, a2, a3, -, -, a6, a7, -, -⟩ := h.1 z h1
  obtain ⟨y, t, hy, -⟩ := fc_mem h3
  have := (a7 y (by rw [hy]; exact List.mem_cons_self)).2
  exact ⟨h1, ⟨y, t, hy, by omega⟩, by omega, a2, by omega⟩
theorem INV.ring (h : INV K σ) {q c : Nat} (hq : q < 12) (hc : c < 4) (hm : (qI (σ.1 q)).length = 0 ∨ qk (σ.1 q) ≠ c) : (σ.2.1 c).length < 12 := by
  obtain ⟨h1, h2⟩ := h.2.1 c hc
  refine nd_len1 h1 (fun x hx => (h2 x hx).1) hq (fun hx => ?_)
  have := h2 q hx
  rcases hm with hm | hm
  · omega
  · exact hm this.2.1
end INVS
theorem lk_enough {t : Bool} {d u p : Nat} (hu : 0 < u) : p ≤ (if t then d else d + u) + lkv t d u p * u := by
  unfold lkv
  generalize (if t = true then d else d + u) = X
  have h1 := Nat.div_add_mod (p - X + (u - 1)) u
  have h2 := Nat.mod_lt (p - X + (u - 1)) hu
  rw [Nat.mul_comm] at h1
  omega
theorem tkt_vlk {x : Qs} {k : Nat} : qd (tkt (vlk x k)) = (if qt x then qd x else qd x + qu x) + k * qu x := by
  unfold vlk
  by_cases hk : k = 0
  · subst hk
    rw [if_pos rfl]
    unfold tkt
    cases qt x <;> simp
  · rw [if_neg hk]
    unfold tkt
    obtain ⟨j, rfl⟩ : ∃ j, k = j + 1 := ⟨k - 1, by omega⟩
    cases qt x
    · simp [qd, qt, qu, Nat.add_mul]; omega
    · simp [qd, qt, qu, Nat.add_mul]; omega
theorem lkx_enough {x : Qs} (hu : 0 < qu x) : fc x ≤ qd (tkt (vlk x (lkx x))) := by
  rw [tkt_vlk]
  unfold fc lkx
  cases hI : qI x with
  | nil => exact Nat.zero_le _
  | cons y t => exact lk_enough hu
end

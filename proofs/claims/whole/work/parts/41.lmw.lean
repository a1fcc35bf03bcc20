/-! methods of the law: static, with a table of their own -/
abbrev lm_mkL (cv cs ci : Nat → Option lm_C) (ct : Nat → String → Option Nat) (nw : Nat → Option (Nat × List Value)) (ids : Nat → ClassId) (scr : Option (Nat × (Nat → Int32))) (mc ms : Nat) (alc : Bool) : lm_E :=
  (fun _ => none, cv, cs, ci, fun _ => none, fun _ => none, ct, ids, scr, nw, mc, ms, false, none, alc)
/-- a catch table: pc and exception to the handler -/
def lm_cto (own : String) (hh : List (Nat × Nat × Nat × Nat)) (ct : Nat → String → Option Nat) : Prop := ∀ pc en h, ct pc en = some h → ∃ pre x suf, tableOf hh = pre ++ x :: suf ∧ x.handlerPc = h ∧ covers x pc = true ∧ x.catchType ≠ 0 ∧ Cond.classLink own x.catchType en ∈ lm_WT ∧ Cond.castable en en ∈ lm_nest ∧ ∀ z ∈ pre, z.catchType ≠ 0 ∧ Cond.classLink own z.catchType lm_iae ∈ lm_WT ∧ en = lm_iob
section LMW
variable {p : Program} {l : Launch} {e : Env} {R : Room} {s : State} {m : MethodId} {args : Array Value} {below : List Frame} {meth : Method} {c : Code} {D : va_G} {B b : Nat} {ex : Bool} {nL : Nat} {own : String} {QF : State → Prop} {tys : List (ClassId × FieldType)} {hh : List (Nat × Nat × Nat × Nat)} {ct : Nat → String → Option Nat}
theorem lm_caught (hts : ∀ w ∈ lm_WT, w.before args s = true) (hcx : lm_cx D tys B s) (hown : s.vm.findClass own = some m.cls) (htab : c.exceptionTable.toList = tableOf hh) (hct : lm_cto own hh ct)
    {pc : Nat} {en : String} {h : Nat} {lo : lm_O} {st : List Value} {n : Nat} {L : lm_L} {bc bs : Nat} (hc : ct pc en = some h) (hk : ∀ k, lm_G p l e R s m args below meth c D B b ex nL QF h lo [.retAddr k] n L bc bs) : lm_GX p l e R s m args below meth c D B b ex nL QF pc lo st n L bc bs en := by
  intro H locs ls q ce hZ hP hS hH e1 e2 e3
  obtain ⟨pre, x, suf, h1, h2, h3, h4, h5, h6, h7⟩ := hct pc en h hc
  refine vx_catch (E := en) (name := en) hown pre x suf (htab.trans h1) (fun z hz => ?_) h3 h4 (hts _ h5) (va_Nw.use (lm_soft_on (lm_nest_soft _ h6)) (hcx.2.1 _ h6)) e1 e2 e3 ?_
  · obtain ⟨g1, g2, g3⟩ := h7 z hz
    exact Or.inr ⟨g1, lm_iae, hts _ g2, by rw [g3]; exact hcx.2.2.2.2.2.1⟩
  · rw [h2]
    exact hk q H locs ls hZ hP hS hH
end LMW
theorem lm_methodW {l : Launch} {D : va_G} {ids : Nat → ClassId} {B b : Nat} {own : String} {y : MethodName} {cc : ByteArray} {maxL : Nat} {hh : List (Nat × Nat × Nat × Nat)} {rm : Room} {mc ms : Nat} {cv : Nat → Option lm_C} {ct : Nat → String → Option Nat} {wp : lm_S}
    (hp : plainName y.cls = true) (ho : y.cls = own) (hrc : rm.cells = mc) (hrs : rm.slots = ms) (hc : lm_cok l D ids B b false own rm cv (fun _ => none)) (hct : lm_cto own hh ct)
    (hbody : ∀ (As : List Value) (n : Nat) (L : lm_L) (post : lm_Q) (postX : lm_X), wp As n L post postX → (∀ u ∈ As, u.category = 1) ∧ As.length ≤ maxL ∧ lm_wp (lm_mkL cv (fun _ => none) (fun _ => none) ct (fun _ => none) ids none mc ms false) cc (lm_rq (some .int) post) (fun _ _ _ => False) 0 (lm_ent As maxL) [] n L 0 0) :
    lm_MW l D (lm_ty ids) B b false y cc maxL (some .int) hh rm mc ms wp := by
  intro As n L post postX hwp
  obtain ⟨hca, hle, hb9⟩ := hbody As n L post postX hwp
  refine vx_ofWH hp rfl ?_
  intro p e s m args below meth c s₁ Bd hml hv
  obtain ⟨rfl, hZ, hP, hcx⟩ := hv
  have hx := Bd.exec
  have hb := Bd.bytes
  have hr := Bd.returns
  have hts0 := atoms_spec (ws := Cond.codeWith y cc maxL (some .int) hh :: lm_WT) Bd.pre
  have hts : ∀ w ∈ lm_WT, w.before (As.map (lm_v B b)).toArray s = true := fun w hw => hts0 w (List.mem_cons_of_mem _ hw)
  have hown : s.vm.findClass own = some m.cls := by rw [← ho]; exact findClass_of_methodNamed Bd.named
  have hlk := Bd.notSynchronized
  have htab := vx_table (x := y) Bd (hts0 _ List.mem_cons_self)
  have hT : lm_T p l e (headSpec (Cond.codeWith y cc maxL (some .int) hh :: lm_WT) rm).room s m (As.map (lm_v B b)).toArray below meth c D B b false maxL own cc (lm_mkL cv (fun _ => none) (fun _ => none) ct (fun _ => none) ids none mc ms false) (lm_rq (some .int) post) (fun _ _ _ => False) (vx_MQ below (lm_Qc D B b false post) (lm_XC D B b false postX) (As.map (lm_v B b)).toArray s mc ms (lm_A B)) := by
    refine ⟨hx, hb, hml, hown, hts, hcx, Nat.le_trans (Nat.le_add_right _ _) hZ.1, (fun h9 => by cases h9), Nat.le_of_eq hrc.symm, Nat.le_of_eq hrs.symm, (fun j f hf => by cases hf), fun j f hf => ?_, (fun j f hf => by cases hf), (fun j v hv => by cases hv), (fun pc en lo n1 L1 bc bs h1 => by cases h1), fun pc en lo st n1 L1 bc bs _ _ _ h4 => h4.elim, fun pc en h lo st n1 L1 bc bs h1 h2 => lm_caught hts hcx hown htab hct h1 h2, ?_, ?_, ?_, (fun q hq => by cases hq), (fun j hj => by cases hj), (fun j f hf => by cases hf), (fun h9 => by cases h9), (fun j f hf => by cases hf)⟩
    · obtain ⟨y1, c1, mL, rt, r1, C, T, N, k, a1, a2, a3, a4, a5, a6, a7, a8, a9⟩ := hc.1 j f hf
      exact ⟨y1, c1, mL, rt, r1, C, T, N, k, a1, a2, a3, lm_cwV hts a4 a5 a6 a7 a8 a9⟩
    · intro pc lo x n1 L1 bc bs hd h1 h2 h3
      exact lm_endi (Q := post) hx hb hr hlk (fun _ _ _ h => h) hd h1 h2 h3.2
    · intro pc lo v n1 L1 bc bs hd h1 h2 h3 h4
      rcases h3 with rfl | ⟨k, rfl⟩
      · exact h4.1.elim
      · exact h4.1.elim
    · intro pc lo n1 L1 bc bs hd h1 h2 h3
      exact h3.1.elim
  rw [lg_entry_eq]
  exact lm_wp_ok hT hb9 s.heap [] _ hZ hP va_S.rf (lm_entry hca hle)

/-! what every method of the system stands on: the tables' steady words, the words that only warm, strings, two statics -/
def lm_WT : List Cond := lw_tbl.filter goodWord
theorem lm_wt {w : Cond} (i : Nat) (h : lw_tbl[i]? = some w) (hg : goodWord w = true) : w ∈ lm_WT := List.mem_filter.mpr ⟨List.mem_of_getElem? h, hg⟩
theorem lm_wg {w : Cond} (h : w ∈ lm_WT) : goodWord w = true := (List.mem_filter.mp h).2
theorem lm_good {c1 c2 : Cond} (h2 : c2 ∈ lm_WT) : GoodIn (c1 :: lm_WT) (c2 :: lm_WT) := by
  intro w hw
  have h9 : w ∈ lm_WT := by
    rcases List.mem_cons.mp hw with e | e
    · rw [e]; exact h2
    · exact e
  exact ⟨List.mem_cons_of_mem _ h9, good_of_word (lm_wg h9)⟩
abbrev lm_iae : String := "java/lang/IllegalArgumentException"
abbrev lm_iob : String := "java/lang/IndexOutOfBoundsException"
def lm_nest : List Cond := [
  .fieldLinkNest RX2 52 RX0 "count" "I" RX2, .fieldLinkNest RX2 140 RX0 "costs" "I" RX2, .fieldLinkNest RX2 45 RX0 "kind" "I" RX2, .fieldLinkNest RX2 42 RX0 "quantum" "I" RX2, .fieldLinkNest RX2 39 RX0 "quota" "I" RX2, .fieldLinkNest RX2 35 RX0 "kept" "I" RX2,
  .fieldLinkNest RX2 118 RX0 "deficit" "I" RX2, .fieldLinkNest RX2 121 RX0 "hasTurn" "Z" RX2, .fieldLinkNest RX2 128 RX0 "pushed" "I" RX2, .fieldLinkNest RX2 131 RX0 "lost" "I" RX2, .fieldLinkNest RX2 134 RX0 "served" "I" RX2, .fieldLinkNest RX2 137 RX0 "servedCosts" "I" RX2,
  .fieldLinkNest RX2 196 RX1 "size" "I" RX2, .methodLinkNest RX2 21 yX0_init RX2, .methodLinkNest RX2 22 yX1_init RX2,
  .declares ⟨"java/lang/RuntimeException", "<init>", "(Ljava/lang/String;)V"⟩, .declares ⟨"java/lang/Exception", "<init>", "(Ljava/lang/String;)V"⟩, .declares ⟨"java/lang/Throwable", "<init>", "(Ljava/lang/String;)V"⟩,
  .castable lm_iae lm_iae, .castable lm_iob lm_iob]
def lm_str : List (Nat × String) := [(173, "no such queue"), (175, "out of range"), (145, "no such what"), (152, "no such item")]
def lm_soft : Cond → Bool
  | .fieldLinkNest .. => true
  | .methodLinkNest .. => true
  | .declares _ => true
  | .castable .. => true
  | _ => false
theorem lm_soft_on {w : Cond} (h : lm_soft w = true) : w.onTables = true := by
  cases w <;> first | rfl | (simp [lm_soft] at h)
theorem lm_castable {a b : String} {s U : State} (hvm : s.vm.Alike U.vm) (h : va_Nw (.castable a b) s) : va_Nw (.castable a b) U := by
  obtain ⟨c, t, h1, h2, h3⟩ := Cond.castable_spec (show (Cond.castable a b).holds #[] s none s [] = true from h)
  show (Cond.castable a b).holds #[] U none U [] = true
  have e1 : U.vm.findClass a = some c := by rw [hvm.findClass]; exact h1
  have e2 : U.vm.findClass b = some t := by rw [hvm.findClass]; exact h2
  have e3 : U.vm.assignable c t = true := by rw [hvm.assignable]; exact h3
  simp [Cond.holds, Cond.value, e1, e2, e3]
theorem lm_soft_warm {w : Cond} (hw : lm_soft w = true) {s U : State} (hW : s.WarmedH U.vm) (h : va_Nw w s) : va_Nw w U := by
  cases w with
  | fieldLinkNest a i b n d h0 => exact va_Nw.warmF hW h
  | methodLinkNest a i x h0 => exact va_Nw.warmM hW h
  | declares x => exact va_Nw.warmD hW h
  | castable a b => exact lm_castable hW.alike h
  | _ => simp [lm_soft] at hw
theorem lm_nest_soft : ∀ w ∈ lm_nest, lm_soft w = true := by decide
abbrev lm_A (B : Nat) : Nat → Prop := fun q => B ≤ q
/-- the context at a state -/
def lm_cx (D : va_G) (tys : List (ClassId × FieldType)) (B : Nat) (U : State) : Prop :=
  va_K D vwCl tys U ∧ (∀ w ∈ lm_nest, va_Nw w U) ∧ (∀ q ∈ lm_str, ∃ sa, vk_R RX2 q.1 q.2 sa U) ∧
  vx_Zq Bundle.tN "UNASSIGNED_STACK" Bundle.steD (lm_A B) U U.heap ∧ vx_Zq Bundle.tN "SUPPRESSED_SENTINEL" Bundle.listD (lm_A B) U U.heap ∧ va_Nc lm_iob lm_iae U ∧ va_AO RX0 U ∧ va_AO RX1 U
theorem lm_cx.to {D : va_G} {tys : List (ClassId × FieldType)} {B : Nat} {s U : State} (h : lm_cx D tys B s) (hW : s.WarmedH U.vm) (hk : ∀ a : Nat, a < s.heap.size → ¬ lm_A B a → U.heap[a]? = s.heap[a]?) : lm_cx D tys B U := by
  obtain ⟨h1, h2, h3, h4, h5, h6, h7, h8⟩ := h
  refine ⟨va_K.moved hW.alike h1, fun w hw => lm_soft_warm (lm_nest_soft w hw) hW (h2 w hw), fun q hq => ?_, vx_Zq.moved hW.alike (h4.kept hk), vx_Zq.moved hW.alike (h5.kept hk), h6.moved hW.alike, va_AO.moved hW.alike h7, va_AO.moved hW.alike h8⟩
  obtain ⟨sa, hs⟩ := h3 q hq
  exact ⟨sa, vk_R.warm hW hs⟩
theorem lm_cx.same {D : va_G} {tys : List (ClassId × FieldType)} {B : Nat} {s U : State} (h : lm_cx D tys B s) (hv : U.vm = s.vm) (hh : U.heap = s.heap) : lm_cx D tys B U := by
  refine h.to ?_ (fun a _ _ => by rw [hh])
  rw [hv]
  exact State.WarmedH.refl s
section LMC
variable (l : Launch) (D : va_G) (tys : List (ClassId × FieldType)) (B b : Nat) (ex : Bool)
def lm_Pc (As : List Value) (n : Nat) (L : lm_L) : Array Value → State → Prop := va_Pc (As.map (lm_v B b)) (fun U => lm_Z ex B n U.heap ∧ va_P D vwCl (lm_w B b n L) U.heap ∧ lm_cx D tys B U)
def lm_Qc (post : lm_Q) : Array Value → State → Outcome → State → Prop := fun _ st oc t => ∃ (r : Option Value) (n1 : Nat) (L1 : lm_L), oc = .returned (r.map (lm_v B b)) ∧ post r n1 L1 ∧ lm_Z ex B n1 t.heap ∧ va_P D vwCl (lm_w B b n1 L1) t.heap ∧ va_F (lm_A B) st t
def lm_XC (post : lm_X) : String → State → State → Prop := fun E st t => ∃ (n1 : Nat) (L1 : lm_L), post E n1 L1 ∧ lm_Z ex B n1 t.heap ∧ va_P D vwCl (lm_w B b n1 L1) t.heap ∧ va_F (lm_A B) st t
/-- THE CONTRACT of a method: from every start that its sentence wp allows -/
def lm_M (y : MethodName) (cc : ByteArray) (maxL : Nat) (ret : Option FieldType) (rm : Room) (mc ms : Nat) (wp : lm_S) : Prop :=
  ∀ (As : List Value) (n : Nat) (L : lm_L) (post : lm_Q) (postX : lm_X), wp As n L post postX → vx_Met l y (.code y cc maxL ret :: lm_WT) rm (lm_Pc D tys B b ex As n L) (lm_Qc D B b ex post) (lm_XC D B b ex postX) mc ms (lm_A B)
def lm_MW (y : MethodName) (cc : ByteArray) (maxL : Nat) (ret : Option FieldType) (hh : List (Nat × Nat × Nat × Nat)) (rm : Room) (mc ms : Nat) (wp : lm_S) : Prop :=
  ∀ (As : List Value) (n : Nat) (L : lm_L) (post : lm_Q) (postX : lm_X), wp As n L post postX → vx_Met l y (.codeWith y cc maxL ret hh :: lm_WT) rm (lm_Pc D tys B b ex As n L) (lm_Qc D B b ex post) (lm_XC D B b ex postX) mc ms (lm_A B)
theorem lm_blind (As : List Value) (n : Nat) (L : lm_L) : FrameBlind (lm_Pc D tys B b ex As n L) := by
  intro a U g mk h
  obtain ⟨h0, h1, h2, h3⟩ := h
  exact ⟨h0, h1, h2, h3.same rfl rfl⟩
end LMC

/-! the class's world, told by plain values: Q the queues, R the rings, g the five numbers of the object -/
abbrev Qs : Type := List (Int32 × Nat) × Nat × Nat × Nat × Nat × Nat × Bool × Int32 × Int32 × Int32 × Int32
abbrev qI (x : Qs) : List (Int32 × Nat) := x.1
abbrev qk (x : Qs) : Nat := x.2.1
abbrev qu (x : Qs) : Nat := x.2.2.1
abbrev qq (x : Qs) : Nat := x.2.2.2.1
abbrev qp (x : Qs) : Nat := x.2.2.2.2.1
abbrev qd (x : Qs) : Nat := x.2.2.2.2.2.1
abbrev qt (x : Qs) : Bool := x.2.2.2.2.2.2.1
abbrev q0 (x : Qs) : Int32 := x.2.2.2.2.2.2.2.1
abbrev q1 (x : Qs) : Int32 := x.2.2.2.2.2.2.2.2.1
abbrev q2 (x : Qs) : Int32 := x.2.2.2.2.2.2.2.2.2.1
abbrev q3 (x : Qs) : Int32 := x.2.2.2.2.2.2.2.2.2.2
def bI (t : Bool) : Int32 := if t then 1 else 0
def csum : List (Int32 × Nat) → Nat
  | [] => 0
  | y :: l => y.2 + csum l
theorem csum_app : ∀ (l m : List (Int32 × Nat)), csum (l ++ m) = csum l + csum m
  | [], m => by simp [csum]
  | y :: l, m => by
    show y.2 + csum (l ++ m) = y.2 + csum l + csum m
    rw [csum_app l m]
    omega
def qv (a : Nat) (x : Qs) : Nat → Int32 := fun f => match f with
  | 2 => nI a
  | 3 => nI (qI x).length
  | 4 => nI (csum (qI x))
  | 5 => nI (qk x)
  | 6 => nI (qu x)
  | 7 => nI (qq x)
  | 8 => nI (qp x)
  | 9 => nI (qd x)
  | 10 => bI (qt x)
  | 11 => q0 x
  | 12 => q1 x
  | 13 => q2 x
  | _ => q3 x
def IT (I : List (Int32 × Nat)) (W C : Nat → Int32) (a : Nat) : Prop := ∀ k y, I[k]? = some y → W ((a + k) % 96) = y.1 ∧ C ((a + k) % 96) = nI y.2
def CQ (ids : Nat → ClassId) (L : lm_L) (q : Nat) (x : Qs) : Prop := ∃ a W C, L (3 + 3 * q) = qo (4 + 3 * q) (5 + 3 * q) (qv a x) ∧ L (4 + 3 * q) = ia (ids 0) 96 W ∧ L (5 + 3 * q) = ia (ids 0) 96 C ∧ a < 96 ∧ (qI x).length ≤ 96 ∧ IT (qI x) W C a
def CR (ids : Nat → ClassId) (L : lm_L) (c : Nat) (l : List Nat) : Prop := ∃ f, L (39 + 2 * c) = ro (40 + 2 * c) (nI l.length) ∧ L (40 + 2 * c) = ia (ids 0) 12 f ∧ l.length ≤ 12 ∧ LF l f ∧ ∀ x ∈ l, x < 12
def mo (g : Nat → Int32) : va_E := .inr (2, [.ref 1, .ref 2, .int (g 0), .int (g 1), .int (g 2), .int (g 3), .int (g 4)])
def CW (ids : Nat → ClassId) (n : Nat) (Q : Nat → Qs) (R : Nat → List Nat) (g : Nat → Int32) (L0 L : lm_L) : Prop :=
  47 ≤ n ∧ L 0 = mo g ∧ (∃ f, L 1 = .inl (ids 3, 12, .inr (.inr (.inr (.inr f)))) ∧ ∀ q, q < 12 → f q = some (3 + 3 * q)) ∧ (∃ f, L 2 = .inl (ids 4, 4, .inr (.inr (.inr (.inr f)))) ∧ ∀ c, c < 4 → f c = some (39 + 2 * c)) ∧
  (∀ q, q < 12 → CQ ids L q (Q q)) ∧ (∀ c, c < 4 → CR ids L c (R c)) ∧ ∀ k, 47 ≤ k → L k = L0 k
theorem CQ.cg {ids : Nat → ClassId} {L L' : lm_L} {q : Nat} {x : Qs} (h : CQ ids L q x) (h1 : L' (3 + 3 * q) = L (3 + 3 * q)) (h2 : L' (4 + 3 * q) = L (4 + 3 * q)) (h3 : L' (5 + 3 * q) = L (5 + 3 * q)) : CQ ids L' q x := by
  obtain ⟨a, W, C, a1, a2, a3, a4⟩ := h
  exact ⟨a, W, C, h1.trans a1, h2.trans a2, h3.trans a3, a4⟩
theorem CR.cg {ids : Nat → ClassId} {L L' : lm_L} {c : Nat} {l : List Nat} (h : CR ids L c l) (h1 : L' (39 + 2 * c) = L (39 + 2 * c)) (h2 : L' (40 + 2 * c) = L (40 + 2 * c)) : CR ids L' c l := by
  obtain ⟨f, a1, a2, a3⟩ := h
  exact ⟨f, h1.trans a1, h2.trans a2, a3⟩
section CWS
variable {ids : Nat → ClassId} {n : Nat} {Q : Nat → Qs} {R : Nat → List Nat} {g : Nat → Int32} {L0 L : lm_L}
theorem CW.setQ (h : CW ids n Q R g L0 L) {q : Nat} (hq : q < 12) {L' : lm_L} {x : Qs} (hk : ∀ k, k ≠ 3 + 3 * q → k ≠ 4 + 3 * q → k ≠ 5 + 3 * q → L' k = L k) (hx : CQ ids L' q x) : CW ids n (va_up Q q x) R g L0 L' := by
  obtain ⟨h0, h1, h2, h3, h4, h5, h6⟩ := h
  refine ⟨h0, ?_, ?_, ?_, ?_, ?_, ?_⟩
  · rw [hk 0 (by omega) (by omega) (by omega)]; exact h1
  · rw [hk 1 (by omega) (by omega) (by omega)]; exact h2
  · rw [hk 2 (by omega) (by omega) (by omega)]; exact h3
  · intro q' hq'
    by_cases e : q' = q
    · subst e; rw [va_up_self]; exact hx
    · rw [va_up_ne _ _ e]
      exact (h4 q' hq').cg (hk _ (by omega) (by omega) (by omega)) (hk _ (by omega) (by omega) (by omega)) (hk _ (by omega) (by omega) (by omega))
  · intro c hc
    exact (h5 c hc).cg (hk _ (by omega) (by omega) (by omega)) (hk _ (by omega) (by omega) (by omega))
  · intro k hk9
    rw [hk k (by omega) (by omega) (by omega)]; exact h6 k hk9
theorem CW.setR (h : CW ids n Q R g L0 L) {c : Nat} (hc : c < 4) {L' : lm_L} {l : List Nat} (hk : ∀ k, k ≠ 39 + 2 * c → k ≠ 40 + 2 * c → L' k = L k) (hx : CR ids L' c l) : CW ids n Q (va_up R c l) g L0 L' := by
  obtain ⟨h0, h1, h2, h3, h4, h5, h6⟩ := h
  refine ⟨h0, ?_, ?_, ?_, ?_, ?_, ?_⟩
  · rw [hk 0 (by omega) (by omega)]; exact h1
  · rw [hk 1 (by omega) (by omega)]; exact h2
  · rw [hk 2 (by omega) (by omega)]; exact h3
  · intro q' hq'
    exact (h4 q' hq').cg (hk _ (by omega) (by omega)) (hk _ (by omega) (by omega)) (hk _ (by omega) (by omega))
  · intro c' hc'
    by_cases e : c' = c
    · subst e; rw [va_up_self]; exact hx
    · rw [va_up_ne _ _ e]
      exact (h5 c' hc').cg (hk _ (by omega) (by omega)) (hk _ (by omega) (by omega))
  · intro k hk9
    rw [hk k (by omega) (by omega)]; exact h6 k hk9
theorem CW.setG (h : CW ids n Q R g L0 L) {g' : Nat → Int32} : CW ids n Q R g' L0 (va_up L 0 (mo g')) := by
  obtain ⟨h0, h1, h2, h3, h4, h5, h6⟩ := h
  refine ⟨h0, va_up_self _ _ _, ?_, ?_, ?_, ?_, ?_⟩
  · rw [va_up_ne _ _ (by omega)]; exact h2
  · rw [va_up_ne _ _ (by omega)]; exact h3
  · intro q' hq'
    exact (h4 q' hq').cg (va_up_ne _ _ (by omega)) (va_up_ne _ _ (by omega)) (va_up_ne _ _ (by omega))
  · intro c' hc'
    exact (h5 c' hc').cg (va_up_ne _ _ (by omega)) (va_up_ne _ _ (by omega))
  · intro k hk9
    rw [va_up_ne _ _ (by omega)]; exact h6 k hk9
end CWS
/-! rows of the class's walks -/
section CGR
variable {ids : Nat → ClassId} {n : Nat} {Qq : Nat → Qs} {R : Nat → List Nat} {g : Nat → Int32} {L0 L : lm_L}
variable {E : lm_E} {cc : ByteArray} {Q : lm_Q} {X : lm_X} {G : lm_K} {pc : Nat} {lo : lm_O} {r : List Value} {bc bs : Nat}
def qfl (x : Qs) : List Value := [.int (nI (qI x).length), .int (nI (csum (qI x))), .int (nI (qk x)), .int (nI (qu x)), .int (nI (qq x)), .int (nI (qp x)), .int (nI (qd x)), .int (bI (qt x)), .int (q0 x), .int (q1 x), .int (q2 x), .int (q3 x)]
theorem cg_get (hG : lm_cl E cc Q X G) (hC : CW ids n Qq R g L0 L) {j f ty q : Nat} {x : Qs} {v : Value} (hd : decode cc pc = .ok (.getfield j, 3)) (hf : lm_fld E j = some (0, f + 3, ty)) (hq : q < 12) (hx : Qq q = x) (hv : (qfl x)[f]? = some v) (k : G (pc + 3) lo (v :: r) n L bc bs) : G pc lo (.ref (3 + 3 * q) :: r) n L bc bs := by
  obtain ⟨a, W, C, a1, -⟩ := hC.2.2.2.2.1 q hq
  rw [hx] at a1
  exact lg_get hG hd hf (by have := hC.1; omega) (fs := .ref (4 + 3 * q) :: .ref (5 + 3 * q) :: .int (nI a) :: qfl x) a1 hv k
theorem cg_put (hG : lm_cl E cc Q X G) (hC : CW ids n Qq R g L0 L) {j f ty q : Nat} {x x' : Qs} {v : Value} (hd : decode cc pc = .ok (.putfield j, 3)) (hf : lm_fld E j = some (0, f + 3, ty)) (hq : q < 12) (hx : Qq q = x) (ht : lm_fit E ty v) (hf2 : f < 12) (hI : qI x' = qI x) (h2 : (qfl x).set f v = qfl x') (k : ∀ L1, CW ids n (va_up Qq q x') R g L0 L1 → G (pc + 3) lo r n L1 bc bs) : G pc lo (v :: .ref (3 + 3 * q) :: r) n L bc bs := by
  obtain ⟨a, W, C, a1, a2, a3, a4, a5, a6⟩ := hC.2.2.2.2.1 q hq
  rw [hx] at a1 a5 a6
  refine lg_put hG hd hf (by have := hC.1; omega) ht (fs := .ref (4 + 3 * q) :: .ref (5 + 3 * q) :: .int (nI a) :: qfl x) a1 (Nat.add_lt_add_right hf2 3) (fs1 := .ref (4 + 3 * q) :: .ref (5 + 3 * q) :: .int (nI a) :: qfl x') (by rw [← h2]; rfl) (k _ ?_)
  refine hC.setQ hq (fun k a _ _ => va_up_ne _ _ a) ⟨a, W, C, va_up_self _ _ _, ?_, ?_, a4, by rw [hI]; exact a5, by rw [hI]; exact a6⟩
  · rw [va_up_ne _ _ (by omega)]; exact a2
  · rw [va_up_ne _ _ (by omega)]; exact a3
theorem cg_getg (hG : lm_cl E cc Q X G) (hC : CW ids n Qq R g L0 L) {j f ty : Nat} {v : Value} (hd : decode cc pc = .ok (.getfield j, 3)) (hf : lm_fld E j = some (2, f, ty)) (hv : [.ref 1, .ref 2, .int (g 0), .int (g 1), .int (g 2), .int (g 3), .int (g 4)][f]? = some v) (k : G (pc + 3) lo (v :: r) n L bc bs) : G pc lo (.ref 0 :: r) n L bc bs :=
  lg_get hG hd hf (by have := hC.1; omega) hC.2.1 hv k
theorem cg_putg (hG : lm_cl E cc Q X G) (hC : CW ids n Qq R g L0 L) {j f ty : Nat} {v : Value} {g' : Nat → Int32} (hd : decode cc pc = .ok (.putfield j, 3)) (hf : lm_fld E j = some (2, f, ty)) (ht : lm_fit E ty v) (hf2 : f < 7) (hv : [.ref 1, .ref 2, .int (g 0), .int (g 1), .int (g 2), .int (g 3), .int (g 4)].set f v = [.ref 1, .ref 2, .int (g' 0), .int (g' 1), .int (g' 2), .int (g' 3), .int (g' 4)]) (k : ∀ L1, CW ids n Qq R g' L0 L1 → G (pc + 3) lo r n L1 bc bs) : G pc lo (v :: .ref 0 :: r) n L bc bs :=
  lg_put hG hd hf (by have := hC.1; omega) ht hC.2.1 hf2 hv (k _ hC.setG)
theorem cg_size (hG : lm_cl E cc Q X G) (hC : CW ids n Qq R g L0 L) {j c : Nat} {l : List Nat} (hd : decode cc pc = .ok (.getfield j, 3)) (hf : lm_fld E j = some (1, 1, 0)) (hc : c < 4) (hx : R c = l) (k : G (pc + 3) lo (.int (nI l.length) :: r) n L bc bs) : G pc lo (.ref (39 + 2 * c) :: r) n L bc bs := by
  obtain ⟨f, a1, -⟩ := hC.2.2.2.2.2.1 c hc
  rw [hx] at a1
  exact lg_get hG hd hf (by have := hC.1; omega) a1 rfl k
theorem cg_aq (hG : lm_cl E cc Q X G) (hC : CW ids n Qq R g L0 L) {q : Nat} (hd : decode cc pc = .ok (.aaload, 1)) (hi3 : lm_id E 3 = ids 3) (hq : q < 12) (k : G (pc + 1) lo (.ref (3 + 3 * q) :: r) n L bc bs) : G pc lo (.int (nI q) :: .ref 1 :: r) n L bc bs := by
  obtain ⟨f, a1, a2⟩ := hC.2.2.1
  refine lg_aald hG hd (by have := hC.1; omega) a1 (Or.inl hi3.symm) (vp_in_nI hq (by decide)) ?_ k
  rw [nI_clamp (by omega), a2 q hq]
  rfl
theorem cg_ar (hG : lm_cl E cc Q X G) (hC : CW ids n Qq R g L0 L) {c : Nat} (hd : decode cc pc = .ok (.aaload, 1)) (hi3 : lm_id E 4 = ids 4) (hq : c < 4) (k : G (pc + 1) lo (.ref (39 + 2 * c) :: r) n L bc bs) : G pc lo (.int (nI c) :: .ref 2 :: r) n L bc bs := by
  obtain ⟨f, a1, a2⟩ := hC.2.2.2.1
  refine lg_aald hG hd (by have := hC.1; omega) a1 (Or.inr hi3.symm) (vp_in_nI hq (by decide)) ?_ k
  rw [nI_clamp (by omega), a2 c hq]
  rfl
theorem cg_lenq (hG : lm_cl E cc Q X G) (hC : CW ids n Qq R g L0 L) (hd : decode cc pc = .ok (.arraylength, 1)) (hi3 : lm_id E 3 = ids 3) (k : G (pc + 1) lo (.int (nI 12) :: r) n L bc bs) : G pc lo (.ref 1 :: r) n L bc bs := by
  obtain ⟨f, a1, a2⟩ := hC.2.2.1
  exact lg_alen hG hd (by have := hC.1; omega) a1 (Or.inr (Or.inl hi3.symm)) rfl k
theorem cg_lenr (hG : lm_cl E cc Q X G) (hC : CW ids n Qq R g L0 L) (hd : decode cc pc = .ok (.arraylength, 1)) (hi3 : lm_id E 4 = ids 4) (k : G (pc + 1) lo (.int (nI 4) :: r) n L bc bs) : G pc lo (.ref 2 :: r) n L bc bs := by
  obtain ⟨f, a1, a2⟩ := hC.2.2.2.1
  exact lg_alen hG hd (by have := hC.1; omega) a1 (Or.inr (Or.inr hi3.symm)) rfl k
/-- a call of a method of a queue, of a ring, of the object -/
theorem cg_callQ (hG : lm_cl E cc Q X G) (hC : CW ids n Qq R g L0 L) {st : List Value} {j k q mc ms : Nat} {wp : lm_S} {As : List Value} (hd : decode cc pc = .ok (.invokevirtual j, 3)) (hf : lm_cv E j = some (k, 0, wp, mc, ms)) (hs : ∀ P : List Value → List Value → Prop, P (.ref (3 + 3 * q) :: As) r → lm_pop k st [] P) (hq : q < 12) (b1 : bc + mc ≤ lm_mc E) (b2 : bs + ms ≤ lm_ms E) (hw : (r.map fun v => v.category).sum ≤ 8) (kk : wp (.ref (3 + 3 * q) :: As) n L (fun rv n1 L1 => G (pc + 3) lo (rv.toList ++ r) n1 L1 (bc + mc) (bs + ms)) (fun en n1 L1 => match lm_ct E pc en with
    | some h => ∀ k : Nat, G h lo [.retAddr k] n1 L1 (bc + mc) (bs + ms)
    | none => X en n1 L1)) : G pc lo st n L bc bs := by
  obtain ⟨a, W, C, a1, -⟩ := hC.2.2.2.2.1 q hq
  exact lg_callV hG hd hf hs (by have := hC.1; omega) a1 b1 b2 hw kk
theorem cg_callR (hG : lm_cl E cc Q X G) (hC : CW ids n Qq R g L0 L) {st : List Value} {j k c mc ms : Nat} {wp : lm_S} {As : List Value} (hd : decode cc pc = .ok (.invokevirtual j, 3)) (hf : lm_cv E j = some (k, 1, wp, mc, ms)) (hs : ∀ P : List Value → List Value → Prop, P (.ref (39 + 2 * c) :: As) r → lm_pop k st [] P) (hq : c < 4) (b1 : bc + mc ≤ lm_mc E) (b2 : bs + ms ≤ lm_ms E) (hw : (r.map fun v => v.category).sum ≤ 8) (kk : wp (.ref (39 + 2 * c) :: As) n L (fun rv n1 L1 => G (pc + 3) lo (rv.toList ++ r) n1 L1 (bc + mc) (bs + ms)) (fun en n1 L1 => match lm_ct E pc en with
    | some h => ∀ k : Nat, G h lo [.retAddr k] n1 L1 (bc + mc) (bs + ms)
    | none => X en n1 L1)) : G pc lo st n L bc bs := by
  obtain ⟨f, a1, -⟩ := hC.2.2.2.2.2.1 c hq
  exact lg_callV hG hd hf hs (by have := hC.1; omega) a1 b1 b2 hw kk
theorem cg_callO (hG : lm_cl E cc Q X G) (hC : CW ids n Qq R g L0 L) {st : List Value} {j k mc ms : Nat} {wp : lm_S} {As : List Value} (hd : decode cc pc = .ok (.invokevirtual j, 3)) (hf : lm_cv E j = some (k, 2, wp, mc, ms)) (hs : ∀ P : List Value → List Value → Prop, P (.ref 0 :: As) r → lm_pop k st [] P) (b1 : bc + mc ≤ lm_mc E) (b2 : bs + ms ≤ lm_ms E) (hw : (r.map fun v => v.category).sum ≤ 8) (kk : wp (.ref 0 :: As) n L (fun rv n1 L1 => G (pc + 3) lo (rv.toList ++ r) n1 L1 (bc + mc) (bs + ms)) (fun en n1 L1 => match lm_ct E pc en with
    | some h => ∀ k : Nat, G h lo [.retAddr k] n1 L1 (bc + mc) (bs + ms)
    | none => X en n1 L1)) : G pc lo st n L bc bs :=
  lg_callV hG hd hf hs (by have := hC.1; omega) hC.2.1 b1 b2 hw kk
end CGR
/-! whole numbers as ints -/
def iI (z : Int) : Int32 := Int32.ofInt z
theorem iI_n (a : Nat) : nI a = iI a := (Int32.ofInt_eq_ofNat).symm
theorem iI_add (a b : Int) : iI a + iI b = iI (a + b) := (Int32.ofInt_add a b).symm
theorem iI_sub (a b : Int) : iI a - iI b = iI (a - b) := (Int32.ofInt_sub a b).symm
theorem iI_nn (a b : Nat) : nI a - nI b = iI (a - b) := by rw [iI_n, iI_n, iI_sub]
theorem iI_toInt {z : Int} (h1 : -2147483648 ≤ z) (h2 : z < 2147483648) : (iI z).toInt = z := Int32.toInt_ofInt_of_le (by simpa using h1) (by simpa using h2)
theorem iI_lt {a b : Int} (h1 : -2147483648 ≤ a) (h2 : a < 2147483648) (h3 : -2147483648 ≤ b) (h4 : b < 2147483648) : iI a < iI b ↔ a < b := by rw [Int32.lt_iff_toInt_lt, iI_toInt h1 h2, iI_toInt h3 h4]
theorem iI_le {a b : Int} (h1 : -2147483648 ≤ a) (h2 : a < 2147483648) (h3 : -2147483648 ≤ b) (h4 : b < 2147483648) : iI a ≤ iI b ↔ a ≤ b := by rw [Int32.le_iff_toInt_le, iI_toInt h1 h2, iI_toInt h3 h4]

def sumN (f : Nat → Nat) : Nat → Nat
  | 0 => 0
  | k + 1 => sumN f k + f k
def sumZ (f : Nat → Int) : Nat → Int
  | 0 => 0
  | k + 1 => sumZ f k + f k
theorem sumN_le {f : Nat → Nat} {m N : Nat} (h : ∀ q, q < N → f q ≤ m) : ∀ k, k ≤ N → sumN f k ≤ m * k
  | 0, _ => by simp [sumN]
  | k + 1, hk => by
    have := sumN_le h k (by omega)
    have := h k (by omega)
    unfold sumN
    rw [Nat.mul_add]
    omega
theorem sumZ_bd {f : Nat → Int} {m : Int} {N : Nat} (h : ∀ q, q < N → -m ≤ f q ∧ f q ≤ m) : ∀ k : Nat, k ≤ N → -(m * (k : Int)) ≤ sumZ f k ∧ sumZ f k ≤ m * (k : Int)
  | 0, _ => by simp [sumZ]
  | k + 1, hk => by
    have := sumZ_bd h k (by omega)
    have := h k (by omega)
    unfold sumZ
    rw [show ((k + 1 : Nat) : Int) = (k : Int) + 1 from rfl, Int.mul_add, Int.mul_one]
    omega
def fre (Q : Nat → Qs) : Int := 96 - (sumN (fun q => (qI (Q q)).length) 12 : Nat)
def opn (Q : Nat → Qs) (k : Nat) : Int := fre Q + sumZ (fun q => min (exc Q q) 0) k
def room (Q : Nat → Qs) (q : Nat) : Bool := decide (0 < fre Q ∧ (exc Q q < 0 ∨ 0 < opn Q 12))
def grd (Q : Nat → Qs) : Nat → Nat
  | 0 => 0
  | k + 1 => if exc Q (grd Q k) < exc Q (k + 1) then k + 1 else grd Q k
theorem grd_le (Q : Nat → Qs) : ∀ k, grd Q k ≤ k
  | 0 => Nat.le_refl _
  | k + 1 => by
    have := grd_le Q k
    unfold grd
    split <;> omega
/-- a queue with kept cells in range -/
def KP (Q : Nat → Qs) : Prop := ∀ q, q < 12 → qp (Q q) ≤ 96
theorem CW.blen {ids : Nat → ClassId} {n : Nat} {Q : Nat → Qs} {R : Nat → List Nat} {g : Nat → Int32} {L0 L : lm_L} (hC : CW ids n Q R g L0 L) {q : Nat} (hq : q < 12) : (qI (Q q)).length ≤ 96 := by
  obtain ⟨a, W, C, -, -, -, -, h, -⟩ := hC.2.2.2.2.1 q hq
  exact h
theorem CW.bexc {ids : Nat → ClassId} {n : Nat} {Q : Nat → Qs} {R : Nat → List Nat} {g : Nat → Int32} {L0 L : lm_L} (hC : CW ids n Q R g L0 L) (hK : KP Q) {q : Nat} (hq : q < 12) : -96 ≤ exc Q q ∧ exc Q q ≤ 96 := by
  have h1 := hC.blen hq
  have h2 := hK q hq
  unfold exc
  omega
theorem CW.bfre {ids : Nat → ClassId} {n : Nat} {Q : Nat → Qs} {R : Nat → List Nat} {g : Nat → Int32} {L0 L : lm_L} (hC : CW ids n Q R g L0 L) : -1056 ≤ fre Q ∧ fre Q ≤ 96 := by
  have h := sumN_le (f := fun q => (qI (Q q)).length) (m := 96) (N := 12) (fun q hq => hC.blen hq) 12 (by omega)
  unfold fre
  omega
theorem CW.bopn {ids : Nat → ClassId} {n : Nat} {Q : Nat → Qs} {R : Nat → List Nat} {g : Nat → Int32} {L0 L : lm_L} (hC : CW ids n Q R g L0 L) (hK : KP Q) {k : Nat} (hk : k ≤ 12) : -2208 ≤ opn Q k ∧ opn Q k ≤ 1248 := by
  have h := hC.bfre
  have h2 := sumZ_bd (f := fun q => min (exc Q q) 0) (m := 96) (N := 12) (fun q hq => by have := hC.bexc hK hq; omega) k hk
  unfold opn
  omega
theorem qn_of {z : Int32} (h1 : ¬ z < 0) (h2 : z < 12) : ∃ q, q < 12 ∧ z = nI q := by
  obtain ⟨j, hj, rfl⟩ := nI_of h1
  exact ⟨j, (nI_ltI hj (by decide)).mp h2, rfl⟩
theorem qn_neg {z : Int32} (h : z < 0) : ∀ q, q < 12 → z ≠ nI q := by
  rintro q hq rfl
  exact nI_pos (by omega) h
theorem qn_big {z : Int32} (h : ¬ z < 12) : ∀ q, q < 12 → z ≠ nI q := by
  rintro q hq rfl
  exact h (nI_lt (b := 12) hq (by decide))
def rm_X2_queueOf : Room := { frames := 6, cells := 1, slots := 6, locals := 82 }
theorem ld_X2_queueOf : yX2_queueOf.cls ≠ "java/lang/invoke/MethodHandle" ∧ yX2_queueOf.cls ≠ "java/lang/invoke/VarHandle" ∧ (parseMethodDescriptor yX2_queueOf.desc).map (fun d => d.parameters.length) = some 1 := by decide +kernel
def sp_X2_queueOf (ids : Nat → ClassId) : lm_S := fun As n L post postX => ∃ Q R g L0 z, CW ids n Q R g L0 L ∧ As = [.ref 0, .int z] ∧ (∀ q, q < 12 → z = nI q → post (some (.ref (3 + 3 * q))) n L) ∧ ((∀ q, q < 12 → z ≠ nI q) → postX lm_iae n L)
def th_X2_queueOf : Nat → Option String := fun j => match j with
  | 10 => some lm_iae
  | _ => none
set_option maxHeartbeats 4000000 in
set_option maxRecDepth 20000 in
theorem ok_X2_queueOf (l : Launch) (D : va_G) (ids : Nat → ClassId) (B b : Nat) (hlt : l.stackTraces = false) : lm_M l D (lm_ty ids) B b false yX2_queueOf cX2_queueOf 2 (some (.object "SharedQueues$Queue")) rm_X2_queueOf 1 6 (sp_X2_queueOf ids) := by
  refine lm_method (own := RX2) (fld := lf_2) (cv := (fun _ => none)) (cs := (fun _ => none)) (ci := (fun _ => none)) (kon := (fun _ => none)) (thr := th_X2_queueOf) (nw := (fun _ => none)) (ini := false) (cp := none) (alc := false) (by decide +kernel) rfl rfl rfl (lf_2_ok _) ⟨?_, ?_⟩ ?_ (fun h => by cases h) (lm_aok0 _ _ _ _ _ _ _ _) ?_ ?_
  · intro j f hf
    cases hf
  · intro j f hf
    cases hf
  · intro j v hv; cases hv
  · refine Or.inr ⟨rfl, rfl, hlt, by decide, by decide, ?_⟩
    intro pc en he
    unfold th_X2_queueOf at he
    split at he
    · cases he; exact ⟨143, 173, 147, "no such queue", lx_iae, by decide, dX2_queueOf_10, dX2_queueOf_13, dX2_queueOf_14, dX2_queueOf_16, dX2_queueOf_19⟩
    · cases he
  rintro As n L post postX ⟨Q, R, g, L0, z, hC, rfl, hp, hpx⟩
  refine ⟨by simp [Value.category], (Nat.le_of_ble_eq_true rfl), lm_cl_of ?_⟩
  intro G hG
  refine lg_iload_n hG dX2_queueOf_0 rfl ?_
  refine lg_if_lt hG dX2_queueOf_1 (tgt := 10) (by decide) (by decide) (fun h_1 => ?_) (fun h_1 => ?_)
  · skip
    have hpx := hpx (qn_neg h_1)
    refine lg_throw hG dX2_queueOf_10 rfl (Nat.le_of_ble_eq_true rfl) (Nat.le_of_ble_eq_true rfl) ?_
    exact hpx
  · skip
    refine lg_iload_n hG dX2_queueOf_4 rfl ?_
    refine lg_bipush hG dX2_queueOf_5 (x := (12)) (by decide) ?_
    refine lg_icmp_lt hG dX2_queueOf_7 (tgt := 20) (by decide) (by decide) (fun h_7 => ?_) (fun h_7 => ?_)
    · skip
      obtain ⟨q, hq, rfl⟩ := qn_of h_1 h_7
      have hp := hp q hq rfl
      refine lg_aload_n hG dX2_queueOf_20 rfl ?_
      refine cg_getg hG hC dX2_queueOf_21 rfl rfl ?_
      refine lg_iload_n hG dX2_queueOf_24 rfl ?_
      first | refine cg_aq hG hC dX2_queueOf_25 rfl (by first | assumption | omega) ?_ | refine cg_ar hG hC dX2_queueOf_25 rfl (by first | assumption | omega) ?_
      refine lg_aret hG dX2_queueOf_26 (Nat.le_of_ble_eq_true rfl) (Nat.le_of_ble_eq_true rfl) ?_
      exact ⟨trivial, hp⟩
    · skip
      have hpx := hpx (qn_big h_7)
      refine lg_throw hG dX2_queueOf_10 rfl (Nat.le_of_ble_eq_true rfl) (Nat.le_of_ble_eq_true rfl) ?_
      exact hpx

def rm_X2_checkRange : Room := { frames := 6, cells := 1, slots := 6, locals := 82 }
theorem ld_X2_checkRange : yX2_checkRange.cls ≠ "java/lang/invoke/MethodHandle" ∧ yX2_checkRange.cls ≠ "java/lang/invoke/VarHandle" ∧ (parseMethodDescriptor yX2_checkRange.desc).map (fun d => d.parameters.length) = some 3 := by decide +kernel
def sp_X2_checkRange (ids : Nat → ClassId) : lm_S := fun As n L post postX => ∃ z a b, As = [.int z, .int a, .int b] ∧ ((z < a ∨ ¬ z ≤ b) → postX lm_iae n L) ∧ (¬ z < a → z ≤ b → post none n L)
def th_X2_checkRange : Nat → Option String := fun j => match j with
  | 10 => some lm_iae
  | _ => none
set_option maxHeartbeats 4000000 in
set_option maxRecDepth 20000 in
theorem ok_X2_checkRange (l : Launch) (D : va_G) (ids : Nat → ClassId) (B b : Nat) (hlt : l.stackTraces = false) : lm_M l D (lm_ty ids) B b false yX2_checkRange cX2_checkRange 3 none rm_X2_checkRange 1 6 (sp_X2_checkRange ids) := by
  refine lm_method (own := RX2) (fld := lf_2) (cv := (fun _ => none)) (cs := (fun _ => none)) (ci := (fun _ => none)) (kon := (fun _ => none)) (thr := th_X2_checkRange) (nw := (fun _ => none)) (ini := false) (cp := none) (alc := false) (by decide +kernel) rfl rfl rfl (lf_2_ok _) ⟨?_, ?_⟩ ?_ (fun h => by cases h) (lm_aok0 _ _ _ _ _ _ _ _) ?_ ?_
  · intro j f hf
    cases hf
  · intro j f hf
    cases hf
  · intro j v hv; cases hv
  · refine Or.inr ⟨rfl, rfl, hlt, by decide, by decide, ?_⟩
    intro pc en he
    unfold th_X2_checkRange at he
    split at he
    · cases he; exact ⟨143, 175, 147, "out of range", lx_iae, by decide, dX2_checkRange_10, dX2_checkRange_13, dX2_checkRange_14, dX2_checkRange_16, dX2_checkRange_19⟩
    · cases he
  rintro As n L post postX ⟨z, a, b, rfl, hpx, hp⟩
  refine ⟨by simp [Value.category], (Nat.le_of_ble_eq_true rfl), lm_cl_of ?_⟩
  intro G hG
  refine lg_iload_n hG dX2_checkRange_0 rfl ?_
  refine lg_iload_n hG dX2_checkRange_1 rfl ?_
  refine lg_icmp_lt hG dX2_checkRange_2 (tgt := 10) (by decide) (by decide) (fun h_2 => ?_) (fun h_2 => ?_)
  · skip
    have hpx := hpx (Or.inl h_2)
    refine lg_throw hG dX2_checkRange_10 rfl (Nat.le_of_ble_eq_true rfl) (Nat.le_of_ble_eq_true rfl) ?_
    exact hpx
  · skip
    refine lg_iload_n hG dX2_checkRange_5 rfl ?_
    refine lg_iload_n hG dX2_checkRange_6 rfl ?_
    refine lg_icmp_le hG dX2_checkRange_7 (tgt := 20) (by decide) (by decide) (fun h_7 => ?_) (fun h_7 => ?_)
    · skip
      have hp := hp h_2 h_7
      refine lg_vret hG dX2_checkRange_20 (Nat.le_of_ble_eq_true rfl) (Nat.le_of_ble_eq_true rfl) ?_
      exact ⟨trivial, hp⟩
    · skip
      have hpx := hpx (Or.inr h_7)
      refine lg_throw hG dX2_checkRange_10 rfl (Nat.le_of_ble_eq_true rfl) (Nat.le_of_ble_eq_true rfl) ?_
      exact hpx

def rm_X2_keptCells : Room := { frames := 0, cells := 0, slots := 0, locals := 0 }
theorem ld_X2_keptCells : yX2_keptCells.cls ≠ "java/lang/invoke/MethodHandle" ∧ yX2_keptCells.cls ≠ "java/lang/invoke/VarHandle" ∧ (parseMethodDescriptor yX2_keptCells.desc).map (fun d => d.parameters.length) = some 0 := by decide +kernel
def sp_X2_keptCells (ids : Nat → ClassId) : lm_S := fun As n L post postX => ∃ Q R g L0, CW ids n Q R g L0 L ∧ As = [.ref 0] ∧ post (some (.int (nI (sumN (fun q => qp (Q q)) 12)))) n L
set_option maxHeartbeats 4000000 in
set_option maxRecDepth 20000 in
theorem ok_X2_keptCells (l : Launch) (D : va_G) (ids : Nat → ClassId) (B b : Nat) : lm_M l D (lm_ty ids) B b false yX2_keptCells cX2_keptCells 6 (some .int) rm_X2_keptCells 0 0 (sp_X2_keptCells ids) := by
  refine lm_method (own := RX2) (fld := lf_2) (cv := (fun _ => none)) (cs := (fun _ => none)) (ci := (fun _ => none)) (kon := (fun _ => none)) (thr := (fun _ => none)) (nw := (fun _ => none)) (ini := false) (cp := none) (alc := false) (by decide +kernel) rfl rfl rfl (lf_2_ok _) ⟨?_, ?_⟩ ?_ (fun h => by cases h) (lm_aok0 _ _ _ _ _ _ _ _) ?_ ?_
  · intro j f hf
    cases hf
  · intro j f hf
    cases hf
  · intro j v hv; cases hv
  · exact Or.inl fun _ => rfl
  rintro As n L post postX ⟨Q, R, g, L0, hC, rfl, hp⟩
  refine ⟨by simp [Value.category], (Nat.le_of_ble_eq_true rfl), lm_cl_of ?_⟩
  intro G hG
  have loop : ∀ (m k : Nat), k ≤ 12 → 12 - k < m → ∀ z, G 13 [some (.ref 0), some (.int (nI (sumN (fun q => qp (Q q)) k))), some (.ref 1), some (.int (nI 12)), some (.int (nI k)), z] [] n L 0 0 := by
    intro m
    induction m with
    | zero => intro k h1 h2; omega
    | succ m ih =>
      intro k hk hkm z
      refine lg_iload hG dX2_keptCells_13 rfl ?_
      refine lg_iload_n hG dX2_keptCells_15 rfl ?_
      refine lg_icmp_ge hG dX2_keptCells_16 (tgt := 39) (by decide) (by decide) (fun h_16 => ?_) (fun h_16 => ?_)
      · skip
        have hkl : k = 12 := by
          rcases Nat.lt_or_ge k 12 with h | h
          · exact absurd (nI_lt h (by omega)) h_16
          · omega
        subst hkl
        refine lg_iload_n hG dX2_keptCells_39 rfl ?_
        refine lg_iret hG dX2_keptCells_40 (Nat.le_of_ble_eq_true rfl) (Nat.le_of_ble_eq_true rfl) ?_
        exact ⟨trivial, hp⟩
      · skip
        have hkl : k < 12 := (nI_ltI (by omega) (by omega)).mp h_16
        refine lg_aload_n hG dX2_keptCells_19 rfl ?_
        refine lg_iload hG dX2_keptCells_20 rfl ?_
        first | refine cg_aq hG hC dX2_keptCells_22 rfl (by first | assumption | omega) ?_ | refine cg_ar hG hC dX2_keptCells_22 rfl (by first | assumption | omega) ?_
        refine lg_astore hG dX2_keptCells_23 (Nat.le_of_ble_eq_true rfl) rfl ?_
        refine lg_iload_n hG dX2_keptCells_25 rfl ?_
        refine lg_aload hG dX2_keptCells_26 rfl ?_
        refine cg_get hG hC dX2_keptCells_28 rfl (by first | assumption | omega) rfl rfl ?_
        refine lg_iadd hG dX2_keptCells_31 (show nI (sumN (fun q => qp (Q q)) k) + nI (qp (Q k)) = nI (sumN (fun q => qp (Q q)) (k + 1)) from nI_add _ _) ?_
        refine lg_istore_n hG dX2_keptCells_32 (Nat.le_of_ble_eq_true rfl) rfl ?_
        refine lg_iinc hG dX2_keptCells_33 (Nat.le_of_ble_eq_true rfl) rfl rfl rfl ?_
        refine lg_goto hG dX2_keptCells_36 (tgt := 13) (by decide) (by decide) ?_
        rw [show nI k + Int32.ofInt 1 = nI (k + 1) from nI_1 k]
        exact ih (k + 1) (by omega) (by omega) _
  refine lg_iconst hG dX2_keptCells_0 (x := 0) (by decide) ?_
  refine lg_istore_n hG dX2_keptCells_1 (Nat.le_of_ble_eq_true rfl) rfl ?_
  refine lg_aload_n hG dX2_keptCells_2 rfl ?_
  refine cg_getg hG hC dX2_keptCells_3 rfl rfl ?_
  refine lg_astore_n hG dX2_keptCells_6 (Nat.le_of_ble_eq_true rfl) rfl ?_
  refine lg_aload_n hG dX2_keptCells_7 rfl ?_
  first | refine cg_lenq hG hC dX2_keptCells_8 rfl ?_ | refine cg_lenr hG hC dX2_keptCells_8 rfl ?_
  refine lg_istore_n hG dX2_keptCells_9 (Nat.le_of_ble_eq_true rfl) rfl ?_
  refine lg_iconst hG dX2_keptCells_10 (x := 0) (by decide) ?_
  refine lg_istore hG dX2_keptCells_11 (Nat.le_of_ble_eq_true rfl) rfl ?_
  exact loop 13 0 (by omega) (by omega) _

def rm_X2_freeCells : Room := { frames := 0, cells := 0, slots := 0, locals := 0 }
theorem ld_X2_freeCells : yX2_freeCells.cls ≠ "java/lang/invoke/MethodHandle" ∧ yX2_freeCells.cls ≠ "java/lang/invoke/VarHandle" ∧ (parseMethodDescriptor yX2_freeCells.desc).map (fun d => d.parameters.length) = some 0 := by decide +kernel
def sp_X2_freeCells (ids : Nat → ClassId) : lm_S := fun As n L post postX => ∃ Q R g L0, CW ids n Q R g L0 L ∧ As = [.ref 0] ∧ post (some (.int (iI (fre Q)))) n L
set_option maxHeartbeats 4000000 in
set_option maxRecDepth 20000 in
theorem ok_X2_freeCells (l : Launch) (D : va_G) (ids : Nat → ClassId) (B b : Nat) : lm_M l D (lm_ty ids) B b false yX2_freeCells cX2_freeCells 6 (some .int) rm_X2_freeCells 0 0 (sp_X2_freeCells ids) := by
  refine lm_method (own := RX2) (fld := lf_2) (cv := (fun _ => none)) (cs := (fun _ => none)) (ci := (fun _ => none)) (kon := (fun _ => none)) (thr := (fun _ => none)) (nw := (fun _ => none)) (ini := false) (cp := none) (alc := false) (by decide +kernel) rfl rfl rfl (lf_2_ok _) ⟨?_, ?_⟩ ?_ (fun h => by cases h) (lm_aok0 _ _ _ _ _ _ _ _) ?_ ?_
  · intro j f hf
    cases hf
  · intro j f hf
    cases hf
  · intro j v hv; cases hv
  · exact Or.inl fun _ => rfl
  rintro As n L post postX ⟨Q, R, g, L0, hC, rfl, hp⟩
  refine ⟨by simp [Value.category], (Nat.le_of_ble_eq_true rfl), lm_cl_of ?_⟩
  intro G hG
  have loop : ∀ (m k : Nat), k ≤ 12 → 12 - k < m → ∀ z, G 14 [some (.ref 0), some (.int (iI (96 - (sumN (fun q => (qI (Q q)).length) k : Nat)))), some (.ref 1), some (.int (nI 12)), some (.int (nI k)), z] [] n L 0 0 := by
    intro m
    induction m with
    | zero => intro k h1 h2; omega
    | succ m ih =>
      intro k hk hkm z
      refine lg_iload hG dX2_freeCells_14 rfl ?_
      refine lg_iload_n hG dX2_freeCells_16 rfl ?_
      refine lg_icmp_ge hG dX2_freeCells_17 (tgt := 40) (by decide) (by decide) (fun h_17 => ?_) (fun h_17 => ?_)
      · skip
        have hkl : k = 12 := by
          rcases Nat.lt_or_ge k 12 with h | h
          · exact absurd (nI_lt h (by omega)) h_17
          · omega
        subst hkl
        refine lg_iload_n hG dX2_freeCells_40 rfl ?_
        refine lg_iret hG dX2_freeCells_41 (Nat.le_of_ble_eq_true rfl) (Nat.le_of_ble_eq_true rfl) ?_
        exact ⟨trivial, hp⟩
      · skip
        have hkl : k < 12 := (nI_ltI (by omega) (by omega)).mp h_17
        refine lg_aload_n hG dX2_freeCells_20 rfl ?_
        refine lg_iload hG dX2_freeCells_21 rfl ?_
        first | refine cg_aq hG hC dX2_freeCells_23 rfl (by first | assumption | omega) ?_ | refine cg_ar hG hC dX2_freeCells_23 rfl (by first | assumption | omega) ?_
        refine lg_astore hG dX2_freeCells_24 (Nat.le_of_ble_eq_true rfl) rfl ?_
        refine lg_iload_n hG dX2_freeCells_26 rfl ?_
        refine lg_aload hG dX2_freeCells_27 rfl ?_
        refine cg_get hG hC dX2_freeCells_29 rfl (by first | assumption | omega) rfl rfl ?_
        refine lg_isub hG dX2_freeCells_32 (show iI (96 - (sumN (fun q => (qI (Q q)).length) k : Nat)) - nI (qI (Q k)).length = iI (96 - (sumN (fun q => (qI (Q q)).length) (k + 1) : Nat)) by rw [iI_n, iI_sub]; congr 1; simp only [sumN]; omega) ?_
        refine lg_istore_n hG dX2_freeCells_33 (Nat.le_of_ble_eq_true rfl) rfl ?_
        refine lg_iinc hG dX2_freeCells_34 (Nat.le_of_ble_eq_true rfl) rfl rfl rfl ?_
        refine lg_goto hG dX2_freeCells_37 (tgt := 14) (by decide) (by decide) ?_
        rw [show nI k + Int32.ofInt 1 = nI (k + 1) from nI_1 k]
        exact ih (k + 1) (by omega) (by omega) _
  refine lg_bipush hG dX2_freeCells_0 (x := (96)) (by decide) ?_
  refine lg_istore_n hG dX2_freeCells_2 (Nat.le_of_ble_eq_true rfl) rfl ?_
  refine lg_aload_n hG dX2_freeCells_3 rfl ?_
  refine cg_getg hG hC dX2_freeCells_4 rfl rfl ?_
  refine lg_astore_n hG dX2_freeCells_7 (Nat.le_of_ble_eq_true rfl) rfl ?_
  refine lg_aload_n hG dX2_freeCells_8 rfl ?_
  first | refine cg_lenq hG hC dX2_freeCells_9 rfl ?_ | refine cg_lenr hG hC dX2_freeCells_9 rfl ?_
  refine lg_istore_n hG dX2_freeCells_10 (Nat.le_of_ble_eq_true rfl) rfl ?_
  refine lg_iconst hG dX2_freeCells_11 (x := 0) (by decide) ?_
  refine lg_istore hG dX2_freeCells_12 (Nat.le_of_ble_eq_true rfl) rfl ?_
  exact loop 13 0 (by omega) (by omega) _

def rm_J9_min : Room := { frames := 0, cells := 0, slots := 0, locals := 0 }
theorem ld_J9_min : yJ9_min_7cf53.cls ≠ "java/lang/invoke/MethodHandle" ∧ yJ9_min_7cf53.cls ≠ "java/lang/invoke/VarHandle" ∧ (parseMethodDescriptor yJ9_min_7cf53.desc).map (fun d => d.parameters.length) = some 2 := by decide +kernel
def sp_J9_min (ids : Nat → ClassId) : lm_S := fun As n L post _ => ∃ x y, As = [.int x, .int y] ∧ post (some (.int (if x ≤ y then x else y))) n L
set_option maxHeartbeats 4000000 in
set_option maxRecDepth 20000 in
theorem ok_J9_min (l : Launch) (D : va_G) (ids : Nat → ClassId) (B b : Nat) : lm_M l D (lm_ty ids) B b false yJ9_min_7cf53 cJ9_min_7cf53 2 (some .int) rm_J9_min 0 0 (sp_J9_min ids) := by
  refine lm_method (own := RJ9) (fld := (fun _ => none)) (cv := (fun _ => none)) (cs := (fun _ => none)) (ci := (fun _ => none)) (kon := (fun _ => none)) (thr := (fun _ => none)) (nw := (fun _ => none)) (ini := false) (cp := none) (alc := false) (by decide +kernel) rfl rfl rfl (fun _ _ _ _ _ _ _ _ _ h => by cases h) ⟨?_, ?_⟩ ?_ (fun h => by cases h) (lm_aok0 _ _ _ _ _ _ _ _) ?_ ?_
  · intro j f hf
    cases hf
  · intro j f hf
    cases hf
  · intro j v hv; cases hv
  · exact Or.inl fun _ => rfl
  rintro As n L post postX ⟨x, y, rfl, hp⟩
  refine ⟨by simp [Value.category], (Nat.le_of_ble_eq_true rfl), lm_cl_of ?_⟩
  intro G hG
  refine lg_iload_n hG dJ9_min_7cf53_0 rfl ?_
  refine lg_iload_n hG dJ9_min_7cf53_1 rfl ?_
  refine lg_icmp_gt hG dJ9_min_7cf53_2 (tgt := 9) (by decide) (by decide) (fun h_2 => ?_) (fun h_2 => ?_)
  · skip
    rw [if_neg h_2] at hp
    refine lg_iload_n hG dJ9_min_7cf53_9 rfl ?_
    refine lg_iret hG dJ9_min_7cf53_10 (Nat.le_of_ble_eq_true rfl) (Nat.le_of_ble_eq_true rfl) ?_
    exact ⟨trivial, hp⟩
  · skip
    rw [if_pos h_2] at hp
    refine lg_iload_n hG dJ9_min_7cf53_5 rfl ?_
    refine lg_goto hG dJ9_min_7cf53_6 (tgt := 10) (by decide) (by decide) ?_
    refine lg_iret hG dJ9_min_7cf53_10 (Nat.le_of_ble_eq_true rfl) (Nat.le_of_ble_eq_true rfl) ?_
    exact ⟨trivial, hp⟩

theorem op_min {z : Int} (h1 : -96 ≤ z) (h2 : z ≤ 96) : (if iI z ≤ iI 0 then iI z else iI 0) = iI (min z 0) := by
  by_cases h : z ≤ 0
  · rw [if_pos ((iI_le (by omega) (by omega) (by omega) (by omega)).mpr h), show min z 0 = z by omega]
  · rw [if_neg (fun h9 => h ((iI_le (by omega) (by omega) (by omega) (by omega)).mp h9)), show min z 0 = 0 by omega]
def rm_X2_openCells : Room := { frames := 1, cells := 0, slots := 0, locals := 25 }
theorem ld_X2_openCells : yX2_openCells.cls ≠ "java/lang/invoke/MethodHandle" ∧ yX2_openCells.cls ≠ "java/lang/invoke/VarHandle" ∧ (parseMethodDescriptor yX2_openCells.desc).map (fun d => d.parameters.length) = some 0 := by decide +kernel
def sp_X2_openCells (ids : Nat → ClassId) : lm_S := fun As n L post postX => ∃ Q R g L0, CW ids n Q R g L0 L ∧ As = [.ref 0] ∧ KP Q ∧ post (some (.int (iI (opn Q 12)))) n L
def cv_X2_openCells (ids : Nat → ClassId) : Nat → Option lm_C := fun j => match j with
  | 69 => some (1, 0, sp_X0_excess ids, 0, 0)
  | 161 => some (1, 2, sp_X2_freeCells ids, 0, 0)
  | _ => none
def cs_X2_openCells (ids : Nat → ClassId) : Nat → Option lm_C := fun j => match j with
  | 177 => some (2, 0, sp_J9_min ids, 0, 0)
  | _ => none
set_option maxHeartbeats 4000000 in
set_option maxRecDepth 20000 in
theorem ok_X2_openCells (l : Launch) (D : va_G) (ids : Nat → ClassId) (B b : Nat) : lm_M l D (lm_ty ids) B b false yX2_openCells cX2_openCells 6 (some .int) rm_X2_openCells 0 0 (sp_X2_openCells ids) := by
  refine lm_method (own := RX2) (fld := lf_2) (cv := (cv_X2_openCells ids)) (cs := (cs_X2_openCells ids)) (ci := (fun _ => none)) (kon := (fun _ => none)) (thr := (fun _ => none)) (nw := (fun _ => none)) (ini := false) (cp := none) (alc := false) (by decide +kernel) rfl rfl rfl (lf_2_ok _) ⟨?_, ?_⟩ ?_ (fun h => by cases h) (lm_aok0 _ _ _ _ _ _ _ _) ?_ ?_
  · intro j f hf
    unfold cv_X2_openCells at hf
    split at hf
    · cases hf; exact ⟨yX0_excess, cX0_excess, 1, (some .int), rm_X0_excess, RX0, TX0, 15, 0, rfl, rfl, ok_X0_excess l D ids B b, lw_0_excess, ll_2_69, rfl, rfl, ⟨rfl, ld_X0_excess⟩, by decide⟩
    · cases hf; exact ⟨yX2_freeCells, cX2_freeCells, 6, (some .int), rm_X2_freeCells, RX2, TX2, 7, 0, rfl, rfl, ok_X2_freeCells l D ids B b, lw_2_freeCells, ll_2_161, rfl, rfl, ⟨rfl, ld_X2_freeCells⟩, by decide⟩
    · cases hf
  · intro j f hf
    unfold cs_X2_openCells at hf
    split at hf
    · cases hf; exact ⟨yJ9_min_7cf53, cJ9_min_7cf53, 2, (some .int), rm_J9_min, ok_J9_min l D ids B b, lw_9_min, ll_2_177, rfl, rfl, ld_J9_min, by decide⟩
    · cases hf
  · intro j v hv; cases hv
  · exact Or.inl fun _ => rfl
  rintro As n L post postX ⟨Q, R, g, L0, hC, rfl, hK, hp⟩
  refine ⟨by simp [Value.category], (Nat.le_of_ble_eq_true rfl), lm_cl_of ?_⟩
  intro G hG
  have loop : ∀ (m k : Nat), k ≤ 12 → 12 - k < m → ∀ z, G 16 [some (.ref 0), some (.int (iI (opn Q k))), some (.ref 1), some (.int (nI 12)), some (.int (nI k)), z] [] n L 0 0 := by
    intro m
    induction m with
    | zero => intro k h1 h2; omega
    | succ m ih =>
      intro k hk hkm z
      refine lg_iload hG dX2_openCells_16 rfl ?_
      refine lg_iload_n hG dX2_openCells_18 rfl ?_
      refine lg_icmp_ge hG dX2_openCells_19 (tgt := 46) (by decide) (by decide) (fun h_19 => ?_) (fun h_19 => ?_)
      · skip
        have hkl : k = 12 := by
          rcases Nat.lt_or_ge k 12 with h | h
          · exact absurd (nI_lt h (by omega)) h_19
          · omega
        subst hkl
        refine lg_iload_n hG dX2_openCells_46 rfl ?_
        refine lg_iret hG dX2_openCells_47 (Nat.le_of_ble_eq_true rfl) (Nat.le_of_ble_eq_true rfl) ?_
        exact ⟨trivial, hp⟩
      · skip
        have hkl : k < 12 := (nI_ltI (by omega) (by omega)).mp h_19
        refine lg_aload_n hG dX2_openCells_22 rfl ?_
        refine lg_iload hG dX2_openCells_23 rfl ?_
        first | refine cg_aq hG hC dX2_openCells_25 rfl (by first | assumption | omega) ?_ | refine cg_ar hG hC dX2_openCells_25 rfl (by first | assumption | omega) ?_
        refine lg_astore hG dX2_openCells_26 (Nat.le_of_ble_eq_true rfl) rfl ?_
        refine lg_iload_n hG dX2_openCells_28 rfl ?_
        refine lg_aload hG dX2_openCells_29 rfl ?_
        refine cg_callQ hG hC dX2_openCells_31 rfl (fun P h => h) (by first | assumption | omega) (Nat.le_of_ble_eq_true rfl) (Nat.le_of_ble_eq_true rfl) (Nat.le_of_ble_eq_true rfl) ?_
        refine cq_excess hC (by assumption) ?_
        refine lg_iconst hG dX2_openCells_34 (x := 0) (by decide) ?_
        refine lg_callS hG dX2_openCells_35 (by simp) rfl (fun P h => h) (Nat.le_of_ble_eq_true rfl) (Nat.le_of_ble_eq_true rfl) (Nat.le_of_ble_eq_true rfl) ?_
        refine ⟨_, _, rfl, ?_⟩
        have he := hC.bexc hK hkl
        rw [show ((0 : Int32)) = iI 0 from rfl, op_min (by omega) (by omega)]
        refine lg_iadd hG dX2_openCells_38 (show iI (opn Q k) + iI (min (exc Q k) 0) = iI (opn Q (k + 1)) by rw [iI_add]; congr 1; unfold opn; simp only [sumZ]; omega) ?_
        refine lg_istore_n hG dX2_openCells_39 (Nat.le_of_ble_eq_true rfl) rfl ?_
        refine lg_iinc hG dX2_openCells_40 (Nat.le_of_ble_eq_true rfl) rfl rfl rfl ?_
        refine lg_goto hG dX2_openCells_43 (tgt := 16) (by decide) (by decide) ?_
        rw [show nI k + Int32.ofInt 1 = nI (k + 1) from nI_1 k]
        exact ih (k + 1) (by omega) (by omega) _
  refine lg_aload_n hG dX2_openCells_0 rfl ?_
  refine cg_callO hG hC dX2_openCells_1 rfl (fun P h => h) (Nat.le_of_ble_eq_true rfl) (Nat.le_of_ble_eq_true rfl) (Nat.le_of_ble_eq_true rfl) ?_
  refine ⟨Q, R, g, L0, hC, rfl, ?_⟩
  refine lg_istore_n hG dX2_openCells_4 (Nat.le_of_ble_eq_true rfl) rfl ?_
  refine lg_aload_n hG dX2_openCells_5 rfl ?_
  refine cg_getg hG hC dX2_openCells_6 rfl rfl ?_
  refine lg_astore_n hG dX2_openCells_9 (Nat.le_of_ble_eq_true rfl) rfl ?_
  refine lg_aload_n hG dX2_openCells_10 rfl ?_
  first | refine cg_lenq hG hC dX2_openCells_11 rfl ?_ | refine cg_lenr hG hC dX2_openCells_11 rfl ?_
  refine lg_istore_n hG dX2_openCells_12 (Nat.le_of_ble_eq_true rfl) rfl ?_
  refine lg_iconst hG dX2_openCells_13 (x := 0) (by decide) ?_
  refine lg_istore hG dX2_openCells_14 (Nat.le_of_ble_eq_true rfl) rfl ?_
  have h0 := loop 13 0 (by omega) (by omega)
  rw [show opn Q 0 = fre Q by unfold opn sumZ; omega] at h0
  exact h0 _

def rm_X2_hasRoomFor : Room := { frames := 2, cells := 0, slots := 0, locals := 50 }
theorem ld_X2_hasRoomFor : yX2_hasRoomFor.cls ≠ "java/lang/invoke/MethodHandle" ∧ yX2_hasRoomFor.cls ≠ "java/lang/invoke/VarHandle" ∧ (parseMethodDescriptor yX2_hasRoomFor.desc).map (fun d => d.parameters.length) = some 1 := by decide +kernel
def sp_X2_hasRoomFor (ids : Nat → ClassId) : lm_S := fun As n L post postX => ∃ Q R g L0 q, CW ids n Q R g L0 L ∧ As = [.ref 0, .ref (3 + 3 * q)] ∧ q < 12 ∧ KP Q ∧ post (some (.int (bI (room Q q)))) n L
def cv_X2_hasRoomFor (ids : Nat → ClassId) : Nat → Option lm_C := fun j => match j with
  | 69 => some (1, 0, sp_X0_excess ids, 0, 0)
  | 161 => some (1, 2, sp_X2_freeCells ids, 0, 0)
  | 164 => some (1, 2, sp_X2_openCells ids, 0, 0)
  | _ => none
set_option maxHeartbeats 4000000 in
set_option maxRecDepth 20000 in
theorem ok_X2_hasRoomFor (l : Launch) (D : va_G) (ids : Nat → ClassId) (B b : Nat) : lm_M l D (lm_ty ids) B b false yX2_hasRoomFor cX2_hasRoomFor 2 (some .boolean) rm_X2_hasRoomFor 0 0 (sp_X2_hasRoomFor ids) := by
  refine lm_method (own := RX2) (fld := lf_2) (cv := (cv_X2_hasRoomFor ids)) (cs := (fun _ => none)) (ci := (fun _ => none)) (kon := (fun _ => none)) (thr := (fun _ => none)) (nw := (fun _ => none)) (ini := false) (cp := none) (alc := false) (by decide +kernel) rfl rfl rfl (lf_2_ok _) ⟨?_, ?_⟩ ?_ (fun h => by cases h) (lm_aok0 _ _ _ _ _ _ _ _) ?_ ?_
  · intro j f hf
    unfold cv_X2_hasRoomFor at hf
    split at hf
    · cases hf; exact ⟨yX0_excess, cX0_excess, 1, (some .int), rm_X0_excess, RX0, TX0, 15, 0, rfl, rfl, ok_X0_excess l D ids B b, lw_0_excess, ll_2_69, rfl, rfl, ⟨rfl, ld_X0_excess⟩, by decide⟩
    · cases hf; exact ⟨yX2_freeCells, cX2_freeCells, 6, (some .int), rm_X2_freeCells, RX2, TX2, 7, 0, rfl, rfl, ok_X2_freeCells l D ids B b, lw_2_freeCells, ll_2_161, rfl, rfl, ⟨rfl, ld_X2_freeCells⟩, by decide⟩
    · cases hf; exact ⟨yX2_openCells, cX2_openCells, 6, (some .int), rm_X2_openCells, RX2, TX2, 7, 0, rfl, rfl, ok_X2_openCells l D ids B b, lw_2_openCells, ll_2_164, rfl, rfl, ⟨rfl, ld_X2_openCells⟩, by decide⟩
    · cases hf
  · intro j f hf
    cases hf
  · intro j v hv; cases hv
  · exact Or.inl fun _ => rfl
  rintro As n L post postX ⟨Q, R, g, L0, q, hC, rfl, hq, hK, hp⟩
  refine ⟨by simp [Value.category], (Nat.le_of_ble_eq_true rfl), lm_cl_of ?_⟩
  intro G hG
  have hf := hC.bfre
  have he := hC.bexc hK hq
  have ho := hC.bopn hK (k := 12) (by omega)
  have hb : ∀ (x : Bool), room Q q = x → lm_rt (some .boolean) (some (.int (bI x))) ∧ post (some (.int (bI x))) n L := by
    intro x hx
    rw [hx] at hp
    exact ⟨by cases x; exact Or.inl rfl; exact Or.inr rfl, hp⟩
  refine lg_aload_n hG dX2_hasRoomFor_0 rfl ?_
  refine cg_callO hG hC dX2_hasRoomFor_1 rfl (fun P h => h) (Nat.le_of_ble_eq_true rfl) (Nat.le_of_ble_eq_true rfl) (Nat.le_of_ble_eq_true rfl) ?_
  refine ⟨Q, R, g, L0, hC, rfl, ?_⟩
  refine lg_if_le hG dX2_hasRoomFor_4 (tgt := 25) (by decide) (by decide) (fun h_4 => ?_) (fun h_4 => ?_)
  · skip
    have e1 : ¬ 0 < fre Q := by
      have := (iI_le (b := 0) (by omega) (by omega) (by omega) (by omega)).mp h_4
      omega
    refine lg_iconst hG dX2_hasRoomFor_25 (x := 0) (by decide) ?_
    refine lg_iret hG dX2_hasRoomFor_26 (Nat.le_of_ble_eq_true rfl) (Nat.le_of_ble_eq_true rfl) ?_
    first | exact hb true (by simp [room, *]) | exact hb false (by simp [room, *])
  · skip
    have e1 : 0 < fre Q := by
      rcases Int.lt_or_le 0 (fre Q) with h | h
      · exact h
      · exact absurd ((iI_le (b := 0) (by omega) (by omega) (by omega) (by omega)).mpr h) h_4
    refine lg_aload_n hG dX2_hasRoomFor_7 rfl ?_
    refine cg_callQ hG hC dX2_hasRoomFor_8 rfl (fun P h => h) (by first | assumption | omega) (Nat.le_of_ble_eq_true rfl) (Nat.le_of_ble_eq_true rfl) (Nat.le_of_ble_eq_true rfl) ?_
    refine cq_excess hC hq ?_
    refine lg_if_lt hG dX2_hasRoomFor_11 (tgt := 21) (by decide) (by decide) (fun h_11 => ?_) (fun h_11 => ?_)
    · skip
      have e2 : exc Q q < 0 := (iI_lt (b := 0) (by omega) (by omega) (by omega) (by omega)).mp h_11
      refine lg_iconst hG dX2_hasRoomFor_21 (x := 1) (by decide) ?_
      refine lg_goto hG dX2_hasRoomFor_22 (tgt := 26) (by decide) (by decide) ?_
      refine lg_iret hG dX2_hasRoomFor_26 (Nat.le_of_ble_eq_true rfl) (Nat.le_of_ble_eq_true rfl) ?_
      first | exact hb true (by simp [room, *]) | exact hb false (by simp [room, *])
    · skip
      have e2 : ¬ exc Q q < 0 := fun h => h_11 ((iI_lt (b := 0) (by omega) (by omega) (by omega) (by omega)).mpr h)
      refine lg_aload_n hG dX2_hasRoomFor_14 rfl ?_
      refine cg_callO hG hC dX2_hasRoomFor_15 rfl (fun P h => h) (Nat.le_of_ble_eq_true rfl) (Nat.le_of_ble_eq_true rfl) (Nat.le_of_ble_eq_true rfl) ?_
      refine ⟨Q, R, g, L0, hC, rfl, hK, ?_⟩
      refine lg_if_le hG dX2_hasRoomFor_18 (tgt := 25) (by decide) (by decide) (fun h_18 => ?_) (fun h_18 => ?_)
      · skip
        have e3 : ¬ 0 < opn Q 12 := by
          have := (iI_le (b := 0) (by omega) (by omega) (by omega) (by omega)).mp h_18
          omega
        refine lg_iconst hG dX2_hasRoomFor_25 (x := 0) (by decide) ?_
        refine lg_iret hG dX2_hasRoomFor_26 (Nat.le_of_ble_eq_true rfl) (Nat.le_of_ble_eq_true rfl) ?_
        first | exact hb true (by simp [room, *]) | exact hb false (by simp [room, *])
      · skip
        have e3 : 0 < opn Q 12 := by
          rcases Int.lt_or_le 0 (opn Q 12) with h | h
          · exact h
          · exact absurd ((iI_le (b := 0) (by omega) (by omega) (by omega) (by omega)).mpr h) h_18
        refine lg_iconst hG dX2_hasRoomFor_21 (x := 1) (by decide) ?_
        refine lg_goto hG dX2_hasRoomFor_22 (tgt := 26) (by decide) (by decide) ?_
        refine lg_iret hG dX2_hasRoomFor_26 (Nat.le_of_ble_eq_true rfl) (Nat.le_of_ble_eq_true rfl) ?_
        first | exact hb true (by simp [room, *]) | exact hb false (by simp [room, *])

def rm_X2_queueOfGreatestExcess : Room := { frames := 1, cells := 0, slots := 0, locals := 20 }
theorem ld_X2_queueOfGreatestExcess : yX2_queueOfGreatestExcess.cls ≠ "java/lang/invoke/MethodHandle" ∧ yX2_queueOfGreatestExcess.cls ≠ "java/lang/invoke/VarHandle" ∧ (parseMethodDescriptor yX2_queueOfGreatestExcess.desc).map (fun d => d.parameters.length) = some 0 := by decide +kernel
def sp_X2_queueOfGreatestExcess (ids : Nat → ClassId) : lm_S := fun As n L post postX => ∃ Q R g L0, CW ids n Q R g L0 L ∧ As = [.ref 0] ∧ KP Q ∧ post (some (.int (nI (grd Q 11)))) n L
def cv_X2_queueOfGreatestExcess (ids : Nat → ClassId) : Nat → Option lm_C := fun j => match j with
  | 69 => some (1, 0, sp_X0_excess ids, 0, 0)
  | _ => none
set_option maxHeartbeats 4000000 in
set_option maxRecDepth 20000 in
theorem ok_X2_queueOfGreatestExcess (l : Launch) (D : va_G) (ids : Nat → ClassId) (B b : Nat) : lm_M l D (lm_ty ids) B b false yX2_queueOfGreatestExcess cX2_queueOfGreatestExcess 3 (some .int) rm_X2_queueOfGreatestExcess 0 0 (sp_X2_queueOfGreatestExcess ids) := by
  refine lm_method (own := RX2) (fld := lf_2) (cv := (cv_X2_queueOfGreatestExcess ids)) (cs := (fun _ => none)) (ci := (fun _ => none)) (kon := (fun _ => none)) (thr := (fun _ => none)) (nw := (fun _ => none)) (ini := false) (cp := none) (alc := false) (by decide +kernel) rfl rfl rfl (lf_2_ok _) ⟨?_, ?_⟩ ?_ (fun h => by cases h) (lm_aok0 _ _ _ _ _ _ _ _) ?_ ?_
  · intro j f hf
    unfold cv_X2_queueOfGreatestExcess at hf
    split at hf
    · cases hf; exact ⟨yX0_excess, cX0_excess, 1, (some .int), rm_X0_excess, RX0, TX0, 15, 0, rfl, rfl, ok_X0_excess l D ids B b, lw_0_excess, ll_2_69, rfl, rfl, ⟨rfl, ld_X0_excess⟩, by decide⟩
    · cases hf
  · intro j f hf
    cases hf
  · intro j v hv; cases hv
  · exact Or.inl fun _ => rfl
  rintro As n L post postX ⟨Q, R, g, L0, hC, rfl, hK, hp⟩
  refine ⟨by simp [Value.category], (Nat.le_of_ble_eq_true rfl), lm_cl_of ?_⟩
  intro G hG
  have loop : ∀ (m k : Nat), k ≤ 11 → 11 - k < m → G 4 [some (.ref 0), some (.int (nI (grd Q k))), some (.int (nI (k + 1)))] [] n L 0 0 := by
    intro m
    induction m with
    | zero => intro k h1 h2; omega
    | succ m ih =>
      intro k hk hkm
      refine lg_iload_n hG dX2_queueOfGreatestExcess_4 rfl ?_
      refine lg_bipush hG dX2_queueOfGreatestExcess_5 (x := (12)) (by decide) ?_
      refine lg_icmp_ge hG dX2_queueOfGreatestExcess_7 (tgt := 39) (by decide) (by decide) (fun h_7 => ?_) (fun h_7 => ?_)
      · skip
        have hkl : k = 11 := by
          rcases Nat.lt_or_ge k 11 with h | h
          · exact absurd (nI_lt (b := 12) (by omega) (by omega)) h_7
          · omega
        subst hkl
        refine lg_iload_n hG dX2_queueOfGreatestExcess_39 rfl ?_
        refine lg_iret hG dX2_queueOfGreatestExcess_40 (Nat.le_of_ble_eq_true rfl) (Nat.le_of_ble_eq_true rfl) ?_
        exact ⟨trivial, hp⟩
      · skip
        have hkl : k + 1 < 12 := (nI_ltI (b := 12) (by omega) (by omega)).mp h_7
        have hg := grd_le Q k
        have hg12 : grd Q k < 12 := by omega
        have he1 := hC.bexc hK hkl
        have he2 := hC.bexc hK hg12
        refine lg_aload_n hG dX2_queueOfGreatestExcess_10 rfl ?_
        refine cg_getg hG hC dX2_queueOfGreatestExcess_11 rfl rfl ?_
        refine lg_iload_n hG dX2_queueOfGreatestExcess_14 rfl ?_
        first | refine cg_aq hG hC dX2_queueOfGreatestExcess_15 rfl (by first | assumption | omega) ?_ | refine cg_ar hG hC dX2_queueOfGreatestExcess_15 rfl (by first | assumption | omega) ?_
        refine cg_callQ hG hC dX2_queueOfGreatestExcess_16 rfl (fun P h => h) (by first | assumption | omega) (Nat.le_of_ble_eq_true rfl) (Nat.le_of_ble_eq_true rfl) (Nat.le_of_ble_eq_true rfl) ?_
        refine cq_excess hC (by assumption) ?_
        refine lg_aload_n hG dX2_queueOfGreatestExcess_19 rfl ?_
        refine cg_getg hG hC dX2_queueOfGreatestExcess_20 rfl rfl ?_
        refine lg_iload_n hG dX2_queueOfGreatestExcess_23 rfl ?_
        first | refine cg_aq hG hC dX2_queueOfGreatestExcess_24 rfl (by first | assumption | omega) ?_ | refine cg_ar hG hC dX2_queueOfGreatestExcess_24 rfl (by first | assumption | omega) ?_
        refine cg_callQ hG hC dX2_queueOfGreatestExcess_25 rfl (fun P h => h) (by first | assumption | omega) (Nat.le_of_ble_eq_true rfl) (Nat.le_of_ble_eq_true rfl) (Nat.le_of_ble_eq_true rfl) ?_
        refine cq_excess hC (by assumption) ?_
        refine lg_icmp_le hG dX2_queueOfGreatestExcess_28 (tgt := 33) (by decide) (by decide) (fun h_28 => ?_) (fun h_28 => ?_)
        · skip
          have e1 : ¬ exc Q (grd Q k) < exc Q (k + 1) := by
            have := (iI_le (a := exc Q (k + 1)) (b := exc Q (grd Q k)) (by omega) (by omega) (by omega) (by omega)).mp h_28
            omega
          have e2 : grd Q (k + 1) = grd Q k := by show (if _ then _ else _) = _; rw [if_neg e1]
          refine lg_iinc hG dX2_queueOfGreatestExcess_33 (Nat.le_of_ble_eq_true rfl) rfl rfl rfl ?_
          refine lg_goto hG dX2_queueOfGreatestExcess_36 (tgt := 4) (by decide) (by decide) ?_
          rw [show nI (k + 1) + Int32.ofInt 1 = nI (k + 1 + 1) from nI_1 _]
          have h9 := ih (k + 1) (by omega) (by omega)
          rw [e2] at h9
          exact h9
        · skip
          have e1 : exc Q (grd Q k) < exc Q (k + 1) := by
            rcases Int.lt_or_le (exc Q (grd Q k)) (exc Q (k + 1)) with h | h
            · exact h
            · exact absurd ((iI_le (a := exc Q (k + 1)) (b := exc Q (grd Q k)) (by omega) (by omega) (by omega) (by omega)).mpr h) h_28
          have e2 : grd Q (k + 1) = k + 1 := by show (if _ then _ else _) = _; rw [if_pos e1]
          refine lg_iload_n hG dX2_queueOfGreatestExcess_31 rfl ?_
          refine lg_istore_n hG dX2_queueOfGreatestExcess_32 (Nat.le_of_ble_eq_true rfl) rfl ?_
          refine lg_iinc hG dX2_queueOfGreatestExcess_33 (Nat.le_of_ble_eq_true rfl) rfl rfl rfl ?_
          refine lg_goto hG dX2_queueOfGreatestExcess_36 (tgt := 4) (by decide) (by decide) ?_
          rw [show nI (k + 1) + Int32.ofInt 1 = nI (k + 1 + 1) from nI_1 _]
          have h9 := ih (k + 1) (by omega) (by omega)
          rw [e2] at h9
          exact h9
  refine lg_iconst hG dX2_queueOfGreatestExcess_0 (x := 0) (by decide) ?_
  refine lg_istore_n hG dX2_queueOfGreatestExcess_1 (Nat.le_of_ble_eq_true rfl) rfl ?_
  refine lg_iconst hG dX2_queueOfGreatestExcess_2 (x := 1) (by decide) ?_
  refine lg_istore_n hG dX2_queueOfGreatestExcess_3 (Nat.le_of_ble_eq_true rfl) rfl ?_
  exact loop 12 0 (by omega) (by omega)

def Qi : Qs := ([], 0, 1, 96, 0, 0, false, 0, 0, 0, 0)
def zq0 : List Value := [.null, .null, .int 0, .int 0, .int 0, .int 0, .int 0, .int 0, .int 0, .int 0, .int 0, .int 0, .int 0, .int 0, .int 0]
def zq1 : List Value := [.null, .int 0]
def zq2 : List Value := [.null, .null, .int 0, .int 0, .int 0, .int 0, .int 0]

def ci_X0 (ids : Nat → ClassId) : Nat → Option lm_C := fun j => match j with
  | 3 => some (1, 0, (fun _ n L post _ => post none n L), 0, 0)
  | _ => none
def rm_X0_init : Room := { frames := 1, cells := 2, slots := 192, locals := 20 }
theorem ld_X0_init : yX0_init.cls ≠ "java/lang/invoke/MethodHandle" ∧ yX0_init.cls ≠ "java/lang/invoke/VarHandle" ∧ (parseMethodDescriptor yX0_init.desc).map (fun d => d.parameters.length) = some 0 := by decide +kernel
def sp_X0_init (ids : Nat → ClassId) : lm_S := fun As n L post _ => ∃ q : Nat, As = [.ref q] ∧ q < n ∧ L q = .inr (0, zq0) ∧ ∀ L1, (∀ k, k ≠ n → k ≠ n + 1 → k ≠ q → L1 k = L k) → L1 n = ia (ids 0) 96 (fun _ => 0) → L1 (n + 1) = ia (ids 0) 96 (fun _ => 0) → L1 q = qo n (n + 1) (qv 0 Qi) → post none (n + 2) L1
set_option maxHeartbeats 4000000 in
set_option maxRecDepth 20000 in
theorem ok_X0_init (l : Launch) (D : va_G) (ids : Nat → ClassId) (B b : Nat) : lm_M l D (lm_ty ids) B b true yX0_init cX0_init 1 none rm_X0_init 2 192 (sp_X0_init ids) := by
  refine lm_method (own := RX0) (fld := lf_0) (cv := (fun _ => none)) (cs := (fun _ => none)) (ci := (ci_X0 ids)) (kon := (fun _ => none)) (thr := (fun _ => none)) (nw := (fun _ => none)) (ini := true) (cp := none) (alc := true) (by decide +kernel) rfl rfl rfl (lf_0_ok _) ⟨?_, ?_⟩ ?_ (fun _ => rfl) ⟨(fun _ h => by cases h), (fun _ _ h => by cases h), (fun _ => ⟨rfl, lm_wt 112 rfl rfl, lm_wt 520 rfl rfl, lm_wt 629 rfl rfl⟩), (fun j f hf => by
    unfold ci_X0 at hf
    split at hf
    · cases hf; exact Or.inl ⟨rfl, rfl, lm_wt 58 rfl rfl, lm_wt 48 rfl rfl, lm_wt 49 rfl rfl, by decide, by decide⟩
    · cases hf)⟩ ?_ ?_
  · intro j f hf
    cases hf
  · intro j f hf
    cases hf
  · intro j v hv; cases hv
  · exact Or.inl fun _ => rfl
  rintro As n L post postX ⟨q, rfl, hq, hL, hp⟩
  refine ⟨by simp [Value.category], (Nat.le_of_ble_eq_true rfl), lm_cl_of ?_⟩
  intro G hG
  refine lg_aload_n hG dX0_init_0 rfl ?_
  refine lg_callI hG dX0_init_1 rfl (fun P h => h) (Nat.le_of_ble_eq_true rfl) (Nat.le_of_ble_eq_true rfl) (Nat.le_of_ble_eq_true rfl) ?_
  change G _ _ _ _ _ _ _
  refine lg_aload_n hG dX0_init_4 rfl ?_
  refine lg_bipush hG dX0_init_5 (x := (96)) (by decide) ?_
  refine lg_newI hG dX0_init_7 rfl (N := 96) rfl (by decide) (by decide) (Nat.le_of_ble_eq_true rfl) (Nat.le_of_ble_eq_true rfl) ?_
  refine lg_put hG dX0_init_9 rfl (by first | assumption | omega) (by first | trivial | exact Or.inl rfl | exact Or.inr rfl | assumption | exact rfl) (by first | assumption | exact va_up_self _ _ _ | (rw [va_up_ne _ _ (by first | assumption | omega)]; first | assumption | exact va_up_self _ _ _ | (rw [va_up_ne _ _ (by first | assumption | omega)]; first | assumption | exact va_up_self _ _ _ | (rw [va_up_ne _ _ (by first | assumption | omega)]; first | assumption | exact va_up_self _ _ _ | (rw [va_up_ne _ _ (by first | assumption | omega)]; first | assumption | exact va_up_self _ _ _))))) (Nat.le_of_ble_eq_true rfl) (by rfl) ?_
  refine lg_aload_n hG dX0_init_12 rfl ?_
  refine lg_bipush hG dX0_init_13 (x := (96)) (by decide) ?_
  refine lg_newI hG dX0_init_15 rfl (N := 96) rfl (by decide) (by decide) (Nat.le_of_ble_eq_true rfl) (Nat.le_of_ble_eq_true rfl) ?_
  refine lg_put hG dX0_init_17 rfl (by first | assumption | omega) (by first | trivial | exact Or.inl rfl | exact Or.inr rfl | assumption | exact rfl) (by first | assumption | exact va_up_self _ _ _ | (rw [va_up_ne _ _ (by first | assumption | omega)]; first | assumption | exact va_up_self _ _ _ | (rw [va_up_ne _ _ (by first | assumption | omega)]; first | assumption | exact va_up_self _ _ _ | (rw [va_up_ne _ _ (by first | assumption | omega)]; first | assumption | exact va_up_self _ _ _ | (rw [va_up_ne _ _ (by first | assumption | omega)]; first | assumption | exact va_up_self _ _ _))))) (Nat.le_of_ble_eq_true rfl) (by rfl) ?_
  refine lg_aload_n hG dX0_init_20 rfl ?_
  refine lg_iconst hG dX0_init_21 (x := 1) (by decide) ?_
  refine lg_put hG dX0_init_22 rfl (by first | assumption | omega) (by first | trivial | exact Or.inl rfl | exact Or.inr rfl | assumption | exact rfl) (by first | assumption | exact va_up_self _ _ _ | (rw [va_up_ne _ _ (by first | assumption | omega)]; first | assumption | exact va_up_self _ _ _ | (rw [va_up_ne _ _ (by first | assumption | omega)]; first | assumption | exact va_up_self _ _ _ | (rw [va_up_ne _ _ (by first | assumption | omega)]; first | assumption | exact va_up_self _ _ _ | (rw [va_up_ne _ _ (by first | assumption | omega)]; first | assumption | exact va_up_self _ _ _))))) (Nat.le_of_ble_eq_true rfl) (by rfl) ?_
  refine lg_aload_n hG dX0_init_25 rfl ?_
  refine lg_bipush hG dX0_init_26 (x := (96)) (by decide) ?_
  refine lg_put hG dX0_init_28 rfl (by first | assumption | omega) (by first | trivial | exact Or.inl rfl | exact Or.inr rfl | assumption | exact rfl) (by first | assumption | exact va_up_self _ _ _ | (rw [va_up_ne _ _ (by first | assumption | omega)]; first | assumption | exact va_up_self _ _ _ | (rw [va_up_ne _ _ (by first | assumption | omega)]; first | assumption | exact va_up_self _ _ _ | (rw [va_up_ne _ _ (by first | assumption | omega)]; first | assumption | exact va_up_self _ _ _ | (rw [va_up_ne _ _ (by first | assumption | omega)]; first | assumption | exact va_up_self _ _ _))))) (Nat.le_of_ble_eq_true rfl) (by rfl) ?_
  refine lg_vret hG dX0_init_31 (Nat.le_of_ble_eq_true rfl) (Nat.le_of_ble_eq_true rfl) ?_
  exact ⟨trivial, hp _ (fun k h1 h2 h3 => by repeat (first | rw [va_up_ne _ _ h3] | rw [va_up_ne _ _ h2] | rw [va_up_ne _ _ h1])) (by repeat (first | exact va_up_self _ _ _ | rw [va_up_ne _ _ (by omega)])) (by repeat (first | exact va_up_self _ _ _ | rw [va_up_ne _ _ (by omega)])) (va_up_self _ _ _)⟩

def ci_X1 (ids : Nat → ClassId) : Nat → Option lm_C := fun j => match j with
  | 3 => some (1, 0, (fun _ n L post _ => post none n L), 0, 0)
  | _ => none
def rm_X1_init : Room := { frames := 1, cells := 1, slots := 12, locals := 20 }
theorem ld_X1_init : yX1_init.cls ≠ "java/lang/invoke/MethodHandle" ∧ yX1_init.cls ≠ "java/lang/invoke/VarHandle" ∧ (parseMethodDescriptor yX1_init.desc).map (fun d => d.parameters.length) = some 0 := by decide +kernel
def sp_X1_init (ids : Nat → ClassId) : lm_S := fun As n L post _ => ∃ q : Nat, As = [.ref q] ∧ q < n ∧ L q = .inr (1, zq1) ∧ ∀ L1, (∀ k, k ≠ n → k ≠ q → L1 k = L k) → L1 n = ia (ids 0) 12 (fun _ => 0) → L1 q = ro n 0 → post none (n + 1) L1
set_option maxHeartbeats 4000000 in
set_option maxRecDepth 20000 in
theorem ok_X1_init (l : Launch) (D : va_G) (ids : Nat → ClassId) (B b : Nat) : lm_M l D (lm_ty ids) B b true yX1_init cX1_init 1 none rm_X1_init 1 12 (sp_X1_init ids) := by
  refine lm_method (own := RX1) (fld := lf_1) (cv := (fun _ => none)) (cs := (fun _ => none)) (ci := (ci_X1 ids)) (kon := (fun _ => none)) (thr := (fun _ => none)) (nw := (fun _ => none)) (ini := true) (cp := none) (alc := true) (by decide +kernel) rfl rfl rfl (lf_1_ok _) ⟨?_, ?_⟩ ?_ (fun _ => rfl) ⟨(fun _ h => by cases h), (fun _ _ h => by cases h), (fun _ => ⟨rfl, lm_wt 112 rfl rfl, lm_wt 520 rfl rfl, lm_wt 629 rfl rfl⟩), (fun j f hf => by
    unfold ci_X1 at hf
    split at hf
    · cases hf; exact Or.inl ⟨rfl, rfl, lm_wt 117 rfl rfl, lm_wt 48 rfl rfl, lm_wt 49 rfl rfl, by decide, by decide⟩
    · cases hf)⟩ ?_ ?_
  · intro j f hf
    cases hf
  · intro j f hf
    cases hf
  · intro j v hv; cases hv
  · exact Or.inl fun _ => rfl
  rintro As n L post postX ⟨q, rfl, hq, hL, hp⟩
  refine ⟨by simp [Value.category], (Nat.le_of_ble_eq_true rfl), lm_cl_of ?_⟩
  intro G hG
  refine lg_aload_n hG dX1_init_0 rfl ?_
  refine lg_callI hG dX1_init_1 rfl (fun P h => h) (Nat.le_of_ble_eq_true rfl) (Nat.le_of_ble_eq_true rfl) (Nat.le_of_ble_eq_true rfl) ?_
  change G _ _ _ _ _ _ _
  refine lg_aload_n hG dX1_init_4 rfl ?_
  refine lg_bipush hG dX1_init_5 (x := (12)) (by decide) ?_
  refine lg_newI hG dX1_init_7 rfl (N := 12) rfl (by decide) (by decide) (Nat.le_of_ble_eq_true rfl) (Nat.le_of_ble_eq_true rfl) ?_
  refine lg_put hG dX1_init_9 rfl (by first | assumption | omega) (by first | trivial | exact Or.inl rfl | exact Or.inr rfl | assumption | exact rfl) (by first | assumption | exact va_up_self _ _ _ | (rw [va_up_ne _ _ (by first | assumption | omega)]; first | assumption | exact va_up_self _ _ _ | (rw [va_up_ne _ _ (by first | assumption | omega)]; first | assumption | exact va_up_self _ _ _ | (rw [va_up_ne _ _ (by first | assumption | omega)]; first | assumption | exact va_up_self _ _ _ | (rw [va_up_ne _ _ (by first | assumption | omega)]; first | assumption | exact va_up_self _ _ _))))) (Nat.le_of_ble_eq_true rfl) (by rfl) ?_
  refine lg_vret hG dX1_init_12 (Nat.le_of_ble_eq_true rfl) (Nat.le_of_ble_eq_true rfl) ?_
  exact ⟨trivial, hp _ (fun k h1 h3 => by repeat (first | rw [va_up_ne _ _ h3] | rw [va_up_ne _ _ h1])) (by repeat (first | exact va_up_self _ _ _ | rw [va_up_ne _ _ (by omega)])) (va_up_self _ _ _)⟩

def nw_X2 : Nat → Option (Nat × List Value) := fun j => match j with
  | 9 => some (0, zq0)
  | 15 => some (1, zq1)
  | _ => none
def LI1 (ids : Nat → ClassId) (k : Nat) (L : lm_L) : Prop := L 0 = mo (fun _ => 0) ∧ (∃ f, L 1 = .inl (ids 3, 12, .inr (.inr (.inr (.inr f)))) ∧ ∀ q, q < k → f q = some (3 + 3 * q)) ∧ (∃ f, L 2 = .inl (ids 4, 4, .inr (.inr (.inr (.inr f))))) ∧ ∀ q, q < k → CQ ids L q Qi
def LI2 (ids : Nat → ClassId) (k : Nat) (L : lm_L) : Prop := L 0 = mo (fun _ => 0) ∧ (∃ f, L 1 = .inl (ids 3, 12, .inr (.inr (.inr (.inr f)))) ∧ ∀ q, q < 12 → f q = some (3 + 3 * q)) ∧ (∃ f, L 2 = .inl (ids 4, 4, .inr (.inr (.inr (.inr f)))) ∧ ∀ c, c < k → f c = some (39 + 2 * c)) ∧ (∀ q, q < 12 → CQ ids L q Qi) ∧ ∀ c, c < k → CR ids L c []
theorem LI1_step {ids : Nat → ClassId} {k : Nat} {L L2 : lm_L} {o : va_E} {f : Nat → Option Nat} (hk : k < 12) (h0 : L 0 = mo (fun _ => 0)) (h1 : L 1 = .inl (ids 3, 12, .inr (.inr (.inr (.inr f))))) (hf : ∀ q, q < k → f q = some (3 + 3 * q)) (h2 : ∃ f, L 2 = .inl (ids 4, 4, .inr (.inr (.inr (.inr f))))) (hQ : ∀ q, q < k → CQ ids L q Qi)
    (f1 : ∀ j, j ≠ 3 + 3 * k + 1 → j ≠ 3 + 3 * k + 1 + 1 → j ≠ 3 + 3 * k → L2 j = va_up L (3 + 3 * k) o j) (f2 : L2 (3 + 3 * k + 1) = ia (ids 0) 96 (fun _ => 0)) (f3 : L2 (3 + 3 * k + 1 + 1) = ia (ids 0) 96 (fun _ => 0)) (f4 : L2 (3 + 3 * k) = qo (3 + 3 * k + 1) (3 + 3 * k + 1 + 1) (qv 0 Qi)) : LI1 ids (k + 1) (va_up L2 1 (.inl (ids 3, 12, .inr (.inr (.inr (.inr (va_up f (nI k).toNatClampNeg (some (3 + 3 * k))))))))) := by
  have g1 : ∀ j, j < 3 + 3 * k → j ≠ 1 → va_up L2 1 (.inl (ids 3, 12, .inr (.inr (.inr (.inr (va_up f (nI k).toNatClampNeg (some (3 + 3 * k)))))))) j = L j := fun j hj h1 => by
    rw [va_up_ne _ _ h1, f1 j (by omega) (by omega) (by omega), va_up_ne _ _ (by omega)]
  refine ⟨by rw [g1 0 (by omega) (by omega)]; exact h0, ⟨_, va_up_self _ _ _, fun q hq => ?_⟩, by rw [g1 2 (by omega) (by omega)]; exact h2, fun q hq => ?_⟩
  · rw [nI_clamp (by omega)]
    by_cases e : q = k
    · subst e; rw [va_up_self]
    · rw [va_up_ne _ _ e]; exact hf q (by omega)
  · by_cases e : q = k
    · subst e
      refine ⟨0, fun _ => 0, fun _ => 0, ?_, ?_, ?_, by omega, Nat.zero_le _, fun i y hi => by cases hi⟩
      · rw [va_up_ne _ _ (by omega), f4, show 3 + 3 * q + 1 + 1 = 5 + 3 * q by omega, show 3 + 3 * q + 1 = 4 + 3 * q by omega]
      · rw [va_up_ne _ _ (by omega), show 4 + 3 * q = 3 + 3 * q + 1 by omega]; exact f2
      · rw [va_up_ne _ _ (by omega), show 5 + 3 * q = 3 + 3 * q + 1 + 1 by omega]; exact f3
    · exact (hQ q (by omega)).cg (g1 _ (by omega) (by omega)) (g1 _ (by omega) (by omega)) (g1 _ (by omega) (by omega))
theorem LI2_step {ids : Nat → ClassId} {k : Nat} {L L2 : lm_L} {o : va_E} {f : Nat → Option Nat} (hk : k < 4) (h0 : L 0 = mo (fun _ => 0)) (h1 : ∃ f, L 1 = .inl (ids 3, 12, .inr (.inr (.inr (.inr f)))) ∧ ∀ q, q < 12 → f q = some (3 + 3 * q)) (h2 : L 2 = .inl (ids 4, 4, .inr (.inr (.inr (.inr f))))) (hf : ∀ c, c < k → f c = some (39 + 2 * c)) (hQ : ∀ q, q < 12 → CQ ids L q Qi) (hR : ∀ c, c < k → CR ids L c [])
    (f1 : ∀ j, j ≠ 39 + 2 * k + 1 → j ≠ 39 + 2 * k → L2 j = va_up L (39 + 2 * k) o j) (f2 : L2 (39 + 2 * k + 1) = ia (ids 0) 12 (fun _ => 0)) (f4 : L2 (39 + 2 * k) = ro (39 + 2 * k + 1) 0) : LI2 ids (k + 1) (va_up L2 2 (.inl (ids 4, 4, .inr (.inr (.inr (.inr (va_up f (nI k).toNatClampNeg (some (39 + 2 * k))))))))) := by
  have g1 : ∀ j, j < 39 + 2 * k → j ≠ 2 → va_up L2 2 (.inl (ids 4, 4, .inr (.inr (.inr (.inr (va_up f (nI k).toNatClampNeg (some (39 + 2 * k)))))))) j = L j := fun j hj h1 => by
    rw [va_up_ne _ _ h1, f1 j (by omega) (by omega), va_up_ne _ _ (by omega)]
  refine ⟨by rw [g1 0 (by omega) (by omega)]; exact h0, by rw [g1 1 (by omega) (by omega)]; exact h1, ⟨_, va_up_self _ _ _, fun q hq => ?_⟩, fun q hq => ?_, fun c hc => ?_⟩
  · rw [nI_clamp (by omega)]
    by_cases e : q = k
    · subst e; rw [va_up_self]
    · rw [va_up_ne _ _ e]; exact hf q (by omega)
  · exact (hQ q (by omega)).cg (g1 _ (by omega) (by omega)) (g1 _ (by omega) (by omega)) (g1 _ (by omega) (by omega))
  · by_cases e : c = k
    · subst e
      refine ⟨fun _ => 0, ?_, ?_, Nat.zero_le _, fun i y hi => by simp at hi, fun x hx => by cases hx⟩
      · rw [va_up_ne _ _ (by omega), f4, show 39 + 2 * c + 1 = 40 + 2 * c by omega]; rfl
      · rw [va_up_ne _ _ (by omega), show 40 + 2 * c = 39 + 2 * c + 1 by omega]; exact f2
    · exact (hR c (by omega)).cg (g1 _ (by omega) (by omega)) (g1 _ (by omega) (by omega))
def ci_X2 (ids : Nat → ClassId) : Nat → Option lm_C := fun j => match j with
  | 1 => some (1, 0, (fun _ n L post _ => post none n L), 0, 0)
  | 21 => some (1, 0, sp_X0_init ids, 2, 192)
  | 22 => some (1, 1, sp_X1_init ids, 1, 12)
  | _ => none
def rm_X2_init : Room := { frames := 2, cells := 46, slots := 2556, locals := 40 }
theorem ld_X2_init : yX2_init.cls ≠ "java/lang/invoke/MethodHandle" ∧ yX2_init.cls ≠ "java/lang/invoke/VarHandle" ∧ (parseMethodDescriptor yX2_init.desc).map (fun d => d.parameters.length) = some 0 := by decide +kernel
def sp_X2_init (ids : Nat → ClassId) : lm_S := fun As n L post _ => As = [.ref 0] ∧ n = 1 ∧ L 0 = .inr (2, zq2) ∧ ∀ L1, CW ids 47 (fun _ => Qi) (fun _ => []) (fun _ => 0) L1 L1 → post none 47 L1
set_option maxHeartbeats 4000000 in
set_option maxRecDepth 20000 in
theorem ok_X2_init (l : Launch) (D : va_G) (ids : Nat → ClassId) (B b : Nat) : lm_M l D (lm_ty ids) B b true yX2_init cX2_init 2 none rm_X2_init 46 2556 (sp_X2_init ids) := by
  refine lm_method (own := RX2) (fld := lf_2) (cv := (fun _ => none)) (cs := (fun _ => none)) (ci := (ci_X2 ids)) (kon := (fun _ => none)) (thr := (fun _ => none)) (nw := nw_X2) (ini := true) (cp := none) (alc := true) (by decide +kernel) rfl rfl rfl (lf_2_ok _) ⟨?_, ?_⟩ ?_ (fun _ => rfl) ⟨(fun _ h => by cases h), (fun j f hf => by
    unfold nw_X2 at hf
    split at hf
    · cases hf; exact ⟨RX0, TX0, rfl, lc_0, lm_wt 50 rfl rfl, lm_wt 54 rfl rfl, lm_wt 32 rfl rfl, ⟨tyX0, tyX0_ok, by decide +kernel⟩, rfl⟩
    · cases hf; exact ⟨RX1, TX1, rfl, lc_1, lm_wt 52 rfl rfl, lm_wt 113 rfl rfl, lm_wt 33 rfl rfl, ⟨tyX1, tyX1_ok, by decide +kernel⟩, rfl⟩
    · cases hf), (fun _ => ⟨rfl, lm_wt 112 rfl rfl, lm_wt 520 rfl rfl, lm_wt 629 rfl rfl⟩), (fun j f hf => by
    unfold ci_X2 at hf
    split at hf
    · cases hf; exact Or.inl ⟨rfl, rfl, lm_wt 47 rfl rfl, lm_wt 48 rfl rfl, lm_wt 49 rfl rfl, by decide, by decide⟩
    · cases hf; exact Or.inr ⟨yX0_init, cX0_init, 1, rm_X0_init, rfl, rfl, ok_X0_init l D ids B b, (fun _ _ _ _ _ h => h), rfl, rfl, by decide, by decide, lm_wt 57 rfl rfl, lm_wt 32 rfl rfl, lm_wt 56 rfl rfl, ld_X0_init, Or.inr ⟨RX2, by decide⟩⟩
    · cases hf; exact Or.inr ⟨yX1_init, cX1_init, 1, rm_X1_init, rfl, rfl, ok_X1_init l D ids B b, (fun _ _ _ _ _ h => h), rfl, rfl, by decide, by decide, lm_wt 116 rfl rfl, lm_wt 33 rfl rfl, lm_wt 115 rfl rfl, ld_X1_init, Or.inr ⟨RX2, by decide⟩⟩
    · cases hf)⟩ ?_ ?_
  · intro j f hf
    cases hf
  · intro j f hf
    cases hf
  · intro j v hv; cases hv
  · exact Or.inl fun _ => rfl
  rintro As n L post postX ⟨rfl, rfl, hL, hp⟩
  refine ⟨by simp [Value.category], (Nat.le_of_ble_eq_true rfl), lm_cl_of ?_⟩
  intro G hG
  have loop2 : ∀ (m k : Nat) (L : lm_L), k ≤ 4 → 4 - k < m → LI2 ids k L → G 50 [some (.ref 0), some (.int (nI k))] [] (39 + 2 * k) L (38 + 2 * k) (2500 + 14 * k) := by
    intro m
    induction m with
    | zero => intro k L h1 h2; omega
    | succ m ih =>
      intro k L hk hkm hI
      refine lg_iload_n hG dX2_init_50 rfl ?_
      refine lg_iconst hG dX2_init_51 (x := 4) (by decide) ?_
      refine lg_icmp_ge hG dX2_init_52 (tgt := 74) (by decide) (by decide) (fun h_52 => ?_) (fun h_52 => ?_)
      · skip
        have hkl : k = 4 := by
          rcases Nat.lt_or_ge k 4 with h | h
          · exact absurd (nI_lt (b := 4) h (by omega)) h_52
          · omega
        subst hkl
        refine lg_vret hG dX2_init_74 (Nat.le_of_ble_eq_true rfl) (Nat.le_of_ble_eq_true rfl) ?_
        exact ⟨trivial, hp _ ⟨by omega, hI.1, hI.2.1, hI.2.2.1, hI.2.2.2.1, hI.2.2.2.2, fun _ _ => rfl⟩⟩
      · skip
        have hkl : k < 4 := (nI_ltI (b := 4) (by omega) (by omega)).mp h_52
        obtain ⟨h0, h1, ⟨f, h2, hf⟩, hQ, hR⟩ := hI
        refine lg_aload_n hG dX2_init_55 rfl ?_
        refine lg_get hG dX2_init_56 rfl (by first | assumption | omega) h0 (by rfl) ?_
        refine lg_iload_n hG dX2_init_59 rfl ?_
        refine lg_new hG dX2_init_60 rfl rfl (by show 38 + 2 * k + 1 ≤ 46; omega) (by show 2500 + 14 * k + 2 ≤ 2556; omega) ?_
        refine lg_dup hG dX2_init_63 rfl ?_
        refine lg_callI hG dX2_init_64 rfl (fun P h => h) (by show 38 + 2 * k + 1 + 1 ≤ 46; omega) (by show 2500 + 14 * k + 2 + 12 ≤ 2556; omega) (Nat.le_of_ble_eq_true rfl) ?_
        refine ⟨39 + 2 * k, rfl, by omega, va_up_self _ _ _, fun L2 f1 f2 f4 => ?_⟩
        refine lg_aast1 hG dX2_init_67 (by first | assumption | omega) (by first | assumption | omega) (show L2 2 = .inl (ids 4, 4, .inr (.inr (.inr (.inr f)))) by rw [f1 2 (by omega) (by omega), va_up_ne _ _ (by omega)]; exact h2) f4 (vp_in_nI hkl (by decide)) ?_
        refine lg_iinc hG dX2_init_68 (Nat.le_of_ble_eq_true rfl) rfl rfl rfl ?_
        refine lg_goto hG dX2_init_71 (tgt := 50) (by decide) (by decide) ?_
        rw [show nI k + Int32.ofInt 1 = nI (k + 1) from nI_1 k]
        have h9 := ih (k + 1) _ (by omega) (by omega) (LI2_step hkl h0 h1 h2 hf hQ hR f1 f2 f4)
        rw [show 39 + 2 * (k + 1) = 39 + 2 * k + 1 + 1 by omega, show 38 + 2 * (k + 1) = 38 + 2 * k + 1 + 1 by omega, show 2500 + 14 * (k + 1) = 2500 + 14 * k + 2 + 12 by omega] at h9
        exact h9
  have loop1 : ∀ (m k : Nat) (L : lm_L), k ≤ 12 → 12 - k < m → LI1 ids k L → G 23 [some (.ref 0), some (.int (nI k))] [] (3 + 3 * k) L (2 + 3 * k) (16 + 207 * k) := by
    intro m
    induction m with
    | zero => intro k L h1 h2; omega
    | succ m ih =>
      intro k L hk hkm hI
      refine lg_iload_n hG dX2_init_23 rfl ?_
      refine lg_bipush hG dX2_init_24 (x := (12)) (by decide) ?_
      refine lg_icmp_ge hG dX2_init_26 (tgt := 48) (by decide) (by decide) (fun h_26 => ?_) (fun h_26 => ?_)
      · skip
        have hkl : k = 12 := by
          rcases Nat.lt_or_ge k 12 with h | h
          · exact absurd (nI_lt (b := 12) h (by omega)) h_26
          · omega
        subst hkl
        refine lg_iconst hG dX2_init_48 (x := 0) (by decide) ?_
        refine lg_istore_n hG dX2_init_49 (Nat.le_of_ble_eq_true rfl) rfl ?_
        exact loop2 5 0 L (by omega) (by omega) ⟨hI.1, hI.2.1, by obtain ⟨f, hf⟩ := hI.2.2.1; exact ⟨f, hf, fun c hc => by omega⟩, hI.2.2.2, fun c hc => by omega⟩
      · skip
        have hkl : k < 12 := (nI_ltI (b := 12) (by omega) (by omega)).mp h_26
        obtain ⟨h0, ⟨f, h1, hf⟩, h2, hQ⟩ := hI
        refine lg_aload_n hG dX2_init_29 rfl ?_
        refine lg_get hG dX2_init_30 rfl (by first | assumption | omega) h0 (by rfl) ?_
        refine lg_iload_n hG dX2_init_33 rfl ?_
        refine lg_new hG dX2_init_34 rfl rfl (by show 2 + 3 * k + 1 ≤ 46; omega) (by show 16 + 207 * k + 15 ≤ 2556; omega) ?_
        refine lg_dup hG dX2_init_37 rfl ?_
        refine lg_callI hG dX2_init_38 rfl (fun P h => h) (by show 2 + 3 * k + 1 + 2 ≤ 46; omega) (by show 16 + 207 * k + 15 + 192 ≤ 2556; omega) (Nat.le_of_ble_eq_true rfl) ?_
        refine ⟨3 + 3 * k, rfl, by omega, va_up_self _ _ _, fun L2 f1 f2 f3 f4 => ?_⟩
        refine lg_aast0 hG dX2_init_41 (by first | assumption | omega) (by first | assumption | omega) (show L2 1 = .inl (ids 3, 12, .inr (.inr (.inr (.inr f)))) by rw [f1 1 (by omega) (by omega) (by omega), va_up_ne _ _ (by omega)]; exact h1) f4 (vp_in_nI hkl (by decide)) ?_
        refine lg_iinc hG dX2_init_42 (Nat.le_of_ble_eq_true rfl) rfl rfl rfl ?_
        refine lg_goto hG dX2_init_45 (tgt := 23) (by decide) (by decide) ?_
        rw [show nI k + Int32.ofInt 1 = nI (k + 1) from nI_1 k]
        have h9 := ih (k + 1) _ (by omega) (by omega) (LI1_step hkl h0 h1 hf h2 hQ f1 f2 f3 f4)
        rw [show 3 + 3 * (k + 1) = 3 + 3 * k + 1 + 2 by omega, show 2 + 3 * (k + 1) = 2 + 3 * k + 1 + 2 by omega, show 16 + 207 * (k + 1) = 16 + 207 * k + 15 + 192 by omega] at h9
        exact h9
  refine lg_aload_n hG dX2_init_0 rfl ?_
  refine lg_callI hG dX2_init_1 rfl (fun P h => h) (Nat.le_of_ble_eq_true rfl) (Nat.le_of_ble_eq_true rfl) (Nat.le_of_ble_eq_true rfl) ?_
  change G _ _ _ _ _ _ _
  refine lg_aload_n hG dX2_init_4 rfl ?_
  refine lg_bipush hG dX2_init_5 (x := (12)) (by decide) ?_
  refine lg_newA hG dX2_init_7 rfl (by decide) (N := 12) rfl (by decide) (by decide) (Nat.le_of_ble_eq_true rfl) (Nat.le_of_ble_eq_true rfl) ?_
  refine lg_put hG dX2_init_10 rfl (by first | assumption | omega) (by first | trivial | exact Or.inl rfl | exact Or.inr rfl | assumption | exact rfl) (by first | assumption | exact va_up_self _ _ _ | (rw [va_up_ne _ _ (by first | assumption | omega)]; first | assumption | exact va_up_self _ _ _ | (rw [va_up_ne _ _ (by first | assumption | omega)]; first | assumption | exact va_up_self _ _ _ | (rw [va_up_ne _ _ (by first | assumption | omega)]; first | assumption | exact va_up_self _ _ _ | (rw [va_up_ne _ _ (by first | assumption | omega)]; first | assumption | exact va_up_self _ _ _))))) (Nat.le_of_ble_eq_true rfl) (by rfl) ?_
  refine lg_aload_n hG dX2_init_13 rfl ?_
  refine lg_iconst hG dX2_init_14 (x := 4) (by decide) ?_
  refine lg_newA hG dX2_init_15 rfl (by decide) (N := 4) rfl (by decide) (by decide) (Nat.le_of_ble_eq_true rfl) (Nat.le_of_ble_eq_true rfl) ?_
  refine lg_put hG dX2_init_18 rfl (by first | assumption | omega) (by first | trivial | exact Or.inl rfl | exact Or.inr rfl | assumption | exact rfl) (by first | assumption | exact va_up_self _ _ _ | (rw [va_up_ne _ _ (by first | assumption | omega)]; first | assumption | exact va_up_self _ _ _ | (rw [va_up_ne _ _ (by first | assumption | omega)]; first | assumption | exact va_up_self _ _ _ | (rw [va_up_ne _ _ (by first | assumption | omega)]; first | assumption | exact va_up_self _ _ _ | (rw [va_up_ne _ _ (by first | assumption | omega)]; first | assumption | exact va_up_self _ _ _))))) (Nat.le_of_ble_eq_true rfl) (by rfl) ?_
  refine lg_iconst hG dX2_init_21 (x := 0) (by decide) ?_
  refine lg_istore_n hG dX2_init_22 (Nat.le_of_ble_eq_true rfl) rfl ?_
  exact loop1 13 0 _ (by omega) (by omega) ⟨(va_up_self _ _ _), ⟨_, (by repeat (first | exact va_up_self _ _ _ | rw [va_up_ne _ _ (by omega)])), fun q hq => by omega⟩, ⟨_, (by repeat (first | exact va_up_self _ _ _ | rw [va_up_ne _ _ (by omega)]))⟩, fun q hq => by omega⟩

def zq3 : List Value := [.int 0, .null, .null, .null, .null, .null, .null, .null, .null, .null, .null, .null, .null, .null, .null, .null, .int 0, .int 0, .int 0, .null, .null, .null]
theorem MI_init {F : Nat → Nat → Int32} (h : ∀ j, j ≠ 1 → j ≠ 2 → F j = fun _ => 0) (h1 : ∀ q, q < 12 → F 1 q = 1) (h2 : ∀ q, q < 12 → F 2 q = 96) : MV (fun _ => Qi) (fun _ => []) F := by
  refine ⟨fun q hq => ⟨fun j v h7 h8 hj => ?_, Nat.zero_le _, fun k y hk => by cases hk⟩, fun c hc => ⟨?_, Nat.zero_le _, (fun x hx => by cases hx), (fun k x hk => by cases hk)⟩⟩
  · have hj2 : j < 13 := (List.getElem?_eq_some_iff.mp hj).1
    rcases (by omega : j = 0 ∨ j = 1 ∨ j = 2 ∨ j = 3 ∨ j = 4 ∨ j = 5 ∨ j = 6 ∨ j = 7 ∨ j = 8 ∨ j = 9 ∨ j = 10 ∨ j = 11 ∨ j = 12) with rfl | rfl | rfl | rfl | rfl | rfl | rfl | rfl | rfl | rfl | rfl | rfl | rfl
    · rw [h 0 (by omega) (by omega)]; exact Option.some.inj hj
    · rw [h1 q hq]; exact Option.some.inj hj
    · rw [h2 q hq]; exact Option.some.inj hj
    all_goals (first | exact absurd rfl h7 | exact absurd rfl h8 | (rw [h _ (by omega) (by omega)]; exact Option.some.inj hj))
  · rw [h 14 (by omega) (by omega)]; rfl
def ci_X3 (ids : Nat → ClassId) : Nat → Option lm_C := fun j => match j with
  | 1 => some (1, 0, (fun _ n L post _ => post none n L), 0, 0)
  | _ => none
def rm_X3_init : Room := { frames := 1, cells := 18, slots := 2560, locals := 20 }
theorem ld_X3_init : yX3_init.cls ≠ "java/lang/invoke/MethodHandle" ∧ yX3_init.cls ≠ "java/lang/invoke/VarHandle" ∧ (parseMethodDescriptor yX3_init.desc).map (fun d => d.parameters.length) = some 0 := by decide +kernel
def sp_X3_init (ids : Nat → ClassId) : lm_S := fun As n L post _ => As = [.ref 47] ∧ n = 48 ∧ L 47 = .inr (3, zq3) ∧ ∀ L1, MS ids 66 (fun _ => Qi) (fun _ => []) (fun _ => 0) 0 L1 L1 → WA ids L1 → (∀ k, k < 47 → L1 k = L k) → post none 66 L1
set_option maxHeartbeats 4000000 in
set_option maxRecDepth 20000 in
theorem ok_X3_init (l : Launch) (D : va_G) (ids : Nat → ClassId) (B b : Nat) : lm_M l D (lm_ty ids) B b true yX3_init cX3_init 2 none rm_X3_init 18 2560 (sp_X3_init ids) := by
  refine lm_method (own := RX3) (fld := lf_3) (cv := (fun _ => none)) (cs := (fun _ => none)) (ci := (ci_X3 ids)) (kon := (fun _ => none)) (thr := (fun _ => none)) (nw := (fun _ => none)) (ini := true) (cp := none) (alc := true) (by decide +kernel) rfl rfl rfl (lf_3_ok _) ⟨?_, ?_⟩ ?_ (fun _ => rfl) ⟨(fun _ h => by cases h), (fun _ _ h => by cases h), (fun _ => ⟨rfl, lm_wt 112 rfl rfl, lm_wt 520 rfl rfl, lm_wt 629 rfl rfl⟩), (fun j f hf => by
    unfold ci_X3 at hf
    split at hf
    · cases hf; exact Or.inl ⟨rfl, rfl, lm_wt 452 rfl rfl, lm_wt 48 rfl rfl, lm_wt 49 rfl rfl, by decide, by decide⟩
    · cases hf)⟩ ?_ ?_
  · intro j f hf
    cases hf
  · intro j f hf
    cases hf
  · intro j v hv; cases hv
  · exact Or.inl fun _ => rfl
  rintro As n L post postX ⟨rfl, rfl, hL, hp⟩
  refine ⟨by simp [Value.category], (Nat.le_of_ble_eq_true rfl), lm_cl_of ?_⟩
  intro G hG
  have loop : ∀ (m k : Nat) (F : Nat → Nat → Int32) (L1 : lm_L), k ≤ 12 → 12 - k < m → MF ids 66 18 F 0 0 0 0 L L1 → (∀ j, j ≠ 1 → j ≠ 2 → F j = fun _ => 0) → (∀ q, q < k → F 1 q = 1) → (∀ q, q < k → F 2 q = 96) → G 151 [some (.ref 47), some (.int (nI k))] [] 66 L1 18 2560 := by
    intro m
    induction m with
    | zero => intro k F L h1 h2; omega
    | succ m ih =>
      intro k F L hk hkm hF hf hf1 hf2
      refine lg_iload_n hG dX3_init_151 rfl ?_
      refine lg_bipush hG dX3_init_152 (x := (12)) (by decide) ?_
      refine lg_icmp_ge hG dX3_init_154 (tgt := 178) (by decide) (by decide) (fun h_154 => ?_) (fun h_154 => ?_)
      · skip
        have hkl : k = 12 := by
          rcases Nat.lt_or_ge k 12 with h | h
          · exact absurd (nI_lt (b := 12) h (by omega)) h_154
          · omega
        subst hkl
        refine lg_vret hG dX3_init_178 (Nat.le_of_ble_eq_true rfl) (Nat.le_of_ble_eq_true rfl) ?_
        refine ⟨trivial, hp _ ⟨_, hF.down, MI_init (fun j a b => hf j a b) hf1 hf2⟩ ⟨_, hF.wat⟩ (fun k hk => hF.2.2.2.2 k (Or.inl hk))⟩
      · skip
        have hkl : k < 12 := (nI_ltI (b := 12) (by omega) (by omega)).mp h_154
        refine lg_aload_n hG dX3_init_157 rfl ?_
        refine mg_get hG hF dX3_init_158 rfl rfl ?_
        refine lg_iload_n hG dX3_init_161 rfl ?_
        refine lg_iconst hG dX3_init_162 (x := 1) (by decide) ?_
        refine mg_st hG hF dX3_init_163 (by decide) rfl (show _ < 12 by omega) (by decide) (fun L hF => ?_)
        refine lg_aload_n hG dX3_init_164 rfl ?_
        refine mg_get hG hF dX3_init_165 rfl rfl ?_
        refine lg_iload_n hG dX3_init_168 rfl ?_
        refine lg_bipush hG dX3_init_169 (x := (96)) (by decide) ?_
        refine mg_st hG hF dX3_init_171 (by decide) rfl (show _ < 12 by omega) (by decide) (fun L hF => ?_)
        refine lg_iinc hG dX3_init_172 (Nat.le_of_ble_eq_true rfl) rfl rfl rfl ?_
        refine lg_goto hG dX3_init_175 (tgt := 151) (by decide) (by decide) ?_
        rw [show nI k + Int32.ofInt 1 = nI (k + 1) from nI_1 k]
        exact ih (k + 1) _ L (by omega) (by omega) hF (fun j a b => ((va_up_ne _ _ b).trans (va_up_ne _ _ a)).trans (hf j a b)) (by rw [va_up_ne _ _ (by omega : 1 ≠ 2), va_up_self]; exact upd_le (g := fun _ => 1) hf1) (by rw [va_up_self, va_up_ne _ _ (by omega : 2 ≠ 1)]; exact upd_le (g := fun _ => 96) hf2)
  refine lg_aload_n hG dX3_init_0 rfl ?_
  refine lg_callI hG dX3_init_1 rfl (fun P h => h) (Nat.le_of_ble_eq_true rfl) (Nat.le_of_ble_eq_true rfl) (Nat.le_of_ble_eq_true rfl) ?_
  change G _ _ _ _ _ _ _
  refine lg_aload_n hG dX3_init_4 rfl ?_
  refine lg_bipush hG dX3_init_5 (x := (12)) (by decide) ?_
  refine lg_newI hG dX3_init_7 rfl (N := 12) rfl (by decide) (by decide) (Nat.le_of_ble_eq_true rfl) (Nat.le_of_ble_eq_true rfl) ?_
  refine lg_put hG dX3_init_9 rfl (by first | assumption | omega) (by first | trivial | exact Or.inl rfl | exact Or.inr rfl | assumption | exact rfl) (by first | assumption | exact va_up_self _ _ _ | (rw [va_up_ne _ _ (by first | assumption | omega)]; first | assumption | exact va_up_self _ _ _ | (rw [va_up_ne _ _ (by first | assumption | omega)]; first | assumption | exact va_up_self _ _ _ | (rw [va_up_ne _ _ (by first | assumption | omega)]; first | assumption | exact va_up_self _ _ _ | (rw [va_up_ne _ _ (by first | assumption | omega)]; first | assumption | exact va_up_self _ _ _))))) (Nat.le_of_ble_eq_true rfl) (by rfl) ?_
  refine lg_aload_n hG dX3_init_12 rfl ?_
  refine lg_bipush hG dX3_init_13 (x := (12)) (by decide) ?_
  refine lg_newI hG dX3_init_15 rfl (N := 12) rfl (by decide) (by decide) (Nat.le_of_ble_eq_true rfl) (Nat.le_of_ble_eq_true rfl) ?_
  refine lg_put hG dX3_init_17 rfl (by first | assumption | omega) (by first | trivial | exact Or.inl rfl | exact Or.inr rfl | assumption | exact rfl) (by first | assumption | exact va_up_self _ _ _ | (rw [va_up_ne _ _ (by first | assumption | omega)]; first | assumption | exact va_up_self _ _ _ | (rw [va_up_ne _ _ (by first | assumption | omega)]; first | assumption | exact va_up_self _ _ _ | (rw [va_up_ne _ _ (by first | assumption | omega)]; first | assumption | exact va_up_self _ _ _ | (rw [va_up_ne _ _ (by first | assumption | omega)]; first | assumption | exact va_up_self _ _ _))))) (Nat.le_of_ble_eq_true rfl) (by rfl) ?_
  refine lg_aload_n hG dX3_init_20 rfl ?_
  refine lg_bipush hG dX3_init_21 (x := (12)) (by decide) ?_
  refine lg_newI hG dX3_init_23 rfl (N := 12) rfl (by decide) (by decide) (Nat.le_of_ble_eq_true rfl) (Nat.le_of_ble_eq_true rfl) ?_
  refine lg_put hG dX3_init_25 rfl (by first | assumption | omega) (by first | trivial | exact Or.inl rfl | exact Or.inr rfl | assumption | exact rfl) (by first | assumption | exact va_up_self _ _ _ | (rw [va_up_ne _ _ (by first | assumption | omega)]; first | assumption | exact va_up_self _ _ _ | (rw [va_up_ne _ _ (by first | assumption | omega)]; first | assumption | exact va_up_self _ _ _ | (rw [va_up_ne _ _ (by first | assumption | omega)]; first | assumption | exact va_up_self _ _ _ | (rw [va_up_ne _ _ (by first | assumption | omega)]; first | assumption | exact va_up_self _ _ _))))) (Nat.le_of_ble_eq_true rfl) (by rfl) ?_
  refine lg_aload_n hG dX3_init_28 rfl ?_
  refine lg_bipush hG dX3_init_29 (x := (12)) (by decide) ?_
  refine lg_newI hG dX3_init_31 rfl (N := 12) rfl (by decide) (by decide) (Nat.le_of_ble_eq_true rfl) (Nat.le_of_ble_eq_true rfl) ?_
  refine lg_put hG dX3_init_33 rfl (by first | assumption | omega) (by first | trivial | exact Or.inl rfl | exact Or.inr rfl | assumption | exact rfl) (by first | assumption | exact va_up_self _ _ _ | (rw [va_up_ne _ _ (by first | assumption | omega)]; first | assumption | exact va_up_self _ _ _ | (rw [va_up_ne _ _ (by first | assumption | omega)]; first | assumption | exact va_up_self _ _ _ | (rw [va_up_ne _ _ (by first | assumption | omega)]; first | assumption | exact va_up_self _ _ _ | (rw [va_up_ne _ _ (by first | assumption | omega)]; first | assumption | exact va_up_self _ _ _))))) (Nat.le_of_ble_eq_true rfl) (by rfl) ?_
  refine lg_aload_n hG dX3_init_36 rfl ?_
  refine lg_bipush hG dX3_init_37 (x := (12)) (by decide) ?_
  refine lg_newI hG dX3_init_39 rfl (N := 12) rfl (by decide) (by decide) (Nat.le_of_ble_eq_true rfl) (Nat.le_of_ble_eq_true rfl) ?_
  refine lg_put hG dX3_init_41 rfl (by first | assumption | omega) (by first | trivial | exact Or.inl rfl | exact Or.inr rfl | assumption | exact rfl) (by first | assumption | exact va_up_self _ _ _ | (rw [va_up_ne _ _ (by first | assumption | omega)]; first | assumption | exact va_up_self _ _ _ | (rw [va_up_ne _ _ (by first | assumption | omega)]; first | assumption | exact va_up_self _ _ _ | (rw [va_up_ne _ _ (by first | assumption | omega)]; first | assumption | exact va_up_self _ _ _ | (rw [va_up_ne _ _ (by first | assumption | omega)]; first | assumption | exact va_up_self _ _ _))))) (Nat.le_of_ble_eq_true rfl) (by rfl) ?_
  refine lg_aload_n hG dX3_init_44 rfl ?_
  refine lg_bipush hG dX3_init_45 (x := (12)) (by decide) ?_
  refine lg_newI hG dX3_init_47 rfl (N := 12) rfl (by decide) (by decide) (Nat.le_of_ble_eq_true rfl) (Nat.le_of_ble_eq_true rfl) ?_
  refine lg_put hG dX3_init_49 rfl (by first | assumption | omega) (by first | trivial | exact Or.inl rfl | exact Or.inr rfl | assumption | exact rfl) (by first | assumption | exact va_up_self _ _ _ | (rw [va_up_ne _ _ (by first | assumption | omega)]; first | assumption | exact va_up_self _ _ _ | (rw [va_up_ne _ _ (by first | assumption | omega)]; first | assumption | exact va_up_self _ _ _ | (rw [va_up_ne _ _ (by first | assumption | omega)]; first | assumption | exact va_up_self _ _ _ | (rw [va_up_ne _ _ (by first | assumption | omega)]; first | assumption | exact va_up_self _ _ _))))) (Nat.le_of_ble_eq_true rfl) (by rfl) ?_
  refine lg_aload_n hG dX3_init_52 rfl ?_
  refine lg_bipush hG dX3_init_53 (x := (12)) (by decide) ?_
  refine lg_newZ hG dX3_init_55 rfl (N := 12) rfl (by decide) (by decide) (Nat.le_of_ble_eq_true rfl) (Nat.le_of_ble_eq_true rfl) ?_
  refine lg_put hG dX3_init_57 rfl (by first | assumption | omega) (by first | trivial | exact Or.inl rfl | exact Or.inr rfl | assumption | exact rfl) (by first | assumption | exact va_up_self _ _ _ | (rw [va_up_ne _ _ (by first | assumption | omega)]; first | assumption | exact va_up_self _ _ _ | (rw [va_up_ne _ _ (by first | assumption | omega)]; first | assumption | exact va_up_self _ _ _ | (rw [va_up_ne _ _ (by first | assumption | omega)]; first | assumption | exact va_up_self _ _ _ | (rw [va_up_ne _ _ (by first | assumption | omega)]; first | assumption | exact va_up_self _ _ _))))) (Nat.le_of_ble_eq_true rfl) (by rfl) ?_
  refine lg_aload_n hG dX3_init_60 rfl ?_
  refine lg_sipush hG dX3_init_61 (x := (1152)) (by decide) ?_
  refine lg_newI hG dX3_init_64 rfl (N := 1152) rfl (by decide) (by decide) (Nat.le_of_ble_eq_true rfl) (Nat.le_of_ble_eq_true rfl) ?_
  refine lg_put hG dX3_init_66 rfl (by first | assumption | omega) (by first | trivial | exact Or.inl rfl | exact Or.inr rfl | assumption | exact rfl) (by first | assumption | exact va_up_self _ _ _ | (rw [va_up_ne _ _ (by first | assumption | omega)]; first | assumption | exact va_up_self _ _ _ | (rw [va_up_ne _ _ (by first | assumption | omega)]; first | assumption | exact va_up_self _ _ _ | (rw [va_up_ne _ _ (by first | assumption | omega)]; first | assumption | exact va_up_self _ _ _ | (rw [va_up_ne _ _ (by first | assumption | omega)]; first | assumption | exact va_up_self _ _ _))))) (Nat.le_of_ble_eq_true rfl) (by rfl) ?_
  refine lg_aload_n hG dX3_init_69 rfl ?_
  refine lg_sipush hG dX3_init_70 (x := (1152)) (by decide) ?_
  refine lg_newI hG dX3_init_73 rfl (N := 1152) rfl (by decide) (by decide) (Nat.le_of_ble_eq_true rfl) (Nat.le_of_ble_eq_true rfl) ?_
  refine lg_put hG dX3_init_75 rfl (by first | assumption | omega) (by first | trivial | exact Or.inl rfl | exact Or.inr rfl | assumption | exact rfl) (by first | assumption | exact va_up_self _ _ _ | (rw [va_up_ne _ _ (by first | assumption | omega)]; first | assumption | exact va_up_self _ _ _ | (rw [va_up_ne _ _ (by first | assumption | omega)]; first | assumption | exact va_up_self _ _ _ | (rw [va_up_ne _ _ (by first | assumption | omega)]; first | assumption | exact va_up_self _ _ _ | (rw [va_up_ne _ _ (by first | assumption | omega)]; first | assumption | exact va_up_self _ _ _))))) (Nat.le_of_ble_eq_true rfl) (by rfl) ?_
  refine lg_aload_n hG dX3_init_78 rfl ?_
  refine lg_bipush hG dX3_init_79 (x := (12)) (by decide) ?_
  refine lg_newI hG dX3_init_81 rfl (N := 12) rfl (by decide) (by decide) (Nat.le_of_ble_eq_true rfl) (Nat.le_of_ble_eq_true rfl) ?_
  refine lg_put hG dX3_init_83 rfl (by first | assumption | omega) (by first | trivial | exact Or.inl rfl | exact Or.inr rfl | assumption | exact rfl) (by first | assumption | exact va_up_self _ _ _ | (rw [va_up_ne _ _ (by first | assumption | omega)]; first | assumption | exact va_up_self _ _ _ | (rw [va_up_ne _ _ (by first | assumption | omega)]; first | assumption | exact va_up_self _ _ _ | (rw [va_up_ne _ _ (by first | assumption | omega)]; first | assumption | exact va_up_self _ _ _ | (rw [va_up_ne _ _ (by first | assumption | omega)]; first | assumption | exact va_up_self _ _ _))))) (Nat.le_of_ble_eq_true rfl) (by rfl) ?_
  refine lg_aload_n hG dX3_init_86 rfl ?_
  refine lg_bipush hG dX3_init_87 (x := (12)) (by decide) ?_
  refine lg_newI hG dX3_init_89 rfl (N := 12) rfl (by decide) (by decide) (Nat.le_of_ble_eq_true rfl) (Nat.le_of_ble_eq_true rfl) ?_
  refine lg_put hG dX3_init_91 rfl (by first | assumption | omega) (by first | trivial | exact Or.inl rfl | exact Or.inr rfl | assumption | exact rfl) (by first | assumption | exact va_up_self _ _ _ | (rw [va_up_ne _ _ (by first | assumption | omega)]; first | assumption | exact va_up_self _ _ _ | (rw [va_up_ne _ _ (by first | assumption | omega)]; first | assumption | exact va_up_self _ _ _ | (rw [va_up_ne _ _ (by first | assumption | omega)]; first | assumption | exact va_up_self _ _ _ | (rw [va_up_ne _ _ (by first | assumption | omega)]; first | assumption | exact va_up_self _ _ _))))) (Nat.le_of_ble_eq_true rfl) (by rfl) ?_
  refine lg_aload_n hG dX3_init_94 rfl ?_
  refine lg_bipush hG dX3_init_95 (x := (12)) (by decide) ?_
  refine lg_newI hG dX3_init_97 rfl (N := 12) rfl (by decide) (by decide) (Nat.le_of_ble_eq_true rfl) (Nat.le_of_ble_eq_true rfl) ?_
  refine lg_put hG dX3_init_99 rfl (by first | assumption | omega) (by first | trivial | exact Or.inl rfl | exact Or.inr rfl | assumption | exact rfl) (by first | assumption | exact va_up_self _ _ _ | (rw [va_up_ne _ _ (by first | assumption | omega)]; first | assumption | exact va_up_self _ _ _ | (rw [va_up_ne _ _ (by first | assumption | omega)]; first | assumption | exact va_up_self _ _ _ | (rw [va_up_ne _ _ (by first | assumption | omega)]; first | assumption | exact va_up_self _ _ _ | (rw [va_up_ne _ _ (by first | assumption | omega)]; first | assumption | exact va_up_self _ _ _))))) (Nat.le_of_ble_eq_true rfl) (by rfl) ?_
  refine lg_aload_n hG dX3_init_102 rfl ?_
  refine lg_bipush hG dX3_init_103 (x := (12)) (by decide) ?_
  refine lg_newI hG dX3_init_105 rfl (N := 12) rfl (by decide) (by decide) (Nat.le_of_ble_eq_true rfl) (Nat.le_of_ble_eq_true rfl) ?_
  refine lg_put hG dX3_init_107 rfl (by first | assumption | omega) (by first | trivial | exact Or.inl rfl | exact Or.inr rfl | assumption | exact rfl) (by first | assumption | exact va_up_self _ _ _ | (rw [va_up_ne _ _ (by first | assumption | omega)]; first | assumption | exact va_up_self _ _ _ | (rw [va_up_ne _ _ (by first | assumption | omega)]; first | assumption | exact va_up_self _ _ _ | (rw [va_up_ne _ _ (by first | assumption | omega)]; first | assumption | exact va_up_self _ _ _ | (rw [va_up_ne _ _ (by first | assumption | omega)]; first | assumption | exact va_up_self _ _ _))))) (Nat.le_of_ble_eq_true rfl) (by rfl) ?_
  refine lg_aload_n hG dX3_init_110 rfl ?_
  refine lg_bipush hG dX3_init_111 (x := (48)) (by decide) ?_
  refine lg_newI hG dX3_init_113 rfl (N := 48) rfl (by decide) (by decide) (Nat.le_of_ble_eq_true rfl) (Nat.le_of_ble_eq_true rfl) ?_
  refine lg_put hG dX3_init_115 rfl (by first | assumption | omega) (by first | trivial | exact Or.inl rfl | exact Or.inr rfl | assumption | exact rfl) (by first | assumption | exact va_up_self _ _ _ | (rw [va_up_ne _ _ (by first | assumption | omega)]; first | assumption | exact va_up_self _ _ _ | (rw [va_up_ne _ _ (by first | assumption | omega)]; first | assumption | exact va_up_self _ _ _ | (rw [va_up_ne _ _ (by first | assumption | omega)]; first | assumption | exact va_up_self _ _ _ | (rw [va_up_ne _ _ (by first | assumption | omega)]; first | assumption | exact va_up_self _ _ _))))) (Nat.le_of_ble_eq_true rfl) (by rfl) ?_
  refine lg_aload_n hG dX3_init_118 rfl ?_
  refine lg_iconst hG dX3_init_119 (x := 4) (by decide) ?_
  refine lg_newI hG dX3_init_120 rfl (N := 4) rfl (by decide) (by decide) (Nat.le_of_ble_eq_true rfl) (Nat.le_of_ble_eq_true rfl) ?_
  refine lg_put hG dX3_init_122 rfl (by first | assumption | omega) (by first | trivial | exact Or.inl rfl | exact Or.inr rfl | assumption | exact rfl) (by first | assumption | exact va_up_self _ _ _ | (rw [va_up_ne _ _ (by first | assumption | omega)]; first | assumption | exact va_up_self _ _ _ | (rw [va_up_ne _ _ (by first | assumption | omega)]; first | assumption | exact va_up_self _ _ _ | (rw [va_up_ne _ _ (by first | assumption | omega)]; first | assumption | exact va_up_self _ _ _ | (rw [va_up_ne _ _ (by first | assumption | omega)]; first | assumption | exact va_up_self _ _ _))))) (Nat.le_of_ble_eq_true rfl) (by rfl) ?_
  refine lg_aload_n hG dX3_init_125 rfl ?_
  refine lg_bipush hG dX3_init_126 (x := (12)) (by decide) ?_
  refine lg_newI hG dX3_init_128 rfl (N := 12) rfl (by decide) (by decide) (Nat.le_of_ble_eq_true rfl) (Nat.le_of_ble_eq_true rfl) ?_
  refine lg_put hG dX3_init_130 rfl (by first | assumption | omega) (by first | trivial | exact Or.inl rfl | exact Or.inr rfl | assumption | exact rfl) (by first | assumption | exact va_up_self _ _ _ | (rw [va_up_ne _ _ (by first | assumption | omega)]; first | assumption | exact va_up_self _ _ _ | (rw [va_up_ne _ _ (by first | assumption | omega)]; first | assumption | exact va_up_self _ _ _ | (rw [va_up_ne _ _ (by first | assumption | omega)]; first | assumption | exact va_up_self _ _ _ | (rw [va_up_ne _ _ (by first | assumption | omega)]; first | assumption | exact va_up_self _ _ _))))) (Nat.le_of_ble_eq_true rfl) (by rfl) ?_
  refine lg_aload_n hG dX3_init_133 rfl ?_
  refine lg_bipush hG dX3_init_134 (x := (12)) (by decide) ?_
  refine lg_newZ hG dX3_init_136 rfl (N := 12) rfl (by decide) (by decide) (Nat.le_of_ble_eq_true rfl) (Nat.le_of_ble_eq_true rfl) ?_
  refine lg_put hG dX3_init_138 rfl (by first | assumption | omega) (by first | trivial | exact Or.inl rfl | exact Or.inr rfl | assumption | exact rfl) (by first | assumption | exact va_up_self _ _ _ | (rw [va_up_ne _ _ (by first | assumption | omega)]; first | assumption | exact va_up_self _ _ _ | (rw [va_up_ne _ _ (by first | assumption | omega)]; first | assumption | exact va_up_self _ _ _ | (rw [va_up_ne _ _ (by first | assumption | omega)]; first | assumption | exact va_up_self _ _ _ | (rw [va_up_ne _ _ (by first | assumption | omega)]; first | assumption | exact va_up_self _ _ _))))) (Nat.le_of_ble_eq_true rfl) (by rfl) ?_
  refine lg_aload_n hG dX3_init_141 rfl ?_
  refine lg_bipush hG dX3_init_142 (x := (48)) (by decide) ?_
  refine lg_newI hG dX3_init_144 rfl (N := 48) rfl (by decide) (by decide) (Nat.le_of_ble_eq_true rfl) (Nat.le_of_ble_eq_true rfl) ?_
  refine lg_put hG dX3_init_146 rfl (by first | assumption | omega) (by first | trivial | exact Or.inl rfl | exact Or.inr rfl | assumption | exact rfl) (by first | assumption | exact va_up_self _ _ _ | (rw [va_up_ne _ _ (by first | assumption | omega)]; first | assumption | exact va_up_self _ _ _ | (rw [va_up_ne _ _ (by first | assumption | omega)]; first | assumption | exact va_up_self _ _ _ | (rw [va_up_ne _ _ (by first | assumption | omega)]; first | assumption | exact va_up_self _ _ _ | (rw [va_up_ne _ _ (by first | assumption | omega)]; first | assumption | exact va_up_self _ _ _))))) (Nat.le_of_ble_eq_true rfl) (by rfl) ?_
  refine lg_iconst hG dX3_init_149 (x := 0) (by decide) ?_
  refine lg_istore_n hG dX3_init_150 (Nat.le_of_ble_eq_true rfl) rfl ?_
  refine loop 13 0 (fun _ _ => 0) _ (by omega) (by omega) ⟨by omega, by omega, va_up_self _ _ _, fun j hj => ?_, fun k hk => ?_⟩ (fun _ _ _ => rfl) (fun q hq => by omega) (fun q hq => by omega)
  · rcases (by omega : j = 0 ∨ j = 1 ∨ j = 2 ∨ j = 3 ∨ j = 4 ∨ j = 5 ∨ j = 6 ∨ j = 7 ∨ j = 8 ∨ j = 9 ∨ j = 10 ∨ j = 11 ∨ j = 12 ∨ j = 13 ∨ j = 14 ∨ j = 15 ∨ j = 16 ∨ j = 17) with rfl | rfl | rfl | rfl | rfl | rfl | rfl | rfl | rfl | rfl | rfl | rfl | rfl | rfl | rfl | rfl | rfl | rfl <;> rfl
  · repeat (rw [va_up_ne _ _ (by omega)])

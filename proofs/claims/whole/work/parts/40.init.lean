def Qi : Qs := ([], 0, 1, 96, 0, 0, false, 0, 0, 0, 0)
def zq0 : List Value := [.null, .null, .int 0, .int 0, .int 0, .int 0, .int 0, .int 0, .int 0, .int 0, .int 0, .int 0, .int 0, .int 0, .int 0]
def zq1 : List Value := [.null, .int 0]
def zq2 : List Value := [.null, .null, .int 0, .int 0, .int 0, .int 0, .int 0]

def ci_X0 (ids : Nat → ClassId) : Nat → Option lm_C := fun j => match j with
  | 3 => some (1, 0, (fun _ n L post _ => post none n L), 0, 0)
  | _ => none
def rm_X0_init : Room := { frames := 1, cells := 2, slots := 192, locals := 20 }
theorem ld_X0_init : yX0_init.cls ≠ "java/lang/invoke/MethodHandle" ∧ yX0_init.cls ≠ "java/lang/invoke/VarHandle" ∧ (parseMethodDescriptor yX0_init.desc).map (fun d => d.parameters.length) = some 0 := by decide +kernel
def sp_X0_init (ids : Nat → ClassId) : lm_S := fun As n L post _ => ∃ q : Nat, As = [.ref q] ∧ q < n ∧ L q = .inr (0, zq0) ∧ ∀ L1, (∀ k, k ≠ n → k ≠ n + 1 → k ≠ q → L1 k = L k) → L1 n = ia (ids 0) 96 (fun _ => 0) → L1 (n + 1) = ia (ids 0) 96 (fun _ => 0) → L1 q = qo n (n + 1) (qv 0 Qi) → post none (n + 2) L1
set_option maxHeartbeats 4000000 in
set_option maxRecDepth 20000 in
theorem ok_X0_init (l : Launch) (D : va_G) (ids : Nat → ClassId) (B b : Nat) : lm_M l D (lm_ty ids) B b true yX0_init cX0_init 1 none rm_X0_init 2 192 (sp_X0_init ids) := by
  refine lm_method (own := RX0) (fld := lf_0) (cv := (fun _ => none)) (cs := (fun _ => none)) (ci := (ci_X0 ids)) (kon := (fun _ => none)) (thr := (fun _ => none)) (nw := (fun _ => none)) (ini := true) (cp := none) (alc := true) (by decide +kernel) rfl rfl rfl (lf_0_ok _) ⟨?_, ?_⟩ ?_ (fun _ => rfl) ⟨(fun _ h => by cases h), (fun _ _ h => by cases h), (fun _ => ⟨rfl, lm_wt 112 rfl rfl, lm_wt 520 rfl rfl, lm_wt 629 rfl rfl⟩), (fun j f hf => by
    unfold ci_X0 at hf
    split at hf
    · cases hf; exact Or.inl ⟨rfl, rfl, lm_wt 58 rfl rfl, lm_wt 48 rfl rfl, lm_wt 49 rfl rfl, by decide, by decide⟩
    · cases hf)⟩ ?_ ?_
  · intro j f hf
    cases hf
  · intro j f hf
    cases hf
  · intro j v hv; cases hv
  · exact Or.inl fun _ => rfl
  rintro As n L post postX ⟨q, rfl, hq, hL, hp⟩
  refine ⟨by simp [Value.category], (Nat.le_of_ble_eq_true rfl), lm_cl_of ?_⟩
  intro G hG
  refine lg_aload_n hG dX0_init_0 rfl ?_
  refine lg_callI hG dX0_init_1 rfl (fun P h => h) (Nat.le_of_ble_eq_true rfl) (Nat.le_of_ble_eq_true rfl) (Nat.le_of_ble_eq_true rfl) ?_
  change G _ _ _ _ _ _ _
  refine lg_aload_n hG dX0_init_4 rfl ?_
  refine lg_bipush hG dX0_init_5 (x := (96)) (by decide) ?_
  refine lg_newI hG dX0_init_7 rfl (N := 96) rfl (by decide) (by decide) (Nat.le_of_ble_eq_true rfl) (Nat.le_of_ble_eq_true rfl) ?_
  refine lg_put hG dX0_init_9 rfl (by first | assumption | omega) (by first | trivial | exact Or.inl rfl | exact Or.inr rfl | assumption | exact rfl) (by first | assumption | exact va_up_self _ _ _ | (rw [va_up_ne _ _ (by first | assumption | omega)]; first | assumption | exact va_up_self _ _ _ | (rw [va_up_ne _ _ (by first | assumption | omega)]; first | assumption | exact va_up_self _ _ _ | (rw [va_up_ne _ _ (by first | assumption | omega)]; first | assumption | exact va_up_self _ _ _ | (rw [va_up_ne _ _ (by first | assumption | omega)]; first | assumption | exact va_up_self _ _ _))))) (Nat.le_of_ble_eq_true rfl) (by rfl) ?_
  refine lg_aload_n hG dX0_init_12 rfl ?_
  refine lg_bipush hG dX0_init_13 (x := (96)) (by decide) ?_
  refine lg_newI hG dX0_init_15 rfl (N := 96) rfl (by decide) (by decide) (Nat.le_of_ble_eq_true rfl) (Nat.le_of_ble_eq_true rfl) ?_
  refine lg_put hG dX0_init_17 rfl (by first | assumption | omega) (by first | trivial | exact Or.inl rfl | exact Or.inr rfl | assumption | exact rfl) (by first | assumption | exact va_up_self _ _ _ | (rw [va_up_ne _ _ (by first | assumption | omega)]; first | assumption | exact va_up_self _ _ _ | (rw [va_up_ne _ _ (by first | assumption | omega)]; first | assumption | exact va_up_self _ _ _ | (rw [va_up_ne _ _ (by first | assumption | omega)]; first | assumption | exact va_up_self _ _ _ | (rw [va_up_ne _ _ (by first | assumption | omega)]; first | assumption | exact va_up_self _ _ _))))) (Nat.le_of_ble_eq_true rfl) (by rfl) ?_
  refine lg_aload_n hG dX0_init_20 rfl ?_
  refine lg_iconst hG dX0_init_21 (x := 1) (by decide) ?_
  refine lg_put hG dX0_init_22 rfl (by first | assumption | omega) (by first | trivial | exact Or.inl rfl | exact Or.inr rfl | assumption | exact rfl) (by first | assumption | exact va_up_self _ _ _ | (rw [va_up_ne _ _ (by first | assumption | omega)]; first | assumption | exact va_up_self _ _ _ | (rw [va_up_ne _ _ (by first | assumption | omega)]; first | assumption | exact va_up_self _ _ _ | (rw [va_up_ne _ _ (by first | assumption | omega)]; first | assumption | exact va_up_self _ _ _ | (rw [va_up_ne _ _ (by first | assumption | omega)]; first | assumption | exact va_up_self _ _ _))))) (Nat.le_of_ble_eq_true rfl) (by rfl) ?_
  refine lg_aload_n hG dX0_init_25 rfl ?_
  refine lg_bipush hG dX0_init_26 (x := (96)) (by decide) ?_
  refine lg_put hG dX0_init_28 rfl (by first | assumption | omega) (by first | trivial | exact Or.inl rfl | exact Or.inr rfl | assumption | exact rfl) (by first | assumption | exact va_up_self _ _ _ | (rw [va_up_ne _ _ (by first | assumption | omega)]; first | assumption | exact va_up_self _ _ _ | (rw [va_up_ne _ _ (by first | assumption | omega)]; first | assumption | exact va_up_self _ _ _ | (rw [va_up_ne _ _ (by first | assumption | omega)]; first | assumption | exact va_up_self _ _ _ | (rw [va_up_ne _ _ (by first | assumption | omega)]; first | assumption | exact va_up_self _ _ _))))) (Nat.le_of_ble_eq_true rfl) (by rfl) ?_
  refine lg_vret hG dX0_init_31 (Nat.le_of_ble_eq_true rfl) (Nat.le_of_ble_eq_true rfl) ?_
  exact ⟨trivial, hp _ (fun k h1 h2 h3 => by repeat (first | rw [va_up_ne _ _ h3] | rw [va_up_ne _ _ h2] | rw [va_up_ne _ _ h1])) (by repeat (first | exact va_up_self _ _ _ | rw [va_up_ne _ _ (by omega)])) (by repeat (first | exact va_up_self _ _ _ | rw [va_up_ne _ _ (by omega)])) (va_up_self _ _ _)⟩

def ci_X1 (ids : Nat → ClassId) : Nat → Option lm_C := fun j => match j with
  | 3 => some (1, 0, (fun _ n L post _ => post none n L), 0, 0)
  | _ => none
def rm_X1_init : Room := { frames := 1, cells := 1, slots := 12, locals := 20 }
theorem ld_X1_init : yX1_init.cls ≠ "java/lang/invoke/MethodHandle" ∧ yX1_init.cls ≠ "java/lang/invoke/VarHandle" ∧ (parseMethodDescriptor yX1_init.desc).map (fun d => d.parameters.length) = some 0 := by decide +kernel
def sp_X1_init (ids : Nat → ClassId) : lm_S := fun As n L post _ => ∃ q : Nat, As = [.ref q] ∧ q < n ∧ L q = .inr (1, zq1) ∧ ∀ L1, (∀ k, k ≠ n → k ≠ q → L1 k = L k) → L1 n = ia (ids 0) 12 (fun _ => 0) → L1 q = ro n 0 → post none (n + 1) L1
set_option maxHeartbeats 4000000 in
set_option maxRecDepth 20000 in
theorem ok_X1_init (l : Launch) (D : va_G) (ids : Nat → ClassId) (B b : Nat) : lm_M l D (lm_ty ids) B b true yX1_init cX1_init 1 none rm_X1_init 1 12 (sp_X1_init ids) := by
  refine lm_method (own := RX1) (fld := lf_1) (cv := (fun _ => none)) (cs := (fun _ => none)) (ci := (ci_X1 ids)) (kon := (fun _ => none)) (thr := (fun _ => none)) (nw := (fun _ => none)) (ini := true) (cp := none) (alc := true) (by decide +kernel) rfl rfl rfl (lf_1_ok _) ⟨?_, ?_⟩ ?_ (fun _ => rfl) ⟨(fun _ h => by cases h), (fun _ _ h => by cases h), (fun _ => ⟨rfl, lm_wt 112 rfl rfl, lm_wt 520 rfl rfl, lm_wt 629 rfl rfl⟩), (fun j f hf => by
    unfold ci_X1 at hf
    split at hf
    · cases hf; exact Or.inl ⟨rfl, rfl, lm_wt 117 rfl rfl, lm_wt 48 rfl rfl, lm_wt 49 rfl rfl, by decide, by decide⟩
    · cases hf)⟩ ?_ ?_
  · intro j f hf
    cases hf
  · intro j f hf
    cases hf
  · intro j v hv; cases hv
  · exact Or.inl fun _ => rfl
  rintro As n L post postX ⟨q, rfl, hq, hL, hp⟩
  refine ⟨by simp [Value.category], (Nat.le_of_ble_eq_true rfl), lm_cl_of ?_⟩
  intro G hG
  refine lg_aload_n hG dX1_init_0 rfl ?_
  refine lg_callI hG dX1_init_1 rfl (fun P h => h) (Nat.le_of_ble_eq_true rfl) (Nat.le_of_ble_eq_true rfl) (Nat.le_of_ble_eq_true rfl) ?_
  change G _ _ _ _ _ _ _
  refine lg_aload_n hG dX1_init_4 rfl ?_
  refine lg_bipush hG dX1_init_5 (x := (12)) (by decide) ?_
  refine lg_newI hG dX1_init_7 rfl (N := 12) rfl (by decide) (by decide) (Nat.le_of_ble_eq_true rfl) (Nat.le_of_ble_eq_true rfl) ?_
  refine lg_put hG dX1_init_9 rfl (by first | assumption | omega) (by first | trivial | exact Or.inl rfl | exact Or.inr rfl | assumption | exact rfl) (by first | assumption | exact va_up_self _ _ _ | (rw [va_up_ne _ _ (by first | assumption | omega)]; first | assumption | exact va_up_self _ _ _ | (rw [va_up_ne _ _ (by first | assumption | omega)]; first | assumption | exact va_up_self _ _ _ | (rw [va_up_ne _ _ (by first | assumption | omega)]; first | assumption | exact va_up_self _ _ _ | (rw [va_up_ne _ _ (by first | assumption | omega)]; first | assumption | exact va_up_self _ _ _))))) (Nat.le_of_ble_eq_true rfl) (by rfl) ?_
  refine lg_vret hG dX1_init_12 (Nat.le_of_ble_eq_true rfl) (Nat.le_of_ble_eq_true rfl) ?_
  exact ⟨trivial, hp _ (fun k h1 h3 => by repeat (first | rw [va_up_ne _ _ h3] | rw [va_up_ne _ _ h1])) (by repeat (first | exact va_up_self _ _ _ | rw [va_up_ne _ _ (by omega)])) (va_up_self _ _ _)⟩

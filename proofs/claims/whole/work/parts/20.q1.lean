/-- a Queue's object: v by the number of the field -/
def qo (w c : Nat) (v : Nat → Int32) : va_E := .inr (0, [.ref w, .ref c, .int (v 2), .int (v 3), .int (v 4), .int (v 5), .int (v 6), .int (v 7), .int (v 8), .int (v 9), .int (v 10), .int (v 11), .int (v 12), .int (v 13), .int (v 14)])
def rm_X0_excess : Room := { frames := 0, cells := 0, slots := 0, locals := 0 }
def sp_X0_excess : lm_S := fun As n L post _ => ∃ q w c v, As = [.ref q] ∧ q < n ∧ L q = qo w c v ∧ post (some (.int (v 3 - v 8))) n L
set_option maxHeartbeats 4000000 in
set_option maxRecDepth 20000 in
theorem ok_X0_excess (l : Launch) (D : va_G) (ids : Nat → ClassId) (B b : Nat) : lm_M l D (lm_ty ids) B b false yX0_excess cX0_excess 1 (some .int) rm_X0_excess 0 0 sp_X0_excess := by
  refine lm_method (own := RX0) (fld := lf_0) (cv := (fun _ => none)) (cs := (fun _ => none)) (kon := (fun _ => none)) (thr := (fun _ => none)) (ini := false) (by decide) rfl rfl rfl (lf_0_ok _) ⟨?_, ?_⟩ ?_ (fun h => by cases h) ?_ ?_
  · intro j f hf
    cases hf
  · intro j f hf
    cases hf
  · intro j v hv; cases hv
  · exact Or.inl fun _ => rfl
  rintro As n L post postX ⟨q, w, c, v, rfl, hq, hL, hp⟩
  refine ⟨by simp [Value.category], (Nat.le_of_ble_eq_true rfl), lm_cl_of ?_⟩
  intro G hG
  refine lg_aload_n hG dX0_excess_0 rfl ?_
  refine lg_get hG dX0_excess_1 rfl (by first | assumption | omega) (by first | assumption | exact va_up_self _ _ _ | (rw [va_up_ne _ _ (by first | assumption | omega)]; first | assumption | exact va_up_self _ _ _ | (rw [va_up_ne _ _ (by first | assumption | omega)]; first | assumption | exact va_up_self _ _ _ | (rw [va_up_ne _ _ (by first | assumption | omega)]; first | assumption | exact va_up_self _ _ _ | (rw [va_up_ne _ _ (by first | assumption | omega)]; first | assumption | exact va_up_self _ _ _))))) (by rfl) ?_
  refine lg_aload_n hG dX0_excess_4 rfl ?_
  refine lg_get hG dX0_excess_5 rfl (by first | assumption | omega) (by first | assumption | exact va_up_self _ _ _ | (rw [va_up_ne _ _ (by first | assumption | omega)]; first | assumption | exact va_up_self _ _ _ | (rw [va_up_ne _ _ (by first | assumption | omega)]; first | assumption | exact va_up_self _ _ _ | (rw [va_up_ne _ _ (by first | assumption | omega)]; first | assumption | exact va_up_self _ _ _ | (rw [va_up_ne _ _ (by first | assumption | omega)]; first | assumption | exact va_up_self _ _ _))))) (by rfl) ?_
  refine lg_isub hG dX0_excess_8 rfl ?_
  refine lg_iret hG dX0_excess_9 (Nat.le_of_ble_eq_true rfl) (Nat.le_of_ble_eq_true rfl) ?_
  exact ⟨trivial, hp⟩

def sK (x : Qs) (k : Nat) : Qs := (qI x, k, qu x, qq x, qp x, qd x, qt x, q0 x, q1 x, q2 x, q3 x)
def sU (x : Qs) (u : Nat) : Qs := (qI x, qk x, u, qq x, qp x, qd x, qt x, q0 x, q1 x, q2 x, q3 x)
def sO (x : Qs) (o : Nat) : Qs := (qI x, qk x, qu x, o, qp x, qd x, qt x, q0 x, q1 x, q2 x, q3 x)
def sP (x : Qs) (p : Nat) : Qs := (qI x, qk x, qu x, qq x, p, qd x, qt x, q0 x, q1 x, q2 x, q3 x)
def sD (x : Qs) (d : Nat) : Qs := (qI x, qk x, qu x, qq x, qp x, d, qt x, q0 x, q1 x, q2 x, q3 x)
def sT (x : Qs) (t : Bool) : Qs := (qI x, qk x, qu x, qq x, qp x, qd x, t, q0 x, q1 x, q2 x, q3 x)
def s0 (x : Qs) (c : Int32) : Qs := (qI x, qk x, qu x, qq x, qp x, qd x, qt x, c, q1 x, q2 x, q3 x)
def s1 (x : Qs) (c : Int32) : Qs := (qI x, qk x, qu x, qq x, qp x, qd x, qt x, q0 x, c, q2 x, q3 x)
def s2 (x : Qs) (c : Int32) : Qs := (qI x, qk x, qu x, qq x, qp x, qd x, qt x, q0 x, q1 x, c, q3 x)
def s3 (x : Qs) (c : Int32) : Qs := (qI x, qk x, qu x, qq x, qp x, qd x, qt x, q0 x, q1 x, q2 x, c)
def adq (x : Qs) (w : Int32) (c : Nat) : Qs := s0 (sI x (qI x ++ [(w, c)])) (q0 x + 1)
def adR (Q : Nat → Qs) (R : Nat → List Nat) (q : Nat) : Nat → List Nat := if (qI (Q q)).length = 0 then va_up R (qk (Q q)) (R (qk (Q q)) ++ [q]) else R
def lvq (x : Qs) : Qs := sT (sD x 0) false
def lvR (Q : Nat → Qs) (R : Nat → List Nat) (q : Nat) : Nat → List Nat := va_up R (qk (Q q)) ((R (qk (Q q))).erase q)
def loq (x : Qs) (t : List (Int32 × Nat)) : Qs := s1 (sI x t) (q1 x + 1)
def srv (x : Qs) (y : Int32 × Nat) (t : List (Int32 × Nat)) : Qs := sI (s2 (s3 (sD (tkt x) (qd (tkt x) - y.2)) (q3 (tkt x) + nI y.2)) (q2 (tkt x) + 1)) t
theorem tkt_I (x : Qs) : qI (tkt x) = qI x := by unfold tkt; split <;> rfl
theorem tkt_k (x : Qs) : qk (tkt x) = qk x := by unfold tkt; split <;> rfl
theorem vlk_I (x : Qs) (k : Nat) : qI (vlk x k) = qI x := by unfold vlk; split <;> rfl
theorem vlk_k (x : Qs) (k : Nat) : qk (vlk x k) = qk x := by unfold vlk; split <;> rfl
def rm_X2_addItem : Room := { frames := 3, cells := 0, slots := 0, locals := 66 }
theorem ld_X2_addItem : yX2_addItem.cls ≠ "java/lang/invoke/MethodHandle" ∧ yX2_addItem.cls ≠ "java/lang/invoke/VarHandle" ∧ (parseMethodDescriptor yX2_addItem.desc).map (fun d => d.parameters.length) = some 4 := by decide +kernel
def sp_X2_addItem (ids : Nat → ClassId) : lm_S := fun As n L post postX => ∃ Q R g L0 q w c, CW ids n Q R g L0 L ∧ As = [.ref 0, .int (nI q), .ref (3 + 3 * q), .int w, .int (nI c)] ∧ q < 12 ∧ (qI (Q q)).length < 96 ∧ qk (Q q) < 4 ∧ ((qI (Q q)).length = 0 → (R (qk (Q q))).length < 12) ∧ ∀ L1, CW ids n (va_up Q q (adq (Q q) w c)) (adR Q R q) g L0 L1 → post none n L1
def cv_X2_addItem (ids : Nat → ClassId) : Nat → Option lm_C := fun j => match j with
  | 183 => some (3, 0, sp_X0_putLast ids, 0, 0)
  | 187 => some (2, 1, sp_X1_putAtEnd ids, 0, 0)
  | _ => none
set_option maxHeartbeats 4000000 in
set_option maxRecDepth 20000 in
theorem ok_X2_addItem (l : Launch) (D : va_G) (ids : Nat → ClassId) (B b : Nat) : lm_M l D (lm_ty ids) B b false yX2_addItem cX2_addItem 5 none rm_X2_addItem 0 0 (sp_X2_addItem ids) := by
  refine lm_method (own := RX2) (fld := lf_2) (cv := (cv_X2_addItem ids)) (cs := (fun _ => none)) (ci := (fun _ => none)) (kon := (fun _ => none)) (thr := (fun _ => none)) (nw := (fun _ => none)) (ini := false) (cp := none) (alc := false) (by decide +kernel) rfl rfl rfl (lf_2_ok _) ⟨?_, ?_⟩ ?_ (fun h => by cases h) (lm_aok0 _ _ _ _ _ _ _ _) ?_ ?_
  · intro j f hf
    unfold cv_X2_addItem at hf
    split at hf
    · cases hf; exact ⟨yX0_putLast, cX0_putLast, 4, none, rm_X0_putLast, RX0, TX0, 15, 2, rfl, rfl, ok_X0_putLast l D ids B b, lw_0_putLast, ll_2_183, rfl, rfl, ⟨rfl, ld_X0_putLast⟩, by decide⟩
    · cases hf; exact ⟨yX1_putAtEnd, cX1_putAtEnd, 2, none, rm_X1_putAtEnd, RX1, TX1, 2, 1, rfl, rfl, ok_X1_putAtEnd l D ids B b, lw_1_putAtEnd, ll_2_187, rfl, rfl, ⟨rfl, ld_X1_putAtEnd⟩, by decide⟩
    · cases hf
  · intro j f hf
    cases hf
  · intro j v hv; cases hv
  · exact Or.inl fun _ => rfl
  rintro As n L post postX ⟨Q, R, g, L0, q, w, c, hC, rfl, hq, hl, hk, hr, hp⟩
  refine ⟨by simp [Value.category], (Nat.le_of_ble_eq_true rfl), lm_cl_of ?_⟩
  intro G hG
  refine lg_aload_n hG dX2_addItem_0 rfl ?_
  refine lg_iload_n hG dX2_addItem_1 rfl ?_
  refine lg_iload hG dX2_addItem_2 rfl ?_
  refine cg_callQ hG hC dX2_addItem_4 rfl (fun P h => h) (by first | assumption | omega) (Nat.le_of_ble_eq_true rfl) (Nat.le_of_ble_eq_true rfl) (Nat.le_of_ble_eq_true rfl) ?_
  refine cq_put hC hq rfl hl (fun L hC => ?_)
  refine lg_aload_n hG dX2_addItem_7 rfl ?_
  refine lg_dup hG dX2_addItem_8 rfl ?_
  refine cg_get hG hC dX2_addItem_9 rfl (by first | assumption | omega) (va_up_self _ _ _) rfl ?_
  refine lg_iconst hG dX2_addItem_12 (x := 1) (by decide) ?_
  refine lg_iadd hG dX2_addItem_13 rfl ?_
  refine cg_put hG hC dX2_addItem_14 rfl (by first | assumption | omega) (va_up_self _ _ _) (by first | trivial | exact Or.inl rfl | exact Or.inr rfl | assumption) (by decide) (x' := adq (Q q) w c) rfl rfl (fun L hC => ?_)
  try rw [bx_uu] at hC
  refine lg_aload_n hG dX2_addItem_17 rfl ?_
  refine cg_get hG hC dX2_addItem_18 rfl (by first | assumption | omega) (va_up_self _ _ _) rfl ?_
  refine lg_iconst hG dX2_addItem_21 (x := 1) (by decide) ?_
  refine lg_icmp_ne hG dX2_addItem_22 (tgt := 38) (by decide) (by decide) (fun h_22 => ?_) (fun h_22 => ?_)
  · skip
    have e1 : ¬ (qI (Q q)).length = 0 := fun h => h_22 (by show nI (qI (Q q) ++ [(w, c)]).length = 1; rw [List.length_append, h]; rfl)
    unfold adR at hp
    rw [if_neg e1] at hp
    refine lg_vret hG dX2_addItem_38 (Nat.le_of_ble_eq_true rfl) (Nat.le_of_ble_eq_true rfl) ?_
    exact ⟨trivial, hp _ hC⟩
  · skip
    have e1 : (qI (Q q)).length = 0 := by
      have h9 : nI (qI (Q q) ++ [(w, c)]).length = nI 1 := h_22
      rw [List.length_append] at h9
      have := (nI_eq (by simp; omega) (by decide)).mp h9
      simpa using this
    unfold adR at hp
    rw [if_pos e1] at hp
    refine lg_aload_n hG dX2_addItem_25 rfl ?_
    refine cg_getg hG hC dX2_addItem_26 rfl rfl ?_
    refine lg_aload_n hG dX2_addItem_29 rfl ?_
    refine cg_get hG hC dX2_addItem_30 rfl (by first | assumption | omega) (va_up_self _ _ _) rfl ?_
    first | refine cg_aq hG hC dX2_addItem_33 rfl hk ?_ | refine cg_ar hG hC dX2_addItem_33 rfl hk ?_
    refine lg_iload_n hG dX2_addItem_34 rfl ?_
    refine cg_callR hG hC dX2_addItem_35 rfl (fun P h => h) hk (Nat.le_of_ble_eq_true rfl) (Nat.le_of_ble_eq_true rfl) (Nat.le_of_ble_eq_true rfl) ?_
    refine cr_put hC hk rfl hq (hr e1) (fun L hC => ?_)
    refine lg_vret hG dX2_addItem_38 (Nat.le_of_ble_eq_true rfl) (Nat.le_of_ble_eq_true rfl) ?_
    exact ⟨trivial, hp _ hC⟩

def rm_X2_leaveRing : Room := { frames := 2, cells := 0, slots := 0, locals := 48 }
theorem ld_X2_leaveRing : yX2_leaveRing.cls ≠ "java/lang/invoke/MethodHandle" ∧ yX2_leaveRing.cls ≠ "java/lang/invoke/VarHandle" ∧ (parseMethodDescriptor yX2_leaveRing.desc).map (fun d => d.parameters.length) = some 2 := by decide +kernel
def sp_X2_leaveRing (ids : Nat → ClassId) : lm_S := fun As n L post postX => ∃ Q R g L0 q, CW ids n Q R g L0 L ∧ As = [.ref 0, .int (nI q), .ref (3 + 3 * q)] ∧ q < 12 ∧ qk (Q q) < 4 ∧ q ∈ R (qk (Q q)) ∧ ∀ L1, CW ids n (va_up Q q (lvq (Q q))) (lvR Q R q) g L0 L1 → post none n L1
def cv_X2_leaveRing (ids : Nat → ClassId) : Nat → Option lm_C := fun j => match j with
  | 193 => some (2, 1, sp_X1_takeOut ids, 0, 0)
  | _ => none
set_option maxHeartbeats 4000000 in
set_option maxRecDepth 20000 in
theorem ok_X2_leaveRing (l : Launch) (D : va_G) (ids : Nat → ClassId) (B b : Nat) : lm_M l D (lm_ty ids) B b false yX2_leaveRing cX2_leaveRing 3 none rm_X2_leaveRing 0 0 (sp_X2_leaveRing ids) := by
  refine lm_method (own := RX2) (fld := lf_2) (cv := (cv_X2_leaveRing ids)) (cs := (fun _ => none)) (ci := (fun _ => none)) (kon := (fun _ => none)) (thr := (fun _ => none)) (nw := (fun _ => none)) (ini := false) (cp := none) (alc := false) (by decide +kernel) rfl rfl rfl (lf_2_ok _) ⟨?_, ?_⟩ ?_ (fun h => by cases h) (lm_aok0 _ _ _ _ _ _ _ _) ?_ ?_
  · intro j f hf
    unfold cv_X2_leaveRing at hf
    split at hf
    · cases hf; exact ⟨yX1_takeOut, cX1_takeOut, 3, none, rm_X1_takeOut, RX1, TX1, 2, 1, rfl, rfl, ok_X1_takeOut l D ids B b, lw_1_takeOut, ll_2_193, rfl, rfl, ⟨rfl, ld_X1_takeOut⟩, by decide⟩
    · cases hf
  · intro j f hf
    cases hf
  · intro j v hv; cases hv
  · exact Or.inl fun _ => rfl
  rintro As n L post postX ⟨Q, R, g, L0, q, hC, rfl, hq, hk, hr, hp⟩
  refine ⟨by simp [Value.category], (Nat.le_of_ble_eq_true rfl), lm_cl_of ?_⟩
  intro G hG
  refine lg_aload_n hG dX2_leaveRing_0 rfl ?_
  refine cg_getg hG hC dX2_leaveRing_1 rfl rfl ?_
  refine lg_aload_n hG dX2_leaveRing_4 rfl ?_
  refine cg_get hG hC dX2_leaveRing_5 rfl (by first | assumption | omega) rfl rfl ?_
  first | refine cg_aq hG hC dX2_leaveRing_8 rfl hk ?_ | refine cg_ar hG hC dX2_leaveRing_8 rfl hk ?_
  refine lg_iload_n hG dX2_leaveRing_9 rfl ?_
  refine cg_callR hG hC dX2_leaveRing_10 rfl (fun P h => h) hk (Nat.le_of_ble_eq_true rfl) (Nat.le_of_ble_eq_true rfl) (Nat.le_of_ble_eq_true rfl) ?_
  refine cr_take hC hk rfl hr (fun L hC => ?_)
  refine lg_aload_n hG dX2_leaveRing_13 rfl ?_
  refine lg_iconst hG dX2_leaveRing_14 (x := 0) (by decide) ?_
  refine cg_put hG hC dX2_leaveRing_15 rfl (by first | assumption | omega) rfl (by first | trivial | exact Or.inl rfl | exact Or.inr rfl | assumption) (by decide) (x' := sD (Q q) 0) rfl rfl (fun L hC => ?_)
  try rw [bx_uu] at hC
  refine lg_aload_n hG dX2_leaveRing_18 rfl ?_
  refine lg_iconst hG dX2_leaveRing_19 (x := 0) (by decide) ?_
  refine cg_put hG hC dX2_leaveRing_20 rfl (by first | assumption | omega) (va_up_self _ _ _) (by first | trivial | exact Or.inl rfl | exact Or.inr rfl | assumption) (by decide) (x' := lvq (Q q)) rfl rfl (fun L hC => ?_)
  try rw [bx_uu] at hC
  refine lg_vret hG dX2_leaveRing_23 (Nat.le_of_ble_eq_true rfl) (Nat.le_of_ble_eq_true rfl) ?_
  exact ⟨trivial, hp _ hC⟩

def rm_X2_loseLastItem : Room := { frames := 4, cells := 0, slots := 0, locals := 84 }
theorem ld_X2_loseLastItem : yX2_loseLastItem.cls ≠ "java/lang/invoke/MethodHandle" ∧ yX2_loseLastItem.cls ≠ "java/lang/invoke/VarHandle" ∧ (parseMethodDescriptor yX2_loseLastItem.desc).map (fun d => d.parameters.length) = some 1 := by decide +kernel
def sp_X2_loseLastItem (ids : Nat → ClassId) : lm_S := fun As n L post postX => ∃ Q R g L0 q y t, CW ids n Q R g L0 L ∧ As = [.ref 0, .int (nI q)] ∧ q < 12 ∧ qI (Q q) = t ++ [y] ∧ qk (Q q) < 4 ∧ q ∈ R (qk (Q q)) ∧ ∀ L1, CW ids n (va_up Q q (if t.length = 0 then lvq (loq (Q q) t) else loq (Q q) t)) (if t.length = 0 then lvR Q R q else R) (upd g 2 (g 2 + 1)) L0 L1 → post none n L1
def cv_X2_loseLastItem (ids : Nat → ClassId) : Nat → Option lm_C := fun j => match j with
  | 114 => some (3, 2, sp_X2_leaveRing ids, 0, 0)
  | 190 => some (1, 0, sp_X0_dropLast ids, 0, 0)
  | _ => none
set_option maxHeartbeats 4000000 in
set_option maxRecDepth 20000 in
theorem ok_X2_loseLastItem (l : Launch) (D : va_G) (ids : Nat → ClassId) (B b : Nat) : lm_M l D (lm_ty ids) B b false yX2_loseLastItem cX2_loseLastItem 3 none rm_X2_loseLastItem 0 0 (sp_X2_loseLastItem ids) := by
  refine lm_method (own := RX2) (fld := lf_2) (cv := (cv_X2_loseLastItem ids)) (cs := (fun _ => none)) (ci := (fun _ => none)) (kon := (fun _ => none)) (thr := (fun _ => none)) (nw := (fun _ => none)) (ini := false) (cp := none) (alc := false) (by decide +kernel) rfl rfl rfl (lf_2_ok _) ⟨?_, ?_⟩ ?_ (fun h => by cases h) (lm_aok0 _ _ _ _ _ _ _ _) ?_ ?_
  · intro j f hf
    unfold cv_X2_loseLastItem at hf
    split at hf
    · cases hf; exact ⟨yX2_leaveRing, cX2_leaveRing, 3, none, rm_X2_leaveRing, RX2, TX2, 7, 2, rfl, rfl, ok_X2_leaveRing l D ids B b, lw_2_leaveRing, ll_2_114, rfl, rfl, ⟨rfl, ld_X2_leaveRing⟩, by decide⟩
    · cases hf; exact ⟨yX0_dropLast, cX0_dropLast, 1, none, rm_X0_dropLast, RX0, TX0, 15, 0, rfl, rfl, ok_X0_dropLast l D ids B b, lw_0_dropLast, ll_2_190, rfl, rfl, ⟨rfl, ld_X0_dropLast⟩, by decide⟩
    · cases hf
  · intro j f hf
    cases hf
  · intro j v hv; cases hv
  · exact Or.inl fun _ => rfl
  rintro As n L post postX ⟨Q, R, g, L0, q, y, t, hC, rfl, hq, hy, hk, hr, hp⟩
  refine ⟨by simp [Value.category], (Nat.le_of_ble_eq_true rfl), lm_cl_of ?_⟩
  intro G hG
  have hlt : t.length < 96 := by
    have := hC.blen hq
    rw [hy] at this
    simp at this
    omega
  refine lg_aload_n hG dX2_loseLastItem_0 rfl ?_
  refine cg_getg hG hC dX2_loseLastItem_1 rfl rfl ?_
  refine lg_iload_n hG dX2_loseLastItem_4 rfl ?_
  first | refine cg_aq hG hC dX2_loseLastItem_5 rfl (by first | assumption | omega) ?_ | refine cg_ar hG hC dX2_loseLastItem_5 rfl (by first | assumption | omega) ?_
  refine lg_astore_n hG dX2_loseLastItem_6 (Nat.le_of_ble_eq_true rfl) rfl ?_
  refine lg_aload_n hG dX2_loseLastItem_7 rfl ?_
  refine cg_callQ hG hC dX2_loseLastItem_8 rfl (fun P h => h) (by first | assumption | omega) (Nat.le_of_ble_eq_true rfl) (Nat.le_of_ble_eq_true rfl) (Nat.le_of_ble_eq_true rfl) ?_
  refine cq_dropL hC hq rfl hy (fun L hC => ?_)
  refine lg_aload_n hG dX2_loseLastItem_11 rfl ?_
  refine lg_dup hG dX2_loseLastItem_12 rfl ?_
  refine cg_get hG hC dX2_loseLastItem_13 rfl (by first | assumption | omega) (va_up_self _ _ _) rfl ?_
  refine lg_iconst hG dX2_loseLastItem_16 (x := 1) (by decide) ?_
  refine lg_iadd hG dX2_loseLastItem_17 rfl ?_
  refine cg_put hG hC dX2_loseLastItem_18 rfl (by first | assumption | omega) (va_up_self _ _ _) (by first | trivial | exact Or.inl rfl | exact Or.inr rfl | assumption) (by decide) (x' := loq (Q q) t) rfl rfl (fun L hC => ?_)
  try rw [bx_uu] at hC
  refine lg_aload_n hG dX2_loseLastItem_21 rfl ?_
  refine lg_dup hG dX2_loseLastItem_22 rfl ?_
  refine cg_getg hG hC dX2_loseLastItem_23 rfl rfl ?_
  refine lg_iconst hG dX2_loseLastItem_26 (x := 1) (by decide) ?_
  refine lg_iadd hG dX2_loseLastItem_27 rfl ?_
  refine cg_putg hG hC dX2_loseLastItem_28 rfl (by first | trivial | exact Or.inl rfl | exact Or.inr rfl | assumption) (by decide) (g' := upd g 2 (g 2 + 1)) rfl (fun L hC => ?_)
  refine lg_aload_n hG dX2_loseLastItem_31 rfl ?_
  refine cg_get hG hC dX2_loseLastItem_32 rfl (by first | assumption | omega) (va_up_self _ _ _) rfl ?_
  refine lg_if_ne hG dX2_loseLastItem_35 (tgt := 44) (by decide) (by decide) (fun h_35 => ?_) (fun h_35 => ?_)
  · skip
    have e1 : ¬ t.length = 0 := fun h => h_35 (by show nI t.length = 0; rw [h]; rfl)
    rw [if_neg e1, if_neg e1] at hp
    refine lg_vret hG dX2_loseLastItem_44 (Nat.le_of_ble_eq_true rfl) (Nat.le_of_ble_eq_true rfl) ?_
    first | exact ⟨trivial, hp⟩ | exact ⟨trivial, hp _ hC⟩
  · skip
    have e1 : t.length = 0 := by
      have h9 : nI t.length = nI 0 := h_35
      exact (nI_eq (by omega) (by decide)).mp h9
    rw [if_pos e1, if_pos e1] at hp
    refine lg_aload_n hG dX2_loseLastItem_38 rfl ?_
    refine lg_iload_n hG dX2_loseLastItem_39 rfl ?_
    refine lg_aload_n hG dX2_loseLastItem_40 rfl ?_
    refine cg_callO hG hC dX2_loseLastItem_41 rfl (fun P h => h) (Nat.le_of_ble_eq_true rfl) (Nat.le_of_ble_eq_true rfl) (Nat.le_of_ble_eq_true rfl) ?_
    refine ⟨_, _, _, _, q, hC, rfl, hq, by rw [va_up_self]; exact hk, by rw [va_up_self]; exact hr, fun L1 hC1 => ?_⟩
    have hp := hp L1 (by rw [va_up_self, bx_uu] at hC1; unfold lvR at hC1; rw [va_up_self] at hC1; exact hC1)
    refine lg_vret hG dX2_loseLastItem_44 (Nat.le_of_ble_eq_true rfl) (Nat.le_of_ble_eq_true rfl) ?_
    first | exact ⟨trivial, hp⟩ | exact ⟨trivial, hp _ hC⟩

def rm_X2_changeClass : Room := { frames := 2, cells := 0, slots := 0, locals := 48 }
theorem ld_X2_changeClass : yX2_changeClass.cls ≠ "java/lang/invoke/MethodHandle" ∧ yX2_changeClass.cls ≠ "java/lang/invoke/VarHandle" ∧ (parseMethodDescriptor yX2_changeClass.desc).map (fun d => d.parameters.length) = some 3 := by decide +kernel
def sp_X2_changeClass (ids : Nat → ClassId) : lm_S := fun As n L post postX => ∃ Q R g L0 q j, CW ids n Q R g L0 L ∧ As = [.ref 0, .int (nI q), .ref (3 + 3 * q), .int (nI j)] ∧ q < 12 ∧ j < 4 ∧ j ≠ qk (Q q) ∧ qk (Q q) < 4 ∧ (0 < (qI (Q q)).length → q ∈ R (qk (Q q)) ∧ (R j).length < 12) ∧ ∀ L1, CW ids n (va_up Q q (sK (sT (Q q) false) j)) (if 0 < (qI (Q q)).length then va_up (va_up R (qk (Q q)) ((R (qk (Q q))).erase q)) j (R j ++ [q]) else R) g L0 L1 → post none n L1
def cv_X2_changeClass (ids : Nat → ClassId) : Nat → Option lm_C := fun j => match j with
  | 187 => some (2, 1, sp_X1_putAtEnd ids, 0, 0)
  | 193 => some (2, 1, sp_X1_takeOut ids, 0, 0)
  | _ => none
set_option maxHeartbeats 4000000 in
set_option maxRecDepth 20000 in
theorem ok_X2_changeClass (l : Launch) (D : va_G) (ids : Nat → ClassId) (B b : Nat) : lm_M l D (lm_ty ids) B b false yX2_changeClass cX2_changeClass 4 none rm_X2_changeClass 0 0 (sp_X2_changeClass ids) := by
  refine lm_method (own := RX2) (fld := lf_2) (cv := (cv_X2_changeClass ids)) (cs := (fun _ => none)) (ci := (fun _ => none)) (kon := (fun _ => none)) (thr := (fun _ => none)) (nw := (fun _ => none)) (ini := false) (cp := none) (alc := false) (by decide +kernel) rfl rfl rfl (lf_2_ok _) ⟨?_, ?_⟩ ?_ (fun h => by cases h) (lm_aok0 _ _ _ _ _ _ _ _) ?_ ?_
  · intro j f hf
    unfold cv_X2_changeClass at hf
    split at hf
    · cases hf; exact ⟨yX1_putAtEnd, cX1_putAtEnd, 2, none, rm_X1_putAtEnd, RX1, TX1, 2, 1, rfl, rfl, ok_X1_putAtEnd l D ids B b, lw_1_putAtEnd, ll_2_187, rfl, rfl, ⟨rfl, ld_X1_putAtEnd⟩, by decide⟩
    · cases hf; exact ⟨yX1_takeOut, cX1_takeOut, 3, none, rm_X1_takeOut, RX1, TX1, 2, 1, rfl, rfl, ok_X1_takeOut l D ids B b, lw_1_takeOut, ll_2_193, rfl, rfl, ⟨rfl, ld_X1_takeOut⟩, by decide⟩
    · cases hf
  · intro j f hf
    cases hf
  · intro j v hv; cases hv
  · exact Or.inl fun _ => rfl
  rintro As n L post postX ⟨Q, R, g, L0, q, j, hC, rfl, hq, hj, hjk, hk, hr, hp⟩
  refine ⟨by simp [Value.category], (Nat.le_of_ble_eq_true rfl), lm_cl_of ?_⟩
  intro G hG
  have hlq := hC.blen hq
  refine lg_aload_n hG dX2_changeClass_0 rfl ?_
  refine cg_get hG hC dX2_changeClass_1 rfl (by first | assumption | omega) rfl rfl ?_
  refine lg_if_le hG dX2_changeClass_4 (tgt := 30) (by decide) (by decide) (fun h_4 => ?_) (fun h_4 => ?_)
  · skip
    have e1 : ¬ 0 < (qI (Q q)).length := fun h => absurd h_4 (nI_nle h (by omega))
    rw [if_neg e1] at hp
    refine lg_aload_n hG dX2_changeClass_30 rfl ?_
    refine lg_iconst hG dX2_changeClass_31 (x := 0) (by decide) ?_
    refine cg_put hG hC dX2_changeClass_32 rfl (by first | assumption | omega) rfl (by first | trivial | exact Or.inl rfl | exact Or.inr rfl | assumption) (by decide) (x' := sT (Q q) false) rfl rfl (fun L hC => ?_)
    try rw [bx_uu] at hC
    refine lg_aload_n hG dX2_changeClass_35 rfl ?_
    refine lg_iload_n hG dX2_changeClass_36 rfl ?_
    refine cg_put hG hC dX2_changeClass_37 rfl (by first | assumption | omega) (va_up_self _ _ _) (by first | trivial | exact Or.inl rfl | exact Or.inr rfl | assumption) (by decide) (x' := sK (sT (Q q) false) j) rfl rfl (fun L hC => ?_)
    try rw [bx_uu] at hC
    refine lg_vret hG dX2_changeClass_40 (Nat.le_of_ble_eq_true rfl) (Nat.le_of_ble_eq_true rfl) ?_
    exact ⟨trivial, hp _ hC⟩
  · skip
    have e1 : 0 < (qI (Q q)).length := by
      rcases Nat.eq_zero_or_pos (qI (Q q)).length with h | h
      · exact absurd (by rw [h]; decide) h_4
      · exact h
    rw [if_pos e1] at hp
    obtain ⟨hr1, hr2⟩ := hr e1
    refine lg_aload_n hG dX2_changeClass_7 rfl ?_
    refine cg_getg hG hC dX2_changeClass_8 rfl rfl ?_
    refine lg_aload_n hG dX2_changeClass_11 rfl ?_
    refine cg_get hG hC dX2_changeClass_12 rfl (by first | assumption | omega) rfl rfl ?_
    first | refine cg_aq hG hC dX2_changeClass_15 rfl hk ?_ | refine cg_ar hG hC dX2_changeClass_15 rfl hk ?_
    refine lg_iload_n hG dX2_changeClass_16 rfl ?_
    refine cg_callR hG hC dX2_changeClass_17 rfl (fun P h => h) hk (Nat.le_of_ble_eq_true rfl) (Nat.le_of_ble_eq_true rfl) (Nat.le_of_ble_eq_true rfl) ?_
    refine cr_take hC hk rfl hr1 (fun L hC => ?_)
    refine lg_aload_n hG dX2_changeClass_20 rfl ?_
    refine cg_getg hG hC dX2_changeClass_21 rfl rfl ?_
    refine lg_iload_n hG dX2_changeClass_24 rfl ?_
    first | refine cg_aq hG hC dX2_changeClass_25 rfl hj ?_ | refine cg_ar hG hC dX2_changeClass_25 rfl hj ?_
    refine lg_iload_n hG dX2_changeClass_26 rfl ?_
    refine cg_callR hG hC dX2_changeClass_27 rfl (fun P h => h) hj (Nat.le_of_ble_eq_true rfl) (Nat.le_of_ble_eq_true rfl) (Nat.le_of_ble_eq_true rfl) ?_
    refine cr_put hC hj (va_up_ne _ _ hjk) hq hr2 (fun L hC => ?_)
    refine lg_aload_n hG dX2_changeClass_30 rfl ?_
    refine lg_iconst hG dX2_changeClass_31 (x := 0) (by decide) ?_
    refine cg_put hG hC dX2_changeClass_32 rfl (by first | assumption | omega) rfl (by first | trivial | exact Or.inl rfl | exact Or.inr rfl | assumption) (by decide) (x' := sT (Q q) false) rfl rfl (fun L hC => ?_)
    try rw [bx_uu] at hC
    refine lg_aload_n hG dX2_changeClass_35 rfl ?_
    refine lg_iload_n hG dX2_changeClass_36 rfl ?_
    refine cg_put hG hC dX2_changeClass_37 rfl (by first | assumption | omega) (va_up_self _ _ _) (by first | trivial | exact Or.inl rfl | exact Or.inr rfl | assumption) (by decide) (x' := sK (sT (Q q) false) j) rfl rfl (fun L hC => ?_)
    try rw [bx_uu] at hC
    refine lg_vret hG dX2_changeClass_40 (Nat.le_of_ble_eq_true rfl) (Nat.le_of_ble_eq_true rfl) ?_
    exact ⟨trivial, hp _ hC⟩

def rm_X2_firstRingWithQueues : Room := { frames := 0, cells := 0, slots := 0, locals := 0 }
theorem ld_X2_firstRingWithQueues : yX2_firstRingWithQueues.cls ≠ "java/lang/invoke/MethodHandle" ∧ yX2_firstRingWithQueues.cls ≠ "java/lang/invoke/VarHandle" ∧ (parseMethodDescriptor yX2_firstRingWithQueues.desc).map (fun d => d.parameters.length) = some 0 := by decide +kernel
def sp_X2_firstRingWithQueues (ids : Nat → ClassId) : lm_S := fun As n L post postX => ∃ Q R g L0, CW ids n Q R g L0 L ∧ As = [.ref 0] ∧ (∀ c, c < 4 → 0 < (R c).length → (∀ d, d < c → (R d).length = 0) → post (some (.ref (39 + 2 * c))) n L) ∧ ((∀ c, c < 4 → (R c).length = 0) → post (some .null) n L)
set_option maxHeartbeats 4000000 in
set_option maxRecDepth 20000 in
theorem ok_X2_firstRingWithQueues (l : Launch) (D : va_G) (ids : Nat → ClassId) (B b : Nat) : lm_M l D (lm_ty ids) B b false yX2_firstRingWithQueues cX2_firstRingWithQueues 5 (some (.object "SharedQueues$Ring")) rm_X2_firstRingWithQueues 0 0 (sp_X2_firstRingWithQueues ids) := by
  refine lm_method (own := RX2) (fld := lf_2) (cv := (fun _ => none)) (cs := (fun _ => none)) (ci := (fun _ => none)) (kon := (fun _ => none)) (thr := (fun _ => none)) (nw := (fun _ => none)) (ini := false) (cp := none) (alc := false) (by decide +kernel) rfl rfl rfl (lf_2_ok _) ⟨?_, ?_⟩ ?_ (fun h => by cases h) (lm_aok0 _ _ _ _ _ _ _ _) ?_ ?_
  · intro j f hf
    cases hf
  · intro j f hf
    cases hf
  · intro j v hv; cases hv
  · exact Or.inl fun _ => rfl
  rintro As n L post postX ⟨Q, R, g, L0, hC, rfl, hp, hpn⟩
  refine ⟨by simp [Value.category], (Nat.le_of_ble_eq_true rfl), lm_cl_of ?_⟩
  intro G hG
  have loop : ∀ (m k : Nat), k ≤ 4 → 4 - k < m → (∀ d, d < k → (R d).length = 0) → ∀ z, G 10 [some (.ref 0), some (.ref 2), some (.int (nI 4)), some (.int (nI k)), z] [] n L 0 0 := by
    intro m
    induction m with
    | zero => intro k h1 h2; omega
    | succ m ih =>
      intro k hk hkm h0 z
      refine lg_iload_n hG dX2_firstRingWithQueues_10 rfl ?_
      refine lg_iload_n hG dX2_firstRingWithQueues_11 rfl ?_
      refine lg_icmp_ge hG dX2_firstRingWithQueues_12 (tgt := 37) (by decide) (by decide) (fun h_12 => ?_) (fun h_12 => ?_)
      · skip
        have hkl : k = 4 := by
          rcases Nat.lt_or_ge k 4 with h | h
          · exact absurd (nI_lt h (by omega)) h_12
          · omega
        subst hkl
        have hp := hpn h0
        refine lg_null hG dX2_firstRingWithQueues_37 ?_
        refine lg_aretN hG dX2_firstRingWithQueues_38 (Nat.le_of_ble_eq_true rfl) (Nat.le_of_ble_eq_true rfl) ?_
        exact ⟨trivial, hp⟩
      · skip
        have hkl : k < 4 := (nI_ltI (by omega) (by omega)).mp h_12
        obtain ⟨f9, -, -, hl9, -⟩ := hC.2.2.2.2.2.1 k hkl
        refine lg_aload_n hG dX2_firstRingWithQueues_15 rfl ?_
        refine lg_iload_n hG dX2_firstRingWithQueues_16 rfl ?_
        first | refine cg_aq hG hC dX2_firstRingWithQueues_17 rfl (by first | assumption | omega) ?_ | refine cg_ar hG hC dX2_firstRingWithQueues_17 rfl (by first | assumption | omega) ?_
        refine lg_astore hG dX2_firstRingWithQueues_18 (Nat.le_of_ble_eq_true rfl) rfl ?_
        refine lg_aload hG dX2_firstRingWithQueues_20 rfl ?_
        refine cg_size hG hC dX2_firstRingWithQueues_22 rfl hkl rfl ?_
        refine lg_if_le hG dX2_firstRingWithQueues_25 (tgt := 31) (by decide) (by decide) (fun h_25 => ?_) (fun h_25 => ?_)
        · skip
          have e1 : (R k).length = 0 := by
            rcases Nat.eq_zero_or_pos (R k).length with h | h
            · exact h
            · exact absurd h_25 (nI_nle h (by omega))
          refine lg_iinc hG dX2_firstRingWithQueues_31 (Nat.le_of_ble_eq_true rfl) rfl rfl rfl ?_
          refine lg_goto hG dX2_firstRingWithQueues_34 (tgt := 10) (by decide) (by decide) ?_
          rw [show nI k + Int32.ofInt 1 = nI (k + 1) from nI_1 k]
          exact ih (k + 1) (by omega) (by omega) (fun d hd => by rcases Nat.lt_succ_iff_lt_or_eq.mp hd with h | h; exact h0 d h; rw [h]; exact e1) _
        · skip
          have e1 : 0 < (R k).length := by
            rcases Nat.eq_zero_or_pos (R k).length with h | h
            · exact absurd (by rw [h]; decide) h_25
            · exact h
          have hp := hp k hkl e1 h0
          refine lg_aload hG dX2_firstRingWithQueues_28 rfl ?_
          refine lg_aret hG dX2_firstRingWithQueues_30 (Nat.le_of_ble_eq_true rfl) (Nat.le_of_ble_eq_true rfl) ?_
          exact ⟨trivial, hp⟩
  refine lg_aload_n hG dX2_firstRingWithQueues_0 rfl ?_
  refine cg_getg hG hC dX2_firstRingWithQueues_1 rfl rfl ?_
  refine lg_astore_n hG dX2_firstRingWithQueues_4 (Nat.le_of_ble_eq_true rfl) rfl ?_
  refine lg_aload_n hG dX2_firstRingWithQueues_5 rfl ?_
  first | refine cg_lenq hG hC dX2_firstRingWithQueues_6 rfl ?_ | refine cg_lenr hG hC dX2_firstRingWithQueues_6 rfl ?_
  refine lg_istore_n hG dX2_firstRingWithQueues_7 (Nat.le_of_ble_eq_true rfl) rfl ?_
  refine lg_iconst hG dX2_firstRingWithQueues_8 (x := 0) (by decide) ?_
  refine lg_istore_n hG dX2_firstRingWithQueues_9 (Nat.le_of_ble_eq_true rfl) rfl ?_
  exact loop 5 0 (by omega) (by omega) (fun d hd => by omega) _

/-- a ring whose queues may be looked at -/
def LG (Q : Nat → Qs) (l : List Nat) : Prop := ∀ z ∈ l, z < 12 ∧ (∃ y t, qI (Q z) = y :: t ∧ y.2 < 2 ^ 19) ∧ qd (Q z) < 2 ^ 28 ∧ 0 < qu (Q z) ∧ qu (Q z) < 2 ^ 28
theorem lkv_le {t : Bool} {d u p : Nat} (hu : 0 < u) : lkv t d u p ≤ p := by
  unfold lkv
  have h1 : p - (if t then d else d + u) + (u - 1) ≤ p + (u - 1) := by omega
  refine Nat.le_of_lt_succ ((Nat.div_lt_iff_lt_mul hu).mpr ?_)
  refine Nat.lt_of_le_of_lt h1 ?_
  rw [Nat.succ_mul]
  have : p ≤ p * u := Nat.le_mul_of_pos_right p hu
  omega
theorem LG.lt {Q : Nat → Qs} {l : List Nat} (h : LG Q l) {z : Nat} (hz : z ∈ l) : lkx (Q z) < 2 ^ 19 := by
  obtain ⟨-, ⟨y, t, hy, hp⟩, -, hu, -⟩ := h z hz
  unfold lkx
  rw [hy]
  exact Nat.lt_of_le_of_lt (lkv_le hu) hp
/-- the first place, of the first k, of those looked at in vain least often -/
def PN (Q : Nat → Qs) (l : List Nat) (k p z : Nat) : Prop := l[p]? = some z ∧ p < k ∧ ∀ i x, i < k → l[i]? = some x → lkx (Q z) ≤ lkx (Q x) ∧ (i < p → lkx (Q z) < lkx (Q x))
theorem PN.one {Q : Nat → Qs} {l : List Nat} {z : Nat} (h : l[0]? = some z) : PN Q l 1 0 z := by
  refine ⟨h, by omega, fun i x hi hx => ?_⟩
  have : i = 0 := by omega
  subst this
  cases Option.some.inj (h.symm.trans hx)
  exact ⟨Nat.le_refl _, fun h => by omega⟩
theorem PN.keep {Q : Nat → Qs} {l : List Nat} {k p z x : Nat} (h : PN Q l k p z) (hx : l[k]? = some x) (h2 : lkx (Q z) ≤ lkx (Q x)) : PN Q l (k + 1) p z := by
  obtain ⟨a, b, c⟩ := h
  refine ⟨a, by omega, fun i y hi hy => ?_⟩
  rcases Nat.lt_succ_iff_lt_or_eq.mp hi with h | h
  · exact c i y h hy
  · subst h
    cases Option.some.inj (hx.symm.trans hy)
    exact ⟨h2, fun h => by omega⟩
theorem PN.next {Q : Nat → Qs} {l : List Nat} {k p z x : Nat} (h : PN Q l k p z) (hx : l[k]? = some x) (h2 : lkx (Q x) < lkx (Q z)) : PN Q l (k + 1) k x := by
  obtain ⟨a, b, c⟩ := h
  refine ⟨hx, by omega, fun i y hi hy => ?_⟩
  rcases Nat.lt_succ_iff_lt_or_eq.mp hi with h | h
  · have := (c i y h hy).1
    exact ⟨by omega, fun _ => by omega⟩
  · subst h
    cases Option.some.inj (hx.symm.trans hy)
    exact ⟨Nat.le_refl _, fun h => by omega⟩
def rm_X2_placeServedNext : Room := { frames := 2, cells := 0, slots := 0, locals := 42 }
theorem ld_X2_placeServedNext : yX2_placeServedNext.cls ≠ "java/lang/invoke/MethodHandle" ∧ yX2_placeServedNext.cls ≠ "java/lang/invoke/VarHandle" ∧ (parseMethodDescriptor yX2_placeServedNext.desc).map (fun d => d.parameters.length) = some 1 := by decide +kernel
def sp_X2_placeServedNext (ids : Nat → ClassId) : lm_S := fun As n L post postX => ∃ Q R g L0 c l, CW ids n Q R g L0 L ∧ As = [.ref 0, .ref (39 + 2 * c)] ∧ c < 4 ∧ R c = l ∧ 0 < l.length ∧ LG Q l ∧ ∀ p z, PN Q l l.length p z → post (some (.int (nI p))) n L
def cv_X2_placeServedNext (ids : Nat → ClassId) : Nat → Option lm_C := fun j => match j with
  | 87 => some (2, 1, sp_X1_queueAt ids, 0, 0)
  | 199 => some (1, 0, sp_X0_looksInVain ids, 0, 0)
  | _ => none
set_option maxHeartbeats 4000000 in
set_option maxRecDepth 20000 in
theorem ok_X2_placeServedNext (l : Launch) (D : va_G) (ids : Nat → ClassId) (B b : Nat) : lm_M l D (lm_ty ids) B b false yX2_placeServedNext cX2_placeServedNext 6 (some .int) rm_X2_placeServedNext 0 0 (sp_X2_placeServedNext ids) := by
  refine lm_method (own := RX2) (fld := lf_2) (cv := (cv_X2_placeServedNext ids)) (cs := (fun _ => none)) (ci := (fun _ => none)) (kon := (fun _ => none)) (thr := (fun _ => none)) (nw := (fun _ => none)) (ini := false) (cp := none) (alc := false) (by decide +kernel) rfl rfl rfl (lf_2_ok _) ⟨?_, ?_⟩ ?_ (fun h => by cases h) (lm_aok0 _ _ _ _ _ _ _ _) ?_ ?_
  · intro j f hf
    unfold cv_X2_placeServedNext at hf
    split at hf
    · cases hf; exact ⟨yX1_queueAt, cX1_queueAt, 2, (some .int), rm_X1_queueAt, RX1, TX1, 2, 1, rfl, rfl, ok_X1_queueAt l D ids B b, lw_1_queueAt, ll_2_87, rfl, rfl, ⟨rfl, ld_X1_queueAt⟩, by decide⟩
    · cases hf; exact ⟨yX0_looksInVain, cX0_looksInVain, 3, (some .int), rm_X0_looksInVain, RX0, TX0, 15, 0, rfl, rfl, ok_X0_looksInVain l D ids B b, lw_0_looksInVain, ll_2_199, rfl, rfl, ⟨rfl, ld_X0_looksInVain⟩, by decide⟩
    · cases hf
  · intro j f hf
    cases hf
  · intro j v hv; cases hv
  · exact Or.inl fun _ => rfl
  rintro As n L post postX ⟨Q, R, g, L0, c, l, hC, rfl, hc, hl, hl0, hg, hp⟩
  refine ⟨by simp [Value.category], (Nat.le_of_ble_eq_true rfl), lm_cl_of ?_⟩
  intro G hG
  obtain ⟨z0, hz0⟩ : ∃ z, l[0]? = some z := ⟨_, List.getElem?_eq_getElem hl0⟩
  have hl12 : l.length ≤ 12 := by
    obtain ⟨f9, -, -, hl9, -⟩ := hC.2.2.2.2.2.1 c hc
    rw [hl] at hl9
    exact hl9
  have loop : ∀ (m k p z : Nat), k ≤ l.length → l.length - k < m → PN Q l k p z → ∀ w, G 19 [some (.ref 0), some (.ref (39 + 2 * c)), some (.int (nI p)), some (.int (nI (lkx (Q z)))), some (.int (nI k)), w] [] n L 0 0 := by
    intro m
    induction m with
    | zero => intro k p z h1 h2; omega
    | succ m ih =>
      intro k p z hk hkm hP w
      refine lg_iload hG dX2_placeServedNext_19 rfl ?_
      refine lg_aload_n hG dX2_placeServedNext_21 rfl ?_
      refine cg_size hG hC dX2_placeServedNext_22 rfl hc hl ?_
      refine lg_icmp_ge hG dX2_placeServedNext_25 (tgt := 62) (by decide) (by decide) (fun h_25 => ?_) (fun h_25 => ?_)
      · skip
        have hkl : k = l.length := by
          rcases Nat.lt_or_ge k l.length with h | h
          · exact absurd (nI_lt h (by omega)) h_25
          · omega
        subst hkl
        have hp := hp p z hP
        refine lg_iload_n hG dX2_placeServedNext_62 rfl ?_
        refine lg_iret hG dX2_placeServedNext_63 (Nat.le_of_ble_eq_true rfl) (Nat.le_of_ble_eq_true rfl) ?_
        exact ⟨trivial, hp⟩
      · skip
        have hkl : k < l.length := (nI_ltI (by omega) (by omega)).mp h_25
        obtain ⟨x, hx⟩ : ∃ z, l[k]? = some z := ⟨_, List.getElem?_eq_getElem hkl⟩
        obtain ⟨c1, ⟨y1, t1, c2, c3⟩, c4, c5, c6⟩ := hg x (List.mem_of_getElem? hx)
        have hlt1 := hg.lt (List.mem_of_getElem? hx)
        have hltz := hg.lt (List.mem_of_getElem? hP.1)
        refine lg_aload_n hG dX2_placeServedNext_28 rfl ?_
        refine cg_getg hG hC dX2_placeServedNext_29 rfl rfl ?_
        refine lg_aload_n hG dX2_placeServedNext_32 rfl ?_
        refine lg_iload hG dX2_placeServedNext_33 rfl ?_
        refine cg_callR hG hC dX2_placeServedNext_35 rfl (fun P h => h) hc (Nat.le_of_ble_eq_true rfl) (Nat.le_of_ble_eq_true rfl) (Nat.le_of_ble_eq_true rfl) ?_
        refine cr_at hC hc hl hx ?_
        first | refine cg_aq hG hC dX2_placeServedNext_38 rfl c1 ?_ | refine cg_ar hG hC dX2_placeServedNext_38 rfl c1 ?_
        refine cg_callQ hG hC dX2_placeServedNext_39 rfl (fun P h => h) c1 (Nat.le_of_ble_eq_true rfl) (Nat.le_of_ble_eq_true rfl) (Nat.le_of_ble_eq_true rfl) ?_
        refine cq_looks hC c1 rfl c2 c4 c5 c6 (by omega) ?_
        refine lg_istore hG dX2_placeServedNext_42 (Nat.le_of_ble_eq_true rfl) rfl ?_
        refine lg_iload hG dX2_placeServedNext_44 rfl ?_
        refine lg_iload_n hG dX2_placeServedNext_46 rfl ?_
        refine lg_icmp_ge hG dX2_placeServedNext_47 (tgt := 56) (by decide) (by decide) (fun h_47 => ?_) (fun h_47 => ?_)
        · skip
          have e1 : lkx (Q z) ≤ lkx (Q x) := by
            rcases Nat.lt_or_ge (lkx (Q x)) (lkx (Q z)) with h | h
            · exact absurd (nI_lt h (by omega)) h_47
            · exact h
          have hP := hP.keep hx e1
          refine lg_iinc hG dX2_placeServedNext_56 (Nat.le_of_ble_eq_true rfl) rfl rfl rfl ?_
          refine lg_goto hG dX2_placeServedNext_59 (tgt := 19) (by decide) (by decide) ?_
          rw [show nI k + Int32.ofInt 1 = nI (k + 1) from nI_1 k]
          exact ih (k + 1) _ _ (by omega) (by omega) hP _
        · skip
          have e1 : lkx (Q x) < lkx (Q z) := (nI_ltI (by omega) (by omega)).mp h_47
          have hP := hP.next hx e1
          refine lg_iload hG dX2_placeServedNext_50 rfl ?_
          refine lg_istore_n hG dX2_placeServedNext_52 (Nat.le_of_ble_eq_true rfl) rfl ?_
          refine lg_iload hG dX2_placeServedNext_53 rfl ?_
          refine lg_istore_n hG dX2_placeServedNext_55 (Nat.le_of_ble_eq_true rfl) rfl ?_
          refine lg_iinc hG dX2_placeServedNext_56 (Nat.le_of_ble_eq_true rfl) rfl rfl rfl ?_
          refine lg_goto hG dX2_placeServedNext_59 (tgt := 19) (by decide) (by decide) ?_
          rw [show nI k + Int32.ofInt 1 = nI (k + 1) from nI_1 k]
          exact ih (k + 1) _ _ (by omega) (by omega) hP _
  refine lg_iconst hG dX2_placeServedNext_0 (x := 0) (by decide) ?_
  refine lg_istore_n hG dX2_placeServedNext_1 (Nat.le_of_ble_eq_true rfl) rfl ?_
  refine lg_aload_n hG dX2_placeServedNext_2 rfl ?_
  refine cg_getg hG hC dX2_placeServedNext_3 rfl rfl ?_
  refine lg_aload_n hG dX2_placeServedNext_6 rfl ?_
  refine lg_iconst hG dX2_placeServedNext_7 (x := 0) (by decide) ?_
  refine cg_callR hG hC dX2_placeServedNext_8 rfl (fun P h => h) hc (Nat.le_of_ble_eq_true rfl) (Nat.le_of_ble_eq_true rfl) (Nat.le_of_ble_eq_true rfl) ?_
  refine cr_at (i := 0) hC hc hl hz0 ?_
  obtain ⟨c1, ⟨y1, t1, c2, c3⟩, c4, c5, c6⟩ := hg z0 (List.mem_of_getElem? hz0)
  have hlt1 := hg.lt (List.mem_of_getElem? hz0)
  first | refine cg_aq hG hC dX2_placeServedNext_11 rfl c1 ?_ | refine cg_ar hG hC dX2_placeServedNext_11 rfl c1 ?_
  refine cg_callQ hG hC dX2_placeServedNext_12 rfl (fun P h => h) c1 (Nat.le_of_ble_eq_true rfl) (Nat.le_of_ble_eq_true rfl) (Nat.le_of_ble_eq_true rfl) ?_
  refine cq_looks hC c1 rfl c2 c4 c5 c6 (by omega) ?_
  refine lg_istore_n hG dX2_placeServedNext_15 (Nat.le_of_ble_eq_true rfl) rfl ?_
  refine lg_iconst hG dX2_placeServedNext_16 (x := 1) (by decide) ?_
  refine lg_istore hG dX2_placeServedNext_17 (Nat.le_of_ble_eq_true rfl) rfl ?_
  exact loop (l.length + 1) 1 0 z0 (by omega) (by omega) (PN.one hz0) _

/-- the first i of the ring's queues have been looked at in vain, r times or, before the place p, r + 1 -/
def btf (Q : Nat → Qs) (l : List Nat) (p r i : Nat) : Nat → Qs := fun q => if q ∈ l.take i then vlk (Q q) (if l.idxOf q < p then r + 1 else r) else Q q
theorem btf_zero (Q : Nat → Qs) (l : List Nat) (p r : Nat) : btf Q l p r 0 = Q := by
  funext q
  unfold btf
  simp
theorem nd_tk : ∀ (l : List Nat), l.Nodup → ∀ (i x : Nat), l[i]? = some x → x ∉ l.take i
  | [], _, i, x, h => by simp at h
  | y :: l, hn, 0, x, h => by simp
  | y :: l, hn, i + 1, x, h => by
    have h1 := List.nodup_cons.mp hn
    have h2 : l[i]? = some x := h
    rw [List.take_succ_cons]
    intro h3
    rcases List.mem_cons.mp h3 with h4 | h4
    · subst h4; exact h1.1 (List.mem_of_getElem? h2)
    · exact nd_tk l h1.2 i x h2 h4
theorem nd_take {l : List Nat} (hn : l.Nodup) {i x : Nat} (hx : l[i]? = some x) : x ∉ l.take i ∧ l.idxOf x = i :=
  ⟨nd_tk l hn i x hx, (rg_idx l i x hx (nd_tk l hn i x hx)).2⟩
theorem btf_at {Q : Nat → Qs} {l : List Nat} {p r i x : Nat} (hn : l.Nodup) (hx : l[i]? = some x) : btf Q l p r i x = Q x := by
  unfold btf
  rw [if_neg (nd_take hn hx).1]
theorem btf_succ {Q : Nat → Qs} {l : List Nat} {p r i x : Nat} (hn : l.Nodup) (hx : l[i]? = some x) : va_up (btf Q l p r i) x (vlk (Q x) (if i < p then r + 1 else r)) = btf Q l p r (i + 1) := by
  funext q
  have ht : l.take (i + 1) = l.take i ++ [x] := by rw [List.take_add_one, hx]; rfl
  by_cases e : q = x
  · subst e
    rw [va_up_self]
    unfold btf
    rw [if_pos (show q ∈ l.take (i + 1) by rw [ht]; simp), (nd_take hn hx).2]
  · rw [va_up_ne _ _ e]
    unfold btf
    have : q ∈ l.take (i + 1) ↔ q ∈ l.take i := by rw [ht]; simp [e]
    simp only [this]
theorem btf_cg {ids : Nat → ClassId} {n : Nat} {A B : Nat → Qs} {R : Nat → List Nat} {g : Nat → Int32} {L0 L : lm_L} {x j : Nat} {v : Qs} (h2 : va_up A x (vlk v j) = B) {i : Nat} (hC : CW ids n (va_up A x (vlk v i)) R g L0 L) (hi : i = j) : CW ids n B R g L0 L := by
  subst hi
  rw [h2] at hC
  exact hC
def rm_X2_bringToFront : Room := { frames := 3, cells := 0, slots := 0, locals := 71 }
theorem ld_X2_bringToFront : yX2_bringToFront.cls ≠ "java/lang/invoke/MethodHandle" ∧ yX2_bringToFront.cls ≠ "java/lang/invoke/VarHandle" ∧ (parseMethodDescriptor yX2_bringToFront.desc).map (fun d => d.parameters.length) = some 2 := by decide +kernel
def sp_X2_bringToFront (ids : Nat → ClassId) : lm_S := fun As n L post postX => ∃ Q R g L0 c l p z, CW ids n Q R g L0 L ∧ As = [.ref 0, .ref (39 + 2 * c), .int (nI p)] ∧ c < 4 ∧ R c = l ∧ l.Nodup ∧ LG Q l ∧ l[p]? = some z ∧ ∀ L1, CW ids n (btf Q l p (lkx (Q z)) l.length) (va_up R c (l.drop p ++ l.take p)) g L0 L1 → post none n L1
def cv_X2_bringToFront (ids : Nat → ClassId) : Nat → Option lm_C := fun j => match j with
  | 87 => some (2, 1, sp_X1_queueAt ids, 0, 0)
  | 199 => some (1, 0, sp_X0_looksInVain ids, 0, 0)
  | 202 => some (2, 0, sp_X0_lookInVain ids, 0, 0)
  | 205 => some (2, 1, sp_X1_turnBy ids, 0, 0)
  | _ => none
set_option maxHeartbeats 4000000 in
set_option maxRecDepth 20000 in
theorem ok_X2_bringToFront (l : Launch) (D : va_G) (ids : Nat → ClassId) (B b : Nat) : lm_M l D (lm_ty ids) B b false yX2_bringToFront cX2_bringToFront 5 none rm_X2_bringToFront 0 0 (sp_X2_bringToFront ids) := by
  refine lm_method (own := RX2) (fld := lf_2) (cv := (cv_X2_bringToFront ids)) (cs := (fun _ => none)) (ci := (fun _ => none)) (kon := (fun _ => none)) (thr := (fun _ => none)) (nw := (fun _ => none)) (ini := false) (cp := none) (alc := false) (by decide +kernel) rfl rfl rfl (lf_2_ok _) ⟨?_, ?_⟩ ?_ (fun h => by cases h) (lm_aok0 _ _ _ _ _ _ _ _) ?_ ?_
  · intro j f hf
    unfold cv_X2_bringToFront at hf
    split at hf
    · cases hf; exact ⟨yX1_queueAt, cX1_queueAt, 2, (some .int), rm_X1_queueAt, RX1, TX1, 2, 1, rfl, rfl, ok_X1_queueAt l D ids B b, lw_1_queueAt, ll_2_87, rfl, rfl, ⟨rfl, ld_X1_queueAt⟩, by decide⟩
    · cases hf; exact ⟨yX0_looksInVain, cX0_looksInVain, 3, (some .int), rm_X0_looksInVain, RX0, TX0, 15, 0, rfl, rfl, ok_X0_looksInVain l D ids B b, lw_0_looksInVain, ll_2_199, rfl, rfl, ⟨rfl, ld_X0_looksInVain⟩, by decide⟩
    · cases hf; exact ⟨yX0_lookInVain, cX0_lookInVain, 3, none, rm_X0_lookInVain, RX0, TX0, 15, 1, rfl, rfl, ok_X0_lookInVain l D ids B b, lw_0_lookInVain, ll_2_202, rfl, rfl, ⟨rfl, ld_X0_lookInVain⟩, by decide⟩
    · cases hf; exact ⟨yX1_turnBy, cX1_turnBy, 4, none, rm_X1_turnBy, RX1, TX1, 2, 1, rfl, rfl, ok_X1_turnBy l D ids B b, lw_1_turnBy, ll_2_205, rfl, rfl, ⟨rfl, ld_X1_turnBy⟩, by decide⟩
    · cases hf
  · intro j f hf
    cases hf
  · intro j v hv; cases hv
  · exact Or.inl fun _ => rfl
  rintro As n L post postX ⟨Q, R, g, L0, c, l, p, z, hC, rfl, hc, hl, hn, hg, hz, hp⟩
  refine ⟨by simp [Value.category], (Nat.le_of_ble_eq_true rfl), lm_cl_of ?_⟩
  intro G hG
  have hpl : p < l.length := (List.getElem?_eq_some_iff.mp hz).1
  have hl12 : l.length ≤ 12 := by
    obtain ⟨f9, -, -, hl9, -⟩ := hC.2.2.2.2.2.1 c hc
    rw [hl] at hl9
    exact hl9
  obtain ⟨c1, ⟨y1, t1, c2, c3⟩, c4, c5, c6⟩ := hg z (List.mem_of_getElem? hz)
  have hlt1 := hg.lt (List.mem_of_getElem? hz)
  have loop : ∀ (m k : Nat) (L : lm_L), k ≤ l.length → l.length - k < m → CW ids n (btf Q l p (lkx (Q z)) k) R g L0 L → G 17 [some (.ref 0), some (.ref (39 + 2 * c)), some (.int (nI p)), some (.int (nI (lkx (Q z)))), some (.int (nI k))] [] n L 0 0 := by
    intro m
    induction m with
    | zero => intro k L h1 h2; omega
    | succ m ih =>
      intro k L hk hkm hC
      refine lg_iload hG dX2_bringToFront_17 rfl ?_
      refine lg_aload_n hG dX2_bringToFront_19 rfl ?_
      refine cg_size hG hC dX2_bringToFront_20 rfl hc hl ?_
      refine lg_icmp_ge hG dX2_bringToFront_23 (tgt := 59) (by decide) (by decide) (fun h_23 => ?_) (fun h_23 => ?_)
      · skip
        have hkl : k = l.length := by
          rcases Nat.lt_or_ge k l.length with h | h
          · exact absurd (nI_lt h (by omega)) h_23
          · omega
        subst hkl
        refine lg_aload_n hG dX2_bringToFront_59 rfl ?_
        refine lg_iload_n hG dX2_bringToFront_60 rfl ?_
        refine cg_callR hG hC dX2_bringToFront_61 rfl (fun P h => h) hc (Nat.le_of_ble_eq_true rfl) (Nat.le_of_ble_eq_true rfl) (Nat.le_of_ble_eq_true rfl) ?_
        refine cr_turn hC hc hl (by omega) (fun L hC => ?_)
        refine lg_vret hG dX2_bringToFront_64 (Nat.le_of_ble_eq_true rfl) (Nat.le_of_ble_eq_true rfl) ?_
        exact ⟨trivial, hp _ hC⟩
      · skip
        have hkl : k < l.length := (nI_ltI (by omega) (by omega)).mp h_23
        obtain ⟨x, hx⟩ : ∃ z, l[k]? = some z := ⟨_, List.getElem?_eq_getElem hkl⟩
        have hx12 : x < 12 := (hg x (List.mem_of_getElem? hx)).1
        refine lg_aload_n hG dX2_bringToFront_26 rfl ?_
        refine cg_getg hG hC dX2_bringToFront_27 rfl rfl ?_
        refine lg_aload_n hG dX2_bringToFront_30 rfl ?_
        refine lg_iload hG dX2_bringToFront_31 rfl ?_
        refine cg_callR hG hC dX2_bringToFront_33 rfl (fun P h => h) hc (Nat.le_of_ble_eq_true rfl) (Nat.le_of_ble_eq_true rfl) (Nat.le_of_ble_eq_true rfl) ?_
        refine cr_at hC hc hl hx ?_
        first | refine cg_aq hG hC dX2_bringToFront_36 rfl hx12 ?_ | refine cg_ar hG hC dX2_bringToFront_36 rfl hx12 ?_
        refine lg_iload hG dX2_bringToFront_37 rfl ?_
        refine lg_iload_n hG dX2_bringToFront_39 rfl ?_
        refine lg_icmp_ge hG dX2_bringToFront_40 (tgt := 49) (by decide) (by decide) (fun h_40 => ?_) (fun h_40 => ?_)
        · skip
          have e1 : ¬ k < p := fun h => h_40 (nI_lt h (by omega))
          refine lg_iload_n hG dX2_bringToFront_49 rfl ?_
          refine cg_callQ hG hC dX2_bringToFront_50 rfl (fun P h => h) hx12 (Nat.le_of_ble_eq_true rfl) (Nat.le_of_ble_eq_true rfl) (Nat.le_of_ble_eq_true rfl) ?_
          refine cq_vain hC hx12 (btf_at hn hx) (by omega) (fun L hC => ?_)
          have hC := btf_cg (btf_succ (p := p) (r := lkx (Q z)) hn hx) hC (by first | rw [if_pos e1] | rw [if_neg e1])
          refine lg_iinc hG dX2_bringToFront_53 (Nat.le_of_ble_eq_true rfl) rfl rfl rfl ?_
          refine lg_goto hG dX2_bringToFront_56 (tgt := 17) (by decide) (by decide) ?_
          rw [show nI k + Int32.ofInt 1 = nI (k + 1) from nI_1 k]
          exact ih (k + 1) L (by omega) (by omega) hC
        · skip
          have e1 : k < p := (nI_ltI (by omega) (by omega)).mp h_40
          refine lg_iload_n hG dX2_bringToFront_43 rfl ?_
          refine lg_iconst hG dX2_bringToFront_44 (x := 1) (by decide) ?_
          refine lg_iadd hG dX2_bringToFront_45 (nI_1 (lkx (Q z))) ?_
          refine lg_goto hG dX2_bringToFront_46 (tgt := 50) (by decide) (by decide) ?_
          refine cg_callQ hG hC dX2_bringToFront_50 rfl (fun P h => h) hx12 (Nat.le_of_ble_eq_true rfl) (Nat.le_of_ble_eq_true rfl) (Nat.le_of_ble_eq_true rfl) ?_
          refine cq_vain hC hx12 (btf_at hn hx) (by omega) (fun L hC => ?_)
          have hC := btf_cg (btf_succ (p := p) (r := lkx (Q z)) hn hx) hC (by first | rw [if_pos e1] | rw [if_neg e1])
          refine lg_iinc hG dX2_bringToFront_53 (Nat.le_of_ble_eq_true rfl) rfl rfl rfl ?_
          refine lg_goto hG dX2_bringToFront_56 (tgt := 17) (by decide) (by decide) ?_
          rw [show nI k + Int32.ofInt 1 = nI (k + 1) from nI_1 k]
          exact ih (k + 1) L (by omega) (by omega) hC
  refine lg_aload_n hG dX2_bringToFront_0 rfl ?_
  refine cg_getg hG hC dX2_bringToFront_1 rfl rfl ?_
  refine lg_aload_n hG dX2_bringToFront_4 rfl ?_
  refine lg_iload_n hG dX2_bringToFront_5 rfl ?_
  refine cg_callR hG hC dX2_bringToFront_6 rfl (fun P h => h) hc (Nat.le_of_ble_eq_true rfl) (Nat.le_of_ble_eq_true rfl) (Nat.le_of_ble_eq_true rfl) ?_
  refine cr_at hC hc hl hz ?_
  first | refine cg_aq hG hC dX2_bringToFront_9 rfl c1 ?_ | refine cg_ar hG hC dX2_bringToFront_9 rfl c1 ?_
  refine cg_callQ hG hC dX2_bringToFront_10 rfl (fun P h => h) c1 (Nat.le_of_ble_eq_true rfl) (Nat.le_of_ble_eq_true rfl) (Nat.le_of_ble_eq_true rfl) ?_
  refine cq_looks hC c1 rfl c2 c4 c5 c6 (by omega) ?_
  refine lg_istore_n hG dX2_bringToFront_13 (Nat.le_of_ble_eq_true rfl) rfl ?_
  refine lg_iconst hG dX2_bringToFront_14 (x := 0) (by decide) ?_
  refine lg_istore hG dX2_bringToFront_15 (Nat.le_of_ble_eq_true rfl) rfl ?_
  exact loop (l.length + 1) 0 L (by omega) (by omega) (by rw [btf_zero]; exact hC)

def rm_X2_serveFirstItem : Room := { frames := 3, cells := 0, slots := 0, locals := 70 }
theorem ld_X2_serveFirstItem : yX2_serveFirstItem.cls ≠ "java/lang/invoke/MethodHandle" ∧ yX2_serveFirstItem.cls ≠ "java/lang/invoke/VarHandle" ∧ (parseMethodDescriptor yX2_serveFirstItem.desc).map (fun d => d.parameters.length) = some 1 := by decide +kernel
def sp_X2_serveFirstItem (ids : Nat → ClassId) : lm_S := fun As n L post postX => ∃ Q R g L0 q y t, CW ids n Q R g L0 L ∧ As = [.ref 0, .int (nI q)] ∧ q < 12 ∧ qI (Q q) = y :: t ∧ qk (Q q) < 4 ∧ q ∈ R (qk (Q q)) ∧ y.2 ≤ qd (tkt (Q q)) ∧ ∀ L1, CW ids n (va_up Q q (if t.length = 0 then lvq (srv (Q q) y t) else srv (Q q) y t)) (if t.length = 0 then lvR Q R q else R) (upd (upd g 0 y.1) 1 (g 1 + 1)) L0 L1 → post none n L1
def cv_X2_serveFirstItem (ids : Nat → ClassId) : Nat → Option lm_C := fun j => match j with
  | 105 => some (1, 0, sp_X0_firstCost ids, 0, 0)
  | 114 => some (3, 2, sp_X2_leaveRing ids, 0, 0)
  | 155 => some (2, 0, sp_X0_wordAt ids, 0, 0)
  | 208 => some (1, 0, sp_X0_takeTurn ids, 0, 0)
  | 211 => some (1, 0, sp_X0_dropFirst ids, 0, 0)
  | _ => none
set_option maxHeartbeats 4000000 in
set_option maxRecDepth 20000 in
theorem ok_X2_serveFirstItem (l : Launch) (D : va_G) (ids : Nat → ClassId) (B b : Nat) : lm_M l D (lm_ty ids) B b false yX2_serveFirstItem cX2_serveFirstItem 4 none rm_X2_serveFirstItem 0 0 (sp_X2_serveFirstItem ids) := by
  refine lm_method (own := RX2) (fld := lf_2) (cv := (cv_X2_serveFirstItem ids)) (cs := (fun _ => none)) (ci := (fun _ => none)) (kon := (fun _ => none)) (thr := (fun _ => none)) (nw := (fun _ => none)) (ini := false) (cp := none) (alc := false) (by decide +kernel) rfl rfl rfl (lf_2_ok _) ⟨?_, ?_⟩ ?_ (fun h => by cases h) (lm_aok0 _ _ _ _ _ _ _ _) ?_ ?_
  · intro j f hf
    unfold cv_X2_serveFirstItem at hf
    split at hf
    · cases hf; exact ⟨yX0_firstCost, cX0_firstCost, 1, (some .int), rm_X0_firstCost, RX0, TX0, 15, 0, rfl, rfl, ok_X0_firstCost l D ids B b, lw_0_firstCost, ll_2_105, rfl, rfl, ⟨rfl, ld_X0_firstCost⟩, by decide⟩
    · cases hf; exact ⟨yX2_leaveRing, cX2_leaveRing, 3, none, rm_X2_leaveRing, RX2, TX2, 7, 2, rfl, rfl, ok_X2_leaveRing l D ids B b, lw_2_leaveRing, ll_2_114, rfl, rfl, ⟨rfl, ld_X2_leaveRing⟩, by decide⟩
    · cases hf; exact ⟨yX0_wordAt, cX0_wordAt, 2, (some .int), rm_X0_wordAt, RX0, TX0, 15, 1, rfl, rfl, ok_X0_wordAt l D ids B b, lw_0_wordAt, ll_2_155, rfl, rfl, ⟨rfl, ld_X0_wordAt⟩, by decide⟩
    · cases hf; exact ⟨yX0_takeTurn, cX0_takeTurn, 1, none, rm_X0_takeTurn, RX0, TX0, 15, 0, rfl, rfl, ok_X0_takeTurn l D ids B b, lw_0_takeTurn, ll_2_208, rfl, rfl, ⟨rfl, ld_X0_takeTurn⟩, by decide⟩
    · cases hf; exact ⟨yX0_dropFirst, cX0_dropFirst, 1, none, rm_X0_dropFirst, RX0, TX0, 15, 0, rfl, rfl, ok_X0_dropFirst l D ids B b, lw_0_dropFirst, ll_2_211, rfl, rfl, ⟨rfl, ld_X0_dropFirst⟩, by decide⟩
    · cases hf
  · intro j f hf
    cases hf
  · intro j v hv; cases hv
  · exact Or.inl fun _ => rfl
  rintro As n L post postX ⟨Q, R, g, L0, q, y, t, hC, rfl, hq, hy, hk, hr, hd, hp⟩
  refine ⟨by simp [Value.category], (Nat.le_of_ble_eq_true rfl), lm_cl_of ?_⟩
  intro G hG
  have hlt : t.length < 96 := by
    have := hC.blen hq
    rw [hy] at this
    simp at this
    omega
  have hyt : qI (tkt (Q q)) = y :: t := (tkt_I _).trans hy
  refine lg_aload_n hG dX2_serveFirstItem_0 rfl ?_
  refine cg_getg hG hC dX2_serveFirstItem_1 rfl rfl ?_
  refine lg_iload_n hG dX2_serveFirstItem_4 rfl ?_
  first | refine cg_aq hG hC dX2_serveFirstItem_5 rfl (by first | assumption | omega) ?_ | refine cg_ar hG hC dX2_serveFirstItem_5 rfl (by first | assumption | omega) ?_
  refine lg_astore_n hG dX2_serveFirstItem_6 (Nat.le_of_ble_eq_true rfl) rfl ?_
  refine lg_aload_n hG dX2_serveFirstItem_7 rfl ?_
  refine cg_callQ hG hC dX2_serveFirstItem_8 rfl (fun P h => h) (by first | assumption | omega) (Nat.le_of_ble_eq_true rfl) (Nat.le_of_ble_eq_true rfl) (Nat.le_of_ble_eq_true rfl) ?_
  refine cq_turn hC hq rfl (fun L hC => ?_)
  refine lg_aload_n hG dX2_serveFirstItem_11 rfl ?_
  refine cg_callQ hG hC dX2_serveFirstItem_12 rfl (fun P h => h) (by first | assumption | omega) (Nat.le_of_ble_eq_true rfl) (Nat.le_of_ble_eq_true rfl) (Nat.le_of_ble_eq_true rfl) ?_
  refine cq_first hC hq (va_up_self _ _ _) hyt ?_
  refine lg_istore_n hG dX2_serveFirstItem_15 (Nat.le_of_ble_eq_true rfl) rfl ?_
  refine lg_aload_n hG dX2_serveFirstItem_16 rfl ?_
  refine lg_aload_n hG dX2_serveFirstItem_17 rfl ?_
  refine lg_iconst hG dX2_serveFirstItem_18 (x := 0) (by decide) ?_
  refine cg_callQ hG hC dX2_serveFirstItem_19 rfl (fun P h => h) (by first | assumption | omega) (Nat.le_of_ble_eq_true rfl) (Nat.le_of_ble_eq_true rfl) (Nat.le_of_ble_eq_true rfl) ?_
  refine cq_word (i := 0) (y := y) hC hq (va_up_self _ _ _) (by rw [hyt]; rfl) ?_
  refine cg_putg hG hC dX2_serveFirstItem_22 rfl (by first | trivial | exact Or.inl rfl | exact Or.inr rfl | assumption) (by decide) (g' := upd g 0 y.1) rfl (fun L hC => ?_)
  refine lg_aload_n hG dX2_serveFirstItem_25 rfl ?_
  refine lg_dup hG dX2_serveFirstItem_26 rfl ?_
  refine cg_get hG hC dX2_serveFirstItem_27 rfl (by first | assumption | omega) (va_up_self _ _ _) rfl ?_
  refine lg_iload_n hG dX2_serveFirstItem_30 rfl ?_
  refine lg_isub hG dX2_serveFirstItem_31 (pk_sub hd) ?_
  refine cg_put hG hC dX2_serveFirstItem_32 rfl (by first | assumption | omega) (va_up_self _ _ _) (by first | trivial | exact Or.inl rfl | exact Or.inr rfl | assumption) (by decide) (x' := sD (tkt (Q q)) (qd (tkt (Q q)) - y.2)) rfl rfl (fun L hC => ?_)
  try rw [bx_uu] at hC
  refine lg_aload_n hG dX2_serveFirstItem_35 rfl ?_
  refine lg_dup hG dX2_serveFirstItem_36 rfl ?_
  refine cg_get hG hC dX2_serveFirstItem_37 rfl (by first | assumption | omega) (va_up_self _ _ _) rfl ?_
  refine lg_iload_n hG dX2_serveFirstItem_40 rfl ?_
  refine lg_iadd hG dX2_serveFirstItem_41 rfl ?_
  refine cg_put hG hC dX2_serveFirstItem_42 rfl (by first | assumption | omega) (va_up_self _ _ _) (by first | trivial | exact Or.inl rfl | exact Or.inr rfl | assumption) (by decide) (x' := s3 (sD (tkt (Q q)) (qd (tkt (Q q)) - y.2)) (q3 (tkt (Q q)) + nI y.2)) rfl rfl (fun L hC => ?_)
  try rw [bx_uu] at hC
  refine lg_aload_n hG dX2_serveFirstItem_45 rfl ?_
  refine lg_dup hG dX2_serveFirstItem_46 rfl ?_
  refine cg_get hG hC dX2_serveFirstItem_47 rfl (by first | assumption | omega) (va_up_self _ _ _) rfl ?_
  refine lg_iconst hG dX2_serveFirstItem_50 (x := 1) (by decide) ?_
  refine lg_iadd hG dX2_serveFirstItem_51 rfl ?_
  refine cg_put hG hC dX2_serveFirstItem_52 rfl (by first | assumption | omega) (va_up_self _ _ _) (by first | trivial | exact Or.inl rfl | exact Or.inr rfl | assumption) (by decide) (x' := s2 (s3 (sD (tkt (Q q)) (qd (tkt (Q q)) - y.2)) (q3 (tkt (Q q)) + nI y.2)) (q2 (tkt (Q q)) + 1)) rfl rfl (fun L hC => ?_)
  try rw [bx_uu] at hC
  refine lg_aload_n hG dX2_serveFirstItem_55 rfl ?_
  refine lg_dup hG dX2_serveFirstItem_56 rfl ?_
  refine cg_getg hG hC dX2_serveFirstItem_57 rfl rfl ?_
  refine lg_iconst hG dX2_serveFirstItem_60 (x := 1) (by decide) ?_
  refine lg_iadd hG dX2_serveFirstItem_61 rfl ?_
  refine cg_putg hG hC dX2_serveFirstItem_62 rfl (by first | trivial | exact Or.inl rfl | exact Or.inr rfl | assumption) (by decide) (g' := upd (upd g 0 y.1) 1 (g 1 + 1)) rfl (fun L hC => ?_)
  refine lg_aload_n hG dX2_serveFirstItem_65 rfl ?_
  refine cg_callQ hG hC dX2_serveFirstItem_66 rfl (fun P h => h) (by first | assumption | omega) (Nat.le_of_ble_eq_true rfl) (Nat.le_of_ble_eq_true rfl) (Nat.le_of_ble_eq_true rfl) ?_
  refine cq_dropF hC hq (va_up_self _ _ _) hyt (fun L hC => ?_)
  rw [bx_uu] at hC
  refine lg_aload_n hG dX2_serveFirstItem_69 rfl ?_
  refine cg_get hG hC dX2_serveFirstItem_70 rfl (by first | assumption | omega) (va_up_self _ _ _) rfl ?_
  refine lg_if_ne hG dX2_serveFirstItem_73 (tgt := 82) (by decide) (by decide) (fun h_73 => ?_) (fun h_73 => ?_)
  · skip
    have e1 : ¬ t.length = 0 := fun h => h_73 (by show nI t.length = 0; rw [h]; rfl)
    rw [if_neg e1, if_neg e1] at hp
    refine lg_vret hG dX2_serveFirstItem_82 (Nat.le_of_ble_eq_true rfl) (Nat.le_of_ble_eq_true rfl) ?_
    first | exact ⟨trivial, hp⟩ | exact ⟨trivial, hp _ hC⟩
  · skip
    have e1 : t.length = 0 := by
      have h9 : nI t.length = nI 0 := h_73
      exact (nI_eq (by omega) (by decide)).mp h9
    rw [if_pos e1, if_pos e1] at hp
    have hk2 : qk (srv (Q q) y t) = qk (Q q) := tkt_k _
    refine lg_aload_n hG dX2_serveFirstItem_76 rfl ?_
    refine lg_iload_n hG dX2_serveFirstItem_77 rfl ?_
    refine lg_aload_n hG dX2_serveFirstItem_78 rfl ?_
    refine cg_callO hG hC dX2_serveFirstItem_79 rfl (fun P h => h) (Nat.le_of_ble_eq_true rfl) (Nat.le_of_ble_eq_true rfl) (Nat.le_of_ble_eq_true rfl) ?_
    refine ⟨_, _, _, _, q, hC, rfl, hq, by rw [va_up_self]; exact hk2 ▸ hk, by rw [va_up_self]; exact hk2 ▸ hr, fun L1 hC1 => ?_⟩
    have hp := hp L1 (by rw [va_up_self, bx_uu] at hC1; unfold lvR at hC1; rw [va_up_self] at hC1; unfold lvR; rw [← hk2]; exact hC1)
    refine lg_vret hG dX2_serveFirstItem_82 (Nat.le_of_ble_eq_true rfl) (Nat.le_of_ble_eq_true rfl) ?_
    first | exact ⟨trivial, hp⟩ | exact ⟨trivial, hp _ hC⟩

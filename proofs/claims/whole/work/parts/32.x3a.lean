theorem mk12 (c : Nat) : (12 : Int32) * nI c = nI (12 * c) := pk_mul 12 c
theorem mk96 (c : Nat) : (96 : Int32) * nI c = nI (96 * c) := pk_mul 96 c
def rm_X3_thrown : Room := { frames := 0, cells := 0, slots := 0, locals := 0 }
theorem ld_X3_thrown : yX3_thrown.cls ≠ "java/lang/invoke/MethodHandle" ∧ yX3_thrown.cls ≠ "java/lang/invoke/VarHandle" ∧ (parseMethodDescriptor yX3_thrown.desc).map (fun d => d.parameters.length) = some 0 := by decide +kernel
def sp_X3_thrown (ids : Nat → ClassId) : lm_S := fun As n L post postX => ∃ Q R g t L0, MS ids n Q R g t L0 L ∧ As = [.ref 47] ∧ post (some (.int t)) n L
set_option maxHeartbeats 4000000 in
set_option maxRecDepth 20000 in
theorem ok_X3_thrown (l : Launch) (D : va_G) (ids : Nat → ClassId) (B b : Nat) : lm_M l D (lm_ty ids) B b false yX3_thrown cX3_thrown 1 (some .int) rm_X3_thrown 0 0 (sp_X3_thrown ids) := by
  refine lm_method (own := RX3) (fld := lf_3) (cv := (fun _ => none)) (cs := (fun _ => none)) (ci := (fun _ => none)) (kon := (fun _ => none)) (thr := (fun _ => none)) (nw := (fun _ => none)) (ini := false) (cp := none) (alc := false) (by decide +kernel) rfl rfl rfl (lf_3_ok _) ⟨?_, ?_⟩ ?_ (fun h => by cases h) (lm_aok0 _ _ _ _ _ _ _ _) ?_ ?_
  · intro j f hf
    cases hf
  · intro j f hf
    cases hf
  · intro j v hv; cases hv
  · exact Or.inl fun _ => rfl
  rintro As n L post postX ⟨Q, R, g, t, L0, hM, rfl, hp⟩
  refine ⟨by simp [Value.category], (Nat.le_of_ble_eq_true rfl), lm_cl_of ?_⟩
  intro G hG
  refine lg_aload_n hG dX3_thrown_0 rfl ?_
  refine ms_get hG hM dX3_thrown_1 rfl rfl ?_
  refine lg_iret hG dX3_thrown_4 (Nat.le_of_ble_eq_true rfl) (Nat.le_of_ble_eq_true rfl) ?_
  exact ⟨trivial, hp⟩

def rm_X3_noQueue : Room := { frames := 0, cells := 0, slots := 0, locals := 0 }
theorem ld_X3_noQueue : yX3_noQueue.cls ≠ "java/lang/invoke/MethodHandle" ∧ yX3_noQueue.cls ≠ "java/lang/invoke/VarHandle" ∧ (parseMethodDescriptor yX3_noQueue.desc).map (fun d => d.parameters.length) = some 1 := by decide +kernel
def sp_X3_noQueue (ids : Nat → ClassId) : lm_S := fun As n L post _ => ∃ z, As = [.int z] ∧ (∀ q, q < 12 → z = nI q → post (some (.int 0)) n L) ∧ ((∀ q, q < 12 → z ≠ nI q) → post (some (.int 1)) n L)
set_option maxHeartbeats 4000000 in
set_option maxRecDepth 20000 in
theorem ok_X3_noQueue (l : Launch) (D : va_G) (ids : Nat → ClassId) (B b : Nat) : lm_M l D (lm_ty ids) B b false yX3_noQueue cX3_noQueue 1 (some .boolean) rm_X3_noQueue 0 0 (sp_X3_noQueue ids) := by
  refine lm_method (own := RX3) (fld := lf_3) (cv := (fun _ => none)) (cs := (fun _ => none)) (ci := (fun _ => none)) (kon := (fun _ => none)) (thr := (fun _ => none)) (nw := (fun _ => none)) (ini := false) (cp := none) (alc := false) (by decide +kernel) rfl rfl rfl (lf_3_ok _) ⟨?_, ?_⟩ ?_ (fun h => by cases h) (lm_aok0 _ _ _ _ _ _ _ _) ?_ ?_
  · intro j f hf
    cases hf
  · intro j f hf
    cases hf
  · intro j v hv; cases hv
  · exact Or.inl fun _ => rfl
  rintro As n L post postX ⟨z, rfl, hp, hpx⟩
  refine ⟨by simp [Value.category], (Nat.le_of_ble_eq_true rfl), lm_cl_of ?_⟩
  intro G hG
  refine lg_iload_n hG dX3_noQueue_0 rfl ?_
  refine lg_if_lt hG dX3_noQueue_1 (tgt := 10) (by decide) (by decide) (fun h_1 => ?_) (fun h_1 => ?_)
  · skip
    have hp := hpx (qn_neg h_1)
    refine lg_iconst hG dX3_noQueue_10 (x := 1) (by decide) ?_
    refine lg_goto hG dX3_noQueue_11 (tgt := 15) (by decide) (by decide) ?_
    refine lg_iret hG dX3_noQueue_15 (Nat.le_of_ble_eq_true rfl) (Nat.le_of_ble_eq_true rfl) ?_
    exact ⟨by first | exact Or.inl rfl | exact Or.inr rfl, hp⟩
  · skip
    refine lg_iload_n hG dX3_noQueue_4 rfl ?_
    refine lg_bipush hG dX3_noQueue_5 (x := (12)) (by decide) ?_
    refine lg_icmp_lt hG dX3_noQueue_7 (tgt := 14) (by decide) (by decide) (fun h_7 => ?_) (fun h_7 => ?_)
    · skip
      obtain ⟨q, hq, hz⟩ := qn_of h_1 h_7
      have hp := hp q hq hz
      refine lg_iconst hG dX3_noQueue_14 (x := 0) (by decide) ?_
      refine lg_iret hG dX3_noQueue_15 (Nat.le_of_ble_eq_true rfl) (Nat.le_of_ble_eq_true rfl) ?_
      exact ⟨by first | exact Or.inl rfl | exact Or.inr rfl, hp⟩
    · skip
      have hp := hpx (qn_big h_7)
      refine lg_iconst hG dX3_noQueue_10 (x := 1) (by decide) ?_
      refine lg_goto hG dX3_noQueue_11 (tgt := 15) (by decide) (by decide) ?_
      refine lg_iret hG dX3_noQueue_15 (Nat.le_of_ble_eq_true rfl) (Nat.le_of_ble_eq_true rfl) ?_
      exact ⟨by first | exact Or.inl rfl | exact Or.inr rfl, hp⟩

def rm_X3_keptInAll : Room := { frames := 0, cells := 0, slots := 0, locals := 0 }
theorem ld_X3_keptInAll : yX3_keptInAll.cls ≠ "java/lang/invoke/MethodHandle" ∧ yX3_keptInAll.cls ≠ "java/lang/invoke/VarHandle" ∧ (parseMethodDescriptor yX3_keptInAll.desc).map (fun d => d.parameters.length) = some 0 := by decide +kernel
def sp_X3_keptInAll (ids : Nat → ClassId) : lm_S := fun As n L post postX => ∃ Q R g t L0, MS ids n Q R g t L0 L ∧ As = [.ref 47] ∧ post (some (.int (nI (sumN (fun q => qp (Q q)) 12)))) n L
set_option maxHeartbeats 4000000 in
set_option maxRecDepth 20000 in
theorem ok_X3_keptInAll (l : Launch) (D : va_G) (ids : Nat → ClassId) (B b : Nat) : lm_M l D (lm_ty ids) B b false yX3_keptInAll cX3_keptInAll 3 (some .int) rm_X3_keptInAll 0 0 (sp_X3_keptInAll ids) := by
  refine lm_method (own := RX3) (fld := lf_3) (cv := (fun _ => none)) (cs := (fun _ => none)) (ci := (fun _ => none)) (kon := (fun _ => none)) (thr := (fun _ => none)) (nw := (fun _ => none)) (ini := false) (cp := none) (alc := false) (by decide +kernel) rfl rfl rfl (lf_3_ok _) ⟨?_, ?_⟩ ?_ (fun h => by cases h) (lm_aok0 _ _ _ _ _ _ _ _) ?_ ?_
  · intro j f hf
    cases hf
  · intro j f hf
    cases hf
  · intro j v hv; cases hv
  · exact Or.inl fun _ => rfl
  rintro As n L post postX ⟨Q, R, g, t, L0, hM, rfl, hp⟩
  refine ⟨by simp [Value.category], (Nat.le_of_ble_eq_true rfl), lm_cl_of ?_⟩
  intro G hG
  have loop : ∀ (m k : Nat), k ≤ 12 → 12 - k < m → G 4 [some (.ref 47), some (.int (nI (sumN (fun q => qp (Q q)) k))), some (.int (nI k))] [] n L 0 0 := by
    intro m
    induction m with
    | zero => intro k h1 h2; omega
    | succ m ih =>
      intro k hk hkm
      refine lg_iload_n hG dX3_keptInAll_4 rfl ?_
      refine lg_bipush hG dX3_keptInAll_5 (x := (12)) (by decide) ?_
      refine lg_icmp_ge hG dX3_keptInAll_7 (tgt := 25) (by decide) (by decide) (fun h_7 => ?_) (fun h_7 => ?_)
      · skip
        have hkl : k = 12 := by
          rcases Nat.lt_or_ge k 12 with h | h
          · exact absurd (nI_lt h (by omega)) h_7
          · omega
        subst hkl
        refine lg_iload_n hG dX3_keptInAll_25 rfl ?_
        refine lg_iret hG dX3_keptInAll_26 (Nat.le_of_ble_eq_true rfl) (Nat.le_of_ble_eq_true rfl) ?_
        exact ⟨trivial, hp⟩
      · skip
        have hkl : k < 12 := (nI_ltI (by omega) (by omega)).mp h_7
        refine lg_iload_n hG dX3_keptInAll_10 rfl ?_
        refine lg_aload_n hG dX3_keptInAll_11 rfl ?_
        refine ms_get hG hM dX3_keptInAll_12 rfl rfl ?_
        refine lg_iload_n hG dX3_keptInAll_15 rfl ?_
        refine ms_ld hG hM dX3_keptInAll_16 (by decide) rfl rfl (by first | assumption | omega) rfl rfl ?_
        refine lg_iadd hG dX3_keptInAll_17 (show nI (sumN (fun q => qp (Q q)) k) + nI (qp (Q k)) = nI (sumN (fun q => qp (Q q)) (k + 1)) from nI_add _ _) ?_
        refine lg_istore_n hG dX3_keptInAll_18 (Nat.le_of_ble_eq_true rfl) rfl ?_
        refine lg_iinc hG dX3_keptInAll_19 (Nat.le_of_ble_eq_true rfl) rfl rfl rfl ?_
        refine lg_goto hG dX3_keptInAll_22 (tgt := 4) (by decide) (by decide) ?_
        rw [show nI k + Int32.ofInt 1 = nI (k + 1) from nI_1 k]
        exact ih (k + 1) (by omega) (by omega)
  refine lg_iconst hG dX3_keptInAll_0 (x := 0) (by decide) ?_
  refine lg_istore_n hG dX3_keptInAll_1 (Nat.le_of_ble_eq_true rfl) rfl ?_
  refine lg_iconst hG dX3_keptInAll_2 (x := 0) (by decide) ?_
  refine lg_istore_n hG dX3_keptInAll_3 (Nat.le_of_ble_eq_true rfl) rfl ?_
  exact loop 13 0 (by omega) (by omega)

def rm_X3_free : Room := { frames := 0, cells := 0, slots := 0, locals := 0 }
theorem ld_X3_free : yX3_free.cls ≠ "java/lang/invoke/MethodHandle" ∧ yX3_free.cls ≠ "java/lang/invoke/VarHandle" ∧ (parseMethodDescriptor yX3_free.desc).map (fun d => d.parameters.length) = some 0 := by decide +kernel
def sp_X3_free (ids : Nat → ClassId) : lm_S := fun As n L post postX => ∃ Q R g t L0, MS ids n Q R g t L0 L ∧ As = [.ref 47] ∧ post (some (.int (iI (fre Q)))) n L
set_option maxHeartbeats 4000000 in
set_option maxRecDepth 20000 in
theorem ok_X3_free (l : Launch) (D : va_G) (ids : Nat → ClassId) (B b : Nat) : lm_M l D (lm_ty ids) B b false yX3_free cX3_free 3 (some .int) rm_X3_free 0 0 (sp_X3_free ids) := by
  refine lm_method (own := RX3) (fld := lf_3) (cv := (fun _ => none)) (cs := (fun _ => none)) (ci := (fun _ => none)) (kon := (fun _ => none)) (thr := (fun _ => none)) (nw := (fun _ => none)) (ini := false) (cp := none) (alc := false) (by decide +kernel) rfl rfl rfl (lf_3_ok _) ⟨?_, ?_⟩ ?_ (fun h => by cases h) (lm_aok0 _ _ _ _ _ _ _ _) ?_ ?_
  · intro j f hf
    cases hf
  · intro j f hf
    cases hf
  · intro j v hv; cases hv
  · exact Or.inl fun _ => rfl
  rintro As n L post postX ⟨Q, R, g, t, L0, hM, rfl, hp⟩
  refine ⟨by simp [Value.category], (Nat.le_of_ble_eq_true rfl), lm_cl_of ?_⟩
  intro G hG
  have loop : ∀ (m k : Nat), k ≤ 12 → 12 - k < m → G 5 [some (.ref 47), some (.int (iI (96 - (sumN (fun q => (qI (Q q)).length) k : Nat)))), some (.int (nI k))] [] n L 0 0 := by
    intro m
    induction m with
    | zero => intro k h1 h2; omega
    | succ m ih =>
      intro k hk hkm
      refine lg_iload_n hG dX3_free_5 rfl ?_
      refine lg_bipush hG dX3_free_6 (x := (12)) (by decide) ?_
      refine lg_icmp_ge hG dX3_free_8 (tgt := 26) (by decide) (by decide) (fun h_8 => ?_) (fun h_8 => ?_)
      · skip
        have hkl : k = 12 := by
          rcases Nat.lt_or_ge k 12 with h | h
          · exact absurd (nI_lt h (by omega)) h_8
          · omega
        subst hkl
        refine lg_iload_n hG dX3_free_26 rfl ?_
        refine lg_iret hG dX3_free_27 (Nat.le_of_ble_eq_true rfl) (Nat.le_of_ble_eq_true rfl) ?_
        exact ⟨trivial, hp⟩
      · skip
        have hkl : k < 12 := (nI_ltI (by omega) (by omega)).mp h_8
        refine lg_iload_n hG dX3_free_11 rfl ?_
        refine lg_aload_n hG dX3_free_12 rfl ?_
        refine ms_get hG hM dX3_free_13 rfl rfl ?_
        refine lg_iload_n hG dX3_free_16 rfl ?_
        refine ms_ld hG hM dX3_free_17 (by decide) rfl rfl (by first | assumption | omega) rfl rfl ?_
        refine lg_isub hG dX3_free_18 (show iI (96 - (sumN (fun q => (qI (Q q)).length) k : Nat)) - nI (qI (Q k)).length = iI (96 - (sumN (fun q => (qI (Q q)).length) (k + 1) : Nat)) by rw [iI_n, iI_sub]; congr 1; simp only [sumN]; omega) ?_
        refine lg_istore_n hG dX3_free_19 (Nat.le_of_ble_eq_true rfl) rfl ?_
        refine lg_iinc hG dX3_free_20 (Nat.le_of_ble_eq_true rfl) rfl rfl rfl ?_
        refine lg_goto hG dX3_free_23 (tgt := 5) (by decide) (by decide) ?_
        rw [show nI k + Int32.ofInt 1 = nI (k + 1) from nI_1 k]
        exact ih (k + 1) (by omega) (by omega)
  refine lg_bipush hG dX3_free_0 (x := (96)) (by decide) ?_
  refine lg_istore_n hG dX3_free_2 (Nat.le_of_ble_eq_true rfl) rfl ?_
  refine lg_iconst hG dX3_free_3 (x := 0) (by decide) ?_
  refine lg_istore_n hG dX3_free_4 (Nat.le_of_ble_eq_true rfl) rfl ?_
  exact loop 13 0 (by omega) (by omega)

def rm_X3_excess : Room := { frames := 0, cells := 0, slots := 0, locals := 0 }
theorem ld_X3_excess : yX3_excess.cls ≠ "java/lang/invoke/MethodHandle" ∧ yX3_excess.cls ≠ "java/lang/invoke/VarHandle" ∧ (parseMethodDescriptor yX3_excess.desc).map (fun d => d.parameters.length) = some 1 := by decide +kernel
def sp_X3_excess (ids : Nat → ClassId) : lm_S := fun As n L post postX => ∃ Q R g t L0 q, MS ids n Q R g t L0 L ∧ As = [.ref 47, .int (nI q)] ∧ q < 12 ∧ post (some (.int (iI (exc Q q)))) n L
set_option maxHeartbeats 4000000 in
set_option maxRecDepth 20000 in
theorem ok_X3_excess (l : Launch) (D : va_G) (ids : Nat → ClassId) (B b : Nat) : lm_M l D (lm_ty ids) B b false yX3_excess cX3_excess 2 (some .int) rm_X3_excess 0 0 (sp_X3_excess ids) := by
  refine lm_method (own := RX3) (fld := lf_3) (cv := (fun _ => none)) (cs := (fun _ => none)) (ci := (fun _ => none)) (kon := (fun _ => none)) (thr := (fun _ => none)) (nw := (fun _ => none)) (ini := false) (cp := none) (alc := false) (by decide +kernel) rfl rfl rfl (lf_3_ok _) ⟨?_, ?_⟩ ?_ (fun h => by cases h) (lm_aok0 _ _ _ _ _ _ _ _) ?_ ?_
  · intro j f hf
    cases hf
  · intro j f hf
    cases hf
  · intro j v hv; cases hv
  · exact Or.inl fun _ => rfl
  rintro As n L post postX ⟨Q, R, g, t, L0, q, hM, rfl, hq, hp⟩
  refine ⟨by simp [Value.category], (Nat.le_of_ble_eq_true rfl), lm_cl_of ?_⟩
  intro G hG
  refine lg_aload_n hG dX3_excess_0 rfl ?_
  refine ms_get hG hM dX3_excess_1 rfl rfl ?_
  refine lg_iload_n hG dX3_excess_4 rfl ?_
  refine ms_ld hG hM dX3_excess_5 (by decide) rfl rfl (by first | assumption | omega) rfl rfl ?_
  refine lg_aload_n hG dX3_excess_6 rfl ?_
  refine ms_get hG hM dX3_excess_7 rfl rfl ?_
  refine lg_iload_n hG dX3_excess_10 rfl ?_
  refine ms_ld hG hM dX3_excess_11 (by decide) rfl rfl (by first | assumption | omega) rfl rfl ?_
  refine lg_isub hG dX3_excess_12 (show nI (qI (Q q)).length - nI (qp (Q q)) = iI (exc Q q) by rw [iI_nn]; rfl) ?_
  refine lg_iret hG dX3_excess_13 (Nat.le_of_ble_eq_true rfl) (Nat.le_of_ble_eq_true rfl) ?_
  exact ⟨trivial, hp⟩

theorem MS.bexc {ids : Nat → ClassId} {n : Nat} {Q : Nat → Qs} {R : Nat → List Nat} {g : Nat → Int32} {t : Int32} {L0 L : lm_L} (hM : MS ids n Q R g t L0 L) (hK : KP Q) {q : Nat} (hq : q < 12) : -96 ≤ exc Q q ∧ exc Q q ≤ 96 := by
  have h1 := hM.len hq
  have h2 := hK q hq
  unfold exc
  omega
theorem MS.bfre {ids : Nat → ClassId} {n : Nat} {Q : Nat → Qs} {R : Nat → List Nat} {g : Nat → Int32} {t : Int32} {L0 L : lm_L} (hM : MS ids n Q R g t L0 L) : -1056 ≤ fre Q ∧ fre Q ≤ 96 := by
  have h := sumN_le (f := fun q => (qI (Q q)).length) (m := 96) (N := 12) (fun q hq => hM.len hq) 12 (by omega)
  unfold fre
  omega
theorem MS.bopn {ids : Nat → ClassId} {n : Nat} {Q : Nat → Qs} {R : Nat → List Nat} {g : Nat → Int32} {t : Int32} {L0 L : lm_L} (hM : MS ids n Q R g t L0 L) (hK : KP Q) {k : Nat} (hk : k ≤ 12) : -2208 ≤ opn Q k ∧ opn Q k ≤ 1248 := by
  have h := hM.bfre
  have h2 := sumZ_bd (f := fun q => min (exc Q q) 0) (m := 96) (N := 12) (fun q hq => by have := hM.bexc hK hq; omega) k hk
  unfold opn
  omega
def rm_X3_open : Room := { frames := 1, cells := 0, slots := 0, locals := 22 }
theorem ld_X3_open : yX3_open.cls ≠ "java/lang/invoke/MethodHandle" ∧ yX3_open.cls ≠ "java/lang/invoke/VarHandle" ∧ (parseMethodDescriptor yX3_open.desc).map (fun d => d.parameters.length) = some 0 := by decide +kernel
def sp_X3_open (ids : Nat → ClassId) : lm_S := fun As n L post postX => ∃ Q R g t L0, MS ids n Q R g t L0 L ∧ As = [.ref 47] ∧ KP Q ∧ post (some (.int (iI (opn Q 12)))) n L
def cv_X3_open (ids : Nat → ClassId) : Nat → Option lm_C := fun j => match j with
  | 88 => some (1, 3, sp_X3_free ids, 0, 0)
  | 91 => some (2, 3, sp_X3_excess ids, 0, 0)
  | _ => none
set_option maxHeartbeats 4000000 in
set_option maxRecDepth 20000 in
theorem ok_X3_open (l : Launch) (D : va_G) (ids : Nat → ClassId) (B b : Nat) : lm_M l D (lm_ty ids) B b false yX3_open cX3_open 3 (some .int) rm_X3_open 0 0 (sp_X3_open ids) := by
  refine lm_method (own := RX3) (fld := lf_3) (cv := (cv_X3_open ids)) (cs := (fun _ => none)) (ci := (fun _ => none)) (kon := (fun _ => none)) (thr := (fun _ => none)) (nw := (fun _ => none)) (ini := false) (cp := none) (alc := false) (by decide +kernel) rfl rfl rfl (lf_3_ok _) ⟨?_, ?_⟩ ?_ (fun h => by cases h) (lm_aok0 _ _ _ _ _ _ _ _) ?_ ?_
  · intro j f hf
    unfold cv_X3_open at hf
    split at hf
    · cases hf; exact ⟨yX3_free, cX3_free, 3, (some .int), rm_X3_free, RX3, TX3, 22, 0, rfl, rfl, ok_X3_free l D ids B b, lw_3_free, ll_3_88, rfl, rfl, ⟨rfl, ld_X3_free⟩, by decide⟩
    · cases hf; exact ⟨yX3_excess, cX3_excess, 2, (some .int), rm_X3_excess, RX3, TX3, 22, 1, rfl, rfl, ok_X3_excess l D ids B b, lw_3_excess, ll_3_91, rfl, rfl, ⟨rfl, ld_X3_excess⟩, by decide⟩
    · cases hf
  · intro j f hf
    cases hf
  · intro j v hv; cases hv
  · exact Or.inl fun _ => rfl
  rintro As n L post postX ⟨Q, R, g, t, L0, hM, rfl, hK, hp⟩
  refine ⟨by simp [Value.category], (Nat.le_of_ble_eq_true rfl), lm_cl_of ?_⟩
  intro G hG
  have loop : ∀ (m k : Nat), k ≤ 12 → 12 - k < m → G 7 [some (.ref 47), some (.int (iI (opn Q k))), some (.int (nI k))] [] n L 0 0 := by
    intro m
    induction m with
    | zero => intro k h1 h2; omega
    | succ m ih =>
      intro k hk hkm
      refine lg_iload_n hG dX3_open_7 rfl ?_
      refine lg_bipush hG dX3_open_8 (x := (12)) (by decide) ?_
      refine lg_icmp_ge hG dX3_open_10 (tgt := 39) (by decide) (by decide) (fun h_10 => ?_) (fun h_10 => ?_)
      · skip
        have hkl : k = 12 := by
          rcases Nat.lt_or_ge k 12 with h | h
          · exact absurd (nI_lt h (by omega)) h_10
          · omega
        subst hkl
        refine lg_iload_n hG dX3_open_39 rfl ?_
        refine lg_iret hG dX3_open_40 (Nat.le_of_ble_eq_true rfl) (Nat.le_of_ble_eq_true rfl) ?_
        exact ⟨trivial, hp⟩
      · skip
        have hkl : k < 12 := (nI_ltI (by omega) (by omega)).mp h_10
        have he := hM.bexc hK hkl
        refine lg_aload_n hG dX3_open_13 rfl ?_
        refine lg_iload_n hG dX3_open_14 rfl ?_
        refine ms_call hG hM dX3_open_15 rfl (fun P h => h) (Nat.le_of_ble_eq_true rfl) (Nat.le_of_ble_eq_true rfl) (Nat.le_of_ble_eq_true rfl) ?_
        refine ⟨Q, R, g, t, L0, k, hM, rfl, hkl, ?_⟩
        refine lg_if_ge hG dX3_open_18 (tgt := 31) (by decide) (by decide) (fun h_18 => ?_) (fun h_18 => ?_)
        · skip
          have e1 : opn Q (k + 1) = opn Q k := by
            have h9 : ¬ exc Q k < 0 := fun h => h_18 ((iI_lt (b := 0) (by omega) (by omega) (by omega) (by omega)).mpr h)
            unfold opn
            simp only [sumZ]
            omega
          refine lg_iload_n hG dX3_open_31 rfl ?_
          refine lg_istore_n hG dX3_open_32 (Nat.le_of_ble_eq_true rfl) rfl ?_
          refine lg_iinc hG dX3_open_33 (Nat.le_of_ble_eq_true rfl) rfl rfl rfl ?_
          refine lg_goto hG dX3_open_36 (tgt := 7) (by decide) (by decide) ?_
          rw [show nI k + Int32.ofInt 1 = nI (k + 1) from nI_1 k]
          have h9 := ih (k + 1) (by omega) (by omega)
          rw [e1] at h9
          exact h9
        · skip
          have e1 : opn Q (k + 1) = opn Q k + exc Q k := by
            have h9 : exc Q k < 0 := (iI_lt (b := 0) (by omega) (by omega) (by omega) (by omega)).mp h_18
            unfold opn
            simp only [sumZ]
            omega
          refine lg_iload_n hG dX3_open_21 rfl ?_
          refine lg_aload_n hG dX3_open_22 rfl ?_
          refine lg_iload_n hG dX3_open_23 rfl ?_
          refine ms_call hG hM dX3_open_24 rfl (fun P h => h) (Nat.le_of_ble_eq_true rfl) (Nat.le_of_ble_eq_true rfl) (Nat.le_of_ble_eq_true rfl) ?_
          refine ⟨Q, R, g, t, L0, k, hM, rfl, hkl, ?_⟩
          refine lg_iadd hG dX3_open_27 (iI_add (opn Q k) (exc Q k)) ?_
          refine lg_goto hG dX3_open_28 (tgt := 32) (by decide) (by decide) ?_
          refine lg_istore_n hG dX3_open_32 (Nat.le_of_ble_eq_true rfl) rfl ?_
          refine lg_iinc hG dX3_open_33 (Nat.le_of_ble_eq_true rfl) rfl rfl rfl ?_
          refine lg_goto hG dX3_open_36 (tgt := 7) (by decide) (by decide) ?_
          rw [show nI k + Int32.ofInt 1 = nI (k + 1) from nI_1 k]
          have h9 := ih (k + 1) (by omega) (by omega)
          rw [e1] at h9
          exact h9
  refine lg_aload_n hG dX3_open_0 rfl ?_
  refine ms_call hG hM dX3_open_1 rfl (fun P h => h) (Nat.le_of_ble_eq_true rfl) (Nat.le_of_ble_eq_true rfl) (Nat.le_of_ble_eq_true rfl) ?_
  refine ⟨Q, R, g, t, L0, hM, rfl, ?_⟩
  refine lg_istore_n hG dX3_open_4 (Nat.le_of_ble_eq_true rfl) rfl ?_
  refine lg_iconst hG dX3_open_5 (x := 0) (by decide) ?_
  refine lg_istore_n hG dX3_open_6 (Nat.le_of_ble_eq_true rfl) rfl ?_
  have h0 := loop 13 0 (by omega) (by omega)
  rw [show opn Q 0 = fre Q by unfold opn sumZ; omega] at h0
  exact h0

def rm_X3_greediest : Room := { frames := 1, cells := 0, slots := 0, locals := 21 }
theorem ld_X3_greediest : yX3_greediest.cls ≠ "java/lang/invoke/MethodHandle" ∧ yX3_greediest.cls ≠ "java/lang/invoke/VarHandle" ∧ (parseMethodDescriptor yX3_greediest.desc).map (fun d => d.parameters.length) = some 0 := by decide +kernel
def sp_X3_greediest (ids : Nat → ClassId) : lm_S := fun As n L post postX => ∃ Q R g t L0, MS ids n Q R g t L0 L ∧ As = [.ref 47] ∧ KP Q ∧ post (some (.int (nI (grd Q 11)))) n L
def cv_X3_greediest (ids : Nat → ClassId) : Nat → Option lm_C := fun j => match j with
  | 91 => some (2, 3, sp_X3_excess ids, 0, 0)
  | _ => none
set_option maxHeartbeats 4000000 in
set_option maxRecDepth 20000 in
theorem ok_X3_greediest (l : Launch) (D : va_G) (ids : Nat → ClassId) (B b : Nat) : lm_M l D (lm_ty ids) B b false yX3_greediest cX3_greediest 3 (some .int) rm_X3_greediest 0 0 (sp_X3_greediest ids) := by
  refine lm_method (own := RX3) (fld := lf_3) (cv := (cv_X3_greediest ids)) (cs := (fun _ => none)) (ci := (fun _ => none)) (kon := (fun _ => none)) (thr := (fun _ => none)) (nw := (fun _ => none)) (ini := false) (cp := none) (alc := false) (by decide +kernel) rfl rfl rfl (lf_3_ok _) ⟨?_, ?_⟩ ?_ (fun h => by cases h) (lm_aok0 _ _ _ _ _ _ _ _) ?_ ?_
  · intro j f hf
    unfold cv_X3_greediest at hf
    split at hf
    · cases hf; exact ⟨yX3_excess, cX3_excess, 2, (some .int), rm_X3_excess, RX3, TX3, 22, 1, rfl, rfl, ok_X3_excess l D ids B b, lw_3_excess, ll_3_91, rfl, rfl, ⟨rfl, ld_X3_excess⟩, by decide⟩
    · cases hf
  · intro j f hf
    cases hf
  · intro j v hv; cases hv
  · exact Or.inl fun _ => rfl
  rintro As n L post postX ⟨Q, R, g, t, L0, hM, rfl, hK, hp⟩
  refine ⟨by simp [Value.category], (Nat.le_of_ble_eq_true rfl), lm_cl_of ?_⟩
  intro G hG
  have loop : ∀ (m k : Nat), k ≤ 11 → 11 - k < m → G 4 [some (.ref 47), some (.int (nI (grd Q k))), some (.int (nI (k + 1)))] [] n L 0 0 := by
    intro m
    induction m with
    | zero => intro k h1 h2; omega
    | succ m ih =>
      intro k hk hkm
      refine lg_iload_n hG dX3_greediest_4 rfl ?_
      refine lg_bipush hG dX3_greediest_5 (x := (12)) (by decide) ?_
      refine lg_icmp_ge hG dX3_greediest_7 (tgt := 35) (by decide) (by decide) (fun h_7 => ?_) (fun h_7 => ?_)
      · skip
        have hkl : k = 11 := by
          rcases Nat.lt_or_ge k 11 with h | h
          · exact absurd (nI_lt (b := 12) (by omega) (by omega)) h_7
          · omega
        subst hkl
        refine lg_iload_n hG dX3_greediest_35 rfl ?_
        refine lg_iret hG dX3_greediest_36 (Nat.le_of_ble_eq_true rfl) (Nat.le_of_ble_eq_true rfl) ?_
        exact ⟨trivial, hp⟩
      · skip
        have hkl : k + 1 < 12 := (nI_ltI (b := 12) (by omega) (by omega)).mp h_7
        have hg := grd_le Q k
        have hg12 : grd Q k < 12 := by omega
        have he1 := hM.bexc hK hkl
        have he2 := hM.bexc hK hg12
        refine lg_aload_n hG dX3_greediest_10 rfl ?_
        refine lg_iload_n hG dX3_greediest_11 rfl ?_
        refine ms_call hG hM dX3_greediest_12 rfl (fun P h => h) (Nat.le_of_ble_eq_true rfl) (Nat.le_of_ble_eq_true rfl) (Nat.le_of_ble_eq_true rfl) ?_
        refine ⟨Q, R, g, t, L0, k + 1, hM, rfl, hkl, ?_⟩
        refine lg_aload_n hG dX3_greediest_15 rfl ?_
        refine lg_iload_n hG dX3_greediest_16 rfl ?_
        refine ms_call hG hM dX3_greediest_17 rfl (fun P h => h) (Nat.le_of_ble_eq_true rfl) (Nat.le_of_ble_eq_true rfl) (Nat.le_of_ble_eq_true rfl) ?_
        refine ⟨Q, R, g, t, L0, grd Q k, hM, rfl, hg12, ?_⟩
        refine lg_icmp_le hG dX3_greediest_20 (tgt := 27) (by decide) (by decide) (fun h_20 => ?_) (fun h_20 => ?_)
        · skip
          have e1 : ¬ exc Q (grd Q k) < exc Q (k + 1) := by
            have := (iI_le (a := exc Q (k + 1)) (b := exc Q (grd Q k)) (by omega) (by omega) (by omega) (by omega)).mp h_20
            omega
          have e2 : grd Q (k + 1) = grd Q k := by show (if _ then _ else _) = _; rw [if_neg e1]
          refine lg_iload_n hG dX3_greediest_27 rfl ?_
          refine lg_istore_n hG dX3_greediest_28 (Nat.le_of_ble_eq_true rfl) rfl ?_
          refine lg_iinc hG dX3_greediest_29 (Nat.le_of_ble_eq_true rfl) rfl rfl rfl ?_
          refine lg_goto hG dX3_greediest_32 (tgt := 4) (by decide) (by decide) ?_
          rw [show nI (k + 1) + Int32.ofInt 1 = nI (k + 1 + 1) from nI_1 _]
          have h9 := ih (k + 1) (by omega) (by omega)
          rw [e2] at h9
          exact h9
        · skip
          have e1 : exc Q (grd Q k) < exc Q (k + 1) := by
            rcases Int.lt_or_le (exc Q (grd Q k)) (exc Q (k + 1)) with h | h
            · exact h
            · exact absurd ((iI_le (a := exc Q (k + 1)) (b := exc Q (grd Q k)) (by omega) (by omega) (by omega) (by omega)).mpr h) h_20
          have e2 : grd Q (k + 1) = k + 1 := by show (if _ then _ else _) = _; rw [if_pos e1]
          refine lg_iload_n hG dX3_greediest_23 rfl ?_
          refine lg_goto hG dX3_greediest_24 (tgt := 28) (by decide) (by decide) ?_
          refine lg_istore_n hG dX3_greediest_28 (Nat.le_of_ble_eq_true rfl) rfl ?_
          refine lg_iinc hG dX3_greediest_29 (Nat.le_of_ble_eq_true rfl) rfl rfl rfl ?_
          refine lg_goto hG dX3_greediest_32 (tgt := 4) (by decide) (by decide) ?_
          rw [show nI (k + 1) + Int32.ofInt 1 = nI (k + 1 + 1) from nI_1 _]
          have h9 := ih (k + 1) (by omega) (by omega)
          rw [e2] at h9
          exact h9
  refine lg_iconst hG dX3_greediest_0 (x := 0) (by decide) ?_
  refine lg_istore_n hG dX3_greediest_1 (Nat.le_of_ble_eq_true rfl) rfl ?_
  refine lg_iconst hG dX3_greediest_2 (x := 1) (by decide) ?_
  refine lg_istore_n hG dX3_greediest_3 (Nat.le_of_ble_eq_true rfl) rfl ?_
  exact loop 12 0 (by omega) (by omega)

def rm_X3_placeOf : Room := { frames := 0, cells := 0, slots := 0, locals := 0 }
theorem ld_X3_placeOf : yX3_placeOf.cls ≠ "java/lang/invoke/MethodHandle" ∧ yX3_placeOf.cls ≠ "java/lang/invoke/VarHandle" ∧ (parseMethodDescriptor yX3_placeOf.desc).map (fun d => d.parameters.length) = some 1 := by decide +kernel
def sp_X3_placeOf (ids : Nat → ClassId) : lm_S := fun As n L post postX => ∃ Q R g t L0 q, MS ids n Q R g t L0 L ∧ As = [.ref 47, .int (nI q)] ∧ q < 12 ∧ qk (Q q) < 4 ∧ post (some (.int (if q ∈ R (qk (Q q)) then nI ((R (qk (Q q))).idxOf q) else -1))) n L
set_option maxHeartbeats 4000000 in
set_option maxRecDepth 20000 in
theorem ok_X3_placeOf (l : Launch) (D : va_G) (ids : Nat → ClassId) (B b : Nat) : lm_M l D (lm_ty ids) B b false yX3_placeOf cX3_placeOf 4 (some .int) rm_X3_placeOf 0 0 (sp_X3_placeOf ids) := by
  refine lm_method (own := RX3) (fld := lf_3) (cv := (fun _ => none)) (cs := (fun _ => none)) (ci := (fun _ => none)) (kon := (fun _ => none)) (thr := (fun _ => none)) (nw := (fun _ => none)) (ini := false) (cp := none) (alc := false) (by decide +kernel) rfl rfl rfl (lf_3_ok _) ⟨?_, ?_⟩ ?_ (fun h => by cases h) (lm_aok0 _ _ _ _ _ _ _ _) ?_ ?_
  · intro j f hf
    cases hf
  · intro j f hf
    cases hf
  · intro j v hv; cases hv
  · exact Or.inl fun _ => rfl
  rintro As n L post postX ⟨Q, R, g, t, L0, q, hM, rfl, hq, hk4, hp⟩
  refine ⟨by simp [Value.category], (Nat.le_of_ble_eq_true rfl), lm_cl_of ?_⟩
  intro G hG
  obtain ⟨hl12, hx12⟩ := hM.ring hk4
  generalize hcc : qk (Q q) = c at hp hk4 hl12 hx12
  generalize hll : R c = l at hp hl12 hx12
  have loop : ∀ (m k : Nat), k ≤ l.length → l.length - k < m → q ∉ l.take k → G 9 [some (.ref 47), some (.int (nI q)), some (.int (nI c)), some (.int (nI k))] [] n L 0 0 := by
    intro m
    induction m with
    | zero => intro k h1 h2; omega
    | succ m ih =>
      intro k hk hkm hn
      refine lg_iload_n hG dX3_placeOf_9 rfl ?_
      refine lg_aload_n hG dX3_placeOf_10 rfl ?_
      refine ms_get hG hM dX3_placeOf_11 rfl rfl ?_
      refine lg_iload_n hG dX3_placeOf_14 rfl ?_
      refine ms_ldL hG hM dX3_placeOf_15 rfl hk4 hll ?_
      refine lg_icmp_ge hG dX3_placeOf_16 (tgt := 42) (by decide) (by decide) (fun h_16 => ?_) (fun h_16 => ?_)
      · skip
        have hkl : k = l.length := by
          rcases Nat.lt_or_ge k l.length with h | h
          · exact absurd (nI_lt h (by omega)) h_16
          · omega
        have hnl : q ∉ l := by rw [hkl, List.take_length] at hn; exact hn
        rw [if_neg hnl] at hp
        refine lg_iconst hG dX3_placeOf_42 (x := (-1)) (by decide) ?_
        refine lg_iret hG dX3_placeOf_43 (Nat.le_of_ble_eq_true rfl) (Nat.le_of_ble_eq_true rfl) ?_
        exact ⟨trivial, hp⟩
      · skip
        have hkl : k < l.length := (nI_ltI (by omega) (by omega)).mp h_16
        obtain ⟨y, hy⟩ : ∃ y, l[k]? = some y := ⟨_, List.getElem?_eq_getElem hkl⟩
        have hy12 := hx12 y (List.mem_of_getElem? hy)
        refine lg_aload_n hG dX3_placeOf_19 rfl ?_
        refine ms_get hG hM dX3_placeOf_20 rfl rfl ?_
        refine lg_bipush hG dX3_placeOf_23 (x := (12)) (by decide) ?_
        refine lg_iload_n hG dX3_placeOf_25 rfl ?_
        refine lg_imul hG dX3_placeOf_26 (mk12 _) ?_
        refine lg_iload_n hG dX3_placeOf_27 rfl ?_
        refine lg_iadd hG dX3_placeOf_28 (nI_add _ _) ?_
        refine ms_ldR hG hM dX3_placeOf_29 rfl hk4 hll hy ?_
        refine lg_iload_n hG dX3_placeOf_30 rfl ?_
        refine lg_icmp_ne hG dX3_placeOf_31 (tgt := 36) (by decide) (by decide) (fun h_31 => ?_) (fun h_31 => ?_)
        · skip
          have hyx : y ≠ q := fun e => h_31 (by rw [e])
          refine lg_iinc hG dX3_placeOf_36 (Nat.le_of_ble_eq_true rfl) rfl rfl rfl ?_
          refine lg_goto hG dX3_placeOf_39 (tgt := 9) (by decide) (by decide) ?_
          rw [show nI k + Int32.ofInt 1 = nI (k + 1) from nI_1 k]
          exact ih (k + 1) (by omega) (by omega) (rg_take hy hn hyx)
        · skip
          have hyx : y = q := (nI_eq (by omega) (by omega)).mp h_31
          subst hyx
          obtain ⟨hml, hix⟩ := rg_idx l k y hy hn
          rw [if_pos hml, hix] at hp
          refine lg_iload_n hG dX3_placeOf_34 rfl ?_
          refine lg_iret hG dX3_placeOf_35 (Nat.le_of_ble_eq_true rfl) (Nat.le_of_ble_eq_true rfl) ?_
          exact ⟨trivial, hp⟩
  refine lg_aload_n hG dX3_placeOf_0 rfl ?_
  refine ms_get hG hM dX3_placeOf_1 rfl rfl ?_
  refine lg_iload_n hG dX3_placeOf_4 rfl ?_
  refine ms_ld hG hM dX3_placeOf_5 (by decide) rfl rfl (by first | assumption | omega) rfl rfl ?_
  rw [hcc]
  refine lg_istore_n hG dX3_placeOf_6 (Nat.le_of_ble_eq_true rfl) rfl ?_
  refine lg_iconst hG dX3_placeOf_7 (x := 0) (by decide) ?_
  refine lg_istore_n hG dX3_placeOf_8 (Nat.le_of_ble_eq_true rfl) rfl ?_
  exact loop (l.length + 1) 0 (by omega) (by omega) (by simp)

theorem ck_of {N : Nat} {z M : Int32} (hM : M = nI N) (hN : N < 2 ^ 31) (h1 : ¬ z < 0) (h2 : z ≤ M) : ∃ i, i ≤ N ∧ z = nI i := by
  obtain ⟨i, hi, rfl⟩ := nI_of h1
  subst hM
  exact ⟨i, (nI_leI hi hN).mp h2, rfl⟩
theorem ck_no {N i : Nat} {M : Int32} (hM : M = nI N) (hN : N < 2 ^ 31) (hi : i ≤ N) (h : nI i < 0 ∨ ¬ nI i ≤ M) : False := by
  subst hM
  rcases h with h | h
  · exact nI_pos (by omega) h
  · exact h (nI_le hi hN)
theorem ck_of1 {N : Nat} {z M : Int32} (hM : M = nI N) (hN : N < 2 ^ 31) (h1 : ¬ z < 1) (h2 : z ≤ M) : ∃ i, 0 < i ∧ i ≤ N ∧ z = nI i := by
  have h0 : ¬ z < 0 := by
    rw [Int32.lt_iff_toInt_lt] at h1 ⊢
    have : (1 : Int32).toInt = 1 := rfl
    have : (0 : Int32).toInt = 0 := rfl
    omega
  obtain ⟨i, hi, rfl⟩ := ck_of hM hN h0 h2
  refine ⟨i, ?_, hi, rfl⟩
  rcases Nat.eq_zero_or_pos i with h | h
  · subst h; exact absurd (by decide) h1
  · exact h
theorem ck_no1 {N i : Nat} {M : Int32} (hM : M = nI N) (hN : N < 2 ^ 31) (h0 : 0 < i) (hi : i ≤ N) (h : nI i < 1 ∨ ¬ nI i ≤ M) : False := by
  subst hM
  rcases h with h | h
  · exact nI_nlt (a := i) (b := 1) h0 (by omega) h
  · exact h (nI_le hi hN)
theorem sumN_mem {f : Nat → Nat} : ∀ {N q : Nat}, q < N → f q ≤ sumN f N
  | 0, q, h => by omega
  | N + 1, q, h => by
    unfold sumN
    rcases Nat.lt_succ_iff_lt_or_eq.mp h with h | h
    · have := sumN_mem (f := f) h
      omega
    · subst h; omega
def rm_X2_quota : Room := { frames := 7, cells := 4, slots := 24, locals := 104 }
theorem ld_X2_quota : yX2_quota.cls ≠ "java/lang/invoke/MethodHandle" ∧ yX2_quota.cls ≠ "java/lang/invoke/VarHandle" ∧ (parseMethodDescriptor yX2_quota.desc).map (fun d => d.parameters.length) = some 3 := by decide +kernel
def sp_X2_quota (ids : Nat → ClassId) : lm_S := fun As n L post postX => ∃ Q R g L0 z a b K, CW ids n Q R g L0 L ∧ As = [.ref 0, .int z, .int a, .int b] ∧ INV K (Q, R, g) ∧ (∀ q i j, okQ Q z a b q i j → ∀ L1, CS ids n (quS (Q, R, g) q i j) L0 L1 → post (some (.int (nI (sumN (fun q => qp (Q q)) 12 - qp (Q q) + j)))) n L1) ∧ ((¬ ∃ q i j, okQ Q z a b q i j) → postX lm_iae n L)
def cv_X2_quota (ids : Nat → ClassId) : Nat → Option lm_C := fun j => match j with
  | 23 => some (2, 2, sp_X2_queueOf ids, 1, 6)
  | 31 => some (1, 2, sp_X2_keptCells ids, 0, 0)
  | _ => none
def cs_X2_quota (ids : Nat → ClassId) : Nat → Option lm_C := fun j => match j with
  | 27 => some (3, 0, sp_X2_checkRange ids, 1, 6)
  | _ => none
set_option maxHeartbeats 4000000 in
set_option maxRecDepth 20000 in
theorem ok_X2_quota (l : Launch) (D : va_G) (ids : Nat → ClassId) (B b : Nat) (hlt : l.stackTraces = false) : lm_M l D (lm_ty ids) B b false yX2_quota cX2_quota 6 (some .int) rm_X2_quota 4 24 (sp_X2_quota ids) := by
  refine lm_method (own := RX2) (fld := lf_2) (cv := (cv_X2_quota ids)) (cs := (cs_X2_quota ids)) (ci := (fun _ => none)) (kon := (fun _ => none)) (thr := (fun _ => none)) (nw := (fun _ => none)) (ini := false) (cp := none) (alc := false) (by decide +kernel) rfl rfl rfl (lf_2_ok _) ⟨?_, ?_⟩ ?_ (fun h => by cases h) (lm_aok0 _ _ _ _ _ _ _ _) ?_ ?_
  · intro j f hf
    unfold cv_X2_quota at hf
    split at hf
    · cases hf; exact ⟨yX2_queueOf, cX2_queueOf, 2, (some (.object "SharedQueues$Queue")), rm_X2_queueOf, RX2, TX2, 7, 1, rfl, rfl, ok_X2_queueOf l D ids B b hlt, lw_2_queueOf, ll_2_23, rfl, rfl, ⟨rfl, ld_X2_queueOf⟩, by decide⟩
    · cases hf; exact ⟨yX2_keptCells, cX2_keptCells, 6, (some .int), rm_X2_keptCells, RX2, TX2, 7, 0, rfl, rfl, ok_X2_keptCells l D ids B b, lw_2_keptCells, ll_2_31, rfl, rfl, ⟨rfl, ld_X2_keptCells⟩, by decide⟩
    · cases hf
  · intro j f hf
    unfold cs_X2_quota at hf
    split at hf
    · cases hf; exact ⟨yX2_checkRange, cX2_checkRange, 3, none, rm_X2_checkRange, ok_X2_checkRange l D ids B b hlt, lw_2_checkRange, ll_2_27, rfl, rfl, ld_X2_checkRange, by decide⟩
    · cases hf
  · intro j v hv; cases hv
  · exact Or.inl fun _ => rfl
  rintro As n L post postX ⟨Q, R, g, L0, z, a, b, K, hC, rfl, hI, hp, hpx⟩
  refine ⟨by simp [Value.category], (Nat.le_of_ble_eq_true rfl), lm_cl_of ?_⟩
  intro G hG
  refine lg_aload_n hG dX2_quota_0 rfl ?_
  refine lg_iload_n hG dX2_quota_1 rfl ?_
  refine cg_callO hG hC dX2_quota_2 rfl (fun P h => h) (Nat.le_of_ble_eq_true rfl) (Nat.le_of_ble_eq_true rfl) (Nat.le_of_ble_eq_true rfl) ?_
  refine ⟨Q, R, g, L0, z, hC, rfl, ?_, fun hno => hpx (by rintro ⟨q, i, j, h, -⟩; exact hno q h.1 h.2)⟩
  intro q hq hz
  subst hz
  refine lg_astore hG dX2_quota_5 (Nat.le_of_ble_eq_true rfl) rfl ?_
  refine lg_iload_n hG dX2_quota_7 rfl ?_
  refine lg_iconst hG dX2_quota_8 (x := 0) (by decide) ?_
  refine lg_bipush hG dX2_quota_9 (x := (96)) (by decide) ?_
  refine lg_callS hG dX2_quota_11 (by simp) rfl (fun P h => h) (Nat.le_of_ble_eq_true rfl) (Nat.le_of_ble_eq_true rfl) (Nat.le_of_ble_eq_true rfl) ?_
  refine ⟨_, _, _, rfl, fun hno => hpx (by rintro ⟨q, i, j, -, h, -⟩; obtain ⟨h, rfl⟩ := h; exact ck_no (N := 96) rfl (by decide) h hno), ?_⟩
  intro hge hle
  obtain ⟨i, hi, rfl⟩ := ck_of (N := 96) rfl (by decide) hge hle
  refine lg_iload_n hG dX2_quota_14 rfl ?_
  refine lg_iconst hG dX2_quota_15 (x := 0) (by decide) ?_
  refine lg_bipush hG dX2_quota_16 (x := (96)) (by decide) ?_
  refine lg_callS hG dX2_quota_18 (by simp) rfl (fun P h => h) (Nat.le_of_ble_eq_true rfl) (Nat.le_of_ble_eq_true rfl) (Nat.le_of_ble_eq_true rfl) ?_
  refine ⟨_, _, _, rfl, fun hno => hpx (by rintro ⟨q, i, j, -, -, h, -⟩; obtain ⟨h, rfl⟩ := h; exact ck_no (N := 96) rfl (by decide) h hno), ?_⟩
  intro hge hle
  obtain ⟨j, hj, rfl⟩ := ck_of (N := 96) rfl (by decide) hge hle
  refine lg_aload_n hG dX2_quota_21 rfl ?_
  refine cg_callO hG hC dX2_quota_22 rfl (fun P h => h) (Nat.le_of_ble_eq_true rfl) (Nat.le_of_ble_eq_true rfl) (Nat.le_of_ble_eq_true rfl) ?_
  refine ⟨Q, R, g, L0, hC, rfl, ?_⟩
  have hsm := sumN_mem (f := fun q => qp (Q q)) hq
  have hs96 : sumN (fun q => qp (Q q)) 12 ≤ 96 := hI.2.2.1
  refine lg_aload hG dX2_quota_25 rfl ?_
  refine cg_get hG hC dX2_quota_27 rfl (by first | assumption | omega) rfl rfl ?_
  refine lg_isub hG dX2_quota_30 (show nI (sumN (fun q => qp (Q q)) 12) - nI (qp (Q q)) = nI (sumN (fun q => qp (Q q)) 12 - qp (Q q)) from pk_sub hsm) ?_
  refine lg_iload_n hG dX2_quota_31 rfl ?_
  refine lg_iadd hG dX2_quota_32 (nI_add (sumN (fun q => qp (Q q)) 12 - qp (Q q)) j) ?_
  refine lg_istore hG dX2_quota_33 (Nat.le_of_ble_eq_true rfl) rfl ?_
  refine lg_iload hG dX2_quota_35 rfl ?_
  refine lg_iconst hG dX2_quota_37 (x := 0) (by decide) ?_
  refine lg_bipush hG dX2_quota_38 (x := (96)) (by decide) ?_
  refine lg_callS hG dX2_quota_40 (by simp) rfl (fun P h => h) (Nat.le_of_ble_eq_true rfl) (Nat.le_of_ble_eq_true rfl) (Nat.le_of_ble_eq_true rfl) ?_
  refine ⟨_, _, _, rfl, fun hno => hpx (by rintro ⟨q1, i1, j1, ⟨c1, c2⟩, -, ⟨c5, c6⟩, c7⟩; cases (nI_eq (by omega) (by omega)).mp c2; cases (nI_eq (by omega) (by omega)).mp c6; exact ck_no (N := 96) rfl (by decide) c7 hno), ?_⟩
  intro hge hle
  have hjj : sumN (fun q => qp (Q q)) 12 - qp (Q q) + j ≤ 96 := (nI_leI (by omega) (by decide)).mp hle
  refine lg_aload hG dX2_quota_43 rfl ?_
  refine lg_iload_n hG dX2_quota_45 rfl ?_
  refine cg_put hG hC dX2_quota_46 rfl (by first | assumption | omega) rfl (by first | trivial | exact Or.inl rfl | exact Or.inr rfl | assumption) (by decide) (x' := sO (Q q) i) rfl rfl (fun L hC => ?_)
  try rw [bx_uu] at hC
  refine lg_aload hG dX2_quota_49 rfl ?_
  refine lg_iload_n hG dX2_quota_51 rfl ?_
  refine cg_put hG hC dX2_quota_52 rfl (by first | assumption | omega) (va_up_self _ _ _) (by first | trivial | exact Or.inl rfl | exact Or.inr rfl | assumption) (by decide) (x' := sP (sO (Q q) i) j) rfl rfl (fun L hC => ?_)
  try rw [bx_uu] at hC
  refine lg_iload hG dX2_quota_55 rfl ?_
  refine lg_iret hG dX2_quota_57 (Nat.le_of_ble_eq_true rfl) (Nat.le_of_ble_eq_true rfl) ?_
  exact ⟨trivial, hp q i j ⟨⟨hq, rfl⟩, ⟨hi, rfl⟩, ⟨hj, rfl⟩, hjj⟩ _ hC⟩

def rm_X2_kind : Room := { frames := 7, cells := 3, slots := 18, locals := 104 }
theorem ld_X2_kind : yX2_kind.cls ≠ "java/lang/invoke/MethodHandle" ∧ yX2_kind.cls ≠ "java/lang/invoke/VarHandle" ∧ (parseMethodDescriptor yX2_kind.desc).map (fun d => d.parameters.length) = some 3 := by decide +kernel
def sp_X2_kind (ids : Nat → ClassId) : lm_S := fun As n L post postX => ∃ Q R g L0 z a b K, CW ids n Q R g L0 L ∧ As = [.ref 0, .int z, .int a, .int b] ∧ INV K (Q, R, g) ∧ (∀ q j u, okK z a b q j u → ∀ L1, CS ids n (kdS (Q, R, g) q j u) L0 L1 → post none n L1) ∧ ((¬ ∃ q j u, okK z a b q j u) → postX lm_iae n L)
def cv_X2_kind (ids : Nat → ClassId) : Nat → Option lm_C := fun j => match j with
  | 23 => some (2, 2, sp_X2_queueOf ids, 1, 6)
  | 48 => some (4, 2, sp_X2_changeClass ids, 0, 0)
  | _ => none
def cs_X2_kind (ids : Nat → ClassId) : Nat → Option lm_C := fun j => match j with
  | 27 => some (3, 0, sp_X2_checkRange ids, 1, 6)
  | _ => none
set_option maxHeartbeats 4000000 in
set_option maxRecDepth 20000 in
theorem ok_X2_kind (l : Launch) (D : va_G) (ids : Nat → ClassId) (B b : Nat) (hlt : l.stackTraces = false) : lm_M l D (lm_ty ids) B b false yX2_kind cX2_kind 5 none rm_X2_kind 3 18 (sp_X2_kind ids) := by
  refine lm_method (own := RX2) (fld := lf_2) (cv := (cv_X2_kind ids)) (cs := (cs_X2_kind ids)) (ci := (fun _ => none)) (kon := (fun _ => none)) (thr := (fun _ => none)) (nw := (fun _ => none)) (ini := false) (cp := none) (alc := false) (by decide +kernel) rfl rfl rfl (lf_2_ok _) ⟨?_, ?_⟩ ?_ (fun h => by cases h) (lm_aok0 _ _ _ _ _ _ _ _) ?_ ?_
  · intro j f hf
    unfold cv_X2_kind at hf
    split at hf
    · cases hf; exact ⟨yX2_queueOf, cX2_queueOf, 2, (some (.object "SharedQueues$Queue")), rm_X2_queueOf, RX2, TX2, 7, 1, rfl, rfl, ok_X2_queueOf l D ids B b hlt, lw_2_queueOf, ll_2_23, rfl, rfl, ⟨rfl, ld_X2_queueOf⟩, by decide⟩
    · cases hf; exact ⟨yX2_changeClass, cX2_changeClass, 4, none, rm_X2_changeClass, RX2, TX2, 7, 3, rfl, rfl, ok_X2_changeClass l D ids B b, lw_2_changeClass, ll_2_48, rfl, rfl, ⟨rfl, ld_X2_changeClass⟩, by decide⟩
    · cases hf
  · intro j f hf
    unfold cs_X2_kind at hf
    split at hf
    · cases hf; exact ⟨yX2_checkRange, cX2_checkRange, 3, none, rm_X2_checkRange, ok_X2_checkRange l D ids B b hlt, lw_2_checkRange, ll_2_27, rfl, rfl, ld_X2_checkRange, by decide⟩
    · cases hf
  · intro j v hv; cases hv
  · exact Or.inl fun _ => rfl
  rintro As n L post postX ⟨Q, R, g, L0, z, a, b, K, hC, rfl, hI, hp, hpx⟩
  refine ⟨by simp [Value.category], (Nat.le_of_ble_eq_true rfl), lm_cl_of ?_⟩
  intro G hG
  refine lg_aload_n hG dX2_kind_0 rfl ?_
  refine lg_iload_n hG dX2_kind_1 rfl ?_
  refine cg_callO hG hC dX2_kind_2 rfl (fun P h => h) (Nat.le_of_ble_eq_true rfl) (Nat.le_of_ble_eq_true rfl) (Nat.le_of_ble_eq_true rfl) ?_
  refine ⟨Q, R, g, L0, z, hC, rfl, ?_, fun hno => hpx (by rintro ⟨q, i, j, h, -⟩; exact hno q h.1 h.2)⟩
  intro q hq hz
  subst hz
  refine lg_astore hG dX2_kind_5 (Nat.le_of_ble_eq_true rfl) rfl ?_
  refine lg_iload_n hG dX2_kind_7 rfl ?_
  refine lg_iconst hG dX2_kind_8 (x := 0) (by decide) ?_
  refine lg_iconst hG dX2_kind_9 (x := 3) (by decide) ?_
  refine lg_callS hG dX2_kind_10 (by simp) rfl (fun P h => h) (Nat.le_of_ble_eq_true rfl) (Nat.le_of_ble_eq_true rfl) (Nat.le_of_ble_eq_true rfl) ?_
  refine ⟨_, _, _, rfl, fun hno => hpx (by rintro ⟨q, i, j, -, h, -⟩; obtain ⟨h, rfl⟩ := h; exact ck_no (N := 3) rfl (by decide) (by omega) hno), ?_⟩
  intro hge hle
  obtain ⟨j, hj, rfl⟩ := ck_of (N := 3) rfl (by decide) hge hle
  have hj4 : j < 4 := by omega
  refine lg_iload_n hG dX2_kind_13 rfl ?_
  refine lg_iconst hG dX2_kind_14 (x := 1) (by decide) ?_
  refine lg_sipush hG dX2_kind_15 (x := (1000)) (by decide) ?_
  refine lg_callS hG dX2_kind_18 (by simp) rfl (fun P h => h) (Nat.le_of_ble_eq_true rfl) (Nat.le_of_ble_eq_true rfl) (Nat.le_of_ble_eq_true rfl) ?_
  refine ⟨_, _, _, rfl, fun hno => hpx (by rintro ⟨q, i, j, -, -, h1, h2, h3⟩; subst h3; exact ck_no1 (N := 1000) rfl (by decide) h1 h2 hno), ?_⟩
  intro hge hle
  obtain ⟨u, hu1, hu2, rfl⟩ := ck_of1 (N := 1000) rfl (by decide) hge hle
  have hp := hp q j u ⟨⟨hq, rfl⟩, ⟨hj4, rfl⟩, hu1, hu2, rfl⟩
  have hk4 : qk (Q q) < 4 := (hI.1 q hq).1
  refine lg_aload hG dX2_kind_21 rfl ?_
  refine lg_iload_n hG dX2_kind_23 rfl ?_
  refine cg_put hG hC dX2_kind_24 rfl (by first | assumption | omega) rfl (by first | trivial | exact Or.inl rfl | exact Or.inr rfl | assumption) (by decide) (x' := sU (Q q) u) rfl rfl (fun L hC => ?_)
  try rw [bx_uu] at hC
  refine lg_aload hG dX2_kind_27 rfl ?_
  refine cg_get hG hC dX2_kind_29 rfl (by first | assumption | omega) (va_up_self _ _ _) rfl ?_
  refine lg_iload_n hG dX2_kind_32 rfl ?_
  refine lg_icmp_eq hG dX2_kind_33 (tgt := 44) (by decide) (by decide) (fun h_33 => ?_) (fun h_33 => ?_)
  · skip
    have e1 : qk (Q q) = j := (nI_eq (by omega) (by omega)).mp h_33
    unfold kdS at hp
    rw [if_pos e1] at hp
    have hp := hp _ hC
    refine lg_vret hG dX2_kind_44 (Nat.le_of_ble_eq_true rfl) (Nat.le_of_ble_eq_true rfl) ?_
    exact ⟨trivial, hp⟩
  · skip
    have e1 : ¬ qk (Q q) = j := fun h => h_33 (by rw [← h]; rfl)
    unfold kdS at hp
    rw [if_neg e1] at hp
    refine lg_aload_n hG dX2_kind_36 rfl ?_
    refine lg_iload_n hG dX2_kind_37 rfl ?_
    refine lg_aload hG dX2_kind_38 rfl ?_
    refine lg_iload_n hG dX2_kind_40 rfl ?_
    refine cg_callO hG hC dX2_kind_41 rfl (fun P h => h) (Nat.le_of_ble_eq_true rfl) (Nat.le_of_ble_eq_true rfl) (Nat.le_of_ble_eq_true rfl) ?_
    refine ⟨_, _, _, _, q, j, hC, rfl, hq, hj4, by rw [va_up_self]; exact fun h => e1 h.symm, by rw [va_up_self]; exact hk4, by rw [va_up_self]; exact fun h9 => ⟨(hI.1 q hq).2.2.2.2.2.2.2.2 h9, hI.ring hq hj4 (Or.inr e1)⟩, fun L1 hC1 => ?_⟩
    have hp := hp L1 (by rw [va_up_self, bx_uu] at hC1; exact hC1)
    refine lg_vret hG dX2_kind_44 (Nat.le_of_ble_eq_true rfl) (Nat.le_of_ble_eq_true rfl) ?_
    exact ⟨trivial, hp⟩

def rm_X2_word : Room := { frames := 0, cells := 0, slots := 0, locals := 0 }
theorem ld_X2_word : yX2_word.cls ≠ "java/lang/invoke/MethodHandle" ∧ yX2_word.cls ≠ "java/lang/invoke/VarHandle" ∧ (parseMethodDescriptor yX2_word.desc).map (fun d => d.parameters.length) = some 0 := by decide +kernel
def sp_X2_word (ids : Nat → ClassId) : lm_S := fun As n L post postX => ∃ Q R g L0, CW ids n Q R g L0 L ∧ As = [.ref 0] ∧ post (some (.int (g 0))) n L
set_option maxHeartbeats 4000000 in
set_option maxRecDepth 20000 in
theorem ok_X2_word (l : Launch) (D : va_G) (ids : Nat → ClassId) (B b : Nat) : lm_M l D (lm_ty ids) B b false yX2_word cX2_word 1 (some .int) rm_X2_word 0 0 (sp_X2_word ids) := by
  refine lm_method (own := RX2) (fld := lf_2) (cv := (fun _ => none)) (cs := (fun _ => none)) (ci := (fun _ => none)) (kon := (fun _ => none)) (thr := (fun _ => none)) (nw := (fun _ => none)) (ini := false) (cp := none) (alc := false) (by decide +kernel) rfl rfl rfl (lf_2_ok _) ⟨?_, ?_⟩ ?_ (fun h => by cases h) (lm_aok0 _ _ _ _ _ _ _ _) ?_ ?_
  · intro j f hf
    cases hf
  · intro j f hf
    cases hf
  · intro j v hv; cases hv
  · exact Or.inl fun _ => rfl
  rintro As n L post postX ⟨Q, R, g, L0, hC, rfl, hp⟩
  refine ⟨by simp [Value.category], (Nat.le_of_ble_eq_true rfl), lm_cl_of ?_⟩
  intro G hG
  refine lg_aload_n hG dX2_word_0 rfl ?_
  refine cg_getg hG hC dX2_word_1 rfl rfl ?_
  refine lg_iret hG dX2_word_4 (Nat.le_of_ble_eq_true rfl) (Nat.le_of_ble_eq_true rfl) ?_
  exact ⟨trivial, hp⟩

def rm_X2_empty : Room := { frames := 7, cells := 1, slots := 6, locals := 103 }
theorem ld_X2_empty : yX2_empty.cls ≠ "java/lang/invoke/MethodHandle" ∧ yX2_empty.cls ≠ "java/lang/invoke/VarHandle" ∧ (parseMethodDescriptor yX2_empty.desc).map (fun d => d.parameters.length) = some 1 := by decide +kernel
def sp_X2_empty (ids : Nat → ClassId) : lm_S := fun As n L post postX => ∃ Q R g L0 z K, CW ids n Q R g L0 L ∧ As = [.ref 0, .int z] ∧ INV K (Q, R, g) ∧ (∀ q, okN 12 z q → ∀ L1, CS ids n (emS (Q, R, g) q) L0 L1 → post (some (.int (nI (qI (Q q)).length))) n L1) ∧ ((¬ ∃ q, okN 12 z q) → postX lm_iae n L)
def cv_X2_empty (ids : Nat → ClassId) : Nat → Option lm_C := fun j => match j with
  | 23 => some (2, 2, sp_X2_queueOf ids, 1, 6)
  | 111 => some (1, 0, sp_X0_dropAll ids, 0, 0)
  | 114 => some (3, 2, sp_X2_leaveRing ids, 0, 0)
  | _ => none
set_option maxHeartbeats 4000000 in
set_option maxRecDepth 20000 in
theorem ok_X2_empty (l : Launch) (D : va_G) (ids : Nat → ClassId) (B b : Nat) (hlt : l.stackTraces = false) : lm_M l D (lm_ty ids) B b false yX2_empty cX2_empty 4 (some .int) rm_X2_empty 1 6 (sp_X2_empty ids) := by
  refine lm_method (own := RX2) (fld := lf_2) (cv := (cv_X2_empty ids)) (cs := (fun _ => none)) (ci := (fun _ => none)) (kon := (fun _ => none)) (thr := (fun _ => none)) (nw := (fun _ => none)) (ini := false) (cp := none) (alc := false) (by decide +kernel) rfl rfl rfl (lf_2_ok _) ⟨?_, ?_⟩ ?_ (fun h => by cases h) (lm_aok0 _ _ _ _ _ _ _ _) ?_ ?_
  · intro j f hf
    unfold cv_X2_empty at hf
    split at hf
    · cases hf; exact ⟨yX2_queueOf, cX2_queueOf, 2, (some (.object "SharedQueues$Queue")), rm_X2_queueOf, RX2, TX2, 7, 1, rfl, rfl, ok_X2_queueOf l D ids B b hlt, lw_2_queueOf, ll_2_23, rfl, rfl, ⟨rfl, ld_X2_queueOf⟩, by decide⟩
    · cases hf; exact ⟨yX0_dropAll, cX0_dropAll, 1, none, rm_X0_dropAll, RX0, TX0, 15, 0, rfl, rfl, ok_X0_dropAll l D ids B b, lw_0_dropAll, ll_2_111, rfl, rfl, ⟨rfl, ld_X0_dropAll⟩, by decide⟩
    · cases hf; exact ⟨yX2_leaveRing, cX2_leaveRing, 3, none, rm_X2_leaveRing, RX2, TX2, 7, 2, rfl, rfl, ok_X2_leaveRing l D ids B b, lw_2_leaveRing, ll_2_114, rfl, rfl, ⟨rfl, ld_X2_leaveRing⟩, by decide⟩
    · cases hf
  · intro j f hf
    cases hf
  · intro j v hv; cases hv
  · exact Or.inl fun _ => rfl
  rintro As n L post postX ⟨Q, R, g, L0, z, K, hC, rfl, hI, hp, hpx⟩
  refine ⟨by simp [Value.category], (Nat.le_of_ble_eq_true rfl), lm_cl_of ?_⟩
  intro G hG
  refine lg_aload_n hG dX2_empty_0 rfl ?_
  refine lg_iload_n hG dX2_empty_1 rfl ?_
  refine cg_callO hG hC dX2_empty_2 rfl (fun P h => h) (Nat.le_of_ble_eq_true rfl) (Nat.le_of_ble_eq_true rfl) (Nat.le_of_ble_eq_true rfl) ?_
  refine ⟨Q, R, g, L0, z, hC, rfl, ?_, fun hno => hpx (by rintro ⟨q, h⟩; exact hno q h.1 h.2)⟩
  intro q hq hz
  subst hz
  have hp := hp q ⟨hq, rfl⟩
  have hl96 := hC.blen hq
  have hk4 : qk (Q q) < 4 := (hI.1 q hq).1
  refine lg_astore_n hG dX2_empty_5 (Nat.le_of_ble_eq_true rfl) rfl ?_
  refine lg_aload_n hG dX2_empty_6 rfl ?_
  refine cg_get hG hC dX2_empty_7 rfl (by first | assumption | omega) rfl rfl ?_
  refine lg_istore_n hG dX2_empty_10 (Nat.le_of_ble_eq_true rfl) rfl ?_
  refine lg_iload_n hG dX2_empty_11 rfl ?_
  refine lg_if_le hG dX2_empty_12 (tgt := 25) (by decide) (by decide) (fun h_12 => ?_) (fun h_12 => ?_)
  · skip
    have e1 : ¬ 0 < (qI (Q q)).length := fun h => absurd h_12 (nI_nle h (by omega))
    unfold emS at hp
    rw [if_neg e1] at hp
    have hp := hp _ hC
    refine lg_iload_n hG dX2_empty_25 rfl ?_
    refine lg_iret hG dX2_empty_26 (Nat.le_of_ble_eq_true rfl) (Nat.le_of_ble_eq_true rfl) ?_
    exact ⟨trivial, hp⟩
  · skip
    have e1 : 0 < (qI (Q q)).length := by
      rcases Nat.eq_zero_or_pos (qI (Q q)).length with h | h
      · exact absurd (by rw [h]; decide) h_12
      · exact h
    unfold emS at hp
    rw [if_pos e1] at hp
    refine lg_aload_n hG dX2_empty_15 rfl ?_
    refine cg_callQ hG hC dX2_empty_16 rfl (fun P h => h) (by first | assumption | omega) (Nat.le_of_ble_eq_true rfl) (Nat.le_of_ble_eq_true rfl) (Nat.le_of_ble_eq_true rfl) ?_
    refine cq_dropA hC hq rfl (fun L hC => ?_)
    refine lg_aload_n hG dX2_empty_19 rfl ?_
    refine lg_iload_n hG dX2_empty_20 rfl ?_
    refine lg_aload_n hG dX2_empty_21 rfl ?_
    refine cg_callO hG hC dX2_empty_22 rfl (fun P h => h) (Nat.le_of_ble_eq_true rfl) (Nat.le_of_ble_eq_true rfl) (Nat.le_of_ble_eq_true rfl) ?_
    refine ⟨_, _, _, _, q, hC, rfl, hq, by rw [va_up_self]; exact hk4, by rw [va_up_self]; exact (hI.1 q hq).2.2.2.2.2.2.2.2 e1, fun L1 hC1 => ?_⟩
    have hp := hp L1 (by rw [va_up_self, bx_uu] at hC1; unfold lvR at hC1; rw [va_up_self] at hC1; exact hC1)
    refine lg_iload_n hG dX2_empty_25 rfl ?_
    refine lg_iret hG dX2_empty_26 (Nat.le_of_ble_eq_true rfl) (Nat.le_of_ble_eq_true rfl) ?_
    exact ⟨trivial, hp⟩

theorem sw_out {N : Nat} {a : Int32} (h : ¬ ∃ i, okN (N + 1) a i) : a.toInt < 0 ∨ (N : Int) < a.toInt := by
  by_cases h1 : a < 0
  · exact Or.inl (by rw [Int32.lt_iff_toInt_lt] at h1; exact h1)
  · obtain ⟨i, hi, rfl⟩ := nI_of h1
    refine Or.inr ?_
    rw [nI_toInt hi]
    rcases Nat.lt_or_ge i (N + 1) with h2 | h2
    · exact absurd ⟨i, h2, rfl⟩ h
    · omega
def rm_X2_told : Room := { frames := 7, cells := 2, slots := 12, locals := 103 }
theorem ld_X2_told : yX2_told.cls ≠ "java/lang/invoke/MethodHandle" ∧ yX2_told.cls ≠ "java/lang/invoke/VarHandle" ∧ (parseMethodDescriptor yX2_told.desc).map (fun d => d.parameters.length) = some 2 := by decide +kernel
def sp_X2_told (ids : Nat → ClassId) : lm_S := fun As n L post postX => ∃ Q R g L0 z a K, CW ids n Q R g L0 L ∧ As = [.ref 0, .int z, .int a] ∧ INV K (Q, R, g) ∧ (∀ q i, okN 12 z q → okN 13 a i → post (some (.int (tldv (Q, R, g) q i))) n L) ∧ ((¬ ∃ q i, okN 12 z q ∧ okN 13 a i) → postX lm_iae n L)
def cv_X2_told (ids : Nat → ClassId) : Nat → Option lm_C := fun j => match j with
  | 23 => some (2, 2, sp_X2_queueOf ids, 1, 6)
  | 125 => some (2, 1, sp_X1_placeOf ids, 0, 0)
  | _ => none
def th_X2_told : Nat → Option String := fun j => match j with
  | 154 => some lm_iae
  | _ => none
set_option maxHeartbeats 4000000 in
set_option maxRecDepth 20000 in
theorem ok_X2_told (l : Launch) (D : va_G) (ids : Nat → ClassId) (B b : Nat) (hlt : l.stackTraces = false) : lm_M l D (lm_ty ids) B b false yX2_told cX2_told 4 (some .int) rm_X2_told 2 12 (sp_X2_told ids) := by
  refine lm_method (own := RX2) (fld := lf_2) (cv := (cv_X2_told ids)) (cs := (fun _ => none)) (ci := (fun _ => none)) (kon := (fun _ => none)) (thr := th_X2_told) (nw := (fun _ => none)) (ini := false) (cp := none) (alc := false) (by decide +kernel) rfl rfl rfl (lf_2_ok _) ⟨?_, ?_⟩ ?_ (fun h => by cases h) (lm_aok0 _ _ _ _ _ _ _ _) ?_ ?_
  · intro j f hf
    unfold cv_X2_told at hf
    split at hf
    · cases hf; exact ⟨yX2_queueOf, cX2_queueOf, 2, (some (.object "SharedQueues$Queue")), rm_X2_queueOf, RX2, TX2, 7, 1, rfl, rfl, ok_X2_queueOf l D ids B b hlt, lw_2_queueOf, ll_2_23, rfl, rfl, ⟨rfl, ld_X2_queueOf⟩, by decide⟩
    · cases hf; exact ⟨yX1_placeOf, cX1_placeOf, 3, (some .int), rm_X1_placeOf, RX1, TX1, 2, 1, rfl, rfl, ok_X1_placeOf l D ids B b, lw_1_placeOf, ll_2_125, rfl, rfl, ⟨rfl, ld_X1_placeOf⟩, by decide⟩
    · cases hf
  · intro j f hf
    cases hf
  · intro j v hv; cases hv
  · refine Or.inr ⟨rfl, rfl, hlt, by decide, by decide, ?_⟩
    intro pc en he
    unfold th_X2_told at he
    split at he
    · cases he; exact ⟨143, 145, 147, "no such what", lx_iae, by decide, dX2_told_154, dX2_told_157, dX2_told_158, dX2_told_160, dX2_told_163⟩
    · cases he
  rintro As n L post postX ⟨Q, R, g, L0, z, a, K, hC, rfl, hI, hp, hpx⟩
  refine ⟨by simp [Value.category], (Nat.le_of_ble_eq_true rfl), lm_cl_of ?_⟩
  intro G hG
  refine lg_aload_n hG dX2_told_0 rfl ?_
  refine lg_iload_n hG dX2_told_1 rfl ?_
  refine cg_callO hG hC dX2_told_2 rfl (fun P h => h) (Nat.le_of_ble_eq_true rfl) (Nat.le_of_ble_eq_true rfl) (Nat.le_of_ble_eq_true rfl) ?_
  refine ⟨Q, R, g, L0, z, hC, rfl, ?_, fun hno => hpx (by rintro ⟨q, i, h, -⟩; exact hno q h.1 h.2)⟩
  intro q hq hz
  subst hz
  have hk4 : qk (Q q) < 4 := (hI.1 q hq).1
  refine lg_astore_n hG dX2_told_5 (Nat.le_of_ble_eq_true rfl) rfl ?_
  refine lg_iload_n hG dX2_told_6 rfl ?_
  by_cases hi : ∃ i, okN 13 a i
  · obtain ⟨i, hi, rfl⟩ := hi
    rcases (by omega : i = 0 ∨ i = 1 ∨ i = 2 ∨ i = 3 ∨ i = 4 ∨ i = 5 ∨ i = 6 ∨ i = 7 ∨ i = 8 ∨ i = 9 ∨ i = 10 ∨ i = 11 ∨ i = 12) with rfl | rfl | rfl | rfl | rfl | rfl | rfl | rfl | rfl | rfl | rfl | rfl | rfl
    · refine lg_tabIn hG dX2_told_7 (by decide) (by decide) (o := 65) (by decide) (tgt := 72) (by decide) (by decide) ?_
      refine lg_aload_n hG dX2_told_72 rfl ?_
      refine cg_get hG hC dX2_told_73 rfl (by first | assumption | omega) rfl rfl ?_
      refine lg_iret hG dX2_told_76 (Nat.le_of_ble_eq_true rfl) (Nat.le_of_ble_eq_true rfl) ?_
      exact ⟨trivial, hp q 0 ⟨hq, rfl⟩ ⟨by decide, rfl⟩⟩
    · refine lg_tabIn hG dX2_told_7 (by decide) (by decide) (o := 70) (by decide) (tgt := 77) (by decide) (by decide) ?_
      refine lg_aload_n hG dX2_told_77 rfl ?_
      refine cg_get hG hC dX2_told_78 rfl (by first | assumption | omega) rfl rfl ?_
      refine lg_iret hG dX2_told_81 (Nat.le_of_ble_eq_true rfl) (Nat.le_of_ble_eq_true rfl) ?_
      exact ⟨trivial, hp q 1 ⟨hq, rfl⟩ ⟨by decide, rfl⟩⟩
    · refine lg_tabIn hG dX2_told_7 (by decide) (by decide) (o := 75) (by decide) (tgt := 82) (by decide) (by decide) ?_
      refine lg_aload_n hG dX2_told_82 rfl ?_
      refine cg_get hG hC dX2_told_83 rfl (by first | assumption | omega) rfl rfl ?_
      refine lg_iret hG dX2_told_86 (Nat.le_of_ble_eq_true rfl) (Nat.le_of_ble_eq_true rfl) ?_
      exact ⟨trivial, hp q 2 ⟨hq, rfl⟩ ⟨by decide, rfl⟩⟩
    · refine lg_tabIn hG dX2_told_7 (by decide) (by decide) (o := 80) (by decide) (tgt := 87) (by decide) (by decide) ?_
      refine lg_aload_n hG dX2_told_87 rfl ?_
      refine cg_get hG hC dX2_told_88 rfl (by first | assumption | omega) rfl rfl ?_
      refine lg_iret hG dX2_told_91 (Nat.le_of_ble_eq_true rfl) (Nat.le_of_ble_eq_true rfl) ?_
      exact ⟨trivial, hp q 3 ⟨hq, rfl⟩ ⟨by decide, rfl⟩⟩
    · refine lg_tabIn hG dX2_told_7 (by decide) (by decide) (o := 85) (by decide) (tgt := 92) (by decide) (by decide) ?_
      refine lg_aload_n hG dX2_told_92 rfl ?_
      refine cg_get hG hC dX2_told_93 rfl (by first | assumption | omega) rfl rfl ?_
      refine lg_iret hG dX2_told_96 (Nat.le_of_ble_eq_true rfl) (Nat.le_of_ble_eq_true rfl) ?_
      exact ⟨trivial, hp q 4 ⟨hq, rfl⟩ ⟨by decide, rfl⟩⟩
    · refine lg_tabIn hG dX2_told_7 (by decide) (by decide) (o := 90) (by decide) (tgt := 97) (by decide) (by decide) ?_
      refine lg_aload_n hG dX2_told_97 rfl ?_
      refine cg_get hG hC dX2_told_98 rfl (by first | assumption | omega) rfl rfl ?_
      refine lg_iret hG dX2_told_101 (Nat.le_of_ble_eq_true rfl) (Nat.le_of_ble_eq_true rfl) ?_
      exact ⟨trivial, hp q 5 ⟨hq, rfl⟩ ⟨by decide, rfl⟩⟩
    · refine lg_tabIn hG dX2_told_7 (by decide) (by decide) (o := 95) (by decide) (tgt := 102) (by decide) (by decide) ?_
      refine lg_aload_n hG dX2_told_102 rfl ?_
      refine cg_get hG hC dX2_told_103 rfl (by first | assumption | omega) rfl rfl ?_
      refine lg_if_eq hG dX2_told_106 (tgt := 113) (by decide) (by decide) (fun h_106 => ?_) (fun h_106 => ?_)
      · skip
        have e1 : bI (qt (Q q)) = 0 := h_106
        have hp := hp q 6 ⟨hq, rfl⟩ ⟨by decide, rfl⟩
        rw [show tldv (Q, R, g) q 6 = bI (qt (Q q)) from rfl, e1] at hp
        refine lg_iconst hG dX2_told_113 (x := 0) (by decide) ?_
        refine lg_iret hG dX2_told_114 (Nat.le_of_ble_eq_true rfl) (Nat.le_of_ble_eq_true rfl) ?_
        exact ⟨trivial, hp⟩
      · skip
        have e1 : bI (qt (Q q)) = 1 := by
          have h9 : ¬ bI (qt (Q q)) = 0 := h_106
          unfold bI at h9 ⊢
          split
          · rfl
          · rename_i h8; exact absurd (if_neg h8) h9
        have hp := hp q 6 ⟨hq, rfl⟩ ⟨by decide, rfl⟩
        rw [show tldv (Q, R, g) q 6 = bI (qt (Q q)) from rfl, e1] at hp
        refine lg_iconst hG dX2_told_109 (x := 1) (by decide) ?_
        refine lg_goto hG dX2_told_110 (tgt := 114) (by decide) (by decide) ?_
        refine lg_iret hG dX2_told_114 (Nat.le_of_ble_eq_true rfl) (Nat.le_of_ble_eq_true rfl) ?_
        exact ⟨trivial, hp⟩
    · refine lg_tabIn hG dX2_told_7 (by decide) (by decide) (o := 108) (by decide) (tgt := 115) (by decide) (by decide) ?_
      refine lg_aload_n hG dX2_told_115 rfl ?_
      refine cg_getg hG hC dX2_told_116 rfl rfl ?_
      refine lg_aload_n hG dX2_told_119 rfl ?_
      refine cg_get hG hC dX2_told_120 rfl (by first | assumption | omega) rfl rfl ?_
      first | refine cg_aq hG hC dX2_told_123 rfl hk4 ?_ | refine cg_ar hG hC dX2_told_123 rfl hk4 ?_
      refine lg_iload_n hG dX2_told_124 rfl ?_
      refine cg_callR hG hC dX2_told_125 rfl (fun P h => h) hk4 (Nat.le_of_ble_eq_true rfl) (Nat.le_of_ble_eq_true rfl) (Nat.le_of_ble_eq_true rfl) ?_
      refine cr_place hC hk4 rfl hq ?_
      refine lg_iret hG dX2_told_128 (Nat.le_of_ble_eq_true rfl) (Nat.le_of_ble_eq_true rfl) ?_
      exact ⟨trivial, hp q 7 ⟨hq, rfl⟩ ⟨by decide, rfl⟩⟩
    · refine lg_tabIn hG dX2_told_7 (by decide) (by decide) (o := 122) (by decide) (tgt := 129) (by decide) (by decide) ?_
      refine lg_aload_n hG dX2_told_129 rfl ?_
      refine cg_get hG hC dX2_told_130 rfl (by first | assumption | omega) rfl rfl ?_
      refine lg_iret hG dX2_told_133 (Nat.le_of_ble_eq_true rfl) (Nat.le_of_ble_eq_true rfl) ?_
      exact ⟨trivial, hp q 8 ⟨hq, rfl⟩ ⟨by decide, rfl⟩⟩
    · refine lg_tabIn hG dX2_told_7 (by decide) (by decide) (o := 127) (by decide) (tgt := 134) (by decide) (by decide) ?_
      refine lg_aload_n hG dX2_told_134 rfl ?_
      refine cg_get hG hC dX2_told_135 rfl (by first | assumption | omega) rfl rfl ?_
      refine lg_iret hG dX2_told_138 (Nat.le_of_ble_eq_true rfl) (Nat.le_of_ble_eq_true rfl) ?_
      exact ⟨trivial, hp q 9 ⟨hq, rfl⟩ ⟨by decide, rfl⟩⟩
    · refine lg_tabIn hG dX2_told_7 (by decide) (by decide) (o := 132) (by decide) (tgt := 139) (by decide) (by decide) ?_
      refine lg_aload_n hG dX2_told_139 rfl ?_
      refine cg_get hG hC dX2_told_140 rfl (by first | assumption | omega) rfl rfl ?_
      refine lg_iret hG dX2_told_143 (Nat.le_of_ble_eq_true rfl) (Nat.le_of_ble_eq_true rfl) ?_
      exact ⟨trivial, hp q 10 ⟨hq, rfl⟩ ⟨by decide, rfl⟩⟩
    · refine lg_tabIn hG dX2_told_7 (by decide) (by decide) (o := 137) (by decide) (tgt := 144) (by decide) (by decide) ?_
      refine lg_aload_n hG dX2_told_144 rfl ?_
      refine cg_get hG hC dX2_told_145 rfl (by first | assumption | omega) rfl rfl ?_
      refine lg_iret hG dX2_told_148 (Nat.le_of_ble_eq_true rfl) (Nat.le_of_ble_eq_true rfl) ?_
      exact ⟨trivial, hp q 11 ⟨hq, rfl⟩ ⟨by decide, rfl⟩⟩
    · refine lg_tabIn hG dX2_told_7 (by decide) (by decide) (o := 142) (by decide) (tgt := 149) (by decide) (by decide) ?_
      refine lg_aload_n hG dX2_told_149 rfl ?_
      refine cg_get hG hC dX2_told_150 rfl (by first | assumption | omega) rfl rfl ?_
      refine lg_iret hG dX2_told_153 (Nat.le_of_ble_eq_true rfl) (Nat.le_of_ble_eq_true rfl) ?_
      exact ⟨trivial, hp q 12 ⟨hq, rfl⟩ ⟨by decide, rfl⟩⟩
  · have hpx := hpx (by rintro ⟨q, i, -, h⟩; exact hi ⟨i, h⟩)
    refine lg_tabOut hG dX2_told_7 (sw_out hi) rfl (tgt := 154) (by decide) (by decide) ?_
    refine lg_throw hG dX2_told_154 rfl (Nat.le_of_ble_eq_true rfl) (Nat.le_of_ble_eq_true rfl) ?_
    exact hpx

def rm_X2_all : Room := { frames := 6, cells := 1, slots := 6, locals := 82 }
theorem ld_X2_all : yX2_all.cls ≠ "java/lang/invoke/MethodHandle" ∧ yX2_all.cls ≠ "java/lang/invoke/VarHandle" ∧ (parseMethodDescriptor yX2_all.desc).map (fun d => d.parameters.length) = some 1 := by decide +kernel
def sp_X2_all (ids : Nat → ClassId) : lm_S := fun As n L post postX => ∃ Q R g L0 a K, CW ids n Q R g L0 L ∧ As = [.ref 0, .int a] ∧ INV K (Q, R, g) ∧ (∀ i, okN 7 a i → post (some (.int (allv (Q, R, g) i))) n L) ∧ ((¬ ∃ i, okN 7 a i) → postX lm_iae n L)
def cv_X2_all (ids : Nat → ClassId) : Nat → Option lm_C := fun j => match j with
  | 31 => some (1, 2, sp_X2_keptCells ids, 0, 0)
  | 161 => some (1, 2, sp_X2_freeCells ids, 0, 0)
  | 164 => some (1, 2, sp_X2_openCells ids, 0, 0)
  | _ => none
def th_X2_all : Nat → Option String := fun j => match j with
  | 79 => some lm_iae
  | _ => none
set_option maxHeartbeats 4000000 in
set_option maxRecDepth 20000 in
theorem ok_X2_all (l : Launch) (D : va_G) (ids : Nat → ClassId) (B b : Nat) (hlt : l.stackTraces = false) : lm_M l D (lm_ty ids) B b false yX2_all cX2_all 2 (some .int) rm_X2_all 1 6 (sp_X2_all ids) := by
  refine lm_method (own := RX2) (fld := lf_2) (cv := (cv_X2_all ids)) (cs := (fun _ => none)) (ci := (fun _ => none)) (kon := (fun _ => none)) (thr := th_X2_all) (nw := (fun _ => none)) (ini := false) (cp := none) (alc := false) (by decide +kernel) rfl rfl rfl (lf_2_ok _) ⟨?_, ?_⟩ ?_ (fun h => by cases h) (lm_aok0 _ _ _ _ _ _ _ _) ?_ ?_
  · intro j f hf
    unfold cv_X2_all at hf
    split at hf
    · cases hf; exact ⟨yX2_keptCells, cX2_keptCells, 6, (some .int), rm_X2_keptCells, RX2, TX2, 7, 0, rfl, rfl, ok_X2_keptCells l D ids B b, lw_2_keptCells, ll_2_31, rfl, rfl, ⟨rfl, ld_X2_keptCells⟩, by decide⟩
    · cases hf; exact ⟨yX2_freeCells, cX2_freeCells, 6, (some .int), rm_X2_freeCells, RX2, TX2, 7, 0, rfl, rfl, ok_X2_freeCells l D ids B b, lw_2_freeCells, ll_2_161, rfl, rfl, ⟨rfl, ld_X2_freeCells⟩, by decide⟩
    · cases hf; exact ⟨yX2_openCells, cX2_openCells, 6, (some .int), rm_X2_openCells, RX2, TX2, 7, 0, rfl, rfl, ok_X2_openCells l D ids B b, lw_2_openCells, ll_2_164, rfl, rfl, ⟨rfl, ld_X2_openCells⟩, by decide⟩
    · cases hf
  · intro j f hf
    cases hf
  · intro j v hv; cases hv
  · refine Or.inr ⟨rfl, rfl, hlt, by decide, by decide, ?_⟩
    intro pc en he
    unfold th_X2_all at he
    split at he
    · cases he; exact ⟨143, 145, 147, "no such what", lx_iae, by decide, dX2_all_79, dX2_all_82, dX2_all_83, dX2_all_85, dX2_all_88⟩
    · cases he
  rintro As n L post postX ⟨Q, R, g, L0, a, K, hC, rfl, hI, hp, hpx⟩
  refine ⟨by simp [Value.category], (Nat.le_of_ble_eq_true rfl), lm_cl_of ?_⟩
  intro G hG
  refine lg_iload_n hG dX2_all_0 rfl ?_
  by_cases hi : ∃ i, okN 7 a i
  · obtain ⟨i, hi, rfl⟩ := hi
    rcases (by omega : i = 0 ∨ i = 1 ∨ i = 2 ∨ i = 3 ∨ i = 4 ∨ i = 5 ∨ i = 6) with rfl | rfl | rfl | rfl | rfl | rfl | rfl
    · refine lg_tabIn hG dX2_all_1 (by decide) (by decide) (o := 43) (by decide) (tgt := 44) (by decide) (by decide) ?_
      refine lg_aload_n hG dX2_all_44 rfl ?_
      refine cg_callO hG hC dX2_all_45 rfl (fun P h => h) (Nat.le_of_ble_eq_true rfl) (Nat.le_of_ble_eq_true rfl) (Nat.le_of_ble_eq_true rfl) ?_
      refine ⟨Q, R, g, L0, hC, rfl, ?_⟩
      refine lg_iret hG dX2_all_48 (Nat.le_of_ble_eq_true rfl) (Nat.le_of_ble_eq_true rfl) ?_
      exact ⟨trivial, hp 0 ⟨by decide, rfl⟩⟩
    · refine lg_tabIn hG dX2_all_1 (by decide) (by decide) (o := 48) (by decide) (tgt := 49) (by decide) (by decide) ?_
      refine lg_aload_n hG dX2_all_49 rfl ?_
      refine cg_callO hG hC dX2_all_50 rfl (fun P h => h) (Nat.le_of_ble_eq_true rfl) (Nat.le_of_ble_eq_true rfl) (Nat.le_of_ble_eq_true rfl) ?_
      refine ⟨Q, R, g, L0, hC, rfl, hI.kp, ?_⟩
      refine lg_iret hG dX2_all_53 (Nat.le_of_ble_eq_true rfl) (Nat.le_of_ble_eq_true rfl) ?_
      exact ⟨trivial, hp 1 ⟨by decide, rfl⟩⟩
    · refine lg_tabIn hG dX2_all_1 (by decide) (by decide) (o := 53) (by decide) (tgt := 54) (by decide) (by decide) ?_
      refine lg_aload_n hG dX2_all_54 rfl ?_
      refine cg_callO hG hC dX2_all_55 rfl (fun P h => h) (Nat.le_of_ble_eq_true rfl) (Nat.le_of_ble_eq_true rfl) (Nat.le_of_ble_eq_true rfl) ?_
      refine ⟨Q, R, g, L0, hC, rfl, ?_⟩
      refine lg_iret hG dX2_all_58 (Nat.le_of_ble_eq_true rfl) (Nat.le_of_ble_eq_true rfl) ?_
      exact ⟨trivial, hp 2 ⟨by decide, rfl⟩⟩
    · refine lg_tabIn hG dX2_all_1 (by decide) (by decide) (o := 58) (by decide) (tgt := 59) (by decide) (by decide) ?_
      refine lg_aload_n hG dX2_all_59 rfl ?_
      refine cg_getg hG hC dX2_all_60 rfl rfl ?_
      refine lg_iret hG dX2_all_63 (Nat.le_of_ble_eq_true rfl) (Nat.le_of_ble_eq_true rfl) ?_
      exact ⟨trivial, hp 3 ⟨by decide, rfl⟩⟩
    · refine lg_tabIn hG dX2_all_1 (by decide) (by decide) (o := 63) (by decide) (tgt := 64) (by decide) (by decide) ?_
      refine lg_aload_n hG dX2_all_64 rfl ?_
      refine cg_getg hG hC dX2_all_65 rfl rfl ?_
      refine lg_iret hG dX2_all_68 (Nat.le_of_ble_eq_true rfl) (Nat.le_of_ble_eq_true rfl) ?_
      exact ⟨trivial, hp 4 ⟨by decide, rfl⟩⟩
    · refine lg_tabIn hG dX2_all_1 (by decide) (by decide) (o := 68) (by decide) (tgt := 69) (by decide) (by decide) ?_
      refine lg_aload_n hG dX2_all_69 rfl ?_
      refine cg_getg hG hC dX2_all_70 rfl rfl ?_
      refine lg_iret hG dX2_all_73 (Nat.le_of_ble_eq_true rfl) (Nat.le_of_ble_eq_true rfl) ?_
      exact ⟨trivial, hp 5 ⟨by decide, rfl⟩⟩
    · refine lg_tabIn hG dX2_all_1 (by decide) (by decide) (o := 73) (by decide) (tgt := 74) (by decide) (by decide) ?_
      refine lg_aload_n hG dX2_all_74 rfl ?_
      refine cg_getg hG hC dX2_all_75 rfl rfl ?_
      refine lg_iret hG dX2_all_78 (Nat.le_of_ble_eq_true rfl) (Nat.le_of_ble_eq_true rfl) ?_
      exact ⟨trivial, hp 6 ⟨by decide, rfl⟩⟩
  · have hpx := hpx hi
    refine lg_tabOut hG dX2_all_1 (sw_out hi) rfl (tgt := 79) (by decide) (by decide) ?_
    refine lg_throw hG dX2_all_79 rfl (Nat.le_of_ble_eq_true rfl) (Nat.le_of_ble_eq_true rfl) ?_
    exact hpx

def rm_X2_item : Room := { frames := 7, cells := 3, slots := 18, locals := 104 }
theorem ld_X2_item : yX2_item.cls ≠ "java/lang/invoke/MethodHandle" ∧ yX2_item.cls ≠ "java/lang/invoke/VarHandle" ∧ (parseMethodDescriptor yX2_item.desc).map (fun d => d.parameters.length) = some 3 := by decide +kernel
def sp_X2_item (ids : Nat → ClassId) : lm_S := fun As n L post postX => ∃ Q R g L0 z a b K, CW ids n Q R g L0 L ∧ As = [.ref 0, .int z, .int a, .int b] ∧ INV K (Q, R, g) ∧ (∀ q i, okN 12 z q → okN 2 b i → (∀ k y, okN (qI (Q q)).length a k → (qI (Q q))[k]? = some y → post (some (.int (if i = 0 then y.1 else nI y.2))) n L) ∧ ((¬ ∃ k, okN (qI (Q q)).length a k) → postX lm_iob n L)) ∧ ((¬ ∃ q i, okN 12 z q ∧ okN 2 b i) → postX lm_iae n L)
def cv_X2_item (ids : Nat → ClassId) : Nat → Option lm_C := fun j => match j with
  | 23 => some (2, 2, sp_X2_queueOf ids, 1, 6)
  | 155 => some (2, 0, sp_X0_wordAt ids, 0, 0)
  | 158 => some (2, 0, sp_X0_costAt ids, 0, 0)
  | _ => none
def cs_X2_item (ids : Nat → ClassId) : Nat → Option lm_C := fun j => match j with
  | 27 => some (3, 0, sp_X2_checkRange ids, 1, 6)
  | _ => none
def th_X2_item : Nat → Option String := fun j => match j with
  | 26 => some lm_iob
  | _ => none
set_option maxHeartbeats 4000000 in
set_option maxRecDepth 20000 in
theorem ok_X2_item (l : Launch) (D : va_G) (ids : Nat → ClassId) (B b : Nat) (hlt : l.stackTraces = false) : lm_M l D (lm_ty ids) B b false yX2_item cX2_item 5 (some .int) rm_X2_item 3 18 (sp_X2_item ids) := by
  refine lm_method (own := RX2) (fld := lf_2) (cv := (cv_X2_item ids)) (cs := (cs_X2_item ids)) (ci := (fun _ => none)) (kon := (fun _ => none)) (thr := th_X2_item) (nw := (fun _ => none)) (ini := false) (cp := none) (alc := false) (by decide +kernel) rfl rfl rfl (lf_2_ok _) ⟨?_, ?_⟩ ?_ (fun h => by cases h) (lm_aok0 _ _ _ _ _ _ _ _) ?_ ?_
  · intro j f hf
    unfold cv_X2_item at hf
    split at hf
    · cases hf; exact ⟨yX2_queueOf, cX2_queueOf, 2, (some (.object "SharedQueues$Queue")), rm_X2_queueOf, RX2, TX2, 7, 1, rfl, rfl, ok_X2_queueOf l D ids B b hlt, lw_2_queueOf, ll_2_23, rfl, rfl, ⟨rfl, ld_X2_queueOf⟩, by decide⟩
    · cases hf; exact ⟨yX0_wordAt, cX0_wordAt, 2, (some .int), rm_X0_wordAt, RX0, TX0, 15, 1, rfl, rfl, ok_X0_wordAt l D ids B b, lw_0_wordAt, ll_2_155, rfl, rfl, ⟨rfl, ld_X0_wordAt⟩, by decide⟩
    · cases hf; exact ⟨yX0_costAt, cX0_costAt, 2, (some .int), rm_X0_costAt, RX0, TX0, 15, 1, rfl, rfl, ok_X0_costAt l D ids B b, lw_0_costAt, ll_2_158, rfl, rfl, ⟨rfl, ld_X0_costAt⟩, by decide⟩
    · cases hf
  · intro j f hf
    unfold cs_X2_item at hf
    split at hf
    · cases hf; exact ⟨yX2_checkRange, cX2_checkRange, 3, none, rm_X2_checkRange, ok_X2_checkRange l D ids B b hlt, lw_2_checkRange, ll_2_27, rfl, rfl, ld_X2_checkRange, by decide⟩
    · cases hf
  · intro j v hv; cases hv
  · refine Or.inr ⟨rfl, rfl, hlt, by decide, by decide, ?_⟩
    intro pc en he
    unfold th_X2_item at he
    split at he
    · cases he; exact ⟨150, 152, 154, "no such item", lx_iob, by decide, dX2_item_26, dX2_item_29, dX2_item_30, dX2_item_32, dX2_item_35⟩
    · cases he
  rintro As n L post postX ⟨Q, R, g, L0, z, a, b, K, hC, rfl, hI, hp, hpx⟩
  refine ⟨by simp [Value.category], (Nat.le_of_ble_eq_true rfl), lm_cl_of ?_⟩
  intro G hG
  refine lg_aload_n hG dX2_item_0 rfl ?_
  refine lg_iload_n hG dX2_item_1 rfl ?_
  refine cg_callO hG hC dX2_item_2 rfl (fun P h => h) (Nat.le_of_ble_eq_true rfl) (Nat.le_of_ble_eq_true rfl) (Nat.le_of_ble_eq_true rfl) ?_
  refine ⟨Q, R, g, L0, z, hC, rfl, ?_, fun hno => hpx (by rintro ⟨q, i, h, -⟩; exact hno q h.1 h.2)⟩
  intro q hq hz
  subst hz
  have hl96 := hC.blen hq
  refine lg_astore hG dX2_item_5 (Nat.le_of_ble_eq_true rfl) rfl ?_
  refine lg_iload_n hG dX2_item_7 rfl ?_
  refine lg_iconst hG dX2_item_8 (x := 0) (by decide) ?_
  refine lg_iconst hG dX2_item_9 (x := 1) (by decide) ?_
  refine lg_callS hG dX2_item_10 (by simp) rfl (fun P h => h) (Nat.le_of_ble_eq_true rfl) (Nat.le_of_ble_eq_true rfl) (Nat.le_of_ble_eq_true rfl) ?_
  refine ⟨_, _, _, rfl, fun hno => hpx (by rintro ⟨q, i, -, h, rfl⟩; exact ck_no (N := 1) rfl (by decide) (by omega) hno), ?_⟩
  intro hge hle
  obtain ⟨i, hi, rfl⟩ := ck_of (N := 1) rfl (by decide) hge hle
  obtain ⟨hp, hpb⟩ := hp q i ⟨hq, rfl⟩ ⟨by omega, rfl⟩
  refine lg_iload_n hG dX2_item_13 rfl ?_
  refine lg_if_lt hG dX2_item_14 (tgt := 26) (by decide) (by decide) (fun h_14 => ?_) (fun h_14 => ?_)
  · skip
    have hpb := hpb (by rintro ⟨k, h, rfl⟩; exact nI_pos (by omega) h_14)
    refine lg_throw hG dX2_item_26 rfl (Nat.le_of_ble_eq_true rfl) (Nat.le_of_ble_eq_true rfl) ?_
    exact hpb
  · skip
    refine lg_iload_n hG dX2_item_17 rfl ?_
    refine lg_aload hG dX2_item_18 rfl ?_
    refine cg_get hG hC dX2_item_20 rfl (by first | assumption | omega) rfl rfl ?_
    refine lg_icmp_lt hG dX2_item_23 (tgt := 36) (by decide) (by decide) (fun h_23 => ?_) (fun h_23 => ?_)
    · skip
      obtain ⟨k, hk31, rfl⟩ := nI_of h_14
      have hkl : k < (qI (Q q)).length := (nI_ltI hk31 (by omega)).mp h_23
      obtain ⟨y, hy⟩ : ∃ y, (qI (Q q))[k]? = some y := ⟨_, List.getElem?_eq_getElem hkl⟩
      have hp := hp k y ⟨hkl, rfl⟩ hy
      refine lg_iload_n hG dX2_item_36 rfl ?_
      refine lg_if_ne hG dX2_item_37 (tgt := 49) (by decide) (by decide) (fun h_37 => ?_) (fun h_37 => ?_)
      · skip
        have e1 : ¬ i = 0 := fun h => h_37 (by rw [h]; rfl)
        rw [if_neg e1] at hp
        refine lg_aload hG dX2_item_49 rfl ?_
        refine lg_iload_n hG dX2_item_51 rfl ?_
        refine cg_callQ hG hC dX2_item_52 rfl (fun P h => h) (by first | assumption | omega) (Nat.le_of_ble_eq_true rfl) (Nat.le_of_ble_eq_true rfl) (Nat.le_of_ble_eq_true rfl) ?_
        refine cq_cost hC hq rfl hy ?_
        refine lg_iret hG dX2_item_55 (Nat.le_of_ble_eq_true rfl) (Nat.le_of_ble_eq_true rfl) ?_
        exact ⟨trivial, hp⟩
      · skip
        have e1 : i = 0 := (nI_eq (b := 0) (by omega) (by decide)).mp h_37
        rw [if_pos e1] at hp
        refine lg_aload hG dX2_item_40 rfl ?_
        refine lg_iload_n hG dX2_item_42 rfl ?_
        refine cg_callQ hG hC dX2_item_43 rfl (fun P h => h) (by first | assumption | omega) (Nat.le_of_ble_eq_true rfl) (Nat.le_of_ble_eq_true rfl) (Nat.le_of_ble_eq_true rfl) ?_
        refine cq_word hC hq rfl hy ?_
        refine lg_goto hG dX2_item_46 (tgt := 55) (by decide) (by decide) ?_
        refine lg_iret hG dX2_item_55 (Nat.le_of_ble_eq_true rfl) (Nat.le_of_ble_eq_true rfl) ?_
        exact ⟨trivial, hp⟩
    · skip
      have hpb := hpb (by rintro ⟨k, h, rfl⟩; exact h_23 (nI_lt h (by omega)))
      refine lg_throw hG dX2_item_26 rfl (Nat.le_of_ble_eq_true rfl) (Nat.le_of_ble_eq_true rfl) ?_
      exact hpb

def rm_X3_quota : Room := { frames := 1, cells := 0, slots := 0, locals := 22 }
theorem ld_X3_quota : yX3_quota.cls ≠ "java/lang/invoke/MethodHandle" ∧ yX3_quota.cls ≠ "java/lang/invoke/VarHandle" ∧ (parseMethodDescriptor yX3_quota.desc).map (fun d => d.parameters.length) = some 3 := by decide +kernel
def sp_X3_quota (ids : Nat → ClassId) : lm_S := fun As n L post postX => ∃ Q R g t L0 z a b K, MS ids n Q R g t L0 L ∧ As = [.ref 47, .int z, .int a, .int b] ∧ INV K (Q, R, g) ∧ (∀ q i j, okQ Q z a b q i j → ∀ L1, MS ids n (quS (Q, R, g) q i j).1 R g 0 L0 L1 → post (some (.int (nI (sumN (fun q => qp (Q q)) 12 - qp (Q q) + j)))) n L1) ∧ ((¬ ∃ q i j, okQ Q z a b q i j) → ∀ L1, MS ids n Q R g 1 L0 L1 → post (some (.int 0)) n L1)
def cv_X3_quota (ids : Nat → ClassId) : Nat → Option lm_C := fun j => match j with
  | 73 => some (1, 3, sp_X3_keptInAll ids, 0, 0)
  | _ => none
def cs_X3_quota (ids : Nat → ClassId) : Nat → Option lm_C := fun j => match j with
  | 69 => some (1, 0, sp_X3_noQueue ids, 0, 0)
  | _ => none
set_option maxHeartbeats 4000000 in
set_option maxRecDepth 20000 in
theorem ok_X3_quota (l : Launch) (D : va_G) (ids : Nat → ClassId) (B b : Nat) : lm_M l D (lm_ty ids) B b false yX3_quota cX3_quota 4 (some .int) rm_X3_quota 0 0 (sp_X3_quota ids) := by
  refine lm_method (own := RX3) (fld := lf_3) (cv := (cv_X3_quota ids)) (cs := (cs_X3_quota ids)) (ci := (fun _ => none)) (kon := (fun _ => none)) (thr := (fun _ => none)) (nw := (fun _ => none)) (ini := false) (cp := none) (alc := false) (by decide +kernel) rfl rfl rfl (lf_3_ok _) ⟨?_, ?_⟩ ?_ (fun h => by cases h) (lm_aok0 _ _ _ _ _ _ _ _) ?_ ?_
  · intro j f hf
    unfold cv_X3_quota at hf
    split at hf
    · cases hf; exact ⟨yX3_keptInAll, cX3_keptInAll, 3, (some .int), rm_X3_keptInAll, RX3, TX3, 22, 0, rfl, rfl, ok_X3_keptInAll l D ids B b, lw_3_keptInAll, ll_3_73, rfl, rfl, ⟨rfl, ld_X3_keptInAll⟩, by decide⟩
    · cases hf
  · intro j f hf
    unfold cs_X3_quota at hf
    split at hf
    · cases hf; exact ⟨yX3_noQueue, cX3_noQueue, 1, (some .boolean), rm_X3_noQueue, ok_X3_noQueue l D ids B b, lw_3_noQueue, ll_3_69, rfl, rfl, ld_X3_noQueue, by decide⟩
    · cases hf
  · intro j v hv; cases hv
  · exact Or.inl fun _ => rfl
  rintro As n L post postX ⟨Q, R, g, t, L0, z, a, b, K, hM, rfl, hI, hp, hpx⟩
  refine ⟨by simp [Value.category], (Nat.le_of_ble_eq_true rfl), lm_cl_of ?_⟩
  intro G hG
  refine lg_aload_n hG dX3_quota_0 rfl ?_
  refine lg_iload_n hG dX3_quota_1 rfl ?_
  refine lg_callS hG dX3_quota_2 (by simp) rfl (fun P h => h) (Nat.le_of_ble_eq_true rfl) (Nat.le_of_ble_eq_true rfl) (Nat.le_of_ble_eq_true rfl) ?_
  refine ⟨z, rfl, ?_, ?_⟩
  · intro q hq hz
    subst hz
    refine lg_if_ne hG dX3_quota_5 (tgt := 28) (by decide) (by decide) (fun h_5 => ?_) (fun h_5 => ?_)
    · skip
      exact absurd rfl h_5 --END
    · skip
      refine lg_iload_n hG dX3_quota_8 rfl ?_
      refine lg_if_lt hG dX3_quota_9 (tgt := 28) (by decide) (by decide) (fun h_9 => ?_) (fun h_9 => ?_)
      · skip
        have hpx := hpx (by rintro ⟨q1, i1, j1, c1, ⟨c2, c3⟩, ⟨c4, c5⟩, c6⟩; subst c3; exact nI_pos (by omega) h_9)
        refine lg_iconst hG dX3_quota_28 (x := 1) (by decide) ?_
        refine lg_goto hG dX3_quota_29 (tgt := 33) (by decide) (by decide) ?_
        refine ms_put hG hM dX3_quota_33 rfl (by first | trivial | exact Or.inl rfl | exact Or.inr rfl | assumption) (by decide) (t' := _) (g' := g) rfl (fun L hM => ?_)
        refine lg_aload_n hG dX3_quota_36 rfl ?_
        refine ms_get hG hM dX3_quota_37 rfl rfl ?_
        refine lg_if_gt hG dX3_quota_40 (tgt := 61) (by decide) (by decide) (fun h_40 => ?_) (fun h_40 => ?_)
        · skip
          refine lg_aload_n hG dX3_quota_61 rfl ?_
          refine lg_iconst hG dX3_quota_62 (x := 1) (by decide) ?_
          refine ms_put hG hM dX3_quota_63 rfl (by first | trivial | exact Or.inl rfl | exact Or.inr rfl | assumption) (by decide) (t' := 1) (g' := g) rfl (fun L hM => ?_)
          refine lg_iconst hG dX3_quota_66 (x := 0) (by decide) ?_
          refine lg_iret hG dX3_quota_67 (Nat.le_of_ble_eq_true rfl) (Nat.le_of_ble_eq_true rfl) ?_
          exact ⟨trivial, hpx _ hM⟩
        · skip
          exact absurd h_40 (by decide) --END
      · skip
        refine lg_iload_n hG dX3_quota_12 rfl ?_
        refine lg_bipush hG dX3_quota_13 (x := (96)) (by decide) ?_
        refine lg_icmp_gt hG dX3_quota_15 (tgt := 28) (by decide) (by decide) (fun h_15 => ?_) (fun h_15 => ?_)
        · skip
          have hpx := hpx (by rintro ⟨q1, i1, j1, c1, ⟨c2, c3⟩, ⟨c4, c5⟩, c6⟩; subst c3; exact h_15 (nI_le (b := 96) c2 (by decide)))
          refine lg_iconst hG dX3_quota_28 (x := 1) (by decide) ?_
          refine lg_goto hG dX3_quota_29 (tgt := 33) (by decide) (by decide) ?_
          refine ms_put hG hM dX3_quota_33 rfl (by first | trivial | exact Or.inl rfl | exact Or.inr rfl | assumption) (by decide) (t' := _) (g' := g) rfl (fun L hM => ?_)
          refine lg_aload_n hG dX3_quota_36 rfl ?_
          refine ms_get hG hM dX3_quota_37 rfl rfl ?_
          refine lg_if_gt hG dX3_quota_40 (tgt := 61) (by decide) (by decide) (fun h_40 => ?_) (fun h_40 => ?_)
          · skip
            refine lg_aload_n hG dX3_quota_61 rfl ?_
            refine lg_iconst hG dX3_quota_62 (x := 1) (by decide) ?_
            refine ms_put hG hM dX3_quota_63 rfl (by first | trivial | exact Or.inl rfl | exact Or.inr rfl | assumption) (by decide) (t' := 1) (g' := g) rfl (fun L hM => ?_)
            refine lg_iconst hG dX3_quota_66 (x := 0) (by decide) ?_
            refine lg_iret hG dX3_quota_67 (Nat.le_of_ble_eq_true rfl) (Nat.le_of_ble_eq_true rfl) ?_
            exact ⟨trivial, hpx _ hM⟩
          · skip
            exact absurd h_40 (by decide) --END
        · skip
          obtain ⟨i, hi, rfl⟩ := ck_of (N := 96) rfl (by decide) h_9 h_15
          refine lg_iload_n hG dX3_quota_18 rfl ?_
          refine lg_if_lt hG dX3_quota_19 (tgt := 28) (by decide) (by decide) (fun h_19 => ?_) (fun h_19 => ?_)
          · skip
            have hpx := hpx (by rintro ⟨q1, i1, j1, c1, ⟨c2, c3⟩, ⟨c4, c5⟩, c6⟩; subst c5; exact nI_pos (by omega) h_19)
            refine lg_iconst hG dX3_quota_28 (x := 1) (by decide) ?_
            refine lg_goto hG dX3_quota_29 (tgt := 33) (by decide) (by decide) ?_
            refine ms_put hG hM dX3_quota_33 rfl (by first | trivial | exact Or.inl rfl | exact Or.inr rfl | assumption) (by decide) (t' := _) (g' := g) rfl (fun L hM => ?_)
            refine lg_aload_n hG dX3_quota_36 rfl ?_
            refine ms_get hG hM dX3_quota_37 rfl rfl ?_
            refine lg_if_gt hG dX3_quota_40 (tgt := 61) (by decide) (by decide) (fun h_40 => ?_) (fun h_40 => ?_)
            · skip
              refine lg_aload_n hG dX3_quota_61 rfl ?_
              refine lg_iconst hG dX3_quota_62 (x := 1) (by decide) ?_
              refine ms_put hG hM dX3_quota_63 rfl (by first | trivial | exact Or.inl rfl | exact Or.inr rfl | assumption) (by decide) (t' := 1) (g' := g) rfl (fun L hM => ?_)
              refine lg_iconst hG dX3_quota_66 (x := 0) (by decide) ?_
              refine lg_iret hG dX3_quota_67 (Nat.le_of_ble_eq_true rfl) (Nat.le_of_ble_eq_true rfl) ?_
              exact ⟨trivial, hpx _ hM⟩
            · skip
              exact absurd h_40 (by decide) --END
          · skip
            refine lg_iload_n hG dX3_quota_22 rfl ?_
            refine lg_bipush hG dX3_quota_23 (x := (96)) (by decide) ?_
            refine lg_icmp_le hG dX3_quota_25 (tgt := 32) (by decide) (by decide) (fun h_25 => ?_) (fun h_25 => ?_)
            · skip
              obtain ⟨j, hj, rfl⟩ := ck_of (N := 96) rfl (by decide) h_19 h_25
              have hsm := sumN_mem (f := fun q => qp (Q q)) hq
              have hs96 : sumN (fun q => qp (Q q)) 12 ≤ 96 := hI.2.2.1
              refine lg_iconst hG dX3_quota_32 (x := 0) (by decide) ?_
              refine ms_put hG hM dX3_quota_33 rfl (by first | trivial | exact Or.inl rfl | exact Or.inr rfl | assumption) (by decide) (t' := _) (g' := g) rfl (fun L hM => ?_)
              refine lg_aload_n hG dX3_quota_36 rfl ?_
              refine ms_get hG hM dX3_quota_37 rfl rfl ?_
              refine lg_if_gt hG dX3_quota_40 (tgt := 61) (by decide) (by decide) (fun h_40 => ?_) (fun h_40 => ?_)
              · skip
                exact absurd (by decide) h_40 --END
              · skip
                refine lg_aload_n hG dX3_quota_43 rfl ?_
                refine ms_call hG hM dX3_quota_44 rfl (fun P h => h) (Nat.le_of_ble_eq_true rfl) (Nat.le_of_ble_eq_true rfl) (Nat.le_of_ble_eq_true rfl) ?_
                refine ⟨Q, R, g, _, L0, hM, rfl, ?_⟩
                refine lg_aload_n hG dX3_quota_47 rfl ?_
                refine ms_get hG hM dX3_quota_48 rfl rfl ?_
                refine lg_iload_n hG dX3_quota_51 rfl ?_
                refine ms_ld hG hM dX3_quota_52 (by decide) rfl rfl (by first | assumption | omega) rfl rfl ?_
                refine lg_isub hG dX3_quota_53 (show nI (sumN (fun q => qp (Q q)) 12) - nI (qp (Q q)) = nI (sumN (fun q => qp (Q q)) 12 - qp (Q q)) from pk_sub hsm) ?_
                refine lg_iload_n hG dX3_quota_54 rfl ?_
                refine lg_iadd hG dX3_quota_55 (nI_add (sumN (fun q => qp (Q q)) 12 - qp (Q q)) j) ?_
                refine lg_bipush hG dX3_quota_56 (x := (96)) (by decide) ?_
                refine lg_icmp_le hG dX3_quota_58 (tgt := 68) (by decide) (by decide) (fun h_58 => ?_) (fun h_58 => ?_)
                · skip
                  have hjj : sumN (fun q => qp (Q q)) 12 - qp (Q q) + j ≤ 96 := (nI_leI (by omega) (by decide)).mp h_58
                  refine lg_aload_n hG dX3_quota_68 rfl ?_
                  refine ms_get hG hM dX3_quota_69 rfl rfl ?_
                  refine lg_iload_n hG dX3_quota_72 rfl ?_
                  refine lg_iload_n hG dX3_quota_73 rfl ?_
                  refine ms_st hG hM dX3_quota_74 (by decide) rfl rfl (by first | assumption | omega) rfl (x' := sO (Q q) i) (fun _ _ h => h) rfl (fun L hM => ?_)
                  try rw [bx_uu] at hM
                  refine lg_aload_n hG dX3_quota_75 rfl ?_
                  refine ms_get hG hM dX3_quota_76 rfl rfl ?_
                  refine lg_iload_n hG dX3_quota_79 rfl ?_
                  refine lg_iload_n hG dX3_quota_80 rfl ?_
                  refine ms_st hG hM dX3_quota_81 (by decide) rfl rfl (by first | assumption | omega) (va_up_self _ _ _) (x' := sP (sO (Q q) i) j) (fun _ _ h => h) rfl (fun L hM => ?_)
                  try rw [bx_uu] at hM
                  refine lg_aload_n hG dX3_quota_82 rfl ?_
                  refine ms_call hG hM dX3_quota_83 rfl (fun P h => h) (Nat.le_of_ble_eq_true rfl) (Nat.le_of_ble_eq_true rfl) (Nat.le_of_ble_eq_true rfl) ?_
                  refine ⟨_, R, g, _, L0, hM, rfl, ?_⟩
                  refine lg_iret hG dX3_quota_86 (Nat.le_of_ble_eq_true rfl) (Nat.le_of_ble_eq_true rfl) ?_
                  have h9 := sumN_up qp Q (sP (sO (Q q) i) j) q 12
                  rw [if_pos hq, if_pos hq] at h9
                  have h8 : sumN (fun p => qp (va_up Q q (sP (sO (Q q) i) j) p)) 12 = sumN (fun q => qp (Q q)) 12 - qp (Q q) + j := by
                    have h7 : qp (sP (sO (Q q) i) j) = j := rfl
                    rw [h7] at h9
                    omega
                  rw [h8]
                  exact ⟨trivial, hp q i j ⟨⟨hq, rfl⟩, ⟨hi, rfl⟩, ⟨hj, rfl⟩, hjj⟩ _ hM⟩
                · skip
                  have hpx := hpx (by rintro ⟨q1, i1, j1, ⟨c1, c2⟩, -, ⟨c5, c6⟩, c7⟩; cases (nI_eq (by omega) (by omega)).mp c2; cases (nI_eq (by omega) (by omega)).mp c6; exact h_58 (nI_le (b := 96) c7 (by decide)))
                  refine lg_aload_n hG dX3_quota_61 rfl ?_
                  refine lg_iconst hG dX3_quota_62 (x := 1) (by decide) ?_
                  refine ms_put hG hM dX3_quota_63 rfl (by first | trivial | exact Or.inl rfl | exact Or.inr rfl | assumption) (by decide) (t' := 1) (g' := g) rfl (fun L hM => ?_)
                  refine lg_iconst hG dX3_quota_66 (x := 0) (by decide) ?_
                  refine lg_iret hG dX3_quota_67 (Nat.le_of_ble_eq_true rfl) (Nat.le_of_ble_eq_true rfl) ?_
                  exact ⟨trivial, hpx _ hM⟩
            · skip
              have hpx := hpx (by rintro ⟨q1, i1, j1, c1, ⟨c2, c3⟩, ⟨c4, c5⟩, c6⟩; subst c5; exact h_25 (nI_le (b := 96) c4 (by decide)))
              refine lg_iconst hG dX3_quota_28 (x := 1) (by decide) ?_
              refine lg_goto hG dX3_quota_29 (tgt := 33) (by decide) (by decide) ?_
              refine ms_put hG hM dX3_quota_33 rfl (by first | trivial | exact Or.inl rfl | exact Or.inr rfl | assumption) (by decide) (t' := _) (g' := g) rfl (fun L hM => ?_)
              refine lg_aload_n hG dX3_quota_36 rfl ?_
              refine ms_get hG hM dX3_quota_37 rfl rfl ?_
              refine lg_if_gt hG dX3_quota_40 (tgt := 61) (by decide) (by decide) (fun h_40 => ?_) (fun h_40 => ?_)
              · skip
                refine lg_aload_n hG dX3_quota_61 rfl ?_
                refine lg_iconst hG dX3_quota_62 (x := 1) (by decide) ?_
                refine ms_put hG hM dX3_quota_63 rfl (by first | trivial | exact Or.inl rfl | exact Or.inr rfl | assumption) (by decide) (t' := 1) (g' := g) rfl (fun L hM => ?_)
                refine lg_iconst hG dX3_quota_66 (x := 0) (by decide) ?_
                refine lg_iret hG dX3_quota_67 (Nat.le_of_ble_eq_true rfl) (Nat.le_of_ble_eq_true rfl) ?_
                exact ⟨trivial, hpx _ hM⟩
              · skip
                exact absurd h_40 (by decide) --END
  · intro hno
    have hpx := hpx (by rintro ⟨q1, i1, j1, c1, -⟩; exact hno q1 c1.1 c1.2)
    refine lg_if_ne hG dX3_quota_5 (tgt := 28) (by decide) (by decide) (fun h_5 => ?_) (fun h_5 => ?_)
    · skip
      refine lg_iconst hG dX3_quota_28 (x := 1) (by decide) ?_
      refine lg_goto hG dX3_quota_29 (tgt := 33) (by decide) (by decide) ?_
      refine ms_put hG hM dX3_quota_33 rfl (by first | trivial | exact Or.inl rfl | exact Or.inr rfl | assumption) (by decide) (t' := _) (g' := g) rfl (fun L hM => ?_)
      refine lg_aload_n hG dX3_quota_36 rfl ?_
      refine ms_get hG hM dX3_quota_37 rfl rfl ?_
      refine lg_if_gt hG dX3_quota_40 (tgt := 61) (by decide) (by decide) (fun h_40 => ?_) (fun h_40 => ?_)
      · skip
        refine lg_aload_n hG dX3_quota_61 rfl ?_
        refine lg_iconst hG dX3_quota_62 (x := 1) (by decide) ?_
        refine ms_put hG hM dX3_quota_63 rfl (by first | trivial | exact Or.inl rfl | exact Or.inr rfl | assumption) (by decide) (t' := 1) (g' := g) rfl (fun L hM => ?_)
        refine lg_iconst hG dX3_quota_66 (x := 0) (by decide) ?_
        refine lg_iret hG dX3_quota_67 (Nat.le_of_ble_eq_true rfl) (Nat.le_of_ble_eq_true rfl) ?_
        exact ⟨trivial, hpx _ hM⟩
      · skip
        exact absurd h_40 (by decide) --END
    · skip
      exact absurd h_5 (by decide) --END

def rm_X3_kind : Room := { frames := 2, cells := 0, slots := 0, locals := 47 }
theorem ld_X3_kind : yX3_kind.cls ≠ "java/lang/invoke/MethodHandle" ∧ yX3_kind.cls ≠ "java/lang/invoke/VarHandle" ∧ (parseMethodDescriptor yX3_kind.desc).map (fun d => d.parameters.length) = some 3 := by decide +kernel
def sp_X3_kind (ids : Nat → ClassId) : lm_S := fun As n L post postX => ∃ Q R g t L0 z a b K, MS ids n Q R g t L0 L ∧ As = [.ref 47, .int z, .int a, .int b] ∧ INV K (Q, R, g) ∧ (∀ q j u, okK z a b q j u → ∀ L1, MS ids n (kdS (Q, R, g) q j u).1 (kdS (Q, R, g) q j u).2.1 g 0 L0 L1 → post none n L1) ∧ ((¬ ∃ q j u, okK z a b q j u) → ∀ L1, MS ids n Q R g 1 L0 L1 → post none n L1)
def cv_X3_kind (ids : Nat → ClassId) : Nat → Option lm_C := fun j => match j with
  | 81 => some (2, 3, sp_X3_leave ids, 0, 0)
  | 85 => some (2, 3, sp_X3_enter ids, 0, 0)
  | _ => none
def cs_X3_kind (ids : Nat → ClassId) : Nat → Option lm_C := fun j => match j with
  | 69 => some (1, 0, sp_X3_noQueue ids, 0, 0)
  | _ => none
set_option maxHeartbeats 4000000 in
set_option maxRecDepth 20000 in
theorem ok_X3_kind (l : Launch) (D : va_G) (ids : Nat → ClassId) (B b : Nat) : lm_M l D (lm_ty ids) B b false yX3_kind cX3_kind 4 none rm_X3_kind 0 0 (sp_X3_kind ids) := by
  refine lm_method (own := RX3) (fld := lf_3) (cv := (cv_X3_kind ids)) (cs := (cs_X3_kind ids)) (ci := (fun _ => none)) (kon := (fun _ => none)) (thr := (fun _ => none)) (nw := (fun _ => none)) (ini := false) (cp := none) (alc := false) (by decide +kernel) rfl rfl rfl (lf_3_ok _) ⟨?_, ?_⟩ ?_ (fun h => by cases h) (lm_aok0 _ _ _ _ _ _ _ _) ?_ ?_
  · intro j f hf
    unfold cv_X3_kind at hf
    split at hf
    · cases hf; exact ⟨yX3_leave, cX3_leave, 5, none, rm_X3_leave, RX3, TX3, 22, 1, rfl, rfl, ok_X3_leave l D ids B b, lw_3_leave, ll_3_81, rfl, rfl, ⟨rfl, ld_X3_leave⟩, by decide⟩
    · cases hf; exact ⟨yX3_enter, cX3_enter, 3, none, rm_X3_enter, RX3, TX3, 22, 1, rfl, rfl, ok_X3_enter l D ids B b, lw_3_enter, ll_3_85, rfl, rfl, ⟨rfl, ld_X3_enter⟩, by decide⟩
    · cases hf
  · intro j f hf
    unfold cs_X3_kind at hf
    split at hf
    · cases hf; exact ⟨yX3_noQueue, cX3_noQueue, 1, (some .boolean), rm_X3_noQueue, ok_X3_noQueue l D ids B b, lw_3_noQueue, ll_3_69, rfl, rfl, ld_X3_noQueue, by decide⟩
    · cases hf
  · intro j v hv; cases hv
  · exact Or.inl fun _ => rfl
  rintro As n L post postX ⟨Q, R, g, t, L0, z, a, b, K, hM, rfl, hI, hp, hpx⟩
  refine ⟨by simp [Value.category], (Nat.le_of_ble_eq_true rfl), lm_cl_of ?_⟩
  intro G hG
  refine lg_aload_n hG dX3_kind_0 rfl ?_
  refine lg_iload_n hG dX3_kind_1 rfl ?_
  refine lg_callS hG dX3_kind_2 (by simp) rfl (fun P h => h) (Nat.le_of_ble_eq_true rfl) (Nat.le_of_ble_eq_true rfl) (Nat.le_of_ble_eq_true rfl) ?_
  refine ⟨z, rfl, ?_, ?_⟩
  · intro q hq hz
    subst hz
    refine lg_if_ne hG dX3_kind_5 (tgt := 29) (by decide) (by decide) (fun h_5 => ?_) (fun h_5 => ?_)
    · skip
      exact absurd rfl h_5 --END
    · skip
      refine lg_iload_n hG dX3_kind_8 rfl ?_
      refine lg_if_lt hG dX3_kind_9 (tgt := 29) (by decide) (by decide) (fun h_9 => ?_) (fun h_9 => ?_)
      · skip
        have hpx := hpx (by rintro ⟨q1, j1, u1, c1, ⟨c2, c3⟩, c4, c5, c6⟩; subst c3; exact nI_pos (by omega) h_9)
        refine lg_iconst hG dX3_kind_29 (x := 1) (by decide) ?_
        refine lg_goto hG dX3_kind_30 (tgt := 34) (by decide) (by decide) ?_
        refine ms_put hG hM dX3_kind_34 rfl (by first | trivial | exact Or.inl rfl | exact Or.inr rfl | assumption) (by decide) (t' := _) (g' := g) rfl (fun L hM => ?_)
        refine lg_aload_n hG dX3_kind_37 rfl ?_
        refine ms_get hG hM dX3_kind_38 rfl rfl ?_
        refine lg_if_le hG dX3_kind_41 (tgt := 45) (by decide) (by decide) (fun h_41 => ?_) (fun h_41 => ?_)
        · skip
          exact absurd h_41 (by decide) --END
        · skip
          refine lg_vret hG dX3_kind_44 (Nat.le_of_ble_eq_true rfl) (Nat.le_of_ble_eq_true rfl) ?_
          exact ⟨trivial, hpx _ hM⟩
      · skip
        refine lg_iload_n hG dX3_kind_12 rfl ?_
        refine lg_iconst hG dX3_kind_13 (x := 3) (by decide) ?_
        refine lg_icmp_gt hG dX3_kind_14 (tgt := 29) (by decide) (by decide) (fun h_14 => ?_) (fun h_14 => ?_)
        · skip
          have hpx := hpx (by rintro ⟨q1, j1, u1, c1, ⟨c2, c3⟩, c4, c5, c6⟩; subst c3; exact h_14 (nI_le (b := 3) (by omega) (by decide)))
          refine lg_iconst hG dX3_kind_29 (x := 1) (by decide) ?_
          refine lg_goto hG dX3_kind_30 (tgt := 34) (by decide) (by decide) ?_
          refine ms_put hG hM dX3_kind_34 rfl (by first | trivial | exact Or.inl rfl | exact Or.inr rfl | assumption) (by decide) (t' := _) (g' := g) rfl (fun L hM => ?_)
          refine lg_aload_n hG dX3_kind_37 rfl ?_
          refine ms_get hG hM dX3_kind_38 rfl rfl ?_
          refine lg_if_le hG dX3_kind_41 (tgt := 45) (by decide) (by decide) (fun h_41 => ?_) (fun h_41 => ?_)
          · skip
            exact absurd h_41 (by decide) --END
          · skip
            refine lg_vret hG dX3_kind_44 (Nat.le_of_ble_eq_true rfl) (Nat.le_of_ble_eq_true rfl) ?_
            exact ⟨trivial, hpx _ hM⟩
        · skip
          obtain ⟨j, hj, rfl⟩ := ck_of (N := 3) rfl (by decide) h_9 h_14
          have hj4 : j < 4 := by omega
          refine lg_iload_n hG dX3_kind_17 rfl ?_
          refine lg_iconst hG dX3_kind_18 (x := 1) (by decide) ?_
          refine lg_icmp_lt hG dX3_kind_19 (tgt := 29) (by decide) (by decide) (fun h_19 => ?_) (fun h_19 => ?_)
          · skip
            have hpx := hpx (by rintro ⟨q1, j1, u1, c1, ⟨c2, c3⟩, c4, c5, c6⟩; subst c6; exact nI_nlt (a := u1) (b := 1) c4 (by omega) h_19)
            refine lg_iconst hG dX3_kind_29 (x := 1) (by decide) ?_
            refine lg_goto hG dX3_kind_30 (tgt := 34) (by decide) (by decide) ?_
            refine ms_put hG hM dX3_kind_34 rfl (by first | trivial | exact Or.inl rfl | exact Or.inr rfl | assumption) (by decide) (t' := _) (g' := g) rfl (fun L hM => ?_)
            refine lg_aload_n hG dX3_kind_37 rfl ?_
            refine ms_get hG hM dX3_kind_38 rfl rfl ?_
            refine lg_if_le hG dX3_kind_41 (tgt := 45) (by decide) (by decide) (fun h_41 => ?_) (fun h_41 => ?_)
            · skip
              exact absurd h_41 (by decide) --END
            · skip
              refine lg_vret hG dX3_kind_44 (Nat.le_of_ble_eq_true rfl) (Nat.le_of_ble_eq_true rfl) ?_
              exact ⟨trivial, hpx _ hM⟩
          · skip
            refine lg_iload_n hG dX3_kind_22 rfl ?_
            refine lg_sipush hG dX3_kind_23 (x := (1000)) (by decide) ?_
            refine lg_icmp_le hG dX3_kind_26 (tgt := 33) (by decide) (by decide) (fun h_26 => ?_) (fun h_26 => ?_)
            · skip
              obtain ⟨u, hu1, hu2, rfl⟩ := ck_of1 (N := 1000) rfl (by decide) h_19 h_26
              have hp := hp q j u ⟨⟨hq, rfl⟩, ⟨hj4, rfl⟩, hu1, hu2, rfl⟩
              have hk4 : qk (Q q) < 4 := (hI.1 q hq).1
              have hl96 := hM.len hq
              refine lg_iconst hG dX3_kind_33 (x := 0) (by decide) ?_
              refine ms_put hG hM dX3_kind_34 rfl (by first | trivial | exact Or.inl rfl | exact Or.inr rfl | assumption) (by decide) (t' := _) (g' := g) rfl (fun L hM => ?_)
              refine lg_aload_n hG dX3_kind_37 rfl ?_
              refine ms_get hG hM dX3_kind_38 rfl rfl ?_
              refine lg_if_le hG dX3_kind_41 (tgt := 45) (by decide) (by decide) (fun h_41 => ?_) (fun h_41 => ?_)
              · skip
                refine lg_aload_n hG dX3_kind_45 rfl ?_
                refine ms_get hG hM dX3_kind_46 rfl rfl ?_
                refine lg_iload_n hG dX3_kind_49 rfl ?_
                refine lg_iload_n hG dX3_kind_50 rfl ?_
                refine ms_st hG hM dX3_kind_51 (by decide) rfl rfl (by first | assumption | omega) rfl (x' := sU (Q q) u) (fun _ _ h => h) rfl (fun L hM => ?_)
                try rw [bx_uu] at hM
                refine lg_iload_n hG dX3_kind_52 rfl ?_
                refine lg_aload_n hG dX3_kind_53 rfl ?_
                refine ms_get hG hM dX3_kind_54 rfl rfl ?_
                refine lg_iload_n hG dX3_kind_57 rfl ?_
                refine ms_ld hG hM dX3_kind_58 (by decide) rfl rfl (by first | assumption | omega) (va_up_self _ _ _) rfl ?_
                refine lg_icmp_eq hG dX3_kind_59 (tgt := 88) (by decide) (by decide) (fun h_59 => ?_) (fun h_59 => ?_)
                · skip
                  have e1 : qk (Q q) = j := ((nI_eq (by omega) (by show qk (Q q) < _; omega)).mp h_59).symm
                  unfold kdS at hp
                  rw [if_pos e1] at hp
                  refine lg_vret hG dX3_kind_88 (Nat.le_of_ble_eq_true rfl) (Nat.le_of_ble_eq_true rfl) ?_
                  exact ⟨trivial, hp _ hM⟩
                · skip
                  have e1 : ¬ qk (Q q) = j := fun h => h_59 (by rw [← h]; rfl)
                  unfold kdS at hp
                  rw [if_neg e1] at hp
                  refine lg_aload_n hG dX3_kind_62 rfl ?_
                  refine lg_iload_n hG dX3_kind_63 rfl ?_
                  refine ms_call hG hM dX3_kind_64 rfl (fun P h => h) (Nat.le_of_ble_eq_true rfl) (Nat.le_of_ble_eq_true rfl) (Nat.le_of_ble_eq_true rfl) ?_
                  refine ⟨_, R, g, _, L0, q, hM, rfl, hq, by rw [va_up_self]; exact hk4, fun L hM => ?_⟩
                  rw [va_up_self, bx_uu] at hM
                  unfold lvR at hM
                  rw [va_up_self] at hM
                  have hM : MS ids n (va_up Q q (sT (sU (Q q) u) false)) (va_up R (qk (Q q)) ((R (qk (Q q))).erase q)) g 0 L0 L := hM
                  refine lg_aload_n hG dX3_kind_67 rfl ?_
                  refine ms_get hG hM dX3_kind_68 rfl rfl ?_
                  refine lg_iload_n hG dX3_kind_71 rfl ?_
                  refine lg_iload_n hG dX3_kind_72 rfl ?_
                  refine ms_st hG hM dX3_kind_73 (by decide) rfl rfl (by first | assumption | omega) (va_up_self _ _ _) (x' := sK (sT (sU (Q q) u) false) j) (fun _ _ h => h) rfl (fun L hM => ?_)
                  try rw [bx_uu] at hM
                  refine lg_aload_n hG dX3_kind_74 rfl ?_
                  refine ms_get hG hM dX3_kind_75 rfl rfl ?_
                  refine lg_iload_n hG dX3_kind_78 rfl ?_
                  refine ms_ld hG hM dX3_kind_79 (by decide) rfl rfl (by first | assumption | omega) (va_up_self _ _ _) rfl ?_
                  refine lg_if_le hG dX3_kind_80 (tgt := 88) (by decide) (by decide) (fun h_80 => ?_) (fun h_80 => ?_)
                  · skip
                    have e2 : ¬ 0 < (qI (Q q)).length := fun h => absurd h_80 (nI_nle h (by show (qI (Q q)).length < _; omega))
                    rw [if_neg e2] at hp
                    rw [List.erase_of_not_mem (hI.notin hk4 (Or.inl (by show (qI (Q q)).length = 0; omega))), va_up_id rfl] at hM
                    refine lg_vret hG dX3_kind_88 (Nat.le_of_ble_eq_true rfl) (Nat.le_of_ble_eq_true rfl) ?_
                    exact ⟨trivial, hp _ hM⟩
                  · skip
                    have e2 : 0 < (qI (Q q)).length := by
                      rcases Nat.eq_zero_or_pos (qI (Q q)).length with h | h
                      · exact absurd (by show nI (qI (Q q)).length ≤ 0; rw [h]; decide) h_80
                      · exact h
                    rw [if_pos e2] at hp
                    have hj9 : va_up R (qk (Q q)) ((R (qk (Q q))).erase q) j = R j := va_up_ne _ _ (fun h => e1 h.symm)
                    refine lg_aload_n hG dX3_kind_83 rfl ?_
                    refine lg_iload_n hG dX3_kind_84 rfl ?_
                    refine ms_call hG hM dX3_kind_85 rfl (fun P h => h) (Nat.le_of_ble_eq_true rfl) (Nat.le_of_ble_eq_true rfl) (Nat.le_of_ble_eq_true rfl) ?_
                    refine ⟨_, _, g, _, L0, q, hM, rfl, hq, by rw [va_up_self]; exact hj4, ?_, fun L hM => ?_⟩
                    · rw [va_up_self]
                      show (va_up R (qk (Q q)) ((R (qk (Q q))).erase q) j).length < 12
                      rw [hj9]
                      exact hI.ring hq hj4 (Or.inr e1)
                    rw [va_up_self, bx_uu] at hM
                    have hM : MS ids n (va_up Q q (sK (sT (sU (Q q) u) false) j)) (va_up (va_up R (qk (Q q)) ((R (qk (Q q))).erase q)) j (va_up R (qk (Q q)) ((R (qk (Q q))).erase q) j ++ [q])) g 0 L0 L := hM
                    rw [hj9] at hM
                    refine lg_vret hG dX3_kind_88 (Nat.le_of_ble_eq_true rfl) (Nat.le_of_ble_eq_true rfl) ?_
                    exact ⟨trivial, hp _ hM⟩
              · skip
                exact absurd (by decide) h_41 --END
            · skip
              have hpx := hpx (by rintro ⟨q1, j1, u1, c1, ⟨c2, c3⟩, c4, c5, c6⟩; subst c6; exact h_26 (nI_le (b := 1000) c5 (by decide)))
              refine lg_iconst hG dX3_kind_29 (x := 1) (by decide) ?_
              refine lg_goto hG dX3_kind_30 (tgt := 34) (by decide) (by decide) ?_
              refine ms_put hG hM dX3_kind_34 rfl (by first | trivial | exact Or.inl rfl | exact Or.inr rfl | assumption) (by decide) (t' := _) (g' := g) rfl (fun L hM => ?_)
              refine lg_aload_n hG dX3_kind_37 rfl ?_
              refine ms_get hG hM dX3_kind_38 rfl rfl ?_
              refine lg_if_le hG dX3_kind_41 (tgt := 45) (by decide) (by decide) (fun h_41 => ?_) (fun h_41 => ?_)
              · skip
                exact absurd h_41 (by decide) --END
              · skip
                refine lg_vret hG dX3_kind_44 (Nat.le_of_ble_eq_true rfl) (Nat.le_of_ble_eq_true rfl) ?_
                exact ⟨trivial, hpx _ hM⟩
  · intro hno
    have hpx := hpx (by rintro ⟨q1, i1, j1, c1, -⟩; exact hno q1 c1.1 c1.2)
    refine lg_if_ne hG dX3_kind_5 (tgt := 29) (by decide) (by decide) (fun h_5 => ?_) (fun h_5 => ?_)
    · skip
      refine lg_iconst hG dX3_kind_29 (x := 1) (by decide) ?_
      refine lg_goto hG dX3_kind_30 (tgt := 34) (by decide) (by decide) ?_
      refine ms_put hG hM dX3_kind_34 rfl (by first | trivial | exact Or.inl rfl | exact Or.inr rfl | assumption) (by decide) (t' := _) (g' := g) rfl (fun L hM => ?_)
      refine lg_aload_n hG dX3_kind_37 rfl ?_
      refine ms_get hG hM dX3_kind_38 rfl rfl ?_
      refine lg_if_le hG dX3_kind_41 (tgt := 45) (by decide) (by decide) (fun h_41 => ?_) (fun h_41 => ?_)
      · skip
        exact absurd h_41 (by decide) --END
      · skip
        refine lg_vret hG dX3_kind_44 (Nat.le_of_ble_eq_true rfl) (Nat.le_of_ble_eq_true rfl) ?_
        exact ⟨trivial, hpx _ hM⟩
    · skip
      exact absurd h_5 (by decide) --END

def rm_X3_word : Room := { frames := 0, cells := 0, slots := 0, locals := 0 }
theorem ld_X3_word : yX3_word.cls ≠ "java/lang/invoke/MethodHandle" ∧ yX3_word.cls ≠ "java/lang/invoke/VarHandle" ∧ (parseMethodDescriptor yX3_word.desc).map (fun d => d.parameters.length) = some 0 := by decide +kernel
def sp_X3_word (ids : Nat → ClassId) : lm_S := fun As n L post postX => ∃ Q R g t L0, MS ids n Q R g t L0 L ∧ As = [.ref 47] ∧ ∀ L1, MS ids n Q R g 0 L0 L1 → post (some (.int (g 0))) n L1
set_option maxHeartbeats 4000000 in
set_option maxRecDepth 20000 in
theorem ok_X3_word (l : Launch) (D : va_G) (ids : Nat → ClassId) (B b : Nat) : lm_M l D (lm_ty ids) B b false yX3_word cX3_word 1 (some .int) rm_X3_word 0 0 (sp_X3_word ids) := by
  refine lm_method (own := RX3) (fld := lf_3) (cv := (fun _ => none)) (cs := (fun _ => none)) (ci := (fun _ => none)) (kon := (fun _ => none)) (thr := (fun _ => none)) (nw := (fun _ => none)) (ini := false) (cp := none) (alc := false) (by decide +kernel) rfl rfl rfl (lf_3_ok _) ⟨?_, ?_⟩ ?_ (fun h => by cases h) (lm_aok0 _ _ _ _ _ _ _ _) ?_ ?_
  · intro j f hf
    cases hf
  · intro j f hf
    cases hf
  · intro j v hv; cases hv
  · exact Or.inl fun _ => rfl
  rintro As n L post postX ⟨Q, R, g, t, L0, hM, rfl, hp⟩
  refine ⟨by simp [Value.category], (Nat.le_of_ble_eq_true rfl), lm_cl_of ?_⟩
  intro G hG
  refine lg_aload_n hG dX3_word_0 rfl ?_
  refine lg_iconst hG dX3_word_1 (x := 0) (by decide) ?_
  refine ms_put hG hM dX3_word_2 rfl (by first | trivial | exact Or.inl rfl | exact Or.inr rfl | assumption) (by decide) (t' := 0) (g' := g) rfl (fun L hM => ?_)
  refine lg_aload_n hG dX3_word_5 rfl ?_
  refine ms_get hG hM dX3_word_6 rfl rfl ?_
  refine lg_iret hG dX3_word_9 (Nat.le_of_ble_eq_true rfl) (Nat.le_of_ble_eq_true rfl) ?_
  exact ⟨trivial, hp _ hM⟩

theorem em_id {x : Qs} (h : (qI x).length = 0) (h2 : qd x = 0 ∧ qt x = false) : lvq (sI x []) = x := by
  have h3 : qI x = [] := List.length_eq_zero_iff.mp h
  obtain ⟨I, k, u, o, p, d, t, a, b, c, e⟩ := x
  simp only [qI, qd, qt] at h2 h3
  obtain ⟨rfl, rfl⟩ := h2
  subst h3
  rfl
def rm_X3_empty : Room := { frames := 3, cells := 0, slots := 0, locals := 68 }
theorem ld_X3_empty : yX3_empty.cls ≠ "java/lang/invoke/MethodHandle" ∧ yX3_empty.cls ≠ "java/lang/invoke/VarHandle" ∧ (parseMethodDescriptor yX3_empty.desc).map (fun d => d.parameters.length) = some 1 := by decide +kernel
def sp_X3_empty (ids : Nat → ClassId) : lm_S := fun As n L post postX => ∃ Q R g t L0 z K, MS ids n Q R g t L0 L ∧ As = [.ref 47, .int z] ∧ INV K (Q, R, g) ∧ (∀ q, okN 12 z q → ∀ L1, MS ids n (emS (Q, R, g) q).1 (emS (Q, R, g) q).2.1 g 0 L0 L1 → post (some (.int (nI (qI (Q q)).length))) n L1) ∧ ((¬ ∃ q, okN 12 z q) → ∀ L1, MS ids n Q R g 1 L0 L1 → post (some (.int 0)) n L1)
def cv_X3_empty (ids : Nat → ClassId) : Nat → Option lm_C := fun j => match j with
  | 106 => some (2, 3, sp_X3_settle ids, 0, 0)
  | _ => none
def cs_X3_empty (ids : Nat → ClassId) : Nat → Option lm_C := fun j => match j with
  | 69 => some (1, 0, sp_X3_noQueue ids, 0, 0)
  | _ => none
set_option maxHeartbeats 4000000 in
set_option maxRecDepth 20000 in
theorem ok_X3_empty (l : Launch) (D : va_G) (ids : Nat → ClassId) (B b : Nat) : lm_M l D (lm_ty ids) B b false yX3_empty cX3_empty 3 (some .int) rm_X3_empty 0 0 (sp_X3_empty ids) := by
  refine lm_method (own := RX3) (fld := lf_3) (cv := (cv_X3_empty ids)) (cs := (cs_X3_empty ids)) (ci := (fun _ => none)) (kon := (fun _ => none)) (thr := (fun _ => none)) (nw := (fun _ => none)) (ini := false) (cp := none) (alc := false) (by decide +kernel) rfl rfl rfl (lf_3_ok _) ⟨?_, ?_⟩ ?_ (fun h => by cases h) (lm_aok0 _ _ _ _ _ _ _ _) ?_ ?_
  · intro j f hf
    unfold cv_X3_empty at hf
    split at hf
    · cases hf; exact ⟨yX3_settle, cX3_settle, 2, none, rm_X3_settle, RX3, TX3, 22, 1, rfl, rfl, ok_X3_settle l D ids B b, lw_3_settle, ll_3_106, rfl, rfl, ⟨rfl, ld_X3_settle⟩, by decide⟩
    · cases hf
  · intro j f hf
    unfold cs_X3_empty at hf
    split at hf
    · cases hf; exact ⟨yX3_noQueue, cX3_noQueue, 1, (some .boolean), rm_X3_noQueue, ok_X3_noQueue l D ids B b, lw_3_noQueue, ll_3_69, rfl, rfl, ld_X3_noQueue, by decide⟩
    · cases hf
  · intro j v hv; cases hv
  · exact Or.inl fun _ => rfl
  rintro As n L post postX ⟨Q, R, g, t, L0, z, K, hM, rfl, hI, hp, hpx⟩
  refine ⟨by simp [Value.category], (Nat.le_of_ble_eq_true rfl), lm_cl_of ?_⟩
  intro G hG
  refine lg_aload_n hG dX3_empty_0 rfl ?_
  refine lg_iload_n hG dX3_empty_1 rfl ?_
  refine lg_callS hG dX3_empty_2 (by simp) rfl (fun P h => h) (Nat.le_of_ble_eq_true rfl) (Nat.le_of_ble_eq_true rfl) (Nat.le_of_ble_eq_true rfl) ?_
  refine ⟨z, rfl, ?_, ?_⟩
  · intro q hq hz
    subst hz
    have hp := hp q ⟨hq, rfl⟩
    obtain ⟨hk4, b2, b3, b4, b5, b6, b7, b8, b9⟩ := hI.1 q hq
    refine lg_if_eq hG dX3_empty_5 (tgt := 12) (by decide) (by decide) (fun h_5 => ?_) (fun h_5 => ?_)
    · skip
      refine lg_iconst hG dX3_empty_12 (x := 0) (by decide) ?_
      refine ms_put hG hM dX3_empty_13 rfl (by first | trivial | exact Or.inl rfl | exact Or.inr rfl | assumption) (by decide) (t' := _) (g' := g) rfl (fun L hM => ?_)
      refine lg_aload_n hG dX3_empty_16 rfl ?_
      refine ms_get hG hM dX3_empty_17 rfl rfl ?_
      refine lg_if_le hG dX3_empty_20 (tgt := 25) (by decide) (by decide) (fun h_20 => ?_) (fun h_20 => ?_)
      · skip
        refine lg_aload_n hG dX3_empty_25 rfl ?_
        refine ms_get hG hM dX3_empty_26 rfl rfl ?_
        refine lg_iload_n hG dX3_empty_29 rfl ?_
        refine ms_ld hG hM dX3_empty_30 (by decide) rfl rfl (by first | assumption | omega) rfl rfl ?_
        refine lg_istore_n hG dX3_empty_31 (Nat.le_of_ble_eq_true rfl) rfl ?_
        refine lg_aload_n hG dX3_empty_32 rfl ?_
        refine ms_get hG hM dX3_empty_33 rfl rfl ?_
        refine lg_iload_n hG dX3_empty_36 rfl ?_
        refine lg_iconst hG dX3_empty_37 (x := 0) (by decide) ?_
        refine ms_st hG hM dX3_empty_38 (by decide) rfl rfl (by first | assumption | omega) rfl (x' := sI (Q q) []) (fun k y h => by cases h) rfl (fun L hM => ?_)
        try rw [bx_uu] at hM
        refine lg_aload_n hG dX3_empty_39 rfl ?_
        refine lg_iload_n hG dX3_empty_40 rfl ?_
        refine ms_call hG hM dX3_empty_41 rfl (fun P h => h) (Nat.le_of_ble_eq_true rfl) (Nat.le_of_ble_eq_true rfl) (Nat.le_of_ble_eq_true rfl) ?_
        refine ⟨_, R, g, _, L0, q, hM, rfl, hq, by rw [va_up_self]; exact hk4, fun L hM => ?_⟩
        have e0 : (qI (sI (Q q) [])).length = 0 := rfl
        rw [va_up_self, if_pos e0, if_pos e0, bx_uu] at hM
        unfold lvR at hM
        rw [va_up_self] at hM
        have hM : MS ids n (va_up Q q (lvq (sI (Q q) []))) (va_up R (qk (Q q)) ((R (qk (Q q))).erase q)) g 0 L0 L := hM
        refine lg_iload_n hG dX3_empty_44 rfl ?_
        refine lg_iret hG dX3_empty_45 (Nat.le_of_ble_eq_true rfl) (Nat.le_of_ble_eq_true rfl) ?_
        refine ⟨trivial, hp _ ?_⟩
        unfold emS
        split
        · exact hM
        · rename_i e1
          have e2 : (qI (Q q)).length = 0 := by have : ¬ 0 < (qI (Q q)).length := e1; omega
          rw [List.erase_of_not_mem (hI.notin hk4 (Or.inl e2)), va_up_id rfl, em_id e2 (b8 e2), va_up_id rfl] at hM
          exact hM
      · skip
        exact absurd (by decide) h_20 --END
    · skip
      exact absurd rfl h_5 --END
  · intro hno
    have hpx := hpx (by rintro ⟨q1, c1⟩; exact hno q1 c1.1 c1.2)
    refine lg_if_eq hG dX3_empty_5 (tgt := 12) (by decide) (by decide) (fun h_5 => ?_) (fun h_5 => ?_)
    · skip
      exact absurd h_5 (by decide) --END
    · skip
      refine lg_iconst hG dX3_empty_8 (x := 1) (by decide) ?_
      refine lg_goto hG dX3_empty_9 (tgt := 13) (by decide) (by decide) ?_
      refine ms_put hG hM dX3_empty_13 rfl (by first | trivial | exact Or.inl rfl | exact Or.inr rfl | assumption) (by decide) (t' := _) (g' := g) rfl (fun L hM => ?_)
      refine lg_aload_n hG dX3_empty_16 rfl ?_
      refine ms_get hG hM dX3_empty_17 rfl rfl ?_
      refine lg_if_le hG dX3_empty_20 (tgt := 25) (by decide) (by decide) (fun h_20 => ?_) (fun h_20 => ?_)
      · skip
        exact absurd h_20 (by decide) --END
      · skip
        refine lg_iconst hG dX3_empty_23 (x := 0) (by decide) ?_
        refine lg_iret hG dX3_empty_24 (Nat.le_of_ble_eq_true rfl) (Nat.le_of_ble_eq_true rfl) ?_
        exact ⟨trivial, hpx _ hM⟩

def rm_X3_costOf : Room := { frames := 0, cells := 0, slots := 0, locals := 0 }
theorem ld_X3_costOf : yX3_costOf.cls ≠ "java/lang/invoke/MethodHandle" ∧ yX3_costOf.cls ≠ "java/lang/invoke/VarHandle" ∧ (parseMethodDescriptor yX3_costOf.desc).map (fun d => d.parameters.length) = some 1 := by decide +kernel
def sp_X3_costOf (ids : Nat → ClassId) : lm_S := fun As n L post postX => ∃ Q R g t L0 q, MS ids n Q R g t L0 L ∧ As = [.ref 47, .int (nI q)] ∧ q < 12 ∧ post (some (.int (nI (csum (qI (Q q)))))) n L
set_option maxHeartbeats 4000000 in
set_option maxRecDepth 20000 in
theorem ok_X3_costOf (l : Launch) (D : va_G) (ids : Nat → ClassId) (B b : Nat) : lm_M l D (lm_ty ids) B b false yX3_costOf cX3_costOf 4 (some .int) rm_X3_costOf 0 0 (sp_X3_costOf ids) := by
  refine lm_method (own := RX3) (fld := lf_3) (cv := (fun _ => none)) (cs := (fun _ => none)) (ci := (fun _ => none)) (kon := (fun _ => none)) (thr := (fun _ => none)) (nw := (fun _ => none)) (ini := false) (cp := none) (alc := false) (by decide +kernel) rfl rfl rfl (lf_3_ok _) ⟨?_, ?_⟩ ?_ (fun h => by cases h) (lm_aok0 _ _ _ _ _ _ _ _) ?_ ?_
  · intro j f hf
    cases hf
  · intro j f hf
    cases hf
  · intro j v hv; cases hv
  · exact Or.inl fun _ => rfl
  rintro As n L post postX ⟨Q, R, g, t, L0, q, hM, rfl, hq, hp⟩
  refine ⟨by simp [Value.category], (Nat.le_of_ble_eq_true rfl), lm_cl_of ?_⟩
  intro G hG
  have hl96 := hM.len hq
  generalize hI9 : qI (Q q) = I at hp hl96
  have loop : ∀ (m k : Nat), k ≤ I.length → I.length - k < m → G 4 [some (.ref 47), some (.int (nI q)), some (.int (nI (csum (I.take k)))), some (.int (nI k))] [] n L 0 0 := by
    intro m
    induction m with
    | zero => intro k h1 h2; omega
    | succ m ih =>
      intro k hk hkm
      refine lg_iload_n hG dX3_costOf_4 rfl ?_
      refine lg_aload_n hG dX3_costOf_5 rfl ?_
      refine ms_get hG hM dX3_costOf_6 rfl rfl ?_
      refine lg_iload_n hG dX3_costOf_9 rfl ?_
      refine ms_ld hG hM dX3_costOf_10 (by decide) rfl rfl (by first | assumption | omega) rfl rfl ?_
      rw [hI9]
      refine lg_icmp_ge hG dX3_costOf_11 (tgt := 34) (by decide) (by decide) (fun h_11 => ?_) (fun h_11 => ?_)
      · skip
        have hkl : k = I.length := by
          rcases Nat.lt_or_ge k I.length with h | h
          · exact absurd (nI_lt h (by omega)) h_11
          · omega
        subst hkl
        rw [List.take_length]
        refine lg_iload_n hG dX3_costOf_34 rfl ?_
        refine lg_iret hG dX3_costOf_35 (Nat.le_of_ble_eq_true rfl) (Nat.le_of_ble_eq_true rfl) ?_
        exact ⟨trivial, hp⟩
      · skip
        have hkl : k < I.length := (nI_ltI (by omega) (by omega)).mp h_11
        obtain ⟨y, hy⟩ : ∃ y, I[k]? = some y := ⟨_, List.getElem?_eq_getElem hkl⟩
        refine lg_iload_n hG dX3_costOf_14 rfl ?_
        refine lg_aload_n hG dX3_costOf_15 rfl ?_
        refine ms_get hG hM dX3_costOf_16 rfl rfl ?_
        refine lg_bipush hG dX3_costOf_19 (x := (96)) (by decide) ?_
        refine lg_iload_n hG dX3_costOf_21 rfl ?_
        refine lg_imul hG dX3_costOf_22 (mk96 _) ?_
        refine lg_iload_n hG dX3_costOf_23 rfl ?_
        refine lg_iadd hG dX3_costOf_24 (nI_add _ _) ?_
        refine ms_ldC hG hM dX3_costOf_25 rfl (by first | assumption | omega) rfl (show (qI (Q q))[k]? = some y by rw [hI9]; exact hy) ?_
        refine lg_iadd hG dX3_costOf_26 (show nI (csum (I.take k)) + nI y.2 = nI (csum (I.take (k + 1))) by rw [List.take_add_one, hy, csum_app]; exact nI_add _ _) ?_
        refine lg_istore_n hG dX3_costOf_27 (Nat.le_of_ble_eq_true rfl) rfl ?_
        refine lg_iinc hG dX3_costOf_28 (Nat.le_of_ble_eq_true rfl) rfl rfl rfl ?_
        refine lg_goto hG dX3_costOf_31 (tgt := 4) (by decide) (by decide) ?_
        rw [show nI k + Int32.ofInt 1 = nI (k + 1) from nI_1 k]
        exact ih (k + 1) (by omega) (by omega)
  refine lg_iconst hG dX3_costOf_0 (x := 0) (by decide) ?_
  refine lg_istore_n hG dX3_costOf_1 (Nat.le_of_ble_eq_true rfl) rfl ?_
  refine lg_iconst hG dX3_costOf_2 (x := 0) (by decide) ?_
  refine lg_istore_n hG dX3_costOf_3 (Nat.le_of_ble_eq_true rfl) rfl ?_
  exact loop (I.length + 1) 0 (by omega) (by omega)

def rm_X3_told : Room := { frames := 1, cells := 0, slots := 0, locals := 23 }
theorem ld_X3_told : yX3_told.cls ≠ "java/lang/invoke/MethodHandle" ∧ yX3_told.cls ≠ "java/lang/invoke/VarHandle" ∧ (parseMethodDescriptor yX3_told.desc).map (fun d => d.parameters.length) = some 2 := by decide +kernel
def sp_X3_told (ids : Nat → ClassId) : lm_S := fun As n L post postX => ∃ Q R g t L0 z a K, MS ids n Q R g t L0 L ∧ As = [.ref 47, .int z, .int a] ∧ INV K (Q, R, g) ∧ (∀ q i, okN 12 z q → okN 13 a i → ∀ L1, MS ids n Q R g 0 L0 L1 → post (some (.int (tldv (Q, R, g) q i))) n L1) ∧ ((¬ ∃ q i, okN 12 z q ∧ okN 13 a i) → ∀ L1, MS ids n Q R g 1 L0 L1 → post (some (.int 0)) n L1)
def cv_X3_told (ids : Nat → ClassId) : Nat → Option lm_C := fun j => match j with
  | 77 => some (2, 3, sp_X3_placeOf ids, 0, 0)
  | 125 => some (2, 3, sp_X3_costOf ids, 0, 0)
  | _ => none
def cs_X3_told (ids : Nat → ClassId) : Nat → Option lm_C := fun j => match j with
  | 69 => some (1, 0, sp_X3_noQueue ids, 0, 0)
  | _ => none
set_option maxHeartbeats 4000000 in
set_option maxRecDepth 20000 in
theorem ok_X3_told (l : Launch) (D : va_G) (ids : Nat → ClassId) (B b : Nat) : lm_M l D (lm_ty ids) B b false yX3_told cX3_told 3 (some .int) rm_X3_told 0 0 (sp_X3_told ids) := by
  refine lm_method (own := RX3) (fld := lf_3) (cv := (cv_X3_told ids)) (cs := (cs_X3_told ids)) (ci := (fun _ => none)) (kon := (fun _ => none)) (thr := (fun _ => none)) (nw := (fun _ => none)) (ini := false) (cp := none) (alc := false) (by decide +kernel) rfl rfl rfl (lf_3_ok _) ⟨?_, ?_⟩ ?_ (fun h => by cases h) (lm_aok0 _ _ _ _ _ _ _ _) ?_ ?_
  · intro j f hf
    unfold cv_X3_told at hf
    split at hf
    · cases hf; exact ⟨yX3_placeOf, cX3_placeOf, 4, (some .int), rm_X3_placeOf, RX3, TX3, 22, 1, rfl, rfl, ok_X3_placeOf l D ids B b, lw_3_placeOf, ll_3_77, rfl, rfl, ⟨rfl, ld_X3_placeOf⟩, by decide⟩
    · cases hf; exact ⟨yX3_costOf, cX3_costOf, 4, (some .int), rm_X3_costOf, RX3, TX3, 22, 1, rfl, rfl, ok_X3_costOf l D ids B b, lw_3_costOf, ll_3_125, rfl, rfl, ⟨rfl, ld_X3_costOf⟩, by decide⟩
    · cases hf
  · intro j f hf
    unfold cs_X3_told at hf
    split at hf
    · cases hf; exact ⟨yX3_noQueue, cX3_noQueue, 1, (some .boolean), rm_X3_noQueue, ok_X3_noQueue l D ids B b, lw_3_noQueue, ll_3_69, rfl, rfl, ld_X3_noQueue, by decide⟩
    · cases hf
  · intro j v hv; cases hv
  · exact Or.inl fun _ => rfl
  rintro As n L post postX ⟨Q, R, g, t, L0, z, a, K, hM, rfl, hI, hp, hpx⟩
  refine ⟨by simp [Value.category], (Nat.le_of_ble_eq_true rfl), lm_cl_of ?_⟩
  intro G hG
  refine lg_aload_n hG dX3_told_0 rfl ?_
  refine lg_iload_n hG dX3_told_1 rfl ?_
  refine lg_callS hG dX3_told_2 (by simp) rfl (fun P h => h) (Nat.le_of_ble_eq_true rfl) (Nat.le_of_ble_eq_true rfl) (Nat.le_of_ble_eq_true rfl) ?_
  refine ⟨z, rfl, ?_, ?_⟩
  · intro q hq hz
    subst hz
    refine lg_if_ne hG dX3_told_5 (tgt := 18) (by decide) (by decide) (fun h_5 => ?_) (fun h_5 => ?_)
    · skip
      exact absurd rfl h_5 --END
    · skip
      refine lg_iload_n hG dX3_told_8 rfl ?_
      refine lg_if_lt hG dX3_told_9 (tgt := 18) (by decide) (by decide) (fun h_9 => ?_) (fun h_9 => ?_)
      · skip
        have hpx := hpx (by rintro ⟨q1, i1, c1, c2, c3⟩; subst c3; exact nI_pos (by omega) h_9)
        refine lg_iconst hG dX3_told_18 (x := 1) (by decide) ?_
        refine lg_goto hG dX3_told_19 (tgt := 23) (by decide) (by decide) ?_
        refine ms_put hG hM dX3_told_23 rfl (by first | trivial | exact Or.inl rfl | exact Or.inr rfl | assumption) (by decide) (t' := _) (g' := g) rfl (fun L hM => ?_)
        refine lg_aload_n hG dX3_told_26 rfl ?_
        refine ms_get hG hM dX3_told_27 rfl rfl ?_
        refine lg_if_le hG dX3_told_30 (tgt := 35) (by decide) (by decide) (fun h_30 => ?_) (fun h_30 => ?_)
        · skip
          exact absurd h_30 (by decide) --END
        · skip
          refine lg_iconst hG dX3_told_33 (x := 0) (by decide) ?_
          refine lg_iret hG dX3_told_34 (Nat.le_of_ble_eq_true rfl) (Nat.le_of_ble_eq_true rfl) ?_
          exact ⟨trivial, hpx _ hM⟩
      · skip
        refine lg_iload_n hG dX3_told_12 rfl ?_
        refine lg_bipush hG dX3_told_13 (x := (12)) (by decide) ?_
        refine lg_icmp_le hG dX3_told_15 (tgt := 22) (by decide) (by decide) (fun h_15 => ?_) (fun h_15 => ?_)
        · skip
          obtain ⟨i, hi, rfl⟩ := ck_of (N := 12) rfl (by decide) h_9 h_15
          have hk4 : qk (Q q) < 4 := (hI.1 q hq).1
          refine lg_iconst hG dX3_told_22 (x := 0) (by decide) ?_
          refine ms_put hG hM dX3_told_23 rfl (by first | trivial | exact Or.inl rfl | exact Or.inr rfl | assumption) (by decide) (t' := _) (g' := g) rfl (fun L hM => ?_)
          refine lg_aload_n hG dX3_told_26 rfl ?_
          refine ms_get hG hM dX3_told_27 rfl rfl ?_
          refine lg_if_le hG dX3_told_30 (tgt := 35) (by decide) (by decide) (fun h_30 => ?_) (fun h_30 => ?_)
          · skip
            refine lg_iload_n hG dX3_told_35 rfl ?_
            rcases (by omega : i < 12 ∨ i = 12) with hi12 | rfl
            · skip
              rcases (by omega : i = 0 ∨ i = 1 ∨ i = 2 ∨ i = 3 ∨ i = 4 ∨ i = 5 ∨ i = 6 ∨ i = 7 ∨ i = 8 ∨ i = 9 ∨ i = 10 ∨ i = 11) with rfl | rfl | rfl | rfl | rfl | rfl | rfl | rfl | rfl | rfl | rfl | rfl
              · refine lg_tabIn hG dX3_told_36 (by decide) (by decide) (o := 64) (by decide) (tgt := 100) (by decide) (by decide) ?_
                refine lg_aload_n hG dX3_told_100 rfl ?_
                refine ms_get hG hM dX3_told_101 rfl rfl ?_
                refine lg_iload_n hG dX3_told_104 rfl ?_
                refine ms_ld hG hM dX3_told_105 (by decide) rfl rfl (by first | assumption | omega) rfl rfl ?_
                refine lg_iret hG dX3_told_106 (Nat.le_of_ble_eq_true rfl) (Nat.le_of_ble_eq_true rfl) ?_
                exact ⟨trivial, hp q 0 ⟨hq, rfl⟩ ⟨by decide, rfl⟩ _ hM⟩
              · refine lg_tabIn hG dX3_told_36 (by decide) (by decide) (o := 71) (by decide) (tgt := 107) (by decide) (by decide) ?_
                refine lg_aload_n hG dX3_told_107 rfl ?_
                refine ms_get hG hM dX3_told_108 rfl rfl ?_
                refine lg_iload_n hG dX3_told_111 rfl ?_
                refine ms_ld hG hM dX3_told_112 (by decide) rfl rfl (by first | assumption | omega) rfl rfl ?_
                refine lg_iret hG dX3_told_113 (Nat.le_of_ble_eq_true rfl) (Nat.le_of_ble_eq_true rfl) ?_
                exact ⟨trivial, hp q 1 ⟨hq, rfl⟩ ⟨by decide, rfl⟩ _ hM⟩
              · refine lg_tabIn hG dX3_told_36 (by decide) (by decide) (o := 78) (by decide) (tgt := 114) (by decide) (by decide) ?_
                refine lg_aload_n hG dX3_told_114 rfl ?_
                refine ms_get hG hM dX3_told_115 rfl rfl ?_
                refine lg_iload_n hG dX3_told_118 rfl ?_
                refine ms_ld hG hM dX3_told_119 (by decide) rfl rfl (by first | assumption | omega) rfl rfl ?_
                refine lg_iret hG dX3_told_120 (Nat.le_of_ble_eq_true rfl) (Nat.le_of_ble_eq_true rfl) ?_
                exact ⟨trivial, hp q 2 ⟨hq, rfl⟩ ⟨by decide, rfl⟩ _ hM⟩
              · refine lg_tabIn hG dX3_told_36 (by decide) (by decide) (o := 85) (by decide) (tgt := 121) (by decide) (by decide) ?_
                refine lg_aload_n hG dX3_told_121 rfl ?_
                refine ms_get hG hM dX3_told_122 rfl rfl ?_
                refine lg_iload_n hG dX3_told_125 rfl ?_
                refine ms_ld hG hM dX3_told_126 (by decide) rfl rfl (by first | assumption | omega) rfl rfl ?_
                refine lg_iret hG dX3_told_127 (Nat.le_of_ble_eq_true rfl) (Nat.le_of_ble_eq_true rfl) ?_
                exact ⟨trivial, hp q 3 ⟨hq, rfl⟩ ⟨by decide, rfl⟩ _ hM⟩
              · refine lg_tabIn hG dX3_told_36 (by decide) (by decide) (o := 92) (by decide) (tgt := 128) (by decide) (by decide) ?_
                refine lg_aload_n hG dX3_told_128 rfl ?_
                refine ms_get hG hM dX3_told_129 rfl rfl ?_
                refine lg_iload_n hG dX3_told_132 rfl ?_
                refine ms_ld hG hM dX3_told_133 (by decide) rfl rfl (by first | assumption | omega) rfl rfl ?_
                refine lg_iret hG dX3_told_134 (Nat.le_of_ble_eq_true rfl) (Nat.le_of_ble_eq_true rfl) ?_
                exact ⟨trivial, hp q 4 ⟨hq, rfl⟩ ⟨by decide, rfl⟩ _ hM⟩
              · refine lg_tabIn hG dX3_told_36 (by decide) (by decide) (o := 99) (by decide) (tgt := 135) (by decide) (by decide) ?_
                refine lg_aload_n hG dX3_told_135 rfl ?_
                refine ms_get hG hM dX3_told_136 rfl rfl ?_
                refine lg_iload_n hG dX3_told_139 rfl ?_
                refine ms_ld hG hM dX3_told_140 (by decide) rfl rfl (by first | assumption | omega) rfl rfl ?_
                refine lg_iret hG dX3_told_141 (Nat.le_of_ble_eq_true rfl) (Nat.le_of_ble_eq_true rfl) ?_
                exact ⟨trivial, hp q 5 ⟨hq, rfl⟩ ⟨by decide, rfl⟩ _ hM⟩
              · refine lg_tabIn hG dX3_told_36 (by decide) (by decide) (o := 106) (by decide) (tgt := 142) (by decide) (by decide) ?_
                refine lg_aload_n hG dX3_told_142 rfl ?_
                refine ms_get hG hM dX3_told_143 rfl rfl ?_
                refine lg_iload_n hG dX3_told_146 rfl ?_
                refine ms_bld hG hM dX3_told_147 rfl (by first | assumption | omega) rfl ?_
                refine lg_if_eq hG dX3_told_148 (tgt := 155) (by decide) (by decide) (fun h_148 => ?_) (fun h_148 => ?_)
                · skip
                  have e1 : bI (qt (Q q)) = 0 := h_148
                  have hp := hp q 6 ⟨hq, rfl⟩ ⟨by decide, rfl⟩ _ hM
                  rw [show tldv (Q, R, g) q 6 = bI (qt (Q q)) from rfl, e1] at hp
                  refine lg_iconst hG dX3_told_155 (x := 0) (by decide) ?_
                  refine lg_iret hG dX3_told_156 (Nat.le_of_ble_eq_true rfl) (Nat.le_of_ble_eq_true rfl) ?_
                  exact ⟨trivial, hp⟩
                · skip
                  have e1 : bI (qt (Q q)) = 1 := by rw [bI_1 h_148]; rfl
                  have hp := hp q 6 ⟨hq, rfl⟩ ⟨by decide, rfl⟩ _ hM
                  rw [show tldv (Q, R, g) q 6 = bI (qt (Q q)) from rfl, e1] at hp
                  refine lg_iconst hG dX3_told_151 (x := 1) (by decide) ?_
                  refine lg_goto hG dX3_told_152 (tgt := 156) (by decide) (by decide) ?_
                  refine lg_iret hG dX3_told_156 (Nat.le_of_ble_eq_true rfl) (Nat.le_of_ble_eq_true rfl) ?_
                  exact ⟨trivial, hp⟩
              · refine lg_tabIn hG dX3_told_36 (by decide) (by decide) (o := 121) (by decide) (tgt := 157) (by decide) (by decide) ?_
                refine lg_aload_n hG dX3_told_157 rfl ?_
                refine lg_iload_n hG dX3_told_158 rfl ?_
                refine ms_call hG hM dX3_told_159 rfl (fun P h => h) (Nat.le_of_ble_eq_true rfl) (Nat.le_of_ble_eq_true rfl) (Nat.le_of_ble_eq_true rfl) ?_
                refine ⟨Q, R, g, _, L0, q, hM, rfl, hq, hk4, ?_⟩
                refine lg_iret hG dX3_told_162 (Nat.le_of_ble_eq_true rfl) (Nat.le_of_ble_eq_true rfl) ?_
                exact ⟨trivial, hp q 7 ⟨hq, rfl⟩ ⟨by decide, rfl⟩ _ hM⟩
              · refine lg_tabIn hG dX3_told_36 (by decide) (by decide) (o := 127) (by decide) (tgt := 163) (by decide) (by decide) ?_
                refine lg_aload_n hG dX3_told_163 rfl ?_
                refine ms_get hG hM dX3_told_164 rfl rfl ?_
                refine lg_iload_n hG dX3_told_167 rfl ?_
                refine ms_ld hG hM dX3_told_168 (by decide) rfl rfl (by first | assumption | omega) rfl rfl ?_
                refine lg_iret hG dX3_told_169 (Nat.le_of_ble_eq_true rfl) (Nat.le_of_ble_eq_true rfl) ?_
                exact ⟨trivial, hp q 8 ⟨hq, rfl⟩ ⟨by decide, rfl⟩ _ hM⟩
              · refine lg_tabIn hG dX3_told_36 (by decide) (by decide) (o := 134) (by decide) (tgt := 170) (by decide) (by decide) ?_
                refine lg_aload_n hG dX3_told_170 rfl ?_
                refine ms_get hG hM dX3_told_171 rfl rfl ?_
                refine lg_iload_n hG dX3_told_174 rfl ?_
                refine ms_ld hG hM dX3_told_175 (by decide) rfl rfl (by first | assumption | omega) rfl rfl ?_
                refine lg_iret hG dX3_told_176 (Nat.le_of_ble_eq_true rfl) (Nat.le_of_ble_eq_true rfl) ?_
                exact ⟨trivial, hp q 9 ⟨hq, rfl⟩ ⟨by decide, rfl⟩ _ hM⟩
              · refine lg_tabIn hG dX3_told_36 (by decide) (by decide) (o := 141) (by decide) (tgt := 177) (by decide) (by decide) ?_
                refine lg_aload_n hG dX3_told_177 rfl ?_
                refine ms_get hG hM dX3_told_178 rfl rfl ?_
                refine lg_iload_n hG dX3_told_181 rfl ?_
                refine ms_ld hG hM dX3_told_182 (by decide) rfl rfl (by first | assumption | omega) rfl rfl ?_
                refine lg_iret hG dX3_told_183 (Nat.le_of_ble_eq_true rfl) (Nat.le_of_ble_eq_true rfl) ?_
                exact ⟨trivial, hp q 10 ⟨hq, rfl⟩ ⟨by decide, rfl⟩ _ hM⟩
              · refine lg_tabIn hG dX3_told_36 (by decide) (by decide) (o := 148) (by decide) (tgt := 184) (by decide) (by decide) ?_
                refine lg_aload_n hG dX3_told_184 rfl ?_
                refine ms_get hG hM dX3_told_185 rfl rfl ?_
                refine lg_iload_n hG dX3_told_188 rfl ?_
                refine ms_ld hG hM dX3_told_189 (by decide) rfl rfl (by first | assumption | omega) rfl rfl ?_
                refine lg_iret hG dX3_told_190 (Nat.le_of_ble_eq_true rfl) (Nat.le_of_ble_eq_true rfl) ?_
                exact ⟨trivial, hp q 11 ⟨hq, rfl⟩ ⟨by decide, rfl⟩ _ hM⟩
            · skip
              refine lg_tabOut hG dX3_told_36 (Or.inr (by decide)) rfl (tgt := 191) (by decide) (by decide) ?_
              refine lg_aload_n hG dX3_told_191 rfl ?_
              refine lg_iload_n hG dX3_told_192 rfl ?_
              refine ms_call hG hM dX3_told_193 rfl (fun P h => h) (Nat.le_of_ble_eq_true rfl) (Nat.le_of_ble_eq_true rfl) (Nat.le_of_ble_eq_true rfl) ?_
              refine ⟨Q, R, g, _, L0, q, hM, rfl, hq, ?_⟩
              refine lg_iret hG dX3_told_196 (Nat.le_of_ble_eq_true rfl) (Nat.le_of_ble_eq_true rfl) ?_
              exact ⟨trivial, hp q 12 ⟨hq, rfl⟩ ⟨by decide, rfl⟩ _ hM⟩
            --END
          · skip
            exact absurd (by decide) h_30 --END
        · skip
          have hpx := hpx (by rintro ⟨q1, i1, c1, c2, c3⟩; subst c3; exact h_15 (nI_le (b := 12) (by omega) (by decide)))
          refine lg_iconst hG dX3_told_18 (x := 1) (by decide) ?_
          refine lg_goto hG dX3_told_19 (tgt := 23) (by decide) (by decide) ?_
          refine ms_put hG hM dX3_told_23 rfl (by first | trivial | exact Or.inl rfl | exact Or.inr rfl | assumption) (by decide) (t' := _) (g' := g) rfl (fun L hM => ?_)
          refine lg_aload_n hG dX3_told_26 rfl ?_
          refine ms_get hG hM dX3_told_27 rfl rfl ?_
          refine lg_if_le hG dX3_told_30 (tgt := 35) (by decide) (by decide) (fun h_30 => ?_) (fun h_30 => ?_)
          · skip
            exact absurd h_30 (by decide) --END
          · skip
            refine lg_iconst hG dX3_told_33 (x := 0) (by decide) ?_
            refine lg_iret hG dX3_told_34 (Nat.le_of_ble_eq_true rfl) (Nat.le_of_ble_eq_true rfl) ?_
            exact ⟨trivial, hpx _ hM⟩
  · intro hno
    have hpx := hpx (by rintro ⟨q1, i1, c1, -⟩; exact hno q1 c1.1 c1.2)
    refine lg_if_ne hG dX3_told_5 (tgt := 18) (by decide) (by decide) (fun h_5 => ?_) (fun h_5 => ?_)
    · skip
      refine lg_iconst hG dX3_told_18 (x := 1) (by decide) ?_
      refine lg_goto hG dX3_told_19 (tgt := 23) (by decide) (by decide) ?_
      refine ms_put hG hM dX3_told_23 rfl (by first | trivial | exact Or.inl rfl | exact Or.inr rfl | assumption) (by decide) (t' := _) (g' := g) rfl (fun L hM => ?_)
      refine lg_aload_n hG dX3_told_26 rfl ?_
      refine ms_get hG hM dX3_told_27 rfl rfl ?_
      refine lg_if_le hG dX3_told_30 (tgt := 35) (by decide) (by decide) (fun h_30 => ?_) (fun h_30 => ?_)
      · skip
        exact absurd h_30 (by decide) --END
      · skip
        refine lg_iconst hG dX3_told_33 (x := 0) (by decide) ?_
        refine lg_iret hG dX3_told_34 (Nat.le_of_ble_eq_true rfl) (Nat.le_of_ble_eq_true rfl) ?_
        exact ⟨trivial, hpx _ hM⟩
    · skip
      exact absurd h_5 (by decide) --END

def rm_X3_item : Room := { frames := 1, cells := 0, slots := 0, locals := 20 }
theorem ld_X3_item : yX3_item.cls ≠ "java/lang/invoke/MethodHandle" ∧ yX3_item.cls ≠ "java/lang/invoke/VarHandle" ∧ (parseMethodDescriptor yX3_item.desc).map (fun d => d.parameters.length) = some 3 := by decide +kernel
def sp_X3_item (ids : Nat → ClassId) : lm_S := fun As n L post postX => ∃ Q R g t L0 z a b K, MS ids n Q R g t L0 L ∧ As = [.ref 47, .int z, .int a, .int b] ∧ INV K (Q, R, g) ∧ (∀ q i, okN 12 z q → okN 2 b i → (∀ k y, okN (qI (Q q)).length a k → (qI (Q q))[k]? = some y → ∀ L1, MS ids n Q R g 0 L0 L1 → post (some (.int (if i = 0 then y.1 else nI y.2))) n L1) ∧ ((¬ ∃ k, okN (qI (Q q)).length a k) → ∀ L1, MS ids n Q R g 2 L0 L1 → post (some (.int 0)) n L1)) ∧ ((¬ ∃ q i, okN 12 z q ∧ okN 2 b i) → ∀ L1, MS ids n Q R g 1 L0 L1 → post (some (.int 0)) n L1)
def cs_X3_item (ids : Nat → ClassId) : Nat → Option lm_C := fun j => match j with
  | 69 => some (1, 0, sp_X3_noQueue ids, 0, 0)
  | _ => none
set_option maxHeartbeats 4000000 in
set_option maxRecDepth 20000 in
theorem ok_X3_item (l : Launch) (D : va_G) (ids : Nat → ClassId) (B b : Nat) : lm_M l D (lm_ty ids) B b false yX3_item cX3_item 4 (some .int) rm_X3_item 0 0 (sp_X3_item ids) := by
  refine lm_method (own := RX3) (fld := lf_3) (cv := (fun _ => none)) (cs := (cs_X3_item ids)) (ci := (fun _ => none)) (kon := (fun _ => none)) (thr := (fun _ => none)) (nw := (fun _ => none)) (ini := false) (cp := none) (alc := false) (by decide +kernel) rfl rfl rfl (lf_3_ok _) ⟨?_, ?_⟩ ?_ (fun h => by cases h) (lm_aok0 _ _ _ _ _ _ _ _) ?_ ?_
  · intro j f hf
    cases hf
  · intro j f hf
    unfold cs_X3_item at hf
    split at hf
    · cases hf; exact ⟨yX3_noQueue, cX3_noQueue, 1, (some .boolean), rm_X3_noQueue, ok_X3_noQueue l D ids B b, lw_3_noQueue, ll_3_69, rfl, rfl, ld_X3_noQueue, by decide⟩
    · cases hf
  · intro j v hv; cases hv
  · exact Or.inl fun _ => rfl
  rintro As n L post postX ⟨Q, R, g, t, L0, z, a, b, K, hM, rfl, hI, hp, hpx⟩
  refine ⟨by simp [Value.category], (Nat.le_of_ble_eq_true rfl), lm_cl_of ?_⟩
  intro G hG
  refine lg_aload_n hG dX3_item_0 rfl ?_
  refine lg_iload_n hG dX3_item_1 rfl ?_
  refine lg_callS hG dX3_item_2 (by simp) rfl (fun P h => h) (Nat.le_of_ble_eq_true rfl) (Nat.le_of_ble_eq_true rfl) (Nat.le_of_ble_eq_true rfl) ?_
  refine ⟨z, rfl, ?_, ?_⟩
  · intro q hq hz
    subst hz
    refine lg_if_ne hG dX3_item_5 (tgt := 17) (by decide) (by decide) (fun h_5 => ?_) (fun h_5 => ?_)
    · skip
      exact absurd rfl h_5 --END
    · skip
      refine lg_iload_n hG dX3_item_8 rfl ?_
      refine lg_if_lt hG dX3_item_9 (tgt := 17) (by decide) (by decide) (fun h_9 => ?_) (fun h_9 => ?_)
      · skip
        have hpx := hpx (by rintro ⟨q1, i1, c1, c2, c3⟩; subst c3; exact nI_pos (by omega) h_9)
        refine lg_iconst hG dX3_item_17 (x := 1) (by decide) ?_
        refine lg_goto hG dX3_item_18 (tgt := 40) (by decide) (by decide) ?_
        refine ms_put hG hM dX3_item_40 rfl (by first | trivial | exact Or.inl rfl | exact Or.inr rfl | assumption) (by decide) (t' := _) (g' := g) rfl (fun L hM => ?_)
        refine lg_aload_n hG dX3_item_43 rfl ?_
        refine ms_get hG hM dX3_item_44 rfl rfl ?_
        refine lg_if_le hG dX3_item_47 (tgt := 52) (by decide) (by decide) (fun h_47 => ?_) (fun h_47 => ?_)
        · skip
          exact absurd h_47 (by decide) --END
        · skip
          refine lg_iconst hG dX3_item_50 (x := 0) (by decide) ?_
          refine lg_iret hG dX3_item_51 (Nat.le_of_ble_eq_true rfl) (Nat.le_of_ble_eq_true rfl) ?_
          exact ⟨trivial, hpx _ hM⟩
      · skip
        refine lg_iload_n hG dX3_item_12 rfl ?_
        refine lg_iconst hG dX3_item_13 (x := 1) (by decide) ?_
        refine lg_icmp_le hG dX3_item_14 (tgt := 21) (by decide) (by decide) (fun h_14 => ?_) (fun h_14 => ?_)
        · skip
          obtain ⟨i, hi, rfl⟩ := ck_of (N := 1) rfl (by decide) h_9 h_14
          obtain ⟨hp, hpx⟩ := hp q i ⟨hq, rfl⟩ ⟨by omega, rfl⟩
          have hl96 := hM.len hq
          refine lg_iload_n hG dX3_item_21 rfl ?_
          refine lg_if_lt hG dX3_item_22 (tgt := 35) (by decide) (by decide) (fun h_22 => ?_) (fun h_22 => ?_)
          · skip
            have hpx := hpx (by rintro ⟨k, h, rfl⟩; exact nI_pos (by omega) h_22)
            refine lg_iconst hG dX3_item_35 (x := 2) (by decide) ?_
            refine lg_goto hG dX3_item_36 (tgt := 40) (by decide) (by decide) ?_
            refine ms_put hG hM dX3_item_40 rfl (by first | trivial | exact Or.inl rfl | exact Or.inr rfl | assumption) (by decide) (t' := _) (g' := g) rfl (fun L hM => ?_)
            refine lg_aload_n hG dX3_item_43 rfl ?_
            refine ms_get hG hM dX3_item_44 rfl rfl ?_
            refine lg_if_le hG dX3_item_47 (tgt := 52) (by decide) (by decide) (fun h_47 => ?_) (fun h_47 => ?_)
            · skip
              exact absurd h_47 (by decide) --END
            · skip
              refine lg_iconst hG dX3_item_50 (x := 0) (by decide) ?_
              refine lg_iret hG dX3_item_51 (Nat.le_of_ble_eq_true rfl) (Nat.le_of_ble_eq_true rfl) ?_
              exact ⟨trivial, hpx _ hM⟩
          · skip
            refine lg_iload_n hG dX3_item_25 rfl ?_
            refine lg_aload_n hG dX3_item_26 rfl ?_
            refine ms_get hG hM dX3_item_27 rfl rfl ?_
            refine lg_iload_n hG dX3_item_30 rfl ?_
            refine ms_ld hG hM dX3_item_31 (by decide) rfl rfl (by first | assumption | omega) rfl rfl ?_
            refine lg_icmp_lt hG dX3_item_32 (tgt := 39) (by decide) (by decide) (fun h_32 => ?_) (fun h_32 => ?_)
            · skip
              obtain ⟨k, hk31, rfl⟩ := nI_of h_22
              have hkl : k < (qI (Q q)).length := (nI_ltI hk31 (by omega)).mp h_32
              obtain ⟨y, hy⟩ : ∃ y, (qI (Q q))[k]? = some y := ⟨_, List.getElem?_eq_getElem hkl⟩
              have hp := hp k y ⟨hkl, rfl⟩ hy
              refine lg_iconst hG dX3_item_39 (x := 0) (by decide) ?_
              refine ms_put hG hM dX3_item_40 rfl (by first | trivial | exact Or.inl rfl | exact Or.inr rfl | assumption) (by decide) (t' := _) (g' := g) rfl (fun L hM => ?_)
              refine lg_aload_n hG dX3_item_43 rfl ?_
              refine ms_get hG hM dX3_item_44 rfl rfl ?_
              refine lg_if_le hG dX3_item_47 (tgt := 52) (by decide) (by decide) (fun h_47 => ?_) (fun h_47 => ?_)
              · skip
                refine lg_iload_n hG dX3_item_52 rfl ?_
                refine lg_if_ne hG dX3_item_53 (tgt := 70) (by decide) (by decide) (fun h_53 => ?_) (fun h_53 => ?_)
                · skip
                  have e1 : ¬ i = 0 := fun h => h_53 (by rw [h]; rfl)
                  rw [if_neg e1] at hp
                  refine lg_aload_n hG dX3_item_70 rfl ?_
                  refine ms_get hG hM dX3_item_71 rfl rfl ?_
                  refine lg_bipush hG dX3_item_74 (x := (96)) (by decide) ?_
                  refine lg_iload_n hG dX3_item_76 rfl ?_
                  refine lg_imul hG dX3_item_77 (mk96 _) ?_
                  refine lg_iload_n hG dX3_item_78 rfl ?_
                  refine lg_iadd hG dX3_item_79 (nI_add _ _) ?_
                  refine ms_ldC hG hM dX3_item_80 rfl (by first | assumption | omega) rfl hy ?_
                  refine lg_iret hG dX3_item_81 (Nat.le_of_ble_eq_true rfl) (Nat.le_of_ble_eq_true rfl) ?_
                  exact ⟨trivial, hp _ hM⟩
                · skip
                  have e1 : i = 0 := (nI_eq (b := 0) (by omega) (by decide)).mp h_53
                  rw [if_pos e1] at hp
                  refine lg_aload_n hG dX3_item_56 rfl ?_
                  refine ms_get hG hM dX3_item_57 rfl rfl ?_
                  refine lg_bipush hG dX3_item_60 (x := (96)) (by decide) ?_
                  refine lg_iload_n hG dX3_item_62 rfl ?_
                  refine lg_imul hG dX3_item_63 (mk96 _) ?_
                  refine lg_iload_n hG dX3_item_64 rfl ?_
                  refine lg_iadd hG dX3_item_65 (nI_add _ _) ?_
                  refine ms_ldW hG hM dX3_item_66 rfl (by first | assumption | omega) rfl hy ?_
                  refine lg_goto hG dX3_item_67 (tgt := 81) (by decide) (by decide) ?_
                  refine lg_iret hG dX3_item_81 (Nat.le_of_ble_eq_true rfl) (Nat.le_of_ble_eq_true rfl) ?_
                  exact ⟨trivial, hp _ hM⟩
              · skip
                exact absurd (by decide) h_47 --END
            · skip
              have hpx := hpx (by rintro ⟨k, h, rfl⟩; exact h_32 (nI_lt h (by omega)))
              refine lg_iconst hG dX3_item_35 (x := 2) (by decide) ?_
              refine lg_goto hG dX3_item_36 (tgt := 40) (by decide) (by decide) ?_
              refine ms_put hG hM dX3_item_40 rfl (by first | trivial | exact Or.inl rfl | exact Or.inr rfl | assumption) (by decide) (t' := _) (g' := g) rfl (fun L hM => ?_)
              refine lg_aload_n hG dX3_item_43 rfl ?_
              refine ms_get hG hM dX3_item_44 rfl rfl ?_
              refine lg_if_le hG dX3_item_47 (tgt := 52) (by decide) (by decide) (fun h_47 => ?_) (fun h_47 => ?_)
              · skip
                exact absurd h_47 (by decide) --END
              · skip
                refine lg_iconst hG dX3_item_50 (x := 0) (by decide) ?_
                refine lg_iret hG dX3_item_51 (Nat.le_of_ble_eq_true rfl) (Nat.le_of_ble_eq_true rfl) ?_
                exact ⟨trivial, hpx _ hM⟩
        · skip
          have hpx := hpx (by rintro ⟨q1, i1, c1, c2, c3⟩; subst c3; exact h_14 (nI_le (b := 1) (by omega) (by decide)))
          refine lg_iconst hG dX3_item_17 (x := 1) (by decide) ?_
          refine lg_goto hG dX3_item_18 (tgt := 40) (by decide) (by decide) ?_
          refine ms_put hG hM dX3_item_40 rfl (by first | trivial | exact Or.inl rfl | exact Or.inr rfl | assumption) (by decide) (t' := _) (g' := g) rfl (fun L hM => ?_)
          refine lg_aload_n hG dX3_item_43 rfl ?_
          refine ms_get hG hM dX3_item_44 rfl rfl ?_
          refine lg_if_le hG dX3_item_47 (tgt := 52) (by decide) (by decide) (fun h_47 => ?_) (fun h_47 => ?_)
          · skip
            exact absurd h_47 (by decide) --END
          · skip
            refine lg_iconst hG dX3_item_50 (x := 0) (by decide) ?_
            refine lg_iret hG dX3_item_51 (Nat.le_of_ble_eq_true rfl) (Nat.le_of_ble_eq_true rfl) ?_
            exact ⟨trivial, hpx _ hM⟩
  · intro hno
    have hpx := hpx (by rintro ⟨q1, i1, c1, -⟩; exact hno q1 c1.1 c1.2)
    refine lg_if_ne hG dX3_item_5 (tgt := 17) (by decide) (by decide) (fun h_5 => ?_) (fun h_5 => ?_)
    · skip
      refine lg_iconst hG dX3_item_17 (x := 1) (by decide) ?_
      refine lg_goto hG dX3_item_18 (tgt := 40) (by decide) (by decide) ?_
      refine ms_put hG hM dX3_item_40 rfl (by first | trivial | exact Or.inl rfl | exact Or.inr rfl | assumption) (by decide) (t' := _) (g' := g) rfl (fun L hM => ?_)
      refine lg_aload_n hG dX3_item_43 rfl ?_
      refine ms_get hG hM dX3_item_44 rfl rfl ?_
      refine lg_if_le hG dX3_item_47 (tgt := 52) (by decide) (by decide) (fun h_47 => ?_) (fun h_47 => ?_)
      · skip
        exact absurd h_47 (by decide) --END
      · skip
        refine lg_iconst hG dX3_item_50 (x := 0) (by decide) ?_
        refine lg_iret hG dX3_item_51 (Nat.le_of_ble_eq_true rfl) (Nat.le_of_ble_eq_true rfl) ?_
        exact ⟨trivial, hpx _ hM⟩
    · skip
      exact absurd h_5 (by decide) --END

def alf (i : Nat) (x : Qs) : Int32 := if i = 3 then q2 x else if i = 4 then q1 x else 0
theorem al_z {i k : Nat} {Q : Nat → Qs} (h3 : ¬ i = 3) (h4 : ¬ i = 4) : sumI (fun q => alf i (Q q)) k + 0 = sumI (fun q => alf i (Q q)) (k + 1) := by
  show _ = _ + alf i (Q k)
  unfold alf
  rw [if_neg h3, if_neg h4]
def rm_X3_all : Room := { frames := 2, cells := 0, slots := 0, locals := 44 }
theorem ld_X3_all : yX3_all.cls ≠ "java/lang/invoke/MethodHandle" ∧ yX3_all.cls ≠ "java/lang/invoke/VarHandle" ∧ (parseMethodDescriptor yX3_all.desc).map (fun d => d.parameters.length) = some 1 := by decide +kernel
def sp_X3_all (ids : Nat → ClassId) : lm_S := fun As n L post postX => ∃ Q R g t L0 a K, MS ids n Q R g t L0 L ∧ As = [.ref 47, .int a] ∧ INV K (Q, R, g) ∧ (∀ i, okN 7 a i → ∀ L1, MS ids n Q R g 0 L0 L1 → post (some (.int (allv (Q, R, g) i))) n L1) ∧ ((¬ ∃ i, okN 7 a i) → ∀ L1, MS ids n Q R g 1 L0 L1 → post (some (.int 0)) n L1)
def cv_X3_all (ids : Nat → ClassId) : Nat → Option lm_C := fun j => match j with
  | 73 => some (1, 3, sp_X3_keptInAll ids, 0, 0)
  | 88 => some (1, 3, sp_X3_free ids, 0, 0)
  | 97 => some (1, 3, sp_X3_open ids, 0, 0)
  | _ => none
set_option maxHeartbeats 4000000 in
set_option maxRecDepth 20000 in
theorem ok_X3_all (l : Launch) (D : va_G) (ids : Nat → ClassId) (B b : Nat) : lm_M l D (lm_ty ids) B b false yX3_all cX3_all 4 (some .int) rm_X3_all 0 0 (sp_X3_all ids) := by
  refine lm_method (own := RX3) (fld := lf_3) (cv := (cv_X3_all ids)) (cs := (fun _ => none)) (ci := (fun _ => none)) (kon := (fun _ => none)) (thr := (fun _ => none)) (nw := (fun _ => none)) (ini := false) (cp := none) (alc := false) (by decide +kernel) rfl rfl rfl (lf_3_ok _) ⟨?_, ?_⟩ ?_ (fun h => by cases h) (lm_aok0 _ _ _ _ _ _ _ _) ?_ ?_
  · intro j f hf
    unfold cv_X3_all at hf
    split at hf
    · cases hf; exact ⟨yX3_keptInAll, cX3_keptInAll, 3, (some .int), rm_X3_keptInAll, RX3, TX3, 22, 0, rfl, rfl, ok_X3_keptInAll l D ids B b, lw_3_keptInAll, ll_3_73, rfl, rfl, ⟨rfl, ld_X3_keptInAll⟩, by decide⟩
    · cases hf; exact ⟨yX3_free, cX3_free, 3, (some .int), rm_X3_free, RX3, TX3, 22, 0, rfl, rfl, ok_X3_free l D ids B b, lw_3_free, ll_3_88, rfl, rfl, ⟨rfl, ld_X3_free⟩, by decide⟩
    · cases hf; exact ⟨yX3_open, cX3_open, 3, (some .int), rm_X3_open, RX3, TX3, 22, 0, rfl, rfl, ok_X3_open l D ids B b, lw_3_open, ll_3_97, rfl, rfl, ⟨rfl, ld_X3_open⟩, by decide⟩
    · cases hf
  · intro j f hf
    cases hf
  · intro j v hv; cases hv
  · exact Or.inl fun _ => rfl
  rintro As n L post postX ⟨Q, R, g, t, L0, a, K, hM, rfl, hI, hp, hpx⟩
  refine ⟨by simp [Value.category], (Nat.le_of_ble_eq_true rfl), lm_cl_of ?_⟩
  intro G hG
  refine lg_aload_n hG dX3_all_0 rfl ?_
  refine lg_iload_n hG dX3_all_1 rfl ?_
  refine lg_if_lt hG dX3_all_2 (tgt := 11) (by decide) (by decide) (fun h_2 => ?_) (fun h_2 => ?_)
  · skip
    have hpx := hpx (by rintro ⟨i1, c1, c2⟩; subst c2; exact nI_pos (by omega) h_2)
    refine lg_iconst hG dX3_all_11 (x := 1) (by decide) ?_
    refine lg_goto hG dX3_all_12 (tgt := 16) (by decide) (by decide) ?_
    refine ms_put hG hM dX3_all_16 rfl (by first | trivial | exact Or.inl rfl | exact Or.inr rfl | assumption) (by decide) (t' := _) (g' := g) rfl (fun L hM => ?_)
    refine lg_aload_n hG dX3_all_19 rfl ?_
    refine ms_get hG hM dX3_all_20 rfl rfl ?_
    refine lg_if_le hG dX3_all_23 (tgt := 28) (by decide) (by decide) (fun h_23 => ?_) (fun h_23 => ?_)
    · skip
      exact absurd h_23 (by decide) --END
    · skip
      refine lg_iconst hG dX3_all_26 (x := 0) (by decide) ?_
      refine lg_iret hG dX3_all_27 (Nat.le_of_ble_eq_true rfl) (Nat.le_of_ble_eq_true rfl) ?_
      exact ⟨trivial, hpx _ hM⟩
  · skip
    refine lg_iload_n hG dX3_all_5 rfl ?_
    refine lg_bipush hG dX3_all_6 (x := (6)) (by decide) ?_
    refine lg_icmp_le hG dX3_all_8 (tgt := 15) (by decide) (by decide) (fun h_8 => ?_) (fun h_8 => ?_)
    · skip
      obtain ⟨i, hi, rfl⟩ := ck_of (N := 6) rfl (by decide) h_2 h_8
      have hp := hp i ⟨by omega, rfl⟩
      refine lg_iconst hG dX3_all_15 (x := 0) (by decide) ?_
      refine ms_put hG hM dX3_all_16 rfl (by first | trivial | exact Or.inl rfl | exact Or.inr rfl | assumption) (by decide) (t' := _) (g' := g) rfl (fun L hM => ?_)
      refine lg_aload_n hG dX3_all_19 rfl ?_
      refine ms_get hG hM dX3_all_20 rfl rfl ?_
      refine lg_if_le hG dX3_all_23 (tgt := 28) (by decide) (by decide) (fun h_23 => ?_) (fun h_23 => ?_)
      · skip
        refine lg_iconst hG dX3_all_28 (x := 0) (by decide) ?_
        refine lg_istore_n hG dX3_all_29 (Nat.le_of_ble_eq_true rfl) rfl ?_
        refine lg_iconst hG dX3_all_30 (x := 0) (by decide) ?_
        refine lg_istore_n hG dX3_all_31 (Nat.le_of_ble_eq_true rfl) rfl ?_
        have loop : ∀ (m k : Nat), k ≤ 12 → 12 - k < m → G 32 [some (.ref 47), some (.int (nI i)), some (.int (sumI (fun q => alf i (Q q)) k)), some (.int (nI k))] [] n L 0 0 := by
          intro m
          induction m with
          | zero => intro k h1 h2; omega
          | succ m ih =>
            intro k hk hkm
            refine lg_iload_n hG dX3_all_32 rfl ?_
            refine lg_bipush hG dX3_all_33 (x := (12)) (by decide) ?_
            refine lg_icmp_ge hG dX3_all_35 (tgt := 76) (by decide) (by decide) (fun h_35 => ?_) (fun h_35 => ?_)
            · skip
              have hkl : k = 12 := by
                rcases Nat.lt_or_ge k 12 with h | h
                · exact absurd (nI_lt h (by omega)) h_35
                · omega
              subst hkl
              refine lg_iload_n hG dX3_all_76 rfl ?_
              refine lg_if_ne hG dX3_all_77 (tgt := 87) (by decide) (by decide) (fun h_77 => ?_) (fun h_77 => ?_)
              · skip
                have n0 : ¬ i = 0 := fun h => h_77 (by rw [h]; rfl)
                refine lg_iload_n hG dX3_all_87 rfl ?_
                refine lg_iconst hG dX3_all_88 (x := 1) (by decide) ?_
                refine lg_icmp_ne hG dX3_all_89 (tgt := 99) (by decide) (by decide) (fun h_89 => ?_) (fun h_89 => ?_)
                · skip
                  have n1 : ¬ i = 1 := fun h => h_89 (by rw [h]; rfl)
                  refine lg_iload_n hG dX3_all_99 rfl ?_
                  refine lg_iconst hG dX3_all_100 (x := 2) (by decide) ?_
                  refine lg_icmp_ne hG dX3_all_101 (tgt := 111) (by decide) (by decide) (fun h_101 => ?_) (fun h_101 => ?_)
                  · skip
                    have n2 : ¬ i = 2 := fun h => h_101 (by rw [h]; rfl)
                    refine lg_iload_n hG dX3_all_111 rfl ?_
                    refine lg_iconst hG dX3_all_112 (x := 5) (by decide) ?_
                    refine lg_icmp_ge hG dX3_all_113 (tgt := 120) (by decide) (by decide) (fun h_113 => ?_) (fun h_113 => ?_)
                    · skip
                      have n5 : 5 ≤ i := by
                        rcases Nat.lt_or_ge i 5 with h | h
                        · exact absurd (nI_lt (b := 5) h (by decide)) h_113
                        · exact h
                      refine lg_iload_n hG dX3_all_120 rfl ?_
                      refine lg_iconst hG dX3_all_121 (x := 5) (by decide) ?_
                      refine lg_icmp_ne hG dX3_all_122 (tgt := 132) (by decide) (by decide) (fun h_122 => ?_) (fun h_122 => ?_)
                      · skip
                        have n6 : i = 6 := by
                          have : ¬ i = 5 := fun h => h_122 (by rw [h]; rfl)
                          omega
                        subst n6
                        refine lg_aload_n hG dX3_all_132 rfl ?_
                        refine ms_get hG hM dX3_all_133 rfl rfl ?_
                        refine lg_iret hG dX3_all_136 (Nat.le_of_ble_eq_true rfl) (Nat.le_of_ble_eq_true rfl) ?_
                        exact ⟨trivial, hp _ hM⟩
                      · skip
                        have n6 : i = 5 := (nI_eq (b := 5) (by omega) (by decide)).mp h_122
                        subst n6
                        refine lg_aload_n hG dX3_all_125 rfl ?_
                        refine ms_get hG hM dX3_all_126 rfl rfl ?_
                        refine lg_goto hG dX3_all_129 (tgt := 136) (by decide) (by decide) ?_
                        refine lg_iret hG dX3_all_136 (Nat.le_of_ble_eq_true rfl) (Nat.le_of_ble_eq_true rfl) ?_
                        exact ⟨trivial, hp _ hM⟩
                    · skip
                      have n5 : i < 5 := (nI_ltI (b := 5) (by omega) (by decide)).mp h_113
                      have e9 : allv (Q, R, g) i = sumI (fun q => alf i (Q q)) 12 := by
                        rcases (by omega : i = 3 ∨ i = 4) with rfl | rfl
                        · exact hI.2.2.2.2.1
                        · exact hI.2.2.2.2.2
                      rw [e9] at hp
                      refine lg_iload_n hG dX3_all_116 rfl ?_
                      refine lg_goto hG dX3_all_117 (tgt := 136) (by decide) (by decide) ?_
                      refine lg_iret hG dX3_all_136 (Nat.le_of_ble_eq_true rfl) (Nat.le_of_ble_eq_true rfl) ?_
                      exact ⟨trivial, hp _ hM⟩
                  · skip
                    have n2 : i = 2 := (nI_eq (b := 2) (by omega) (by decide)).mp h_101
                    subst n2
                    refine lg_aload_n hG dX3_all_104 rfl ?_
                    refine ms_call hG hM dX3_all_105 rfl (fun P h => h) (Nat.le_of_ble_eq_true rfl) (Nat.le_of_ble_eq_true rfl) (Nat.le_of_ble_eq_true rfl) ?_
                    refine ⟨Q, R, g, _, L0, hM, rfl, ?_⟩
                    refine lg_goto hG dX3_all_108 (tgt := 136) (by decide) (by decide) ?_
                    refine lg_iret hG dX3_all_136 (Nat.le_of_ble_eq_true rfl) (Nat.le_of_ble_eq_true rfl) ?_
                    exact ⟨trivial, hp _ hM⟩
                · skip
                  have n1 : i = 1 := (nI_eq (b := 1) (by omega) (by decide)).mp h_89
                  subst n1
                  refine lg_aload_n hG dX3_all_92 rfl ?_
                  refine ms_call hG hM dX3_all_93 rfl (fun P h => h) (Nat.le_of_ble_eq_true rfl) (Nat.le_of_ble_eq_true rfl) (Nat.le_of_ble_eq_true rfl) ?_
                  refine ⟨Q, R, g, _, L0, hM, rfl, hI.kp, ?_⟩
                  refine lg_goto hG dX3_all_96 (tgt := 136) (by decide) (by decide) ?_
                  refine lg_iret hG dX3_all_136 (Nat.le_of_ble_eq_true rfl) (Nat.le_of_ble_eq_true rfl) ?_
                  exact ⟨trivial, hp _ hM⟩
              · skip
                have n0 : i = 0 := (nI_eq (b := 0) (by omega) (by decide)).mp h_77
                subst n0
                refine lg_aload_n hG dX3_all_80 rfl ?_
                refine ms_call hG hM dX3_all_81 rfl (fun P h => h) (Nat.le_of_ble_eq_true rfl) (Nat.le_of_ble_eq_true rfl) (Nat.le_of_ble_eq_true rfl) ?_
                refine ⟨Q, R, g, _, L0, hM, rfl, ?_⟩
                refine lg_goto hG dX3_all_84 (tgt := 136) (by decide) (by decide) ?_
                refine lg_iret hG dX3_all_136 (Nat.le_of_ble_eq_true rfl) (Nat.le_of_ble_eq_true rfl) ?_
                exact ⟨trivial, hp _ hM⟩
            · skip
              have hkl : k < 12 := (nI_ltI (by omega) (by omega)).mp h_35
              refine lg_iload_n hG dX3_all_38 rfl ?_
              refine lg_iload_n hG dX3_all_39 rfl ?_
              refine lg_iconst hG dX3_all_40 (x := 3) (by decide) ?_
              refine lg_icmp_ne hG dX3_all_41 (tgt := 53) (by decide) (by decide) (fun h_41 => ?_) (fun h_41 => ?_)
              · skip
                have e3 : ¬ i = 3 := fun h => h_41 (by rw [h]; rfl)
                refine lg_iload_n hG dX3_all_53 rfl ?_
                refine lg_iconst hG dX3_all_54 (x := 4) (by decide) ?_
                refine lg_icmp_ne hG dX3_all_55 (tgt := 67) (by decide) (by decide) (fun h_55 => ?_) (fun h_55 => ?_)
                · skip
                  have e4 : ¬ i = 4 := fun h => h_55 (by rw [h]; rfl)
                  refine lg_iconst hG dX3_all_67 (x := 0) (by decide) ?_
                  refine lg_iadd hG dX3_all_68 (show sumI (fun q => alf i (Q q)) k + _ = sumI (fun q => alf i (Q q)) (k + 1) by first | (subst e3; rfl) | (subst e4; rfl) | exact al_z e3 e4) ?_
                  refine lg_istore_n hG dX3_all_69 (Nat.le_of_ble_eq_true rfl) rfl ?_
                  refine lg_iinc hG dX3_all_70 (Nat.le_of_ble_eq_true rfl) rfl rfl rfl ?_
                  refine lg_goto hG dX3_all_73 (tgt := 32) (by decide) (by decide) ?_
                  rw [show nI k + Int32.ofInt 1 = nI (k + 1) from nI_1 k]
                  exact ih (k + 1) (by omega) (by omega)
                · skip
                  have e4 : i = 4 := (nI_eq (b := 4) (by omega) (by decide)).mp h_55
                  refine lg_aload_n hG dX3_all_58 rfl ?_
                  refine ms_get hG hM dX3_all_59 rfl rfl ?_
                  refine lg_iload_n hG dX3_all_62 rfl ?_
                  refine ms_ld hG hM dX3_all_63 (by decide) rfl rfl (by first | assumption | omega) rfl rfl ?_
                  refine lg_goto hG dX3_all_64 (tgt := 68) (by decide) (by decide) ?_
                  refine lg_iadd hG dX3_all_68 (show sumI (fun q => alf i (Q q)) k + _ = sumI (fun q => alf i (Q q)) (k + 1) by first | (subst e3; rfl) | (subst e4; rfl) | exact al_z e3 e4) ?_
                  refine lg_istore_n hG dX3_all_69 (Nat.le_of_ble_eq_true rfl) rfl ?_
                  refine lg_iinc hG dX3_all_70 (Nat.le_of_ble_eq_true rfl) rfl rfl rfl ?_
                  refine lg_goto hG dX3_all_73 (tgt := 32) (by decide) (by decide) ?_
                  rw [show nI k + Int32.ofInt 1 = nI (k + 1) from nI_1 k]
                  exact ih (k + 1) (by omega) (by omega)
              · skip
                have e3 : i = 3 := (nI_eq (b := 3) (by omega) (by decide)).mp h_41
                refine lg_aload_n hG dX3_all_44 rfl ?_
                refine ms_get hG hM dX3_all_45 rfl rfl ?_
                refine lg_iload_n hG dX3_all_48 rfl ?_
                refine ms_ld hG hM dX3_all_49 (by decide) rfl rfl (by first | assumption | omega) rfl rfl ?_
                refine lg_goto hG dX3_all_50 (tgt := 68) (by decide) (by decide) ?_
                refine lg_iadd hG dX3_all_68 (show sumI (fun q => alf i (Q q)) k + _ = sumI (fun q => alf i (Q q)) (k + 1) by first | (subst e3; rfl) | (subst e4; rfl) | exact al_z e3 e4) ?_
                refine lg_istore_n hG dX3_all_69 (Nat.le_of_ble_eq_true rfl) rfl ?_
                refine lg_iinc hG dX3_all_70 (Nat.le_of_ble_eq_true rfl) rfl rfl rfl ?_
                refine lg_goto hG dX3_all_73 (tgt := 32) (by decide) (by decide) ?_
                rw [show nI k + Int32.ofInt 1 = nI (k + 1) from nI_1 k]
                exact ih (k + 1) (by omega) (by omega)
        exact loop 13 0 (by omega) (by omega)
      · skip
        exact absurd (by decide) h_23 --END
    · skip
      have hpx := hpx (by rintro ⟨i1, c1, c2⟩; subst c2; exact h_8 (nI_le (b := 6) (by omega) (by decide)))
      refine lg_iconst hG dX3_all_11 (x := 1) (by decide) ?_
      refine lg_goto hG dX3_all_12 (tgt := 16) (by decide) (by decide) ?_
      refine ms_put hG hM dX3_all_16 rfl (by first | trivial | exact Or.inl rfl | exact Or.inr rfl | assumption) (by decide) (t' := _) (g' := g) rfl (fun L hM => ?_)
      refine lg_aload_n hG dX3_all_19 rfl ?_
      refine ms_get hG hM dX3_all_20 rfl rfl ?_
      refine lg_if_le hG dX3_all_23 (tgt := 28) (by decide) (by decide) (fun h_23 => ?_) (fun h_23 => ?_)
      · skip
        exact absurd h_23 (by decide) --END
      · skip
        refine lg_iconst hG dX3_all_26 (x := 0) (by decide) ?_
        refine lg_iret hG dX3_all_27 (Nat.le_of_ble_eq_true rfl) (Nat.le_of_ble_eq_true rfl) ?_
        exact ⟨trivial, hpx _ hM⟩

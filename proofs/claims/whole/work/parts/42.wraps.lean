def OUT (ids : Nat → ClassId) (n : Nat) (L : lm_L) : Prop := 67 ≤ n ∧ ∃ f, L 66 = .inl (ids 2, 1, .inr (.inl f))
/-- behind a call of the class: its new state, the answer in 'out' -/
def WL (ids : Nat → ClassId) (n : Nat) (σ : St) (x : Int32) (L L2 : lm_L) : Prop := CW ids n σ.1 σ.2.1 σ.2.2 L2 L2 ∧ (∀ k, 47 ≤ k → k ≠ 66 → L2 k = L k) ∧ ∃ f, L2 66 = .inl (ids 2, 1, .inr (.inl f)) ∧ f 0 = x.toInt64
theorem CW.cg {ids : Nat → ClassId} {n : Nat} {Q : Nat → Qs} {R : Nat → List Nat} {g : Nat → Int32} {L0 L L2 : lm_L} (h : CW ids n Q R g L0 L) (hk : ∀ k, k < 47 → L2 k = L k) : CW ids n Q R g L2 L2 := by
  obtain ⟨h0, h1, h2, h3, h4, h5, h6⟩ := h
  refine ⟨h0, ?_, ?_, ?_, ?_, ?_, fun _ _ => rfl⟩
  · rw [hk 0 (by omega)]; exact h1
  · rw [hk 1 (by omega)]; exact h2
  · rw [hk 2 (by omega)]; exact h3
  · intro q hq
    exact (h4 q hq).cg (hk _ (by omega)) (hk _ (by omega)) (hk _ (by omega))
  · intro c hc
    exact (h5 c hc).cg (hk _ (by omega)) (hk _ (by omega))
theorem WL_of {ids : Nat → ClassId} {n : Nat} {σ : St} {x : Int32} {L L1 : lm_L} {f : Nat → Int64} (hC : CS ids n σ L L1) : WL ids n σ x L (va_up L1 66 (.inl (ids 2, 1, .inr (.inl (vp_updL f (0 : Int32).toNatClampNeg x.toInt64))))) := by
  refine ⟨CW.cg (show CW ids n σ.1 σ.2.1 σ.2.2 L L1 from hC) (fun k hk => va_up_ne _ _ (by omega)), fun k h1 h2 => ?_, _, va_up_self _ _ _, rfl⟩
  rw [va_up_ne _ _ h2]
  exact hC.2.2.2.2.2.2 k h1
theorem WN_of {ids : Nat → ClassId} {n : Nat} {σ : St} {L L1 : lm_L} (hC : CS ids n σ L L1) : CW ids n σ.1 σ.2.1 σ.2.2 L1 L1 ∧ ∀ k, 47 ≤ k → L1 k = L k :=
  ⟨CW.cg (show CW ids n σ.1 σ.2.1 σ.2.2 L L1 from hC) (fun _ _ => rfl), fun k hk => hC.2.2.2.2.2.2 k hk⟩
def rm_L_quota : Room := { frames := 8, cells := 4, slots := 24, locals := 129 }
theorem ld_L_quota : yL_quota.cls ≠ "java/lang/invoke/MethodHandle" ∧ yL_quota.cls ≠ "java/lang/invoke/VarHandle" ∧ (parseMethodDescriptor yL_quota.desc).map (fun d => d.parameters.length) = some 5 := by decide +kernel
def hh_L_quota : List (Nat × Nat × Nat × Nat) := [(0, 12, 15, 13)]
def ct_L_quota : Nat → String → Option Nat := fun pc en => if pc = 7 then (if en = lm_iae then some 15 else none) else none
theorem ct_L_quota_1 : ct_L_quota 7 lm_iae = some 15 := by unfold ct_L_quota; rw [if_pos rfl, if_pos rfl]
theorem cto_L_quota : lm_cto RL hh_L_quota ct_L_quota := by
  intro pc en h hc
  unfold ct_L_quota at hc
  split at hc
  · rename_i hpc
    subst hpc
    split at hc
    · rename_i he
      subst he
      cases hc
      exact ⟨[], ⟨0, 12, 15, 13⟩, [], rfl, rfl, by decide, by decide, lm_wt 239 rfl rfl, by decide, (fun z hz => by cases hz)⟩
    · cases hc
  · cases hc
def sp_L_quota (ids : Nat → ClassId) : lm_S := fun As n L post _ => ∃ Q R g K z a b, CW ids n Q R g L L ∧ OUT ids n L ∧ As = [.ref 0, .int z, .int a, .int b, .ref 66] ∧ INV K (Q, R, g) ∧ (∀ q i j, okQ Q z a b q i j → ∀ L2, WL ids n (quS (Q, R, g) q i j) (nI (sumN (fun q => qp (Q q)) 12 - qp (Q q) + j)) L L2 → post (some (.int 0)) n L2) ∧ ((¬ ∃ q i j, okQ Q z a b q i j) → post (some (.int 1)) n L)
def cv_L_quota (ids : Nat → ClassId) : Nat → Option lm_C := fun j => match j with
  | 7 => some (4, 2, sp_X2_quota ids, 4, 24)
  | _ => none
set_option maxRecDepth 100000 in
theorem ll_8_7 : Cond.methodLink RL 7 yX2_quota ∈ lm_WT := lm_wt 240 rfl rfl
set_option maxHeartbeats 4000000 in
set_option maxRecDepth 20000 in
theorem ok_L_quota (l : Launch) (D : va_G) (ids : Nat → ClassId) (B b : Nat) (hlt : l.stackTraces = false) : lm_MW l D (lm_ty ids) B b false yL_quota cL_quota 6 (some .int) hh_L_quota rm_L_quota 4 24 (sp_L_quota ids) := by
  refine lm_methodW (own := RL) (cv := cv_L_quota ids) (ct := ct_L_quota) (by decide +kernel) rfl rfl rfl ⟨?_, ?_⟩ cto_L_quota ?_
  · intro j f hf
    unfold cv_L_quota at hf
    split at hf
    · cases hf; exact ⟨yX2_quota, cX2_quota, 6, (some .int), rm_X2_quota, RX2, TX2, 7, 3, rfl, rfl, ok_X2_quota l D ids B b hlt, lw_2_quota, ll_8_7, rfl, rfl, ⟨rfl, ld_X2_quota⟩, by decide⟩
    · cases hf
  · intro j f hf; cases hf
  rintro As n L post postX ⟨Q, R, g, K, z, a, b, hC, hO, rfl, hI, hp, hpx⟩
  refine ⟨by simp [Value.category], (Nat.le_of_ble_eq_true rfl), lm_cl_of ?_⟩
  intro G hG
  obtain ⟨hn67, f0, h66⟩ := hO
  refine lg_aload hG dL_quota_0 rfl ?_
  refine lg_iconst hG dL_quota_2 (x := 0) (by decide) ?_
  refine lg_aload_n hG dL_quota_3 rfl ?_
  refine lg_iload_n hG dL_quota_4 rfl ?_
  refine lg_iload_n hG dL_quota_5 rfl ?_
  refine lg_iload_n hG dL_quota_6 rfl ?_
  refine cg_callO hG hC dL_quota_7 rfl (fun P h => h) (Nat.le_of_ble_eq_true rfl) (Nat.le_of_ble_eq_true rfl) (Nat.le_of_ble_eq_true rfl) ?_
  refine ⟨Q, R, g, L, z, a, b, K, hC, rfl, hI, ?_, ?_⟩
  · intro q i j hok L1 hC1
    have hp := hp q i j hok
    refine lg_i2l hG dL_quota_10 ?_
    refine lg_last hG dL_quota_11 (by first | assumption | omega) (show L1 66 = .inl (ids 2, 1, .inr (.inl f0)) by rw [hC1.2.2.2.2.2.2 66 (by omega)]; exact h66) (vp_in_nI (n := 0) (by decide) (by decide)) ?_
    refine lg_goto hG dL_quota_12 (tgt := 19) (by decide) (by decide) ?_
    refine lg_iconst hG dL_quota_19 (x := 0) (by decide) ?_
    refine lg_iret hG dL_quota_20 (Nat.le_of_ble_eq_true rfl) (Nat.le_of_ble_eq_true rfl) ?_
    exact ⟨trivial, hp _ (WL_of hC1)⟩
  · intro hno
    have hp := hpx hno
    show (match ct_L_quota 7 lm_iae with
      | some h => ∀ k : Nat, G h _ [.retAddr k] n L _ _
      | none => False)
    rw [ct_L_quota_1]
    intro k9
    refine lg_astoreR hG dL_quota_15 (Nat.le_of_ble_eq_true rfl) rfl ?_
    refine lg_iconst hG dL_quota_17 (x := 1) (by decide) ?_
    refine lg_iret hG dL_quota_18 (Nat.le_of_ble_eq_true rfl) (Nat.le_of_ble_eq_true rfl) ?_
    exact ⟨trivial, hp⟩

def rm_L_kind : Room := { frames := 8, cells := 3, slots := 18, locals := 128 }
theorem ld_L_kind : yL_kind.cls ≠ "java/lang/invoke/MethodHandle" ∧ yL_kind.cls ≠ "java/lang/invoke/VarHandle" ∧ (parseMethodDescriptor yL_kind.desc).map (fun d => d.parameters.length) = some 4 := by decide +kernel
def hh_L_kind : List (Nat × Nat × Nat × Nat) := [(0, 7, 10, 13)]
def ct_L_kind : Nat → String → Option Nat := fun pc en => if pc = 4 then (if en = lm_iae then some 10 else none) else none
theorem ct_L_kind_1 : ct_L_kind 4 lm_iae = some 10 := by unfold ct_L_kind; rw [if_pos rfl, if_pos rfl]
theorem cto_L_kind : lm_cto RL hh_L_kind ct_L_kind := by
  intro pc en h hc
  unfold ct_L_kind at hc
  split at hc
  · rename_i hpc
    subst hpc
    split at hc
    · rename_i he
      subst he
      cases hc
      exact ⟨[], ⟨0, 7, 10, 13⟩, [], rfl, rfl, by decide, by decide, lm_wt 239 rfl rfl, by decide, (fun z hz => by cases hz)⟩
    · cases hc
  · cases hc
def sp_L_kind (ids : Nat → ClassId) : lm_S := fun As n L post _ => ∃ Q R g K z a b, CW ids n Q R g L L ∧ OUT ids n L ∧ As = [.ref 0, .int z, .int a, .int b] ∧ INV K (Q, R, g) ∧ (∀ q j u, okK z a b q j u → ∀ L2, CW ids n (kdS (Q, R, g) q j u).1 (kdS (Q, R, g) q j u).2.1 (kdS (Q, R, g) q j u).2.2 L2 L2 ∧ (∀ k, 47 ≤ k → L2 k = L k) → post (some (.int 0)) n L2) ∧ ((¬ ∃ q j u, okK z a b q j u) → post (some (.int 1)) n L)
def cv_L_kind (ids : Nat → ClassId) : Nat → Option lm_C := fun j => match j with
  | 15 => some (4, 2, sp_X2_kind ids, 3, 18)
  | _ => none
set_option maxRecDepth 100000 in
theorem ll_8_15 : Cond.methodLink RL 15 yX2_kind ∈ lm_WT := lm_wt 326 rfl rfl
set_option maxHeartbeats 4000000 in
set_option maxRecDepth 20000 in
theorem ok_L_kind (l : Launch) (D : va_G) (ids : Nat → ClassId) (B b : Nat) (hlt : l.stackTraces = false) : lm_MW l D (lm_ty ids) B b false yL_kind cL_kind 5 (some .int) hh_L_kind rm_L_kind 3 18 (sp_L_kind ids) := by
  refine lm_methodW (own := RL) (cv := cv_L_kind ids) (ct := ct_L_kind) (by decide +kernel) rfl rfl rfl ⟨?_, ?_⟩ cto_L_kind ?_
  · intro j f hf
    unfold cv_L_kind at hf
    split at hf
    · cases hf; exact ⟨yX2_kind, cX2_kind, 5, none, rm_X2_kind, RX2, TX2, 7, 3, rfl, rfl, ok_X2_kind l D ids B b hlt, lw_2_kind, ll_8_15, rfl, rfl, ⟨rfl, ld_X2_kind⟩, by decide⟩
    · cases hf
  · intro j f hf; cases hf
  rintro As n L post postX ⟨Q, R, g, K, z, a, b, hC, hO, rfl, hI, hp, hpx⟩
  refine ⟨by simp [Value.category], (Nat.le_of_ble_eq_true rfl), lm_cl_of ?_⟩
  intro G hG
  obtain ⟨hn67, f0, h66⟩ := hO
  refine lg_aload_n hG dL_kind_0 rfl ?_
  refine lg_iload_n hG dL_kind_1 rfl ?_
  refine lg_iload_n hG dL_kind_2 rfl ?_
  refine lg_iload_n hG dL_kind_3 rfl ?_
  refine cg_callO hG hC dL_kind_4 rfl (fun P h => h) (Nat.le_of_ble_eq_true rfl) (Nat.le_of_ble_eq_true rfl) (Nat.le_of_ble_eq_true rfl) ?_
  refine ⟨Q, R, g, L, z, a, b, K, hC, rfl, hI, ?_, ?_⟩
  · intro q j u hok L1 hC1
    have hp := hp q j u hok
    refine lg_goto hG dL_kind_7 (tgt := 14) (by decide) (by decide) ?_
    refine lg_iconst hG dL_kind_14 (x := 0) (by decide) ?_
    refine lg_iret hG dL_kind_15 (Nat.le_of_ble_eq_true rfl) (Nat.le_of_ble_eq_true rfl) ?_
    exact ⟨trivial, hp _ (WN_of hC1)⟩
  · intro hno
    have hp := hpx hno
    show (match ct_L_kind 4 lm_iae with
      | some h => ∀ k : Nat, G h _ [.retAddr k] n L _ _
      | none => False)
    rw [ct_L_kind_1]
    intro k9
    refine lg_astoreR hG dL_kind_10 (Nat.le_of_ble_eq_true rfl) rfl ?_
    refine lg_iconst hG dL_kind_12 (x := 1) (by decide) ?_
    refine lg_iret hG dL_kind_13 (Nat.le_of_ble_eq_true rfl) (Nat.le_of_ble_eq_true rfl) ?_
    exact ⟨trivial, hp⟩

def rm_L_push : Room := { frames := 8, cells := 2, slots := 12, locals := 131 }
theorem ld_L_push : yL_push.cls ≠ "java/lang/invoke/MethodHandle" ∧ yL_push.cls ≠ "java/lang/invoke/VarHandle" ∧ (parseMethodDescriptor yL_push.desc).map (fun d => d.parameters.length) = some 5 := by decide +kernel
def hh_L_push : List (Nat × Nat × Nat × Nat) := [(0, 12, 15, 13)]
def ct_L_push : Nat → String → Option Nat := fun pc en => if pc = 7 then (if en = lm_iae then some 15 else none) else none
theorem ct_L_push_1 : ct_L_push 7 lm_iae = some 15 := by unfold ct_L_push; rw [if_pos rfl, if_pos rfl]
theorem cto_L_push : lm_cto RL hh_L_push ct_L_push := by
  intro pc en h hc
  unfold ct_L_push at hc
  split at hc
  · rename_i hpc
    subst hpc
    split at hc
    · rename_i he
      subst he
      cases hc
      exact ⟨[], ⟨0, 12, 15, 13⟩, [], rfl, rfl, by decide, by decide, lm_wt 239 rfl rfl, by decide, (fun z hz => by cases hz)⟩
    · cases hc
  · cases hc
def sp_L_push (ids : Nat → ClassId) : lm_S := fun As n L post _ => ∃ Q R g K z w a, CW ids n Q R g L L ∧ OUT ids n L ∧ As = [.ref 0, .int z, .int w, .int a, .ref 66] ∧ INV K (Q, R, g) ∧ (∀ q k, okP z a q k → ∀ L2, WL ids n (psh (Q, R, g) q w k).1 (psh (Q, R, g) q w k).2 L L2 → post (some (.int 0)) n L2) ∧ ((¬ ∃ q k, okP z a q k) → post (some (.int 1)) n L)
def cv_L_push (ids : Nat → ClassId) : Nat → Option lm_C := fun j => match j with
  | 19 => some (4, 2, sp_X2_push ids, 2, 12)
  | _ => none
set_option maxRecDepth 100000 in
theorem ll_8_19 : Cond.methodLink RL 19 yX2_push ∈ lm_WT := lm_wt 338 rfl rfl
set_option maxHeartbeats 4000000 in
set_option maxRecDepth 20000 in
theorem ok_L_push (l : Launch) (D : va_G) (ids : Nat → ClassId) (B b : Nat) (hlt : l.stackTraces = false) : lm_MW l D (lm_ty ids) B b false yL_push cL_push 6 (some .int) hh_L_push rm_L_push 2 12 (sp_L_push ids) := by
  refine lm_methodW (own := RL) (cv := cv_L_push ids) (ct := ct_L_push) (by decide +kernel) rfl rfl rfl ⟨?_, ?_⟩ cto_L_push ?_
  · intro j f hf
    unfold cv_L_push at hf
    split at hf
    · cases hf; exact ⟨yX2_push, cX2_push, 6, (some .int), rm_X2_push, RX2, TX2, 7, 3, rfl, rfl, ok_X2_push l D ids B b hlt, lw_2_push, ll_8_19, rfl, rfl, ⟨rfl, ld_X2_push⟩, by decide⟩
    · cases hf
  · intro j f hf; cases hf
  rintro As n L post postX ⟨Q, R, g, K, z, w, a, hC, hO, rfl, hI, hp, hpx⟩
  refine ⟨by simp [Value.category], (Nat.le_of_ble_eq_true rfl), lm_cl_of ?_⟩
  intro G hG
  obtain ⟨hn67, f0, h66⟩ := hO
  refine lg_aload hG dL_push_0 rfl ?_
  refine lg_iconst hG dL_push_2 (x := 0) (by decide) ?_
  refine lg_aload_n hG dL_push_3 rfl ?_
  refine lg_iload_n hG dL_push_4 rfl ?_
  refine lg_iload_n hG dL_push_5 rfl ?_
  refine lg_iload_n hG dL_push_6 rfl ?_
  refine cg_callO hG hC dL_push_7 rfl (fun P h => h) (Nat.le_of_ble_eq_true rfl) (Nat.le_of_ble_eq_true rfl) (Nat.le_of_ble_eq_true rfl) ?_
  refine ⟨Q, R, g, L, z, w, a, K, hC, rfl, hI, ?_, ?_⟩
  · intro q k hok L1 hC1
    have hp := hp q k hok
    refine lg_i2l hG dL_push_10 ?_
    refine lg_last hG dL_push_11 (by first | assumption | omega) (show L1 66 = .inl (ids 2, 1, .inr (.inl f0)) by rw [hC1.2.2.2.2.2.2 66 (by omega)]; exact h66) (vp_in_nI (n := 0) (by decide) (by decide)) ?_
    refine lg_goto hG dL_push_12 (tgt := 19) (by decide) (by decide) ?_
    refine lg_iconst hG dL_push_19 (x := 0) (by decide) ?_
    refine lg_iret hG dL_push_20 (Nat.le_of_ble_eq_true rfl) (Nat.le_of_ble_eq_true rfl) ?_
    exact ⟨trivial, hp _ (WL_of hC1)⟩
  · intro hno
    have hp := hpx hno
    show (match ct_L_push 7 lm_iae with
      | some h => ∀ k : Nat, G h _ [.retAddr k] n L _ _
      | none => False)
    rw [ct_L_push_1]
    intro k9
    refine lg_astoreR hG dL_push_15 (Nat.le_of_ble_eq_true rfl) rfl ?_
    refine lg_iconst hG dL_push_17 (x := 1) (by decide) ?_
    refine lg_iret hG dL_push_18 (Nat.le_of_ble_eq_true rfl) (Nat.le_of_ble_eq_true rfl) ?_
    exact ⟨trivial, hp⟩

def rm_L_serveUpTo : Room := { frames := 8, cells := 1, slots := 6, locals := 143 }
theorem ld_L_serveUpTo : yL_serveUpTo.cls ≠ "java/lang/invoke/MethodHandle" ∧ yL_serveUpTo.cls ≠ "java/lang/invoke/VarHandle" ∧ (parseMethodDescriptor yL_serveUpTo.desc).map (fun d => d.parameters.length) = some 3 := by decide +kernel
def hh_L_serveUpTo : List (Nat × Nat × Nat × Nat) := [(0, 9, 12, 13)]
def ct_L_serveUpTo : Nat → String → Option Nat := fun pc en => if pc = 4 then (if en = lm_iae then some 12 else none) else none
theorem ct_L_serveUpTo_1 : ct_L_serveUpTo 4 lm_iae = some 12 := by unfold ct_L_serveUpTo; rw [if_pos rfl, if_pos rfl]
theorem cto_L_serveUpTo : lm_cto RL hh_L_serveUpTo ct_L_serveUpTo := by
  intro pc en h hc
  unfold ct_L_serveUpTo at hc
  split at hc
  · rename_i hpc
    subst hpc
    split at hc
    · rename_i he
      subst he
      cases hc
      exact ⟨[], ⟨0, 9, 12, 13⟩, [], rfl, rfl, by decide, by decide, lm_wt 239 rfl rfl, by decide, (fun z hz => by cases hz)⟩
    · cases hc
  · cases hc
def sp_L_serveUpTo (ids : Nat → ClassId) : lm_S := fun As n L post _ => ∃ Q R g K a, CW ids n Q R g L L ∧ OUT ids n L ∧ As = [.ref 0, .int a, .ref 66] ∧ INV K (Q, R, g) ∧ K + 96 ≤ 2 ^ 17 ∧ (∀ x, okN 100001 a x → ∀ σ' s, SUR 96 (Q, R, g) x σ' s → ∀ L2, WL ids n σ' (nI s) L L2 → post (some (.int 0)) n L2) ∧ ((¬ ∃ x, okN 100001 a x) → post (some (.int 1)) n L)
def cv_L_serveUpTo (ids : Nat → ClassId) : Nat → Option lm_C := fun j => match j with
  | 22 => some (2, 2, sp_X2_serveUpTo ids, 1, 6)
  | _ => none
set_option maxRecDepth 100000 in
theorem ll_8_22 : Cond.methodLink RL 22 yX2_serveUpTo ∈ lm_WT := lm_wt 388 rfl rfl
set_option maxHeartbeats 4000000 in
set_option maxRecDepth 20000 in
theorem ok_L_serveUpTo (l : Launch) (D : va_G) (ids : Nat → ClassId) (B b : Nat) (hlt : l.stackTraces = false) : lm_MW l D (lm_ty ids) B b false yL_serveUpTo cL_serveUpTo 4 (some .int) hh_L_serveUpTo rm_L_serveUpTo 1 6 (sp_L_serveUpTo ids) := by
  refine lm_methodW (own := RL) (cv := cv_L_serveUpTo ids) (ct := ct_L_serveUpTo) (by decide +kernel) rfl rfl rfl ⟨?_, ?_⟩ cto_L_serveUpTo ?_
  · intro j f hf
    unfold cv_L_serveUpTo at hf
    split at hf
    · cases hf; exact ⟨yX2_serveUpTo, cX2_serveUpTo, 6, (some .int), rm_X2_serveUpTo, RX2, TX2, 7, 1, rfl, rfl, ok_X2_serveUpTo l D ids B b hlt, lw_2_serveUpTo, ll_8_22, rfl, rfl, ⟨rfl, ld_X2_serveUpTo⟩, by decide⟩
    · cases hf
  · intro j f hf; cases hf
  rintro As n L post postX ⟨Q, R, g, K, a, hC, hO, rfl, hI, hK, hp, hpx⟩
  refine ⟨by simp [Value.category], (Nat.le_of_ble_eq_true rfl), lm_cl_of ?_⟩
  intro G hG
  obtain ⟨hn67, f0, h66⟩ := hO
  refine lg_aload_n hG dL_serveUpTo_0 rfl ?_
  refine lg_iconst hG dL_serveUpTo_1 (x := 0) (by decide) ?_
  refine lg_aload_n hG dL_serveUpTo_2 rfl ?_
  refine lg_iload_n hG dL_serveUpTo_3 rfl ?_
  refine cg_callO hG hC dL_serveUpTo_4 rfl (fun P h => h) (Nat.le_of_ble_eq_true rfl) (Nat.le_of_ble_eq_true rfl) (Nat.le_of_ble_eq_true rfl) ?_
  refine ⟨Q, R, g, L, a, K, hC, rfl, hI, hK, ?_, ?_⟩
  · intro x hok σ' s hSU L1 hC1
    have hp := hp x hok σ' s hSU
    refine lg_i2l hG dL_serveUpTo_7 ?_
    refine lg_last hG dL_serveUpTo_8 (by first | assumption | omega) (show L1 66 = .inl (ids 2, 1, .inr (.inl f0)) by rw [hC1.2.2.2.2.2.2 66 (by omega)]; exact h66) (vp_in_nI (n := 0) (by decide) (by decide)) ?_
    refine lg_goto hG dL_serveUpTo_9 (tgt := 15) (by decide) (by decide) ?_
    refine lg_iconst hG dL_serveUpTo_15 (x := 0) (by decide) ?_
    refine lg_iret hG dL_serveUpTo_16 (Nat.le_of_ble_eq_true rfl) (Nat.le_of_ble_eq_true rfl) ?_
    exact ⟨trivial, hp _ (WL_of hC1)⟩
  · intro hno
    have hp := hpx hno
    show (match ct_L_serveUpTo 4 lm_iae with
      | some h => ∀ k : Nat, G h _ [.retAddr k] n L _ _
      | none => False)
    rw [ct_L_serveUpTo_1]
    intro k9
    refine lg_astore_nR hG dL_serveUpTo_12 (Nat.le_of_ble_eq_true rfl) rfl ?_
    refine lg_iconst hG dL_serveUpTo_13 (x := 1) (by decide) ?_
    refine lg_iret hG dL_serveUpTo_14 (Nat.le_of_ble_eq_true rfl) (Nat.le_of_ble_eq_true rfl) ?_
    exact ⟨trivial, hp⟩

def rm_L_empty : Room := { frames := 8, cells := 1, slots := 6, locals := 126 }
theorem ld_L_empty : yL_empty.cls ≠ "java/lang/invoke/MethodHandle" ∧ yL_empty.cls ≠ "java/lang/invoke/VarHandle" ∧ (parseMethodDescriptor yL_empty.desc).map (fun d => d.parameters.length) = some 3 := by decide +kernel
def hh_L_empty : List (Nat × Nat × Nat × Nat) := [(0, 9, 12, 13)]
def ct_L_empty : Nat → String → Option Nat := fun pc en => if pc = 4 then (if en = lm_iae then some 12 else none) else none
theorem ct_L_empty_1 : ct_L_empty 4 lm_iae = some 12 := by unfold ct_L_empty; rw [if_pos rfl, if_pos rfl]
theorem cto_L_empty : lm_cto RL hh_L_empty ct_L_empty := by
  intro pc en h hc
  unfold ct_L_empty at hc
  split at hc
  · rename_i hpc
    subst hpc
    split at hc
    · rename_i he
      subst he
      cases hc
      exact ⟨[], ⟨0, 9, 12, 13⟩, [], rfl, rfl, by decide, by decide, lm_wt 239 rfl rfl, by decide, (fun z hz => by cases hz)⟩
    · cases hc
  · cases hc
def sp_L_empty (ids : Nat → ClassId) : lm_S := fun As n L post _ => ∃ Q R g K z, CW ids n Q R g L L ∧ OUT ids n L ∧ As = [.ref 0, .int z, .ref 66] ∧ INV K (Q, R, g) ∧ (∀ q, okN 12 z q → ∀ L2, WL ids n (emS (Q, R, g) q) (nI (qI (Q q)).length) L L2 → post (some (.int 0)) n L2) ∧ ((¬ ∃ q, okN 12 z q) → post (some (.int 1)) n L)
def cv_L_empty (ids : Nat → ClassId) : Nat → Option lm_C := fun j => match j with
  | 26 => some (2, 2, sp_X2_empty ids, 1, 6)
  | _ => none
set_option maxRecDepth 100000 in
theorem ll_8_26 : Cond.methodLink RL 26 yX2_empty ∈ lm_WT := lm_wt 398 rfl rfl
set_option maxHeartbeats 4000000 in
set_option maxRecDepth 20000 in
theorem ok_L_empty (l : Launch) (D : va_G) (ids : Nat → ClassId) (B b : Nat) (hlt : l.stackTraces = false) : lm_MW l D (lm_ty ids) B b false yL_empty cL_empty 4 (some .int) hh_L_empty rm_L_empty 1 6 (sp_L_empty ids) := by
  refine lm_methodW (own := RL) (cv := cv_L_empty ids) (ct := ct_L_empty) (by decide +kernel) rfl rfl rfl ⟨?_, ?_⟩ cto_L_empty ?_
  · intro j f hf
    unfold cv_L_empty at hf
    split at hf
    · cases hf; exact ⟨yX2_empty, cX2_empty, 4, (some .int), rm_X2_empty, RX2, TX2, 7, 1, rfl, rfl, ok_X2_empty l D ids B b hlt, lw_2_empty, ll_8_26, rfl, rfl, ⟨rfl, ld_X2_empty⟩, by decide⟩
    · cases hf
  · intro j f hf; cases hf
  rintro As n L post postX ⟨Q, R, g, K, z, hC, hO, rfl, hI, hp, hpx⟩
  refine ⟨by simp [Value.category], (Nat.le_of_ble_eq_true rfl), lm_cl_of ?_⟩
  intro G hG
  obtain ⟨hn67, f0, h66⟩ := hO
  refine lg_aload_n hG dL_empty_0 rfl ?_
  refine lg_iconst hG dL_empty_1 (x := 0) (by decide) ?_
  refine lg_aload_n hG dL_empty_2 rfl ?_
  refine lg_iload_n hG dL_empty_3 rfl ?_
  refine cg_callO hG hC dL_empty_4 rfl (fun P h => h) (Nat.le_of_ble_eq_true rfl) (Nat.le_of_ble_eq_true rfl) (Nat.le_of_ble_eq_true rfl) ?_
  refine ⟨Q, R, g, L, z, K, hC, rfl, hI, ?_, ?_⟩
  · intro q hok L1 hC1
    have hp := hp q hok
    refine lg_i2l hG dL_empty_7 ?_
    refine lg_last hG dL_empty_8 (by first | assumption | omega) (show L1 66 = .inl (ids 2, 1, .inr (.inl f0)) by rw [hC1.2.2.2.2.2.2 66 (by omega)]; exact h66) (vp_in_nI (n := 0) (by decide) (by decide)) ?_
    refine lg_goto hG dL_empty_9 (tgt := 15) (by decide) (by decide) ?_
    refine lg_iconst hG dL_empty_15 (x := 0) (by decide) ?_
    refine lg_iret hG dL_empty_16 (Nat.le_of_ble_eq_true rfl) (Nat.le_of_ble_eq_true rfl) ?_
    exact ⟨trivial, hp _ (WL_of hC1)⟩
  · intro hno
    have hp := hpx hno
    show (match ct_L_empty 4 lm_iae with
      | some h => ∀ k : Nat, G h _ [.retAddr k] n L _ _
      | none => False)
    rw [ct_L_empty_1]
    intro k9
    refine lg_astore_nR hG dL_empty_12 (Nat.le_of_ble_eq_true rfl) rfl ?_
    refine lg_iconst hG dL_empty_13 (x := 1) (by decide) ?_
    refine lg_iret hG dL_empty_14 (Nat.le_of_ble_eq_true rfl) (Nat.le_of_ble_eq_true rfl) ?_
    exact ⟨trivial, hp⟩

def rm_L_told : Room := { frames := 8, cells := 2, slots := 12, locals := 126 }
theorem ld_L_told : yL_told.cls ≠ "java/lang/invoke/MethodHandle" ∧ yL_told.cls ≠ "java/lang/invoke/VarHandle" ∧ (parseMethodDescriptor yL_told.desc).map (fun d => d.parameters.length) = some 4 := by decide +kernel
def hh_L_told : List (Nat × Nat × Nat × Nat) := [(0, 10, 13, 13)]
def ct_L_told : Nat → String → Option Nat := fun pc en => if pc = 5 then (if en = lm_iae then some 13 else none) else none
theorem ct_L_told_1 : ct_L_told 5 lm_iae = some 13 := by unfold ct_L_told; rw [if_pos rfl, if_pos rfl]
theorem cto_L_told : lm_cto RL hh_L_told ct_L_told := by
  intro pc en h hc
  unfold ct_L_told at hc
  split at hc
  · rename_i hpc
    subst hpc
    split at hc
    · rename_i he
      subst he
      cases hc
      exact ⟨[], ⟨0, 10, 13, 13⟩, [], rfl, rfl, by decide, by decide, lm_wt 239 rfl rfl, by decide, (fun z hz => by cases hz)⟩
    · cases hc
  · cases hc
def sp_L_told (ids : Nat → ClassId) : lm_S := fun As n L post _ => ∃ Q R g K z a, CW ids n Q R g L L ∧ OUT ids n L ∧ As = [.ref 0, .int z, .int a, .ref 66] ∧ INV K (Q, R, g) ∧ (∀ q i, okN 12 z q → okN 13 a i → ∀ L2, WL ids n (Q, R, g) (tldv (Q, R, g) q i) L L2 → post (some (.int 0)) n L2) ∧ ((¬ ∃ q i, okN 12 z q ∧ okN 13 a i) → post (some (.int 1)) n L)
def cv_L_told (ids : Nat → ClassId) : Nat → Option lm_C := fun j => match j with
  | 29 => some (3, 2, sp_X2_told ids, 2, 12)
  | _ => none
set_option maxRecDepth 100000 in
theorem ll_8_29 : Cond.methodLink RL 29 yX2_told ∈ lm_WT := lm_wt 409 rfl rfl
set_option maxHeartbeats 4000000 in
set_option maxRecDepth 20000 in
theorem ok_L_told (l : Launch) (D : va_G) (ids : Nat → ClassId) (B b : Nat) (hlt : l.stackTraces = false) : lm_MW l D (lm_ty ids) B b false yL_told cL_told 5 (some .int) hh_L_told rm_L_told 2 12 (sp_L_told ids) := by
  refine lm_methodW (own := RL) (cv := cv_L_told ids) (ct := ct_L_told) (by decide +kernel) rfl rfl rfl ⟨?_, ?_⟩ cto_L_told ?_
  · intro j f hf
    unfold cv_L_told at hf
    split at hf
    · cases hf; exact ⟨yX2_told, cX2_told, 4, (some .int), rm_X2_told, RX2, TX2, 7, 2, rfl, rfl, ok_X2_told l D ids B b hlt, lw_2_told, ll_8_29, rfl, rfl, ⟨rfl, ld_X2_told⟩, by decide⟩
    · cases hf
  · intro j f hf; cases hf
  rintro As n L post postX ⟨Q, R, g, K, z, a, hC, hO, rfl, hI, hp, hpx⟩
  refine ⟨by simp [Value.category], (Nat.le_of_ble_eq_true rfl), lm_cl_of ?_⟩
  intro G hG
  obtain ⟨hn67, f0, h66⟩ := hO
  refine lg_aload_n hG dL_told_0 rfl ?_
  refine lg_iconst hG dL_told_1 (x := 0) (by decide) ?_
  refine lg_aload_n hG dL_told_2 rfl ?_
  refine lg_iload_n hG dL_told_3 rfl ?_
  refine lg_iload_n hG dL_told_4 rfl ?_
  refine cg_callO hG hC dL_told_5 rfl (fun P h => h) (Nat.le_of_ble_eq_true rfl) (Nat.le_of_ble_eq_true rfl) (Nat.le_of_ble_eq_true rfl) ?_
  refine ⟨Q, R, g, L, z, a, K, hC, rfl, hI, ?_, ?_⟩
  · intro q i hok hok2
    have hp := hp q i hok hok2
    have hC1 : CS ids n (Q, R, g) L L := hC
    refine lg_i2l hG dL_told_8 ?_
    refine lg_last hG dL_told_9 (by first | assumption | omega) (show L 66 = .inl (ids 2, 1, .inr (.inl f0)) by rw [hC1.2.2.2.2.2.2 66 (by omega)]; exact h66) (vp_in_nI (n := 0) (by decide) (by decide)) ?_
    refine lg_goto hG dL_told_10 (tgt := 17) (by decide) (by decide) ?_
    refine lg_iconst hG dL_told_17 (x := 0) (by decide) ?_
    refine lg_iret hG dL_told_18 (Nat.le_of_ble_eq_true rfl) (Nat.le_of_ble_eq_true rfl) ?_
    exact ⟨trivial, hp _ (WL_of hC1)⟩
  · intro hno
    have hp := hpx hno
    show (match ct_L_told 5 lm_iae with
      | some h => ∀ k : Nat, G h _ [.retAddr k] n L _ _
      | none => False)
    rw [ct_L_told_1]
    intro k9
    refine lg_astoreR hG dL_told_13 (Nat.le_of_ble_eq_true rfl) rfl ?_
    refine lg_iconst hG dL_told_15 (x := 1) (by decide) ?_
    refine lg_iret hG dL_told_16 (Nat.le_of_ble_eq_true rfl) (Nat.le_of_ble_eq_true rfl) ?_
    exact ⟨trivial, hp⟩

def rm_L_all : Room := { frames := 7, cells := 1, slots := 6, locals := 103 }
theorem ld_L_all : yL_all.cls ≠ "java/lang/invoke/MethodHandle" ∧ yL_all.cls ≠ "java/lang/invoke/VarHandle" ∧ (parseMethodDescriptor yL_all.desc).map (fun d => d.parameters.length) = some 3 := by decide +kernel
def hh_L_all : List (Nat × Nat × Nat × Nat) := [(0, 9, 12, 13)]
def ct_L_all : Nat → String → Option Nat := fun pc en => if pc = 4 then (if en = lm_iae then some 12 else none) else none
theorem ct_L_all_1 : ct_L_all 4 lm_iae = some 12 := by unfold ct_L_all; rw [if_pos rfl, if_pos rfl]
theorem cto_L_all : lm_cto RL hh_L_all ct_L_all := by
  intro pc en h hc
  unfold ct_L_all at hc
  split at hc
  · rename_i hpc
    subst hpc
    split at hc
    · rename_i he
      subst he
      cases hc
      exact ⟨[], ⟨0, 9, 12, 13⟩, [], rfl, rfl, by decide, by decide, lm_wt 239 rfl rfl, by decide, (fun z hz => by cases hz)⟩
    · cases hc
  · cases hc
def sp_L_all (ids : Nat → ClassId) : lm_S := fun As n L post _ => ∃ Q R g K a, CW ids n Q R g L L ∧ OUT ids n L ∧ As = [.ref 0, .int a, .ref 66] ∧ INV K (Q, R, g) ∧ (∀ i, okN 7 a i → ∀ L2, WL ids n (Q, R, g) (allv (Q, R, g) i) L L2 → post (some (.int 0)) n L2) ∧ ((¬ ∃ i, okN 7 a i) → post (some (.int 1)) n L)
def cv_L_all (ids : Nat → ClassId) : Nat → Option lm_C := fun j => match j with
  | 38 => some (2, 2, sp_X2_all ids, 1, 6)
  | _ => none
set_option maxRecDepth 100000 in
theorem ll_8_38 : Cond.methodLink RL 38 yX2_all ∈ lm_WT := lm_wt 443 rfl rfl
set_option maxHeartbeats 4000000 in
set_option maxRecDepth 20000 in
theorem ok_L_all (l : Launch) (D : va_G) (ids : Nat → ClassId) (B b : Nat) (hlt : l.stackTraces = false) : lm_MW l D (lm_ty ids) B b false yL_all cL_all 4 (some .int) hh_L_all rm_L_all 1 6 (sp_L_all ids) := by
  refine lm_methodW (own := RL) (cv := cv_L_all ids) (ct := ct_L_all) (by decide +kernel) rfl rfl rfl ⟨?_, ?_⟩ cto_L_all ?_
  · intro j f hf
    unfold cv_L_all at hf
    split at hf
    · cases hf; exact ⟨yX2_all, cX2_all, 2, (some .int), rm_X2_all, RX2, TX2, 7, 1, rfl, rfl, ok_X2_all l D ids B b hlt, lw_2_all, ll_8_38, rfl, rfl, ⟨rfl, ld_X2_all⟩, by decide⟩
    · cases hf
  · intro j f hf; cases hf
  rintro As n L post postX ⟨Q, R, g, K, a, hC, hO, rfl, hI, hp, hpx⟩
  refine ⟨by simp [Value.category], (Nat.le_of_ble_eq_true rfl), lm_cl_of ?_⟩
  intro G hG
  obtain ⟨hn67, f0, h66⟩ := hO
  refine lg_aload_n hG dL_all_0 rfl ?_
  refine lg_iconst hG dL_all_1 (x := 0) (by decide) ?_
  refine lg_aload_n hG dL_all_2 rfl ?_
  refine lg_iload_n hG dL_all_3 rfl ?_
  refine cg_callO hG hC dL_all_4 rfl (fun P h => h) (Nat.le_of_ble_eq_true rfl) (Nat.le_of_ble_eq_true rfl) (Nat.le_of_ble_eq_true rfl) ?_
  refine ⟨Q, R, g, L, a, K, hC, rfl, hI, ?_, ?_⟩
  · intro i hok
    have hp := hp i hok
    have hC1 : CS ids n (Q, R, g) L L := hC
    refine lg_i2l hG dL_all_7 ?_
    refine lg_last hG dL_all_8 (by first | assumption | omega) (show L 66 = .inl (ids 2, 1, .inr (.inl f0)) by rw [hC1.2.2.2.2.2.2 66 (by omega)]; exact h66) (vp_in_nI (n := 0) (by decide) (by decide)) ?_
    refine lg_goto hG dL_all_9 (tgt := 15) (by decide) (by decide) ?_
    refine lg_iconst hG dL_all_15 (x := 0) (by decide) ?_
    refine lg_iret hG dL_all_16 (Nat.le_of_ble_eq_true rfl) (Nat.le_of_ble_eq_true rfl) ?_
    exact ⟨trivial, hp _ (WL_of hC1)⟩
  · intro hno
    have hp := hpx hno
    show (match ct_L_all 4 lm_iae with
      | some h => ∀ k : Nat, G h _ [.retAddr k] n L _ _
      | none => False)
    rw [ct_L_all_1]
    intro k9
    refine lg_astore_nR hG dL_all_12 (Nat.le_of_ble_eq_true rfl) rfl ?_
    refine lg_iconst hG dL_all_13 (x := 1) (by decide) ?_
    refine lg_iret hG dL_all_14 (Nat.le_of_ble_eq_true rfl) (Nat.le_of_ble_eq_true rfl) ?_
    exact ⟨trivial, hp⟩

def rm_L_item : Room := { frames := 8, cells := 3, slots := 18, locals := 128 }
theorem ld_L_item : yL_item.cls ≠ "java/lang/invoke/MethodHandle" ∧ yL_item.cls ≠ "java/lang/invoke/VarHandle" ∧ (parseMethodDescriptor yL_item.desc).map (fun d => d.parameters.length) = some 5 := by decide +kernel
def hh_L_item : List (Nat × Nat × Nat × Nat) := [(0, 12, 15, 13), (0, 12, 19, 36)]
def ct_L_item : Nat → String → Option Nat := fun pc en => if pc = 7 then (if en = lm_iae then some 15 else if en = lm_iob then some 19 else none) else none
theorem ct_L_item_1 : ct_L_item 7 lm_iae = some 15 := by unfold ct_L_item; rw [if_pos rfl, if_pos rfl]
theorem ct_L_item_2 : ct_L_item 7 lm_iob = some 19 := by unfold ct_L_item; rw [if_pos rfl, if_neg (by decide), if_pos rfl]
theorem cto_L_item : lm_cto RL hh_L_item ct_L_item := by
  intro pc en h hc
  unfold ct_L_item at hc
  split at hc
  · rename_i hpc
    subst hpc
    split at hc
    · rename_i he
      subst he
      cases hc
      exact ⟨[], ⟨0, 12, 15, 13⟩, [⟨0, 12, 19, 36⟩], rfl, rfl, by decide, by decide, lm_wt 239 rfl rfl, by decide, (fun z hz => by cases hz)⟩
    · split at hc
      · rename_i he
        subst he
        cases hc
        refine ⟨[⟨0, 12, 15, 13⟩], ⟨0, 12, 19, 36⟩, [], rfl, rfl, by decide, by decide, lm_wt 418 rfl rfl, by decide, fun z hz => ?_⟩
        rcases List.mem_cons.mp hz with rfl | hz
        · exact ⟨by decide, lm_wt 239 rfl rfl, rfl⟩
        · cases hz
      · cases hc
  · cases hc
def sp_L_item (ids : Nat → ClassId) : lm_S := fun As n L post _ => ∃ Q R g K z a b, CW ids n Q R g L L ∧ OUT ids n L ∧ As = [.ref 0, .int z, .int a, .int b, .ref 66] ∧ INV K (Q, R, g) ∧ (∀ q i, okN 12 z q → okN 2 b i → (∀ k y, okN (qI (Q q)).length a k → (qI (Q q))[k]? = some y → ∀ L2, WL ids n (Q, R, g) (if i = 0 then y.1 else nI y.2) L L2 → post (some (.int 0)) n L2) ∧ ((¬ ∃ k, okN (qI (Q q)).length a k) → post (some (.int 2)) n L)) ∧ ((¬ ∃ q i, okN 12 z q ∧ okN 2 b i) → post (some (.int 1)) n L)
def cv_L_item (ids : Nat → ClassId) : Nat → Option lm_C := fun j => match j with
  | 33 => some (4, 2, sp_X2_item ids, 3, 18)
  | _ => none
set_option maxRecDepth 100000 in
theorem ll_8_33 : Cond.methodLink RL 33 yX2_item ∈ lm_WT := lm_wt 419 rfl rfl
set_option maxHeartbeats 4000000 in
set_option maxRecDepth 20000 in
theorem ok_L_item (l : Launch) (D : va_G) (ids : Nat → ClassId) (B b : Nat) (hlt : l.stackTraces = false) : lm_MW l D (lm_ty ids) B b false yL_item cL_item 6 (some .int) hh_L_item rm_L_item 3 18 (sp_L_item ids) := by
  refine lm_methodW (own := RL) (cv := cv_L_item ids) (ct := ct_L_item) (by decide +kernel) rfl rfl rfl ⟨?_, ?_⟩ cto_L_item ?_
  · intro j f hf
    unfold cv_L_item at hf
    split at hf
    · cases hf; exact ⟨yX2_item, cX2_item, 5, (some .int), rm_X2_item, RX2, TX2, 7, 3, rfl, rfl, ok_X2_item l D ids B b hlt, lw_2_item, ll_8_33, rfl, rfl, ⟨rfl, ld_X2_item⟩, by decide⟩
    · cases hf
  · intro j f hf; cases hf
  rintro As n L post postX ⟨Q, R, g, K, z, a, b, hC, hO, rfl, hI, hp, hpx⟩
  refine ⟨by simp [Value.category], (Nat.le_of_ble_eq_true rfl), lm_cl_of ?_⟩
  intro G hG
  obtain ⟨hn67, f0, h66⟩ := hO
  refine lg_aload hG dL_item_0 rfl ?_
  refine lg_iconst hG dL_item_2 (x := 0) (by decide) ?_
  refine lg_aload_n hG dL_item_3 rfl ?_
  refine lg_iload_n hG dL_item_4 rfl ?_
  refine lg_iload_n hG dL_item_5 rfl ?_
  refine lg_iload_n hG dL_item_6 rfl ?_
  refine cg_callO hG hC dL_item_7 rfl (fun P h => h) (Nat.le_of_ble_eq_true rfl) (Nat.le_of_ble_eq_true rfl) (Nat.le_of_ble_eq_true rfl) ?_
  refine ⟨Q, R, g, L, z, a, b, K, hC, rfl, hI, fun q i hok hok2 => ⟨?_, ?_⟩, ?_⟩
  · intro k y hk hy
    have hp := (hp q i hok hok2).1 k y hk hy
    have hC1 : CS ids n (Q, R, g) L L := hC
    refine lg_i2l hG dL_item_10 ?_
    refine lg_last hG dL_item_11 (by first | assumption | omega) (show L 66 = .inl (ids 2, 1, .inr (.inl f0)) by rw [hC1.2.2.2.2.2.2 66 (by omega)]; exact h66) (vp_in_nI (n := 0) (by decide) (by decide)) ?_
    refine lg_goto hG dL_item_12 (tgt := 23) (by decide) (by decide) ?_
    refine lg_iconst hG dL_item_23 (x := 0) (by decide) ?_
    refine lg_iret hG dL_item_24 (Nat.le_of_ble_eq_true rfl) (Nat.le_of_ble_eq_true rfl) ?_
    exact ⟨trivial, hp _ (WL_of hC1)⟩
  · intro hno
    have hp := (hp q i hok hok2).2 hno
    show (match ct_L_item 7 lm_iob with
      | some h => ∀ k : Nat, G h _ [.retAddr k] n L _ _
      | none => False)
    rw [ct_L_item_2]
    intro k9
    refine lg_astoreR hG dL_item_19 (Nat.le_of_ble_eq_true rfl) rfl ?_
    refine lg_iconst hG dL_item_21 (x := 2) (by decide) ?_
    refine lg_iret hG dL_item_22 (Nat.le_of_ble_eq_true rfl) (Nat.le_of_ble_eq_true rfl) ?_
    exact ⟨trivial, hp⟩
  · intro hno
    have hp := hpx hno
    show (match ct_L_item 7 lm_iae with
      | some h => ∀ k : Nat, G h _ [.retAddr k] n L _ _
      | none => False)
    rw [ct_L_item_1]
    intro k9
    refine lg_astoreR hG dL_item_15 (Nat.le_of_ble_eq_true rfl) rfl ?_
    refine lg_iconst hG dL_item_17 (x := 1) (by decide) ?_
    refine lg_iret hG dL_item_18 (Nat.le_of_ble_eq_true rfl) (Nat.le_of_ble_eq_true rfl) ?_
    exact ⟨trivial, hp⟩

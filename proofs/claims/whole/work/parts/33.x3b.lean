theorem MV.ring {Q : Nat → Qs} {R : Nat → List Nat} {F F2 : Nat → Nat → Int32} (hV : MV Q R F) {c : Nat} {l : List Nat} (h1 : ∀ j, j ≠ 13 → j ≠ 14 → F2 j = F j) (h2 : ∀ d k, d < 4 → d ≠ c → k < 12 → F2 13 (12 * d + k) = F 13 (12 * d + k)) (h3 : ∀ d, d ≠ c → F2 14 d = F 14 d) (h4 : MR F2 c l) : MV Q (va_up R c l) F2 := by
  refine ⟨fun q hq => ?_, fun d hd => ?_⟩
  · obtain ⟨a1, a2, a3⟩ := hV.1 q hq
    refine ⟨fun j v h7 h8 hj => ?_, a2, fun k y hk => ?_⟩
    · have hj2 : j < 13 := (List.getElem?_eq_some_iff.mp hj).1
      rw [h1 j (by omega) (by omega)]
      exact a1 j v h7 h8 hj
    · rw [h1 7 (by omega) (by omega), h1 8 (by omega) (by omega)]; exact a3 k y hk
  · by_cases e : d = c
    · subst e; rw [va_up_self]; exact h4
    · rw [va_up_ne _ _ e]
      obtain ⟨a1, a2, a3, a4⟩ := hV.2 d hd
      refine ⟨(h3 d e).trans a1, a2, a3, fun k x hk => ?_⟩
      have := (List.getElem?_eq_some_iff.mp hk).1
      rw [h2 d k hd e (by omega)]
      exact a4 k x hk
theorem MV.enter {Q : Nat → Qs} {R : Nat → List Nat} {F : Nat → Nat → Int32} (hV : MV Q R F) {c x : Nat} {u v : Nat → Int32} (hc : c < 4) (hl : (R c).length < 12) (hx : x < 12) (hu : u = upd (F 13) (12 * c + (R c).length) (nI x)) (hv : v = upd (F 14) c (nI ((R c).length + 1))) : MV Q (va_up R c (R c ++ [x])) (va_up (va_up F 13 u) 14 v) := by
  subst hu
  subst hv
  obtain ⟨a1, a2, a3, a4⟩ := hV.2 c hc
  refine hV.ring (fun j h13 h14 => ?_) (fun d k hd hne hk => ?_) (fun d hne => ?_) ⟨?_, ?_, ?_, ?_⟩
  · rw [va_up_ne _ _ h14, va_up_ne _ _ h13]
  · rw [va_up_ne _ _ (by omega), va_up_self, pk_un (by omega)]
  · rw [va_up_self, pk_un hne]
  · rw [va_up_self, pk_us, List.length_append]; rfl
  · rw [List.length_append]; exact hl
  · intro y hy
    rcases List.mem_append.mp hy with h | h
    · exact a3 y h
    · simp at h; omega
  · have := LF_snoc (l := R c) (f := fun k => F 13 (12 * c + k)) (x := x) a4
    intro k y hk
    rw [va_up_ne _ _ (by omega), va_up_self, ← this k y hk]
    unfold upd
    by_cases e : k = (R c).length
    · rw [if_pos e, if_pos (by omega)]
    · rw [if_neg e, if_neg (by omega)]
theorem cpy_step (f : Nat → Int32) (s m : Nat) : upd (va_cpy f f (s + 1) s m) (s + m) (f (s + m + 1)) = va_cpy f f (s + 1) s (m + 1) := by
  funext k
  by_cases e : k = s + m
  · subst e
    rw [pk_us, pk_cpy_in (by omega) (by omega)]
    congr 1
    omega
  · rw [pk_un e]
    by_cases h : s ≤ k ∧ k < s + m
    · rw [pk_cpy_in h.1 h.2, pk_cpy_in h.1 (by omega)]
    · rw [pk_cpy_out (by omega), pk_cpy_out (by omega)]
theorem MV.leave {Q : Nat → Qs} {R : Nat → List Nat} {F F2 : Nat → Nat → Int32} (hV : MV Q R F) {c x : Nat} (hc : c < 4) (hx : x ∈ R c) (h1 : ∀ j, j ≠ 13 → j ≠ 14 → F2 j = F j) (h3 : F2 14 = upd (F 14) c (nI ((R c).length - 1))) (h2 : F2 13 = va_cpy (F 13) (F 13) (12 * c + (R c).idxOf x + 1) (12 * c + (R c).idxOf x) ((R c).length - 1 - (R c).idxOf x)) : MV Q (va_up R c ((R c).erase x)) F2 := by
  obtain ⟨a1, a2, a3, a4⟩ := hV.2 c hc
  have hix := List.idxOf_lt_length_of_mem hx
  have hle := List.length_erase_of_mem hx
  refine hV.ring h1 (fun d k hd hne hk => ?_) (fun d hne => ?_) ⟨?_, ?_, ?_, ?_⟩
  · rw [h2, pk_cpy_out (by omega)]
  · rw [h3, pk_un hne]
  · rw [h3, pk_us, hle]
  · omega
  · exact fun y hy => a3 y (List.mem_of_mem_erase hy)
  · have := LF_erase (l := R c) (f := fun k => F 13 (12 * c + k)) (x := x) a4 hx
    intro k y hk
    rw [h2, ← this k y hk]
    by_cases h : (R c).idxOf x ≤ k ∧ k < (R c).idxOf x + ((R c).length - 1 - (R c).idxOf x)
    · rw [pk_cpy_in (by omega) (by omega), pk_cpy_in h.1 h.2]
      congr 1
      omega
    · rw [pk_cpy_out (by omega), pk_cpy_out (by omega)]
def rm_X3_enter : Room := { frames := 0, cells := 0, slots := 0, locals := 0 }
theorem ld_X3_enter : yX3_enter.cls ≠ "java/lang/invoke/MethodHandle" ∧ yX3_enter.cls ≠ "java/lang/invoke/VarHandle" ∧ (parseMethodDescriptor yX3_enter.desc).map (fun d => d.parameters.length) = some 1 := by decide +kernel
def sp_X3_enter (ids : Nat → ClassId) : lm_S := fun As n L post postX => ∃ Q R g t L0 q, MS ids n Q R g t L0 L ∧ As = [.ref 47, .int (nI q)] ∧ q < 12 ∧ qk (Q q) < 4 ∧ (R (qk (Q q))).length < 12 ∧ ∀ L1, MS ids n (va_up Q q (sT (Q q) false)) (va_up R (qk (Q q)) (R (qk (Q q)) ++ [q])) g t L0 L1 → post none n L1
set_option maxHeartbeats 4000000 in
set_option maxRecDepth 20000 in
theorem ok_X3_enter (l : Launch) (D : va_G) (ids : Nat → ClassId) (B b : Nat) : lm_M l D (lm_ty ids) B b false yX3_enter cX3_enter 3 none rm_X3_enter 0 0 (sp_X3_enter ids) := by
  refine lm_method (own := RX3) (fld := lf_3) (cv := (fun _ => none)) (cs := (fun _ => none)) (ci := (fun _ => none)) (kon := (fun _ => none)) (thr := (fun _ => none)) (nw := (fun _ => none)) (ini := false) (cp := none) (alc := false) (by decide +kernel) rfl rfl rfl (lf_3_ok _) ⟨?_, ?_⟩ ?_ (fun h => by cases h) (lm_aok0 _ _ _ _ _ _ _ _) ?_ ?_
  · intro j f hf
    cases hf
  · intro j f hf
    cases hf
  · intro j v hv; cases hv
  · exact Or.inl fun _ => rfl
  rintro As n L post postX ⟨Q, R, g, t, L0, q, hM, rfl, hq, hk4, hl, hp⟩
  refine ⟨by simp [Value.category], (Nat.le_of_ble_eq_true rfl), lm_cl_of ?_⟩
  intro G hG
  refine lg_aload_n hG dX3_enter_0 rfl ?_
  refine ms_get hG hM dX3_enter_1 rfl rfl ?_
  refine lg_iload_n hG dX3_enter_4 rfl ?_
  refine ms_ld hG hM dX3_enter_5 (by decide) rfl rfl (by first | assumption | omega) rfl rfl ?_
  obtain ⟨F, hF, hV⟩ := hM
  have h14 := (hV.2 _ hk4).1
  refine lg_istore_n hG dX3_enter_6 (Nat.le_of_ble_eq_true rfl) rfl ?_
  refine lg_aload_n hG dX3_enter_7 rfl ?_
  refine mg_get hG hF dX3_enter_8 rfl rfl ?_
  refine lg_bipush hG dX3_enter_11 (x := (12)) (by decide) ?_
  refine lg_iload_n hG dX3_enter_13 rfl ?_
  refine lg_imul hG dX3_enter_14 (mk12 _) ?_
  refine lg_aload_n hG dX3_enter_15 rfl ?_
  refine mg_get hG hF dX3_enter_16 rfl rfl ?_
  refine lg_iload_n hG dX3_enter_19 rfl ?_
  refine mg_ld hG hF dX3_enter_20 (by decide) rfl (show _ < 4 from hk4) (by decide) ?_
  rw [h14]
  refine lg_iadd hG dX3_enter_21 (nI_add _ _) ?_
  refine lg_iload_n hG dX3_enter_22 rfl ?_
  refine mg_st hG hF dX3_enter_23 (by decide) rfl (show _ < 48 by omega) (by decide) (fun L hF => ?_)
  refine lg_aload_n hG dX3_enter_24 rfl ?_
  refine mg_get hG hF dX3_enter_25 rfl rfl ?_
  refine lg_iload_n hG dX3_enter_28 rfl ?_
  refine lg_dup2 hG dX3_enter_29 rfl rfl ?_
  refine mg_ld hG hF dX3_enter_30 (by decide) rfl (show _ < 4 from hk4) (by decide) ?_
  rw [va_up_ne _ _ (by omega : 14 ≠ 13), h14]
  refine lg_iconst hG dX3_enter_31 (x := 1) (by decide) ?_
  refine lg_iadd hG dX3_enter_32 (nI_1 (R (qk (Q q))).length) ?_
  refine mg_st hG hF dX3_enter_33 (by decide) rfl (show _ < 4 from hk4) (by decide) (fun L hF => ?_)
  have hM : MS ids n Q (va_up R (qk (Q q)) (R (qk (Q q)) ++ [q])) g t L0 L := ⟨_, hF, hV.enter hk4 hl hq rfl (by rw [va_up_ne _ _ (by omega : 14 ≠ 13)])⟩
  refine lg_aload_n hG dX3_enter_34 rfl ?_
  refine ms_get hG hM dX3_enter_35 rfl rfl ?_
  refine lg_iload_n hG dX3_enter_38 rfl ?_
  refine lg_iconst hG dX3_enter_39 (x := 0) (by decide) ?_
  refine ms_bst hG hM dX3_enter_40 rfl (by first | exact Or.inl rfl | exact Or.inr rfl) (by first | assumption | omega) rfl (x' := sT (Q q) false) rfl rfl (fun L hM => ?_)
  try rw [bx_uu] at hM
  refine lg_vret hG dX3_enter_41 (Nat.le_of_ble_eq_true rfl) (Nat.le_of_ble_eq_true rfl) ?_
  exact ⟨trivial, hp _ hM⟩

def rm_X3_leave : Room := { frames := 1, cells := 0, slots := 0, locals := 23 }
theorem ld_X3_leave : yX3_leave.cls ≠ "java/lang/invoke/MethodHandle" ∧ yX3_leave.cls ≠ "java/lang/invoke/VarHandle" ∧ (parseMethodDescriptor yX3_leave.desc).map (fun d => d.parameters.length) = some 1 := by decide +kernel
def sp_X3_leave (ids : Nat → ClassId) : lm_S := fun As n L post postX => ∃ Q R g t L0 q, MS ids n Q R g t L0 L ∧ As = [.ref 47, .int (nI q)] ∧ q < 12 ∧ qk (Q q) < 4 ∧ ∀ L1, MS ids n (va_up Q q (sT (Q q) false)) (lvR Q R q) g t L0 L1 → post none n L1
def cv_X3_leave (ids : Nat → ClassId) : Nat → Option lm_C := fun j => match j with
  | 77 => some (2, 3, sp_X3_placeOf ids, 0, 0)
  | _ => none
set_option maxHeartbeats 4000000 in
set_option maxRecDepth 20000 in
theorem ok_X3_leave (l : Launch) (D : va_G) (ids : Nat → ClassId) (B b : Nat) : lm_M l D (lm_ty ids) B b false yX3_leave cX3_leave 5 none rm_X3_leave 0 0 (sp_X3_leave ids) := by
  refine lm_method (own := RX3) (fld := lf_3) (cv := (cv_X3_leave ids)) (cs := (fun _ => none)) (ci := (fun _ => none)) (kon := (fun _ => none)) (thr := (fun _ => none)) (nw := (fun _ => none)) (ini := false) (cp := none) (alc := false) (by decide +kernel) rfl rfl rfl (lf_3_ok _) ⟨?_, ?_⟩ ?_ (fun h => by cases h) (lm_aok0 _ _ _ _ _ _ _ _) ?_ ?_
  · intro j f hf
    unfold cv_X3_leave at hf
    split at hf
    · cases hf; exact ⟨yX3_placeOf, cX3_placeOf, 4, (some .int), rm_X3_placeOf, RX3, TX3, 22, 1, rfl, rfl, ok_X3_placeOf l D ids B b, lw_3_placeOf, ll_3_77, rfl, rfl, ⟨rfl, ld_X3_placeOf⟩, by decide⟩
    · cases hf
  · intro j f hf
    cases hf
  · intro j v hv; cases hv
  · exact Or.inl fun _ => rfl
  rintro As n L post postX ⟨Q, R, g, t, L0, q, hM, rfl, hq, hk4, hp⟩
  refine ⟨by simp [Value.category], (Nat.le_of_ble_eq_true rfl), lm_cl_of ?_⟩
  intro G hG
  refine lg_aload_n hG dX3_leave_0 rfl ?_
  refine ms_get hG hM dX3_leave_1 rfl rfl ?_
  refine lg_iload_n hG dX3_leave_4 rfl ?_
  refine ms_ld hG hM dX3_leave_5 (by decide) rfl rfl (by first | assumption | omega) rfl rfl ?_
  refine lg_istore_n hG dX3_leave_6 (Nat.le_of_ble_eq_true rfl) rfl ?_
  refine lg_aload_n hG dX3_leave_7 rfl ?_
  refine lg_iload_n hG dX3_leave_8 rfl ?_
  refine ms_call hG hM dX3_leave_9 rfl (fun P h => h) (Nat.le_of_ble_eq_true rfl) (Nat.le_of_ble_eq_true rfl) (Nat.le_of_ble_eq_true rfl) ?_
  refine ⟨Q, R, g, t, L0, q, hM, rfl, hq, hk4, ?_⟩
  unfold lvR at hp
  generalize hcc : qk (Q q) = c at *
  obtain ⟨hl12, hx12⟩ := hM.ring hk4
  by_cases hm : q ∈ R c
  · rw [if_pos hm]
    have hix := List.idxOf_lt_length_of_mem hm
    obtain ⟨F, hF, hV⟩ := hM
    have h14 := (hV.2 c hk4).1
    have loop : ∀ (m k : Nat) (F' : Nat → Nat → Int32) (L : lm_L), (R c).idxOf q ≤ k → k ≤ (R c).length - 1 → (R c).length - 1 - k < m → MF ids n 15 F' t (g 0) (g 3) (g 4) L0 L → (∀ j, j ≠ 13 → j ≠ 14 → F' j = F j) → F' 14 = upd (F 14) c (nI ((R c).length - 1)) → F' 13 = va_cpy (F 13) (F 13) (12 * c + (R c).idxOf q + 1) (12 * c + (R c).idxOf q) (k - (R c).idxOf q) → G 30 [some (.ref 47), some (.int (nI q)), some (.int (nI c)), some (.int (nI ((R c).idxOf q))), some (.int (nI k))] [] n L 0 0 := by
      intro m
      induction m with
      | zero => intro k F' L h0 h1 h2; omega
      | succ m ih =>
        intro k F' L hk0 hk hkm hF hfj e14 e13
        refine lg_iload hG dX3_leave_30 rfl ?_
        refine lg_aload_n hG dX3_leave_32 rfl ?_
        refine mg_get hG hF dX3_leave_33 rfl rfl ?_
        refine lg_iload_n hG dX3_leave_36 rfl ?_
        refine mg_ld hG hF dX3_leave_37 (by decide) rfl (show _ < 4 from hk4) (by decide) ?_
        rw [e14, pk_us]
        refine lg_icmp_ge hG dX3_leave_38 (tgt := 73) (by decide) (by decide) (fun h_38 => ?_) (fun h_38 => ?_)
        · skip
          have hkl : k = (R c).length - 1 := by
            rcases Nat.lt_or_ge k ((R c).length - 1) with h | h
            · exact absurd (nI_lt h (by omega)) h_38
            · omega
          subst hkl
          have hM : MS ids n Q (va_up R c ((R c).erase q)) g t L0 L := ⟨_, hF, hV.leave hk4 hm hfj e14 e13⟩
          refine lg_aload_n hG dX3_leave_73 rfl ?_
          refine ms_get hG hM dX3_leave_74 rfl rfl ?_
          refine lg_iload_n hG dX3_leave_77 rfl ?_
          refine lg_iconst hG dX3_leave_78 (x := 0) (by decide) ?_
          refine ms_bst hG hM dX3_leave_79 rfl (by first | exact Or.inl rfl | exact Or.inr rfl) (by first | assumption | omega) rfl (x' := sT (Q q) false) rfl rfl (fun L hM => ?_)
          try rw [bx_uu] at hM
          refine lg_vret hG dX3_leave_80 (Nat.le_of_ble_eq_true rfl) (Nat.le_of_ble_eq_true rfl) ?_
          exact ⟨trivial, hp _ hM⟩
        · skip
          have hkl : k < (R c).length - 1 := (nI_ltI (by omega) (by omega)).mp h_38
          refine lg_aload_n hG dX3_leave_41 rfl ?_
          refine mg_get hG hF dX3_leave_42 rfl rfl ?_
          refine lg_bipush hG dX3_leave_45 (x := (12)) (by decide) ?_
          refine lg_iload_n hG dX3_leave_47 rfl ?_
          refine lg_imul hG dX3_leave_48 (mk12 _) ?_
          refine lg_iload hG dX3_leave_49 rfl ?_
          refine lg_iadd hG dX3_leave_51 (nI_add _ _) ?_
          refine lg_aload_n hG dX3_leave_52 rfl ?_
          refine mg_get hG hF dX3_leave_53 rfl rfl ?_
          refine lg_bipush hG dX3_leave_56 (x := (12)) (by decide) ?_
          refine lg_iload_n hG dX3_leave_58 rfl ?_
          refine lg_imul hG dX3_leave_59 (mk12 _) ?_
          refine lg_iload hG dX3_leave_60 rfl ?_
          refine lg_iadd hG dX3_leave_62 (nI_add _ _) ?_
          refine lg_iconst hG dX3_leave_63 (x := 1) (by decide) ?_
          refine lg_iadd hG dX3_leave_64 (nI_1 (12 * c + k)) ?_
          refine mg_ld hG hF dX3_leave_65 (by decide) rfl (show _ < 48 by omega) (by decide) ?_
          rw [e13, pk_cpy_out (by omega)]
          refine mg_st hG hF dX3_leave_66 (by decide) rfl (show _ < 48 by omega) (by decide) (fun L hF => ?_)
          refine lg_iinc hG dX3_leave_67 (Nat.le_of_ble_eq_true rfl) rfl rfl rfl ?_
          refine lg_goto hG dX3_leave_70 (tgt := 30) (by decide) (by decide) ?_
          rw [show nI k + Int32.ofInt 1 = nI (k + 1) from nI_1 k]
          refine ih (k + 1) _ L (by omega) (by omega) (by omega) hF (fun j h13 h14 => (va_up_ne _ _ h13).trans (hfj j h13 h14)) ((va_up_ne _ _ (by omega : 14 ≠ 13)).trans e14) ?_
          rw [va_up_self, e13]
          have h9 := cpy_step (F 13) (12 * c + (R c).idxOf q) (k - (R c).idxOf q)
          rw [show 12 * c + (R c).idxOf q + (k - (R c).idxOf q) = 12 * c + k by omega] at h9
          rw [h9, show k - (R c).idxOf q + 1 = k + 1 - (R c).idxOf q by omega]
    refine lg_istore_n hG dX3_leave_12 (Nat.le_of_ble_eq_true rfl) rfl ?_
    refine lg_iload_n hG dX3_leave_13 rfl ?_
    refine lg_if_lt hG dX3_leave_14 (tgt := 73) (by decide) (by decide) (fun h_14 => ?_) (fun h_14 => ?_)
    · skip
      exact absurd h_14 (nI_pos (by omega)) --END
    · skip
      refine lg_aload_n hG dX3_leave_17 rfl ?_
      refine mg_get hG hF dX3_leave_18 rfl rfl ?_
      refine lg_iload_n hG dX3_leave_21 rfl ?_
      refine lg_dup2 hG dX3_leave_22 rfl rfl ?_
      refine mg_ld hG hF dX3_leave_23 (by decide) rfl (show _ < 4 from hk4) (by decide) ?_
      rw [h14]
      refine lg_iconst hG dX3_leave_24 (x := 1) (by decide) ?_
      refine lg_isub hG dX3_leave_25 (show nI (R c).length - 1 = nI ((R c).length - 1) from pk_sub (a := (R c).length) (b := 1) (by omega)) ?_
      refine mg_st hG hF dX3_leave_26 (by decide) rfl (show _ < 4 from hk4) (by decide) (fun L hF => ?_)
      refine lg_iload_n hG dX3_leave_27 rfl ?_
      refine lg_istore hG dX3_leave_28 (Nat.le_of_ble_eq_true rfl) rfl ?_
      exact loop ((R c).length + 1) ((R c).idxOf q) _ L (Nat.le_refl _) (by omega) (by omega) hF (fun j hj hj2 => va_up_ne _ _ hj2) (va_up_self _ _ _) (by rw [va_up_ne _ _ (by omega : 13 ≠ 14), Nat.sub_self]; funext i; rw [pk_cpy_out (by omega)])
  · rw [if_neg hm]
    rw [List.erase_of_not_mem hm, va_up_id rfl] at hp
    refine lg_istore_n hG dX3_leave_12 (Nat.le_of_ble_eq_true rfl) rfl ?_
    refine lg_iload_n hG dX3_leave_13 rfl ?_
    refine lg_if_lt hG dX3_leave_14 (tgt := 73) (by decide) (by decide) (fun h_14 => ?_) (fun h_14 => ?_)
    · skip
      refine lg_aload_n hG dX3_leave_73 rfl ?_
      refine ms_get hG hM dX3_leave_74 rfl rfl ?_
      refine lg_iload_n hG dX3_leave_77 rfl ?_
      refine lg_iconst hG dX3_leave_78 (x := 0) (by decide) ?_
      refine ms_bst hG hM dX3_leave_79 rfl (by first | exact Or.inl rfl | exact Or.inr rfl) (by first | assumption | omega) rfl (x' := sT (Q q) false) rfl rfl (fun L hM => ?_)
      try rw [bx_uu] at hM
      refine lg_vret hG dX3_leave_80 (Nat.le_of_ble_eq_true rfl) (Nat.le_of_ble_eq_true rfl) ?_
      exact ⟨trivial, hp _ hM⟩
    · skip
      exact absurd (by decide) h_14 --END

def rm_X3_settle : Room := { frames := 2, cells := 0, slots := 0, locals := 47 }
theorem ld_X3_settle : yX3_settle.cls ≠ "java/lang/invoke/MethodHandle" ∧ yX3_settle.cls ≠ "java/lang/invoke/VarHandle" ∧ (parseMethodDescriptor yX3_settle.desc).map (fun d => d.parameters.length) = some 1 := by decide +kernel
def sp_X3_settle (ids : Nat → ClassId) : lm_S := fun As n L post postX => ∃ Q R g t L0 q, MS ids n Q R g t L0 L ∧ As = [.ref 47, .int (nI q)] ∧ q < 12 ∧ qk (Q q) < 4 ∧ ∀ L1, MS ids n (if (qI (Q q)).length = 0 then va_up Q q (lvq (Q q)) else Q) (if (qI (Q q)).length = 0 then lvR Q R q else R) g t L0 L1 → post none n L1
def cv_X3_settle (ids : Nat → ClassId) : Nat → Option lm_C := fun j => match j with
  | 81 => some (2, 3, sp_X3_leave ids, 0, 0)
  | _ => none
set_option maxHeartbeats 4000000 in
set_option maxRecDepth 20000 in
theorem ok_X3_settle (l : Launch) (D : va_G) (ids : Nat → ClassId) (B b : Nat) : lm_M l D (lm_ty ids) B b false yX3_settle cX3_settle 2 none rm_X3_settle 0 0 (sp_X3_settle ids) := by
  refine lm_method (own := RX3) (fld := lf_3) (cv := (cv_X3_settle ids)) (cs := (fun _ => none)) (ci := (fun _ => none)) (kon := (fun _ => none)) (thr := (fun _ => none)) (nw := (fun _ => none)) (ini := false) (cp := none) (alc := false) (by decide +kernel) rfl rfl rfl (lf_3_ok _) ⟨?_, ?_⟩ ?_ (fun h => by cases h) (lm_aok0 _ _ _ _ _ _ _ _) ?_ ?_
  · intro j f hf
    unfold cv_X3_settle at hf
    split at hf
    · cases hf; exact ⟨yX3_leave, cX3_leave, 5, none, rm_X3_leave, RX3, TX3, 22, 1, rfl, rfl, ok_X3_leave l D ids B b, lw_3_leave, ll_3_81, rfl, rfl, ⟨rfl, ld_X3_leave⟩, by decide⟩
    · cases hf
  · intro j f hf
    cases hf
  · intro j v hv; cases hv
  · exact Or.inl fun _ => rfl
  rintro As n L post postX ⟨Q, R, g, t, L0, q, hM, rfl, hq, hk4, hp⟩
  refine ⟨by simp [Value.category], (Nat.le_of_ble_eq_true rfl), lm_cl_of ?_⟩
  intro G hG
  have hl96 := hM.len hq
  refine lg_aload_n hG dX3_settle_0 rfl ?_
  refine ms_get hG hM dX3_settle_1 rfl rfl ?_
  refine lg_iload_n hG dX3_settle_4 rfl ?_
  refine ms_ld hG hM dX3_settle_5 (by decide) rfl rfl (by first | assumption | omega) rfl rfl ?_
  refine lg_if_ne hG dX3_settle_6 (tgt := 21) (by decide) (by decide) (fun h_6 => ?_) (fun h_6 => ?_)
  · skip
    have e1 : ¬ (qI (Q q)).length = 0 := fun h => h_6 (by rw [h]; rfl)
    rw [if_neg e1, if_neg e1] at hp
    refine lg_vret hG dX3_settle_21 (Nat.le_of_ble_eq_true rfl) (Nat.le_of_ble_eq_true rfl) ?_
    exact ⟨trivial, hp _ hM⟩
  · skip
    have e1 : (qI (Q q)).length = 0 := (nI_eq (b := 0) (by omega) (by decide)).mp h_6
    rw [if_pos e1, if_pos e1] at hp
    refine lg_aload_n hG dX3_settle_9 rfl ?_
    refine lg_iload_n hG dX3_settle_10 rfl ?_
    refine ms_call hG hM dX3_settle_11 rfl (fun P h => h) (Nat.le_of_ble_eq_true rfl) (Nat.le_of_ble_eq_true rfl) (Nat.le_of_ble_eq_true rfl) ?_
    refine ⟨Q, R, g, t, L0, q, hM, rfl, hq, hk4, fun L hM => ?_⟩
    refine lg_aload_n hG dX3_settle_14 rfl ?_
    refine ms_get hG hM dX3_settle_15 rfl rfl ?_
    refine lg_iload_n hG dX3_settle_18 rfl ?_
    refine lg_iconst hG dX3_settle_19 (x := 0) (by decide) ?_
    refine ms_st hG hM dX3_settle_20 (by decide) rfl rfl (by first | assumption | omega) (va_up_self _ _ _) (x' := lvq (Q q)) (fun _ _ h => h) rfl (fun L hM => ?_)
    try rw [bx_uu] at hM
    refine lg_vret hG dX3_settle_21 (Nat.le_of_ble_eq_true rfl) (Nat.le_of_ble_eq_true rfl) ?_
    exact ⟨trivial, hp _ hM⟩

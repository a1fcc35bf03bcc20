theorem upd_le {f g : Nat → Int32} {k : Nat} (h : ∀ q, q < k → f q = g q) : ∀ q, q < k + 1 → upd f k (g k) q = g q := by
  intro q hq
  by_cases e : q = k
  · subst e; rw [pk_us]
  · rw [pk_un e]; exact h q (by omega)
def rm_X3_keepTurns : Room := { frames := 0, cells := 0, slots := 0, locals := 0 }
theorem ld_X3_keepTurns : yX3_keepTurns.cls ≠ "java/lang/invoke/MethodHandle" ∧ yX3_keepTurns.cls ≠ "java/lang/invoke/VarHandle" ∧ (parseMethodDescriptor yX3_keepTurns.desc).map (fun d => d.parameters.length) = some 0 := by decide +kernel
def sp_X3_keepTurns (ids : Nat → ClassId) : lm_S := fun As n L post postX => ∃ F t w o f L0, MF ids n 18 F t w o f L0 L ∧ As = [.ref 47] ∧ (∀ q, q < 12 → F 6 q = 0 ∨ F 6 q = 1) ∧ ∀ F' L1, (∀ j, j < 15 → F' j = F j) → (∀ q, q < 12 → F' 15 q = F 5 q) → (∀ q, q < 12 → F' 16 q = F 6 q) → (∀ k, k < 48 → F' 17 k = F 13 k) → MF ids n 18 F' t w o f L0 L1 → post none n L1
set_option maxHeartbeats 4000000 in
set_option maxRecDepth 20000 in
theorem ok_X3_keepTurns (l : Launch) (D : va_G) (ids : Nat → ClassId) (B b : Nat) : lm_M l D (lm_ty ids) B b false yX3_keepTurns cX3_keepTurns 2 none rm_X3_keepTurns 0 0 (sp_X3_keepTurns ids) := by
  refine lm_method (own := RX3) (fld := lf_3) (cv := (fun _ => none)) (cs := (fun _ => none)) (ci := (fun _ => none)) (kon := (fun _ => none)) (thr := (fun _ => none)) (nw := (fun _ => none)) (ini := false) (cp := none) (alc := false) (by decide +kernel) rfl rfl rfl (lf_3_ok _) ⟨?_, ?_⟩ ?_ (fun h => by cases h) (lm_aok0 _ _ _ _ _ _ _ _) ?_ ?_
  · intro j f hf
    cases hf
  · intro j f hf
    cases hf
  · intro j v hv; cases hv
  · exact Or.inl fun _ => rfl
  rintro As n L post postX ⟨F, t, w, o, f, L0, hF, rfl, h01, hp⟩
  refine ⟨by simp [Value.category], (Nat.le_of_ble_eq_true rfl), lm_cl_of ?_⟩
  intro G hG
  have loop2 : ∀ (m k : Nat) (F' : Nat → Nat → Int32) (L : lm_L), k ≤ 48 → 48 - k < m → MF ids n 18 F' t w o f L0 L → (∀ j, j < 15 → F' j = F j) → (∀ q, q < 12 → F' 15 q = F 5 q) → (∀ q, q < 12 → F' 16 q = F 6 q) → (∀ i, i < k → F' 17 i = F 13 i) → G 40 [some (.ref 47), some (.int (nI k))] [] n L 0 0 := by
    intro m
    induction m with
    | zero => intro k F' L h1 h2; omega
    | succ m ih =>
      intro k F' L hk hkm hF hfj hs5 hs6 hs17
      refine lg_iload_n hG dX3_keepTurns_40 rfl ?_
      refine lg_bipush hG dX3_keepTurns_41 (x := (48)) (by decide) ?_
      refine lg_icmp_ge hG dX3_keepTurns_43 (tgt := 64) (by decide) (by decide) (fun h_43 => ?_) (fun h_43 => ?_)
      · skip
        have hkl : k = 48 := by
          rcases Nat.lt_or_ge k 48 with h | h
          · exact absurd (nI_lt h (by omega)) h_43
          · omega
        subst hkl
        refine lg_vret hG dX3_keepTurns_64 (Nat.le_of_ble_eq_true rfl) (Nat.le_of_ble_eq_true rfl) ?_
        exact ⟨trivial, hp _ _ hfj hs5 hs6 hs17 hF⟩
      · skip
        have hkl : k < 48 := (nI_ltI (by omega) (by omega)).mp h_43
        refine lg_aload_n hG dX3_keepTurns_46 rfl ?_
        refine mg_get hG hF dX3_keepTurns_47 rfl rfl ?_
        refine lg_iload_n hG dX3_keepTurns_50 rfl ?_
        refine lg_aload_n hG dX3_keepTurns_51 rfl ?_
        refine mg_get hG hF dX3_keepTurns_52 rfl rfl ?_
        refine lg_iload_n hG dX3_keepTurns_55 rfl ?_
        refine mg_ld hG hF dX3_keepTurns_56 (by decide) rfl (show _ < 48 by omega) (by decide) ?_
        rw [hfj 13 (by omega)]
        refine mg_st hG hF dX3_keepTurns_57 (by decide) rfl (show _ < 48 by omega) (by decide) (fun L hF => ?_)
        refine lg_iinc hG dX3_keepTurns_58 (Nat.le_of_ble_eq_true rfl) rfl rfl rfl ?_
        refine lg_goto hG dX3_keepTurns_61 (tgt := 40) (by decide) (by decide) ?_
        rw [show nI k + Int32.ofInt 1 = nI (k + 1) from nI_1 k]
        exact ih (k + 1) _ L (by omega) (by omega) hF (fun j hj => (va_up_ne _ _ (by omega)).trans (hfj j hj)) (fun q hq => by rw [va_up_ne _ _ (by omega : 15 ≠ 17)]; exact hs5 q hq) (fun q hq => by rw [va_up_ne _ _ (by omega : 16 ≠ 17)]; exact hs6 q hq) (by rw [va_up_self]; exact upd_le hs17)
  have loop1 : ∀ (m k : Nat) (F' : Nat → Nat → Int32) (L : lm_L), k ≤ 12 → 12 - k < m → MF ids n 18 F' t w o f L0 L → (∀ j, j < 15 → F' j = F j) → (∀ q, q < k → F' 15 q = F 5 q) → (∀ q, q < k → F' 16 q = F 6 q) → G 2 [some (.ref 47), some (.int (nI k))] [] n L 0 0 := by
    intro m
    induction m with
    | zero => intro k F' L h1 h2; omega
    | succ m ih =>
      intro k F' L hk hkm hF hfj hs5 hs6
      refine lg_iload_n hG dX3_keepTurns_2 rfl ?_
      refine lg_bipush hG dX3_keepTurns_3 (x := (12)) (by decide) ?_
      refine lg_icmp_ge hG dX3_keepTurns_5 (tgt := 38) (by decide) (by decide) (fun h_5 => ?_) (fun h_5 => ?_)
      · skip
        have hkl : k = 12 := by
          rcases Nat.lt_or_ge k 12 with h | h
          · exact absurd (nI_lt h (by omega)) h_5
          · omega
        subst hkl
        refine lg_iconst hG dX3_keepTurns_38 (x := 0) (by decide) ?_
        refine lg_istore_n hG dX3_keepTurns_39 (Nat.le_of_ble_eq_true rfl) rfl ?_
        exact loop2 49 0 _ L (by omega) (by omega) hF hfj hs5 hs6 (fun i hi => by omega)
      · skip
        have hkl : k < 12 := (nI_ltI (by omega) (by omega)).mp h_5
        refine lg_aload_n hG dX3_keepTurns_8 rfl ?_
        refine mg_get hG hF dX3_keepTurns_9 rfl rfl ?_
        refine lg_iload_n hG dX3_keepTurns_12 rfl ?_
        refine lg_aload_n hG dX3_keepTurns_13 rfl ?_
        refine mg_get hG hF dX3_keepTurns_14 rfl rfl ?_
        refine lg_iload_n hG dX3_keepTurns_17 rfl ?_
        refine mg_ld hG hF dX3_keepTurns_18 (by decide) rfl (show _ < 12 by omega) (by decide) ?_
        rw [hfj 5 (by omega)]
        refine mg_st hG hF dX3_keepTurns_19 (by decide) rfl (show _ < 12 by omega) (by decide) (fun L hF => ?_)
        refine lg_aload_n hG dX3_keepTurns_20 rfl ?_
        refine mg_get hG hF dX3_keepTurns_21 rfl rfl ?_
        refine lg_iload_n hG dX3_keepTurns_24 rfl ?_
        refine lg_aload_n hG dX3_keepTurns_25 rfl ?_
        refine mg_get hG hF dX3_keepTurns_26 rfl rfl ?_
        refine lg_iload_n hG dX3_keepTurns_29 rfl ?_
        refine mg_bld hG hF dX3_keepTurns_30 (by decide) rfl (show _ < 12 by omega) (by decide) ?_
        rw [va_up_ne _ _ (by omega : 6 ≠ 15), hfj 6 (by omega)]
        refine mg_bst hG hF dX3_keepTurns_31 (by decide) rfl (h01 k hkl) (show _ < 12 by omega) (by decide) (fun L hF => ?_)
        refine lg_iinc hG dX3_keepTurns_32 (Nat.le_of_ble_eq_true rfl) rfl rfl rfl ?_
        refine lg_goto hG dX3_keepTurns_35 (tgt := 2) (by decide) (by decide) ?_
        rw [show nI k + Int32.ofInt 1 = nI (k + 1) from nI_1 k]
        exact ih (k + 1) _ L (by omega) (by omega) hF (fun j hj => ((va_up_ne _ _ (by omega)).trans (va_up_ne _ _ (by omega))).trans (hfj j hj)) (by rw [va_up_ne _ _ (by omega : 15 ≠ 16), va_up_self]; exact upd_le hs5) (by rw [va_up_self, va_up_ne _ _ (by omega : 16 ≠ 15)]; exact upd_le hs6)
  refine lg_iconst hG dX3_keepTurns_0 (x := 0) (by decide) ?_
  refine lg_istore_n hG dX3_keepTurns_1 (Nat.le_of_ble_eq_true rfl) rfl ?_
  exact loop1 13 0 F L (by omega) (by omega) hF (fun _ _ => rfl) (fun i hi => by omega) (fun i hi => by omega)

def rm_X3_turnBack : Room := { frames := 0, cells := 0, slots := 0, locals := 0 }
theorem ld_X3_turnBack : yX3_turnBack.cls ≠ "java/lang/invoke/MethodHandle" ∧ yX3_turnBack.cls ≠ "java/lang/invoke/VarHandle" ∧ (parseMethodDescriptor yX3_turnBack.desc).map (fun d => d.parameters.length) = some 0 := by decide +kernel
def sp_X3_turnBack (ids : Nat → ClassId) : lm_S := fun As n L post postX => ∃ F t w o f L0, MF ids n 18 F t w o f L0 L ∧ As = [.ref 47] ∧ (∀ q, q < 12 → F 16 q = 0 ∨ F 16 q = 1) ∧ ∀ F' L1, (∀ j, j ≠ 5 → j ≠ 6 → j ≠ 13 → F' j = F j) → (∀ q, q < 12 → F' 5 q = F 15 q) → (∀ q, q < 12 → F' 6 q = F 16 q) → (∀ k, k < 48 → F' 13 k = F 17 k) → MF ids n 18 F' t w o f L0 L1 → post none n L1
set_option maxHeartbeats 4000000 in
set_option maxRecDepth 20000 in
theorem ok_X3_turnBack (l : Launch) (D : va_G) (ids : Nat → ClassId) (B b : Nat) : lm_M l D (lm_ty ids) B b false yX3_turnBack cX3_turnBack 2 none rm_X3_turnBack 0 0 (sp_X3_turnBack ids) := by
  refine lm_method (own := RX3) (fld := lf_3) (cv := (fun _ => none)) (cs := (fun _ => none)) (ci := (fun _ => none)) (kon := (fun _ => none)) (thr := (fun _ => none)) (nw := (fun _ => none)) (ini := false) (cp := none) (alc := false) (by decide +kernel) rfl rfl rfl (lf_3_ok _) ⟨?_, ?_⟩ ?_ (fun h => by cases h) (lm_aok0 _ _ _ _ _ _ _ _) ?_ ?_
  · intro j f hf
    cases hf
  · intro j f hf
    cases hf
  · intro j v hv; cases hv
  · exact Or.inl fun _ => rfl
  rintro As n L post postX ⟨F, t, w, o, f, L0, hF, rfl, h01, hp⟩
  refine ⟨by simp [Value.category], (Nat.le_of_ble_eq_true rfl), lm_cl_of ?_⟩
  intro G hG
  have loop2 : ∀ (m k : Nat) (F' : Nat → Nat → Int32) (L : lm_L), k ≤ 48 → 48 - k < m → MF ids n 18 F' t w o f L0 L → (∀ j, j ≠ 5 → j ≠ 6 → j ≠ 13 → F' j = F j) → (∀ q, q < 12 → F' 5 q = F 15 q) → (∀ q, q < 12 → F' 6 q = F 16 q) → (∀ i, i < k → F' 13 i = F 17 i) → G 40 [some (.ref 47), some (.int (nI k))] [] n L 0 0 := by
    intro m
    induction m with
    | zero => intro k F' L h1 h2; omega
    | succ m ih =>
      intro k F' L hk hkm hF hfj hs5 hs6 hs17
      refine lg_iload_n hG dX3_turnBack_40 rfl ?_
      refine lg_bipush hG dX3_turnBack_41 (x := (48)) (by decide) ?_
      refine lg_icmp_ge hG dX3_turnBack_43 (tgt := 64) (by decide) (by decide) (fun h_43 => ?_) (fun h_43 => ?_)
      · skip
        have hkl : k = 48 := by
          rcases Nat.lt_or_ge k 48 with h | h
          · exact absurd (nI_lt h (by omega)) h_43
          · omega
        subst hkl
        refine lg_vret hG dX3_turnBack_64 (Nat.le_of_ble_eq_true rfl) (Nat.le_of_ble_eq_true rfl) ?_
        exact ⟨trivial, hp _ _ hfj hs5 hs6 hs17 hF⟩
      · skip
        have hkl : k < 48 := (nI_ltI (by omega) (by omega)).mp h_43
        refine lg_aload_n hG dX3_turnBack_46 rfl ?_
        refine mg_get hG hF dX3_turnBack_47 rfl rfl ?_
        refine lg_iload_n hG dX3_turnBack_50 rfl ?_
        refine lg_aload_n hG dX3_turnBack_51 rfl ?_
        refine mg_get hG hF dX3_turnBack_52 rfl rfl ?_
        refine lg_iload_n hG dX3_turnBack_55 rfl ?_
        refine mg_ld hG hF dX3_turnBack_56 (by decide) rfl (show _ < 48 by omega) (by decide) ?_
        rw [hfj 17 (by omega) (by omega) (by omega)]
        refine mg_st hG hF dX3_turnBack_57 (by decide) rfl (show _ < 48 by omega) (by decide) (fun L hF => ?_)
        refine lg_iinc hG dX3_turnBack_58 (Nat.le_of_ble_eq_true rfl) rfl rfl rfl ?_
        refine lg_goto hG dX3_turnBack_61 (tgt := 40) (by decide) (by decide) ?_
        rw [show nI k + Int32.ofInt 1 = nI (k + 1) from nI_1 k]
        exact ih (k + 1) _ L (by omega) (by omega) hF (fun j h5 h6 h13 => (va_up_ne _ _ h13).trans (hfj j h5 h6 h13)) (fun q hq => by rw [va_up_ne _ _ (by omega : 5 ≠ 13)]; exact hs5 q hq) (fun q hq => by rw [va_up_ne _ _ (by omega : 6 ≠ 13)]; exact hs6 q hq) (by rw [va_up_self]; exact upd_le hs17)
  have loop1 : ∀ (m k : Nat) (F' : Nat → Nat → Int32) (L : lm_L), k ≤ 12 → 12 - k < m → MF ids n 18 F' t w o f L0 L → (∀ j, j ≠ 5 → j ≠ 6 → j ≠ 13 → F' j = F j) → (∀ q, q < k → F' 5 q = F 15 q) → (∀ q, q < k → F' 6 q = F 16 q) → G 2 [some (.ref 47), some (.int (nI k))] [] n L 0 0 := by
    intro m
    induction m with
    | zero => intro k F' L h1 h2; omega
    | succ m ih =>
      intro k F' L hk hkm hF hfj hs5 hs6
      refine lg_iload_n hG dX3_turnBack_2 rfl ?_
      refine lg_bipush hG dX3_turnBack_3 (x := (12)) (by decide) ?_
      refine lg_icmp_ge hG dX3_turnBack_5 (tgt := 38) (by decide) (by decide) (fun h_5 => ?_) (fun h_5 => ?_)
      · skip
        have hkl : k = 12 := by
          rcases Nat.lt_or_ge k 12 with h | h
          · exact absurd (nI_lt h (by omega)) h_5
          · omega
        subst hkl
        refine lg_iconst hG dX3_turnBack_38 (x := 0) (by decide) ?_
        refine lg_istore_n hG dX3_turnBack_39 (Nat.le_of_ble_eq_true rfl) rfl ?_
        exact loop2 49 0 _ L (by omega) (by omega) hF hfj hs5 hs6 (fun i hi => by omega)
      · skip
        have hkl : k < 12 := (nI_ltI (by omega) (by omega)).mp h_5
        refine lg_aload_n hG dX3_turnBack_8 rfl ?_
        refine mg_get hG hF dX3_turnBack_9 rfl rfl ?_
        refine lg_iload_n hG dX3_turnBack_12 rfl ?_
        refine lg_aload_n hG dX3_turnBack_13 rfl ?_
        refine mg_get hG hF dX3_turnBack_14 rfl rfl ?_
        refine lg_iload_n hG dX3_turnBack_17 rfl ?_
        refine mg_ld hG hF dX3_turnBack_18 (by decide) rfl (show _ < 12 by omega) (by decide) ?_
        rw [hfj 15 (by omega) (by omega) (by omega)]
        refine mg_st hG hF dX3_turnBack_19 (by decide) rfl (show _ < 12 by omega) (by decide) (fun L hF => ?_)
        refine lg_aload_n hG dX3_turnBack_20 rfl ?_
        refine mg_get hG hF dX3_turnBack_21 rfl rfl ?_
        refine lg_iload_n hG dX3_turnBack_24 rfl ?_
        refine lg_aload_n hG dX3_turnBack_25 rfl ?_
        refine mg_get hG hF dX3_turnBack_26 rfl rfl ?_
        refine lg_iload_n hG dX3_turnBack_29 rfl ?_
        refine mg_bld hG hF dX3_turnBack_30 (by decide) rfl (show _ < 12 by omega) (by decide) ?_
        rw [va_up_ne _ _ (by omega : 16 ≠ 5), hfj 16 (by omega) (by omega) (by omega)]
        refine mg_bst hG hF dX3_turnBack_31 (by decide) rfl (h01 k hkl) (show _ < 12 by omega) (by decide) (fun L hF => ?_)
        refine lg_iinc hG dX3_turnBack_32 (Nat.le_of_ble_eq_true rfl) rfl rfl rfl ?_
        refine lg_goto hG dX3_turnBack_35 (tgt := 2) (by decide) (by decide) ?_
        rw [show nI k + Int32.ofInt 1 = nI (k + 1) from nI_1 k]
        exact ih (k + 1) _ L (by omega) (by omega) hF (fun j h5 h6 h13 => ((va_up_ne _ _ h6).trans (va_up_ne _ _ h5)).trans (hfj j h5 h6 h13)) (by rw [va_up_ne _ _ (by omega : 5 ≠ 6), va_up_self]; exact upd_le hs5) (by rw [va_up_self, va_up_ne _ _ (by omega : 6 ≠ 5)]; exact upd_le hs6)
  refine lg_iconst hG dX3_turnBack_0 (x := 0) (by decide) ?_
  refine lg_istore_n hG dX3_turnBack_1 (Nat.le_of_ble_eq_true rfl) rfl ?_
  exact loop1 13 0 F L (by omega) (by omega) hF (fun _ _ _ _ => rfl) (fun i hi => by omega) (fun i hi => by omega)

/-- the first item is taken -/
def tkx (x : Qs) (y : Int32 × Nat) : Qs := s3 (s2 (sD x (qd x - y.2)) (q2 x + 1)) (q3 x + nI y.2)
theorem MV.items {Q : Nat → Qs} {R : Nat → List Nat} {F F2 : Nat → Nat → Int32} (hV : MV Q R F) {q : Nat} {I : List (Int32 × Nat)} (h1 : ∀ j, j ≠ 4 → j ≠ 7 → j ≠ 8 → F2 j = F j) (h4 : F2 4 = upd (F 4) q (nI I.length)) (h7 : ∀ p k, p < 12 → p ≠ q → k < 96 → F2 7 (96 * p + k) = F 7 (96 * p + k)) (h8 : ∀ p k, p < 12 → p ≠ q → k < 96 → F2 8 (96 * p + k) = F 8 (96 * p + k)) (hl : I.length ≤ 96) (hI : MI I F2 q) : MV (va_up Q q (sI (Q q) I)) R F2 := by
  refine ⟨fun p hp => ?_, fun c hc => ?_⟩
  · by_cases e : p = q
    · subst e
      rw [va_up_self]
      refine ⟨fun j v j7 j8 hj => ?_, hl, hI⟩
      by_cases e4 : j = 4
      · subst e4
        rw [h4, pk_us]
        exact Option.some.inj hj
      · rw [h1 j e4 j7 j8]
        refine (hV.1 p hp).1 j v j7 j8 ?_
        rw [← hj]
        have hs : mql (sI (Q p) I) = (mql (Q p)).set 4 (nI I.length) := rfl
        rw [hs, List.getElem?_set_ne (Ne.symm e4)]
    · rw [va_up_ne _ _ e]
      obtain ⟨a1, a2, a3⟩ := hV.1 p hp
      refine ⟨fun j v j7 j8 hj => ?_, a2, fun k y hk => ?_⟩
      · by_cases e4 : j = 4
        · subst e4
          rw [h4, pk_un e]; exact a1 4 v j7 j8 hj
        · rw [h1 j e4 j7 j8]; exact a1 j v j7 j8 hj
      · have := (List.getElem?_eq_some_iff.mp hk).1
        rw [h7 p k hp e (by omega), h8 p k hp e (by omega)]
        exact a3 k y hk
  · obtain ⟨a1, a2, a3, a4⟩ := hV.2 c hc
    refine ⟨?_, a2, a3, fun k x hk => ?_⟩
    · rw [h1 14 (by omega) (by omega) (by omega)]; exact a1
    · rw [h1 13 (by omega) (by omega) (by omega)]; exact a4 k x hk
theorem MV.take {Q : Nat → Qs} {R : Nat → List Nat} {F F2 : Nat → Nat → Int32} (hV : MV Q R F) {q : Nat} {y : Int32 × Nat} {t : List (Int32 × Nat)} (hq : q < 12) (hy : qI (Q q) = y :: t) (h1 : ∀ j, j ≠ 4 → j ≠ 7 → j ≠ 8 → F2 j = F j) (h4 : F2 4 = upd (F 4) q (nI t.length)) (h7 : F2 7 = va_cpy (F 7) (F 7) (96 * q + 1) (96 * q) t.length) (h8 : F2 8 = va_cpy (F 8) (F 8) (96 * q + 1) (96 * q) t.length) : MV (va_up Q q (sI (Q q) t)) R F2 := by
  obtain ⟨a1, a2, a3⟩ := hV.1 q hq
  rw [hy] at a2 a3
  have hl : t.length + 1 ≤ 96 := a2
  refine hV.items h1 h4 (fun p k hp hne hk => ?_) (fun p k hp hne hk => ?_) (by omega) (fun k z hk => ?_)
  · rw [h7, pk_cpy_out (by omega)]
  · rw [h8, pk_cpy_out (by omega)]
  · have hkl := (List.getElem?_eq_some_iff.mp hk).1
    rw [h7, h8, pk_cpy_in (by omega) (by omega), pk_cpy_in (by omega) (by omega), show 96 * q + 1 + (96 * q + k - 96 * q) = 96 * q + (k + 1) by omega]
    exact a3 (k + 1) z hk
theorem MV.push {Q : Nat → Qs} {R : Nat → List Nat} {F F2 : Nat → Nat → Int32} (hV : MV Q R F) {q c : Nat} {w : Int32} (hq : q < 12) (hl : (qI (Q q)).length < 96) (h1 : ∀ j, j ≠ 4 → j ≠ 7 → j ≠ 8 → F2 j = F j) (h4 : F2 4 = upd (F 4) q (nI ((qI (Q q)).length + 1))) (h7 : F2 7 = upd (F 7) (96 * q + (qI (Q q)).length) w) (h8 : F2 8 = upd (F 8) (96 * q + (qI (Q q)).length) (nI c)) : MV (va_up Q q (sI (Q q) (qI (Q q) ++ [(w, c)]))) R F2 := by
  obtain ⟨a1, a2, a3⟩ := hV.1 q hq
  refine hV.items h1 (by rw [h4, List.length_append]; rfl) (fun p k hp hne hk => ?_) (fun p k hp hne hk => ?_) (by rw [List.length_append]; exact hl) (fun k z hk => ?_)
  · rw [h7, pk_un (by omega)]
  · rw [h8, pk_un (by omega)]
  · rcases Nat.lt_or_ge k (qI (Q q)).length with h | h
    · rw [List.getElem?_append_left h] at hk
      rw [h7, h8, pk_un (by omega), pk_un (by omega)]
      exact a3 k z hk
    · rw [List.getElem?_append_right h] at hk
      have hz : k - (qI (Q q)).length = 0 := by
        have := (List.getElem?_eq_some_iff.mp hk).1
        simp at this
        omega
      rw [hz] at hk
      have hz2 : z = (w, c) := by simpa using hk.symm
      subst hz2
      rw [show k = (qI (Q q)).length by omega, h7, h8, pk_us, pk_us]
      exact ⟨rfl, rfl⟩
def rm_X3_take : Room := { frames := 3, cells := 0, slots := 0, locals := 68 }
theorem ld_X3_take : yX3_take.cls ≠ "java/lang/invoke/MethodHandle" ∧ yX3_take.cls ≠ "java/lang/invoke/VarHandle" ∧ (parseMethodDescriptor yX3_take.desc).map (fun d => d.parameters.length) = some 1 := by decide +kernel
def sp_X3_take (ids : Nat → ClassId) : lm_S := fun As n L post postX => ∃ Q R g t L0 q y r, MS ids n Q R g t L0 L ∧ As = [.ref 47, .int (nI q)] ∧ q < 12 ∧ qI (Q q) = y :: r ∧ y.2 ≤ qd (Q q) ∧ qk (Q q) < 4 ∧ ∀ L1, MS ids n (va_up Q q (if r.length = 0 then lvq (sI (tkx (Q q) y) r) else sI (tkx (Q q) y) r)) (if r.length = 0 then lvR Q R q else R) (upd g 0 y.1) t L0 L1 → post none n L1
def cv_X3_take (ids : Nat → ClassId) : Nat → Option lm_C := fun j => match j with
  | 106 => some (2, 3, sp_X3_settle ids, 0, 0)
  | _ => none
set_option maxHeartbeats 4000000 in
set_option maxRecDepth 20000 in
theorem ok_X3_take (l : Launch) (D : va_G) (ids : Nat → ClassId) (B b : Nat) : lm_M l D (lm_ty ids) B b false yX3_take cX3_take 4 none rm_X3_take 0 0 (sp_X3_take ids) := by
  refine lm_method (own := RX3) (fld := lf_3) (cv := (cv_X3_take ids)) (cs := (fun _ => none)) (ci := (fun _ => none)) (kon := (fun _ => none)) (thr := (fun _ => none)) (nw := (fun _ => none)) (ini := false) (cp := none) (alc := false) (by decide +kernel) rfl rfl rfl (lf_3_ok _) ⟨?_, ?_⟩ ?_ (fun h => by cases h) (lm_aok0 _ _ _ _ _ _ _ _) ?_ ?_
  · intro j f hf
    unfold cv_X3_take at hf
    split at hf
    · cases hf; exact ⟨yX3_settle, cX3_settle, 2, none, rm_X3_settle, RX3, TX3, 22, 1, rfl, rfl, ok_X3_settle l D ids B b, lw_3_settle, ll_3_106, rfl, rfl, ⟨rfl, ld_X3_settle⟩, by decide⟩
    · cases hf
  · intro j f hf
    cases hf
  · intro j v hv; cases hv
  · exact Or.inl fun _ => rfl
  rintro As n L post postX ⟨Q, R, g, t, L0, q, y, r, hM, rfl, hq, hy, hd, hk4, hp⟩
  refine ⟨by simp [Value.category], (Nat.le_of_ble_eq_true rfl), lm_cl_of ?_⟩
  intro G hG
  have hl96 : r.length + 1 ≤ 96 := by have := hM.len hq; rw [hy] at this; exact this
  refine lg_aload_n hG dX3_take_0 rfl ?_
  refine ms_get hG hM dX3_take_1 rfl rfl ?_
  refine lg_bipush hG dX3_take_4 (x := (96)) (by decide) ?_
  refine lg_iload_n hG dX3_take_6 rfl ?_
  refine lg_imul hG dX3_take_7 (mk96 _) ?_
  refine ms_ldC (i := 0) hG hM dX3_take_8 rfl (by first | assumption | omega) rfl (show (qI (Q q))[0]? = some y by rw [hy]; rfl) ?_
  refine lg_istore_n hG dX3_take_9 (Nat.le_of_ble_eq_true rfl) rfl ?_
  refine lg_aload_n hG dX3_take_10 rfl ?_
  refine lg_aload_n hG dX3_take_11 rfl ?_
  refine ms_get hG hM dX3_take_12 rfl rfl ?_
  refine lg_bipush hG dX3_take_15 (x := (96)) (by decide) ?_
  refine lg_iload_n hG dX3_take_17 rfl ?_
  refine lg_imul hG dX3_take_18 (mk96 _) ?_
  refine ms_ldW (i := 0) hG hM dX3_take_19 rfl (by first | assumption | omega) rfl (show (qI (Q q))[0]? = some y by rw [hy]; rfl) ?_
  refine ms_put hG hM dX3_take_20 rfl (by first | trivial | exact Or.inl rfl | exact Or.inr rfl | assumption) (by decide) (t' := t) (g' := upd g 0 y.1) rfl (fun L hM => ?_)
  refine lg_aload_n hG dX3_take_23 rfl ?_
  refine ms_get hG hM dX3_take_24 rfl rfl ?_
  refine lg_iload_n hG dX3_take_27 rfl ?_
  refine lg_aload_n hG dX3_take_28 rfl ?_
  refine ms_get hG hM dX3_take_29 rfl rfl ?_
  refine lg_iload_n hG dX3_take_32 rfl ?_
  refine ms_ld hG hM dX3_take_33 (by decide) rfl rfl (by first | assumption | omega) rfl rfl ?_
  refine lg_iload_n hG dX3_take_34 rfl ?_
  refine lg_isub hG dX3_take_35 (show nI (qd (Q q)) - nI y.2 = nI (qd (Q q) - y.2) from pk_sub hd) ?_
  refine ms_st hG hM dX3_take_36 (by decide) rfl rfl (by first | assumption | omega) rfl (x' := sD (Q q) (qd (Q q) - y.2)) (fun _ _ h => h) rfl (fun L hM => ?_)
  try rw [bx_uu] at hM
  refine lg_aload_n hG dX3_take_37 rfl ?_
  refine ms_get hG hM dX3_take_38 rfl rfl ?_
  refine lg_iload_n hG dX3_take_41 rfl ?_
  refine lg_dup2 hG dX3_take_42 rfl rfl ?_
  refine ms_ld hG hM dX3_take_43 (by decide) rfl rfl (by first | assumption | omega) (va_up_self _ _ _) rfl ?_
  refine lg_iconst hG dX3_take_44 (x := 1) (by decide) ?_
  refine lg_iadd hG dX3_take_45 rfl ?_
  refine ms_st hG hM dX3_take_46 (by decide) rfl rfl (by first | assumption | omega) (va_up_self _ _ _) (x' := s2 (sD (Q q) (qd (Q q) - y.2)) (q2 (Q q) + 1)) (fun _ _ h => h) rfl (fun L hM => ?_)
  try rw [bx_uu] at hM
  refine lg_aload_n hG dX3_take_47 rfl ?_
  refine ms_get hG hM dX3_take_48 rfl rfl ?_
  refine lg_iload_n hG dX3_take_51 rfl ?_
  refine lg_aload_n hG dX3_take_52 rfl ?_
  refine ms_get hG hM dX3_take_53 rfl rfl ?_
  refine lg_iload_n hG dX3_take_56 rfl ?_
  refine ms_ld hG hM dX3_take_57 (by decide) rfl rfl (by first | assumption | omega) (va_up_self _ _ _) rfl ?_
  refine lg_iload_n hG dX3_take_58 rfl ?_
  refine lg_iadd hG dX3_take_59 rfl ?_
  refine ms_st hG hM dX3_take_60 (by decide) rfl rfl (by first | assumption | omega) (va_up_self _ _ _) (x' := tkx (Q q) y) (fun _ _ h => h) rfl (fun L hM => ?_)
  try rw [bx_uu] at hM
  obtain ⟨F, hF, hV⟩ := hM
  have e4 : F 4 q = nI (r.length + 1) := (hV.1 q hq).1 4 _ (by omega) (by omega) (by rw [va_up_self]; show some (nI (qI (Q q)).length) = _; rw [hy]; rfl)
  refine lg_aload_n hG dX3_take_61 rfl ?_
  refine mg_get hG hF dX3_take_62 rfl rfl ?_
  refine lg_iload_n hG dX3_take_65 rfl ?_
  refine lg_dup2 hG dX3_take_66 rfl rfl ?_
  refine mg_ld hG hF dX3_take_67 (by decide) rfl (show _ < 12 by omega) (by decide) ?_
  rw [e4]
  refine lg_iconst hG dX3_take_68 (x := 1) (by decide) ?_
  refine lg_isub hG dX3_take_69 (nI_pred r.length) ?_
  refine mg_st hG hF dX3_take_70 (by decide) rfl (show _ < 12 by omega) (by decide) (fun L hF => ?_)
  refine lg_iconst hG dX3_take_71 (x := 0) (by decide) ?_
  refine lg_istore_n hG dX3_take_72 (Nat.le_of_ble_eq_true rfl) rfl ?_
  have loop : ∀ (m k : Nat) (F' : Nat → Nat → Int32) (L : lm_L), k ≤ r.length → r.length - k < m → MF ids n 15 F' t y.1 (g 3) (g 4) L0 L → (∀ j, j ≠ 4 → j ≠ 7 → j ≠ 8 → F' j = F j) → F' 4 = upd (F 4) q (nI r.length) → F' 7 = va_cpy (F 7) (F 7) (96 * q + 1) (96 * q) k → F' 8 = va_cpy (F 8) (F 8) (96 * q + 1) (96 * q) k → G 73 [some (.ref 47), some (.int (nI q)), some (.int (nI y.2)), some (.int (nI k))] [] n L 0 0 := by
    intro m
    induction m with
    | zero => intro k F' L h1 h2; omega
    | succ m ih =>
      intro k F' L hk hkm hF hfj f4 f7 f8
      refine lg_iload_n hG dX3_take_73 rfl ?_
      refine lg_aload_n hG dX3_take_74 rfl ?_
      refine mg_get hG hF dX3_take_75 rfl rfl ?_
      refine lg_iload_n hG dX3_take_78 rfl ?_
      refine mg_ld hG hF dX3_take_79 (by decide) rfl (show _ < 12 by omega) (by decide) ?_
      rw [f4, pk_us]
      refine lg_icmp_ge hG dX3_take_80 (tgt := 137) (by decide) (by decide) (fun h_80 => ?_) (fun h_80 => ?_)
      · skip
        have hkl : k = r.length := by
          rcases Nat.lt_or_ge k r.length with h | h
          · exact absurd (nI_lt h (by omega)) h_80
          · omega
        subst hkl
        have hM : MS ids n (va_up Q q (sI (tkx (Q q) y) r)) R (upd g 0 y.1) t L0 L := by
          refine ⟨_, hF, ?_⟩
          have h9 := hV.take (y := y) (t := r) hq (by rw [va_up_self]; exact hy) hfj f4 f7 f8
          rw [va_up_self, bx_uu] at h9
          exact h9
        refine lg_aload_n hG dX3_take_137 rfl ?_
        refine lg_iload_n hG dX3_take_138 rfl ?_
        refine ms_call hG hM dX3_take_139 rfl (fun P h => h) (Nat.le_of_ble_eq_true rfl) (Nat.le_of_ble_eq_true rfl) (Nat.le_of_ble_eq_true rfl) ?_
        refine ⟨_, R, _, t, L0, q, hM, rfl, hq, by rw [va_up_self]; exact hk4, fun L hM => ?_⟩
        rw [va_up_self, bx_uu] at hM
        have hp := hp L (by
          by_cases e0 : r.length = 0
          · have e0b : (qI (sI (tkx (Q q) y) r)).length = 0 := e0
            rw [if_pos e0b, if_pos e0b] at hM
            rw [if_pos e0, if_pos e0]
            unfold lvR at hM ⊢
            rw [va_up_self] at hM
            exact hM
          · have e0b : ¬ (qI (sI (tkx (Q q) y) r)).length = 0 := e0
            rw [if_neg e0b, if_neg e0b] at hM
            rw [if_neg e0, if_neg e0]
            exact hM)
        refine lg_vret hG dX3_take_142 (Nat.le_of_ble_eq_true rfl) (Nat.le_of_ble_eq_true rfl) ?_
        exact ⟨trivial, hp⟩
      · skip
        have hkl : k < r.length := (nI_ltI (by omega) (by omega)).mp h_80
        refine lg_aload_n hG dX3_take_83 rfl ?_
        refine mg_get hG hF dX3_take_84 rfl rfl ?_
        refine lg_bipush hG dX3_take_87 (x := (96)) (by decide) ?_
        refine lg_iload_n hG dX3_take_89 rfl ?_
        refine lg_imul hG dX3_take_90 (mk96 _) ?_
        refine lg_iload_n hG dX3_take_91 rfl ?_
        refine lg_iadd hG dX3_take_92 (nI_add _ _) ?_
        refine lg_aload_n hG dX3_take_93 rfl ?_
        refine mg_get hG hF dX3_take_94 rfl rfl ?_
        refine lg_bipush hG dX3_take_97 (x := (96)) (by decide) ?_
        refine lg_iload_n hG dX3_take_99 rfl ?_
        refine lg_imul hG dX3_take_100 (mk96 _) ?_
        refine lg_iload_n hG dX3_take_101 rfl ?_
        refine lg_iadd hG dX3_take_102 (nI_add _ _) ?_
        refine lg_iconst hG dX3_take_103 (x := 1) (by decide) ?_
        refine lg_iadd hG dX3_take_104 (nI_1 (96 * q + k)) ?_
        refine mg_ld hG hF dX3_take_105 (by decide) rfl (show _ < 1152 by omega) (by decide) ?_
        rw [f7, pk_cpy_out (by omega)]
        refine mg_st hG hF dX3_take_106 (by decide) rfl (show _ < 1152 by omega) (by decide) (fun L hF => ?_)
        refine lg_aload_n hG dX3_take_107 rfl ?_
        refine mg_get hG hF dX3_take_108 rfl rfl ?_
        refine lg_bipush hG dX3_take_111 (x := (96)) (by decide) ?_
        refine lg_iload_n hG dX3_take_113 rfl ?_
        refine lg_imul hG dX3_take_114 (mk96 _) ?_
        refine lg_iload_n hG dX3_take_115 rfl ?_
        refine lg_iadd hG dX3_take_116 (nI_add _ _) ?_
        refine lg_aload_n hG dX3_take_117 rfl ?_
        refine mg_get hG hF dX3_take_118 rfl rfl ?_
        refine lg_bipush hG dX3_take_121 (x := (96)) (by decide) ?_
        refine lg_iload_n hG dX3_take_123 rfl ?_
        refine lg_imul hG dX3_take_124 (mk96 _) ?_
        refine lg_iload_n hG dX3_take_125 rfl ?_
        refine lg_iadd hG dX3_take_126 (nI_add _ _) ?_
        refine lg_iconst hG dX3_take_127 (x := 1) (by decide) ?_
        refine lg_iadd hG dX3_take_128 (nI_1 (96 * q + k)) ?_
        refine mg_ld hG hF dX3_take_129 (by decide) rfl (show _ < 1152 by omega) (by decide) ?_
        rw [va_up_ne _ _ (by omega : 8 ≠ 7), f8, pk_cpy_out (by omega)]
        refine mg_st hG hF dX3_take_130 (by decide) rfl (show _ < 1152 by omega) (by decide) (fun L hF => ?_)
        refine lg_iinc hG dX3_take_131 (Nat.le_of_ble_eq_true rfl) rfl rfl rfl ?_
        refine lg_goto hG dX3_take_134 (tgt := 73) (by decide) (by decide) ?_
        rw [show nI k + Int32.ofInt 1 = nI (k + 1) from nI_1 k]
        refine ih (k + 1) _ L (by omega) (by omega) hF (fun j h4 h7 h8 => ((va_up_ne _ _ h8).trans (va_up_ne _ _ h7)).trans (hfj j h4 h7 h8)) (((va_up_ne _ _ (by omega : 4 ≠ 8)).trans (va_up_ne _ _ (by omega : 4 ≠ 7))).trans f4) ?_ ?_
        · rw [va_up_ne _ _ (by omega : 7 ≠ 8), va_up_self, f7]
          exact cpy_step (F 7) (96 * q) k
        · rw [va_up_self, va_up_ne _ _ (by omega : 8 ≠ 7), f8]
          exact cpy_step (F 8) (96 * q) k
  exact loop (r.length + 1) 0 _ L (by omega) (by omega) hF (fun j hj _ _ => va_up_ne _ _ hj) (va_up_self _ _ _) (by rw [va_up_ne _ _ (by omega : 7 ≠ 4)]; funext i; rw [pk_cpy_out (by omega)]) (by rw [va_up_ne _ _ (by omega : 8 ≠ 4)]; funext i; rw [pk_cpy_out (by omega)])

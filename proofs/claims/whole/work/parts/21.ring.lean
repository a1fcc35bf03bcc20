def ro (o : Nat) (sz : Int32) : va_E := .inr (1, [.ref o, .int sz])
/-- the first places of a row hold the list -/
def LF (l : List Nat) (f : Nat → Int32) : Prop := ∀ (k x : Nat), l[k]? = some x → f k = nI x
/-- a Ring at the place r, its row at o, that holds the list l -/
def RH (ids : Nat → ClassId) (n : Nat) (L : lm_L) (r o : Nat) (l : List Nat) (f : Nat → Int32) : Prop := r < n ∧ o < n ∧ r ≠ o ∧ L r = ro o (nI l.length) ∧ L o = ia (ids 0) 12 f ∧ l.length ≤ 12 ∧ LF l f ∧ ∀ x ∈ l, x < 12
/-- .. laid anew -/
def RU (ids : Nat → ClassId) (L : lm_L) (r o : Nat) (l : List Nat) (f : Nat → Int32) : lm_L := va_up (va_up L o (ia (ids 0) 12 f)) r (ro o (nI l.length))
theorem va_up_comm {α : Type} {f : Nat → α} {i j : Nat} (h : i ≠ j) (a b : α) : va_up (va_up f i a) j b = va_up (va_up f j b) i a := by
  funext k
  by_cases h1 : k = i
  · subst h1; rw [va_up_ne _ _ h, va_up_self, va_up_self]
  · by_cases h2 : k = j
    · subst h2; rw [va_up_self, va_up_ne _ _ h1, va_up_self]
    · rw [va_up_ne _ _ h2, va_up_ne _ _ h1, va_up_ne _ _ h1, va_up_ne _ _ h2]
theorem RU_at {ids : Nat → ClassId} {L : lm_L} {r o j : Nat} {l : List Nat} {f : Nat → Int32} (h1 : j ≠ r) (h2 : j ≠ o) : RU ids L r o l f j = L j := by
  unfold RU
  rw [va_up_ne _ _ h1, va_up_ne _ _ h2]
theorem RU_RH {ids : Nat → ClassId} {n : Nat} {L : lm_L} {r o : Nat} {l l1 : List Nat} {f f1 : Nat → Int32} (h : RH ids n L r o l f) (h1 : LF l1 f1) (h2 : l1.length ≤ 12) (h3 : ∀ x ∈ l1, x < 12) : RH ids n (RU ids L r o l1 f1) r o l1 f1 := by
  obtain ⟨a1, a2, a3, -⟩ := h
  refine ⟨a1, a2, a3, va_up_self _ _ _, ?_, h2, h1, h3⟩
  unfold RU
  rw [va_up_ne _ _ a3.symm, va_up_self]
theorem RU_RU {ids : Nat → ClassId} {L : lm_L} {r o : Nat} (h : r ≠ o) {l l1 : List Nat} {f f1 : Nat → Int32} : RU ids (RU ids L r o l f) r o l1 f1 = RU ids L r o l1 f1 := by
  unfold RU
  rw [va_up_comm h, bx_uu, bx_uu]
theorem rg_idx : ∀ (l : List Nat) (k x : Nat), l[k]? = some x → x ∉ l.take k → x ∈ l ∧ l.idxOf x = k
  | [], k, x, h, _ => by simp at h
  | y :: l, 0, x, h, _ => by
    simp at h
    subst h
    exact ⟨List.mem_cons_self, by simp⟩
  | y :: l, k + 1, x, h, hn => by
    simp at h hn
    obtain ⟨h1, h2⟩ := rg_idx l k x h hn.2
    refine ⟨List.mem_cons_of_mem _ h1, ?_⟩
    rw [List.idxOf_cons]
    have : (y == x) = false := by simpa using fun e : y = x => hn.1 e.symm
    rw [this]
    simp [h2]
theorem rg_take {l : List Nat} {k x y : Nat} (h : l[k]? = some y) (hn : x ∉ l.take k) (hy : y ≠ x) : x ∉ l.take (k + 1) := by
  rw [List.take_add_one, h]
  simp
  exact ⟨hn, fun e => hy e.symm⟩
theorem LF_snoc {l : List Nat} {f : Nat → Int32} {x : Nat} (h : LF l f) : LF (l ++ [x]) (upd f l.length (nI x)) := by
  intro k y hk
  by_cases hkl : k < l.length
  · rw [List.getElem?_append_left hkl] at hk
    rw [pk_un (by omega)]
    exact h k y hk
  · rw [List.getElem?_append_right (by omega)] at hk
    have hz : k - l.length = 0 := by
      have := (List.getElem?_eq_some_iff.mp hk).1
      simp at this
      omega
    rw [hz] at hk
    simp at hk
    subst hk
    rw [show k = l.length by omega, pk_us]
theorem LF_erase {l : List Nat} {f : Nat → Int32} {x : Nat} (h : LF l f) (hx : x ∈ l) : LF (l.erase x) (va_cpy f f (l.idxOf x + 1) (l.idxOf x) (l.length - 1 - l.idxOf x)) := by
  intro k y hk
  rw [List.erase_eq_eraseIdx, List.idxOf?_eq_some_iff_findIdx?_eq_some] at hk
  sorry
def rm_X1_queueAt : Room := { frames := 0, cells := 0, slots := 0, locals := 0 }
theorem ld_X1_queueAt : yX1_queueAt.cls ≠ "java/lang/invoke/MethodHandle" ∧ yX1_queueAt.cls ≠ "java/lang/invoke/VarHandle" ∧ (parseMethodDescriptor yX1_queueAt.desc).map (fun d => d.parameters.length) = some 1 := by decide +kernel
def sp_X1_queueAt (ids : Nat → ClassId) : lm_S := fun As n L post _ => ∃ r o l f k x, As = [.ref r, .int (nI k)] ∧ RH ids n L r o l f ∧ l[k]? = some x ∧ post (some (.int (nI x))) n L
set_option maxHeartbeats 4000000 in
set_option maxRecDepth 20000 in
theorem ok_X1_queueAt (l : Launch) (D : va_G) (ids : Nat → ClassId) (B b : Nat) : lm_M l D (lm_ty ids) B b false yX1_queueAt cX1_queueAt 2 (some .int) rm_X1_queueAt 0 0 (sp_X1_queueAt ids) := by
  refine lm_method (own := RX1) (fld := lf_1) (cv := (fun _ => none)) (cs := (fun _ => none)) (ci := (fun _ => none)) (kon := (fun _ => none)) (thr := (fun _ => none)) (nw := (fun _ => none)) (ini := false) (cp := none) (alc := false) (by decide +kernel) rfl rfl rfl (lf_1_ok _) ⟨?_, ?_⟩ ?_ (fun h => by cases h) (lm_aok0 _ _ _ _ _ _ _ _) ?_ ?_
  · intro j f hf
    cases hf
  · intro j f hf
    cases hf
  · intro j v hv; cases hv
  · exact Or.inl fun _ => rfl
  rintro As n L post postX ⟨r, o, l, f, k, x, rfl, Q, hk, hp⟩
  refine ⟨by simp [Value.category], (Nat.le_of_ble_eq_true rfl), lm_cl_of ?_⟩
  intro G hG
  obtain ⟨hr, ho, hro, hLr, hLo, hl12, hLF, hx12⟩ := Q
  have hk2 := (List.getElem?_eq_some_iff.mp hk).1
  refine lg_aload_n hG dX1_queueAt_0 rfl ?_
  refine lg_get hG dX1_queueAt_1 rfl (by first | assumption | omega) (by first | assumption | exact va_up_self _ _ _ | (rw [va_up_ne _ _ (by first | assumption | omega)]; first | assumption | exact va_up_self _ _ _ | (rw [va_up_ne _ _ (by first | assumption | omega)]; first | assumption | exact va_up_self _ _ _ | (rw [va_up_ne _ _ (by first | assumption | omega)]; first | assumption | exact va_up_self _ _ _ | (rw [va_up_ne _ _ (by first | assumption | omega)]; first | assumption | exact va_up_self _ _ _))))) (by rfl) ?_
  refine lg_iload_n hG dX1_queueAt_4 rfl ?_
  refine lg_iald hG dX1_queueAt_5 (by first | assumption | omega) (by first | assumption | exact va_up_self _ _ _ | (rw [va_up_ne _ _ (by first | assumption | omega)]; first | assumption | exact va_up_self _ _ _ | (rw [va_up_ne _ _ (by first | assumption | omega)]; first | assumption | exact va_up_self _ _ _ | (rw [va_up_ne _ _ (by first | assumption | omega)]; first | assumption | exact va_up_self _ _ _ | (rw [va_up_ne _ _ (by first | assumption | omega)]; first | assumption | exact va_up_self _ _ _))))) (vp_in_nI (by omega) (by decide)) ?_
  rw [nI_clamp (by omega), hLF k x hk]
  refine lg_iret hG dX1_queueAt_6 (Nat.le_of_ble_eq_true rfl) (Nat.le_of_ble_eq_true rfl) ?_
  exact ⟨trivial, hp⟩

def rm_X1_placeOf : Room := { frames := 0, cells := 0, slots := 0, locals := 0 }
theorem ld_X1_placeOf : yX1_placeOf.cls ≠ "java/lang/invoke/MethodHandle" ∧ yX1_placeOf.cls ≠ "java/lang/invoke/VarHandle" ∧ (parseMethodDescriptor yX1_placeOf.desc).map (fun d => d.parameters.length) = some 1 := by decide +kernel
def sp_X1_placeOf (ids : Nat → ClassId) : lm_S := fun As n L post _ => ∃ r o l f x, As = [.ref r, .int (nI x)] ∧ RH ids n L r o l f ∧ x < 12 ∧ post (some (.int (if x ∈ l then nI (l.idxOf x) else -1))) n L
set_option maxHeartbeats 4000000 in
set_option maxRecDepth 20000 in
theorem ok_X1_placeOf (l : Launch) (D : va_G) (ids : Nat → ClassId) (B b : Nat) : lm_M l D (lm_ty ids) B b false yX1_placeOf cX1_placeOf 3 (some .int) rm_X1_placeOf 0 0 (sp_X1_placeOf ids) := by
  refine lm_method (own := RX1) (fld := lf_1) (cv := (fun _ => none)) (cs := (fun _ => none)) (ci := (fun _ => none)) (kon := (fun _ => none)) (thr := (fun _ => none)) (nw := (fun _ => none)) (ini := false) (cp := none) (alc := false) (by decide +kernel) rfl rfl rfl (lf_1_ok _) ⟨?_, ?_⟩ ?_ (fun h => by cases h) (lm_aok0 _ _ _ _ _ _ _ _) ?_ ?_
  · intro j f hf
    cases hf
  · intro j f hf
    cases hf
  · intro j v hv; cases hv
  · exact Or.inl fun _ => rfl
  rintro As n L post postX ⟨r, o, l, f, x, rfl, Q, hx, hp⟩
  refine ⟨by simp [Value.category], (Nat.le_of_ble_eq_true rfl), lm_cl_of ?_⟩
  intro G hG
  obtain ⟨hr, ho, hro, hLr, hLo, hl12, hLF, hx12⟩ := Q
  have loop : ∀ (m k : Nat), k ≤ l.length → l.length - k < m → x ∉ l.take k → G 2 [some (.ref r), some (.int (nI x)), some (.int (nI k))] [] n L 0 0 := by
    intro m
    induction m with
    | zero => intro k h1 h2; omega
    | succ m ih =>
      intro k hk hkm hn
      refine lg_iload_n hG dX1_placeOf_2 rfl ?_
      refine lg_aload_n hG dX1_placeOf_3 rfl ?_
      refine lg_get hG dX1_placeOf_4 rfl (by first | assumption | omega) (by first | assumption | exact va_up_self _ _ _ | (rw [va_up_ne _ _ (by first | assumption | omega)]; first | assumption | exact va_up_self _ _ _ | (rw [va_up_ne _ _ (by first | assumption | omega)]; first | assumption | exact va_up_self _ _ _ | (rw [va_up_ne _ _ (by first | assumption | omega)]; first | assumption | exact va_up_self _ _ _ | (rw [va_up_ne _ _ (by first | assumption | omega)]; first | assumption | exact va_up_self _ _ _))))) (by rfl) ?_
      refine lg_icmp_ge hG dX1_placeOf_7 (tgt := 28) (by decide) (by decide) (fun h_7 => ?_) (fun h_7 => ?_)
      · skip
        have hkl : k = l.length := by
          rcases Nat.lt_or_ge k l.length with h | h
          · exact absurd (nI_lt h (by omega)) h_7
          · omega
        have hnl : x ∉ l := by rw [hkl, List.take_length] at hn; exact hn
        rw [if_neg hnl] at hp
        refine lg_iconst hG dX1_placeOf_28 (x := (-1)) (by decide) ?_
        refine lg_iret hG dX1_placeOf_29 (Nat.le_of_ble_eq_true rfl) (Nat.le_of_ble_eq_true rfl) ?_
        exact ⟨trivial, hp⟩
      · skip
        have hkl : k < l.length := (nI_ltI (by omega) (by omega)).mp h_7
        obtain ⟨y, hy⟩ : ∃ y, l[k]? = some y := ⟨_, List.getElem?_eq_getElem hkl⟩
        have hy12 := hx12 y (List.mem_of_getElem? hy)
        refine lg_aload_n hG dX1_placeOf_10 rfl ?_
        refine lg_get hG dX1_placeOf_11 rfl (by first | assumption | omega) (by first | assumption | exact va_up_self _ _ _ | (rw [va_up_ne _ _ (by first | assumption | omega)]; first | assumption | exact va_up_self _ _ _ | (rw [va_up_ne _ _ (by first | assumption | omega)]; first | assumption | exact va_up_self _ _ _ | (rw [va_up_ne _ _ (by first | assumption | omega)]; first | assumption | exact va_up_self _ _ _ | (rw [va_up_ne _ _ (by first | assumption | omega)]; first | assumption | exact va_up_self _ _ _))))) (by rfl) ?_
        refine lg_iload_n hG dX1_placeOf_14 rfl ?_
        refine lg_iald hG dX1_placeOf_15 (by first | assumption | omega) (by first | assumption | exact va_up_self _ _ _ | (rw [va_up_ne _ _ (by first | assumption | omega)]; first | assumption | exact va_up_self _ _ _ | (rw [va_up_ne _ _ (by first | assumption | omega)]; first | assumption | exact va_up_self _ _ _ | (rw [va_up_ne _ _ (by first | assumption | omega)]; first | assumption | exact va_up_self _ _ _ | (rw [va_up_ne _ _ (by first | assumption | omega)]; first | assumption | exact va_up_self _ _ _))))) (vp_in_nI (by omega) (by decide)) ?_
        rw [nI_clamp (by omega), hLF k y hy]
        refine lg_iload_n hG dX1_placeOf_16 rfl ?_
        refine lg_icmp_ne hG dX1_placeOf_17 (tgt := 22) (by decide) (by decide) (fun h_17 => ?_) (fun h_17 => ?_)
        · skip
          have hyx : y ≠ x := fun e => h_17 (by rw [e])
          refine lg_iinc hG dX1_placeOf_22 (Nat.le_of_ble_eq_true rfl) rfl rfl rfl ?_
          refine lg_goto hG dX1_placeOf_25 (tgt := 2) (by decide) (by decide) ?_
          rw [show nI k + Int32.ofInt 1 = nI (k + 1) from nI_1 k]
          exact ih (k + 1) (by omega) (by omega) (rg_take hy hn hyx)
        · skip
          have hyx : y = x := (nI_eq (by omega) (by omega)).mp h_17
          subst hyx
          obtain ⟨hml, hix⟩ := rg_idx l k y hy hn
          rw [if_pos hml, hix] at hp
          refine lg_iload_n hG dX1_placeOf_20 rfl ?_
          refine lg_iret hG dX1_placeOf_21 (Nat.le_of_ble_eq_true rfl) (Nat.le_of_ble_eq_true rfl) ?_
          exact ⟨trivial, hp⟩
  refine lg_iconst hG dX1_placeOf_0 (x := 0) (by decide) ?_
  refine lg_istore_n hG dX1_placeOf_1 (Nat.le_of_ble_eq_true rfl) rfl ?_
  exact loop (l.length + 1) 0 (by omega) (by omega) (by simp)

def rm_X1_putAtEnd : Room := { frames := 0, cells := 0, slots := 0, locals := 0 }
theorem ld_X1_putAtEnd : yX1_putAtEnd.cls ≠ "java/lang/invoke/MethodHandle" ∧ yX1_putAtEnd.cls ≠ "java/lang/invoke/VarHandle" ∧ (parseMethodDescriptor yX1_putAtEnd.desc).map (fun d => d.parameters.length) = some 1 := by decide +kernel
def sp_X1_putAtEnd (ids : Nat → ClassId) : lm_S := fun As n L post _ => ∃ r o l f x, As = [.ref r, .int (nI x)] ∧ RH ids n L r o l f ∧ l.length < 12 ∧ ∀ f1, LF (l ++ [x]) f1 → post none n (RU ids L r o (l ++ [x]) f1)
set_option maxHeartbeats 4000000 in
set_option maxRecDepth 20000 in
theorem ok_X1_putAtEnd (l : Launch) (D : va_G) (ids : Nat → ClassId) (B b : Nat) : lm_M l D (lm_ty ids) B b false yX1_putAtEnd cX1_putAtEnd 2 none rm_X1_putAtEnd 0 0 (sp_X1_putAtEnd ids) := by
  refine lm_method (own := RX1) (fld := lf_1) (cv := (fun _ => none)) (cs := (fun _ => none)) (ci := (fun _ => none)) (kon := (fun _ => none)) (thr := (fun _ => none)) (nw := (fun _ => none)) (ini := false) (cp := none) (alc := false) (by decide +kernel) rfl rfl rfl (lf_1_ok _) ⟨?_, ?_⟩ ?_ (fun h => by cases h) (lm_aok0 _ _ _ _ _ _ _ _) ?_ ?_
  · intro j f hf
    cases hf
  · intro j f hf
    cases hf
  · intro j v hv; cases hv
  · exact Or.inl fun _ => rfl
  rintro As n L post postX ⟨r, o, l, f, x, rfl, Q, hx, hp⟩
  refine ⟨by simp [Value.category], (Nat.le_of_ble_eq_true rfl), lm_cl_of ?_⟩
  intro G hG
  obtain ⟨hr, ho, hro, hLr, hLo, hl12, hLF, hx12⟩ := Q
  have hp := hp _ (LF_snoc (x := x) hLF)
  have hor := hro.symm
  refine lg_aload_n hG dX1_putAtEnd_0 rfl ?_
  refine lg_get hG dX1_putAtEnd_1 rfl (by first | assumption | omega) (by first | assumption | exact va_up_self _ _ _ | (rw [va_up_ne _ _ (by first | assumption | omega)]; first | assumption | exact va_up_self _ _ _ | (rw [va_up_ne _ _ (by first | assumption | omega)]; first | assumption | exact va_up_self _ _ _ | (rw [va_up_ne _ _ (by first | assumption | omega)]; first | assumption | exact va_up_self _ _ _ | (rw [va_up_ne _ _ (by first | assumption | omega)]; first | assumption | exact va_up_self _ _ _))))) (by rfl) ?_
  refine lg_bipush hG dX1_putAtEnd_4 (x := (12)) (by decide) ?_
  refine lg_icmp_ge hG dX1_putAtEnd_6 (tgt := 29) (by decide) (by decide) (fun h_6 => ?_) (fun h_6 => ?_)
  · skip
    exact absurd (nI_lt (a := l.length) (b := 12) hx (by decide)) h_6 --END
  · skip
    refine lg_aload_n hG dX1_putAtEnd_9 rfl ?_
    refine lg_get hG dX1_putAtEnd_10 rfl (by first | assumption | omega) (by first | assumption | exact va_up_self _ _ _ | (rw [va_up_ne _ _ (by first | assumption | omega)]; first | assumption | exact va_up_self _ _ _ | (rw [va_up_ne _ _ (by first | assumption | omega)]; first | assumption | exact va_up_self _ _ _ | (rw [va_up_ne _ _ (by first | assumption | omega)]; first | assumption | exact va_up_self _ _ _ | (rw [va_up_ne _ _ (by first | assumption | omega)]; first | assumption | exact va_up_self _ _ _))))) (by rfl) ?_
    refine lg_aload_n hG dX1_putAtEnd_13 rfl ?_
    refine lg_get hG dX1_putAtEnd_14 rfl (by first | assumption | omega) (by first | assumption | exact va_up_self _ _ _ | (rw [va_up_ne _ _ (by first | assumption | omega)]; first | assumption | exact va_up_self _ _ _ | (rw [va_up_ne _ _ (by first | assumption | omega)]; first | assumption | exact va_up_self _ _ _ | (rw [va_up_ne _ _ (by first | assumption | omega)]; first | assumption | exact va_up_self _ _ _ | (rw [va_up_ne _ _ (by first | assumption | omega)]; first | assumption | exact va_up_self _ _ _))))) (by rfl) ?_
    refine lg_iload_n hG dX1_putAtEnd_17 rfl ?_
    refine lg_iast hG dX1_putAtEnd_18 (by first | assumption | omega) (by first | assumption | exact va_up_self _ _ _ | (rw [va_up_ne _ _ (by first | assumption | omega)]; first | assumption | exact va_up_self _ _ _ | (rw [va_up_ne _ _ (by first | assumption | omega)]; first | assumption | exact va_up_self _ _ _ | (rw [va_up_ne _ _ (by first | assumption | omega)]; first | assumption | exact va_up_self _ _ _ | (rw [va_up_ne _ _ (by first | assumption | omega)]; first | assumption | exact va_up_self _ _ _))))) (vp_in_nI hx (by decide)) ?_
    rw [nI_clamp (by omega)]
    refine lg_aload_n hG dX1_putAtEnd_19 rfl ?_
    refine lg_dup hG dX1_putAtEnd_20 rfl ?_
    refine lg_get hG dX1_putAtEnd_21 rfl (by first | assumption | omega) (by first | assumption | exact va_up_self _ _ _ | (rw [va_up_ne _ _ (by first | assumption | omega)]; first | assumption | exact va_up_self _ _ _ | (rw [va_up_ne _ _ (by first | assumption | omega)]; first | assumption | exact va_up_self _ _ _ | (rw [va_up_ne _ _ (by first | assumption | omega)]; first | assumption | exact va_up_self _ _ _ | (rw [va_up_ne _ _ (by first | assumption | omega)]; first | assumption | exact va_up_self _ _ _))))) (by rfl) ?_
    refine lg_iconst hG dX1_putAtEnd_24 (x := 1) (by decide) ?_
    refine lg_iadd hG dX1_putAtEnd_25 (nI_1 l.length) ?_
    refine lg_put hG dX1_putAtEnd_26 rfl (by first | assumption | omega) (by first | trivial | exact Or.inl rfl | exact Or.inr rfl | assumption) (by first | assumption | exact va_up_self _ _ _ | (rw [va_up_ne _ _ (by first | assumption | omega)]; first | assumption | exact va_up_self _ _ _ | (rw [va_up_ne _ _ (by first | assumption | omega)]; first | assumption | exact va_up_self _ _ _ | (rw [va_up_ne _ _ (by first | assumption | omega)]; first | assumption | exact va_up_self _ _ _ | (rw [va_up_ne _ _ (by first | assumption | omega)]; first | assumption | exact va_up_self _ _ _))))) (Nat.le_of_ble_eq_true rfl) (by rfl) ?_
    try rw [bx_uu]
    change G _ _ _ _ (va_up (va_up L o (ia (ids 0) 12 (upd f l.length (nI x)))) r (ro o (nI (l.length + 1)))) _ _
    refine lg_vret hG dX1_putAtEnd_29 (Nat.le_of_ble_eq_true rfl) (Nat.le_of_ble_eq_true rfl) ?_
    refine ⟨trivial, ?_⟩
    unfold RU at hp
    rw [List.length_append] at hp
    exact hp

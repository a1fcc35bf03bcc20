def ro (o : Nat) (sz : Int32) : va_E := .inr (1, [.ref o, .int sz])
/-- the first places of a row hold the list -/
def LF (l : List Nat) (f : Nat → Int32) : Prop := ∀ (k x : Nat), l[k]? = some x → f k = nI x
/-- a Ring at the place r, its row at o, that holds the list l -/
def RH (ids : Nat → ClassId) (n : Nat) (L : lm_L) (r o : Nat) (l : List Nat) (f : Nat → Int32) : Prop := r < n ∧ o < n ∧ r ≠ o ∧ L r = ro o (nI l.length) ∧ L o = ia (ids 0) 12 f ∧ l.length ≤ 12 ∧ LF l f ∧ ∀ x ∈ l, x < 12
/-- .. laid anew -/
def RU (ids : Nat → ClassId) (L : lm_L) (r o : Nat) (l : List Nat) (f : Nat → Int32) : lm_L := va_up (va_up L o (ia (ids 0) 12 f)) r (ro o (nI l.length))
theorem va_up_comm {α : Type} {f : Nat → α} {i j : Nat} (h : i ≠ j) (a b : α) : va_up (va_up f i a) j b = va_up (va_up f j b) i a := by
  funext k
  by_cases h1 : k = i
  · subst h1; rw [va_up_ne _ _ h, va_up_self, va_up_self]
  · by_cases h2 : k = j
    · subst h2; rw [va_up_self, va_up_ne _ _ h1, va_up_self]
    · rw [va_up_ne _ _ h2, va_up_ne _ _ h1, va_up_ne _ _ h1, va_up_ne _ _ h2]
theorem RU_at {ids : Nat → ClassId} {L : lm_L} {r o j : Nat} {l : List Nat} {f : Nat → Int32} (h1 : j ≠ r) (h2 : j ≠ o) : RU ids L r o l f j = L j := by
  unfold RU
  rw [va_up_ne _ _ h1, va_up_ne _ _ h2]
theorem RU_RH {ids : Nat → ClassId} {n : Nat} {L : lm_L} {r o : Nat} {l l1 : List Nat} {f f1 : Nat → Int32} (h : RH ids n L r o l f) (h1 : LF l1 f1) (h2 : l1.length ≤ 12) (h3 : ∀ x ∈ l1, x < 12) : RH ids n (RU ids L r o l1 f1) r o l1 f1 := by
  obtain ⟨a1, a2, a3, -⟩ := h
  refine ⟨a1, a2, a3, va_up_self _ _ _, ?_, h2, h1, h3⟩
  unfold RU
  rw [va_up_ne _ _ a3.symm, va_up_self]
theorem RU_RU {ids : Nat → ClassId} {L : lm_L} {r o : Nat} (h : r ≠ o) {l l1 : List Nat} {f f1 : Nat → Int32} : RU ids (RU ids L r o l f) r o l1 f1 = RU ids L r o l1 f1 := by
  unfold RU
  rw [va_up_comm h, bx_uu, bx_uu]
theorem rg_idx : ∀ (l : List Nat) (k x : Nat), l[k]? = some x → x ∉ l.take k → x ∈ l ∧ l.idxOf x = k
  | [], k, x, h, _ => by simp at h
  | y :: l, 0, x, h, _ => by
    simp at h
    subst h
    exact ⟨List.mem_cons_self, by simp⟩
  | y :: l, k + 1, x, h, hn => by
    simp at h hn
    obtain ⟨h1, h2⟩ := rg_idx l k x h hn.2
    refine ⟨List.mem_cons_of_mem _ h1, ?_⟩
    rw [List.idxOf_cons]
    have : (y == x) = false := by simpa using fun e : y = x => hn.1 e.symm
    rw [this]
    simp [h2]
theorem rg_take {l : List Nat} {k x y : Nat} (h : l[k]? = some y) (hn : x ∉ l.take k) (hy : y ≠ x) : x ∉ l.take (k + 1) := by
  rw [List.take_add_one, h]
  simp
  exact ⟨hn, fun e => hy e.symm⟩
theorem LF_snoc {l : List Nat} {f : Nat → Int32} {x : Nat} (h : LF l f) : LF (l ++ [x]) (upd f l.length (nI x)) := by
  intro k y hk
  by_cases hkl : k < l.length
  · rw [List.getElem?_append_left hkl] at hk
    rw [pk_un (by omega)]
    exact h k y hk
  · rw [List.getElem?_append_right (by omega)] at hk
    have hz : k - l.length = 0 := by
      have := (List.getElem?_eq_some_iff.mp hk).1
      simp at this
      omega
    rw [hz] at hk
    simp at hk
    subst hk
    rw [show k = l.length by omega, pk_us]
theorem er_get : ∀ (l : List Nat) (x k : Nat), x ∈ l → (l.erase x)[k]? = if k < l.idxOf x then l[k]? else l[k + 1]?
  | [], x, k, h => by simp at h
  | y :: l, x, k, h => by
    by_cases e : y = x
    · subst e; simp
    · have h2 : x ∈ l := by
        rcases List.mem_cons.mp h with h | h
        · exact absurd h.symm e
        · exact h
      have e2 : (y == x) = false := by simpa using e
      rw [List.erase_cons, List.idxOf_cons, e2]
      simp only [Bool.false_eq_true, if_false, cond_false]
      cases k with
      | zero => simp
      | succ k =>
        have := er_get l x k h2
        simp only [List.getElem?_cons_succ, this, Nat.add_lt_add_iff_right]
theorem LF_erase {l : List Nat} {f : Nat → Int32} {x : Nat} (h : LF l f) (hx : x ∈ l) : LF (l.erase x) (va_cpy f f (l.idxOf x + 1) (l.idxOf x) (l.length - 1 - l.idxOf x)) := by
  intro k y hk
  have hlen : k < (l.erase x).length := (List.getElem?_eq_some_iff.mp hk).1
  rw [List.length_erase_of_mem hx] at hlen
  rw [er_get l x k hx] at hk
  by_cases hi : k < l.idxOf x
  · rw [if_pos hi] at hk
    rw [pk_cpy_out (Or.inl hi)]
    exact h k y hk
  · rw [if_neg hi] at hk
    rw [pk_cpy_in (by omega) (by omega), show l.idxOf x + 1 + (k - l.idxOf x) = k + 1 by omega]
    exact h _ y hk
theorem rg_turn {l : List Nat} {j : Nat} (h : j < l.length) : ∃ x t, l.drop j ++ l.take j = x :: t ∧ l.drop (j + 1) ++ l.take (j + 1) = t ++ [x] := by
  refine ⟨l[j], l.drop (j + 1) ++ l.take j, ?_, ?_⟩
  · rw [List.drop_eq_getElem_cons h]; rfl
  · rw [List.take_add_one, List.getElem?_eq_getElem h]; simp
def rm_X1_queueAt : Room := { frames := 0, cells := 0, slots := 0, locals := 0 }
theorem ld_X1_queueAt : yX1_queueAt.cls ≠ "java/lang/invoke/MethodHandle" ∧ yX1_queueAt.cls ≠ "java/lang/invoke/VarHandle" ∧ (parseMethodDescriptor yX1_queueAt.desc).map (fun d => d.parameters.length) = some 1 := by decide +kernel
def sp_X1_queueAt (ids : Nat → ClassId) : lm_S := fun As n L post _ => ∃ r o l f k x, As = [.ref r, .int (nI k)] ∧ RH ids n L r o l f ∧ l[k]? = some x ∧ post (some (.int (nI x))) n L
set_option maxHeartbeats 4000000 in
set_option maxRecDepth 20000 in
theorem ok_X1_queueAt (l : Launch) (D : va_G) (ids : Nat → ClassId) (B b : Nat) : lm_M l D (lm_ty ids) B b false yX1_queueAt cX1_queueAt 2 (some .int) rm_X1_queueAt 0 0 (sp_X1_queueAt ids) := by
  refine lm_method (own := RX1) (fld := lf_1) (cv := (fun _ => none)) (cs := (fun _ => none)) (ci := (fun _ => none)) (kon := (fun _ => none)) (thr := (fun _ => none)) (nw := (fun _ => none)) (ini := false) (cp := none) (alc := false) (by decide +kernel) rfl rfl rfl (lf_1_ok _) ⟨?_, ?_⟩ ?_ (fun h => by cases h) (lm_aok0 _ _ _ _ _ _ _ _) ?_ ?_
  · intro j f hf
    cases hf
  · intro j f hf
    cases hf
  · intro j v hv; cases hv
  · exact Or.inl fun _ => rfl
  rintro As n L post postX ⟨r, o, l, f, k, x, rfl, Q, hk, hp⟩
  refine ⟨by simp [Value.category], (Nat.le_of_ble_eq_true rfl), lm_cl_of ?_⟩
  intro G hG
  obtain ⟨hr, ho, hro, hLr, hLo, hl12, hLF, hx12⟩ := Q
  have hk2 := (List.getElem?_eq_some_iff.mp hk).1
  refine lg_aload_n hG dX1_queueAt_0 rfl ?_
  refine lg_get hG dX1_queueAt_1 rfl (by first | assumption | omega) (by first | assumption | exact va_up_self _ _ _ | (rw [va_up_ne _ _ (by first | assumption | omega)]; first | assumption | exact va_up_self _ _ _ | (rw [va_up_ne _ _ (by first | assumption | omega)]; first | assumption | exact va_up_self _ _ _ | (rw [va_up_ne _ _ (by first | assumption | omega)]; first | assumption | exact va_up_self _ _ _ | (rw [va_up_ne _ _ (by first | assumption | omega)]; first | assumption | exact va_up_self _ _ _))))) (by rfl) ?_
  refine lg_iload_n hG dX1_queueAt_4 rfl ?_
  refine lg_iald hG dX1_queueAt_5 (by first | assumption | omega) (by first | assumption | exact va_up_self _ _ _ | (rw [va_up_ne _ _ (by first | assumption | omega)]; first | assumption | exact va_up_self _ _ _ | (rw [va_up_ne _ _ (by first | assumption | omega)]; first | assumption | exact va_up_self _ _ _ | (rw [va_up_ne _ _ (by first | assumption | omega)]; first | assumption | exact va_up_self _ _ _ | (rw [va_up_ne _ _ (by first | assumption | omega)]; first | assumption | exact va_up_self _ _ _))))) (vp_in_nI (by omega) (by decide)) ?_
  rw [nI_clamp (by omega), hLF k x hk]
  refine lg_iret hG dX1_queueAt_6 (Nat.le_of_ble_eq_true rfl) (Nat.le_of_ble_eq_true rfl) ?_
  exact ⟨trivial, hp⟩

def rm_X1_placeOf : Room := { frames := 0, cells := 0, slots := 0, locals := 0 }
theorem ld_X1_placeOf : yX1_placeOf.cls ≠ "java/lang/invoke/MethodHandle" ∧ yX1_placeOf.cls ≠ "java/lang/invoke/VarHandle" ∧ (parseMethodDescriptor yX1_placeOf.desc).map (fun d => d.parameters.length) = some 1 := by decide +kernel
def sp_X1_placeOf (ids : Nat → ClassId) : lm_S := fun As n L post _ => ∃ r o l f x, As = [.ref r, .int (nI x)] ∧ RH ids n L r o l f ∧ x < 12 ∧ post (some (.int (if x ∈ l then nI (l.idxOf x) else -1))) n L
set_option maxHeartbeats 4000000 in
set_option maxRecDepth 20000 in
theorem ok_X1_placeOf (l : Launch) (D : va_G) (ids : Nat → ClassId) (B b : Nat) : lm_M l D (lm_ty ids) B b false yX1_placeOf cX1_placeOf 3 (some .int) rm_X1_placeOf 0 0 (sp_X1_placeOf ids) := by
  refine lm_method (own := RX1) (fld := lf_1) (cv := (fun _ => none)) (cs := (fun _ => none)) (ci := (fun _ => none)) (kon := (fun _ => none)) (thr := (fun _ => none)) (nw := (fun _ => none)) (ini := false) (cp := none) (alc := false) (by decide +kernel) rfl rfl rfl (lf_1_ok _) ⟨?_, ?_⟩ ?_ (fun h => by cases h) (lm_aok0 _ _ _ _ _ _ _ _) ?_ ?_
  · intro j f hf
    cases hf
  · intro j f hf
    cases hf
  · intro j v hv; cases hv
  · exact Or.inl fun _ => rfl
  rintro As n L post postX ⟨r, o, l, f, x, rfl, Q, hx, hp⟩
  refine ⟨by simp [Value.category], (Nat.le_of_ble_eq_true rfl), lm_cl_of ?_⟩
  intro G hG
  obtain ⟨hr, ho, hro, hLr, hLo, hl12, hLF, hx12⟩ := Q
  have loop : ∀ (m k : Nat), k ≤ l.length → l.length - k < m → x ∉ l.take k → G 2 [some (.ref r), some (.int (nI x)), some (.int (nI k))] [] n L 0 0 := by
    intro m
    induction m with
    | zero => intro k h1 h2; omega
    | succ m ih =>
      intro k hk hkm hn
      refine lg_iload_n hG dX1_placeOf_2 rfl ?_
      refine lg_aload_n hG dX1_placeOf_3 rfl ?_
      refine lg_get hG dX1_placeOf_4 rfl (by first | assumption | omega) (by first | assumption | exact va_up_self _ _ _ | (rw [va_up_ne _ _ (by first | assumption | omega)]; first | assumption | exact va_up_self _ _ _ | (rw [va_up_ne _ _ (by first | assumption | omega)]; first | assumption | exact va_up_self _ _ _ | (rw [va_up_ne _ _ (by first | assumption | omega)]; first | assumption | exact va_up_self _ _ _ | (rw [va_up_ne _ _ (by first | assumption | omega)]; first | assumption | exact va_up_self _ _ _))))) (by rfl) ?_
      refine lg_icmp_ge hG dX1_placeOf_7 (tgt := 28) (by decide) (by decide) (fun h_7 => ?_) (fun h_7 => ?_)
      · skip
        have hkl : k = l.length := by
          rcases Nat.lt_or_ge k l.length with h | h
          · exact absurd (nI_lt h (by omega)) h_7
          · omega
        have hnl : x ∉ l := by rw [hkl, List.take_length] at hn; exact hn
        rw [if_neg hnl] at hp
        refine lg_iconst hG dX1_placeOf_28 (x := (-1)) (by decide) ?_
        refine lg_iret hG dX1_placeOf_29 (Nat.le_of_ble_eq_true rfl) (Nat.le_of_ble_eq_true rfl) ?_
        exact ⟨trivial, hp⟩
      · skip
        have hkl : k < l.length := (nI_ltI (by omega) (by omega)).mp h_7
        obtain ⟨y, hy⟩ : ∃ y, l[k]? = some y := ⟨_, List.getElem?_eq_getElem hkl⟩
        have hy12 := hx12 y (List.mem_of_getElem? hy)
        refine lg_aload_n hG dX1_placeOf_10 rfl ?_
        refine lg_get hG dX1_placeOf_11 rfl (by first | assumption | omega) (by first | assumption | exact va_up_self _ _ _ | (rw [va_up_ne _ _ (by first | assumption | omega)]; first | assumption | exact va_up_self _ _ _ | (rw [va_up_ne _ _ (by first | assumption | omega)]; first | assumption | exact va_up_self _ _ _ | (rw [va_up_ne _ _ (by first | assumption | omega)]; first | assumption | exact va_up_self _ _ _ | (rw [va_up_ne _ _ (by first | assumption | omega)]; first | assumption | exact va_up_self _ _ _))))) (by rfl) ?_
        refine lg_iload_n hG dX1_placeOf_14 rfl ?_
        refine lg_iald hG dX1_placeOf_15 (by first | assumption | omega) (by first | assumption | exact va_up_self _ _ _ | (rw [va_up_ne _ _ (by first | assumption | omega)]; first | assumption | exact va_up_self _ _ _ | (rw [va_up_ne _ _ (by first | assumption | omega)]; first | assumption | exact va_up_self _ _ _ | (rw [va_up_ne _ _ (by first | assumption | omega)]; first | assumption | exact va_up_self _ _ _ | (rw [va_up_ne _ _ (by first | assumption | omega)]; first | assumption | exact va_up_self _ _ _))))) (vp_in_nI (by omega) (by decide)) ?_
        rw [nI_clamp (by omega), hLF k y hy]
        refine lg_iload_n hG dX1_placeOf_16 rfl ?_
        refine lg_icmp_ne hG dX1_placeOf_17 (tgt := 22) (by decide) (by decide) (fun h_17 => ?_) (fun h_17 => ?_)
        · skip
          have hyx : y ≠ x := fun e => h_17 (by rw [e])
          refine lg_iinc hG dX1_placeOf_22 (Nat.le_of_ble_eq_true rfl) rfl rfl rfl ?_
          refine lg_goto hG dX1_placeOf_25 (tgt := 2) (by decide) (by decide) ?_
          rw [show nI k + Int32.ofInt 1 = nI (k + 1) from nI_1 k]
          exact ih (k + 1) (by omega) (by omega) (rg_take hy hn hyx)
        · skip
          have hyx : y = x := (nI_eq (by omega) (by omega)).mp h_17
          subst hyx
          obtain ⟨hml, hix⟩ := rg_idx l k y hy hn
          rw [if_pos hml, hix] at hp
          refine lg_iload_n hG dX1_placeOf_20 rfl ?_
          refine lg_iret hG dX1_placeOf_21 (Nat.le_of_ble_eq_true rfl) (Nat.le_of_ble_eq_true rfl) ?_
          exact ⟨trivial, hp⟩
  refine lg_iconst hG dX1_placeOf_0 (x := 0) (by decide) ?_
  refine lg_istore_n hG dX1_placeOf_1 (Nat.le_of_ble_eq_true rfl) rfl ?_
  exact loop (l.length + 1) 0 (by omega) (by omega) (by simp)

def rm_X1_putAtEnd : Room := { frames := 0, cells := 0, slots := 0, locals := 0 }
theorem ld_X1_putAtEnd : yX1_putAtEnd.cls ≠ "java/lang/invoke/MethodHandle" ∧ yX1_putAtEnd.cls ≠ "java/lang/invoke/VarHandle" ∧ (parseMethodDescriptor yX1_putAtEnd.desc).map (fun d => d.parameters.length) = some 1 := by decide +kernel
def sp_X1_putAtEnd (ids : Nat → ClassId) : lm_S := fun As n L post _ => ∃ r o l f x, As = [.ref r, .int (nI x)] ∧ RH ids n L r o l f ∧ l.length < 12 ∧ ∀ f1, LF (l ++ [x]) f1 → post none n (RU ids L r o (l ++ [x]) f1)
set_option maxHeartbeats 4000000 in
set_option maxRecDepth 20000 in
theorem ok_X1_putAtEnd (l : Launch) (D : va_G) (ids : Nat → ClassId) (B b : Nat) : lm_M l D (lm_ty ids) B b false yX1_putAtEnd cX1_putAtEnd 2 none rm_X1_putAtEnd 0 0 (sp_X1_putAtEnd ids) := by
  refine lm_method (own := RX1) (fld := lf_1) (cv := (fun _ => none)) (cs := (fun _ => none)) (ci := (fun _ => none)) (kon := (fun _ => none)) (thr := (fun _ => none)) (nw := (fun _ => none)) (ini := false) (cp := none) (alc := false) (by decide +kernel) rfl rfl rfl (lf_1_ok _) ⟨?_, ?_⟩ ?_ (fun h => by cases h) (lm_aok0 _ _ _ _ _ _ _ _) ?_ ?_
  · intro j f hf
    cases hf
  · intro j f hf
    cases hf
  · intro j v hv; cases hv
  · exact Or.inl fun _ => rfl
  rintro As n L post postX ⟨r, o, l, f, x, rfl, Q, hx, hp⟩
  refine ⟨by simp [Value.category], (Nat.le_of_ble_eq_true rfl), lm_cl_of ?_⟩
  intro G hG
  obtain ⟨hr, ho, hro, hLr, hLo, hl12, hLF, hx12⟩ := Q
  have hp := hp _ (LF_snoc (x := x) hLF)
  have hor := hro.symm
  refine lg_aload_n hG dX1_putAtEnd_0 rfl ?_
  refine lg_get hG dX1_putAtEnd_1 rfl (by first | assumption | omega) (by first | assumption | exact va_up_self _ _ _ | (rw [va_up_ne _ _ (by first | assumption | omega)]; first | assumption | exact va_up_self _ _ _ | (rw [va_up_ne _ _ (by first | assumption | omega)]; first | assumption | exact va_up_self _ _ _ | (rw [va_up_ne _ _ (by first | assumption | omega)]; first | assumption | exact va_up_self _ _ _ | (rw [va_up_ne _ _ (by first | assumption | omega)]; first | assumption | exact va_up_self _ _ _))))) (by rfl) ?_
  refine lg_bipush hG dX1_putAtEnd_4 (x := (12)) (by decide) ?_
  refine lg_icmp_ge hG dX1_putAtEnd_6 (tgt := 29) (by decide) (by decide) (fun h_6 => ?_) (fun h_6 => ?_)
  · skip
    exact absurd (nI_lt (a := l.length) (b := 12) hx (by decide)) h_6 --END
  · skip
    refine lg_aload_n hG dX1_putAtEnd_9 rfl ?_
    refine lg_get hG dX1_putAtEnd_10 rfl (by first | assumption | omega) (by first | assumption | exact va_up_self _ _ _ | (rw [va_up_ne _ _ (by first | assumption | omega)]; first | assumption | exact va_up_self _ _ _ | (rw [va_up_ne _ _ (by first | assumption | omega)]; first | assumption | exact va_up_self _ _ _ | (rw [va_up_ne _ _ (by first | assumption | omega)]; first | assumption | exact va_up_self _ _ _ | (rw [va_up_ne _ _ (by first | assumption | omega)]; first | assumption | exact va_up_self _ _ _))))) (by rfl) ?_
    refine lg_aload_n hG dX1_putAtEnd_13 rfl ?_
    refine lg_get hG dX1_putAtEnd_14 rfl (by first | assumption | omega) (by first | assumption | exact va_up_self _ _ _ | (rw [va_up_ne _ _ (by first | assumption | omega)]; first | assumption | exact va_up_self _ _ _ | (rw [va_up_ne _ _ (by first | assumption | omega)]; first | assumption | exact va_up_self _ _ _ | (rw [va_up_ne _ _ (by first | assumption | omega)]; first | assumption | exact va_up_self _ _ _ | (rw [va_up_ne _ _ (by first | assumption | omega)]; first | assumption | exact va_up_self _ _ _))))) (by rfl) ?_
    refine lg_iload_n hG dX1_putAtEnd_17 rfl ?_
    refine lg_iast hG dX1_putAtEnd_18 (by first | assumption | omega) (by first | assumption | exact va_up_self _ _ _ | (rw [va_up_ne _ _ (by first | assumption | omega)]; first | assumption | exact va_up_self _ _ _ | (rw [va_up_ne _ _ (by first | assumption | omega)]; first | assumption | exact va_up_self _ _ _ | (rw [va_up_ne _ _ (by first | assumption | omega)]; first | assumption | exact va_up_self _ _ _ | (rw [va_up_ne _ _ (by first | assumption | omega)]; first | assumption | exact va_up_self _ _ _))))) (vp_in_nI hx (by decide)) ?_
    rw [nI_clamp (by omega)]
    refine lg_aload_n hG dX1_putAtEnd_19 rfl ?_
    refine lg_dup hG dX1_putAtEnd_20 rfl ?_
    refine lg_get hG dX1_putAtEnd_21 rfl (by first | assumption | omega) (by first | assumption | exact va_up_self _ _ _ | (rw [va_up_ne _ _ (by first | assumption | omega)]; first | assumption | exact va_up_self _ _ _ | (rw [va_up_ne _ _ (by first | assumption | omega)]; first | assumption | exact va_up_self _ _ _ | (rw [va_up_ne _ _ (by first | assumption | omega)]; first | assumption | exact va_up_self _ _ _ | (rw [va_up_ne _ _ (by first | assumption | omega)]; first | assumption | exact va_up_self _ _ _))))) (by rfl) ?_
    refine lg_iconst hG dX1_putAtEnd_24 (x := 1) (by decide) ?_
    refine lg_iadd hG dX1_putAtEnd_25 (nI_1 l.length) ?_
    refine lg_put hG dX1_putAtEnd_26 rfl (by first | assumption | omega) (by first | trivial | exact Or.inl rfl | exact Or.inr rfl | assumption | exact rfl) (by first | assumption | exact va_up_self _ _ _ | (rw [va_up_ne _ _ (by first | assumption | omega)]; first | assumption | exact va_up_self _ _ _ | (rw [va_up_ne _ _ (by first | assumption | omega)]; first | assumption | exact va_up_self _ _ _ | (rw [va_up_ne _ _ (by first | assumption | omega)]; first | assumption | exact va_up_self _ _ _ | (rw [va_up_ne _ _ (by first | assumption | omega)]; first | assumption | exact va_up_self _ _ _))))) (Nat.le_of_ble_eq_true rfl) (by rfl) ?_
    try rw [bx_uu]
    change G _ _ _ _ (va_up (va_up L o (ia (ids 0) 12 (upd f l.length (nI x)))) r (ro o (nI (l.length + 1)))) _ _
    refine lg_vret hG dX1_putAtEnd_29 (Nat.le_of_ble_eq_true rfl) (Nat.le_of_ble_eq_true rfl) ?_
    refine ⟨trivial, ?_⟩
    unfold RU at hp
    rw [List.length_append] at hp
    exact hp

theorem nI_nm1 {a : Nat} (h : a < 2 ^ 31) : ¬ nI a = nI (2 ^ 32 - 1) := by
  intro e
  have := congrArg Int32.toInt e
  rw [nI_toInt h] at this
  have h2 : (nI (2 ^ 32 - 1)).toInt = -1 := by decide
  omega
def rm_X1_takeOut : Room := { frames := 1, cells := 0, slots := 0, locals := 26 }
theorem ld_X1_takeOut : yX1_takeOut.cls ≠ "java/lang/invoke/MethodHandle" ∧ yX1_takeOut.cls ≠ "java/lang/invoke/VarHandle" ∧ (parseMethodDescriptor yX1_takeOut.desc).map (fun d => d.parameters.length) = some 1 := by decide +kernel
def sp_X1_takeOut (ids : Nat → ClassId) : lm_S := fun As n L post _ => ∃ r o l f x, As = [.ref r, .int (nI x)] ∧ RH ids n L r o l f ∧ x ∈ l ∧ ∀ f1, LF (l.erase x) f1 → post none n (RU ids L r o (l.erase x) f1)
def cv_X1_takeOut (ids : Nat → ClassId) : Nat → Option lm_C := fun j => match j with
  | 19 => some (2, 1, sp_X1_placeOf ids, 0, 0)
  | _ => none
set_option maxHeartbeats 4000000 in
set_option maxRecDepth 20000 in
theorem ok_X1_takeOut (l : Launch) (D : va_G) (ids : Nat → ClassId) (B b : Nat) : lm_M l D (lm_ty ids) B b false yX1_takeOut cX1_takeOut 3 none rm_X1_takeOut 0 0 (sp_X1_takeOut ids) := by
  refine lm_method (own := RX1) (fld := lf_1) (cv := (cv_X1_takeOut ids)) (cs := (fun _ => none)) (ci := (fun _ => none)) (kon := (fun _ => none)) (thr := (fun _ => none)) (nw := (fun _ => none)) (ini := false) (cp := (some 23)) (alc := false) (by decide +kernel) rfl rfl rfl (lf_1_ok _) ⟨?_, ?_⟩ ?_ (fun h => by cases h) ⟨(fun j h => by cases h; exact ⟨rfl, lm_wt 192 rfl rfl, lm_wt 194 rfl rfl, lm_wt 193 rfl rfl, lm_wt 39 rfl rfl, by decide, by decide⟩), (fun _ _ h => by cases h), (fun h => by cases h), (fun _ _ h => by cases h)⟩ ?_ ?_
  · intro j f hf
    unfold cv_X1_takeOut at hf
    split at hf
    · cases hf; exact ⟨yX1_placeOf, cX1_placeOf, 3, (some .int), rm_X1_placeOf, RX1, TX1, 2, 1, rfl, rfl, ok_X1_placeOf l D ids B b, lw_1_placeOf, ll_1_19, rfl, rfl, ⟨rfl, ld_X1_placeOf⟩, by decide⟩
    · cases hf
  · intro j f hf
    cases hf
  · intro j v hv; cases hv
  · exact Or.inl fun _ => rfl
  rintro As n L post postX ⟨r, o, l, f, x, rfl, Q, hx, hp⟩
  refine ⟨by simp [Value.category], (Nat.le_of_ble_eq_true rfl), lm_cl_of ?_⟩
  intro G hG
  have Q9 := Q
  obtain ⟨hr, ho, hro, hLr, hLo, hl12, hLF, hx12⟩ := Q
  have hp := hp _ (LF_erase hLF hx)
  have hor := hro.symm
  have hix : l.idxOf x < l.length := List.idxOf_lt_length_of_mem hx
  have hle := List.length_erase_of_mem hx
  refine lg_aload_n hG dX1_takeOut_0 rfl ?_
  refine lg_iload_n hG dX1_takeOut_1 rfl ?_
  refine lg_callV hG dX1_takeOut_2 rfl (fun P h => h) (by first | assumption | omega) (by first | assumption | exact va_up_self _ _ _ | (rw [va_up_ne _ _ (by first | assumption | omega)]; first | assumption | exact va_up_self _ _ _ | (rw [va_up_ne _ _ (by first | assumption | omega)]; first | assumption | exact va_up_self _ _ _ | (rw [va_up_ne _ _ (by first | assumption | omega)]; first | assumption | exact va_up_self _ _ _ | (rw [va_up_ne _ _ (by first | assumption | omega)]; first | assumption | exact va_up_self _ _ _))))) (Nat.le_of_ble_eq_true rfl) (Nat.le_of_ble_eq_true rfl) (Nat.le_of_ble_eq_true rfl) ?_
  refine ⟨r, o, l, f, x, rfl, Q9, hx12 x hx, ?_⟩
  rw [if_pos hx]
  refine lg_istore_n hG dX1_takeOut_5 (Nat.le_of_ble_eq_true rfl) rfl ?_
  refine lg_iload_n hG dX1_takeOut_6 rfl ?_
  refine lg_iconst hG dX1_takeOut_7 (x := (-1)) (by decide) ?_
  refine lg_icmp_eq hG dX1_takeOut_8 (tgt := 42) (by decide) (by decide) (fun h_8 => ?_) (fun h_8 => ?_)
  · skip
    exact absurd h_8 (by rw [show (-1 : Int32) = nI (2 ^ 32 - 1) from rfl]; exact nI_nm1 (by omega)) --END
  · skip
    refine lg_aload_n hG dX1_takeOut_11 rfl ?_
    refine lg_dup hG dX1_takeOut_12 rfl ?_
    refine lg_get hG dX1_takeOut_13 rfl (by first | assumption | omega) (by first | assumption | exact va_up_self _ _ _ | (rw [va_up_ne _ _ (by first | assumption | omega)]; first | assumption | exact va_up_self _ _ _ | (rw [va_up_ne _ _ (by first | assumption | omega)]; first | assumption | exact va_up_self _ _ _ | (rw [va_up_ne _ _ (by first | assumption | omega)]; first | assumption | exact va_up_self _ _ _ | (rw [va_up_ne _ _ (by first | assumption | omega)]; first | assumption | exact va_up_self _ _ _))))) (by rfl) ?_
    refine lg_iconst hG dX1_takeOut_16 (x := 1) (by decide) ?_
    refine lg_isub hG dX1_takeOut_17 (show nI l.length - 1 = nI (l.length - 1) from pk_sub (a := l.length) (b := 1) (by omega)) ?_
    refine lg_put hG dX1_takeOut_18 rfl (by first | assumption | omega) (by first | trivial | exact Or.inl rfl | exact Or.inr rfl | assumption | exact rfl) (by first | assumption | exact va_up_self _ _ _ | (rw [va_up_ne _ _ (by first | assumption | omega)]; first | assumption | exact va_up_self _ _ _ | (rw [va_up_ne _ _ (by first | assumption | omega)]; first | assumption | exact va_up_self _ _ _ | (rw [va_up_ne _ _ (by first | assumption | omega)]; first | assumption | exact va_up_self _ _ _ | (rw [va_up_ne _ _ (by first | assumption | omega)]; first | assumption | exact va_up_self _ _ _))))) (Nat.le_of_ble_eq_true rfl) (by rfl) ?_
    try rw [bx_uu]
    change G _ _ _ _ (va_up L r (ro o (nI (l.length - 1)))) _ _
    refine lg_aload_n hG dX1_takeOut_21 rfl ?_
    refine lg_get hG dX1_takeOut_22 rfl (by first | assumption | omega) (by first | assumption | exact va_up_self _ _ _ | (rw [va_up_ne _ _ (by first | assumption | omega)]; first | assumption | exact va_up_self _ _ _ | (rw [va_up_ne _ _ (by first | assumption | omega)]; first | assumption | exact va_up_self _ _ _ | (rw [va_up_ne _ _ (by first | assumption | omega)]; first | assumption | exact va_up_self _ _ _ | (rw [va_up_ne _ _ (by first | assumption | omega)]; first | assumption | exact va_up_self _ _ _))))) (by rfl) ?_
    refine lg_iload_n hG dX1_takeOut_25 rfl ?_
    refine lg_iconst hG dX1_takeOut_26 (x := 1) (by decide) ?_
    refine lg_iadd hG dX1_takeOut_27 (nI_1 (l.idxOf x)) ?_
    refine lg_aload_n hG dX1_takeOut_28 rfl ?_
    refine lg_get hG dX1_takeOut_29 rfl (by first | assumption | omega) (by first | assumption | exact va_up_self _ _ _ | (rw [va_up_ne _ _ (by first | assumption | omega)]; first | assumption | exact va_up_self _ _ _ | (rw [va_up_ne _ _ (by first | assumption | omega)]; first | assumption | exact va_up_self _ _ _ | (rw [va_up_ne _ _ (by first | assumption | omega)]; first | assumption | exact va_up_self _ _ _ | (rw [va_up_ne _ _ (by first | assumption | omega)]; first | assumption | exact va_up_self _ _ _))))) (by rfl) ?_
    refine lg_iload_n hG dX1_takeOut_32 rfl ?_
    refine lg_aload_n hG dX1_takeOut_33 rfl ?_
    refine lg_get hG dX1_takeOut_34 rfl (by first | assumption | omega) (by first | assumption | exact va_up_self _ _ _ | (rw [va_up_ne _ _ (by first | assumption | omega)]; first | assumption | exact va_up_self _ _ _ | (rw [va_up_ne _ _ (by first | assumption | omega)]; first | assumption | exact va_up_self _ _ _ | (rw [va_up_ne _ _ (by first | assumption | omega)]; first | assumption | exact va_up_self _ _ _ | (rw [va_up_ne _ _ (by first | assumption | omega)]; first | assumption | exact va_up_self _ _ _))))) (by rfl) ?_
    refine lg_iload_n hG dX1_takeOut_37 rfl ?_
    refine lg_isub hG dX1_takeOut_38 (show nI (l.length - 1) - nI (l.idxOf x) = nI (l.length - 1 - l.idxOf x) from pk_sub (by omega)) ?_
    refine lg_copy hG dX1_takeOut_39 rfl ho (Nat.le_of_ble_eq_true rfl) (N := 12) (f := f) (by rw [va_up_ne _ _ hor]; exact hLo) (nI_pos (by omega)) (nI_pos (by omega)) (nI_pos (by omega)) (by rw [nI_clamp (by omega), nI_clamp (by omega)]; omega) (by rw [nI_clamp (by omega), nI_clamp (by omega)]; omega) ?_
    rw [nI_clamp (by omega), nI_clamp (by omega), nI_clamp (by omega)]
    refine lg_vret hG dX1_takeOut_42 (Nat.le_of_ble_eq_true rfl) (Nat.le_of_ble_eq_true rfl) ?_
    refine ⟨trivial, ?_⟩
    unfold RU at hp
    rw [hle, va_up_comm hor] at hp
    exact hp

theorem RU_id {ids : Nat → ClassId} {n : Nat} {L : lm_L} {r o : Nat} {l : List Nat} {f : Nat → Int32} (h : RH ids n L r o l f) : RU ids L r o l f = L := by
  obtain ⟨-, -, -, h1, h2, -⟩ := h
  unfold RU
  rw [va_up_id h2, va_up_id h1]
def rm_X1_turnBy : Room := { frames := 2, cells := 0, slots := 0, locals := 48 }
theorem ld_X1_turnBy : yX1_turnBy.cls ≠ "java/lang/invoke/MethodHandle" ∧ yX1_turnBy.cls ≠ "java/lang/invoke/VarHandle" ∧ (parseMethodDescriptor yX1_turnBy.desc).map (fun d => d.parameters.length) = some 1 := by decide +kernel
def sp_X1_turnBy (ids : Nat → ClassId) : lm_S := fun As n L post _ => ∃ r o l f k, As = [.ref r, .int (nI k)] ∧ RH ids n L r o l f ∧ k ≤ l.length ∧ ∀ f1, LF (l.drop k ++ l.take k) f1 → post none n (RU ids L r o (l.drop k ++ l.take k) f1)
def cv_X1_turnBy (ids : Nat → ClassId) : Nat → Option lm_C := fun j => match j with
  | 29 => some (2, 1, sp_X1_takeOut ids, 0, 0)
  | 33 => some (2, 1, sp_X1_putAtEnd ids, 0, 0)
  | _ => none
set_option maxHeartbeats 4000000 in
set_option maxRecDepth 20000 in
theorem ok_X1_turnBy (l : Launch) (D : va_G) (ids : Nat → ClassId) (B b : Nat) : lm_M l D (lm_ty ids) B b false yX1_turnBy cX1_turnBy 4 none rm_X1_turnBy 0 0 (sp_X1_turnBy ids) := by
  refine lm_method (own := RX1) (fld := lf_1) (cv := (cv_X1_turnBy ids)) (cs := (fun _ => none)) (ci := (fun _ => none)) (kon := (fun _ => none)) (thr := (fun _ => none)) (nw := (fun _ => none)) (ini := false) (cp := none) (alc := false) (by decide +kernel) rfl rfl rfl (lf_1_ok _) ⟨?_, ?_⟩ ?_ (fun h => by cases h) (lm_aok0 _ _ _ _ _ _ _ _) ?_ ?_
  · intro j f hf
    unfold cv_X1_turnBy at hf
    split at hf
    · cases hf; exact ⟨yX1_takeOut, cX1_takeOut, 3, none, rm_X1_takeOut, RX1, TX1, 2, 1, rfl, rfl, ok_X1_takeOut l D ids B b, lw_1_takeOut, ll_1_29, rfl, rfl, ⟨rfl, ld_X1_takeOut⟩, by decide⟩
    · cases hf; exact ⟨yX1_putAtEnd, cX1_putAtEnd, 2, none, rm_X1_putAtEnd, RX1, TX1, 2, 1, rfl, rfl, ok_X1_putAtEnd l D ids B b, lw_1_putAtEnd, ll_1_33, rfl, rfl, ⟨rfl, ld_X1_putAtEnd⟩, by decide⟩
    · cases hf
  · intro j f hf
    cases hf
  · intro j v hv; cases hv
  · exact Or.inl fun _ => rfl
  rintro As n L post postX ⟨r, o, l, f, k, rfl, Q, hk, hp⟩
  refine ⟨by simp [Value.category], (Nat.le_of_ble_eq_true rfl), lm_cl_of ?_⟩
  intro G hG
  have Q9 := Q
  obtain ⟨hr, ho, hro, hLr, hLo, hl12, hLF, hx12⟩ := Q
  have loop : ∀ (m j : Nat) (fj : Nat → Int32), j ≤ k → k - j < m → LF (l.drop j ++ l.take j) fj → ∀ z, G 2 [some (.ref r), some (.int (nI k)), some (.int (nI j)), z] [] n (RU ids L r o (l.drop j ++ l.take j) fj) 0 0 := by
    intro m
    induction m with
    | zero => intro j fj h1 h2; omega
    | succ m ih =>
      intro j fj hjk hjm hfj z
      refine lg_iload_n hG dX1_turnBy_2 rfl ?_
      refine lg_iload_n hG dX1_turnBy_3 rfl ?_
      refine lg_icmp_ge hG dX1_turnBy_4 (tgt := 30) (by decide) (by decide) (fun h_4 => ?_) (fun h_4 => ?_)
      · skip
        have hjk2 : j = k := by
          rcases Nat.lt_or_ge j k with h | h
          · exact absurd (nI_lt h (by omega)) h_4
          · omega
        subst hjk2
        have hp := hp _ hfj
        refine lg_vret hG dX1_turnBy_30 (Nat.le_of_ble_eq_true rfl) (Nat.le_of_ble_eq_true rfl) ?_
        exact ⟨trivial, hp⟩
      · skip
        have hjk2 : j < k := (nI_ltI (by omega) (by omega)).mp h_4
        obtain ⟨x, t, e1, e2⟩ := rg_turn (l := l) (j := j) (by omega)
        have hmx : x ∈ x :: t := List.mem_cons_self
        have hxt : ∀ y ∈ x :: t, y < 12 := fun y hy => hx12 y (by rw [← e1] at hy; rcases List.mem_append.mp hy with h | h; exact List.mem_of_mem_drop h; exact List.mem_of_mem_take h)
        have hlt : (x :: t).length = l.length := by rw [← e1]; simp; omega
        rw [e1] at hfj ⊢
        have Qj := RU_RH (l1 := x :: t) Q9 hfj (by omega) hxt
        refine lg_aload_n hG dX1_turnBy_7 rfl ?_
        refine lg_get hG dX1_turnBy_8 rfl hr Qj.2.2.2.1 (by rfl) ?_
        refine lg_iconst hG dX1_turnBy_11 (x := 0) (by decide) ?_
        refine lg_iald hG dX1_turnBy_12 ho Qj.2.2.2.2.1 (vp_in_nI (n := 0) (by decide) (by decide)) ?_
        rw [show (0 : Int32).toNatClampNeg = 0 from rfl, hfj 0 x rfl]
        refine lg_istore_n hG dX1_turnBy_13 (Nat.le_of_ble_eq_true rfl) rfl ?_
        refine lg_aload_n hG dX1_turnBy_14 rfl ?_
        refine lg_iload_n hG dX1_turnBy_15 rfl ?_
        refine lg_callV hG dX1_turnBy_16 rfl (fun P h => h) hr Qj.2.2.2.1 (Nat.le_of_ble_eq_true rfl) (Nat.le_of_ble_eq_true rfl) (Nat.le_of_ble_eq_true rfl) ?_
        refine ⟨r, o, x :: t, fj, x, rfl, Qj, hmx, fun f1 hf1 => ?_⟩
        rw [List.erase_cons_head] at hf1 ⊢
        rw [RU_RU hro]
        have Q1 := RU_RH (l1 := t) Q9 hf1 (by simp at hlt; omega) (fun y hy => hxt y (List.mem_cons_of_mem _ hy))
        refine lg_aload_n hG dX1_turnBy_19 rfl ?_
        refine lg_iload_n hG dX1_turnBy_20 rfl ?_
        refine lg_callV hG dX1_turnBy_21 rfl (fun P h => h) hr Q1.2.2.2.1 (Nat.le_of_ble_eq_true rfl) (Nat.le_of_ble_eq_true rfl) (Nat.le_of_ble_eq_true rfl) ?_
        refine ⟨r, o, t, f1, x, rfl, Q1, by simp at hlt; omega, fun f2 hf2 => ?_⟩
        rw [RU_RU hro]
        rw [← e2] at hf2 ⊢
        refine lg_iinc hG dX1_turnBy_24 (Nat.le_of_ble_eq_true rfl) rfl rfl rfl ?_
        refine lg_goto hG dX1_turnBy_27 (tgt := 2) (by decide) (by decide) ?_
        rw [show nI j + Int32.ofInt 1 = nI (j + 1) from nI_1 j]
        exact ih (j + 1) f2 (by omega) (by omega) hf2 _
  refine lg_iconst hG dX1_turnBy_0 (x := 0) (by decide) ?_
  refine lg_istore_n hG dX1_turnBy_1 (Nat.le_of_ble_eq_true rfl) rfl ?_
  have h0 := loop (k + 1) 0 f (by omega) (by omega) (by simpa using hLF)
  rw [List.drop_zero, List.take_zero, List.append_nil] at h0
  rw [RU_id Q9] at h0
  exact h0 _

/-- a Queue's object: v by the number of the field -/
def qo (w c : Nat) (v : Nat → Int32) : va_E := .inr (0, [.ref w, .ref c, .int (v 2), .int (v 3), .int (v 4), .int (v 5), .int (v 6), .int (v 7), .int (v 8), .int (v 9), .int (v 10), .int (v 11), .int (v 12), .int (v 13), .int (v 14)])
abbrev ia (c : ClassId) (k : Nat) (f : Nat → Int32) : va_E := .inl (c, k, .inl f)
/-- a Queue at the place q: its object and its two rows -/
def QH (ids : Nat → ClassId) (n : Nat) (L : lm_L) (q w c : Nat) (v W C : Nat → Int32) (a : Nat) : Prop := q < n ∧ w < n ∧ c < n ∧ q ≠ w ∧ q ≠ c ∧ w ≠ c ∧ L q = qo w c v ∧ L w = ia (ids 0) 96 W ∧ L c = ia (ids 0) 96 C ∧ v 2 = nI a ∧ a < 96
theorem va_up_id {α : Type} {f : Nat → α} {k : Nat} {v : α} (h : f k = v) : va_up f k v = f := by
  funext j
  by_cases hj : j = k
  · subst hj; rw [va_up_self, h]
  · rw [va_up_ne _ _ hj]
theorem fm_xor (a b : Nat) : nI a ^^^ nI b = nI (a ^^^ b) := by
  apply Int32.toBitVec_inj.1
  show BitVec.ofNat 32 a ^^^ BitVec.ofNat 32 b = BitVec.ofNat 32 (a ^^^ b)
  apply BitVec.eq_of_getLsbD_eq
  intro i hi
  simp [hi]
theorem fm_nn {a : Nat} (h : a < 2 ^ 30) : ¬ (nI a ^^^ 96 < 0) := by
  rw [show (96 : Int32) = nI 96 from rfl, fm_xor]
  exact nI_pos (Nat.lt_of_lt_of_le (Nat.xor_lt_two_pow h (by decide : (96 : Nat) < 2 ^ 30)) (by decide))
def lkv (t : Bool) (d u p : Nat) : Nat := (p - (if t then d else d + u) + (u - 1)) / u
theorem lk_le {p d : Nat} (hp : p < 2 ^ 30) (hd : d < 2 ^ 30) : nI p - nI d ≤ 0 ↔ p ≤ d := by
  rw [Int32.le_iff_toInt_le, pk_sub_toInt hp hd, Int32.toInt_zero]
  omega
theorem lk_val {p d u : Nat} (hp : p < 2 ^ 29) (h : d < p) (hu : 0 < u) (hu2 : u < 2 ^ 29) : (nI p - nI d + nI u - 1) / nI u = nI ((p - d + (u - 1)) / u) := by
  rw [pk_sub (Nat.le_of_lt h), nI_add, show (1 : Int32) = nI 1 from rfl, pk_sub (by omega), pk_div (by omega) hu (by omega)]
  congr 2
  omega
theorem lk_pos {u : Nat} (h : 0 < u) (h2 : u < 2 ^ 31) : ¬ nI u ≤ 0 := nI_nle h h2
def rm_X0_excess : Room := { frames := 0, cells := 0, slots := 0, locals := 0 }
theorem ld_X0_excess : yX0_excess.cls ≠ "java/lang/invoke/MethodHandle" ∧ yX0_excess.cls ≠ "java/lang/invoke/VarHandle" ∧ (parseMethodDescriptor yX0_excess.desc).map (fun d => d.parameters.length) = some 0 := by decide +kernel
def sp_X0_excess (ids : Nat → ClassId) : lm_S := fun As n L post _ => ∃ q w c v, As = [.ref q] ∧ q < n ∧ L q = qo w c v ∧ post (some (.int (v 3 - v 8))) n L
set_option maxHeartbeats 4000000 in
set_option maxRecDepth 20000 in
theorem ok_X0_excess (l : Launch) (D : va_G) (ids : Nat → ClassId) (B b : Nat) : lm_M l D (lm_ty ids) B b false yX0_excess cX0_excess 1 (some .int) rm_X0_excess 0 0 (sp_X0_excess ids) := by
  refine lm_method (own := RX0) (fld := lf_0) (cv := (fun _ => none)) (cs := (fun _ => none)) (ci := (fun _ => none)) (kon := (fun _ => none)) (thr := (fun _ => none)) (nw := (fun _ => none)) (ini := false) (cp := none) (alc := false) (by decide +kernel) rfl rfl rfl (lf_0_ok _) ⟨?_, ?_⟩ ?_ (fun h => by cases h) (lm_aok0 _ _ _ _ _ _ _ _) ?_ ?_
  · intro j f hf
    cases hf
  · intro j f hf
    cases hf
  · intro j v hv; cases hv
  · exact Or.inl fun _ => rfl
  rintro As n L post postX ⟨q, w, c, v, rfl, hq, hL, hp⟩
  refine ⟨by simp [Value.category], (Nat.le_of_ble_eq_true rfl), lm_cl_of ?_⟩
  intro G hG
  refine lg_aload_n hG dX0_excess_0 rfl ?_
  refine lg_get hG dX0_excess_1 rfl (by first | assumption | omega) (by first | assumption | exact va_up_self _ _ _ | (rw [va_up_ne _ _ (by first | assumption | omega)]; first | assumption | exact va_up_self _ _ _ | (rw [va_up_ne _ _ (by first | assumption | omega)]; first | assumption | exact va_up_self _ _ _ | (rw [va_up_ne _ _ (by first | assumption | omega)]; first | assumption | exact va_up_self _ _ _ | (rw [va_up_ne _ _ (by first | assumption | omega)]; first | assumption | exact va_up_self _ _ _))))) (by rfl) ?_
  refine lg_aload_n hG dX0_excess_4 rfl ?_
  refine lg_get hG dX0_excess_5 rfl (by first | assumption | omega) (by first | assumption | exact va_up_self _ _ _ | (rw [va_up_ne _ _ (by first | assumption | omega)]; first | assumption | exact va_up_self _ _ _ | (rw [va_up_ne _ _ (by first | assumption | omega)]; first | assumption | exact va_up_self _ _ _ | (rw [va_up_ne _ _ (by first | assumption | omega)]; first | assumption | exact va_up_self _ _ _ | (rw [va_up_ne _ _ (by first | assumption | omega)]; first | assumption | exact va_up_self _ _ _))))) (by rfl) ?_
  refine lg_isub hG dX0_excess_8 rfl ?_
  refine lg_iret hG dX0_excess_9 (Nat.le_of_ble_eq_true rfl) (Nat.le_of_ble_eq_true rfl) ?_
  exact ⟨trivial, hp⟩

def rm_J9_floorMod : Room := { frames := 0, cells := 0, slots := 0, locals := 0 }
theorem ld_J9_floorMod : yJ9_floorMod_7cf53.cls ≠ "java/lang/invoke/MethodHandle" ∧ yJ9_floorMod_7cf53.cls ≠ "java/lang/invoke/VarHandle" ∧ (parseMethodDescriptor yJ9_floorMod_7cf53.desc).map (fun d => d.parameters.length) = some 2 := by decide +kernel
def sp_J9_floorMod (ids : Nat → ClassId) : lm_S := fun As n L post _ => ∃ x : Nat, x < 2 ^ 30 ∧ As = [.int (nI x), .int 96] ∧ post (some (.int (nI (x % 96)))) n L
set_option maxHeartbeats 4000000 in
set_option maxRecDepth 20000 in
theorem ok_J9_floorMod (l : Launch) (D : va_G) (ids : Nat → ClassId) (B b : Nat) : lm_M l D (lm_ty ids) B b false yJ9_floorMod_7cf53 cJ9_floorMod_7cf53 3 (some .int) rm_J9_floorMod 0 0 (sp_J9_floorMod ids) := by
  refine lm_method (own := RJ9) (fld := (fun _ => none)) (cv := (fun _ => none)) (cs := (fun _ => none)) (ci := (fun _ => none)) (kon := (fun _ => none)) (thr := (fun _ => none)) (nw := (fun _ => none)) (ini := false) (cp := none) (alc := false) (by decide +kernel) rfl rfl rfl (fun _ _ _ _ _ _ _ _ _ h => by cases h) ⟨?_, ?_⟩ ?_ (fun h => by cases h) (lm_aok0 _ _ _ _ _ _ _ _) ?_ ?_
  · intro j f hf
    cases hf
  · intro j f hf
    cases hf
  · intro j v hv; cases hv
  · exact Or.inl fun _ => rfl
  rintro As n L post postX ⟨x, hx, rfl, hp⟩
  refine ⟨by simp [Value.category], (Nat.le_of_ble_eq_true rfl), lm_cl_of ?_⟩
  intro G hG
  refine lg_iload_n hG dJ9_floorMod_7cf53_0 rfl ?_
  refine lg_iload_n hG dJ9_floorMod_7cf53_1 rfl ?_
  refine lg_irem hG dJ9_floorMod_7cf53_2 (by decide) (pk_rem (d := 96) (by omega) (by decide) (by decide)) ?_
  refine lg_istore_n hG dJ9_floorMod_7cf53_3 (Nat.le_of_ble_eq_true rfl) rfl ?_
  refine lg_iload_n hG dJ9_floorMod_7cf53_4 rfl ?_
  refine lg_iload_n hG dJ9_floorMod_7cf53_5 rfl ?_
  refine lg_ixor hG dJ9_floorMod_7cf53_6 rfl ?_
  refine lg_if_ge hG dJ9_floorMod_7cf53_7 (tgt := 18) (by decide) (by decide) (fun h_7 => ?_) (fun h_7 => ?_)
  · skip
    refine lg_iload_n hG dJ9_floorMod_7cf53_18 rfl ?_
    refine lg_iret hG dJ9_floorMod_7cf53_19 (Nat.le_of_ble_eq_true rfl) (Nat.le_of_ble_eq_true rfl) ?_
    exact ⟨trivial, hp⟩
  · skip
    exact (fm_nn hx h_7).elim --END

def rm_X0_cellOf : Room := { frames := 1, cells := 0, slots := 0, locals := 22 }
theorem ld_X0_cellOf : yX0_cellOf.cls ≠ "java/lang/invoke/MethodHandle" ∧ yX0_cellOf.cls ≠ "java/lang/invoke/VarHandle" ∧ (parseMethodDescriptor yX0_cellOf.desc).map (fun d => d.parameters.length) = some 1 := by decide +kernel
def sp_X0_cellOf (ids : Nat → ClassId) : lm_S := fun As n L post _ => ∃ q w c v a k, As = [.ref q, .int (nI k)] ∧ q < n ∧ L q = qo w c v ∧ v 2 = nI a ∧ a + k < 2 ^ 30 ∧ post (some (.int (nI ((a + k) % 96)))) n L
def cs_X0_cellOf (ids : Nat → ClassId) : Nat → Option lm_C := fun j => match j with
  | 55 => some (2, 0, sp_J9_floorMod ids, 0, 0)
  | _ => none
set_option maxHeartbeats 4000000 in
set_option maxRecDepth 20000 in
theorem ok_X0_cellOf (l : Launch) (D : va_G) (ids : Nat → ClassId) (B b : Nat) : lm_M l D (lm_ty ids) B b false yX0_cellOf cX0_cellOf 2 (some .int) rm_X0_cellOf 0 0 (sp_X0_cellOf ids) := by
  refine lm_method (own := RX0) (fld := lf_0) (cv := (fun _ => none)) (cs := (cs_X0_cellOf ids)) (ci := (fun _ => none)) (kon := (fun _ => none)) (thr := (fun _ => none)) (nw := (fun _ => none)) (ini := false) (cp := none) (alc := false) (by decide +kernel) rfl rfl rfl (lf_0_ok _) ⟨?_, ?_⟩ ?_ (fun h => by cases h) (lm_aok0 _ _ _ _ _ _ _ _) ?_ ?_
  · intro j f hf
    cases hf
  · intro j f hf
    unfold cs_X0_cellOf at hf
    split at hf
    · cases hf; exact ⟨yJ9_floorMod_7cf53, cJ9_floorMod_7cf53, 3, (some .int), rm_J9_floorMod, ok_J9_floorMod l D ids B b, lw_9_floorMod, ll_0_55, rfl, rfl, ld_J9_floorMod, by decide⟩
    · cases hf
  · intro j v hv; cases hv
  · exact Or.inl fun _ => rfl
  rintro As n L post postX ⟨q, w, c, v, a, k, rfl, hq, hL, hv, hk, hp⟩
  refine ⟨by simp [Value.category], (Nat.le_of_ble_eq_true rfl), lm_cl_of ?_⟩
  intro G hG
  refine lg_aload_n hG dX0_cellOf_0 rfl ?_
  refine lg_get hG dX0_cellOf_1 rfl (by first | assumption | omega) (by first | assumption | exact va_up_self _ _ _ | (rw [va_up_ne _ _ (by first | assumption | omega)]; first | assumption | exact va_up_self _ _ _ | (rw [va_up_ne _ _ (by first | assumption | omega)]; first | assumption | exact va_up_self _ _ _ | (rw [va_up_ne _ _ (by first | assumption | omega)]; first | assumption | exact va_up_self _ _ _ | (rw [va_up_ne _ _ (by first | assumption | omega)]; first | assumption | exact va_up_self _ _ _))))) (by rfl) ?_
  refine lg_iload_n hG dX0_cellOf_4 rfl ?_
  refine lg_iadd hG dX0_cellOf_5 (show v 2 + nI k = nI (a + k) by rw [hv]; exact nI_add a k) ?_
  refine lg_bipush hG dX0_cellOf_6 (x := (96)) (by decide) ?_
  refine lg_callS hG dX0_cellOf_8 (by simp) rfl (fun P h => h) (Nat.le_of_ble_eq_true rfl) (Nat.le_of_ble_eq_true rfl) (Nat.le_of_ble_eq_true rfl) ?_
  refine ⟨a + k, hk, rfl, ?_⟩
  refine lg_iret hG dX0_cellOf_11 (Nat.le_of_ble_eq_true rfl) (Nat.le_of_ble_eq_true rfl) ?_
  exact ⟨trivial, hp⟩

def rm_X0_wordAt : Room := { frames := 2, cells := 0, slots := 0, locals := 43 }
theorem ld_X0_wordAt : yX0_wordAt.cls ≠ "java/lang/invoke/MethodHandle" ∧ yX0_wordAt.cls ≠ "java/lang/invoke/VarHandle" ∧ (parseMethodDescriptor yX0_wordAt.desc).map (fun d => d.parameters.length) = some 1 := by decide +kernel
def sp_X0_wordAt (ids : Nat → ClassId) : lm_S := fun As n L post _ => ∃ q w c v W C a k, As = [.ref q, .int (nI k)] ∧ QH ids n L q w c v W C a ∧ k < 2 ^ 20 ∧ post (some (.int (W ((a + k) % 96)))) n L
def cv_X0_wordAt (ids : Nat → ClassId) : Nat → Option lm_C := fun j => match j with
  | 31 => some (2, 0, sp_X0_cellOf ids, 0, 0)
  | _ => none
set_option maxHeartbeats 4000000 in
set_option maxRecDepth 20000 in
theorem ok_X0_wordAt (l : Launch) (D : va_G) (ids : Nat → ClassId) (B b : Nat) : lm_M l D (lm_ty ids) B b false yX0_wordAt cX0_wordAt 2 (some .int) rm_X0_wordAt 0 0 (sp_X0_wordAt ids) := by
  refine lm_method (own := RX0) (fld := lf_0) (cv := (cv_X0_wordAt ids)) (cs := (fun _ => none)) (ci := (fun _ => none)) (kon := (fun _ => none)) (thr := (fun _ => none)) (nw := (fun _ => none)) (ini := false) (cp := none) (alc := false) (by decide +kernel) rfl rfl rfl (lf_0_ok _) ⟨?_, ?_⟩ ?_ (fun h => by cases h) (lm_aok0 _ _ _ _ _ _ _ _) ?_ ?_
  · intro j f hf
    unfold cv_X0_wordAt at hf
    split at hf
    · cases hf; exact ⟨yX0_cellOf, cX0_cellOf, 2, (some .int), rm_X0_cellOf, RX0, TX0, 15, 1, rfl, rfl, ok_X0_cellOf l D ids B b, lw_0_cellOf, ll_0_31, rfl, rfl, ⟨rfl, ld_X0_cellOf⟩, by decide⟩
    · cases hf
  · intro j f hf
    cases hf
  · intro j v hv; cases hv
  · exact Or.inl fun _ => rfl
  rintro As n L post postX ⟨q, w, c, v, W, C, a, k, rfl, ⟨hq, hw, hc, hqw, hqc, hwc, hL, hLw, hLc, hv, ha⟩, hk, hp⟩
  refine ⟨by simp [Value.category], (Nat.le_of_ble_eq_true rfl), lm_cl_of ?_⟩
  intro G hG
  refine lg_aload_n hG dX0_wordAt_0 rfl ?_
  refine lg_get hG dX0_wordAt_1 rfl (by first | assumption | omega) (by first | assumption | exact va_up_self _ _ _ | (rw [va_up_ne _ _ (by first | assumption | omega)]; first | assumption | exact va_up_self _ _ _ | (rw [va_up_ne _ _ (by first | assumption | omega)]; first | assumption | exact va_up_self _ _ _ | (rw [va_up_ne _ _ (by first | assumption | omega)]; first | assumption | exact va_up_self _ _ _ | (rw [va_up_ne _ _ (by first | assumption | omega)]; first | assumption | exact va_up_self _ _ _))))) (by rfl) ?_
  refine lg_aload_n hG dX0_wordAt_4 rfl ?_
  refine lg_iload_n hG dX0_wordAt_5 rfl ?_
  refine lg_callV hG dX0_wordAt_6 rfl (fun P h => h) (by first | assumption | omega) (by first | assumption | exact va_up_self _ _ _ | (rw [va_up_ne _ _ (by first | assumption | omega)]; first | assumption | exact va_up_self _ _ _ | (rw [va_up_ne _ _ (by first | assumption | omega)]; first | assumption | exact va_up_self _ _ _ | (rw [va_up_ne _ _ (by first | assumption | omega)]; first | assumption | exact va_up_self _ _ _ | (rw [va_up_ne _ _ (by first | assumption | omega)]; first | assumption | exact va_up_self _ _ _))))) (Nat.le_of_ble_eq_true rfl) (Nat.le_of_ble_eq_true rfl) (Nat.le_of_ble_eq_true rfl) ?_
  refine ⟨q, w, c, v, a, k, rfl, hq, hL, hv, by omega, ?_⟩
  refine lg_iald hG dX0_wordAt_9 (by first | assumption | omega) (by first | assumption | exact va_up_self _ _ _ | (rw [va_up_ne _ _ (by first | assumption | omega)]; first | assumption | exact va_up_self _ _ _ | (rw [va_up_ne _ _ (by first | assumption | omega)]; first | assumption | exact va_up_self _ _ _ | (rw [va_up_ne _ _ (by first | assumption | omega)]; first | assumption | exact va_up_self _ _ _ | (rw [va_up_ne _ _ (by first | assumption | omega)]; first | assumption | exact va_up_self _ _ _))))) (vp_in_nI (by omega) (by decide)) ?_
  rw [nI_clamp (by omega)]
  refine lg_iret hG dX0_wordAt_10 (Nat.le_of_ble_eq_true rfl) (Nat.le_of_ble_eq_true rfl) ?_
  exact ⟨trivial, hp⟩

def rm_X0_costAt : Room := { frames := 2, cells := 0, slots := 0, locals := 43 }
theorem ld_X0_costAt : yX0_costAt.cls ≠ "java/lang/invoke/MethodHandle" ∧ yX0_costAt.cls ≠ "java/lang/invoke/VarHandle" ∧ (parseMethodDescriptor yX0_costAt.desc).map (fun d => d.parameters.length) = some 1 := by decide +kernel
def sp_X0_costAt (ids : Nat → ClassId) : lm_S := fun As n L post _ => ∃ q w c v W C a k, As = [.ref q, .int (nI k)] ∧ QH ids n L q w c v W C a ∧ k < 2 ^ 20 ∧ post (some (.int (C ((a + k) % 96)))) n L
def cv_X0_costAt (ids : Nat → ClassId) : Nat → Option lm_C := fun j => match j with
  | 31 => some (2, 0, sp_X0_cellOf ids, 0, 0)
  | _ => none
set_option maxHeartbeats 4000000 in
set_option maxRecDepth 20000 in
theorem ok_X0_costAt (l : Launch) (D : va_G) (ids : Nat → ClassId) (B b : Nat) : lm_M l D (lm_ty ids) B b false yX0_costAt cX0_costAt 2 (some .int) rm_X0_costAt 0 0 (sp_X0_costAt ids) := by
  refine lm_method (own := RX0) (fld := lf_0) (cv := (cv_X0_costAt ids)) (cs := (fun _ => none)) (ci := (fun _ => none)) (kon := (fun _ => none)) (thr := (fun _ => none)) (nw := (fun _ => none)) (ini := false) (cp := none) (alc := false) (by decide +kernel) rfl rfl rfl (lf_0_ok _) ⟨?_, ?_⟩ ?_ (fun h => by cases h) (lm_aok0 _ _ _ _ _ _ _ _) ?_ ?_
  · intro j f hf
    unfold cv_X0_costAt at hf
    split at hf
    · cases hf; exact ⟨yX0_cellOf, cX0_cellOf, 2, (some .int), rm_X0_cellOf, RX0, TX0, 15, 1, rfl, rfl, ok_X0_cellOf l D ids B b, lw_0_cellOf, ll_0_31, rfl, rfl, ⟨rfl, ld_X0_cellOf⟩, by decide⟩
    · cases hf
  · intro j f hf
    cases hf
  · intro j v hv; cases hv
  · exact Or.inl fun _ => rfl
  rintro As n L post postX ⟨q, w, c, v, W, C, a, k, rfl, ⟨hq, hw, hc, hqw, hqc, hwc, hL, hLw, hLc, hv, ha⟩, hk, hp⟩
  refine ⟨by simp [Value.category], (Nat.le_of_ble_eq_true rfl), lm_cl_of ?_⟩
  intro G hG
  refine lg_aload_n hG dX0_costAt_0 rfl ?_
  refine lg_get hG dX0_costAt_1 rfl (by first | assumption | omega) (by first | assumption | exact va_up_self _ _ _ | (rw [va_up_ne _ _ (by first | assumption | omega)]; first | assumption | exact va_up_self _ _ _ | (rw [va_up_ne _ _ (by first | assumption | omega)]; first | assumption | exact va_up_self _ _ _ | (rw [va_up_ne _ _ (by first | assumption | omega)]; first | assumption | exact va_up_self _ _ _ | (rw [va_up_ne _ _ (by first | assumption | omega)]; first | assumption | exact va_up_self _ _ _))))) (by rfl) ?_
  refine lg_aload_n hG dX0_costAt_4 rfl ?_
  refine lg_iload_n hG dX0_costAt_5 rfl ?_
  refine lg_callV hG dX0_costAt_6 rfl (fun P h => h) (by first | assumption | omega) (by first | assumption | exact va_up_self _ _ _ | (rw [va_up_ne _ _ (by first | assumption | omega)]; first | assumption | exact va_up_self _ _ _ | (rw [va_up_ne _ _ (by first | assumption | omega)]; first | assumption | exact va_up_self _ _ _ | (rw [va_up_ne _ _ (by first | assumption | omega)]; first | assumption | exact va_up_self _ _ _ | (rw [va_up_ne _ _ (by first | assumption | omega)]; first | assumption | exact va_up_self _ _ _))))) (Nat.le_of_ble_eq_true rfl) (Nat.le_of_ble_eq_true rfl) (Nat.le_of_ble_eq_true rfl) ?_
  refine ⟨q, w, c, v, a, k, rfl, hq, hL, hv, by omega, ?_⟩
  refine lg_iald hG dX0_costAt_9 (by first | assumption | omega) (by first | assumption | exact va_up_self _ _ _ | (rw [va_up_ne _ _ (by first | assumption | omega)]; first | assumption | exact va_up_self _ _ _ | (rw [va_up_ne _ _ (by first | assumption | omega)]; first | assumption | exact va_up_self _ _ _ | (rw [va_up_ne _ _ (by first | assumption | omega)]; first | assumption | exact va_up_self _ _ _ | (rw [va_up_ne _ _ (by first | assumption | omega)]; first | assumption | exact va_up_self _ _ _))))) (vp_in_nI (by omega) (by decide)) ?_
  rw [nI_clamp (by omega)]
  refine lg_iret hG dX0_costAt_10 (Nat.le_of_ble_eq_true rfl) (Nat.le_of_ble_eq_true rfl) ?_
  exact ⟨trivial, hp⟩

def rm_X0_firstCost : Room := { frames := 0, cells := 0, slots := 0, locals := 0 }
theorem ld_X0_firstCost : yX0_firstCost.cls ≠ "java/lang/invoke/MethodHandle" ∧ yX0_firstCost.cls ≠ "java/lang/invoke/VarHandle" ∧ (parseMethodDescriptor yX0_firstCost.desc).map (fun d => d.parameters.length) = some 0 := by decide +kernel
def sp_X0_firstCost (ids : Nat → ClassId) : lm_S := fun As n L post _ => ∃ q w c v W C a, As = [.ref q] ∧ QH ids n L q w c v W C a ∧ post (some (.int (C a))) n L
set_option maxHeartbeats 4000000 in
set_option maxRecDepth 20000 in
theorem ok_X0_firstCost (l : Launch) (D : va_G) (ids : Nat → ClassId) (B b : Nat) : lm_M l D (lm_ty ids) B b false yX0_firstCost cX0_firstCost 1 (some .int) rm_X0_firstCost 0 0 (sp_X0_firstCost ids) := by
  refine lm_method (own := RX0) (fld := lf_0) (cv := (fun _ => none)) (cs := (fun _ => none)) (ci := (fun _ => none)) (kon := (fun _ => none)) (thr := (fun _ => none)) (nw := (fun _ => none)) (ini := false) (cp := none) (alc := false) (by decide +kernel) rfl rfl rfl (lf_0_ok _) ⟨?_, ?_⟩ ?_ (fun h => by cases h) (lm_aok0 _ _ _ _ _ _ _ _) ?_ ?_
  · intro j f hf
    cases hf
  · intro j f hf
    cases hf
  · intro j v hv; cases hv
  · exact Or.inl fun _ => rfl
  rintro As n L post postX ⟨q, w, c, v, W, C, a, rfl, Q, hp⟩
  refine ⟨by simp [Value.category], (Nat.le_of_ble_eq_true rfl), lm_cl_of ?_⟩
  intro G hG
  obtain ⟨hq, hw, hc, hqw, hqc, hwc, hL, hLw, hLc, hv, ha⟩ := Q
  refine lg_aload_n hG dX0_firstCost_0 rfl ?_
  refine lg_get hG dX0_firstCost_1 rfl (by first | assumption | omega) (by first | assumption | exact va_up_self _ _ _ | (rw [va_up_ne _ _ (by first | assumption | omega)]; first | assumption | exact va_up_self _ _ _ | (rw [va_up_ne _ _ (by first | assumption | omega)]; first | assumption | exact va_up_self _ _ _ | (rw [va_up_ne _ _ (by first | assumption | omega)]; first | assumption | exact va_up_self _ _ _ | (rw [va_up_ne _ _ (by first | assumption | omega)]; first | assumption | exact va_up_self _ _ _))))) (by rfl) ?_
  refine lg_aload_n hG dX0_firstCost_4 rfl ?_
  refine lg_get hG dX0_firstCost_5 rfl (by first | assumption | omega) (by first | assumption | exact va_up_self _ _ _ | (rw [va_up_ne _ _ (by first | assumption | omega)]; first | assumption | exact va_up_self _ _ _ | (rw [va_up_ne _ _ (by first | assumption | omega)]; first | assumption | exact va_up_self _ _ _ | (rw [va_up_ne _ _ (by first | assumption | omega)]; first | assumption | exact va_up_self _ _ _ | (rw [va_up_ne _ _ (by first | assumption | omega)]; first | assumption | exact va_up_self _ _ _))))) (by rfl) ?_
  rw [hv]
  refine lg_iald hG dX0_firstCost_8 (by first | assumption | omega) (by first | assumption | exact va_up_self _ _ _ | (rw [va_up_ne _ _ (by first | assumption | omega)]; first | assumption | exact va_up_self _ _ _ | (rw [va_up_ne _ _ (by first | assumption | omega)]; first | assumption | exact va_up_self _ _ _ | (rw [va_up_ne _ _ (by first | assumption | omega)]; first | assumption | exact va_up_self _ _ _ | (rw [va_up_ne _ _ (by first | assumption | omega)]; first | assumption | exact va_up_self _ _ _))))) (vp_in_nI (by omega) (by decide)) ?_
  rw [nI_clamp (by omega)]
  refine lg_iret hG dX0_firstCost_9 (Nat.le_of_ble_eq_true rfl) (Nat.le_of_ble_eq_true rfl) ?_
  exact ⟨trivial, hp⟩

def rm_X0_putLast : Room := { frames := 2, cells := 0, slots := 0, locals := 43 }
theorem ld_X0_putLast : yX0_putLast.cls ≠ "java/lang/invoke/MethodHandle" ∧ yX0_putLast.cls ≠ "java/lang/invoke/VarHandle" ∧ (parseMethodDescriptor yX0_putLast.desc).map (fun d => d.parameters.length) = some 2 := by decide +kernel
def sp_X0_putLast (ids : Nat → ClassId) : lm_S := fun As n L post _ => ∃ q w c v W C a m word cost, As = [.ref q, .int word, .int cost] ∧ QH ids n L q w c v W C a ∧ v 3 = nI m ∧ m < 2 ^ 20 ∧ post none n (va_up (va_up (va_up L w (ia (ids 0) 96 (upd W ((a + m) % 96) word))) c (ia (ids 0) 96 (upd C ((a + m) % 96) cost))) q (qo w c (upd (upd v 4 (v 4 + cost)) 3 (v 3 + 1))))
def cv_X0_putLast (ids : Nat → ClassId) : Nat → Option lm_C := fun j => match j with
  | 31 => some (2, 0, sp_X0_cellOf ids, 0, 0)
  | _ => none
set_option maxHeartbeats 4000000 in
set_option maxRecDepth 20000 in
theorem ok_X0_putLast (l : Launch) (D : va_G) (ids : Nat → ClassId) (B b : Nat) : lm_M l D (lm_ty ids) B b false yX0_putLast cX0_putLast 4 none rm_X0_putLast 0 0 (sp_X0_putLast ids) := by
  refine lm_method (own := RX0) (fld := lf_0) (cv := (cv_X0_putLast ids)) (cs := (fun _ => none)) (ci := (fun _ => none)) (kon := (fun _ => none)) (thr := (fun _ => none)) (nw := (fun _ => none)) (ini := false) (cp := none) (alc := false) (by decide +kernel) rfl rfl rfl (lf_0_ok _) ⟨?_, ?_⟩ ?_ (fun h => by cases h) (lm_aok0 _ _ _ _ _ _ _ _) ?_ ?_
  · intro j f hf
    unfold cv_X0_putLast at hf
    split at hf
    · cases hf; exact ⟨yX0_cellOf, cX0_cellOf, 2, (some .int), rm_X0_cellOf, RX0, TX0, 15, 1, rfl, rfl, ok_X0_cellOf l D ids B b, lw_0_cellOf, ll_0_31, rfl, rfl, ⟨rfl, ld_X0_cellOf⟩, by decide⟩
    · cases hf
  · intro j f hf
    cases hf
  · intro j v hv; cases hv
  · exact Or.inl fun _ => rfl
  rintro As n L post postX ⟨q, w, c, v, W, C, a, m, word, cost, rfl, Q, hm, hm2, hp⟩
  refine ⟨by simp [Value.category], (Nat.le_of_ble_eq_true rfl), lm_cl_of ?_⟩
  intro G hG
  have Q9 := Q
  obtain ⟨hq, hw, hc, hqw, hqc, hwc, hL, hLw, hLc, hv, ha⟩ := Q
  have hcl : (nI ((a + m) % 96)).toNatClampNeg = (a + m) % 96 := nI_clamp (by omega)
  have hin : vp_in (nI ((a + m) % 96)) 96 := vp_in_nI (by omega) (by decide)
  have hwq := hqw.symm
  have hcq := hqc.symm
  have hcw := hwc.symm
  refine lg_aload_n hG dX0_putLast_0 rfl ?_
  refine lg_aload_n hG dX0_putLast_1 rfl ?_
  refine lg_get hG dX0_putLast_2 rfl (by first | assumption | omega) (by first | assumption | exact va_up_self _ _ _ | (rw [va_up_ne _ _ (by first | assumption | omega)]; first | assumption | exact va_up_self _ _ _ | (rw [va_up_ne _ _ (by first | assumption | omega)]; first | assumption | exact va_up_self _ _ _ | (rw [va_up_ne _ _ (by first | assumption | omega)]; first | assumption | exact va_up_self _ _ _ | (rw [va_up_ne _ _ (by first | assumption | omega)]; first | assumption | exact va_up_self _ _ _))))) (by rfl) ?_
  refine lg_callV hG dX0_putLast_5 rfl (fun P h => h) (by first | assumption | omega) (by first | assumption | exact va_up_self _ _ _ | (rw [va_up_ne _ _ (by first | assumption | omega)]; first | assumption | exact va_up_self _ _ _ | (rw [va_up_ne _ _ (by first | assumption | omega)]; first | assumption | exact va_up_self _ _ _ | (rw [va_up_ne _ _ (by first | assumption | omega)]; first | assumption | exact va_up_self _ _ _ | (rw [va_up_ne _ _ (by first | assumption | omega)]; first | assumption | exact va_up_self _ _ _))))) (Nat.le_of_ble_eq_true rfl) (Nat.le_of_ble_eq_true rfl) (Nat.le_of_ble_eq_true rfl) ?_
  refine ⟨q, w, c, v, a, m, by rw [hm], hq, hL, hv, by omega, ?_⟩
  refine lg_istore_n hG dX0_putLast_8 (Nat.le_of_ble_eq_true rfl) rfl ?_
  refine lg_aload_n hG dX0_putLast_9 rfl ?_
  refine lg_get hG dX0_putLast_10 rfl (by first | assumption | omega) (by first | assumption | exact va_up_self _ _ _ | (rw [va_up_ne _ _ (by first | assumption | omega)]; first | assumption | exact va_up_self _ _ _ | (rw [va_up_ne _ _ (by first | assumption | omega)]; first | assumption | exact va_up_self _ _ _ | (rw [va_up_ne _ _ (by first | assumption | omega)]; first | assumption | exact va_up_self _ _ _ | (rw [va_up_ne _ _ (by first | assumption | omega)]; first | assumption | exact va_up_self _ _ _))))) (by rfl) ?_
  refine lg_iload_n hG dX0_putLast_13 rfl ?_
  refine lg_iload_n hG dX0_putLast_14 rfl ?_
  refine lg_iast hG dX0_putLast_15 (by first | assumption | omega) (by first | assumption | exact va_up_self _ _ _ | (rw [va_up_ne _ _ (by first | assumption | omega)]; first | assumption | exact va_up_self _ _ _ | (rw [va_up_ne _ _ (by first | assumption | omega)]; first | assumption | exact va_up_self _ _ _ | (rw [va_up_ne _ _ (by first | assumption | omega)]; first | assumption | exact va_up_self _ _ _ | (rw [va_up_ne _ _ (by first | assumption | omega)]; first | assumption | exact va_up_self _ _ _))))) hin ?_
  rw [hcl]
  refine lg_aload_n hG dX0_putLast_16 rfl ?_
  refine lg_get hG dX0_putLast_17 rfl (by first | assumption | omega) (by first | assumption | exact va_up_self _ _ _ | (rw [va_up_ne _ _ (by first | assumption | omega)]; first | assumption | exact va_up_self _ _ _ | (rw [va_up_ne _ _ (by first | assumption | omega)]; first | assumption | exact va_up_self _ _ _ | (rw [va_up_ne _ _ (by first | assumption | omega)]; first | assumption | exact va_up_self _ _ _ | (rw [va_up_ne _ _ (by first | assumption | omega)]; first | assumption | exact va_up_self _ _ _))))) (by rfl) ?_
  refine lg_iload_n hG dX0_putLast_20 rfl ?_
  refine lg_iload_n hG dX0_putLast_21 rfl ?_
  refine lg_iast hG dX0_putLast_22 (by first | assumption | omega) (by first | assumption | exact va_up_self _ _ _ | (rw [va_up_ne _ _ (by first | assumption | omega)]; first | assumption | exact va_up_self _ _ _ | (rw [va_up_ne _ _ (by first | assumption | omega)]; first | assumption | exact va_up_self _ _ _ | (rw [va_up_ne _ _ (by first | assumption | omega)]; first | assumption | exact va_up_self _ _ _ | (rw [va_up_ne _ _ (by first | assumption | omega)]; first | assumption | exact va_up_self _ _ _))))) hin ?_
  rw [hcl]
  refine lg_aload_n hG dX0_putLast_23 rfl ?_
  refine lg_dup hG dX0_putLast_24 rfl ?_
  refine lg_get hG dX0_putLast_25 rfl (by first | assumption | omega) (by first | assumption | exact va_up_self _ _ _ | (rw [va_up_ne _ _ (by first | assumption | omega)]; first | assumption | exact va_up_self _ _ _ | (rw [va_up_ne _ _ (by first | assumption | omega)]; first | assumption | exact va_up_self _ _ _ | (rw [va_up_ne _ _ (by first | assumption | omega)]; first | assumption | exact va_up_self _ _ _ | (rw [va_up_ne _ _ (by first | assumption | omega)]; first | assumption | exact va_up_self _ _ _))))) (by rfl) ?_
  refine lg_iload_n hG dX0_putLast_28 rfl ?_
  refine lg_iadd hG dX0_putLast_29 rfl ?_
  refine lg_put hG dX0_putLast_30 rfl (by first | assumption | omega) (by first | trivial | exact Or.inl rfl | exact Or.inr rfl | assumption | exact rfl) (by first | assumption | exact va_up_self _ _ _ | (rw [va_up_ne _ _ (by first | assumption | omega)]; first | assumption | exact va_up_self _ _ _ | (rw [va_up_ne _ _ (by first | assumption | omega)]; first | assumption | exact va_up_self _ _ _ | (rw [va_up_ne _ _ (by first | assumption | omega)]; first | assumption | exact va_up_self _ _ _ | (rw [va_up_ne _ _ (by first | assumption | omega)]; first | assumption | exact va_up_self _ _ _))))) (Nat.le_of_ble_eq_true rfl) (by rfl) ?_
  try rw [bx_uu]
  change G _ _ _ _ (va_up (va_up (va_up L w (ia (ids 0) 96 (upd W ((a + m) % 96) word))) c (ia (ids 0) 96 (upd C ((a + m) % 96) cost))) q (qo w c (upd v 4 (v 4 + cost)))) _ _
  refine lg_aload_n hG dX0_putLast_33 rfl ?_
  refine lg_dup hG dX0_putLast_34 rfl ?_
  refine lg_get hG dX0_putLast_35 rfl (by first | assumption | omega) (by first | assumption | exact va_up_self _ _ _ | (rw [va_up_ne _ _ (by first | assumption | omega)]; first | assumption | exact va_up_self _ _ _ | (rw [va_up_ne _ _ (by first | assumption | omega)]; first | assumption | exact va_up_self _ _ _ | (rw [va_up_ne _ _ (by first | assumption | omega)]; first | assumption | exact va_up_self _ _ _ | (rw [va_up_ne _ _ (by first | assumption | omega)]; first | assumption | exact va_up_self _ _ _))))) (by rfl) ?_
  refine lg_iconst hG dX0_putLast_38 (x := 1) (by decide) ?_
  refine lg_iadd hG dX0_putLast_39 rfl ?_
  refine lg_put hG dX0_putLast_40 rfl (by first | assumption | omega) (by first | trivial | exact Or.inl rfl | exact Or.inr rfl | assumption | exact rfl) (by first | assumption | exact va_up_self _ _ _ | (rw [va_up_ne _ _ (by first | assumption | omega)]; first | assumption | exact va_up_self _ _ _ | (rw [va_up_ne _ _ (by first | assumption | omega)]; first | assumption | exact va_up_self _ _ _ | (rw [va_up_ne _ _ (by first | assumption | omega)]; first | assumption | exact va_up_self _ _ _ | (rw [va_up_ne _ _ (by first | assumption | omega)]; first | assumption | exact va_up_self _ _ _))))) (Nat.le_of_ble_eq_true rfl) (by rfl) ?_
  try rw [bx_uu]
  change G _ _ _ _ (va_up (va_up (va_up L w (ia (ids 0) 96 (upd W ((a + m) % 96) word))) c (ia (ids 0) 96 (upd C ((a + m) % 96) cost))) q (qo w c (upd (upd v 4 (v 4 + cost)) 3 (v 3 + 1)))) _ _
  refine lg_vret hG dX0_putLast_43 (Nat.le_of_ble_eq_true rfl) (Nat.le_of_ble_eq_true rfl) ?_
  exact ⟨trivial, hp⟩

def rm_X0_dropFirst : Room := { frames := 2, cells := 0, slots := 0, locals := 43 }
theorem ld_X0_dropFirst : yX0_dropFirst.cls ≠ "java/lang/invoke/MethodHandle" ∧ yX0_dropFirst.cls ≠ "java/lang/invoke/VarHandle" ∧ (parseMethodDescriptor yX0_dropFirst.desc).map (fun d => d.parameters.length) = some 0 := by decide +kernel
def sp_X0_dropFirst (ids : Nat → ClassId) : lm_S := fun As n L post _ => ∃ q w c v W C a, As = [.ref q] ∧ QH ids n L q w c v W C a ∧ post none n (va_up L q (qo w c (upd (upd (upd v 4 (v 4 - C a)) 2 (nI ((a + 1) % 96))) 3 (v 3 - 1))))
def cv_X0_dropFirst (ids : Nat → ClassId) : Nat → Option lm_C := fun j => match j with
  | 31 => some (2, 0, sp_X0_cellOf ids, 0, 0)
  | 41 => some (1, 0, sp_X0_firstCost ids, 0, 0)
  | _ => none
set_option maxHeartbeats 4000000 in
set_option maxRecDepth 20000 in
theorem ok_X0_dropFirst (l : Launch) (D : va_G) (ids : Nat → ClassId) (B b : Nat) : lm_M l D (lm_ty ids) B b false yX0_dropFirst cX0_dropFirst 1 none rm_X0_dropFirst 0 0 (sp_X0_dropFirst ids) := by
  refine lm_method (own := RX0) (fld := lf_0) (cv := (cv_X0_dropFirst ids)) (cs := (fun _ => none)) (ci := (fun _ => none)) (kon := (fun _ => none)) (thr := (fun _ => none)) (nw := (fun _ => none)) (ini := false) (cp := none) (alc := false) (by decide +kernel) rfl rfl rfl (lf_0_ok _) ⟨?_, ?_⟩ ?_ (fun h => by cases h) (lm_aok0 _ _ _ _ _ _ _ _) ?_ ?_
  · intro j f hf
    unfold cv_X0_dropFirst at hf
    split at hf
    · cases hf; exact ⟨yX0_cellOf, cX0_cellOf, 2, (some .int), rm_X0_cellOf, RX0, TX0, 15, 1, rfl, rfl, ok_X0_cellOf l D ids B b, lw_0_cellOf, ll_0_31, rfl, rfl, ⟨rfl, ld_X0_cellOf⟩, by decide⟩
    · cases hf; exact ⟨yX0_firstCost, cX0_firstCost, 1, (some .int), rm_X0_firstCost, RX0, TX0, 15, 0, rfl, rfl, ok_X0_firstCost l D ids B b, lw_0_firstCost, ll_0_41, rfl, rfl, ⟨rfl, ld_X0_firstCost⟩, by decide⟩
    · cases hf
  · intro j f hf
    cases hf
  · intro j v hv; cases hv
  · exact Or.inl fun _ => rfl
  rintro As n L post postX ⟨q, w, c, v, W, C, a, rfl, Q, hp⟩
  refine ⟨by simp [Value.category], (Nat.le_of_ble_eq_true rfl), lm_cl_of ?_⟩
  intro G hG
  have Q9 := Q
  obtain ⟨hq, hw, hc, hqw, hqc, hwc, hL, hLw, hLc, hv, ha⟩ := Q
  refine lg_aload_n hG dX0_dropFirst_0 rfl ?_
  refine lg_dup hG dX0_dropFirst_1 rfl ?_
  refine lg_get hG dX0_dropFirst_2 rfl (by first | assumption | omega) (by first | assumption | exact va_up_self _ _ _ | (rw [va_up_ne _ _ (by first | assumption | omega)]; first | assumption | exact va_up_self _ _ _ | (rw [va_up_ne _ _ (by first | assumption | omega)]; first | assumption | exact va_up_self _ _ _ | (rw [va_up_ne _ _ (by first | assumption | omega)]; first | assumption | exact va_up_self _ _ _ | (rw [va_up_ne _ _ (by first | assumption | omega)]; first | assumption | exact va_up_self _ _ _))))) (by rfl) ?_
  refine lg_aload_n hG dX0_dropFirst_5 rfl ?_
  refine lg_callV hG dX0_dropFirst_6 rfl (fun P h => h) (by first | assumption | omega) (by first | assumption | exact va_up_self _ _ _ | (rw [va_up_ne _ _ (by first | assumption | omega)]; first | assumption | exact va_up_self _ _ _ | (rw [va_up_ne _ _ (by first | assumption | omega)]; first | assumption | exact va_up_self _ _ _ | (rw [va_up_ne _ _ (by first | assumption | omega)]; first | assumption | exact va_up_self _ _ _ | (rw [va_up_ne _ _ (by first | assumption | omega)]; first | assumption | exact va_up_self _ _ _))))) (Nat.le_of_ble_eq_true rfl) (Nat.le_of_ble_eq_true rfl) (Nat.le_of_ble_eq_true rfl) ?_
  refine ⟨q, w, c, v, W, C, a, rfl, Q9, ?_⟩
  refine lg_isub hG dX0_dropFirst_9 rfl ?_
  refine lg_put hG dX0_dropFirst_10 rfl (by first | assumption | omega) (by first | trivial | exact Or.inl rfl | exact Or.inr rfl | assumption | exact rfl) (by first | assumption | exact va_up_self _ _ _ | (rw [va_up_ne _ _ (by first | assumption | omega)]; first | assumption | exact va_up_self _ _ _ | (rw [va_up_ne _ _ (by first | assumption | omega)]; first | assumption | exact va_up_self _ _ _ | (rw [va_up_ne _ _ (by first | assumption | omega)]; first | assumption | exact va_up_self _ _ _ | (rw [va_up_ne _ _ (by first | assumption | omega)]; first | assumption | exact va_up_self _ _ _))))) (Nat.le_of_ble_eq_true rfl) (by rfl) ?_
  try rw [bx_uu]
  change G _ _ _ _ (va_up L q (qo w c (upd v 4 (v 4 - C a)))) _ _
  refine lg_aload_n hG dX0_dropFirst_13 rfl ?_
  refine lg_aload_n hG dX0_dropFirst_14 rfl ?_
  refine lg_iconst hG dX0_dropFirst_15 (x := 1) (by decide) ?_
  refine lg_callV hG dX0_dropFirst_16 rfl (fun P h => h) (by first | assumption | omega) (by first | assumption | exact va_up_self _ _ _ | (rw [va_up_ne _ _ (by first | assumption | omega)]; first | assumption | exact va_up_self _ _ _ | (rw [va_up_ne _ _ (by first | assumption | omega)]; first | assumption | exact va_up_self _ _ _ | (rw [va_up_ne _ _ (by first | assumption | omega)]; first | assumption | exact va_up_self _ _ _ | (rw [va_up_ne _ _ (by first | assumption | omega)]; first | assumption | exact va_up_self _ _ _))))) (Nat.le_of_ble_eq_true rfl) (Nat.le_of_ble_eq_true rfl) (Nat.le_of_ble_eq_true rfl) ?_
  refine ⟨q, w, c, upd v 4 (v 4 - C a), a, 1, rfl, hq, va_up_self _ _ _, hv, by omega, ?_⟩
  refine lg_put hG dX0_dropFirst_19 rfl (by first | assumption | omega) (by first | trivial | exact Or.inl rfl | exact Or.inr rfl | assumption | exact rfl) (by first | assumption | exact va_up_self _ _ _ | (rw [va_up_ne _ _ (by first | assumption | omega)]; first | assumption | exact va_up_self _ _ _ | (rw [va_up_ne _ _ (by first | assumption | omega)]; first | assumption | exact va_up_self _ _ _ | (rw [va_up_ne _ _ (by first | assumption | omega)]; first | assumption | exact va_up_self _ _ _ | (rw [va_up_ne _ _ (by first | assumption | omega)]; first | assumption | exact va_up_self _ _ _))))) (Nat.le_of_ble_eq_true rfl) (by rfl) ?_
  try rw [bx_uu]
  change G _ _ _ _ (va_up L q (qo w c (upd (upd v 4 (v 4 - C a)) 2 (nI ((a + 1) % 96))))) _ _
  refine lg_aload_n hG dX0_dropFirst_22 rfl ?_
  refine lg_dup hG dX0_dropFirst_23 rfl ?_
  refine lg_get hG dX0_dropFirst_24 rfl (by first | assumption | omega) (by first | assumption | exact va_up_self _ _ _ | (rw [va_up_ne _ _ (by first | assumption | omega)]; first | assumption | exact va_up_self _ _ _ | (rw [va_up_ne _ _ (by first | assumption | omega)]; first | assumption | exact va_up_self _ _ _ | (rw [va_up_ne _ _ (by first | assumption | omega)]; first | assumption | exact va_up_self _ _ _ | (rw [va_up_ne _ _ (by first | assumption | omega)]; first | assumption | exact va_up_self _ _ _))))) (by rfl) ?_
  refine lg_iconst hG dX0_dropFirst_27 (x := 1) (by decide) ?_
  refine lg_isub hG dX0_dropFirst_28 rfl ?_
  refine lg_put hG dX0_dropFirst_29 rfl (by first | assumption | omega) (by first | trivial | exact Or.inl rfl | exact Or.inr rfl | assumption | exact rfl) (by first | assumption | exact va_up_self _ _ _ | (rw [va_up_ne _ _ (by first | assumption | omega)]; first | assumption | exact va_up_self _ _ _ | (rw [va_up_ne _ _ (by first | assumption | omega)]; first | assumption | exact va_up_self _ _ _ | (rw [va_up_ne _ _ (by first | assumption | omega)]; first | assumption | exact va_up_self _ _ _ | (rw [va_up_ne _ _ (by first | assumption | omega)]; first | assumption | exact va_up_self _ _ _))))) (Nat.le_of_ble_eq_true rfl) (by rfl) ?_
  try rw [bx_uu]
  change G _ _ _ _ (va_up L q (qo w c (upd (upd (upd v 4 (v 4 - C a)) 2 (nI ((a + 1) % 96))) 3 (v 3 - 1)))) _ _
  refine lg_vret hG dX0_dropFirst_32 (Nat.le_of_ble_eq_true rfl) (Nat.le_of_ble_eq_true rfl) ?_
  exact ⟨trivial, hp⟩

def rm_X0_dropLast : Room := { frames := 3, cells := 0, slots := 0, locals := 64 }
theorem ld_X0_dropLast : yX0_dropLast.cls ≠ "java/lang/invoke/MethodHandle" ∧ yX0_dropLast.cls ≠ "java/lang/invoke/VarHandle" ∧ (parseMethodDescriptor yX0_dropLast.desc).map (fun d => d.parameters.length) = some 0 := by decide +kernel
def sp_X0_dropLast (ids : Nat → ClassId) : lm_S := fun As n L post _ => ∃ q w c v W C a m, As = [.ref q] ∧ QH ids n L q w c v W C a ∧ v 3 = nI (m + 1) ∧ m < 2 ^ 20 ∧ post none n (va_up L q (qo w c (upd (upd v 4 (v 4 - C ((a + m) % 96))) 3 (v 3 - 1))))
def cv_X0_dropLast (ids : Nat → ClassId) : Nat → Option lm_C := fun j => match j with
  | 45 => some (2, 0, sp_X0_costAt ids, 0, 0)
  | _ => none
set_option maxHeartbeats 4000000 in
set_option maxRecDepth 20000 in
theorem ok_X0_dropLast (l : Launch) (D : va_G) (ids : Nat → ClassId) (B b : Nat) : lm_M l D (lm_ty ids) B b false yX0_dropLast cX0_dropLast 1 none rm_X0_dropLast 0 0 (sp_X0_dropLast ids) := by
  refine lm_method (own := RX0) (fld := lf_0) (cv := (cv_X0_dropLast ids)) (cs := (fun _ => none)) (ci := (fun _ => none)) (kon := (fun _ => none)) (thr := (fun _ => none)) (nw := (fun _ => none)) (ini := false) (cp := none) (alc := false) (by decide +kernel) rfl rfl rfl (lf_0_ok _) ⟨?_, ?_⟩ ?_ (fun h => by cases h) (lm_aok0 _ _ _ _ _ _ _ _) ?_ ?_
  · intro j f hf
    unfold cv_X0_dropLast at hf
    split at hf
    · cases hf; exact ⟨yX0_costAt, cX0_costAt, 2, (some .int), rm_X0_costAt, RX0, TX0, 15, 1, rfl, rfl, ok_X0_costAt l D ids B b, lw_0_costAt, ll_0_45, rfl, rfl, ⟨rfl, ld_X0_costAt⟩, by decide⟩
    · cases hf
  · intro j f hf
    cases hf
  · intro j v hv; cases hv
  · exact Or.inl fun _ => rfl
  rintro As n L post postX ⟨q, w, c, v, W, C, a, m, rfl, Q, hm, hm2, hp⟩
  refine ⟨by simp [Value.category], (Nat.le_of_ble_eq_true rfl), lm_cl_of ?_⟩
  intro G hG
  have Q9 := Q
  obtain ⟨hq, hw, hc, hqw, hqc, hwc, hL, hLw, hLc, hv, ha⟩ := Q
  refine lg_aload_n hG dX0_dropLast_0 rfl ?_
  refine lg_dup hG dX0_dropLast_1 rfl ?_
  refine lg_get hG dX0_dropLast_2 rfl (by first | assumption | omega) (by first | assumption | exact va_up_self _ _ _ | (rw [va_up_ne _ _ (by first | assumption | omega)]; first | assumption | exact va_up_self _ _ _ | (rw [va_up_ne _ _ (by first | assumption | omega)]; first | assumption | exact va_up_self _ _ _ | (rw [va_up_ne _ _ (by first | assumption | omega)]; first | assumption | exact va_up_self _ _ _ | (rw [va_up_ne _ _ (by first | assumption | omega)]; first | assumption | exact va_up_self _ _ _))))) (by rfl) ?_
  refine lg_aload_n hG dX0_dropLast_5 rfl ?_
  refine lg_aload_n hG dX0_dropLast_6 rfl ?_
  refine lg_get hG dX0_dropLast_7 rfl (by first | assumption | omega) (by first | assumption | exact va_up_self _ _ _ | (rw [va_up_ne _ _ (by first | assumption | omega)]; first | assumption | exact va_up_self _ _ _ | (rw [va_up_ne _ _ (by first | assumption | omega)]; first | assumption | exact va_up_self _ _ _ | (rw [va_up_ne _ _ (by first | assumption | omega)]; first | assumption | exact va_up_self _ _ _ | (rw [va_up_ne _ _ (by first | assumption | omega)]; first | assumption | exact va_up_self _ _ _))))) (by rfl) ?_
  refine lg_iconst hG dX0_dropLast_10 (x := 1) (by decide) ?_
  refine lg_isub hG dX0_dropLast_11 (show v 3 - 1 = nI m by rw [hm]; exact nI_pred m) ?_
  refine lg_callV hG dX0_dropLast_12 rfl (fun P h => h) (by first | assumption | omega) (by first | assumption | exact va_up_self _ _ _ | (rw [va_up_ne _ _ (by first | assumption | omega)]; first | assumption | exact va_up_self _ _ _ | (rw [va_up_ne _ _ (by first | assumption | omega)]; first | assumption | exact va_up_self _ _ _ | (rw [va_up_ne _ _ (by first | assumption | omega)]; first | assumption | exact va_up_self _ _ _ | (rw [va_up_ne _ _ (by first | assumption | omega)]; first | assumption | exact va_up_self _ _ _))))) (Nat.le_of_ble_eq_true rfl) (Nat.le_of_ble_eq_true rfl) (Nat.le_of_ble_eq_true rfl) ?_
  refine ⟨q, w, c, v, W, C, a, m, rfl, Q9, hm2, ?_⟩
  refine lg_isub hG dX0_dropLast_15 rfl ?_
  refine lg_put hG dX0_dropLast_16 rfl (by first | assumption | omega) (by first | trivial | exact Or.inl rfl | exact Or.inr rfl | assumption | exact rfl) (by first | assumption | exact va_up_self _ _ _ | (rw [va_up_ne _ _ (by first | assumption | omega)]; first | assumption | exact va_up_self _ _ _ | (rw [va_up_ne _ _ (by first | assumption | omega)]; first | assumption | exact va_up_self _ _ _ | (rw [va_up_ne _ _ (by first | assumption | omega)]; first | assumption | exact va_up_self _ _ _ | (rw [va_up_ne _ _ (by first | assumption | omega)]; first | assumption | exact va_up_self _ _ _))))) (Nat.le_of_ble_eq_true rfl) (by rfl) ?_
  try rw [bx_uu]
  change G _ _ _ _ (va_up L q (qo w c (upd v 4 (v 4 - C ((a + m) % 96))))) _ _
  refine lg_aload_n hG dX0_dropLast_19 rfl ?_
  refine lg_dup hG dX0_dropLast_20 rfl ?_
  refine lg_get hG dX0_dropLast_21 rfl (by first | assumption | omega) (by first | assumption | exact va_up_self _ _ _ | (rw [va_up_ne _ _ (by first | assumption | omega)]; first | assumption | exact va_up_self _ _ _ | (rw [va_up_ne _ _ (by first | assumption | omega)]; first | assumption | exact va_up_self _ _ _ | (rw [va_up_ne _ _ (by first | assumption | omega)]; first | assumption | exact va_up_self _ _ _ | (rw [va_up_ne _ _ (by first | assumption | omega)]; first | assumption | exact va_up_self _ _ _))))) (by rfl) ?_
  refine lg_iconst hG dX0_dropLast_24 (x := 1) (by decide) ?_
  refine lg_isub hG dX0_dropLast_25 rfl ?_
  refine lg_put hG dX0_dropLast_26 rfl (by first | assumption | omega) (by first | trivial | exact Or.inl rfl | exact Or.inr rfl | assumption | exact rfl) (by first | assumption | exact va_up_self _ _ _ | (rw [va_up_ne _ _ (by first | assumption | omega)]; first | assumption | exact va_up_self _ _ _ | (rw [va_up_ne _ _ (by first | assumption | omega)]; first | assumption | exact va_up_self _ _ _ | (rw [va_up_ne _ _ (by first | assumption | omega)]; first | assumption | exact va_up_self _ _ _ | (rw [va_up_ne _ _ (by first | assumption | omega)]; first | assumption | exact va_up_self _ _ _))))) (Nat.le_of_ble_eq_true rfl) (by rfl) ?_
  try rw [bx_uu]
  change G _ _ _ _ (va_up L q (qo w c (upd (upd v 4 (v 4 - C ((a + m) % 96))) 3 (v 3 - 1)))) _ _
  refine lg_vret hG dX0_dropLast_29 (Nat.le_of_ble_eq_true rfl) (Nat.le_of_ble_eq_true rfl) ?_
  exact ⟨trivial, hp⟩

def rm_X0_dropAll : Room := { frames := 0, cells := 0, slots := 0, locals := 0 }
theorem ld_X0_dropAll : yX0_dropAll.cls ≠ "java/lang/invoke/MethodHandle" ∧ yX0_dropAll.cls ≠ "java/lang/invoke/VarHandle" ∧ (parseMethodDescriptor yX0_dropAll.desc).map (fun d => d.parameters.length) = some 0 := by decide +kernel
def sp_X0_dropAll (ids : Nat → ClassId) : lm_S := fun As n L post _ => ∃ q w c v, As = [.ref q] ∧ q < n ∧ L q = qo w c v ∧ post none n (va_up L q (qo w c (upd (upd v 4 0) 3 0)))
set_option maxHeartbeats 4000000 in
set_option maxRecDepth 20000 in
theorem ok_X0_dropAll (l : Launch) (D : va_G) (ids : Nat → ClassId) (B b : Nat) : lm_M l D (lm_ty ids) B b false yX0_dropAll cX0_dropAll 1 none rm_X0_dropAll 0 0 (sp_X0_dropAll ids) := by
  refine lm_method (own := RX0) (fld := lf_0) (cv := (fun _ => none)) (cs := (fun _ => none)) (ci := (fun _ => none)) (kon := (fun _ => none)) (thr := (fun _ => none)) (nw := (fun _ => none)) (ini := false) (cp := none) (alc := false) (by decide +kernel) rfl rfl rfl (lf_0_ok _) ⟨?_, ?_⟩ ?_ (fun h => by cases h) (lm_aok0 _ _ _ _ _ _ _ _) ?_ ?_
  · intro j f hf
    cases hf
  · intro j f hf
    cases hf
  · intro j v hv; cases hv
  · exact Or.inl fun _ => rfl
  rintro As n L post postX ⟨q, w, c, v, rfl, hq, hL, hp⟩
  refine ⟨by simp [Value.category], (Nat.le_of_ble_eq_true rfl), lm_cl_of ?_⟩
  intro G hG
  refine lg_aload_n hG dX0_dropAll_0 rfl ?_
  refine lg_iconst hG dX0_dropAll_1 (x := 0) (by decide) ?_
  refine lg_put hG dX0_dropAll_2 rfl (by first | assumption | omega) (by first | trivial | exact Or.inl rfl | exact Or.inr rfl | assumption | exact rfl) (by first | assumption | exact va_up_self _ _ _ | (rw [va_up_ne _ _ (by first | assumption | omega)]; first | assumption | exact va_up_self _ _ _ | (rw [va_up_ne _ _ (by first | assumption | omega)]; first | assumption | exact va_up_self _ _ _ | (rw [va_up_ne _ _ (by first | assumption | omega)]; first | assumption | exact va_up_self _ _ _ | (rw [va_up_ne _ _ (by first | assumption | omega)]; first | assumption | exact va_up_self _ _ _))))) (Nat.le_of_ble_eq_true rfl) (by rfl) ?_
  try rw [bx_uu]
  change G _ _ _ _ (va_up L q (qo w c (upd v 4 0))) _ _
  refine lg_aload_n hG dX0_dropAll_5 rfl ?_
  refine lg_iconst hG dX0_dropAll_6 (x := 0) (by decide) ?_
  refine lg_put hG dX0_dropAll_7 rfl (by first | assumption | omega) (by first | trivial | exact Or.inl rfl | exact Or.inr rfl | assumption | exact rfl) (by first | assumption | exact va_up_self _ _ _ | (rw [va_up_ne _ _ (by first | assumption | omega)]; first | assumption | exact va_up_self _ _ _ | (rw [va_up_ne _ _ (by first | assumption | omega)]; first | assumption | exact va_up_self _ _ _ | (rw [va_up_ne _ _ (by first | assumption | omega)]; first | assumption | exact va_up_self _ _ _ | (rw [va_up_ne _ _ (by first | assumption | omega)]; first | assumption | exact va_up_self _ _ _))))) (Nat.le_of_ble_eq_true rfl) (by rfl) ?_
  try rw [bx_uu]
  change G _ _ _ _ (va_up L q (qo w c (upd (upd v 4 0) 3 0))) _ _
  refine lg_vret hG dX0_dropAll_10 (Nat.le_of_ble_eq_true rfl) (Nat.le_of_ble_eq_true rfl) ?_
  exact ⟨trivial, hp⟩

def rm_X0_looksInVain : Room := { frames := 1, cells := 0, slots := 0, locals := 20 }
theorem ld_X0_looksInVain : yX0_looksInVain.cls ≠ "java/lang/invoke/MethodHandle" ∧ yX0_looksInVain.cls ≠ "java/lang/invoke/VarHandle" ∧ (parseMethodDescriptor yX0_looksInVain.desc).map (fun d => d.parameters.length) = some 0 := by decide +kernel
def sp_X0_looksInVain (ids : Nat → ClassId) : lm_S := fun As n L post _ => ∃ q w c v W C a t d u p, As = [.ref q] ∧ QH ids n L q w c v W C a ∧ v 10 = (if t then 1 else 0) ∧ v 9 = nI d ∧ v 6 = nI u ∧ C a = nI p ∧ d < 2 ^ 28 ∧ 0 < u ∧ u < 2 ^ 28 ∧ p < 2 ^ 28 ∧ post (some (.int (nI (lkv t d u p)))) n L
def cv_X0_looksInVain (ids : Nat → ClassId) : Nat → Option lm_C := fun j => match j with
  | 41 => some (1, 0, sp_X0_firstCost ids, 0, 0)
  | _ => none
set_option maxHeartbeats 4000000 in
set_option maxRecDepth 20000 in
theorem ok_X0_looksInVain (l : Launch) (D : va_G) (ids : Nat → ClassId) (B b : Nat) : lm_M l D (lm_ty ids) B b false yX0_looksInVain cX0_looksInVain 3 (some .int) rm_X0_looksInVain 0 0 (sp_X0_looksInVain ids) := by
  refine lm_method (own := RX0) (fld := lf_0) (cv := (cv_X0_looksInVain ids)) (cs := (fun _ => none)) (ci := (fun _ => none)) (kon := (fun _ => none)) (thr := (fun _ => none)) (nw := (fun _ => none)) (ini := false) (cp := none) (alc := false) (by decide +kernel) rfl rfl rfl (lf_0_ok _) ⟨?_, ?_⟩ ?_ (fun h => by cases h) (lm_aok0 _ _ _ _ _ _ _ _) ?_ ?_
  · intro j f hf
    unfold cv_X0_looksInVain at hf
    split at hf
    · cases hf; exact ⟨yX0_firstCost, cX0_firstCost, 1, (some .int), rm_X0_firstCost, RX0, TX0, 15, 0, rfl, rfl, ok_X0_firstCost l D ids B b, lw_0_firstCost, ll_0_41, rfl, rfl, ⟨rfl, ld_X0_firstCost⟩, by decide⟩
    · cases hf
  · intro j f hf
    cases hf
  · intro j v hv; cases hv
  · exact Or.inl fun _ => rfl
  rintro As n L post postX ⟨q, w, c, v, W, C, a, t, d, u, p, rfl, Q, ht, hd, hu, hpc, hd2, hu1, hu2, hp2, hp⟩
  refine ⟨by simp [Value.category], (Nat.le_of_ble_eq_true rfl), lm_cl_of ?_⟩
  intro G hG
  have Q9 := Q
  obtain ⟨hq, hw, hc, hqw, hqc, hwc, hL, hLw, hLc, hv, ha⟩ := Q
  cases t with
  | true =>
    refine lg_aload_n hG dX0_looksInVain_0 rfl ?_
    refine lg_get hG dX0_looksInVain_1 rfl (by first | assumption | omega) (by first | assumption | exact va_up_self _ _ _ | (rw [va_up_ne _ _ (by first | assumption | omega)]; first | assumption | exact va_up_self _ _ _ | (rw [va_up_ne _ _ (by first | assumption | omega)]; first | assumption | exact va_up_self _ _ _ | (rw [va_up_ne _ _ (by first | assumption | omega)]; first | assumption | exact va_up_self _ _ _ | (rw [va_up_ne _ _ (by first | assumption | omega)]; first | assumption | exact va_up_self _ _ _))))) (by rfl) ?_
    refine lg_if_eq hG dX0_looksInVain_4 (tgt := 14) (by decide) (by decide) (fun h_4 => ?_) (fun h_4 => ?_)
    · skip
      rw [ht] at h_4; exact absurd h_4 (by decide) --END
    · skip
      refine lg_aload_n hG dX0_looksInVain_7 rfl ?_
      refine lg_get hG dX0_looksInVain_8 rfl (by first | assumption | omega) (by first | assumption | exact va_up_self _ _ _ | (rw [va_up_ne _ _ (by first | assumption | omega)]; first | assumption | exact va_up_self _ _ _ | (rw [va_up_ne _ _ (by first | assumption | omega)]; first | assumption | exact va_up_self _ _ _ | (rw [va_up_ne _ _ (by first | assumption | omega)]; first | assumption | exact va_up_self _ _ _ | (rw [va_up_ne _ _ (by first | assumption | omega)]; first | assumption | exact va_up_self _ _ _))))) (by rfl) ?_
      rw [hd]
      refine lg_goto hG dX0_looksInVain_11 (tgt := 23) (by decide) (by decide) ?_
      refine lg_istore_n hG dX0_looksInVain_23 (Nat.le_of_ble_eq_true rfl) rfl ?_
      refine lg_aload_n hG dX0_looksInVain_24 rfl ?_
      refine lg_callV hG dX0_looksInVain_25 rfl (fun P h => h) (by first | assumption | omega) (by first | assumption | exact va_up_self _ _ _ | (rw [va_up_ne _ _ (by first | assumption | omega)]; first | assumption | exact va_up_self _ _ _ | (rw [va_up_ne _ _ (by first | assumption | omega)]; first | assumption | exact va_up_self _ _ _ | (rw [va_up_ne _ _ (by first | assumption | omega)]; first | assumption | exact va_up_self _ _ _ | (rw [va_up_ne _ _ (by first | assumption | omega)]; first | assumption | exact va_up_self _ _ _))))) (Nat.le_of_ble_eq_true rfl) (Nat.le_of_ble_eq_true rfl) (Nat.le_of_ble_eq_true rfl) ?_
      refine ⟨q, w, c, v, W, C, a, rfl, Q9, ?_⟩
      rw [hpc]
      refine lg_iload_n hG dX0_looksInVain_28 rfl ?_
      refine lg_isub hG dX0_looksInVain_29 rfl ?_
      refine lg_istore_n hG dX0_looksInVain_30 (Nat.le_of_ble_eq_true rfl) rfl ?_
      refine lg_iload_n hG dX0_looksInVain_31 rfl ?_
      refine lg_if_le hG dX0_looksInVain_32 (tgt := 42) (by decide) (by decide) (fun h_32 => ?_) (fun h_32 => ?_)
      · skip
        refine lg_iconst hG dX0_looksInVain_42 (x := 0) (by decide) ?_
        refine lg_iret hG dX0_looksInVain_43 (Nat.le_of_ble_eq_true rfl) (Nat.le_of_ble_eq_true rfl) ?_
        refine ⟨trivial, ?_⟩
        have hz : lkv true d u p = 0 := by
          unfold lkv
          have h9 := (lk_le (by omega) (by omega)).mp h_32
          simp only [if_true, Bool.false_eq_true, if_false]
          rw [show p - d = 0 by omega]
          exact Nat.div_eq_of_lt (by omega)
        rw [hz] at hp
        exact hp
      · skip
        refine lg_aload_n hG dX0_looksInVain_35 rfl ?_
        refine lg_get hG dX0_looksInVain_36 rfl (by first | assumption | omega) (by first | assumption | exact va_up_self _ _ _ | (rw [va_up_ne _ _ (by first | assumption | omega)]; first | assumption | exact va_up_self _ _ _ | (rw [va_up_ne _ _ (by first | assumption | omega)]; first | assumption | exact va_up_self _ _ _ | (rw [va_up_ne _ _ (by first | assumption | omega)]; first | assumption | exact va_up_self _ _ _ | (rw [va_up_ne _ _ (by first | assumption | omega)]; first | assumption | exact va_up_self _ _ _))))) (by rfl) ?_
        refine lg_if_gt hG dX0_looksInVain_39 (tgt := 44) (by decide) (by decide) (fun h_39 => ?_) (fun h_39 => ?_)
        · skip
          refine lg_iload_n hG dX0_looksInVain_44 rfl ?_
          refine lg_aload_n hG dX0_looksInVain_45 rfl ?_
          refine lg_get hG dX0_looksInVain_46 rfl (by first | assumption | omega) (by first | assumption | exact va_up_self _ _ _ | (rw [va_up_ne _ _ (by first | assumption | omega)]; first | assumption | exact va_up_self _ _ _ | (rw [va_up_ne _ _ (by first | assumption | omega)]; first | assumption | exact va_up_self _ _ _ | (rw [va_up_ne _ _ (by first | assumption | omega)]; first | assumption | exact va_up_self _ _ _ | (rw [va_up_ne _ _ (by first | assumption | omega)]; first | assumption | exact va_up_self _ _ _))))) (by rfl) ?_
          refine lg_iadd hG dX0_looksInVain_49 rfl ?_
          refine lg_iconst hG dX0_looksInVain_50 (x := 1) (by decide) ?_
          refine lg_isub hG dX0_looksInVain_51 rfl ?_
          refine lg_aload_n hG dX0_looksInVain_52 rfl ?_
          refine lg_get hG dX0_looksInVain_53 rfl (by first | assumption | omega) (by first | assumption | exact va_up_self _ _ _ | (rw [va_up_ne _ _ (by first | assumption | omega)]; first | assumption | exact va_up_self _ _ _ | (rw [va_up_ne _ _ (by first | assumption | omega)]; first | assumption | exact va_up_self _ _ _ | (rw [va_up_ne _ _ (by first | assumption | omega)]; first | assumption | exact va_up_self _ _ _ | (rw [va_up_ne _ _ (by first | assumption | omega)]; first | assumption | exact va_up_self _ _ _))))) (by rfl) ?_
          refine lg_idiv hG dX0_looksInVain_56 (by rw [hu]; exact nI_ne0 hu1 (by omega)) (show (nI p - nI d + v 6 - 1) / v 6 = nI ((p - d + (u - 1)) / u) by rw [hu]; exact lk_val (by omega) (by have h9 : ¬ p ≤ d := (fun h => h_32 ((lk_le (by omega) (by omega)).mpr h)); omega) hu1 (by omega)) ?_
          refine lg_iret hG dX0_looksInVain_57 (Nat.le_of_ble_eq_true rfl) (Nat.le_of_ble_eq_true rfl) ?_
          refine ⟨trivial, ?_⟩
          have h9 : ¬ p ≤ d := fun h => h_32 ((lk_le (by omega) (by omega)).mpr h)
          have hz : lkv true d u p = (p - d + (u - 1)) / u := rfl
          rw [hz] at hp
          exact hp
        · skip
          exact absurd h_39 (by rw [hu]; exact lk_pos hu1 (by omega)) --END
  | false =>
    refine lg_aload_n hG dX0_looksInVain_0 rfl ?_
    refine lg_get hG dX0_looksInVain_1 rfl (by first | assumption | omega) (by first | assumption | exact va_up_self _ _ _ | (rw [va_up_ne _ _ (by first | assumption | omega)]; first | assumption | exact va_up_self _ _ _ | (rw [va_up_ne _ _ (by first | assumption | omega)]; first | assumption | exact va_up_self _ _ _ | (rw [va_up_ne _ _ (by first | assumption | omega)]; first | assumption | exact va_up_self _ _ _ | (rw [va_up_ne _ _ (by first | assumption | omega)]; first | assumption | exact va_up_self _ _ _))))) (by rfl) ?_
    refine lg_if_eq hG dX0_looksInVain_4 (tgt := 14) (by decide) (by decide) (fun h_4 => ?_) (fun h_4 => ?_)
    · skip
      refine lg_aload_n hG dX0_looksInVain_14 rfl ?_
      refine lg_get hG dX0_looksInVain_15 rfl (by first | assumption | omega) (by first | assumption | exact va_up_self _ _ _ | (rw [va_up_ne _ _ (by first | assumption | omega)]; first | assumption | exact va_up_self _ _ _ | (rw [va_up_ne _ _ (by first | assumption | omega)]; first | assumption | exact va_up_self _ _ _ | (rw [va_up_ne _ _ (by first | assumption | omega)]; first | assumption | exact va_up_self _ _ _ | (rw [va_up_ne _ _ (by first | assumption | omega)]; first | assumption | exact va_up_self _ _ _))))) (by rfl) ?_
      refine lg_aload_n hG dX0_looksInVain_18 rfl ?_
      refine lg_get hG dX0_looksInVain_19 rfl (by first | assumption | omega) (by first | assumption | exact va_up_self _ _ _ | (rw [va_up_ne _ _ (by first | assumption | omega)]; first | assumption | exact va_up_self _ _ _ | (rw [va_up_ne _ _ (by first | assumption | omega)]; first | assumption | exact va_up_self _ _ _ | (rw [va_up_ne _ _ (by first | assumption | omega)]; first | assumption | exact va_up_self _ _ _ | (rw [va_up_ne _ _ (by first | assumption | omega)]; first | assumption | exact va_up_self _ _ _))))) (by rfl) ?_
      refine lg_iadd hG dX0_looksInVain_22 (show v 9 + v 6 = nI (d + u) by rw [hd, hu]; exact nI_add d u) ?_
      refine lg_istore_n hG dX0_looksInVain_23 (Nat.le_of_ble_eq_true rfl) rfl ?_
      refine lg_aload_n hG dX0_looksInVain_24 rfl ?_
      refine lg_callV hG dX0_looksInVain_25 rfl (fun P h => h) (by first | assumption | omega) (by first | assumption | exact va_up_self _ _ _ | (rw [va_up_ne _ _ (by first | assumption | omega)]; first | assumption | exact va_up_self _ _ _ | (rw [va_up_ne _ _ (by first | assumption | omega)]; first | assumption | exact va_up_self _ _ _ | (rw [va_up_ne _ _ (by first | assumption | omega)]; first | assumption | exact va_up_self _ _ _ | (rw [va_up_ne _ _ (by first | assumption | omega)]; first | assumption | exact va_up_self _ _ _))))) (Nat.le_of_ble_eq_true rfl) (Nat.le_of_ble_eq_true rfl) (Nat.le_of_ble_eq_true rfl) ?_
      refine ⟨q, w, c, v, W, C, a, rfl, Q9, ?_⟩
      rw [hpc]
      refine lg_iload_n hG dX0_looksInVain_28 rfl ?_
      refine lg_isub hG dX0_looksInVain_29 rfl ?_
      refine lg_istore_n hG dX0_looksInVain_30 (Nat.le_of_ble_eq_true rfl) rfl ?_
      refine lg_iload_n hG dX0_looksInVain_31 rfl ?_
      refine lg_if_le hG dX0_looksInVain_32 (tgt := 42) (by decide) (by decide) (fun h_32 => ?_) (fun h_32 => ?_)
      · skip
        refine lg_iconst hG dX0_looksInVain_42 (x := 0) (by decide) ?_
        refine lg_iret hG dX0_looksInVain_43 (Nat.le_of_ble_eq_true rfl) (Nat.le_of_ble_eq_true rfl) ?_
        refine ⟨trivial, ?_⟩
        have hz : lkv false d u p = 0 := by
          unfold lkv
          have h9 := (lk_le (by omega) (by omega)).mp h_32
          simp only [if_true, Bool.false_eq_true, if_false]
          rw [show p - (d + u) = 0 by omega]
          exact Nat.div_eq_of_lt (by omega)
        rw [hz] at hp
        exact hp
      · skip
        refine lg_aload_n hG dX0_looksInVain_35 rfl ?_
        refine lg_get hG dX0_looksInVain_36 rfl (by first | assumption | omega) (by first | assumption | exact va_up_self _ _ _ | (rw [va_up_ne _ _ (by first | assumption | omega)]; first | assumption | exact va_up_self _ _ _ | (rw [va_up_ne _ _ (by first | assumption | omega)]; first | assumption | exact va_up_self _ _ _ | (rw [va_up_ne _ _ (by first | assumption | omega)]; first | assumption | exact va_up_self _ _ _ | (rw [va_up_ne _ _ (by first | assumption | omega)]; first | assumption | exact va_up_self _ _ _))))) (by rfl) ?_
        refine lg_if_gt hG dX0_looksInVain_39 (tgt := 44) (by decide) (by decide) (fun h_39 => ?_) (fun h_39 => ?_)
        · skip
          refine lg_iload_n hG dX0_looksInVain_44 rfl ?_
          refine lg_aload_n hG dX0_looksInVain_45 rfl ?_
          refine lg_get hG dX0_looksInVain_46 rfl (by first | assumption | omega) (by first | assumption | exact va_up_self _ _ _ | (rw [va_up_ne _ _ (by first | assumption | omega)]; first | assumption | exact va_up_self _ _ _ | (rw [va_up_ne _ _ (by first | assumption | omega)]; first | assumption | exact va_up_self _ _ _ | (rw [va_up_ne _ _ (by first | assumption | omega)]; first | assumption | exact va_up_self _ _ _ | (rw [va_up_ne _ _ (by first | assumption | omega)]; first | assumption | exact va_up_self _ _ _))))) (by rfl) ?_
          refine lg_iadd hG dX0_looksInVain_49 rfl ?_
          refine lg_iconst hG dX0_looksInVain_50 (x := 1) (by decide) ?_
          refine lg_isub hG dX0_looksInVain_51 rfl ?_
          refine lg_aload_n hG dX0_looksInVain_52 rfl ?_
          refine lg_get hG dX0_looksInVain_53 rfl (by first | assumption | omega) (by first | assumption | exact va_up_self _ _ _ | (rw [va_up_ne _ _ (by first | assumption | omega)]; first | assumption | exact va_up_self _ _ _ | (rw [va_up_ne _ _ (by first | assumption | omega)]; first | assumption | exact va_up_self _ _ _ | (rw [va_up_ne _ _ (by first | assumption | omega)]; first | assumption | exact va_up_self _ _ _ | (rw [va_up_ne _ _ (by first | assumption | omega)]; first | assumption | exact va_up_self _ _ _))))) (by rfl) ?_
          refine lg_idiv hG dX0_looksInVain_56 (by rw [hu]; exact nI_ne0 hu1 (by omega)) (show (nI p - nI (d + u) + v 6 - 1) / v 6 = nI ((p - (d + u) + (u - 1)) / u) by rw [hu]; exact lk_val (by omega) (by have h9 : ¬ p ≤ (d + u) := (fun h => h_32 ((lk_le (by omega) (by omega)).mpr h)); omega) hu1 (by omega)) ?_
          refine lg_iret hG dX0_looksInVain_57 (Nat.le_of_ble_eq_true rfl) (Nat.le_of_ble_eq_true rfl) ?_
          refine ⟨trivial, ?_⟩
          have h9 : ¬ p ≤ (d + u) := fun h => h_32 ((lk_le (by omega) (by omega)).mpr h)
          have hz : lkv false d u p = (p - (d + u) + (u - 1)) / u := rfl
          rw [hz] at hp
          exact hp
        · skip
          exact absurd h_39 (by rw [hu]; exact lk_pos hu1 (by omega)) --END
    · skip
      rw [ht] at h_4; exact absurd rfl h_4 --END

def rm_X0_takeTurn : Room := { frames := 0, cells := 0, slots := 0, locals := 0 }
theorem ld_X0_takeTurn : yX0_takeTurn.cls ≠ "java/lang/invoke/MethodHandle" ∧ yX0_takeTurn.cls ≠ "java/lang/invoke/VarHandle" ∧ (parseMethodDescriptor yX0_takeTurn.desc).map (fun d => d.parameters.length) = some 0 := by decide +kernel
def sp_X0_takeTurn (ids : Nat → ClassId) : lm_S := fun As n L post _ => ∃ q w c v, As = [.ref q] ∧ q < n ∧ L q = qo w c v ∧ post none n (va_up L q (qo w c (if v 10 = 0 then upd (upd v 10 1) 9 (v 9 + v 6) else v)))
set_option maxHeartbeats 4000000 in
set_option maxRecDepth 20000 in
theorem ok_X0_takeTurn (l : Launch) (D : va_G) (ids : Nat → ClassId) (B b : Nat) : lm_M l D (lm_ty ids) B b false yX0_takeTurn cX0_takeTurn 1 none rm_X0_takeTurn 0 0 (sp_X0_takeTurn ids) := by
  refine lm_method (own := RX0) (fld := lf_0) (cv := (fun _ => none)) (cs := (fun _ => none)) (ci := (fun _ => none)) (kon := (fun _ => none)) (thr := (fun _ => none)) (nw := (fun _ => none)) (ini := false) (cp := none) (alc := false) (by decide +kernel) rfl rfl rfl (lf_0_ok _) ⟨?_, ?_⟩ ?_ (fun h => by cases h) (lm_aok0 _ _ _ _ _ _ _ _) ?_ ?_
  · intro j f hf
    cases hf
  · intro j f hf
    cases hf
  · intro j v hv; cases hv
  · exact Or.inl fun _ => rfl
  rintro As n L post postX ⟨q, w, c, v, rfl, hq, hL, hp⟩
  refine ⟨by simp [Value.category], (Nat.le_of_ble_eq_true rfl), lm_cl_of ?_⟩
  intro G hG
  refine lg_aload_n hG dX0_takeTurn_0 rfl ?_
  refine lg_get hG dX0_takeTurn_1 rfl (by first | assumption | omega) (by first | assumption | exact va_up_self _ _ _ | (rw [va_up_ne _ _ (by first | assumption | omega)]; first | assumption | exact va_up_self _ _ _ | (rw [va_up_ne _ _ (by first | assumption | omega)]; first | assumption | exact va_up_self _ _ _ | (rw [va_up_ne _ _ (by first | assumption | omega)]; first | assumption | exact va_up_self _ _ _ | (rw [va_up_ne _ _ (by first | assumption | omega)]; first | assumption | exact va_up_self _ _ _))))) (by rfl) ?_
  refine lg_if_ne hG dX0_takeTurn_4 (tgt := 25) (by decide) (by decide) (fun h_4 => ?_) (fun h_4 => ?_)
  · skip
    rw [if_neg h_4, va_up_id hL] at hp
    refine lg_vret hG dX0_takeTurn_25 (Nat.le_of_ble_eq_true rfl) (Nat.le_of_ble_eq_true rfl) ?_
    exact ⟨trivial, hp⟩
  · skip
    rw [if_pos h_4] at hp
    refine lg_aload_n hG dX0_takeTurn_7 rfl ?_
    refine lg_iconst hG dX0_takeTurn_8 (x := 1) (by decide) ?_
    refine lg_put hG dX0_takeTurn_9 rfl (by first | assumption | omega) (by first | trivial | exact Or.inl rfl | exact Or.inr rfl | assumption | exact rfl) (by first | assumption | exact va_up_self _ _ _ | (rw [va_up_ne _ _ (by first | assumption | omega)]; first | assumption | exact va_up_self _ _ _ | (rw [va_up_ne _ _ (by first | assumption | omega)]; first | assumption | exact va_up_self _ _ _ | (rw [va_up_ne _ _ (by first | assumption | omega)]; first | assumption | exact va_up_self _ _ _ | (rw [va_up_ne _ _ (by first | assumption | omega)]; first | assumption | exact va_up_self _ _ _))))) (Nat.le_of_ble_eq_true rfl) (by rfl) ?_
    try rw [bx_uu]
    change G _ _ _ _ (va_up L q (qo w c (upd v 10 1))) _ _
    refine lg_aload_n hG dX0_takeTurn_12 rfl ?_
    refine lg_dup hG dX0_takeTurn_13 rfl ?_
    refine lg_get hG dX0_takeTurn_14 rfl (by first | assumption | omega) (by first | assumption | exact va_up_self _ _ _ | (rw [va_up_ne _ _ (by first | assumption | omega)]; first | assumption | exact va_up_self _ _ _ | (rw [va_up_ne _ _ (by first | assumption | omega)]; first | assumption | exact va_up_self _ _ _ | (rw [va_up_ne _ _ (by first | assumption | omega)]; first | assumption | exact va_up_self _ _ _ | (rw [va_up_ne _ _ (by first | assumption | omega)]; first | assumption | exact va_up_self _ _ _))))) (by rfl) ?_
    refine lg_aload_n hG dX0_takeTurn_17 rfl ?_
    refine lg_get hG dX0_takeTurn_18 rfl (by first | assumption | omega) (by first | assumption | exact va_up_self _ _ _ | (rw [va_up_ne _ _ (by first | assumption | omega)]; first | assumption | exact va_up_self _ _ _ | (rw [va_up_ne _ _ (by first | assumption | omega)]; first | assumption | exact va_up_self _ _ _ | (rw [va_up_ne _ _ (by first | assumption | omega)]; first | assumption | exact va_up_self _ _ _ | (rw [va_up_ne _ _ (by first | assumption | omega)]; first | assumption | exact va_up_self _ _ _))))) (by rfl) ?_
    refine lg_iadd hG dX0_takeTurn_21 rfl ?_
    refine lg_put hG dX0_takeTurn_22 rfl (by first | assumption | omega) (by first | trivial | exact Or.inl rfl | exact Or.inr rfl | assumption | exact rfl) (by first | assumption | exact va_up_self _ _ _ | (rw [va_up_ne _ _ (by first | assumption | omega)]; first | assumption | exact va_up_self _ _ _ | (rw [va_up_ne _ _ (by first | assumption | omega)]; first | assumption | exact va_up_self _ _ _ | (rw [va_up_ne _ _ (by first | assumption | omega)]; first | assumption | exact va_up_self _ _ _ | (rw [va_up_ne _ _ (by first | assumption | omega)]; first | assumption | exact va_up_self _ _ _))))) (Nat.le_of_ble_eq_true rfl) (by rfl) ?_
    try rw [bx_uu]
    change G _ _ _ _ (va_up L q (qo w c (upd (upd v 10 1) 9 (v 9 + v 6)))) _ _
    refine lg_vret hG dX0_takeTurn_25 (Nat.le_of_ble_eq_true rfl) (Nat.le_of_ble_eq_true rfl) ?_
    exact ⟨trivial, hp⟩

def rm_X0_lookInVain : Room := { frames := 0, cells := 0, slots := 0, locals := 0 }
theorem ld_X0_lookInVain : yX0_lookInVain.cls ≠ "java/lang/invoke/MethodHandle" ∧ yX0_lookInVain.cls ≠ "java/lang/invoke/VarHandle" ∧ (parseMethodDescriptor yX0_lookInVain.desc).map (fun d => d.parameters.length) = some 1 := by decide +kernel
def sp_X0_lookInVain (ids : Nat → ClassId) : lm_S := fun As n L post _ => ∃ q w c v k d u, As = [.ref q, .int (nI k)] ∧ q < n ∧ L q = qo w c v ∧ v 9 = nI d ∧ v 6 = nI u ∧ k < 2 ^ 20 ∧ post none n (va_up L q (qo w c (if k = 0 then v else upd (upd v 9 (nI (d + (if v 10 = 0 then k else k - 1) * u))) 10 0)))
set_option maxHeartbeats 4000000 in
set_option maxRecDepth 20000 in
theorem ok_X0_lookInVain (l : Launch) (D : va_G) (ids : Nat → ClassId) (B b : Nat) : lm_M l D (lm_ty ids) B b false yX0_lookInVain cX0_lookInVain 3 none rm_X0_lookInVain 0 0 (sp_X0_lookInVain ids) := by
  refine lm_method (own := RX0) (fld := lf_0) (cv := (fun _ => none)) (cs := (fun _ => none)) (ci := (fun _ => none)) (kon := (fun _ => none)) (thr := (fun _ => none)) (nw := (fun _ => none)) (ini := false) (cp := none) (alc := false) (by decide +kernel) rfl rfl rfl (lf_0_ok _) ⟨?_, ?_⟩ ?_ (fun h => by cases h) (lm_aok0 _ _ _ _ _ _ _ _) ?_ ?_
  · intro j f hf
    cases hf
  · intro j f hf
    cases hf
  · intro j v hv; cases hv
  · exact Or.inl fun _ => rfl
  rintro As n L post postX ⟨q, w, c, v, k, d, u, rfl, hq, hL, hd, hu, hk, hp⟩
  refine ⟨by simp [Value.category], (Nat.le_of_ble_eq_true rfl), lm_cl_of ?_⟩
  intro G hG
  refine lg_iload_n hG dX0_lookInVain_0 rfl ?_
  refine lg_if_le hG dX0_lookInVain_1 (tgt := 39) (by decide) (by decide) (fun h_1 => ?_) (fun h_1 => ?_)
  · skip
    have hk0 : k = 0 := by
      rcases Nat.eq_zero_or_pos k with h | h
      · exact h
      · exact absurd h_1 (nI_nle h (by omega))
    rw [if_pos hk0, va_up_id hL] at hp
    refine lg_vret hG dX0_lookInVain_39 (Nat.le_of_ble_eq_true rfl) (Nat.le_of_ble_eq_true rfl) ?_
    exact ⟨trivial, hp⟩
  · skip
    have hk0 : ¬ k = 0 := fun h => by subst h; exact h_1 (by decide)
    rw [if_neg hk0] at hp
    refine lg_aload_n hG dX0_lookInVain_4 rfl ?_
    refine lg_get hG dX0_lookInVain_5 rfl (by first | assumption | omega) (by first | assumption | exact va_up_self _ _ _ | (rw [va_up_ne _ _ (by first | assumption | omega)]; first | assumption | exact va_up_self _ _ _ | (rw [va_up_ne _ _ (by first | assumption | omega)]; first | assumption | exact va_up_self _ _ _ | (rw [va_up_ne _ _ (by first | assumption | omega)]; first | assumption | exact va_up_self _ _ _ | (rw [va_up_ne _ _ (by first | assumption | omega)]; first | assumption | exact va_up_self _ _ _))))) (by rfl) ?_
    refine lg_if_eq hG dX0_lookInVain_8 (tgt := 17) (by decide) (by decide) (fun h_8 => ?_) (fun h_8 => ?_)
    · skip
      rw [if_pos h_8] at hp
      refine lg_iload_n hG dX0_lookInVain_17 rfl ?_
      refine lg_istore_n hG dX0_lookInVain_18 (Nat.le_of_ble_eq_true rfl) rfl ?_
      refine lg_aload_n hG dX0_lookInVain_19 rfl ?_
      refine lg_dup hG dX0_lookInVain_20 rfl ?_
      refine lg_get hG dX0_lookInVain_21 rfl (by first | assumption | omega) (by first | assumption | exact va_up_self _ _ _ | (rw [va_up_ne _ _ (by first | assumption | omega)]; first | assumption | exact va_up_self _ _ _ | (rw [va_up_ne _ _ (by first | assumption | omega)]; first | assumption | exact va_up_self _ _ _ | (rw [va_up_ne _ _ (by first | assumption | omega)]; first | assumption | exact va_up_self _ _ _ | (rw [va_up_ne _ _ (by first | assumption | omega)]; first | assumption | exact va_up_self _ _ _))))) (by rfl) ?_
      refine lg_iload_n hG dX0_lookInVain_24 rfl ?_
      refine lg_aload_n hG dX0_lookInVain_25 rfl ?_
      refine lg_get hG dX0_lookInVain_26 rfl (by first | assumption | omega) (by first | assumption | exact va_up_self _ _ _ | (rw [va_up_ne _ _ (by first | assumption | omega)]; first | assumption | exact va_up_self _ _ _ | (rw [va_up_ne _ _ (by first | assumption | omega)]; first | assumption | exact va_up_self _ _ _ | (rw [va_up_ne _ _ (by first | assumption | omega)]; first | assumption | exact va_up_self _ _ _ | (rw [va_up_ne _ _ (by first | assumption | omega)]; first | assumption | exact va_up_self _ _ _))))) (by rfl) ?_
      refine lg_imul hG dX0_lookInVain_29 (show nI k * v 6 = nI (k * u) by rw [hu]; exact pk_mul _ _) ?_
      refine lg_iadd hG dX0_lookInVain_30 (show v 9 + nI (k * u) = nI (d + k * u) by rw [hd]; exact nI_add _ _) ?_
      refine lg_put hG dX0_lookInVain_31 rfl (by first | assumption | omega) (by first | trivial | exact Or.inl rfl | exact Or.inr rfl | assumption | exact rfl) (by first | assumption | exact va_up_self _ _ _ | (rw [va_up_ne _ _ (by first | assumption | omega)]; first | assumption | exact va_up_self _ _ _ | (rw [va_up_ne _ _ (by first | assumption | omega)]; first | assumption | exact va_up_self _ _ _ | (rw [va_up_ne _ _ (by first | assumption | omega)]; first | assumption | exact va_up_self _ _ _ | (rw [va_up_ne _ _ (by first | assumption | omega)]; first | assumption | exact va_up_self _ _ _))))) (Nat.le_of_ble_eq_true rfl) (by rfl) ?_
      try rw [bx_uu]
      change G _ _ _ _ (va_up L q (qo w c (upd v 9 (nI (d + k * u))))) _ _
      refine lg_aload_n hG dX0_lookInVain_34 rfl ?_
      refine lg_iconst hG dX0_lookInVain_35 (x := 0) (by decide) ?_
      refine lg_put hG dX0_lookInVain_36 rfl (by first | assumption | omega) (by first | trivial | exact Or.inl rfl | exact Or.inr rfl | assumption | exact rfl) (by first | assumption | exact va_up_self _ _ _ | (rw [va_up_ne _ _ (by first | assumption | omega)]; first | assumption | exact va_up_self _ _ _ | (rw [va_up_ne _ _ (by first | assumption | omega)]; first | assumption | exact va_up_self _ _ _ | (rw [va_up_ne _ _ (by first | assumption | omega)]; first | assumption | exact va_up_self _ _ _ | (rw [va_up_ne _ _ (by first | assumption | omega)]; first | assumption | exact va_up_self _ _ _))))) (Nat.le_of_ble_eq_true rfl) (by rfl) ?_
      try rw [bx_uu]
      change G _ _ _ _ (va_up L q (qo w c (upd (upd v 9 (nI (d + k * u))) 10 0))) _ _
      refine lg_vret hG dX0_lookInVain_39 (Nat.le_of_ble_eq_true rfl) (Nat.le_of_ble_eq_true rfl) ?_
      exact ⟨trivial, hp⟩
      --END
    · skip
      rw [if_neg h_8] at hp
      refine lg_iload_n hG dX0_lookInVain_11 rfl ?_
      refine lg_iconst hG dX0_lookInVain_12 (x := 1) (by decide) ?_
      refine lg_isub hG dX0_lookInVain_13 (show nI k - 1 = nI (k - 1) from pk_sub (a := k) (b := 1) (by omega)) ?_
      refine lg_goto hG dX0_lookInVain_14 (tgt := 18) (by decide) (by decide) ?_
      refine lg_istore_n hG dX0_lookInVain_18 (Nat.le_of_ble_eq_true rfl) rfl ?_
      refine lg_aload_n hG dX0_lookInVain_19 rfl ?_
      refine lg_dup hG dX0_lookInVain_20 rfl ?_
      refine lg_get hG dX0_lookInVain_21 rfl (by first | assumption | omega) (by first | assumption | exact va_up_self _ _ _ | (rw [va_up_ne _ _ (by first | assumption | omega)]; first | assumption | exact va_up_self _ _ _ | (rw [va_up_ne _ _ (by first | assumption | omega)]; first | assumption | exact va_up_self _ _ _ | (rw [va_up_ne _ _ (by first | assumption | omega)]; first | assumption | exact va_up_self _ _ _ | (rw [va_up_ne _ _ (by first | assumption | omega)]; first | assumption | exact va_up_self _ _ _))))) (by rfl) ?_
      refine lg_iload_n hG dX0_lookInVain_24 rfl ?_
      refine lg_aload_n hG dX0_lookInVain_25 rfl ?_
      refine lg_get hG dX0_lookInVain_26 rfl (by first | assumption | omega) (by first | assumption | exact va_up_self _ _ _ | (rw [va_up_ne _ _ (by first | assumption | omega)]; first | assumption | exact va_up_self _ _ _ | (rw [va_up_ne _ _ (by first | assumption | omega)]; first | assumption | exact va_up_self _ _ _ | (rw [va_up_ne _ _ (by first | assumption | omega)]; first | assumption | exact va_up_self _ _ _ | (rw [va_up_ne _ _ (by first | assumption | omega)]; first | assumption | exact va_up_self _ _ _))))) (by rfl) ?_
      refine lg_imul hG dX0_lookInVain_29 (show nI (k - 1) * v 6 = nI ((k - 1) * u) by rw [hu]; exact pk_mul _ _) ?_
      refine lg_iadd hG dX0_lookInVain_30 (show v 9 + nI ((k - 1) * u) = nI (d + (k - 1) * u) by rw [hd]; exact nI_add _ _) ?_
      refine lg_put hG dX0_lookInVain_31 rfl (by first | assumption | omega) (by first | trivial | exact Or.inl rfl | exact Or.inr rfl | assumption | exact rfl) (by first | assumption | exact va_up_self _ _ _ | (rw [va_up_ne _ _ (by first | assumption | omega)]; first | assumption | exact va_up_self _ _ _ | (rw [va_up_ne _ _ (by first | assumption | omega)]; first | assumption | exact va_up_self _ _ _ | (rw [va_up_ne _ _ (by first | assumption | omega)]; first | assumption | exact va_up_self _ _ _ | (rw [va_up_ne _ _ (by first | assumption | omega)]; first | assumption | exact va_up_self _ _ _))))) (Nat.le_of_ble_eq_true rfl) (by rfl) ?_
      try rw [bx_uu]
      change G _ _ _ _ (va_up L q (qo w c (upd v 9 (nI (d + (k - 1) * u))))) _ _
      refine lg_aload_n hG dX0_lookInVain_34 rfl ?_
      refine lg_iconst hG dX0_lookInVain_35 (x := 0) (by decide) ?_
      refine lg_put hG dX0_lookInVain_36 rfl (by first | assumption | omega) (by first | trivial | exact Or.inl rfl | exact Or.inr rfl | assumption | exact rfl) (by first | assumption | exact va_up_self _ _ _ | (rw [va_up_ne _ _ (by first | assumption | omega)]; first | assumption | exact va_up_self _ _ _ | (rw [va_up_ne _ _ (by first | assumption | omega)]; first | assumption | exact va_up_self _ _ _ | (rw [va_up_ne _ _ (by first | assumption | omega)]; first | assumption | exact va_up_self _ _ _ | (rw [va_up_ne _ _ (by first | assumption | omega)]; first | assumption | exact va_up_self _ _ _))))) (Nat.le_of_ble_eq_true rfl) (by rfl) ?_
      try rw [bx_uu]
      change G _ _ _ _ (va_up L q (qo w c (upd (upd v 9 (nI (d + (k - 1) * u))) 10 0))) _ _
      refine lg_vret hG dX0_lookInVain_39 (Nat.le_of_ble_eq_true rfl) (Nat.le_of_ble_eq_true rfl) ?_
      exact ⟨trivial, hp⟩
      --END

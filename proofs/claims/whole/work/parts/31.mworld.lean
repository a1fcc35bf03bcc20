/-! the model's world: its object at 47, its eighteen rows at 48 and on -/
def mfl (t w o f : Int32) : List Value := [.int t, .ref 48, .ref 49, .ref 50, .ref 51, .ref 52, .ref 53, .ref 54, .ref 55, .ref 56, .ref 57, .ref 58, .ref 59, .ref 60, .ref 61, .ref 62, .int w, .int o, .int f, .ref 63, .ref 64, .ref 65]
def mlen (j : Nat) : Nat := match j with
  | 7 => 1152
  | 8 => 1152
  | 13 => 48
  | 14 => 4
  | 17 => 48
  | _ => 12
def mcl (ids : Nat → ClassId) (j : Nat) : ClassId := match j with
  | 6 => ids 1
  | 16 => ids 1
  | _ => ids 0
def MF (ids : Nat → ClassId) (n N : Nat) (F : Nat → Nat → Int32) (t w o f : Int32) (L0 L : lm_L) : Prop := 66 ≤ n ∧ N ≤ 18 ∧ L 47 = .inr (3, mfl t w o f) ∧ (∀ j, j < N → L (j + 48) = ia (mcl ids j) (mlen j) (F j)) ∧ ∀ k, (k < 47 ∨ N + 48 ≤ k) → L k = L0 k
def MI (I : List (Int32 × Nat)) (F : Nat → Nat → Int32) (q : Nat) : Prop := ∀ k y, I[k]? = some y → F 7 (96 * q + k) = y.1 ∧ F 8 (96 * q + k) = nI y.2
def mql (x : Qs) : List Int32 := [nI (qk x), nI (qu x), nI (qq x), nI (qp x), nI (qI x).length, nI (qd x), bI (qt x), 0, 0, q0 x, q1 x, q2 x, q3 x]
def MQu (F : Nat → Nat → Int32) (q : Nat) (x : Qs) : Prop := (∀ j v, j ≠ 7 → j ≠ 8 → (mql x)[j]? = some v → F j q = v) ∧ (qI x).length ≤ 96 ∧ MI (qI x) F q
def MR (F : Nat → Nat → Int32) (c : Nat) (l : List Nat) : Prop := F 14 c = nI l.length ∧ l.length ≤ 12 ∧ (∀ x ∈ l, x < 12) ∧ ∀ k x, l[k]? = some x → F 13 (12 * c + k) = nI x
def MV (Q : Nat → Qs) (R : Nat → List Nat) (F : Nat → Nat → Int32) : Prop := (∀ q, q < 12 → MQu F q (Q q)) ∧ ∀ c, c < 4 → MR F c (R c)
def MS (ids : Nat → ClassId) (n : Nat) (Q : Nat → Qs) (R : Nat → List Nat) (g : Nat → Int32) (t : Int32) (L0 L : lm_L) : Prop := ∃ F, MF ids n 15 F t (g 0) (g 3) (g 4) L0 L ∧ MV Q R F
section MFR
variable {ids : Nat → ClassId} {n N : Nat} {F : Nat → Nat → Int32} {t w o f : Int32} {Qq : Nat → Qs} {R : Nat → List Nat} {g : Nat → Int32} {L0 L : lm_L}
variable {E : lm_E} {cc : ByteArray} {Q : lm_Q} {X : lm_X} {G : lm_K} {pc : Nat} {lo : lm_O} {r : List Value} {bc bs : Nat}
theorem MF.set (h : MF ids n N F t w o f L0 L) {j : Nat} (hj : j < N) {v : Nat → Int32} : MF ids n N (va_up F j v) t w o f L0 (va_up L (j + 48) (ia (mcl ids j) (mlen j) v)) := by
  obtain ⟨h1, h0, h2, h3, h4⟩ := h
  refine ⟨h1, h0, ?_, fun i hi => ?_, fun k hk => ?_⟩
  · rw [va_up_ne _ _ (by omega)]; exact h2
  · by_cases e : i = j
    · subst e; rw [va_up_self, va_up_self]
    · rw [va_up_ne _ _ (by omega), va_up_ne _ _ e]; exact h3 i hi
  · rw [va_up_ne _ _ (by omega)]; exact h4 k hk
theorem MF.obj (h : MF ids n N F t w o f L0 L) {t' w' o' f' : Int32} : MF ids n N F t' w' o' f' L0 (va_up L 47 (.inr (3, mfl t' w' o' f'))) := by
  obtain ⟨h1, h0, h2, h3, h4⟩ := h
  refine ⟨h1, h0, va_up_self _ _ _, fun i hi => ?_, fun k hk => ?_⟩
  · rw [va_up_ne _ _ (by omega)]; exact h3 i hi
  · rw [va_up_ne _ _ (by omega)]; exact h4 k hk
theorem mg_get (hG : lm_cl E cc Q X G) (hM : MF ids n N F t w o f L0 L) {j i ty : Nat} {v : Value} (hd : decode cc pc = .ok (.getfield j, 3)) (hf : lm_fld E j = some (3, i, ty)) (hv : (mfl t w o f)[i]? = some v) (k : G (pc + 3) lo (v :: r) n L bc bs) : G pc lo (.ref 47 :: r) n L bc bs :=
  lg_get hG hd hf (by have := hM.1; omega) hM.2.2.1 hv k
theorem mg_put (hG : lm_cl E cc Q X G) (hM : MF ids n N F t w o f L0 L) {j i ty : Nat} {v : Value} {t' w' o' f' : Int32} (hd : decode cc pc = .ok (.putfield j, 3)) (hf : lm_fld E j = some (3, i, ty)) (ht : lm_fit E ty v) (hi : i < 22) (hv : (mfl t w o f).set i v = mfl t' w' o' f') (k : ∀ L1, MF ids n N F t' w' o' f' L0 L1 → G (pc + 3) lo r n L1 bc bs) : G pc lo (v :: .ref 47 :: r) n L bc bs :=
  lg_put hG hd hf (by have := hM.1; omega) ht hM.2.2.1 hi hv (k _ hM.obj)
theorem mg_ld (hG : lm_cl E cc Q X G) (hM : MF ids n N F t w o f L0 L) {j i : Nat} (hd : decode cc pc = .ok (.iaload, 1)) (hj : j < N) (hc : mcl ids j = lm_id E 0) (hi : i < mlen j) (h2 : mlen j < 2 ^ 31) (k : G (pc + 1) lo (.int (F j i) :: r) n L bc bs) : G pc lo (.int (nI i) :: .ref (j + 48) :: r) n L bc bs := by
  refine lg_iald hG hd (by have := hM.1; have := hM.2.1; omega) (k := mlen j) (f := F j) (by rw [← hc]; exact hM.2.2.2.1 j hj) (vp_in_nI hi h2) ?_
  rw [nI_clamp (by omega)]
  exact k
theorem mg_bld (hG : lm_cl E cc Q X G) (hM : MF ids n N F t w o f L0 L) {j i : Nat} (hd : decode cc pc = .ok (.baload, 1)) (hj : j < N) (hc : mcl ids j = lm_id E 1) (hi : i < mlen j) (h2 : mlen j < 2 ^ 31) (k : G (pc + 1) lo (.int (F j i) :: r) n L bc bs) : G pc lo (.int (nI i) :: .ref (j + 48) :: r) n L bc bs := by
  refine lg_bald hG hd (by have := hM.1; have := hM.2.1; omega) (k := mlen j) (f := F j) (by rw [← hc]; exact hM.2.2.2.1 j hj) (vp_in_nI hi h2) ?_
  rw [nI_clamp (by omega)]
  exact k
theorem mg_st (hG : lm_cl E cc Q X G) (hM : MF ids n N F t w o f L0 L) {j i : Nat} {x : Int32} (hd : decode cc pc = .ok (.iastore, 1)) (hj : j < N) (hc : mcl ids j = lm_id E 0) (hi : i < mlen j) (h2 : mlen j < 2 ^ 31) (k : ∀ L1, MF ids n N (va_up F j (upd (F j) i x)) t w o f L0 L1 → G (pc + 1) lo r n L1 bc bs) : G pc lo (.int x :: .int (nI i) :: .ref (j + 48) :: r) n L bc bs := by
  refine lg_iast hG hd (by have := hM.1; have := hM.2.1; omega) (k := mlen j) (f := F j) (by rw [← hc]; exact hM.2.2.2.1 j hj) (vp_in_nI hi h2) ?_
  rw [nI_clamp (by omega), ← hc]
  exact k _ (hM.set hj)
theorem mg_bst (hG : lm_cl E cc Q X G) (hM : MF ids n N F t w o f L0 L) {j i : Nat} {x : Int32} (hd : decode cc pc = .ok (.bastore, 1)) (hj : j < N) (hc : mcl ids j = lm_id E 1) (hx : x = 0 ∨ x = 1) (hi : i < mlen j) (h2 : mlen j < 2 ^ 31) (k : ∀ L1, MF ids n N (va_up F j (upd (F j) i x)) t w o f L0 L1 → G (pc + 1) lo r n L1 bc bs) : G pc lo (.int x :: .int (nI i) :: .ref (j + 48) :: r) n L bc bs := by
  refine lg_bast hG hd (by have := hM.1; have := hM.2.1; omega) hx (k := mlen j) (f := F j) (by rw [← hc]; exact hM.2.2.2.1 j hj) (vp_in_nI hi h2) ?_
  rw [nI_clamp (by omega), ← hc]
  exact k _ (hM.set hj)
theorem mg_call (hG : lm_cl E cc Q X G) (hM : MF ids n N F t w o f L0 L) {st : List Value} {j k mc ms : Nat} {wp : lm_S} {As : List Value} (hd : decode cc pc = .ok (.invokevirtual j, 3)) (hf : lm_cv E j = some (k, 3, wp, mc, ms)) (hs : ∀ P : List Value → List Value → Prop, P (.ref 47 :: As) r → lm_pop k st [] P) (b1 : bc + mc ≤ lm_mc E) (b2 : bs + ms ≤ lm_ms E) (hw : (r.map fun v => v.category).sum ≤ 8) (kk : wp (.ref 47 :: As) n L (fun rv n1 L1 => G (pc + 3) lo (rv.toList ++ r) n1 L1 (bc + mc) (bs + ms)) (fun en n1 L1 => match lm_ct E pc en with
    | some h => ∀ k : Nat, G h lo [.retAddr k] n1 L1 (bc + mc) (bs + ms)
    | none => X en n1 L1)) : G pc lo st n L bc bs :=
  lg_callV hG hd hf hs (by have := hM.1; omega) hM.2.2.1 b1 b2 hw kk
/-! .. told by the plain state -/
theorem ms_get (hG : lm_cl E cc Q X G) (hM : MS ids n Qq R g t L0 L) {j i ty : Nat} {v : Value} (hd : decode cc pc = .ok (.getfield j, 3)) (hf : lm_fld E j = some (3, i, ty)) (hv : (mfl t (g 0) (g 3) (g 4))[i]? = some v) (k : G (pc + 3) lo (v :: r) n L bc bs) : G pc lo (.ref 47 :: r) n L bc bs := by
  obtain ⟨F, hF, -⟩ := hM
  exact mg_get hG hF hd hf hv k
theorem ms_put (hG : lm_cl E cc Q X G) (hM : MS ids n Qq R g t L0 L) {j i ty : Nat} {v : Value} {t' : Int32} {g' : Nat → Int32} (hd : decode cc pc = .ok (.putfield j, 3)) (hf : lm_fld E j = some (3, i, ty)) (ht : lm_fit E ty v) (hi : i < 22) (hv : (mfl t (g 0) (g 3) (g 4)).set i v = mfl t' (g' 0) (g' 3) (g' 4)) (k : ∀ L1, MS ids n Qq R g' t' L0 L1 → G (pc + 3) lo r n L1 bc bs) : G pc lo (v :: .ref 47 :: r) n L bc bs := by
  obtain ⟨F, hF, hV⟩ := hM
  exact mg_put hG hF hd hf ht hi hv (fun L1 h1 => k L1 ⟨F, h1, hV⟩)
theorem ms_ld (hG : lm_cl E cc Q X G) (hM : MS ids n Qq R g t L0 L) {j q : Nat} {x : Qs} {v : Int32} (hd : decode cc pc = .ok (.iaload, 1)) (hj : j < 13 ∧ j ≠ 7 ∧ j ≠ 8) (hc : mcl ids j = lm_id E 0) (hl : mlen j = 12) (hq : q < 12) (hx : Qq q = x) (hv : (mql x)[j]? = some v) (k : G (pc + 1) lo (.int v :: r) n L bc bs) : G pc lo (.int (nI q) :: .ref (j + 48) :: r) n L bc bs := by
  obtain ⟨F, hF, hV⟩ := hM
  refine mg_ld hG hF hd (by omega) hc (by omega) (by omega) ?_
  rw [(hV.1 q hq).1 j v hj.2.1 hj.2.2 (by rw [hx]; exact hv)]
  exact k
theorem ms_bld (hG : lm_cl E cc Q X G) (hM : MS ids n Qq R g t L0 L) {q : Nat} {x : Qs} (hd : decode cc pc = .ok (.baload, 1)) (hc : ids 1 = lm_id E 1) (hq : q < 12) (hx : Qq q = x) (k : G (pc + 1) lo (.int (bI (qt x)) :: r) n L bc bs) : G pc lo (.int (nI q) :: .ref 54 :: r) n L bc bs := by
  obtain ⟨F, hF, hV⟩ := hM
  refine mg_bld hG hF hd (j := 6) (by omega) hc hq (by decide) ?_
  rw [(hV.1 q hq).1 6 _ (by omega) (by omega) (by rw [hx]; rfl)]
  exact k
/-- a number of a queue laid anew -/
theorem MV.put (hV : MV Qq R F) {q j : Nat} {x x' : Qs} {v : Int32} (hq : q < 12) (hj : j < 13 ∧ j ≠ 7 ∧ j ≠ 8) (hx : Qq q = x) (hI : MI (qI x') F q ∧ (qI x').length ≤ 96) (h2 : (mql x).set j v = mql x') : MV (va_up Qq q x') R (va_up F j (upd (F j) q v)) := by
  refine ⟨fun q' hq' => ?_, fun c hc => ?_⟩
  · have hF : ∀ k, k ≠ j → va_up F j (upd (F j) q v) k = F k := fun k hk => va_up_ne _ _ hk
    by_cases e : q' = q
    · subst e
      rw [va_up_self]
      refine ⟨fun i u h7 h8 hi => ?_, hI.2, fun k y hk => ?_⟩
      · rw [← h2] at hi
        by_cases e : i = j
        · subst e
          rw [va_up_self, pk_us]
          rw [List.getElem?_set_self (by show i < 13; omega)] at hi
          exact Option.some.inj hi
        · rw [hF i e]
          rw [List.getElem?_set_ne (Ne.symm e)] at hi
          exact (hV.1 q' hq').1 i u h7 h8 (by rw [hx]; exact hi)
      · rw [hF 7 (by omega), hF 8 (by omega)]; exact hI.1 k y hk
    · rw [va_up_ne _ _ e]
      obtain ⟨a1, a2, a3⟩ := hV.1 q' hq'
      refine ⟨fun i u h7 h8 hi => ?_, a2, fun k y hk => ?_⟩
      · by_cases e2 : i = j
        · subst e2
          rw [va_up_self, pk_un e]; exact a1 i u h7 h8 hi
        · rw [hF i e2]; exact a1 i u h7 h8 hi
      · rw [hF 7 (by omega), hF 8 (by omega)]; exact a3 k y hk
  · obtain ⟨a1, a2, a3, a4⟩ := hV.2 c hc
    refine ⟨?_, a2, a3, fun k x hk => ?_⟩
    · rw [va_up_ne _ _ (by omega)]; exact a1
    · rw [va_up_ne _ _ (by omega)]; exact a4 k x hk
theorem ms_st (hG : lm_cl E cc Q X G) (hM : MS ids n Qq R g t L0 L) {j q : Nat} {x x' : Qs} {v : Int32} (hd : decode cc pc = .ok (.iastore, 1)) (hj : j < 13 ∧ j ≠ 7 ∧ j ≠ 8) (hc : mcl ids j = lm_id E 0) (hl : mlen j = 12) (hq : q < 12) (hx : Qq q = x) (hI : ∀ (k : Nat) (y : Int32 × Nat), (qI x')[k]? = some y → (qI x)[k]? = some y) (h2 : (mql x).set j v = mql x') (k : ∀ L1, MS ids n (va_up Qq q x') R g t L0 L1 → G (pc + 1) lo r n L1 bc bs) : G pc lo (.int v :: .int (nI q) :: .ref (j + 48) :: r) n L bc bs := by
  obtain ⟨F, hF, hV⟩ := hM
  refine mg_st hG hF hd (by omega) hc (by omega) (by omega) (fun L1 h1 => k L1 ⟨_, h1, hV.put hq hj hx ⟨fun k y hk => ?_, ?_⟩ h2⟩)
  · exact (hV.1 q hq).2.2 k y (by rw [hx]; exact hI k y hk)
  · have h9 := (hV.1 q hq).2.1
    rw [hx] at h9
    rcases Nat.lt_or_ge 96 (qI x').length with h8 | h8
    · have := hI 96 _ (List.getElem?_eq_getElem h8)
      have := (List.getElem?_eq_some_iff.mp this).1
      omega
    · exact h8
theorem ms_bst (hG : lm_cl E cc Q X G) (hM : MS ids n Qq R g t L0 L) {q : Nat} {x x' : Qs} {v : Int32} (hd : decode cc pc = .ok (.bastore, 1)) (hc : ids 1 = lm_id E 1) (hv : v = 0 ∨ v = 1) (hq : q < 12) (hx : Qq q = x) (hI : qI x' = qI x) (h2 : (mql x).set 6 v = mql x') (k : ∀ L1, MS ids n (va_up Qq q x') R g t L0 L1 → G (pc + 1) lo r n L1 bc bs) : G pc lo (.int v :: .int (nI q) :: .ref 54 :: r) n L bc bs := by
  obtain ⟨F, hF, hV⟩ := hM
  refine mg_bst hG hF hd (j := 6) (by omega) hc hv hq (by decide) (fun L1 h1 => k L1 ⟨_, h1, hV.put hq (by decide) hx ?_ h2⟩)
  rw [hI, ← hx]
  exact ⟨(hV.1 q hq).2.2, (hV.1 q hq).2.1⟩
theorem ms_ldL (hG : lm_cl E cc Q X G) (hM : MS ids n Qq R g t L0 L) {c : Nat} {l : List Nat} (hd : decode cc pc = .ok (.iaload, 1)) (hc : ids 0 = lm_id E 0) (hq : c < 4) (hx : R c = l) (k : G (pc + 1) lo (.int (nI l.length) :: r) n L bc bs) : G pc lo (.int (nI c) :: .ref 62 :: r) n L bc bs := by
  obtain ⟨F, hF, hV⟩ := hM
  refine mg_ld hG hF hd (j := 14) (by omega) hc hq (by decide) ?_
  rw [(hV.2 c hq).1, hx]
  exact k
theorem ms_ldR (hG : lm_cl E cc Q X G) (hM : MS ids n Qq R g t L0 L) {c i x : Nat} {l : List Nat} (hd : decode cc pc = .ok (.iaload, 1)) (hc : ids 0 = lm_id E 0) (hq : c < 4) (hx : R c = l) (hi : l[i]? = some x) (k : G (pc + 1) lo (.int (nI x) :: r) n L bc bs) : G pc lo (.int (nI (12 * c + i)) :: .ref 61 :: r) n L bc bs := by
  obtain ⟨F, hF, hV⟩ := hM
  obtain ⟨a1, a2, a3, a4⟩ := hV.2 c hq
  rw [hx] at a2 a4
  have := (List.getElem?_eq_some_iff.mp hi).1
  refine mg_ld hG hF hd (j := 13) (by omega) hc (by show _ < 48; omega) (by decide) ?_
  rw [a4 i x hi]
  exact k
theorem ms_ldW (hG : lm_cl E cc Q X G) (hM : MS ids n Qq R g t L0 L) {q i : Nat} {x : Qs} {y : Int32 × Nat} (hd : decode cc pc = .ok (.iaload, 1)) (hc : ids 0 = lm_id E 0) (hq : q < 12) (hx : Qq q = x) (hi : (qI x)[i]? = some y) (k : G (pc + 1) lo (.int y.1 :: r) n L bc bs) : G pc lo (.int (nI (96 * q + i)) :: .ref 55 :: r) n L bc bs := by
  obtain ⟨F, hF, hV⟩ := hM
  obtain ⟨a1, a2, a3⟩ := hV.1 q hq
  rw [hx] at a2 a3
  have := (List.getElem?_eq_some_iff.mp hi).1
  refine mg_ld hG hF hd (j := 7) (by omega) hc (by show _ < 1152; omega) (by decide) ?_
  rw [(a3 i y hi).1]
  exact k
theorem ms_ldC (hG : lm_cl E cc Q X G) (hM : MS ids n Qq R g t L0 L) {q i : Nat} {x : Qs} {y : Int32 × Nat} (hd : decode cc pc = .ok (.iaload, 1)) (hc : ids 0 = lm_id E 0) (hq : q < 12) (hx : Qq q = x) (hi : (qI x)[i]? = some y) (k : G (pc + 1) lo (.int (nI y.2) :: r) n L bc bs) : G pc lo (.int (nI (96 * q + i)) :: .ref 56 :: r) n L bc bs := by
  obtain ⟨F, hF, hV⟩ := hM
  obtain ⟨a1, a2, a3⟩ := hV.1 q hq
  rw [hx] at a2 a3
  have := (List.getElem?_eq_some_iff.mp hi).1
  refine mg_ld hG hF hd (j := 8) (by omega) hc (by show _ < 1152; omega) (by decide) ?_
  rw [(a3 i y hi).2]
  exact k
theorem ms_call (hG : lm_cl E cc Q X G) (hM : MS ids n Qq R g t L0 L) {st : List Value} {j k mc ms : Nat} {wp : lm_S} {As : List Value} (hd : decode cc pc = .ok (.invokevirtual j, 3)) (hf : lm_cv E j = some (k, 3, wp, mc, ms)) (hs : ∀ P : List Value → List Value → Prop, P (.ref 47 :: As) r → lm_pop k st [] P) (b1 : bc + mc ≤ lm_mc E) (b2 : bs + ms ≤ lm_ms E) (hw : (r.map fun v => v.category).sum ≤ 8) (kk : wp (.ref 47 :: As) n L (fun rv n1 L1 => G (pc + 3) lo (rv.toList ++ r) n1 L1 (bc + mc) (bs + ms)) (fun en n1 L1 => match lm_ct E pc en with
    | some h => ∀ k : Nat, G h lo [.retAddr k] n1 L1 (bc + mc) (bs + ms)
    | none => X en n1 L1)) : G pc lo st n L bc bs := by
  obtain ⟨F, hF, -⟩ := hM
  exact mg_call hG hF hd hf hs b1 b2 hw kk
theorem MS.len (hM : MS ids n Qq R g t L0 L) {q : Nat} (hq : q < 12) : (qI (Qq q)).length ≤ 96 := by
  obtain ⟨F, hF, hV⟩ := hM
  exact (hV.1 q hq).2.1
theorem MS.ring (hM : MS ids n Qq R g t L0 L) {c : Nat} (hc : c < 4) : (R c).length ≤ 12 ∧ ∀ x ∈ R c, x < 12 := by
  obtain ⟨F, hF, hV⟩ := hM
  exact ⟨(hV.2 c hc).2.1, (hV.2 c hc).2.2.1⟩
end MFR

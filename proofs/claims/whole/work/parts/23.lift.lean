/-! what the methods of Queue and Ring do, told of the class's world -/
/-- the looks in vain, k of them -/
def vlk (x : Qs) (k : Nat) : Qs := if k = 0 then x else (qI x, qk x, qu x, qq x, qp x, qd x + (if qt x then k - 1 else k) * qu x, false, q0 x, q1 x, q2 x, q3 x)
def tkt (x : Qs) : Qs := if qt x then x else (qI x, qk x, qu x, qq x, qp x, qd x + qu x, true, q0 x, q1 x, q2 x, q3 x)
def sI (x : Qs) (I : List (Int32 × Nat)) : Qs := (I, qk x, qu x, qq x, qp x, qd x, qt x, q0 x, q1 x, q2 x, q3 x)
/-- how often the queue is looked at in vain -/
def lkx (x : Qs) : Nat := match qI x with
  | [] => 0
  | y :: _ => lkv (qt x) (qd x) (qu x) y.2
def exc (Q : Nat → Qs) (q : Nat) : Int := ((qI (Q q)).length : Int) - (qp (Q q) : Int)
section CQL
variable {ids : Nat → ClassId} {n : Nat} {Q : Nat → Qs} {R : Nat → List Nat} {g : Nat → Int32} {L0 L : lm_L} {q : Nat} {x : Qs} {post : lm_Q} {postX : lm_X}
theorem CW.qh (hC : CW ids n Q R g L0 L) (hq : q < 12) (hx : Q q = x) : ∃ a W C, QH ids n L (3 + 3 * q) (4 + 3 * q) (5 + 3 * q) (qv a x) W C a ∧ a < 96 ∧ (qI x).length ≤ 96 ∧ IT (qI x) W C a := by
  obtain ⟨a, W, C, a1, a2, a3, a4, a5, a6⟩ := hC.2.2.2.2.1 q hq
  rw [hx] at a1 a5 a6
  have := hC.1
  exact ⟨a, W, C, ⟨by omega, by omega, by omega, by omega, by omega, by omega, a1, a2, a3, rfl, a4⟩, a4, a5, a6⟩
theorem CW.rh (hC : CW ids n Q R g L0 L) {c : Nat} {l : List Nat} (hc : c < 4) (hx : R c = l) : ∃ f, RH ids n L (39 + 2 * c) (40 + 2 * c) l f := by
  obtain ⟨f, a1, a2, a3, a4, a5⟩ := hC.2.2.2.2.2.1 c hc
  rw [hx] at a1 a3 a4 a5
  have := hC.1
  exact ⟨f, by omega, by omega, by omega, a1, a2, a3, a4, a5⟩
theorem cq_excess (hC : CW ids n Q R g L0 L) (hq : q < 12) (k : post (some (.int (iI (exc Q q)))) n L) : sp_X0_excess ids [.ref (3 + 3 * q)] n L post postX := by
  obtain ⟨a, W, C, H, -⟩ := hC.qh hq rfl
  refine ⟨_, _, _, _, rfl, H.1, H.2.2.2.2.2.2.1, ?_⟩
  show post (some (.int (nI (qI (Q q)).length - nI (qp (Q q))))) n L
  rw [iI_nn]
  exact k
theorem cq_word (hC : CW ids n Q R g L0 L) (hq : q < 12) (hx : Q q = x) {i : Nat} {y : Int32 × Nat} (hy : (qI x)[i]? = some y) (k : post (some (.int y.1)) n L) : sp_X0_wordAt ids [.ref (3 + 3 * q), .int (nI i)] n L post postX := by
  obtain ⟨a, W, C, H, h1, h2, h3⟩ := hC.qh hq hx
  have := (List.getElem?_eq_some_iff.mp hy).1
  refine ⟨_, _, _, _, W, C, a, i, rfl, H, by omega, ?_⟩
  rw [(h3 i y hy).1]
  exact k
theorem cq_cost (hC : CW ids n Q R g L0 L) (hq : q < 12) (hx : Q q = x) {i : Nat} {y : Int32 × Nat} (hy : (qI x)[i]? = some y) (k : post (some (.int (nI y.2))) n L) : sp_X0_costAt ids [.ref (3 + 3 * q), .int (nI i)] n L post postX := by
  obtain ⟨a, W, C, H, h1, h2, h3⟩ := hC.qh hq hx
  have := (List.getElem?_eq_some_iff.mp hy).1
  refine ⟨_, _, _, _, W, C, a, i, rfl, H, by omega, ?_⟩
  rw [(h3 i y hy).2]
  exact k
theorem IT.hd {I : List (Int32 × Nat)} {W C : Nat → Int32} {a : Nat} (h : IT I W C a) (ha : a < 96) {y : Int32 × Nat} {t : List (Int32 × Nat)} (e : I = y :: t) : W a = y.1 ∧ C a = nI y.2 := by
  have := h 0 y (by rw [e]; rfl)
  rw [show (a + 0) % 96 = a by omega] at this
  exact this
theorem cq_first (hC : CW ids n Q R g L0 L) (hq : q < 12) (hx : Q q = x) {y : Int32 × Nat} {t : List (Int32 × Nat)} (hy : qI x = y :: t) (k : post (some (.int (nI y.2))) n L) : sp_X0_firstCost ids [.ref (3 + 3 * q)] n L post postX := by
  obtain ⟨a, W, C, H, h1, h2, h3⟩ := hC.qh hq hx
  refine ⟨_, _, _, _, W, C, a, rfl, H, ?_⟩
  rw [(h3.hd h1 hy).2]
  exact k
theorem cq_looks (hC : CW ids n Q R g L0 L) (hq : q < 12) (hx : Q q = x) {y : Int32 × Nat} {t : List (Int32 × Nat)} (hy : qI x = y :: t) (hd : qd x < 2 ^ 28) (hu : 0 < qu x) (hu2 : qu x < 2 ^ 28) (hp : y.2 < 2 ^ 28) (k : post (some (.int (nI (lkx x)))) n L) : sp_X0_looksInVain ids [.ref (3 + 3 * q)] n L post postX := by
  obtain ⟨a, W, C, H, h1, h2, h3⟩ := hC.qh hq hx
  refine ⟨_, _, _, _, W, C, a, qt x, qd x, qu x, y.2, rfl, H, ?_, rfl, rfl, (h3.hd h1 hy).2, hd, hu, hu2, hp, ?_⟩
  · show bI (qt x) = _
    unfold bI
    cases qt x <;> rfl
  · have : lkx x = lkv (qt x) (qd x) (qu x) y.2 := by unfold lkx; rw [hy]
    rw [← this]
    exact k
/-- a queue's object laid anew, its items as they are -/
theorem CW.obj (hC : CW ids n Q R g L0 L) (hq : q < 12) (hx : Q q = x) {x' : Qs} {v : Nat → Int32} (hI : qI x' = qI x) (hv : ∀ a, L (3 + 3 * q) = qo (4 + 3 * q) (5 + 3 * q) (qv a x) → qo (4 + 3 * q) (5 + 3 * q) v = qo (4 + 3 * q) (5 + 3 * q) (qv a x')) : CW ids n (va_up Q q x') R g L0 (va_up L (3 + 3 * q) (qo (4 + 3 * q) (5 + 3 * q) v)) := by
  obtain ⟨a, W, C, a1, a2, a3, a4, a5, a6⟩ := hC.2.2.2.2.1 q hq
  rw [hx] at a1 a5 a6
  refine hC.setQ hq (fun k a _ _ => va_up_ne _ _ a) ⟨a, W, C, ?_, ?_, ?_, a4, by rw [hI]; exact a5, by rw [hI]; exact a6⟩
  · rw [va_up_self]; exact hv a a1
  · rw [va_up_ne _ _ (by omega)]; exact a2
  · rw [va_up_ne _ _ (by omega)]; exact a3
theorem cq_vain (hC : CW ids n Q R g L0 L) (hq : q < 12) (hx : Q q = x) {i : Nat} (hi : i < 2 ^ 20) (k : ∀ L1, CW ids n (va_up Q q (vlk x i)) R g L0 L1 → post none n L1) : sp_X0_lookInVain ids [.ref (3 + 3 * q), .int (nI i)] n L post postX := by
  obtain ⟨a, W, C, H, h1, h2, h3⟩ := hC.qh hq hx
  refine ⟨_, _, _, _, i, qd x, qu x, rfl, H.1, H.2.2.2.2.2.2.1, rfl, rfl, hi, k _ ?_⟩
  obtain ⟨b, W', C', b1, b2, b3, b4, b5, b6⟩ := hC.2.2.2.2.1 q hq
  rw [hx] at b1 b5 b6
  have a1 := H.2.2.2.2.2.2.1
  refine hC.setQ hq (fun k a _ _ => va_up_ne _ _ a) ⟨a, W, C, ?_, ?_, ?_, h1, ?_, ?_⟩
  · rw [va_up_self]
    unfold vlk
    by_cases e : i = 0
    · rw [if_pos e, if_pos e]
    · rw [if_neg e, if_neg e]
      have h10 : qv a x 10 = bI (qt x) := rfl
      rw [h10]
      cases ht : qt x
      · rw [if_pos (by rfl)]; rfl
      · rw [if_neg (by decide)]; rfl
  · rw [va_up_ne _ _ (by omega)]; exact H.2.2.2.2.2.2.2.1
  · rw [va_up_ne _ _ (by omega)]; exact H.2.2.2.2.2.2.2.2.1
  · unfold vlk; split <;> exact h2
  · unfold vlk; split <;> exact h3
theorem cq_turn (hC : CW ids n Q R g L0 L) (hq : q < 12) (hx : Q q = x) (k : ∀ L1, CW ids n (va_up Q q (tkt x)) R g L0 L1 → post none n L1) : sp_X0_takeTurn ids [.ref (3 + 3 * q)] n L post postX := by
  obtain ⟨a, W, C, H, h1, h2, h3⟩ := hC.qh hq hx
  refine ⟨_, _, _, _, rfl, H.1, H.2.2.2.2.2.2.1, k _ ?_⟩
  refine hC.setQ hq (fun k a _ _ => va_up_ne _ _ a) ⟨a, W, C, ?_, ?_, ?_, h1, ?_, ?_⟩
  · rw [va_up_self]
    unfold tkt
    have h10 : qv a x 10 = bI (qt x) := rfl
    have h9 : qv a x 9 + qv a x 6 = nI (qd x + qu x) := nI_add _ _
    rw [h10, h9]
    cases ht : qt x
    · rw [if_pos (by rfl), if_neg (by decide)]; rfl
    · rw [if_neg (by decide), if_pos rfl]
  · rw [va_up_ne _ _ (by omega)]; exact H.2.2.2.2.2.2.2.1
  · rw [va_up_ne _ _ (by omega)]; exact H.2.2.2.2.2.2.2.2.1
  · unfold tkt; split <;> exact h2
  · unfold tkt; split <;> exact h3
theorem IT.put {I : List (Int32 × Nat)} {W C : Nat → Int32} {a : Nat} (h : IT I W C a) (hl : I.length < 96) {w : Int32} {c : Nat} : IT (I ++ [(w, c)]) (upd W ((a + I.length) % 96) w) (upd C ((a + I.length) % 96) (nI c)) a := by
  intro k y hk
  by_cases hkl : k < I.length
  · rw [List.getElem?_append_left hkl] at hk
    rw [pk_un (by omega), pk_un (by omega)]
    exact h k y hk
  · rw [List.getElem?_append_right (by omega)] at hk
    have hz : k - I.length = 0 := by
      have := (List.getElem?_eq_some_iff.mp hk).1
      simp at this
      omega
    rw [hz] at hk
    simp at hk
    subst hk
    rw [show k = I.length by omega, pk_us, pk_us]
    exact ⟨rfl, rfl⟩
theorem cq_put (hC : CW ids n Q R g L0 L) (hq : q < 12) (hx : Q q = x) {w : Int32} {c : Nat} (hl : (qI x).length < 96) (k : ∀ L1, CW ids n (va_up Q q (sI x (qI x ++ [(w, c)]))) R g L0 L1 → post none n L1) : sp_X0_putLast ids [.ref (3 + 3 * q), .int w, .int (nI c)] n L post postX := by
  obtain ⟨a, W, C, H, h1, h2, h3⟩ := hC.qh hq hx
  refine ⟨_, _, _, _, W, C, a, (qI x).length, w, nI c, rfl, H, rfl, by omega, k _ ?_⟩
  refine hC.setQ hq (fun k e1 e2 e3 => ?_) ⟨a, upd W ((a + (qI x).length) % 96) w, upd C ((a + (qI x).length) % 96) (nI c), ?_, ?_, ?_, h1, ?_, ?_⟩
  · rw [va_up_ne _ _ e1, va_up_ne _ _ e3, va_up_ne _ _ e2]
  · rw [va_up_self]
    have e4 : qv a x 4 + nI c = nI (csum (qI x ++ [(w, c)])) := by rw [csum_app]; exact nI_add _ _
    have e3 : qv a x 3 + 1 = nI (qI x ++ [(w, c)]).length := by rw [List.length_append]; exact nI_1 _
    rw [e4, e3]
    rfl
  · rw [va_up_ne _ _ (by omega), va_up_ne _ _ (by omega), va_up_self]
  · rw [va_up_ne _ _ (by omega), va_up_self]
  · show (qI x ++ [(w, c)]).length ≤ 96
    rw [List.length_append]
    exact hl
  · exact h3.put hl
theorem cq_dropF (hC : CW ids n Q R g L0 L) (hq : q < 12) (hx : Q q = x) {y : Int32 × Nat} {t : List (Int32 × Nat)} (hy : qI x = y :: t) (k : ∀ L1, CW ids n (va_up Q q (sI x t)) R g L0 L1 → post none n L1) : sp_X0_dropFirst ids [.ref (3 + 3 * q)] n L post postX := by
  obtain ⟨a, W, C, H, h1, h2, h3⟩ := hC.qh hq hx
  refine ⟨_, _, _, _, W, C, a, rfl, H, k _ ?_⟩
  refine hC.setQ hq (fun k a _ _ => va_up_ne _ _ a) ⟨(a + 1) % 96, W, C, ?_, ?_, ?_, by omega, ?_, ?_⟩
  · rw [va_up_self]
    have e4 : qv a x 4 - C a = nI (csum t) := by
      rw [(h3.hd h1 hy).2]
      show nI (csum (qI x)) - nI y.2 = _
      rw [hy]
      show nI (y.2 + csum t) - nI y.2 = _
      rw [pk_sub (by omega), show y.2 + csum t - y.2 = csum t by omega]
    have e3 : qv a x 3 - 1 = nI t.length := by
      show nI (qI x).length - 1 = _
      rw [hy]
      exact nI_pred _
    rw [e4, e3]
    rfl
  · rw [va_up_ne _ _ (by omega)]; exact H.2.2.2.2.2.2.2.1
  · rw [va_up_ne _ _ (by omega)]; exact H.2.2.2.2.2.2.2.2.1
  · show t.length ≤ 96
    rw [hy] at h2
    simp at h2
    omega
  · intro i z hz
    have := h3 (i + 1) z (by rw [hy]; exact hz)
    rw [show ((a + 1) % 96 + i) % 96 = (a + (i + 1)) % 96 by omega]
    exact this
theorem cq_dropL (hC : CW ids n Q R g L0 L) (hq : q < 12) (hx : Q q = x) {y : Int32 × Nat} {t : List (Int32 × Nat)} (hy : qI x = t ++ [y]) (k : ∀ L1, CW ids n (va_up Q q (sI x t)) R g L0 L1 → post none n L1) : sp_X0_dropLast ids [.ref (3 + 3 * q)] n L post postX := by
  obtain ⟨a, W, C, H, h1, h2, h3⟩ := hC.qh hq hx
  have h2' : t.length + 1 ≤ 96 := by rw [hy, List.length_append] at h2; exact h2
  have e9 : qv a x 3 = nI (t.length + 1) := by
    show nI (qI x).length = _
    rw [hy, List.length_append]
    rfl
  refine ⟨_, _, _, _, W, C, a, t.length, rfl, H, e9, by omega, k _ ?_⟩
  refine hC.setQ hq (fun k a _ _ => va_up_ne _ _ a) ⟨a, W, C, ?_, ?_, ?_, h1, ?_, ?_⟩
  · rw [va_up_self]
    have e4 : qv a x 4 - C ((a + t.length) % 96) = nI (csum t) := by
      rw [(h3 t.length y (by rw [hy]; simp)).2]
      show nI (csum (qI x)) - nI y.2 = _
      rw [hy, csum_app]
      show nI (csum t + (y.2 + 0)) - nI y.2 = _
      rw [pk_sub (by omega), show csum t + (y.2 + 0) - y.2 = csum t by omega]
    have e3 : qv a x 3 - 1 = nI t.length := by rw [e9]; exact nI_pred _
    rw [e4, e3]
    rfl
  · rw [va_up_ne _ _ (by omega)]; exact H.2.2.2.2.2.2.2.1
  · rw [va_up_ne _ _ (by omega)]; exact H.2.2.2.2.2.2.2.2.1
  · show t.length ≤ 96
    omega
  · intro i z hz
    have hz : t[i]? = some z := hz
    refine h3 i z ?_
    rw [hy, List.getElem?_append_left ((List.getElem?_eq_some_iff.mp hz).1)]
    exact hz
theorem cq_dropA (hC : CW ids n Q R g L0 L) (hq : q < 12) (hx : Q q = x) (k : ∀ L1, CW ids n (va_up Q q (sI x [])) R g L0 L1 → post none n L1) : sp_X0_dropAll ids [.ref (3 + 3 * q)] n L post postX := by
  obtain ⟨a, W, C, H, h1, h2, h3⟩ := hC.qh hq hx
  refine ⟨_, _, _, _, rfl, H.1, H.2.2.2.2.2.2.1, k _ ?_⟩
  refine hC.setQ hq (fun k a _ _ => va_up_ne _ _ a) ⟨a, W, C, ?_, ?_, ?_, h1, Nat.zero_le _, ?_⟩
  · rw [va_up_self]; rfl
  · rw [va_up_ne _ _ (by omega)]; exact H.2.2.2.2.2.2.2.1
  · rw [va_up_ne _ _ (by omega)]; exact H.2.2.2.2.2.2.2.2.1
  · intro i z hz
    have hz : ([] : List (Int32 × Nat))[i]? = some z := hz
    simp at hz
theorem CW.ring (hC : CW ids n Q R g L0 L) {c : Nat} {l l1 : List Nat} {f1 : Nat → Int32} (hc : c < 4) (h1 : LF l1 f1) (h2 : l1.length ≤ 12) (h3 : ∀ x ∈ l1, x < 12) : CW ids n Q (va_up R c l1) g L0 (RU ids L (39 + 2 * c) (40 + 2 * c) l1 f1) := by
  refine hC.setR hc (fun k e1 e2 => RU_at e1 e2) ⟨f1, va_up_self _ _ _, ?_, h2, h1, h3⟩
  unfold RU
  rw [va_up_ne _ _ (by omega), va_up_self]
theorem cr_at (hC : CW ids n Q R g L0 L) {c i z : Nat} {l : List Nat} (hc : c < 4) (hx : R c = l) (hi : l[i]? = some z) (k : post (some (.int (nI z))) n L) : sp_X1_queueAt ids [.ref (39 + 2 * c), .int (nI i)] n L post postX := by
  obtain ⟨f, H⟩ := hC.rh hc hx
  exact ⟨_, _, l, f, i, z, rfl, H, hi, k⟩
theorem cr_place (hC : CW ids n Q R g L0 L) {c z : Nat} {l : List Nat} (hc : c < 4) (hx : R c = l) (hz : z < 12) (k : post (some (.int (if z ∈ l then nI (l.idxOf z) else -1))) n L) : sp_X1_placeOf ids [.ref (39 + 2 * c), .int (nI z)] n L post postX := by
  obtain ⟨f, H⟩ := hC.rh hc hx
  exact ⟨_, _, l, f, z, rfl, H, hz, k⟩
theorem cr_put (hC : CW ids n Q R g L0 L) {c z : Nat} {l : List Nat} (hc : c < 4) (hx : R c = l) (hz : z < 12) (hl : l.length < 12) (k : ∀ L1, CW ids n Q (va_up R c (l ++ [z])) g L0 L1 → post none n L1) : sp_X1_putAtEnd ids [.ref (39 + 2 * c), .int (nI z)] n L post postX := by
  obtain ⟨f, H⟩ := hC.rh hc hx
  refine ⟨_, _, l, f, z, rfl, H, hl, fun f1 hf1 => k _ (hC.ring (l := l) hc hf1 (by simp; omega) ?_)⟩
  intro y hy
  rcases List.mem_append.mp hy with h | h
  · exact H.2.2.2.2.2.2.2 y h
  · simp at h; omega
theorem cr_take (hC : CW ids n Q R g L0 L) {c z : Nat} {l : List Nat} (hc : c < 4) (hx : R c = l) (hz : z ∈ l) (k : ∀ L1, CW ids n Q (va_up R c (l.erase z)) g L0 L1 → post none n L1) : sp_X1_takeOut ids [.ref (39 + 2 * c), .int (nI z)] n L post postX := by
  obtain ⟨f, H⟩ := hC.rh hc hx
  refine ⟨_, _, l, f, z, rfl, H, hz, fun f1 hf1 => k _ (hC.ring (l := l) hc hf1 ?_ ?_)⟩
  · rw [List.length_erase_of_mem hz]
    have := H.2.2.2.2.2.1
    omega
  · intro y hy
    exact H.2.2.2.2.2.2.2 y (List.mem_of_mem_erase hy)
theorem cr_turn (hC : CW ids n Q R g L0 L) {c i : Nat} {l : List Nat} (hc : c < 4) (hx : R c = l) (hi : i ≤ l.length) (k : ∀ L1, CW ids n Q (va_up R c (l.drop i ++ l.take i)) g L0 L1 → post none n L1) : sp_X1_turnBy ids [.ref (39 + 2 * c), .int (nI i)] n L post postX := by
  obtain ⟨f, H⟩ := hC.rh hc hx
  refine ⟨_, _, l, f, i, rfl, H, hi, fun f1 hf1 => k _ (hC.ring (l := l) hc hf1 ?_ ?_)⟩
  · have := H.2.2.2.2.2.1
    simp
    omega
  · intro y hy
    refine H.2.2.2.2.2.2.2 y ?_
    rcases List.mem_append.mp hy with h | h
    · exact List.mem_of_mem_drop h
    · exact List.mem_of_mem_take h
end CQL

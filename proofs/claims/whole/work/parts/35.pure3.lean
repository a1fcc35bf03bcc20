/-! look by look: a look in vain at the first of the ring -/
theorem vlk_add (x : Qs) (k : Nat) : vlk (vlk x 1) k = vlk x (k + 1) := by
  by_cases hk : k = 0
  · subst hk
    show (if 0 = 0 then vlk x 1 else _) = _
    rw [if_pos rfl]
  · have e1 : vlk x 1 = (qI x, qk x, qu x, qq x, qp x, qd x + (if qt x then 0 else 1) * qu x, false, q0 x, q1 x, q2 x, q3 x) := rfl
    rw [e1]
    unfold vlk
    rw [if_neg hk, if_neg (Nat.succ_ne_zero k)]
    have e2 : (qd x + (if qt x then 0 else 1) * qu x) + k * qu x = qd x + (if qt x then k + 1 - 1 else k + 1) * qu x := by
      cases qt x
      · simp only [Bool.false_eq_true, if_false, Nat.add_mul]; omega
      · simp only [if_true, Nat.add_sub_cancel, Nat.zero_mul]; omega
    rw [← e2]
    rfl
theorem lkx_vlk {x : Qs} (hu : 0 < qu x) (h : 1 ≤ lkx x) : lkx (vlk x 1) + 1 = lkx x := by
  have hl : ∃ y t, qI x = y :: t := by
    cases hx : qI x with
    | nil => unfold lkx at h; rw [hx] at h; simp at h
    | cons y t => exact ⟨y, t, rfl⟩
  obtain ⟨y, t, hx⟩ := hl
  have h2 : lkx x = lkv (qt x) (qd x) (qu x) y.2 := by unfold lkx; rw [hx]
  have h3 : lkx (vlk x 1) = lkv false (qd x + (if qt x then 0 else 1) * qu x) (qu x) y.2 := by
    unfold lkx
    rw [vlk_I, hx]
    rfl
  have h4 : qd x + (if qt x then 0 else 1) * qu x = (if qt x then qd x else qd x + qu x) := by cases qt x <;> simp
  rw [h2] at h
  rw [h3, h2, h4]
  unfold lkv at h ⊢
  generalize (if qt x = true then qd x else qd x + qu x) = X at h ⊢
  simp only [Bool.false_eq_true, if_false]
  have h5 : 1 * qu x ≤ y.2 - X + (qu x - 1) := (Nat.le_div_iff_mul_le hu).mp h
  by_cases h6 : qu x ≤ y.2 - X
  · rw [show y.2 - X + (qu x - 1) = (y.2 - (X + qu x) + (qu x - 1)) + qu x by omega, Nat.add_div_right _ hu]
  · rw [show y.2 - (X + qu x) = 0 by omega, Nat.div_eq_of_lt (by omega : 0 + (qu x - 1) < qu x)]
    symm
    exact Nat.div_eq_of_lt_le (by omega) (by omega)
theorem lkx_zero {x : Qs} {y : Int32 × Nat} {t : List (Int32 × Nat)} (hx : qI x = y :: t) (hu : 0 < qu x) : y.2 ≤ qd (tkt x) ↔ lkx x = 0 := by
  have h2 : lkx x = lkv (qt x) (qd x) (qu x) y.2 := by unfold lkx; rw [hx]
  have h3 : qd (tkt x) = (if qt x then qd x else qd x + qu x) := by unfold tkt; cases qt x <;> rfl
  rw [h2, h3]
  unfold lkv
  generalize (if qt x = true then qd x else qd x + qu x) = X
  constructor
  · intro h
    exact Nat.div_eq_of_lt (by omega)
  · intro h
    rcases Nat.lt_or_ge X y.2 with h1 | h1
    · have : 1 ≤ (y.2 - X + (qu x - 1)) / qu x := (Nat.le_div_iff_mul_le hu).mpr (by omega)
      omega
    · exact h1
theorem vlk_one (x : Qs) : sT (tkt x) false = vlk x 1 := by
  have e1 : vlk x 1 = (qI x, qk x, qu x, qq x, qp x, qd x + (if qt x then 0 else 1) * qu x, false, q0 x, q1 x, q2 x, q3 x) := rfl
  rw [e1]
  unfold tkt
  cases h : qt x
  · simp [sT]
  · simp [sT]
section LKS
variable {K : Nat} {σ : St} {c p z q : Nat} {tl : List Nat}
/-- the state after a look in vain -/
def lkS (σ : St) (c q : Nat) (tl : List Nat) : St := (va_up σ.1 q (vlk (σ.1 q) 1), va_up σ.2.1 c (tl ++ [q]), σ.2.2)
theorem idx_app {l : List Nat} {x y : Nat} (h : x ∈ l) : (l ++ [y]).idxOf x = l.idxOf x := by
  induction l with
  | nil => cases h
  | cons a l ih =>
    rw [List.cons_append, List.idxOf_cons, List.idxOf_cons]
    by_cases e : a = x
    · simp [e]
    · have e2 : (a == x) = false := by simpa using e
      rw [e2]
      simp only [cond_false]
      rw [ih (by rcases List.mem_cons.mp h with h | h; exact absurd h.symm e; exact h)]
theorem idx_last {l : List Nat} {x : Nat} (h : x ∉ l) : (l ++ [x]).idxOf x = l.length := by
  induction l with
  | nil => simp
  | cons a l ih =>
    have e : a ≠ x := fun e => h (by rw [e]; exact List.mem_cons_self)
    have e2 : (a == x) = false := by simpa using e
    rw [List.cons_append, List.idxOf_cons, e2]
    simp only [cond_false]
    rw [ih (fun h2 => h (List.mem_cons_of_mem _ h2))]
    rfl
theorem FP_step (hl : σ.2.1 c = q :: tl) (hn : (q :: tl).Nodup) (hu : 0 < qu (σ.1 q)) (hk : 1 ≤ lkx (σ.1 q)) (hF : FP σ c p z) :
    ∃ p2, FP (lkS σ c q tl) c p2 z ∧ lkx ((lkS σ c q tl).1 z) * (tl.length + 1) + p2 + 1 = lkx (σ.1 z) * (tl.length + 1) + p ∧ bfS (lkS σ c q tl) c p2 z = bfS σ c p z := by
  obtain ⟨hc, h0, hd, hP1, hP2, hP3⟩ := hF
  rw [hl] at hP1 hP2 hP3
  obtain ⟨hqt, hnt⟩ := List.nodup_cons.mp hn
  have hlv := lkx_vlk hu hk
  have hR2 : (lkS σ c q tl).2.1 c = tl ++ [q] := va_up_self _ _ _
  have hRd : ∀ d, d < c → ((lkS σ c q tl).2.1 d).length = 0 := fun d hd9 => by
    show (va_up σ.2.1 c _ d).length = 0
    rw [va_up_ne _ _ (by omega)]; exact hd d hd9
  have hQq : (lkS σ c q tl).1 q = vlk (σ.1 q) 1 := va_up_self _ _ _
  have hQo : ∀ w, w ≠ q → (lkS σ c q tl).1 w = σ.1 w := fun w hw => va_up_ne _ _ hw
  have hlen : (tl ++ [q]).length = tl.length + 1 := by simp
  have hQ2 : ∀ p2 r2, (∀ w ∈ tl, (if tl.idxOf w < p2 then r2 + 1 else r2) = (if tl.idxOf w + 1 < p then lkx (σ.1 z) + 1 else lkx (σ.1 z))) → ((if tl.length < p2 then r2 + 1 else r2) + 1 = (if 0 < p then lkx (σ.1 z) + 1 else lkx (σ.1 z))) → btf (lkS σ c q tl).1 (tl ++ [q]) p2 r2 (tl ++ [q]).length = btf σ.1 (q :: tl) p (lkx (σ.1 z)) (q :: tl).length := by
    intro p2 r2 h1 h2
    funext w
    unfold btf
    rw [List.take_length, List.take_length]
    by_cases e : w = q
    · subst e
      rw [if_pos (by simp), if_pos List.mem_cons_self, hQq, idx_last hqt, vlk_add, h2, List.idxOf_cons]
      simp
    · by_cases hw : w ∈ tl
      · rw [if_pos (List.mem_append_left _ hw), if_pos (List.mem_cons_of_mem _ hw), hQo w e, idx_app hw, h1 w hw, List.idxOf_cons]
        have e2 : (q == w) = false := by simpa using fun h : q = w => e h.symm
        rw [e2]
        rfl
      · rw [if_neg (by simp [hw, e]), if_neg (by simp [hw, e]), hQo w e]
  rcases Nat.eq_zero_or_pos p with hp0 | hp0
  · -- the first itself is the next one
    subst hp0
    have hzq : z = q := by simpa using hP1.symm
    subst hzq
    refine ⟨tl.length, ⟨hc, ?_, hRd, ?_, ?_, ?_⟩, ?_, ?_⟩
    · rw [hR2, hlen]; omega
    · rw [hR2]; simp
    · rw [hR2, hlen]; omega
    · intro i x hi hx
      rw [hR2] at hi hx
      rw [hlen] at hi
      rw [hQq]
      rcases Nat.lt_or_ge i tl.length with h1 | h1
      · rw [List.getElem?_append_left h1] at hx
        have hxt := List.mem_of_getElem? hx
        have hxq : x ≠ z := fun e => hqt (e ▸ hxt)
        rw [hQo x hxq]
        have := (hP3 (i + 1) x (by simp; omega) hx).1
        omega
      · have hxz : x = z := by
          rw [List.getElem?_append_right h1, show i - tl.length = 0 by omega] at hx
          simpa using hx.symm
        subst hxz
        rw [hQq]
        exact ⟨Nat.le_refl _, fun h => by omega⟩
    · rw [hQq, ← hlv, Nat.add_mul]; omega
    · show (btf (lkS σ c z tl).1 ((lkS σ c z tl).2.1 c) tl.length (lkx ((lkS σ c z tl).1 z)) ((lkS σ c z tl).2.1 c).length, va_up (va_up σ.2.1 c (tl ++ [z])) c (((lkS σ c z tl).2.1 c).drop tl.length ++ ((lkS σ c z tl).2.1 c).take tl.length), σ.2.2) = (btf σ.1 (σ.2.1 c) 0 (lkx (σ.1 z)) (σ.2.1 c).length, va_up σ.2.1 c ((σ.2.1 c).drop 0 ++ (σ.2.1 c).take 0), σ.2.2)
      rw [hR2, hl, bx_uu, hQ2 tl.length (lkx ((lkS σ c z tl).1 z)) ?_ ?_]
      · simp
      · intro w hw
        have := List.idxOf_lt_length_of_mem hw
        rw [if_pos this, if_neg (by omega), hQq, hlv]
      · rw [if_neg (Nat.lt_irrefl _), if_neg (Nat.lt_irrefl _), hQq, hlv]
  · obtain ⟨p0, rfl⟩ : ∃ p0, p = p0 + 1 := ⟨p - 1, by omega⟩
    have hzt : tl[p0]? = some z := by simpa using hP1
    have hp0l : p0 < tl.length := (List.getElem?_eq_some_iff.mp hzt).1
    have hzq : z ≠ q := fun e => hqt (e ▸ List.mem_of_getElem? hzt)
    have hQz := hQo z hzq
    refine ⟨p0, ⟨hc, ?_, hRd, ?_, ?_, ?_⟩, ?_, ?_⟩
    · rw [hR2, hlen]; omega
    · rw [hR2, List.getElem?_append_left hp0l]; exact hzt
    · rw [hR2, hlen]; omega
    · intro i x hi hx
      rw [hR2] at hi hx
      rw [hlen] at hi
      rw [hQz]
      rcases Nat.lt_or_ge i tl.length with h1 | h1
      · rw [List.getElem?_append_left h1] at hx
        have hxt := List.mem_of_getElem? hx
        have hxq : x ≠ q := fun e => hqt (e ▸ hxt)
        rw [hQo x hxq]
        have := hP3 (i + 1) x (by simp; omega) hx
        exact ⟨this.1, fun h => this.2 (by omega)⟩
      · have hxq : x = q := by
          rw [List.getElem?_append_right h1, show i - tl.length = 0 by omega] at hx
          simpa using hx.symm
        subst hxq
        rw [hQq]
        have := (hP3 0 x (by simp) rfl).2 (by omega)
        exact ⟨by omega, fun h => by omega⟩
    · rw [hQz]; omega
    · show (btf (lkS σ c q tl).1 ((lkS σ c q tl).2.1 c) p0 (lkx ((lkS σ c q tl).1 z)) ((lkS σ c q tl).2.1 c).length, va_up (va_up σ.2.1 c (tl ++ [q])) c (((lkS σ c q tl).2.1 c).drop p0 ++ ((lkS σ c q tl).2.1 c).take p0), σ.2.2) = (btf σ.1 (σ.2.1 c) (p0 + 1) (lkx (σ.1 z)) (σ.2.1 c).length, va_up σ.2.1 c ((σ.2.1 c).drop (p0 + 1) ++ (σ.2.1 c).take (p0 + 1)), σ.2.2)
      rw [hR2, hl, bx_uu, hQ2 p0 (lkx ((lkS σ c q tl).1 z)) ?_ ?_]
      · rw [List.drop_append_of_le_length (by omega), List.take_append_of_le_length (by omega)]
        simp
      · intro w hw
        rw [hQz]
        simp only [Nat.add_lt_add_iff_right]
      · rw [if_neg (by omega), if_pos (by omega), hQz]
theorem INV_lk (h : INV K σ) (hc : c < 4) (hl : σ.2.1 c = q :: tl) (hk : 1 ≤ lkx (σ.1 q)) : INV K (lkS σ c q tl) := by
  have hq := (h.2.1 c hc).2 q (by rw [hl]; exact List.mem_cons_self)
  obtain ⟨b1, b2, b3, b4, b5, b6, b7, b8, b9⟩ := h.1 q hq.1
  obtain ⟨y, t, hy, hfy⟩ := fc_mem hq.2.2
  have hy2 := (b7 y (by rw [hy]; exact List.mem_cons_self)).2
  have f0 := vlk_f qI (fun _ _ _ _ _ _ _ _ _ _ _ _ _ => rfl) (σ.1 q) 1
  have f1 := vlk_f qk (fun _ _ _ _ _ _ _ _ _ _ _ _ _ => rfl) (σ.1 q) 1
  have f2 := vlk_f qu (fun _ _ _ _ _ _ _ _ _ _ _ _ _ => rfl) (σ.1 q) 1
  have f3 := vlk_f qq (fun _ _ _ _ _ _ _ _ _ _ _ _ _ => rfl) (σ.1 q) 1
  have f4 := vlk_f qp (fun _ _ _ _ _ _ _ _ _ _ _ _ _ => rfl) (σ.1 q) 1
  have f5 := vlk_f q2 (fun _ _ _ _ _ _ _ _ _ _ _ _ _ => rfl) (σ.1 q) 1
  have f6 := vlk_f q1 (fun _ _ _ _ _ _ _ _ _ _ _ _ _ => rfl) (σ.1 q) 1
  have h1 : INV K (va_up σ.1 q (vlk (σ.1 q) 1), σ.2.1, σ.2.2) := by
    refine INV_stay h hq.1 (Nat.le_refl K) ⟨f1, by rw [f2]; exact b2, by rw [f2]; exact b3, by rw [f3]; exact b4, f4, ?_, by rw [f0]; exact b7, by rw [f0]; exact hq.2.2⟩ hq.2.2 (by rw [f0]; have := h.2.2.2.1; omega) (by rw [f5]) (by rw [f6])
    rcases vlk_d b2 hk with h9 | h9 <;> omega
  have hP : (tl ++ [q]).Perm (σ.2.1 c) := by
    rw [hl]
    exact List.perm_append_comm (l₁ := tl) (l₂ := [q])
  obtain ⟨a1, a2, a3⟩ := h1
  have hM : ∀ d w, w ∈ va_up σ.2.1 c (tl ++ [q]) d ↔ w ∈ σ.2.1 d := by
    intro d w
    by_cases e : d = c
    · subst e; rw [va_up_self]; exact hP.mem_iff
    · rw [va_up_ne _ _ e]
  refine ⟨fun w hw => ?_, fun d hd => ⟨?_, fun w hw => ?_⟩, a3⟩
  · obtain ⟨c1, c2, c3, c4, c5, c6, c7, c8, c9⟩ := a1 w hw
    exact ⟨c1, c2, c3, c4, c5, c6, c7, c8, fun h9 => (hM _ w).mpr (c9 h9)⟩
  · show (va_up σ.2.1 c (tl ++ [q]) d).Nodup
    by_cases e : d = c
    · subst e; rw [va_up_self]; exact hP.nodup_iff.mpr (h.2.1 d hd).1
    · rw [va_up_ne _ _ e]; exact (h.2.1 d hd).1
  · exact (a2 d hd).2 w ((hM d w).mp hw)
/-- nothing to look at in vain -/
theorem bf_zero (hF : FP σ c p z) (hl : σ.2.1 c = q :: tl) (hk : lkx (σ.1 q) = 0) : z = q ∧ bfS σ c p z = σ := by
  obtain ⟨hc, h0, hd, hP1, hP2, hP3⟩ := hF
  have h1 := hP3 0 q h0 (by rw [hl]; rfl)
  have hp : p = 0 := by
    rcases Nat.eq_zero_or_pos p with h | h
    · exact h
    · have := h1.2 h; omega
  subst hp
  have hz : z = q := by rw [hl] at hP1; simpa using hP1.symm
  subst hz
  refine ⟨rfl, ?_⟩
  show (btf σ.1 (σ.2.1 c) 0 (lkx (σ.1 z)) (σ.2.1 c).length, va_up σ.2.1 c ((σ.2.1 c).drop 0 ++ (σ.2.1 c).take 0), σ.2.2) = σ
  have e1 : btf σ.1 (σ.2.1 c) 0 (lkx (σ.1 z)) (σ.2.1 c).length = σ.1 := by
    funext w
    unfold btf
    split
    · rw [if_neg (Nat.not_lt_zero _), hk]
      unfold vlk
      rw [if_pos rfl]
    · rfl
  rw [e1, List.drop_zero, List.take_zero, List.append_nil, va_up_id rfl]
end LKS

/-! serving keeps the invariant -/
theorem vlk_f {α : Type} (f : Qs → α) (hf : ∀ I k u o p d t a b c e d' t', f (I, k, u, o, p, d, t, a, b, c, e) = f (I, k, u, o, p, d', t', a, b, c, e)) (x : Qs) (k : Nat) : f (vlk x k) = f x := by
  unfold vlk
  split
  · rfl
  · exact hf _ _ _ _ _ _ _ _ _ _ _ _ _
theorem btf_f {α : Type} (f : Qs → α) (hf : ∀ I k u o p d t a b c e d' t', f (I, k, u, o, p, d, t, a, b, c, e) = f (I, k, u, o, p, d', t', a, b, c, e)) (Q : Nat → Qs) (l : List Nat) (p r i q : Nat) : f (btf Q l p r i q) = f (Q q) := by
  unfold btf
  split
  · exact vlk_f f hf _ _
  · rfl
theorem tkt_f {α : Type} (f : Qs → α) (hf : ∀ I k u o p d t a b c e d' t', f (I, k, u, o, p, d, t, a, b, c, e) = f (I, k, u, o, p, d', t', a, b, c, e)) (x : Qs) : f (tkt x) = f x := by
  unfold tkt
  split
  · rfl
  · exact hf _ _ _ _ _ _ _ _ _ _ _ _ _
theorem lk_short {t : Bool} {d u p k : Nat} (hu : 0 < u) (h : k + 1 ≤ lkv t d u p) : (if t then d else d + u) + k * u < p := by
  unfold lkv at h
  revert h
  generalize (if t = true then d else d + u) = X
  intro h
  have h1 : (k + 1) * u ≤ p - X + (u - 1) := (Nat.le_div_iff_mul_le hu).mp h
  rw [Nat.add_mul, Nat.one_mul] at h1
  omega
theorem vlk_d {x : Qs} {k : Nat} (hu : 0 < qu x) (h : k ≤ lkx x) : qd (vlk x k) ≤ qd x ∨ qd (vlk x k) < fc x := by
  unfold vlk
  by_cases hk : k = 0
  · rw [if_pos hk]; exact Or.inl (Nat.le_refl _)
  · rw [if_neg hk]
    refine Or.inr ?_
    obtain ⟨j, rfl⟩ : ∃ j, k = j + 1 := ⟨k - 1, by omega⟩
    have hl : ∃ y t, qI x = y :: t := by
      cases hx : qI x with
      | nil => unfold lkx at h; rw [hx] at h; simp at h
      | cons y t => exact ⟨y, t, rfl⟩
    obtain ⟨y, t, hx⟩ := hl
    have hf : fc x = y.2 := by unfold fc; rw [hx]
    have h2 : lkx x = lkv (qt x) (qd x) (qu x) y.2 := by unfold lkx; rw [hx]
    rw [h2] at h
    have h3 := lk_short hu h
    rw [hf]
    show qd x + (if qt x then j + 1 - 1 else j + 1) * qu x < y.2
    cases ht : qt x
    · rw [ht] at h3
      simp only [Bool.false_eq_true, if_false] at h3 ⊢
      rw [Nat.add_mul, Nat.one_mul]
      omega
    · rw [ht] at h3
      simp only [if_true, Nat.add_sub_cancel] at h3 ⊢
      exact h3
section SVP
variable {K : Nat} {σ : St} {c p z : Nat}
theorem FP.mem (h : FP σ c p z) : z ∈ σ.2.1 c := List.mem_of_getElem? h.2.2.2.1
theorem rot_perm (l : List Nat) (p : Nat) : (l.drop p ++ l.take p).Perm l := by
  have h := List.perm_append_comm (l₁ := l.drop p) (l₂ := l.take p)
  rw [List.take_append_drop] at h
  exact h
theorem INV_bf (h : INV K σ) (hF : FP σ c p z) : INV K (bfS σ c p z) := by
  obtain ⟨hc, h0, hd, hP⟩ := hF
  obtain ⟨a1, a2, a3, a4, a5, a6⟩ := h
  have hn := (a2 c hc).1
  have hB : ∀ {α : Type} (f : Qs → α) (hf : ∀ I k u o p d t a b c e d' t', f (I, k, u, o, p, d, t, a, b, c, e) = f (I, k, u, o, p, d', t', a, b, c, e)) (q : Nat), f ((bfS σ c p z).1 q) = f (σ.1 q) := fun f hf q => btf_f f hf _ _ _ _ _ _
  have hM : ∀ d, ∀ q, q ∈ (bfS σ c p z).2.1 d ↔ q ∈ σ.2.1 d := by
    intro d q
    show q ∈ va_up σ.2.1 c _ d ↔ _
    by_cases e : d = c
    · subst e; rw [va_up_self]; exact (rot_perm _ p).mem_iff
    · rw [va_up_ne _ _ e]
  refine ⟨fun q hq => ?_, fun d hd4 => ⟨?_, fun q hq => ?_⟩, ?_, ?_, ?_, ?_⟩
  · obtain ⟨b1, b2, b3, b4, b5, b6, b7, b8, b9⟩ := a1 q hq
    have e1 := hB qk (fun _ _ _ _ _ _ _ _ _ _ _ _ _ => rfl) q
    have e2 := hB qu (fun _ _ _ _ _ _ _ _ _ _ _ _ _ => rfl) q
    have e3 := hB qq (fun _ _ _ _ _ _ _ _ _ _ _ _ _ => rfl) q
    have e4 := hB qp (fun _ _ _ _ _ _ _ _ _ _ _ _ _ => rfl) q
    have e5 := hB qI (fun _ _ _ _ _ _ _ _ _ _ _ _ _ => rfl) q
    refine ⟨by rw [e1]; exact b1, by rw [e2]; exact b2, by rw [e2]; exact b3, by rw [e3]; exact b4, by rw [e4]; exact b5, ?_, by rw [e5]; exact b7, ?_, ?_⟩
    · show qd (btf σ.1 (σ.2.1 c) p (lkx (σ.1 z)) (σ.2.1 c).length q) ≤ _
      unfold btf
      rw [List.take_length]
      split
      · rename_i hm
        obtain ⟨i, hi⟩ := List.mem_iff_getElem?.mp hm
        have hi2 := (List.getElem?_eq_some_iff.mp hi).1
        have hix := (nd_take hn hi).2
        rw [hix]
        have h9 := hP.2.2 i q hi2 hi
        have hk : (if i < p then lkx (σ.1 z) + 1 else lkx (σ.1 z)) ≤ lkx (σ.1 q) := by
          split
          · rename_i hip; exact h9.2 hip
          · exact h9.1
        have hql := ((a2 c hc).2 q hm).2.2
        obtain ⟨y, t, hy, hfy⟩ := fc_mem hql
        have hy2 := (b7 y (by rw [hy]; exact List.mem_cons_self)).2
        rcases vlk_d b2 hk with h8 | h8
        · omega
        · omega
      · exact b6
    · rw [e5]
      intro h9
      show qd (btf σ.1 (σ.2.1 c) p (lkx (σ.1 z)) (σ.2.1 c).length q) = 0 ∧ qt (btf σ.1 (σ.2.1 c) p (lkx (σ.1 z)) (σ.2.1 c).length q) = false
      unfold btf
      rw [List.take_length]
      split
      · rename_i hm
        have hql := ((a2 c hc).2 q hm).2.2
        omega
      · exact b8 h9
    · rw [e5, e1]
      intro h9
      exact (hM _ q).mpr (b9 h9)
  · show (va_up σ.2.1 c _ d).Nodup
    by_cases e : d = c
    · subst e; rw [va_up_self]; exact (rot_perm _ p).nodup_iff.mpr hn
    · rw [va_up_ne _ _ e]; exact (a2 d hd4).1
  · rw [hB qk (fun _ _ _ _ _ _ _ _ _ _ _ _ _ => rfl) q, hB qI (fun _ _ _ _ _ _ _ _ _ _ _ _ _ => rfl) q]
    exact (a2 d hd4).2 q ((hM d q).mp hq)
  · rw [show (fun q => qp ((bfS σ c p z).1 q)) = (fun q => qp (σ.1 q)) from funext fun q => hB qp (fun _ _ _ _ _ _ _ _ _ _ _ _ _ => rfl) q]
    exact a3
  · rw [show (fun q => (qI ((bfS σ c p z).1 q)).length) = (fun q => (qI (σ.1 q)).length) from funext fun q => hB (fun x => (qI x).length) (fun _ _ _ _ _ _ _ _ _ _ _ _ _ => rfl) q]
    exact a4
  · rw [show (fun q => q2 ((bfS σ c p z).1 q)) = (fun q => q2 (σ.1 q)) from funext fun q => hB q2 (fun _ _ _ _ _ _ _ _ _ _ _ _ _ => rfl) q]
    exact a5
  · rw [show (fun q => q1 ((bfS σ c p z).1 q)) = (fun q => q1 (σ.1 q)) from funext fun q => hB q1 (fun _ _ _ _ _ _ _ _ _ _ _ _ _ => rfl) q]
    exact a6
theorem bf_len : sumN (fun q => (qI ((bfS σ c p z).1 q)).length) 12 = sumN (fun q => (qI (σ.1 q)).length) 12 := by
  rw [show (fun q => (qI ((bfS σ c p z).1 q)).length) = (fun q => (qI (σ.1 q)).length) from funext fun q => btf_f (fun x => (qI x).length) (fun _ _ _ _ _ _ _ _ _ _ _ _ _ => rfl) _ _ _ _ _ _]
theorem bf_I (q : Nat) : qI ((bfS σ c p z).1 q) = qI (σ.1 q) := btf_f qI (fun _ _ _ _ _ _ _ _ _ _ _ _ _ => rfl) _ _ _ _ _ _
theorem bf_k (q : Nat) : qk ((bfS σ c p z).1 q) = qk (σ.1 q) := btf_f qk (fun _ _ _ _ _ _ _ _ _ _ _ _ _ => rfl) _ _ _ _ _ _
theorem bf_at (h : INV K σ) (hF : FP σ c p z) : (bfS σ c p z).1 z = vlk (σ.1 z) (lkx (σ.1 z)) := by
  show btf σ.1 (σ.2.1 c) p (lkx (σ.1 z)) (σ.2.1 c).length z = _
  unfold btf
  rw [List.take_length, if_pos hF.mem, (nd_take (h.2.1 c hF.1).1 hF.2.2.2.1).2, if_neg (Nat.lt_irrefl p)]
theorem bf_mem (hF : FP σ c p z) : z ∈ (bfS σ c p z).2.1 c := by
  show z ∈ va_up σ.2.1 c _ c
  rw [va_up_self]
  exact (rot_perm _ p).mem_iff.mpr hF.mem
theorem sfS_cons {q : Nat} {y : Int32 × Nat} {t : List (Int32 × Nat)} (h : qI (σ.1 q) = y :: t) : sfS σ q = (va_up σ.1 q (if t.length = 0 then lvq (srv (σ.1 q) y t) else srv (σ.1 q) y t), (if t.length = 0 then lvR σ.1 σ.2.1 q else σ.2.1), upd (upd σ.2.2 0 y.1) 1 (σ.2.2 1 + 1)) := by
  unfold sfS
  rw [h]
theorem tkt_d (x : Qs) : qd (tkt x) ≤ qd x + qu x := by
  unfold tkt
  split
  · exact Nat.le_add_right _ _
  · exact Nat.le_refl _
theorem INV_sf (h : INV K σ) {q : Nat} (hq : q < 12) : INV (K + 1) (sfS σ q) := by
  obtain ⟨b1, b2, b3, b4, b5, b6, b7, b8, b9⟩ := h.1 q hq
  cases hI : qI (σ.1 q) with
  | nil =>
    have : sfS σ q = σ := by unfold sfS; rw [hI]
    rw [this]
    refine ⟨fun q hq => ?_, h.2⟩
    obtain ⟨c1, c2, c3, c4, c5, c6, c7⟩ := h.1 q hq
    exact ⟨c1, c2, c3, c4, c5, by omega, c7⟩
  | cons y t =>
    rw [sfS_cons hI]
    have f1 := tkt_f qk (fun _ _ _ _ _ _ _ _ _ _ _ _ _ => rfl) (σ.1 q)
    have f2 := tkt_f qu (fun _ _ _ _ _ _ _ _ _ _ _ _ _ => rfl) (σ.1 q)
    have f3 := tkt_f qq (fun _ _ _ _ _ _ _ _ _ _ _ _ _ => rfl) (σ.1 q)
    have f4 := tkt_f qp (fun _ _ _ _ _ _ _ _ _ _ _ _ _ => rfl) (σ.1 q)
    have f5 := tkt_f q2 (fun _ _ _ _ _ _ _ _ _ _ _ _ _ => rfl) (σ.1 q)
    have f6 := tkt_f q1 (fun _ _ _ _ _ _ _ _ _ _ _ _ _ => rfl) (σ.1 q)
    have e5 : σ.2.2 1 + 1 + q2 (σ.1 q) = σ.2.2 1 + (q2 (tkt (σ.1 q)) + 1) := by rw [f5, Int32.add_assoc, Int32.add_comm 1]
    have e6 : σ.2.2 2 + q1 (σ.1 q) = σ.2.2 2 + q1 (tkt (σ.1 q)) := by rw [f6]
    by_cases e : t.length = 0
    · rw [if_pos e, if_pos e]
      exact INV_leave h hq (Nat.le_succ K) ⟨f1, by rw [← f2] at b2; exact b2, by rw [← f2] at b3; exact b3, by rw [← f3] at b4; exact b4, f4, List.length_eq_zero_iff.mp e, rfl, rfl⟩ e5 e6
    · rw [if_neg e, if_neg e]
      refine INV_stay h hq (Nat.le_succ K) ⟨f1, by rw [← f2] at b2; exact b2, by rw [← f2] at b3; exact b3, by rw [← f3] at b4; exact b4, f4, ?_, fun x hx => b7 x (by rw [hI]; exact List.mem_cons_of_mem _ hx), Nat.pos_of_ne_zero e⟩ (by rw [hI]; exact Nat.succ_pos _) ?_ e5 e6
      · show qd (tkt (σ.1 q)) - y.2 ≤ _
        have := tkt_d (σ.1 q)
        omega
      · show _ + t.length ≤ _
        have := h.2.2.2.1
        rw [hI]
        simp
        omega
theorem INV_sv (h : INV K σ) (hF : FP σ c p z) : INV (K + 1) (svS σ c p z) := INV_sf (INV_bf h hF) ((h.2.1 c hF.1).2 z hF.mem).1
theorem sfS_len {q : Nat} (hq : q < 12) (hl : 0 < (qI (σ.1 q)).length) : sumN (fun i => (qI ((sfS σ q).1 i)).length) 12 + 1 = sumN (fun q => (qI (σ.1 q)).length) 12 := by
  cases hI : qI (σ.1 q) with
  | nil => rw [hI] at hl; simp at hl
  | cons y t =>
    rw [sfS_cons hI]
    have := sumN_up (fun x => (qI x).length) σ.1 (if t.length = 0 then lvq (srv (σ.1 q) y t) else srv (σ.1 q) y t) q 12
    rw [if_pos hq, if_pos hq] at this
    have e : (qI (if t.length = 0 then lvq (srv (σ.1 q) y t) else srv (σ.1 q) y t)).length = t.length := by split <;> rfl
    rw [e, hI] at this
    show sumN (fun i => (qI (va_up σ.1 q _ i)).length) 12 + 1 = _
    simp only [List.length_cons] at this
    omega
theorem svS_len (h : INV K σ) (hF : FP σ c p z) : sumN (fun i => (qI ((svS σ c p z).1 i)).length) 12 + 1 = sumN (fun q => (qI (σ.1 q)).length) 12 := by
  have hz := (h.2.1 c hF.1).2 z hF.mem
  rw [← bf_len (σ := σ) (c := c) (p := p) (z := z)]
  exact sfS_len hz.1 (by rw [bf_I]; exact hz.2.2)
/-- there is always the next one, or nobody -/
theorem PN_ex (Q : Nat → Qs) (l : List Nat) : ∀ k, 0 < k → k ≤ l.length → ∃ p z, PN Q l k p z
  | 0, h, _ => by omega
  | 1, _, h => ⟨0, _, PN.one (List.getElem?_eq_getElem h)⟩
  | k + 2, _, h => by
    obtain ⟨p, z, hP⟩ := PN_ex Q l (k + 1) (by omega) (by omega)
    have hx : l[k + 1]? = some l[k + 1] := List.getElem?_eq_getElem h
    rcases Nat.lt_or_ge (lkx (Q l[k + 1])) (lkx (Q z)) with h1 | h1
    · exact ⟨_, _, hP.next hx h1⟩
    · exact ⟨_, _, hP.keep hx h1⟩
theorem FP_ex (σ : St) : NQ σ ∨ ∃ c p z, FP σ c p z := by
  by_cases h : ∃ c, c < 4 ∧ 0 < (σ.2.1 c).length
  · obtain ⟨c, ⟨hc, h0⟩, hmin⟩ := pk_least _ h
    obtain ⟨p, z, hP⟩ := PN_ex σ.1 (σ.2.1 c) _ h0 (Nat.le_refl _)
    refine Or.inr ⟨c, p, z, hc, h0, fun d hd => ?_, hP⟩
    have := hmin d hd
    rcases Nat.eq_zero_or_pos (σ.2.1 d).length with h9 | h9
    · exact h9
    · exact absurd ⟨by omega, h9⟩ this
  · refine Or.inl fun c hc => ?_
    rcases Nat.eq_zero_or_pos (σ.2.1 c).length with h9 | h9
    · exact h9
    · exact absurd ⟨c, hc, h9⟩ h
end SVP

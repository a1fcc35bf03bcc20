theorem lm_at_of {α : Type} {o : Option α} {k : α → Prop} (h : lm_at o k) : ∃ v, o = some v ∧ k v := by
  cases o with
  | none => exact h.elim
  | some v => exact ⟨v, rfl, h⟩
theorem lm_ldi_of {lo : lm_O} {i : Nat} {k : Int32 → Prop} (h : lm_ldi lo i k) : ∃ x, lo[i]? = some (some (.int x)) ∧ k x := by
  unfold lm_ldi at h
  split at h
  · exact ⟨_, by assumption, h⟩
  · exact h.elim
theorem lm_lda_of {lo : lm_O} {i : Nat} {k : Value → Prop} (h : lm_lda lo i k) : (∃ a, lo[i]? = some (some (.ref a)) ∧ k (.ref a)) ∨ (lo[i]? = some (some .null) ∧ k .null) ∨ ∃ f, lo[i]? = some (some (.float f)) ∧ k (.float f) := by
  unfold lm_lda at h
  split at h
  · exact Or.inl ⟨_, by assumption, h⟩
  · exact Or.inr (Or.inl ⟨by assumption, h⟩)
  · exact Or.inr (Or.inr ⟨_, by assumption, h⟩)
  · exact h.elim
theorem lm_s1_of {st : List Value} {k : Int32 → List Value → Prop} (h : lm_s1 st k) : ∃ x r, st = .int x :: r ∧ k x r := by
  unfold lm_s1 at h
  split at h
  · exact ⟨_, _, rfl, h⟩
  · exact h.elim
theorem lm_s2_of {st : List Value} {k : Int32 → Int32 → List Value → Prop} (h : lm_s2 st k) : ∃ x y r, st = .int y :: .int x :: r ∧ k x y r := by
  unfold lm_s2 at h
  split at h
  · exact ⟨_, _, _, rfl, h⟩
  · exact h.elim
theorem lm_sr_of {st : List Value} {k : Nat → List Value → Prop} (h : lm_sr st k) : ∃ a r, st = .ref a :: r ∧ k a r := by
  unfold lm_sr at h
  split at h
  · exact ⟨_, _, rfl, h⟩
  · exact h.elim
theorem lm_ob_of {c : va_E} {ci : Nat} {k : List Value → Prop} (h : lm_ob c ci k) : ∃ fs, c = .inr (ci, fs) ∧ k fs := by
  cases c with
  | inl x => exact h.elim
  | inr o => obtain ⟨a, fs⟩ := o; obtain ⟨h1, h2⟩ := h; exact ⟨fs, by simp only at h1; rw [h1], h2⟩
theorem lm_ia_of {c : va_E} {cA : ClassId} {k : Nat → (Nat → Int32) → Prop} (h : lm_ia c cA k) : ∃ n f, c = .inl (cA, n, .inl f) ∧ k n f := by
  unfold lm_ia at h
  split at h
  · obtain ⟨rfl, h⟩ := h; exact ⟨_, _, rfl, h⟩
  · exact h.elim
theorem lm_la_of {c : va_E} {cA : ClassId} {k : Nat → (Nat → Int64) → Prop} (h : lm_la c cA k) : ∃ n f, c = .inl (cA, n, .inr (.inl f)) ∧ k n f := by
  unfold lm_la at h
  split at h
  · obtain ⟨rfl, h⟩ := h; exact ⟨_, _, rfl, h⟩
  · exact h.elim
theorem lm_qa_of {c : va_E} {k : ClassId → Nat → (Nat → Option Nat) → Prop} (h : lm_qa c k) : ∃ c1 n f, c = .inl (c1, n, .inr (.inr (.inr (.inr f)))) ∧ k c1 n f := by
  unfold lm_qa at h
  split at h
  · exact ⟨_, _, _, rfl, h⟩
  · exact h.elim
theorem lm_pop_of : ∀ (m : Nat) (st acc : List Value) {k : List Value → List Value → Prop}, lm_pop m st acc k → ∃ As r, As.length = m ∧ st = As.reverse ++ r ∧ k (As ++ acc) r
  | 0, st, acc, k, h => ⟨[], st, rfl, rfl, h⟩
  | m + 1, v :: st, acc, k, h => by
    obtain ⟨As, r, h1, h2, h3⟩ := lm_pop_of m st (v :: acc) h
    refine ⟨As ++ [v], r, by simp [h1], by simp [h2], ?_⟩
    rw [List.append_assoc]
    exact h3
  | _ + 1, [], _, _, h => h.elim
theorem lm_map_rev (B b : Nat) (As r : List Value) : (As.reverse ++ r).map (lm_v B b) = (As.map (lm_v B b)).reverse ++ r.map (lm_v B b) := by simp

/-! how the logical world lies in the heap -/
def lm_v (B b : Nat) : Value → Value
  | .ref k => .ref (B + k)
  | .float _ => .ref b
  | .retAddr a => .ref a
  | v => v
def lm_ar (B : Nat) : vp_A → vp_A
  | (n, .inr (.inr (.inr (.inr f)))) => (n, .inr (.inr (.inr (.inr (fun j => (f j).map (fun k => B + k))))))
  | x => x
def lm_e (B b : Nat) : va_E → va_E
  | .inr o => .inr (o.1, o.2.map (lm_v B b))
  | .inl a => .inl (a.1, lm_ar B a.2)
def lm_w (B b n : Nat) (L : lm_L) : va_W := (List.range n).map (fun k => (B + k, lm_e B b (L k)))
theorem lm_v_cat (B b : Nat) (v : Value) : (lm_v B b v).category = v.category := by cases v <;> rfl
theorem lm_cats (B b : Nat) (st : List Value) : ((st.map (lm_v B b)).map fun v => v.category).sum = (st.map fun v => v.category).sum := by
  rw [List.map_map]
  congr 1
  exact List.map_congr_left (fun v _ => lm_v_cat B b v)
theorem lm_v_rf (B b : Nat) (o : Option Nat) : lm_v B b (va_rf o) = va_rf (o.map (fun k => B + k)) := by cases o <;> rfl
theorem lm_w_at {B b n k : Nat} {L : lm_L} (h : k < n) : (lm_w B b n L)[k]? = some (B + k, lm_e B b (L k)) := by simp [lm_w, h]
theorem lm_w_inv {B b n k : Nat} {L : lm_L} {q : Nat × va_E} (h : (lm_w B b n L)[k]? = some q) : k < n ∧ q = (B + k, lm_e B b (L k)) := by
  have hk : k < n := by
    have := (List.getElem?_eq_some_iff.mp h).1
    simpa [lm_w] using this
  rw [lm_w_at hk] at h
  exact ⟨hk, (Option.some.inj h).symm⟩
theorem lm_w_set {B b n k : Nat} {L : lm_L} (h : k < n) {e e1 : va_E} (he : lm_e B b e = e1) : (lm_w B b n L).set k (B + k, e1) = lm_w B b n (va_up L k e) := by
  subst he
  apply List.ext_getElem?
  intro j
  by_cases hj : j < n
  · rw [lm_w_at hj]
    by_cases hjk : j = k
    · subst hjk
      rw [List.getElem?_set_self (by simpa [lm_w] using hj), va_up_self]
    · rw [List.getElem?_set_ne (Ne.symm hjk), lm_w_at hj, va_up_ne _ _ hjk]
  · rw [List.getElem?_eq_none (by simp [lm_w]; omega), List.getElem?_eq_none (by simp [lm_w]; omega)]
theorem lm_w_push {B b n : Nat} {L : lm_L} {e e1 : va_E} (he : lm_e B b e = e1) : lm_w B b n L ++ [(B + n, e1)] = lm_w B b (n + 1) (va_up L n e) := by
  subst he
  apply List.ext_getElem?
  intro j
  by_cases hj : j < n
  · rw [List.getElem?_append_left (by simpa [lm_w] using hj), lm_w_at hj, lm_w_at (by omega), va_up_ne _ _ (by omega)]
  · rw [List.getElem?_append_right (by simp [lm_w]; omega)]
    by_cases hjn : j = n
    · subst hjn
      rw [lm_w_at (Nat.lt_succ_self _), va_up_self]
      simp [lm_w]
    · rw [List.getElem?_eq_none (by simp [lm_w]; omega), List.getElem?_eq_none (by simp [lm_w]; omega)]
theorem lm_w_D {B b n : Nat} {L : lm_L} : va_D (fun q => B ≤ q) (lm_w B b n L) := by
  refine ⟨fun i j p q hi hj hpq => ?_, fun k q hk => ?_⟩
  · obtain ⟨-, rfl⟩ := lm_w_inv hi
    obtain ⟨-, rfl⟩ := lm_w_inv hj
    exact Nat.add_left_cancel hpq
  · obtain ⟨-, rfl⟩ := lm_w_inv hk
    exact Nat.le_add_right _ _
/-- the locals -/
def lm_ls (B b : Nat) (lo : lm_O) : List (Nat × Value) := (List.range lo.length).filterMap (fun i => (lo[i]?.join).map (fun v => (i, lm_v B b v)))
theorem lm_ls_mem {B b : Nat} {lo : lm_O} {q : Nat × Value} : q ∈ lm_ls B b lo ↔ ∃ v, lo[q.1]? = some (some v) ∧ q.2 = lm_v B b v := by
  unfold lm_ls
  rw [List.mem_filterMap]
  constructor
  · rintro ⟨i, hi, h⟩
    cases hl : lo[i]? with
    | none => rw [hl] at h; simp at h
    | some o =>
      cases o with
      | none => rw [hl] at h; simp at h
      | some v =>
        rw [hl] at h
        simp at h
        subst h
        exact ⟨v, hl, rfl⟩
  · rintro ⟨v, h1, h2⟩
    refine ⟨q.1, ?_, ?_⟩
    · rw [List.mem_range]
      exact (List.getElem?_eq_some_iff.mp h1).1
    · rw [h1]
      simp [← h2]
def lm_H (B b nL : Nat) (lo : lm_O) (ls : Array Slot) : Prop := lo.length = nL ∧ lv_has ls nL (lm_ls B b lo) ∧ ∀ (i : Nat) (v : Value), lo[i]? = some (some v) → v.category = 1
theorem lm_H.get {B b nL : Nat} {lo : lm_O} {ls : Array Slot} (h : lm_H B b nL lo ls) {i : Nat} {v : Value} (hi : lo[i]? = some (some v)) : ls[i]? = some (.val (lm_v B b v)) :=
  h.2.1.2.2 (i, lm_v B b v) (lm_ls_mem.mpr ⟨v, hi, rfl⟩)
theorem lm_H.put {B b nL : Nat} {lo : lm_O} {ls ls1 : Array Slot} (h : lm_H B b nL lo ls) {i : Nat} (hi : i < lo.length) {v w : Value} (hc : v.category = 1) (hw : w = lm_v B b v)
    (h1 : lv_has ls1 nL ((i, w) :: (lm_ls B b lo).filter (fun q => !(q.1 == i) && !(q.1 + 1 == i && q.2.category == 2)))) : lm_H B b nL (lo.set i (some v)) ls1 := by
  subst hw
  have key : ∀ (j : Nat) (u : Value), (lo.set i (some v))[j]? = some (some u) → (j = i ∧ u = v) ∨ (j ≠ i ∧ lo[j]? = some (some u)) := by
    intro j u hj
    by_cases hji : j = i
    · subst hji
      rw [List.getElem?_set_self hi] at hj
      exact Or.inl ⟨rfl, (Option.some.inj (Option.some.inj hj)).symm⟩
    · rw [List.getElem?_set_ne (Ne.symm hji)] at hj
      exact Or.inr ⟨hji, hj⟩
  refine ⟨by rw [List.length_set]; exact h.1, ⟨h1.1, h1.2.1, fun q hq => h1.2.2 q ?_⟩, fun j u hj => ?_⟩
  · obtain ⟨u, hu, he⟩ := lm_ls_mem.mp hq
    rcases key _ _ hu with ⟨e1, e2⟩ | ⟨e1, e2⟩
    · have : q = (i, lm_v B b v) := by
        obtain ⟨a, c⟩ := q
        simp only at e1 he
        rw [e1, he, e2]
      rw [this]
      exact List.mem_cons_self
    · refine List.mem_cons_of_mem _ (List.mem_filter.mpr ⟨lm_ls_mem.mpr ⟨u, e2, he⟩, ?_⟩)
      have h9 : q.2.category = 1 := by rw [he, lm_v_cat]; exact h.2.2 _ _ e2
      simp [e1, h9]
  · rcases key _ _ hj with ⟨e1, e2⟩ | ⟨e1, e2⟩
    · rw [e2]; exact hc
    · exact h.2.2 _ _ e2
/-- a method's entry -/
def lm_ent (As : List Value) (nL : Nat) : lm_O := As.map some ++ List.replicate (nL - As.length) none
def lm_Z (ex : Bool) (B n : Nat) (H : Heap) : Prop := B + n ≤ H.size ∧ (ex = true → H.size = B + n)

/-! the invariant is kept -/
theorem sumN_up {α : Type} (f : α → Nat) (Q : Nat → α) (x : α) (z : Nat) : ∀ N, sumN (fun q => f (va_up Q z x q)) N + (if z < N then f (Q z) else 0) = sumN (fun q => f (Q q)) N + (if z < N then f x else 0)
  | 0 => by simp [sumN]
  | N + 1 => by
    have h := sumN_up f Q x z N
    simp only [sumN]
    by_cases e : N = z
    · subst e
      rw [va_up_self]
      simp only [Nat.lt_irrefl, if_false, Nat.lt_succ_self, if_true] at h ⊢
      omega
    · rw [va_up_ne _ _ e]
      have e2 : (z < N + 1) ↔ (z < N) := by omega
      simp only [e2]
      omega
theorem i32_ac (a b c : Int32) : a + b + c = a + c + b := by rw [Int32.add_assoc, Int32.add_comm b c, ← Int32.add_assoc]
theorem sumI_up {α : Type} (f : α → Int32) (Q : Nat → α) (x : α) (z : Nat) : ∀ N, sumI (fun q => f (va_up Q z x q)) N + (if z < N then f (Q z) else 0) = sumI (fun q => f (Q q)) N + (if z < N then f x else 0)
  | 0 => by simp [sumI]
  | N + 1 => by
    have h := sumI_up f Q x z N
    simp only [sumI]
    by_cases e : N = z
    · subst e
      rw [va_up_self]
      simp only [Nat.lt_irrefl, if_false, Nat.lt_succ_self, if_true] at h ⊢
      rw [Int32.add_zero, Int32.add_zero] at h
      rw [h, i32_ac]
    · rw [va_up_ne _ _ e]
      have e2 : (z < N + 1) ↔ (z < N) := by omega
      simp only [e2]
      rw [i32_ac, h, i32_ac]
theorem i32_cancel {a b c : Int32} (h : a + c = b + c) : a = b := by
  have := congrArg (fun t => t - c) h
  simpa using this
section INVP
variable {K : Nat} {σ : St}
theorem INV_upd {K1 : Nat} (h : INV K σ) {z : Nat} (hz : z < 12) {x : Qs} {R' : Nat → List Nat} {g' : Nat → Int32} (hK : K ≤ K1) (hx : IQ K1 R' z x) (hm : ∀ q, q < 12 → q ≠ z → 0 < (qI (σ.1 q)).length → q ∈ R' (qk (σ.1 q))) (hR : ∀ c, c < 4 → IR (va_up σ.1 z x) c (R' c)) (h3 : sumN (fun q => qp (σ.1 q)) 12 + qp x ≤ 96 + qp (σ.1 z)) (h4 : sumN (fun q => (qI (σ.1 q)).length) 12 + (qI x).length ≤ 96 + (qI (σ.1 z)).length) (h5 : g' 1 + q2 (σ.1 z) = σ.2.2 1 + q2 x) (h6 : g' 2 + q1 (σ.1 z) = σ.2.2 2 + q1 x) : INV K1 (va_up σ.1 z x, R', g') := by
  obtain ⟨a1, a2, a3, a4, a5, a6⟩ := h
  refine ⟨?_, hR, ?_, ?_, ?_, ?_⟩
  · intro q hq
    show IQ K1 R' q (va_up σ.1 z x q)
    by_cases e : q = z
    · subst e; rw [va_up_self]; exact hx
    · rw [va_up_ne _ _ e]
      obtain ⟨b1, b2, b3, b4, b5, b6, b7, b8, b9⟩ := a1 q hq
      exact ⟨b1, b2, b3, b4, b5, by omega, b7, b8, hm q hq e⟩
  · have := sumN_up qp σ.1 x z 12
    rw [if_pos hz, if_pos hz] at this
    show sumN (fun q => qp (va_up σ.1 z x q)) 12 ≤ 96
    omega
  · have := sumN_up (fun x => (qI x).length) σ.1 x z 12
    rw [if_pos hz, if_pos hz] at this
    show sumN (fun q => (qI (va_up σ.1 z x q)).length) 12 ≤ 96
    omega
  · have := sumI_up q2 σ.1 x z 12
    rw [if_pos hz, if_pos hz] at this
    show g' 1 = sumI (fun q => q2 (va_up σ.1 z x q)) 12
    rw [a5, ← this] at h5
    exact i32_cancel h5
  · have := sumI_up q1 σ.1 x z 12
    rw [if_pos hz, if_pos hz] at this
    show g' 2 = sumI (fun q => q1 (va_up σ.1 z x q)) 12
    rw [a6, ← this] at h6
    exact i32_cancel h6
theorem IR.keep {Q : Nat → Qs} {c z : Nat} {l : List Nat} {x : Qs} (h : IR Q c l) (hx : z ∈ l → qk x = c ∧ 0 < (qI x).length) : IR (va_up Q z x) c l := by
  refine ⟨h.1, fun q hq => ?_⟩
  by_cases e : q = z
  · subst e; rw [va_up_self]; exact ⟨(h.2 q hq).1, hx hq⟩
  · rw [va_up_ne _ _ e]; exact h.2 q hq
theorem IR.snoc {Q : Nat → Qs} {c z : Nat} {l : List Nat} {x : Qs} (h : IR Q c l) (hn : z ∉ l) (hz : z < 12) (hx : qk x = c ∧ 0 < (qI x).length) : IR (va_up Q z x) c (l ++ [z]) := by
  refine ⟨?_, fun q hq => ?_⟩
  · rw [List.nodup_append]
    refine ⟨h.1, List.nodup_cons.mpr ⟨by simp, List.nodup_nil⟩, fun a ha b hb => ?_⟩
    simp at hb
    subst hb
    exact fun e => hn (e ▸ ha)
  · rcases List.mem_append.mp hq with h9 | h9
    · have e : q ≠ z := fun e => hn (e ▸ h9)
      rw [va_up_ne _ _ e]; exact h.2 q h9
    · simp at h9
      subst h9
      rw [va_up_self]; exact ⟨hz, hx⟩
theorem IR.erase {Q : Nat → Qs} {c z : Nat} {l : List Nat} {x : Qs} (h : IR Q c l) : IR (va_up Q z x) c (l.erase z) := by
  refine ⟨h.1.erase z, fun q hq => ?_⟩
  have h2 := (List.Nodup.mem_erase_iff h.1).mp hq
  rw [va_up_ne _ _ h2.1]
  exact h.2 q h2.2
theorem INV.notin (h : INV K σ) {q c : Nat} (hc : c < 4) (hm : (qI (σ.1 q)).length = 0 ∨ qk (σ.1 q) ≠ c) : q ∉ σ.2.1 c := by
  intro hx
  have := (h.2.1 c hc).2 q hx
  rcases hm with hm | hm
  · omega
  · exact hm this.2.1
theorem INV_qu (h : INV K σ) {q i j : Nat} (hq : q < 12) (hi : i ≤ 96) (hj : j ≤ 96) (hs : sumN (fun q => qp (σ.1 q)) 12 - qp (σ.1 q) + j ≤ 96) : INV K (quS σ q i j) := by
  obtain ⟨b1, b2, b3, b4, b5, b6, b7, b8, b9⟩ := h.1 q hq
  have := sumN_mem (f := fun q => qp (σ.1 q)) hq
  exact INV_upd (R' := σ.2.1) (g' := σ.2.2) h hq (Nat.le_refl K) ⟨b1, b2, b3, hi, hj, b6, b7, b8, b9⟩ (fun p hp _ hl => (h.1 p hp).2.2.2.2.2.2.2.2 hl) (fun c hc => (h.2.1 c hc).keep (fun hm => ((h.2.1 c hc).2 q hm).2)) (by show _ + j ≤ _; omega) (by show _ + (qI (σ.1 q)).length ≤ _; have := h.2.2.2.1; omega) rfl rfl
/-- the queue z leaves its ring -/
theorem INV_leave {K1 : Nat} (h : INV K σ) {z : Nat} (hz : z < 12) {x : Qs} {g' : Nat → Int32} (hK : K ≤ K1) (hx : qk x = qk (σ.1 z) ∧ 0 < qu x ∧ qu x ≤ 1000 ∧ qq x ≤ 96 ∧ qp x = qp (σ.1 z) ∧ qI x = [] ∧ qd x = 0 ∧ qt x = false) (h5 : g' 1 + q2 (σ.1 z) = σ.2.2 1 + q2 x) (h6 : g' 2 + q1 (σ.1 z) = σ.2.2 2 + q1 x) : INV K1 (va_up σ.1 z x, lvR σ.1 σ.2.1 z, g') := by
  obtain ⟨b1, b2, b3, b4, b5, b6, b7, b8, b9⟩ := h.1 z hz
  obtain ⟨c1, c2, c3, c4, c5, c6, c7, c8⟩ := hx
  have hl0 : (qI x).length = 0 := by rw [c6]; rfl
  refine INV_upd h hz hK ⟨by omega, c2, c3, c4, by omega, by omega, fun y hy => ?_, fun _ => ⟨c7, c8⟩, fun h9 => by omega⟩ (fun p hp hne hl => ?_) (fun c hc => ?_) (by have := h.2.2.1; omega) (by have := h.2.2.2.1; omega) h5 h6
  · rw [c6] at hy; cases hy
  · have hm := (h.1 p hp).2.2.2.2.2.2.2.2 hl
    unfold lvR
    by_cases e : qk (σ.1 p) = qk (σ.1 z)
    · rw [e, va_up_self]
      rw [e] at hm
      exact (List.mem_erase_of_ne hne).mpr hm
    · rw [va_up_ne _ _ e]; exact hm
  · unfold lvR
    by_cases e : c = qk (σ.1 z)
    · subst e; rw [va_up_self]; exact (h.2.1 _ hc).erase
    · rw [va_up_ne _ _ e]
      exact (h.2.1 c hc).keep (fun hm => absurd ((h.2.1 c hc).2 z hm).2.1.symm e)
/-- the queue z stays where it is -/
theorem INV_stay {K1 : Nat} (h : INV K σ) {z : Nat} (hz : z < 12) {x : Qs} {g' : Nat → Int32} (hK : K ≤ K1) (hx : qk x = qk (σ.1 z) ∧ 0 < qu x ∧ qu x ≤ 1000 ∧ qq x ≤ 96 ∧ qp x = qp (σ.1 z) ∧ qd x ≤ 2000 + 1000 * K1 ∧ (∀ y ∈ qI x, 0 < y.2 ∧ y.2 ≤ 2000) ∧ 0 < (qI x).length) (h0 : 0 < (qI (σ.1 z)).length) (h4 : sumN (fun q => (qI (σ.1 q)).length) 12 + (qI x).length ≤ 96 + (qI (σ.1 z)).length) (h5 : g' 1 + q2 (σ.1 z) = σ.2.2 1 + q2 x) (h6 : g' 2 + q1 (σ.1 z) = σ.2.2 2 + q1 x) : INV K1 (va_up σ.1 z x, σ.2.1, g') := by
  obtain ⟨b1, b2, b3, b4, b5, b6, b7, b8, b9⟩ := h.1 z hz
  obtain ⟨c1, c2, c3, c4, c5, c6, c7, c8⟩ := hx
  refine INV_upd h hz hK ⟨by omega, c2, c3, c4, by omega, c6, c7, fun h9 => by omega, fun _ => by rw [c1]; exact b9 h0⟩ (fun p hp hne hl => (h.1 p hp).2.2.2.2.2.2.2.2 hl) (fun c hc => (h.2.1 c hc).keep (fun hm => ⟨c1.trans ((h.2.1 c hc).2 z hm).2.1, c8⟩)) (by have := h.2.2.1; omega) h4 h5 h6
theorem INV_em (h : INV K σ) {q : Nat} (hq : q < 12) : INV K (emS σ q) := by
  obtain ⟨b1, b2, b3, b4, b5, b6, b7, b8, b9⟩ := h.1 q hq
  unfold emS
  split
  · exact INV_leave h hq (Nat.le_refl K) ⟨rfl, b2, b3, b4, rfl, rfl, rfl, rfl⟩ rfl rfl
  · exact h
theorem INV_los (h : INV K σ) {q : Nat} (hq : q < 12) (hl : 0 < (qI (σ.1 q)).length) : INV K (losS σ q) := by
  obtain ⟨b1, b2, b3, b4, b5, b6, b7, b8, b9⟩ := h.1 q hq
  have e9 : σ.2.2 2 + 1 + q1 (σ.1 q) = σ.2.2 2 + (q1 (σ.1 q) + 1) := by rw [Int32.add_assoc, Int32.add_comm 1]
  unfold losS
  split
  · rename_i e
    refine INV_leave h hq (Nat.le_refl K) ⟨rfl, b2, b3, b4, rfl, List.length_eq_zero_iff.mp e, rfl, rfl⟩ rfl e9
  · rename_i e
    refine INV_stay h hq (Nat.le_refl K) ⟨rfl, b2, b3, b4, rfl, b6, fun y hy => b7 y ((List.dropLast_sublist _).subset hy), Nat.pos_of_ne_zero e⟩ hl ?_ rfl e9
    show _ + (qI (σ.1 q)).dropLast.length ≤ _
    rw [List.length_dropLast]
    have := h.2.2.2.1
    omega
theorem INV_add (h : INV K σ) {q k : Nat} {w : Int32} (hq : q < 12) (hk : 0 < k ∧ k ≤ 2000) (hs : sumN (fun q => (qI (σ.1 q)).length) 12 < 96) : INV K (addS σ q w k) := by
  obtain ⟨b1, b2, b3, b4, b5, b6, b7, b8, b9⟩ := h.1 q hq
  have hlen : (qI (adq (σ.1 q) w k)).length = (qI (σ.1 q)).length + 1 := by show (qI (σ.1 q) ++ [(w, k)]).length = _; simp
  have hc7 : ∀ y ∈ qI (adq (σ.1 q) w k), 0 < y.2 ∧ y.2 ≤ 2000 := by
    intro y hy
    rcases List.mem_append.mp (show y ∈ qI (σ.1 q) ++ [(w, k)] from hy) with h9 | h9
    · exact b7 y h9
    · simp at h9; subst h9; exact hk
  unfold addS adR
  by_cases e : (qI (σ.1 q)).length = 0
  · rw [if_pos e]
    refine INV_upd h hq (Nat.le_refl K) ⟨b1, b2, b3, b4, b5, b6, hc7, fun h9 => by omega, fun _ => ?_⟩ (fun p hp hne hl => ?_) (fun c hc => ?_) (by have := h.2.2.1; show _ + qp (σ.1 q) ≤ _; omega) (by omega) rfl rfl
    · show q ∈ va_up σ.2.1 (qk (σ.1 q)) _ (qk (σ.1 q))
      rw [va_up_self]
      simp
    · have hm := (h.1 p hp).2.2.2.2.2.2.2.2 hl
      by_cases e2 : qk (σ.1 p) = qk (σ.1 q)
      · rw [e2, va_up_self]
        rw [e2] at hm
        exact List.mem_append_left _ hm
      · rw [va_up_ne _ _ e2]; exact hm
    · by_cases e2 : c = qk (σ.1 q)
      · subst e2; rw [va_up_self]
        exact (h.2.1 _ hc).snoc (h.notin hc (Or.inl e)) hq ⟨rfl, by omega⟩
      · rw [va_up_ne _ _ e2]
        exact (h.2.1 c hc).keep (fun hm => absurd ((h.2.1 c hc).2 q hm).2.1.symm e2)
  · rw [if_neg e]
    exact INV_stay h hq (Nat.le_refl K) ⟨rfl, b2, b3, b4, rfl, b6, hc7, by omega⟩ (by omega) (by omega) rfl rfl
theorem INV_kd (h : INV K σ) {q j u : Nat} (hq : q < 12) (hj : j < 4) (hu : 0 < u) (hu2 : u ≤ 1000) : INV K (kdS σ q j u) := by
  obtain ⟨b1, b2, b3, b4, b5, b6, b7, b8, b9⟩ := h.1 q hq
  have h3 : sumN (fun q => qp (σ.1 q)) 12 + qp (σ.1 q) ≤ 96 + qp (σ.1 q) := by have := h.2.2.1; omega
  have h4 : sumN (fun q => (qI (σ.1 q)).length) 12 + (qI (σ.1 q)).length ≤ 96 + (qI (σ.1 q)).length := by have := h.2.2.2.1; omega
  unfold kdS
  split
  · exact INV_upd (R' := σ.2.1) (g' := σ.2.2) h hq (Nat.le_refl K) ⟨b1, hu, hu2, b4, b5, b6, b7, b8, b9⟩ (fun p hp _ hl => (h.1 p hp).2.2.2.2.2.2.2.2 hl) (fun c hc => (h.2.1 c hc).keep (fun hm => ((h.2.1 c hc).2 q hm).2)) h3 h4 rfl rfl
  · rename_i ek
    split
    · rename_i el
      refine INV_upd h hq (Nat.le_refl K) ⟨hj, hu, hu2, b4, b5, b6, b7, fun h9 => absurd h9 (Nat.ne_of_gt el), fun _ => ?_⟩ (fun p hp hne hl => ?_) (fun c hc => ?_) h3 h4 rfl rfl
      · show q ∈ va_up _ j _ j
        rw [va_up_self]
        simp
      · have hm := (h.1 p hp).2.2.2.2.2.2.2.2 hl
        by_cases e1 : qk (σ.1 p) = j
        · rw [e1, va_up_self]
          rw [e1] at hm
          exact List.mem_append_left _ hm
        · rw [va_up_ne _ _ e1]
          by_cases e2 : qk (σ.1 p) = qk (σ.1 q)
          · rw [e2, va_up_self]
            rw [e2] at hm
            exact (List.mem_erase_of_ne hne).mpr hm
          · rw [va_up_ne _ _ e2]; exact hm
      · by_cases e1 : c = j
        · subst e1; rw [va_up_self]
          exact (h.2.1 _ hc).snoc (h.notin hc (Or.inr ek)) hq ⟨rfl, el⟩
        · rw [va_up_ne _ _ e1]
          by_cases e2 : c = qk (σ.1 q)
          · subst e2; rw [va_up_self]; exact (h.2.1 _ hc).erase
          · rw [va_up_ne _ _ e2]
            exact (h.2.1 c hc).keep (fun hm => absurd ((h.2.1 c hc).2 q hm).2.1.symm e2)
    · rename_i el
      refine INV_upd (R' := σ.2.1) (g' := σ.2.2) h hq (Nat.le_refl K) ⟨hj, hu, hu2, b4, b5, b6, b7, fun h9 => ⟨(b8 h9).1, rfl⟩, fun h9 => absurd h9 el⟩ (fun p hp _ hl => (h.1 p hp).2.2.2.2.2.2.2.2 hl) (fun c hc => (h.2.1 c hc).keep (fun hm => absurd ((h.2.1 c hc).2 q hm).2.2 el)) h3 h4 rfl rfl
/-! push: who gives way has an item -/
theorem grd_max (Q : Nat → Qs) : ∀ k i, i ≤ k → exc Q i ≤ exc Q (grd Q k)
  | 0, i, h => by rw [show i = 0 by omega]; exact Int.le_refl _
  | k + 1, i, h => by
    have h1 := grd_max Q k
    unfold grd
    split
    · rename_i e
      rcases Nat.lt_succ_iff_lt_or_eq.mp (Nat.lt_succ_of_le h) with h2 | h2
      · have := h1 i (by omega); omega
      · rw [h2]; exact Int.le_refl _
    · rename_i e
      rcases Nat.lt_succ_iff_lt_or_eq.mp (Nat.lt_succ_of_le h) with h2 | h2
      · exact h1 i (by omega)
      · rw [h2]; omega
theorem sumZ_exc (Q : Nat → Qs) : ∀ k, (∀ i, i < k → exc Q i ≤ 0) → sumZ (fun q => min (exc Q q) 0) k = (sumN (fun q => (qI (Q q)).length) k : Nat) - (sumN (fun q => qp (Q q)) k : Nat)
  | 0, _ => by simp [sumZ, sumN]
  | k + 1, h => by
    have := sumZ_exc Q k (fun i hi => h i (by omega))
    have h2 := h k (by omega)
    simp only [sumZ, sumN]
    rw [this, show min (exc Q k) 0 = exc Q k by omega]
    unfold exc
    omega
theorem sumZ_np {f : Nat → Int} : ∀ {N : Nat}, (∀ i, i < N → f i ≤ 0) → sumZ f N ≤ 0
  | 0, _ => by simp [sumZ]
  | N + 1, h => by
    have := sumZ_np (f := f) (N := N) (fun i hi => h i (by omega))
    have := h N (by omega)
    simp only [sumZ]
    omega
theorem sumZ_mem {f : Nat → Int} : ∀ {N q : Nat}, (∀ i, i < N → f i ≤ 0) → q < N → sumZ f N ≤ f q
  | 0, q, _, h => by omega
  | N + 1, q, h, hq => by
    have h1 := h N (by omega)
    have h2 := sumZ_np (f := f) (N := N) (fun i hi => h i (by omega))
    simp only [sumZ]
    rcases Nat.lt_succ_iff_lt_or_eq.mp hq with h3 | h3
    · have := sumZ_mem (f := f) (fun i hi => h i (by omega)) h3
      omega
    · subst h3; omega
theorem lose_ok (h : INV K σ) {q : Nat} (hq : q < 12) (hr : room σ.1 q = false) (he : ¬ exc σ.1 (grd σ.1 11) - exc σ.1 q < 2) : grd σ.1 11 ≠ q ∧ 0 < (qI (σ.1 (grd σ.1 11))).length := by
  refine ⟨fun e => ?_, ?_⟩
  · rw [e] at he; omega
  · rcases Nat.eq_zero_or_pos (qI (σ.1 (grd σ.1 11))).length with h0 | h0
    · exfalso
      have hg : exc σ.1 (grd σ.1 11) ≤ 0 := by unfold exc; omega
      have hall : ∀ i, i < 12 → exc σ.1 i ≤ 0 := fun i hi => by have := grd_max σ.1 11 i (by omega); omega
      have hall2 : ∀ i, i < 12 → (fun q => min (exc σ.1 q) 0) i ≤ 0 := fun i hi => by show min _ _ ≤ _; omega
      have e1 := sumZ_exc σ.1 12 hall
      have e2 := sumZ_mem hall2 hq
      have e3 : min (exc σ.1 q) 0 = exc σ.1 q := by omega
      have hk := h.2.2.1
      unfold room at hr
      have hr := of_decide_eq_false hr
      refine hr ⟨?_, Or.inl (by omega)⟩
      unfold fre
      simp only [e3] at e2
      omega
    · exact h0
theorem los_len {c ls : Nat} : ((losS σ ls).2.1 c).length ≤ (σ.2.1 c).length := by
  show ((if _ then _ else _ : Nat → List Nat) c).length ≤ _
  split
  · unfold lvR
    by_cases e : c = qk (σ.1 ls)
    · subst e; rw [va_up_self, List.length_erase]; split <;> omega
    · rw [va_up_ne _ _ e]; exact Nat.le_refl _
  · exact Nat.le_refl _
theorem INV_psh (h : INV K σ) {q k : Nat} {w : Int32} (hq : q < 12) (hk : 0 < k ∧ k ≤ 2000) : INV K (psh σ q w k).1 := by
  unfold psh
  split
  · exact ⟨h.1, h.2.1, h.2.2.1, h.2.2.2.1, h.2.2.2.2.1, h.2.2.2.2.2⟩
  · split
    · rename_i hr
      refine INV_add h hq hk ?_
      have := (of_decide_eq_true hr).1
      unfold fre at this
      omega
    · split
      · exact ⟨h.1, h.2.1, h.2.2.1, h.2.2.2.1, h.2.2.2.2.1, h.2.2.2.2.2⟩
      · rename_i hr he
        have hr : room σ.1 q = false := by simpa using hr
        obtain ⟨h1, h2⟩ := lose_ok h hq hr he
        have hg : grd σ.1 11 < 12 := by have := grd_le σ.1 11; omega
        refine INV_add (INV_los h hg h2) hq hk ?_
        have := sumN_up (fun x => (qI x).length) σ.1 ((losS σ (grd σ.1 11)).1 (grd σ.1 11)) (grd σ.1 11) 12
        rw [if_pos hg, if_pos hg] at this
        have e1 : (losS σ (grd σ.1 11)).1 = va_up σ.1 (grd σ.1 11) ((losS σ (grd σ.1 11)).1 (grd σ.1 11)) := by
          show va_up σ.1 (grd σ.1 11) _ = va_up σ.1 (grd σ.1 11) (va_up σ.1 (grd σ.1 11) _ (grd σ.1 11))
          rw [va_up_self]
        rw [← e1] at this
        have e2 : (qI ((losS σ (grd σ.1 11)).1 (grd σ.1 11))).length = (qI (σ.1 (grd σ.1 11))).length - 1 := by
          show (qI (va_up σ.1 (grd σ.1 11) (if _ then _ else _) (grd σ.1 11))).length = _
          rw [va_up_self]
          split
          · show (qI (σ.1 (grd σ.1 11))).dropLast.length = _
            rw [List.length_dropLast]
          · show (qI (σ.1 (grd σ.1 11))).dropLast.length = _
            rw [List.length_dropLast]
        have h3 := h.2.2.2.1
        have h4 := sumN_mem (f := fun q => (qI (σ.1 q)).length) hg
        skip
        omega
end INVP

/-! the plain state: queues, rings, numbers; what a call makes of it; what always holds of it -/
abbrev St : Type := (Nat → Qs) × (Nat → List Nat) × (Nat → Int32)
def CS (ids : Nat → ClassId) (n : Nat) (σ : St) (L0 L : lm_L) : Prop := CW ids n σ.1 σ.2.1 σ.2.2 L0 L
def addS (σ : St) (q : Nat) (w : Int32) (k : Nat) : St := (va_up σ.1 q (adq (σ.1 q) w k), adR σ.1 σ.2.1 q, σ.2.2)
def losS (σ : St) (q : Nat) : St := (va_up σ.1 q (if (qI (σ.1 q)).dropLast.length = 0 then lvq (loq (σ.1 q) (qI (σ.1 q)).dropLast) else loq (σ.1 q) (qI (σ.1 q)).dropLast), (if (qI (σ.1 q)).dropLast.length = 0 then lvR σ.1 σ.2.1 q else σ.2.1), upd σ.2.2 2 (σ.2.2 2 + 1))
def psh (σ : St) (q : Nat) (w : Int32) (k : Nat) : St × Int32 :=
  if qq (σ.1 q) ≤ (qI (σ.1 q)).length then ((σ.1, σ.2.1, upd σ.2.2 3 (σ.2.2 3 + 1)), -2)
  else if room σ.1 q = true then (addS σ q w k, 100)
  else if exc σ.1 (grd σ.1 11) - exc σ.1 q < 2 then ((σ.1, σ.2.1, upd σ.2.2 4 (σ.2.2 4 + 1)), -3)
  else (addS (losS σ (grd σ.1 11)) q w k, nI (grd σ.1 11))
def kdS (σ : St) (q j u : Nat) : St := if qk (σ.1 q) = j then (va_up σ.1 q (sU (σ.1 q) u), σ.2) else
  (va_up σ.1 q (sK (sT (sU (σ.1 q) u) false) j), (if 0 < (qI (σ.1 q)).length then va_up (va_up σ.2.1 (qk (σ.1 q)) ((σ.2.1 (qk (σ.1 q))).erase q)) j (σ.2.1 j ++ [q]) else σ.2.1), σ.2.2)
def quS (σ : St) (q i j : Nat) : St := (va_up σ.1 q (sP (sO (σ.1 q) i) j), σ.2)
def emS (σ : St) (q : Nat) : St := if 0 < (qI (σ.1 q)).length then (va_up σ.1 q (lvq (sI (σ.1 q) [])), lvR σ.1 σ.2.1 q, σ.2.2) else σ
def bfS (σ : St) (c p z : Nat) : St := (btf σ.1 (σ.2.1 c) p (lkx (σ.1 z)) (σ.2.1 c).length, va_up σ.2.1 c ((σ.2.1 c).drop p ++ (σ.2.1 c).take p), σ.2.2)
def sfS (σ : St) (q : Nat) : St := match qI (σ.1 q) with
  | [] => σ
  | y :: t => (va_up σ.1 q (if t.length = 0 then lvq (srv (σ.1 q) y t) else srv (σ.1 q) y t), (if t.length = 0 then lvR σ.1 σ.2.1 q else σ.2.1), upd (upd σ.2.2 0 y.1) 1 (σ.2.2 1 + 1))
def svS (σ : St) (c p z : Nat) : St := sfS (bfS σ c p z) z
def fc (x : Qs) : Nat := match qI x with
  | [] => 0
  | y :: _ => y.2
/-- the queue z, at the place p of the ring c, is served next -/
def FP (σ : St) (c p z : Nat) : Prop := c < 4 ∧ 0 < (σ.2.1 c).length ∧ (∀ d, d < c → (σ.2.1 d).length = 0) ∧ PN σ.1 (σ.2.1 c) (σ.2.1 c).length p z
def NQ (σ : St) : Prop := ∀ c, c < 4 → (σ.2.1 c).length = 0
def SUR : Nat → St → Nat → St → Nat → Prop
  | 0, σ, _, σ', s => σ' = σ ∧ s = 0
  | f + 1, σ, rest, σ', s => (NQ σ ∧ σ' = σ ∧ s = 0) ∨ ∃ c p z, FP σ c p z ∧ ((rest < fc (σ.1 z) ∧ σ' = σ ∧ s = 0) ∨ (fc (σ.1 z) ≤ rest ∧ ∃ s1, s = s1 + 1 ∧ SUR f (svS σ c p z) (rest - fc (σ.1 z)) σ' s1))
def tldv (σ : St) (q i : Nat) : Int32 := match i with
  | 0 => nI (qI (σ.1 q)).length
  | 1 => nI (qk (σ.1 q))
  | 2 => nI (qu (σ.1 q))
  | 3 => nI (qq (σ.1 q))
  | 4 => nI (qp (σ.1 q))
  | 5 => nI (qd (σ.1 q))
  | 6 => bI (qt (σ.1 q))
  | 7 => if q ∈ σ.2.1 (qk (σ.1 q)) then nI ((σ.2.1 (qk (σ.1 q))).idxOf q) else -1
  | 8 => q0 (σ.1 q)
  | 9 => q1 (σ.1 q)
  | 10 => q2 (σ.1 q)
  | 11 => q3 (σ.1 q)
  | _ => nI (csum (qI (σ.1 q)))
def allv (σ : St) (i : Nat) : Int32 := match i with
  | 0 => iI (fre σ.1)
  | 1 => iI (opn σ.1 12)
  | 2 => nI (sumN (fun q => qp (σ.1 q)) 12)
  | 3 => σ.2.2 1
  | 4 => σ.2.2 2
  | 5 => σ.2.2 3
  | _ => σ.2.2 4
def okQ (Q : Nat → Qs) (z a b : Int32) (q i j : Nat) : Prop := (q < 12 ∧ z = nI q) ∧ (i ≤ 96 ∧ a = nI i) ∧ (j ≤ 96 ∧ b = nI j) ∧ sumN (fun q => qp (Q q)) 12 - qp (Q q) + j ≤ 96
def okK (z a b : Int32) (q j u : Nat) : Prop := (q < 12 ∧ z = nI q) ∧ (j < 4 ∧ a = nI j) ∧ (0 < u ∧ u ≤ 1000 ∧ b = nI u)
def okP (z c : Int32) (q k : Nat) : Prop := (q < 12 ∧ z = nI q) ∧ (0 < k ∧ k ≤ 2000 ∧ c = nI k)
def okN (N : Nat) (z : Int32) (q : Nat) : Prop := q < N ∧ z = nI q
def sumI (f : Nat → Int32) : Nat → Int32
  | 0 => 0
  | k + 1 => sumI f k + f k
def IQ (K : Nat) (R : Nat → List Nat) (q : Nat) (x : Qs) : Prop := qk x < 4 ∧ 0 < qu x ∧ qu x ≤ 1000 ∧ qq x ≤ 96 ∧ qp x ≤ 96 ∧ qd x ≤ 2000 + 1000 * K ∧ (∀ y ∈ qI x, 0 < y.2 ∧ y.2 ≤ 2000) ∧ ((qI x).length = 0 → qd x = 0 ∧ qt x = false) ∧ (0 < (qI x).length → q ∈ R (qk x))
def IR (Q : Nat → Qs) (c : Nat) (l : List Nat) : Prop := l.Nodup ∧ ∀ q ∈ l, q < 12 ∧ qk (Q q) = c ∧ 0 < (qI (Q q)).length
def INV (K : Nat) (σ : St) : Prop := (∀ q, q < 12 → IQ K σ.2.1 q (σ.1 q)) ∧ (∀ c, c < 4 → IR σ.1 c (σ.2.1 c)) ∧ sumN (fun q => qp (σ.1 q)) 12 ≤ 96 ∧ sumN (fun q => (qI (σ.1 q)).length) 12 ≤ 96 ∧ σ.2.2 1 = sumI (fun q => q2 (σ.1 q)) 12 ∧ σ.2.2 2 = sumI (fun q => q1 (σ.1 q)) 12
theorem nd_len : ∀ (n : Nat) (l : List Nat), l.Nodup → (∀ x ∈ l, x < n) → l.length ≤ n
  | 0, l, _, h => by
    cases l with
    | nil => exact Nat.le_refl _
    | cons a l => exact absurd (h a List.mem_cons_self) (by omega)
  | n + 1, l, hn, h => by
    have h1 := nd_len n (l.erase n) (hn.erase n) (fun x hx => by
      have h2 := (List.Nodup.mem_erase_iff hn).mp hx
      have := h x h2.2
      have := h2.1
      omega)
    rw [List.length_erase] at h1
    split at h1 <;> omega
theorem nd_len1 {l : List Nat} {q n : Nat} (hn : l.Nodup) (h : ∀ x ∈ l, x < n) (hq : q < n) (hm : q ∉ l) : l.length < n := by
  have := nd_len n (q :: l) (List.nodup_cons.mpr ⟨hm, hn⟩) (fun x hx => by
    rcases List.mem_cons.mp hx with h9 | h9
    · rw [h9]; exact hq
    · exact h x h9)
  exact this
theorem fc_mem {x : Qs} (h : 0 < (qI x).length) : ∃ y t, qI x = y :: t ∧ fc x = y.2 := by
  unfold fc
  cases hx : qI x with
  | nil => rw [hx] at h; simp at h
  | cons y t => exact ⟨y, t, rfl, rfl⟩
section INVS
variable {K : Nat} {σ : St}
theorem INV.kp (h : INV K σ) : KP σ.1 := fun q hq => (h.1 q hq).2.2.2.2.1
theorem INV.lg (h : INV K σ) (hK : K ≤ 2 ^ 17) {c : Nat} (hc : c < 4) : LG σ.1 (σ.2.1 c) := by
  intro z hz
  obtain ⟨h1, h2, h3⟩ := (h.2.1 c hc).2 z hz
  obtain ⟨-, a2, a3, -, -, a6, a7, -, -⟩ := h.1 z h1
  obtain ⟨y, t, hy, -⟩ := fc_mem h3
  have := (a7 y (by rw [hy]; exact List.mem_cons_self)).2
  exact ⟨h1, ⟨y, t, hy, by omega⟩, by omega, a2, by omega⟩
theorem INV.ring (h : INV K σ) {q c : Nat} (hq : q < 12) (hc : c < 4) (hm : (qI (σ.1 q)).length = 0 ∨ qk (σ.1 q) ≠ c) : (σ.2.1 c).length < 12 := by
  obtain ⟨h1, h2⟩ := h.2.1 c hc
  refine nd_len1 h1 (fun x hx => (h2 x hx).1) hq (fun hx => ?_)
  have := h2 q hx
  rcases hm with hm | hm
  · omega
  · exact hm this.2.1
end INVS
theorem lk_enough {t : Bool} {d u p : Nat} (hu : 0 < u) : p ≤ (if t then d else d + u) + lkv t d u p * u := by
  unfold lkv
  generalize (if t = true then d else d + u) = X
  have h1 := Nat.div_add_mod (p - X + (u - 1)) u
  have h2 := Nat.mod_lt (p - X + (u - 1)) hu
  rw [Nat.mul_comm] at h1
  omega
theorem tkt_vlk {x : Qs} {k : Nat} : qd (tkt (vlk x k)) = (if qt x then qd x else qd x + qu x) + k * qu x := by
  unfold vlk
  by_cases hk : k = 0
  · subst hk
    rw [if_pos rfl]
    unfold tkt
    cases qt x <;> simp
  · rw [if_neg hk]
    unfold tkt
    obtain ⟨j, rfl⟩ : ∃ j, k = j + 1 := ⟨k - 1, by omega⟩
    cases qt x
    · simp [qd, qt, qu, Nat.add_mul]; omega
    · simp [qd, qt, qu, Nat.add_mul]; omega
theorem lkx_enough {x : Qs} (hu : 0 < qu x) : fc x ≤ qd (tkt (vlk x (lkx x))) := by
  rw [tkt_vlk]
  unfold fc lkx
  cases hI : qI x with
  | nil => exact Nat.zero_le _
  | cons y t => exact lk_enough hu

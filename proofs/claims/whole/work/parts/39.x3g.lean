/-- the rows in which the turns are kept -/
def WAt (ids : Nat → ClassId) (A : Nat → Nat → Int32) (L : lm_L) : Prop := ∀ j, 15 ≤ j → j < 18 → L (j + 48) = ia (mcl ids j) (mlen j) (A j)
def WA (ids : Nat → ClassId) (L : lm_L) : Prop := ∃ A, WAt ids A L
def SVD (Q : Nat → Qs) (R : Nat → List Nat) (A : Nat → Nat → Int32) : Prop := (∀ q, q < 12 → A 15 q = nI (qd (Q q)) ∧ A 16 q = bI (qt (Q q))) ∧ ∀ c, c < 4 → ∀ k x, (R c)[k]? = some x → A 17 (12 * c + k) = nI x
def MW (ids : Nat → ClassId) (n : Nat) (Q : Nat → Qs) (R : Nat → List Nat) (g : Nat → Int32) (t : Int32) (L0 L : lm_L) : Prop := MS ids n Q R g t L L ∧ WA ids L ∧ ∀ k, (k < 47 ∨ 66 ≤ k) → L k = L0 k
theorem MV.cg {Q : Nat → Qs} {R : Nat → List Nat} {F F2 : Nat → Nat → Int32} (hV : MV Q R F) (h : ∀ j, j < 15 → F2 j = F j) : MV Q R F2 := by
  refine ⟨fun q hq => ?_, fun c hc => ?_⟩
  · obtain ⟨a1, a2, a3⟩ := hV.1 q hq
    refine ⟨fun j v h7 h8 hj => ?_, a2, fun k y hk => ?_⟩
    · have hj2 : j < 13 := (List.getElem?_eq_some_iff.mp hj).1
      rw [h j (by omega)]; exact a1 j v h7 h8 hj
    · rw [h 7 (by omega), h 8 (by omega)]; exact a3 k y hk
  · obtain ⟨a1, a2, a3, a4⟩ := hV.2 c hc
    refine ⟨?_, a2, a3, fun k x hk => ?_⟩
    · rw [h 14 (by omega)]; exact a1
    · rw [h 13 (by omega)]; exact a4 k x hk
section KTB
variable {ids : Nat → ClassId} {n : Nat} {Q Q1 : Nat → Qs} {R R1 : Nat → List Nat} {g : Nat → Int32} {t : Int32} {L0 L1 L : lm_L} {A : Nat → Nat → Int32} {post : lm_Q} {postX : lm_X}
theorem MS.up (hM : MS ids n Q R g t L0 L) (hA : WAt ids A L0) : ∃ F, MF ids n 18 F t (g 0) (g 3) (g 4) L0 L ∧ MV Q R F ∧ ∀ j, 15 ≤ j → F j = A j := by
  obtain ⟨F, ⟨h1, h2, h3, h4, h5⟩, hV⟩ := hM
  have e1 : ∀ j, j < 15 → (fun j => if j < 15 then F j else A j) j = F j := fun j hj => if_pos hj
  have e2 : ∀ j, 15 ≤ j → (fun j => if j < 15 then F j else A j) j = A j := fun j hj => if_neg (by omega)
  refine ⟨fun j => if j < 15 then F j else A j, ⟨h1, by omega, h3, fun j hj => ?_, fun k hk => h5 k (by omega)⟩, hV.cg e1, e2⟩
  rcases Nat.lt_or_ge j 15 with h | h
  · rw [e1 j h]; exact h4 j h
  · rw [e2 j h, h5 _ (by omega)]; exact hA j h hj
theorem MF.down {F : Nat → Nat → Int32} {w o f : Int32} (h : MF ids n 18 F t w o f L0 L) : MF ids n 15 F t w o f L L := by
  obtain ⟨h1, h2, h3, h4, h5⟩ := h
  exact ⟨h1, by omega, h3, fun j hj => h4 j (by omega), fun _ _ => rfl⟩
theorem MF.wat {F : Nat → Nat → Int32} {w o f : Int32} (h : MF ids n 18 F t w o f L0 L) : WAt ids F L := fun j _ hj => h.2.2.2.1 j hj
theorem MS.wat (hM : MS ids n Q R g t L0 L) (hA : WAt ids A L0) : WAt ids A L := by
  obtain ⟨F, ⟨h1, h2, h3, h4, h5⟩, hV⟩ := hM
  intro j hj hj2
  rw [h5 _ (by omega)]
  exact hA j hj hj2
theorem MS.self (hM : MS ids n Q R g t L0 L) : MS ids n Q R g t L L := by
  obtain ⟨F, ⟨h1, h2, h3, h4, h5⟩, hV⟩ := hM
  exact ⟨F, ⟨h1, h2, h3, h4, fun _ _ => rfl⟩, hV⟩
theorem MS.fr (hM : MS ids n Q R g t L0 L) : ∀ k, (k < 47 ∨ 66 ≤ k) → L k = L0 k := by
  obtain ⟨F, ⟨h1, h2, h3, h4, h5⟩, hV⟩ := hM
  exact fun k hk => h5 k (by omega)
theorem MS.mw (hM : MS ids n Q R g t L1 L) (hA : WA ids L1) (hf : ∀ k, (k < 47 ∨ 66 ≤ k) → L1 k = L0 k) : MW ids n Q R g t L0 L := by
  obtain ⟨A, hA⟩ := hA
  exact ⟨hM.self, ⟨A, hM.wat hA⟩, fun k hk => (hM.fr k hk).trans (hf k hk)⟩
theorem bI_01 (b : Bool) : bI b = 0 ∨ bI b = 1 := by cases b; exact Or.inl rfl; exact Or.inr rfl
theorem kt_ok (hM : MS ids n Q R g t L0 L) (hW : WA ids L0) (k : ∀ L1 A, MS ids n Q R g t L1 L1 → WAt ids A L1 → SVD Q R A → (∀ k, (k < 47 ∨ 66 ≤ k) → L1 k = L0 k) → post none n L1) : sp_X3_keepTurns ids [.ref 47] n L post postX := by
  obtain ⟨A, hA⟩ := hW
  obtain ⟨F, hF, hV, hFA⟩ := hM.up hA
  have h6 : ∀ q, q < 12 → F 6 q = bI (qt (Q q)) := fun q hq => (hV.1 q hq).1 6 _ (by omega) (by omega) rfl
  have h5 : ∀ q, q < 12 → F 5 q = nI (qd (Q q)) := fun q hq => (hV.1 q hq).1 5 _ (by omega) (by omega) rfl
  refine ⟨F, t, g 0, g 3, g 4, L0, hF, rfl, fun q hq => by rw [h6 q hq]; exact bI_01 _, fun F' L1 e1 e2 e3 e4 hF' => ?_⟩
  refine k L1 F' ⟨F', hF'.down, hV.cg e1⟩ hF'.wat ⟨fun q hq => ⟨by rw [e2 q hq, h5 q hq], by rw [e3 q hq, h6 q hq]⟩, fun c hc i x hx => ?_⟩ (fun j hj => hF'.2.2.2.2 j (by omega))
  have h9 := (hV.2 c hc)
  have := (List.getElem?_eq_some_iff.mp hx).1
  rw [e4 _ (by have := h9.2.1; omega)]
  exact h9.2.2.2 i x hx
theorem mql_dt (x : Qs) {j : Nat} (h5 : j ≠ 5) (h6 : j ≠ 6) : (mql (sT (sD x 0) false))[j]? = (mql x)[j]? := by
  have : mql (sT (sD x 0) false) = ((mql x).set 5 (nI 0)).set 6 0 := rfl
  rw [this, List.getElem?_set_ne (Ne.symm h6), List.getElem?_set_ne (Ne.symm h5)]
theorem tb_ok (hM : MS ids n Q1 R1 g t L1 L) (hA : WAt ids A L1) (hS : SVD Q R A) (hq : ∀ q, q < 12 → sT (sD (Q1 q) 0) false = sT (sD (Q q) 0) false) (hr : ∀ c, c < 4 → (R1 c).length = (R c).length ∧ ∀ x ∈ R c, x < 12) (hfr : ∀ k, (k < 47 ∨ 66 ≤ k) → L1 k = L0 k) (k : ∀ L3, MW ids n Q R g t L0 L3 → post none n L3) : sp_X3_turnBack ids [.ref 47] n L post postX := by
  obtain ⟨F, hF, hV, hFA⟩ := hM.up hA
  refine ⟨F, t, g 0, g 3, g 4, L1, hF, rfl, fun q hq9 => by rw [hFA 16 (by omega), (hS.1 q hq9).2]; exact bI_01 _, fun F' L3 e1 e2 e3 e4 hF' => ?_⟩
  refine k L3 ⟨⟨F', hF'.down, ⟨fun q hq9 => ?_, fun c hc => ?_⟩⟩, ⟨F', hF'.wat⟩, fun j hj => (hF'.2.2.2.2 j (by omega)).trans (hfr j hj)⟩
  · obtain ⟨a1, a2, a3⟩ := hV.1 q hq9
    have hIq : qI (Q1 q) = qI (Q q) := by
      have h9 := congrArg qI (hq q hq9)
      exact h9
    rw [hIq] at a2 a3
    refine ⟨fun j v h7 h8 hj => ?_, a2, fun i y hy => ?_⟩
    · have hj2 : j < 13 := (List.getElem?_eq_some_iff.mp hj).1
      by_cases j5 : j = 5
      · subst j5
        rw [e2 q hq9, hFA 15 (by omega), (hS.1 q hq9).1]
        exact Option.some.inj hj
      · by_cases j6 : j = 6
        · subst j6
          rw [e3 q hq9, hFA 16 (by omega), (hS.1 q hq9).2]
          exact Option.some.inj hj
        · rw [e1 j j5 j6 (by omega)]
          refine a1 j v h7 h8 ?_
          rw [← mql_dt _ j5 j6, hq q hq9, mql_dt _ j5 j6]
          exact hj
    · rw [e1 7 (by omega) (by omega) (by omega), e1 8 (by omega) (by omega) (by omega)]
      exact a3 i y hy
  · obtain ⟨a1, a2, a3, a4⟩ := hV.2 c hc
    rw [(hr c hc).1] at a1 a2
    refine ⟨by rw [e1 14 (by omega) (by omega) (by omega)]; exact a1, a2, (hr c hc).2, fun i x hx => ?_⟩
    have := (List.getElem?_eq_some_iff.mp hx).1
    rw [e4 _ (by omega), hFA 17 (by omega)]
    exact hS.2 c hc i x hx
theorem fn_dt {σ : St} {c p z : Nat} (q : Nat) : sT (sD ((fnS σ c p z).1 q) 0) false = sT (sD (σ.1 q) 0) false := by
  have h1 : ∀ q, sT (sD ((bfS σ c p z).1 q) 0) false = sT (sD (σ.1 q) 0) false := fun q => btf_f (fun x => sT (sD x 0) false) (fun _ _ _ _ _ _ _ _ _ _ _ _ _ => rfl) _ _ _ _ _ _
  show sT (sD (va_up (bfS σ c p z).1 z (tkt ((bfS σ c p z).1 z)) q) 0) false = _
  by_cases e : q = z
  · subst e
    rw [va_up_self]
    exact (tkt_f (fun x => sT (sD x 0) false) (fun _ _ _ _ _ _ _ _ _ _ _ _ _ => rfl) _).trans (h1 q)
  · rw [va_up_ne _ _ e]; exact h1 q
theorem fn_len {σ : St} {c p z : Nat} (d : Nat) : ((fnS σ c p z).2.1 d).length = (σ.2.1 d).length := by
  show (va_up σ.2.1 c _ d).length = _
  by_cases e : d = c
  · subst e; rw [va_up_self]; exact (rot_perm _ p).length_eq
  · rw [va_up_ne _ _ e]
/-- what take makes of find's state is what serving makes -/
theorem fn_take {K : Nat} {σ : St} {c p z : Nat} {y : Int32 × Nat} {r : List (Int32 × Nat)} (hI : INV K σ) (hF : FP σ c p z) (hy : qI (σ.1 z) = y :: r) :
    qI ((fnS σ c p z).1 z) = y :: r ∧ y.2 ≤ qd ((fnS σ c p z).1 z) ∧ qk ((fnS σ c p z).1 z) < 4 ∧
    svS σ c p z = (va_up (fnS σ c p z).1 z (if r.length = 0 then lvq (sI (tkx ((fnS σ c p z).1 z) y) r) else sI (tkx ((fnS σ c p z).1 z) y) r), (if r.length = 0 then lvR (fnS σ c p z).1 (fnS σ c p z).2.1 z else (fnS σ c p z).2.1), upd (upd σ.2.2 0 y.1) 1 (σ.2.2 1 + 1)) := by
  have hz := (hI.2.1 c hF.1).2 z hF.mem
  have hx : (fnS σ c p z).1 z = tkt ((bfS σ c p z).1 z) := va_up_self _ _ _
  have hfy : fc (σ.1 z) = y.2 := by unfold fc; rw [hy]
  have hb : qI ((bfS σ c p z).1 z) = y :: r := (bf_I z).trans hy
  have hk : qk (tkt ((bfS σ c p z).1 z)) = qk ((bfS σ c p z).1 z) := tkt_k _
  rw [hx]
  refine ⟨(tkt_I _).trans hb, ?_, ?_, ?_⟩
  · rw [bf_at hI hF, ← hfy]
    exact lkx_enough (hI.1 z hz.1).2.1
  · rw [hk, bf_k, hz.2.1]; exact hF.1
  · unfold svS
    rw [sfS_cons hb]
    have e1 : va_up (fnS σ c p z).1 z (if r.length = 0 then lvq (sI (tkx (tkt ((bfS σ c p z).1 z)) y) r) else sI (tkx (tkt ((bfS σ c p z).1 z)) y) r) = va_up (bfS σ c p z).1 z (if r.length = 0 then lvq (srv ((bfS σ c p z).1 z) y r) else srv ((bfS σ c p z).1 z) y r) := by
      show va_up (va_up _ z _) z _ = _
      rw [bx_uu]
      rfl
    have e2 : lvR (fnS σ c p z).1 (fnS σ c p z).2.1 z = lvR (bfS σ c p z).1 (bfS σ c p z).2.1 z := by
      unfold lvR
      rw [hx, hk]
      rfl
    rw [e1, e2]
    rfl
theorem sum_zero {f : Nat → Nat} : ∀ {N : Nat}, sumN f N = 0 → ∀ q, q < N → f q = 0
  | 0, _, q, h => by omega
  | N + 1, h, q, hq => by
    simp only [sumN] at h
    rcases Nat.lt_succ_iff_lt_or_eq.mp hq with h1 | h1
    · exact sum_zero (N := N) (by omega) q h1
    · subst h1; omega
theorem NQ_of {K : Nat} {σ : St} (hI : INV K σ) (h : sumN (fun q => (qI (σ.1 q)).length) 12 = 0) : NQ σ := by
  intro c hc
  cases hl : σ.2.1 c with
  | nil => rfl
  | cons q tl =>
    obtain ⟨h1, -, h3⟩ := (hI.2.1 c hc).2 q (by rw [hl]; exact List.mem_cons_self)
    have := sum_zero h q h1
    omega
theorem SUR_cases {K f r s : Nat} {σ σ' : St} (hI : INV K σ) (h : SUR f σ r σ' s) (hf : sumN (fun q => (qI (σ.1 q)).length) 12 ≤ f) : (NQ σ ∧ σ' = σ ∧ s = 0) ∨ ∃ f' c p z, f = f' + 1 ∧ FP σ c p z ∧ ((r < fc (σ.1 z) ∧ σ' = σ ∧ s = 0) ∨ (fc (σ.1 z) ≤ r ∧ ∃ s1, s = s1 + 1 ∧ SUR f' (svS σ c p z) (r - fc (σ.1 z)) σ' s1)) := by
  cases f with
  | zero => exact Or.inl ⟨NQ_of hI (by omega), h.1, h.2⟩
  | succ f =>
    rcases h with h | ⟨c, p, z, hF, h⟩
    · exact Or.inl h
    · exact Or.inr ⟨f, c, p, z, rfl, hF, h⟩
theorem FP.nn {σ : St} {c p z : Nat} (hF : FP σ c p z) (hN : NQ σ) : False := by
  have := hF.2.1
  have := hN c hF.1
  omega
end KTB
def rm_X3_serve : Room := { frames := 4, cells := 0, slots := 0, locals := 91 }
theorem ld_X3_serve : yX3_serve.cls ≠ "java/lang/invoke/MethodHandle" ∧ yX3_serve.cls ≠ "java/lang/invoke/VarHandle" ∧ (parseMethodDescriptor yX3_serve.desc).map (fun d => d.parameters.length) = some 0 := by decide +kernel
def sp_X3_serve (ids : Nat → ClassId) : lm_S := fun As n L post postX => ∃ Q R g t L0 K, MS ids n Q R g t L0 L ∧ As = [.ref 47] ∧ INV K (Q, R, g) ∧ K ≤ 2 ^ 17 ∧ (NQ (Q, R, g) → ∀ L1, MS ids n Q R g 0 L0 L1 → post (some (.int (-1))) n L1) ∧ (∀ c p z, FP (Q, R, g) c p z → ∀ L1, MS ids n (svS (Q, R, g) c p z).1 (svS (Q, R, g) c p z).2.1 (svS (Q, R, g) c p z).2.2 0 L0 L1 → post (some (.int (nI z))) n L1)
def cv_X3_serve (ids : Nat → ClassId) : Nat → Option lm_C := fun j => match j with
  | 112 => some (1, 3, sp_X3_find ids, 0, 0)
  | 115 => some (2, 3, sp_X3_take ids, 0, 0)
  | _ => none
set_option maxHeartbeats 4000000 in
set_option maxRecDepth 20000 in
theorem ok_X3_serve (l : Launch) (D : va_G) (ids : Nat → ClassId) (B b : Nat) : lm_M l D (lm_ty ids) B b false yX3_serve cX3_serve 2 (some .int) rm_X3_serve 0 0 (sp_X3_serve ids) := by
  refine lm_method (own := RX3) (fld := lf_3) (cv := (cv_X3_serve ids)) (cs := (fun _ => none)) (ci := (fun _ => none)) (kon := (fun _ => none)) (thr := (fun _ => none)) (nw := (fun _ => none)) (ini := false) (cp := none) (alc := false) (by decide +kernel) rfl rfl rfl (lf_3_ok _) ⟨?_, ?_⟩ ?_ (fun h => by cases h) (lm_aok0 _ _ _ _ _ _ _ _) ?_ ?_
  · intro j f hf
    unfold cv_X3_serve at hf
    split at hf
    · cases hf; exact ⟨yX3_find, cX3_find, 4, (some .int), rm_X3_find, RX3, TX3, 22, 0, rfl, rfl, ok_X3_find l D ids B b, lw_3_find, ll_3_112, rfl, rfl, ⟨rfl, ld_X3_find⟩, by decide⟩
    · cases hf; exact ⟨yX3_take, cX3_take, 4, none, rm_X3_take, RX3, TX3, 22, 1, rfl, rfl, ok_X3_take l D ids B b, lw_3_take, ll_3_115, rfl, rfl, ⟨rfl, ld_X3_take⟩, by decide⟩
    · cases hf
  · intro j f hf
    cases hf
  · intro j v hv; cases hv
  · exact Or.inl fun _ => rfl
  rintro As n L post postX ⟨Q, R, g, t, L0, K, hM, rfl, hI, hK, hpn, hp⟩
  refine ⟨by simp [Value.category], (Nat.le_of_ble_eq_true rfl), lm_cl_of ?_⟩
  intro G hG
  refine lg_aload_n hG dX3_serve_0 rfl ?_
  refine lg_iconst hG dX3_serve_1 (x := 0) (by decide) ?_
  refine ms_put hG hM dX3_serve_2 rfl (by first | trivial | exact Or.inl rfl | exact Or.inr rfl | assumption) (by decide) (t' := 0) (g' := g) rfl (fun L hM => ?_)
  refine lg_aload_n hG dX3_serve_5 rfl ?_
  refine ms_call hG hM dX3_serve_6 rfl (fun P h => h) (Nat.le_of_ble_eq_true rfl) (Nat.le_of_ble_eq_true rfl) (Nat.le_of_ble_eq_true rfl) ?_
  refine ⟨Q, R, g, _, L0, K, hM, rfl, hI, hK, ?_, ?_⟩
  · intro hN
    refine lg_istore_n hG dX3_serve_9 (Nat.le_of_ble_eq_true rfl) rfl ?_
    refine lg_iload_n hG dX3_serve_10 rfl ?_
    refine lg_if_lt hG dX3_serve_11 (tgt := 19) (by decide) (by decide) (fun h_11 => ?_) (fun h_11 => ?_)
    · skip
      refine lg_iload_n hG dX3_serve_19 rfl ?_
      refine lg_iret hG dX3_serve_20 (Nat.le_of_ble_eq_true rfl) (Nat.le_of_ble_eq_true rfl) ?_
      exact ⟨trivial, hpn hN _ hM⟩
    · skip
      exact absurd (by decide) h_11 --END
  · intro c p z hF L hM
    obtain ⟨hz12, hzk, hzl⟩ := (hI.2.1 c hF.1).2 z hF.mem
    obtain ⟨y, r, hy, hfy⟩ := fc_mem hzl
    obtain ⟨g1, g2, g3, g4⟩ := fn_take hI hF hy
    refine lg_istore_n hG dX3_serve_9 (Nat.le_of_ble_eq_true rfl) rfl ?_
    refine lg_iload_n hG dX3_serve_10 rfl ?_
    refine lg_if_lt hG dX3_serve_11 (tgt := 19) (by decide) (by decide) (fun h_11 => ?_) (fun h_11 => ?_)
    · skip
      exact absurd h_11 (nI_pos (by omega)) --END
    · skip
      refine lg_aload_n hG dX3_serve_14 rfl ?_
      refine lg_iload_n hG dX3_serve_15 rfl ?_
      refine ms_call hG hM dX3_serve_16 rfl (fun P h => h) (Nat.le_of_ble_eq_true rfl) (Nat.le_of_ble_eq_true rfl) (Nat.le_of_ble_eq_true rfl) ?_
      refine ⟨_, _, _, _, L0, z, y, r, hM, rfl, hz12, g1, g2, g3, fun L hM => ?_⟩
      have hp := hp c p z hF L (by rw [g4]; exact hM)
      refine lg_iload_n hG dX3_serve_19 rfl ?_
      refine lg_iret hG dX3_serve_20 (Nat.le_of_ble_eq_true rfl) (Nat.le_of_ble_eq_true rfl) ?_
      exact ⟨trivial, hp⟩

def rm_X3_next : Room := { frames := 1, cells := 0, slots := 0, locals := 23 }
theorem ld_X3_next : yX3_next.cls ≠ "java/lang/invoke/MethodHandle" ∧ yX3_next.cls ≠ "java/lang/invoke/VarHandle" ∧ (parseMethodDescriptor yX3_next.desc).map (fun d => d.parameters.length) = some 0 := by decide +kernel
def sp_X3_next (ids : Nat → ClassId) : lm_S := fun As n L post postX => ∃ Q R g t L0 K, MS ids n Q R g t L0 L ∧ As = [.ref 47] ∧ WA ids L0 ∧ INV K (Q, R, g) ∧ K ≤ 2 ^ 17 ∧ (NQ (Q, R, g) → ∀ L1, MW ids n Q R g 0 L0 L1 → post (some (.int (-1))) n L1) ∧ (∀ c p z, FP (Q, R, g) c p z → ∀ L1, MW ids n Q R g 0 L0 L1 → post (some (.int (nI z))) n L1)
def cv_X3_next (ids : Nat → ClassId) : Nat → Option lm_C := fun j => match j with
  | 112 => some (1, 3, sp_X3_find ids, 0, 0)
  | 118 => some (1, 3, sp_X3_keepTurns ids, 0, 0)
  | 121 => some (1, 3, sp_X3_turnBack ids, 0, 0)
  | _ => none
set_option maxHeartbeats 4000000 in
set_option maxRecDepth 20000 in
theorem ok_X3_next (l : Launch) (D : va_G) (ids : Nat → ClassId) (B b : Nat) : lm_M l D (lm_ty ids) B b false yX3_next cX3_next 2 (some .int) rm_X3_next 0 0 (sp_X3_next ids) := by
  refine lm_method (own := RX3) (fld := lf_3) (cv := (cv_X3_next ids)) (cs := (fun _ => none)) (ci := (fun _ => none)) (kon := (fun _ => none)) (thr := (fun _ => none)) (nw := (fun _ => none)) (ini := false) (cp := none) (alc := false) (by decide +kernel) rfl rfl rfl (lf_3_ok _) ⟨?_, ?_⟩ ?_ (fun h => by cases h) (lm_aok0 _ _ _ _ _ _ _ _) ?_ ?_
  · intro j f hf
    unfold cv_X3_next at hf
    split at hf
    · cases hf; exact ⟨yX3_find, cX3_find, 4, (some .int), rm_X3_find, RX3, TX3, 22, 0, rfl, rfl, ok_X3_find l D ids B b, lw_3_find, ll_3_112, rfl, rfl, ⟨rfl, ld_X3_find⟩, by decide⟩
    · cases hf; exact ⟨yX3_keepTurns, cX3_keepTurns, 2, none, rm_X3_keepTurns, RX3, TX3, 22, 0, rfl, rfl, ok_X3_keepTurns l D ids B b, lw_3_keepTurns, ll_3_118, rfl, rfl, ⟨rfl, ld_X3_keepTurns⟩, by decide⟩
    · cases hf; exact ⟨yX3_turnBack, cX3_turnBack, 2, none, rm_X3_turnBack, RX3, TX3, 22, 0, rfl, rfl, ok_X3_turnBack l D ids B b, lw_3_turnBack, ll_3_121, rfl, rfl, ⟨rfl, ld_X3_turnBack⟩, by decide⟩
    · cases hf
  · intro j f hf
    cases hf
  · intro j v hv; cases hv
  · exact Or.inl fun _ => rfl
  rintro As n L post postX ⟨Q, R, g, t, L0, K, hM, rfl, hW, hI, hK, hpn, hp⟩
  refine ⟨by simp [Value.category], (Nat.le_of_ble_eq_true rfl), lm_cl_of ?_⟩
  intro G hG
  refine lg_aload_n hG dX3_next_0 rfl ?_
  refine lg_iconst hG dX3_next_1 (x := 0) (by decide) ?_
  refine ms_put hG hM dX3_next_2 rfl (by first | trivial | exact Or.inl rfl | exact Or.inr rfl | assumption) (by decide) (t' := 0) (g' := g) rfl (fun L hM => ?_)
  refine lg_aload_n hG dX3_next_5 rfl ?_
  refine ms_call hG hM dX3_next_6 rfl (fun P h => h) (Nat.le_of_ble_eq_true rfl) (Nat.le_of_ble_eq_true rfl) (Nat.le_of_ble_eq_true rfl) ?_
  refine kt_ok hM hW (fun L A hM hA hS hfr => ?_)
  refine lg_aload_n hG dX3_next_9 rfl ?_
  refine ms_call hG hM dX3_next_10 rfl (fun P h => h) (Nat.le_of_ble_eq_true rfl) (Nat.le_of_ble_eq_true rfl) (Nat.le_of_ble_eq_true rfl) ?_
  refine ⟨Q, R, g, _, L, K, hM, rfl, hI, hK, ?_, ?_⟩
  · intro hN
    refine lg_istore_n hG dX3_next_13 (Nat.le_of_ble_eq_true rfl) rfl ?_
    refine lg_aload_n hG dX3_next_14 rfl ?_
    refine ms_call hG hM dX3_next_15 rfl (fun P h => h) (Nat.le_of_ble_eq_true rfl) (Nat.le_of_ble_eq_true rfl) (Nat.le_of_ble_eq_true rfl) ?_
    refine tb_ok hM hA hS (fun _ _ => rfl) (fun c hc => ⟨rfl, fun x hx => ((hI.2.1 c hc).2 x hx).1⟩) hfr (fun L hM => ?_)
    refine lg_iload_n hG dX3_next_18 rfl ?_
    refine lg_iret hG dX3_next_19 (Nat.le_of_ble_eq_true rfl) (Nat.le_of_ble_eq_true rfl) ?_
    exact ⟨trivial, hpn hN _ hM⟩
  · intro c p z hF L hM
    refine lg_istore_n hG dX3_next_13 (Nat.le_of_ble_eq_true rfl) rfl ?_
    refine lg_aload_n hG dX3_next_14 rfl ?_
    refine ms_call hG hM dX3_next_15 rfl (fun P h => h) (Nat.le_of_ble_eq_true rfl) (Nat.le_of_ble_eq_true rfl) (Nat.le_of_ble_eq_true rfl) ?_
    refine tb_ok hM hA hS (fun q _ => fn_dt (σ := (Q, R, g)) q) (fun c hc => ⟨fn_len (σ := (Q, R, g)) c, fun x hx => ((hI.2.1 c hc).2 x hx).1⟩) hfr (fun L hM => ?_)
    refine lg_iload_n hG dX3_next_18 rfl ?_
    refine lg_iret hG dX3_next_19 (Nat.le_of_ble_eq_true rfl) (Nat.le_of_ble_eq_true rfl) ?_
    exact ⟨trivial, hp c p z hF _ hM⟩

def rm_X3_serveUpTo : Room := { frames := 4, cells := 0, slots := 0, locals := 91 }
theorem ld_X3_serveUpTo : yX3_serveUpTo.cls ≠ "java/lang/invoke/MethodHandle" ∧ yX3_serveUpTo.cls ≠ "java/lang/invoke/VarHandle" ∧ (parseMethodDescriptor yX3_serveUpTo.desc).map (fun d => d.parameters.length) = some 1 := by decide +kernel
def sp_X3_serveUpTo (ids : Nat → ClassId) : lm_S := fun As n L post postX => ∃ Q R g t L0 a K, MS ids n Q R g t L0 L ∧ As = [.ref 47, .int a] ∧ WA ids L0 ∧ INV K (Q, R, g) ∧ K + 100 ≤ 2 ^ 17 ∧ (∀ x, okN 100001 a x → ∃ σ' s, SUR 96 (Q, R, g) x σ' s ∧ ∀ L1, MW ids n σ'.1 σ'.2.1 σ'.2.2 0 L0 L1 → post (some (.int (nI s))) n L1) ∧ ((¬ ∃ x, okN 100001 a x) → ∀ L1, MW ids n Q R g 1 L0 L1 → post (some (.int 0)) n L1)
def cv_X3_serveUpTo (ids : Nat → ClassId) : Nat → Option lm_C := fun j => match j with
  | 112 => some (1, 3, sp_X3_find ids, 0, 0)
  | 115 => some (2, 3, sp_X3_take ids, 0, 0)
  | 118 => some (1, 3, sp_X3_keepTurns ids, 0, 0)
  | 121 => some (1, 3, sp_X3_turnBack ids, 0, 0)
  | _ => none
def ko_X3_serveUpTo : Nat → Option Int32 := fun j => match j with
  | 124 => some 100000
  | _ => none
set_option maxHeartbeats 4000000 in
set_option maxRecDepth 20000 in
theorem ok_X3_serveUpTo (l : Launch) (D : va_G) (ids : Nat → ClassId) (B b : Nat) : lm_M l D (lm_ty ids) B b false yX3_serveUpTo cX3_serveUpTo 6 (some .int) rm_X3_serveUpTo 0 0 (sp_X3_serveUpTo ids) := by
  refine lm_method (own := RX3) (fld := lf_3) (cv := (cv_X3_serveUpTo ids)) (cs := (fun _ => none)) (ci := (fun _ => none)) (kon := ko_X3_serveUpTo) (thr := (fun _ => none)) (nw := (fun _ => none)) (ini := false) (cp := none) (alc := false) (by decide +kernel) rfl rfl rfl (lf_3_ok _) ⟨?_, ?_⟩ ?_ (fun h => by cases h) (lm_aok0 _ _ _ _ _ _ _ _) ?_ ?_
  · intro j f hf
    unfold cv_X3_serveUpTo at hf
    split at hf
    · cases hf; exact ⟨yX3_find, cX3_find, 4, (some .int), rm_X3_find, RX3, TX3, 22, 0, rfl, rfl, ok_X3_find l D ids B b, lw_3_find, ll_3_112, rfl, rfl, ⟨rfl, ld_X3_find⟩, by decide⟩
    · cases hf; exact ⟨yX3_take, cX3_take, 4, none, rm_X3_take, RX3, TX3, 22, 1, rfl, rfl, ok_X3_take l D ids B b, lw_3_take, ll_3_115, rfl, rfl, ⟨rfl, ld_X3_take⟩, by decide⟩
    · cases hf; exact ⟨yX3_keepTurns, cX3_keepTurns, 2, none, rm_X3_keepTurns, RX3, TX3, 22, 0, rfl, rfl, ok_X3_keepTurns l D ids B b, lw_3_keepTurns, ll_3_118, rfl, rfl, ⟨rfl, ld_X3_keepTurns⟩, by decide⟩
    · cases hf; exact ⟨yX3_turnBack, cX3_turnBack, 2, none, rm_X3_turnBack, RX3, TX3, 22, 0, rfl, rfl, ok_X3_turnBack l D ids B b, lw_3_turnBack, ll_3_121, rfl, rfl, ⟨rfl, ld_X3_turnBack⟩, by decide⟩
    · cases hf
  · intro j f hf
    cases hf
  · intro j v hv
    unfold ko_X3_serveUpTo at hv
    split at hv
    · cases hv; exact lk_3_124
    · cases hv
  · exact Or.inl fun _ => rfl
  rintro As n L post postX ⟨Q, R, g, t, L0, a, K, hM, rfl, hW, hI, hK, hp, hpx⟩
  refine ⟨by simp [Value.category], (Nat.le_of_ble_eq_true rfl), lm_cl_of ?_⟩
  intro G hG
  have loop : ∀ (f : Nat) (σ : St) (r k s : Nat) (σ' : St) (L : lm_L), SUR f σ r σ' s → sumN (fun q => (qI (σ.1 q)).length) 12 ≤ f → INV (K + k) σ → K + k + f ≤ 2 ^ 17 → r ≤ 100000 → MW ids n σ.1 σ.2.1 σ.2.2 0 L0 L → (∀ L1, MW ids n σ'.1 σ'.2.1 σ'.2.2 0 L0 L1 → post (some (.int (nI (k + s)))) n L1) → ∀ v5, G 37 [some (.ref 47), some (.int a), some (.int (nI k)), some (.int (nI r)), some (.int 1), v5] [] n L 0 0 := by
    intro f
    induction f using Nat.strongRecOn with
    | _ f ih =>
      intro σ r k s σ' L hSU hln hI hKf hr hMW hp v5
      have hM := hMW.1
      rcases SUR_cases hI hSU hln with ⟨hN, es, rfl⟩ | ⟨f', c, p, z, rfl, hF, hcs⟩
      · rw [es] at hp
        refine lg_iload hG dX3_serveUpTo_37 rfl ?_
        refine lg_if_eq hG dX3_serveUpTo_39 (tgt := 115) (by decide) (by decide) (fun h_39 => ?_) (fun h_39 => ?_)
        · skip
          exact absurd h_39 (by decide) --END
        · skip
          refine lg_aload_n hG dX3_serveUpTo_42 rfl ?_
          refine ms_call hG hM dX3_serveUpTo_43 rfl (fun P h => h) (Nat.le_of_ble_eq_true rfl) (Nat.le_of_ble_eq_true rfl) (Nat.le_of_ble_eq_true rfl) ?_
          refine kt_ok hM hMW.2.1 (fun L A hM hA hS hfr => ?_)
          have hfr : ∀ k, (k < 47 ∨ 66 ≤ k) → L k = L0 k := fun k hk => (hfr k hk).trans (hMW.2.2 k hk)
          refine lg_aload_n hG dX3_serveUpTo_46 rfl ?_
          refine ms_call hG hM dX3_serveUpTo_47 rfl (fun P h => h) (Nat.le_of_ble_eq_true rfl) (Nat.le_of_ble_eq_true rfl) (Nat.le_of_ble_eq_true rfl) ?_
          refine ⟨σ.1, σ.2.1, σ.2.2, _, L, K + k, hM, rfl, hI, by omega, ?_, ?_⟩
          · intro _
            refine lg_istore hG dX3_serveUpTo_50 (Nat.le_of_ble_eq_true rfl) rfl ?_
            refine lg_iload hG dX3_serveUpTo_52 rfl ?_
            refine lg_if_lt hG dX3_serveUpTo_54 (tgt := 75) (by decide) (by decide) (fun h_54 => ?_) (fun h_54 => ?_)
            · skip
              refine lg_iconst hG dX3_serveUpTo_75 (x := 0) (by decide) ?_
              refine lg_istore hG dX3_serveUpTo_76 (Nat.le_of_ble_eq_true rfl) rfl ?_
              refine lg_iload hG dX3_serveUpTo_78 rfl ?_
              refine lg_if_eq hG dX3_serveUpTo_80 (tgt := 108) (by decide) (by decide) (fun h_80 => ?_) (fun h_80 => ?_)
              · skip
                refine lg_aload_n hG dX3_serveUpTo_108 rfl ?_
                refine ms_call hG hM dX3_serveUpTo_109 rfl (fun P h => h) (Nat.le_of_ble_eq_true rfl) (Nat.le_of_ble_eq_true rfl) (Nat.le_of_ble_eq_true rfl) ?_
                refine tb_ok hM hA hS (fun _ _ => rfl) (fun c hc => ⟨rfl, fun x hx => ((hI.2.1 c hc).2 x hx).1⟩) hfr (fun L hM => ?_)
                refine lg_goto hG dX3_serveUpTo_112 (tgt := 37) (by decide) (by decide) ?_
                refine lg_iload hG dX3_serveUpTo_37 rfl ?_
                refine lg_if_eq hG dX3_serveUpTo_39 (tgt := 115) (by decide) (by decide) (fun h_39 => ?_) (fun h_39 => ?_)
                · skip
                  refine lg_iload_n hG dX3_serveUpTo_115 rfl ?_
                  refine lg_iret hG dX3_serveUpTo_116 (Nat.le_of_ble_eq_true rfl) (Nat.le_of_ble_eq_true rfl) ?_
                  exact ⟨trivial, hp L hM⟩
                · skip
                  exact absurd rfl h_39 --END
              · skip
                exact absurd rfl h_80 --END
            · skip
              exact absurd (by decide) h_54 --END
          · intro c p z hF
            exact (FP.nn hF hN).elim
      · obtain ⟨hz12, hzk, hzl⟩ := (hI.2.1 c hF.1).2 z hF.mem
        obtain ⟨y, rr, hy, hfy⟩ := fc_mem hzl
        obtain ⟨g1, g2, g3, g4⟩ := fn_take hI hF hy
        have hy2 := ((hI.1 z hz12).2.2.2.2.2.2.1 y (by rw [hy]; exact List.mem_cons_self)).2
        rw [hfy] at hcs
        rcases hcs with ⟨hyr, es, rfl⟩ | ⟨hyr, s1, rfl, hSU1⟩
        · rw [es] at hp
          refine lg_iload hG dX3_serveUpTo_37 rfl ?_
          refine lg_if_eq hG dX3_serveUpTo_39 (tgt := 115) (by decide) (by decide) (fun h_39 => ?_) (fun h_39 => ?_)
          · skip
            exact absurd h_39 (by decide) --END
          · skip
            refine lg_aload_n hG dX3_serveUpTo_42 rfl ?_
            refine ms_call hG hM dX3_serveUpTo_43 rfl (fun P h => h) (Nat.le_of_ble_eq_true rfl) (Nat.le_of_ble_eq_true rfl) (Nat.le_of_ble_eq_true rfl) ?_
            refine kt_ok hM hMW.2.1 (fun L A hM hA hS hfr => ?_)
            have hfr : ∀ k, (k < 47 ∨ 66 ≤ k) → L k = L0 k := fun k hk => (hfr k hk).trans (hMW.2.2 k hk)
            refine lg_aload_n hG dX3_serveUpTo_46 rfl ?_
            refine ms_call hG hM dX3_serveUpTo_47 rfl (fun P h => h) (Nat.le_of_ble_eq_true rfl) (Nat.le_of_ble_eq_true rfl) (Nat.le_of_ble_eq_true rfl) ?_
            refine ⟨σ.1, σ.2.1, σ.2.2, _, L, K + k, hM, rfl, hI, by omega, ?_, ?_⟩
            · intro hN
              exact (FP.nn hF hN).elim
            · intro c1 p1 z1 hF1 L3 hM3
              obtain ⟨rfl, rfl, rfl⟩ := FP_uni hF hF1
              have hM : MS ids n (fnS σ c p z).1 (fnS σ c p z).2.1 σ.2.2 0 L L3 := hM3
              refine lg_istore hG dX3_serveUpTo_50 (Nat.le_of_ble_eq_true rfl) rfl ?_
              refine lg_iload hG dX3_serveUpTo_52 rfl ?_
              refine lg_if_lt hG dX3_serveUpTo_54 (tgt := 75) (by decide) (by decide) (fun h_54 => ?_) (fun h_54 => ?_)
              · skip
                exact absurd h_54 (nI_pos (by omega)) --END
              · skip
                refine lg_aload_n hG dX3_serveUpTo_57 rfl ?_
                refine ms_get hG hM dX3_serveUpTo_58 rfl rfl ?_
                refine lg_bipush hG dX3_serveUpTo_61 (x := (96)) (by decide) ?_
                refine lg_iload hG dX3_serveUpTo_63 rfl ?_
                refine lg_imul hG dX3_serveUpTo_65 (mk96 _) ?_
                refine ms_ldC (i := 0) hG hM dX3_serveUpTo_66 rfl hz12 rfl (show (qI ((fnS σ c p z).1 z))[0]? = some y by rw [g1]; rfl) ?_
                refine lg_iload_n hG dX3_serveUpTo_67 rfl ?_
                refine lg_icmp_gt hG dX3_serveUpTo_68 (tgt := 75) (by decide) (by decide) (fun h_68 => ?_) (fun h_68 => ?_)
                · skip
                  refine lg_iconst hG dX3_serveUpTo_75 (x := 0) (by decide) ?_
                  refine lg_istore hG dX3_serveUpTo_76 (Nat.le_of_ble_eq_true rfl) rfl ?_
                  refine lg_iload hG dX3_serveUpTo_78 rfl ?_
                  refine lg_if_eq hG dX3_serveUpTo_80 (tgt := 108) (by decide) (by decide) (fun h_80 => ?_) (fun h_80 => ?_)
                  · skip
                    refine lg_aload_n hG dX3_serveUpTo_108 rfl ?_
                    refine ms_call hG hM dX3_serveUpTo_109 rfl (fun P h => h) (Nat.le_of_ble_eq_true rfl) (Nat.le_of_ble_eq_true rfl) (Nat.le_of_ble_eq_true rfl) ?_
                    refine tb_ok hM hA hS (fun q _ => fn_dt q) (fun c hc => ⟨fn_len c, fun x hx => ((hI.2.1 c hc).2 x hx).1⟩) hfr (fun L hM => ?_)
                    refine lg_goto hG dX3_serveUpTo_112 (tgt := 37) (by decide) (by decide) ?_
                    refine lg_iload hG dX3_serveUpTo_37 rfl ?_
                    refine lg_if_eq hG dX3_serveUpTo_39 (tgt := 115) (by decide) (by decide) (fun h_39 => ?_) (fun h_39 => ?_)
                    · skip
                      refine lg_iload_n hG dX3_serveUpTo_115 rfl ?_
                      refine lg_iret hG dX3_serveUpTo_116 (Nat.le_of_ble_eq_true rfl) (Nat.le_of_ble_eq_true rfl) ?_
                      exact ⟨trivial, hp L hM⟩
                    · skip
                      exact absurd rfl h_39 --END
                  · skip
                    exact absurd rfl h_80 --END
                · skip
                  exact absurd ((nI_leI (by omega) (by omega)).mp h_68) (by omega) --END
        · skip
          refine lg_iload hG dX3_serveUpTo_37 rfl ?_
          refine lg_if_eq hG dX3_serveUpTo_39 (tgt := 115) (by decide) (by decide) (fun h_39 => ?_) (fun h_39 => ?_)
          · skip
            exact absurd h_39 (by decide) --END
          · skip
            refine lg_aload_n hG dX3_serveUpTo_42 rfl ?_
            refine ms_call hG hM dX3_serveUpTo_43 rfl (fun P h => h) (Nat.le_of_ble_eq_true rfl) (Nat.le_of_ble_eq_true rfl) (Nat.le_of_ble_eq_true rfl) ?_
            refine kt_ok hM hMW.2.1 (fun L A hM hA hS hfr => ?_)
            have hfr : ∀ k, (k < 47 ∨ 66 ≤ k) → L k = L0 k := fun k hk => (hfr k hk).trans (hMW.2.2 k hk)
            refine lg_aload_n hG dX3_serveUpTo_46 rfl ?_
            refine ms_call hG hM dX3_serveUpTo_47 rfl (fun P h => h) (Nat.le_of_ble_eq_true rfl) (Nat.le_of_ble_eq_true rfl) (Nat.le_of_ble_eq_true rfl) ?_
            refine ⟨σ.1, σ.2.1, σ.2.2, _, L, K + k, hM, rfl, hI, by omega, ?_, ?_⟩
            · intro hN
              exact (FP.nn hF hN).elim
            · intro c1 p1 z1 hF1 L2 hM2
              obtain ⟨rfl, rfl, rfl⟩ := FP_uni hF hF1
              have hM : MS ids n (fnS σ c p z).1 (fnS σ c p z).2.1 σ.2.2 0 L L2 := hM2
              refine lg_istore hG dX3_serveUpTo_50 (Nat.le_of_ble_eq_true rfl) rfl ?_
              refine lg_iload hG dX3_serveUpTo_52 rfl ?_
              refine lg_if_lt hG dX3_serveUpTo_54 (tgt := 75) (by decide) (by decide) (fun h_54 => ?_) (fun h_54 => ?_)
              · skip
                exact absurd h_54 (nI_pos (by omega)) --END
              · skip
                refine lg_aload_n hG dX3_serveUpTo_57 rfl ?_
                refine ms_get hG hM dX3_serveUpTo_58 rfl rfl ?_
                refine lg_bipush hG dX3_serveUpTo_61 (x := (96)) (by decide) ?_
                refine lg_iload hG dX3_serveUpTo_63 rfl ?_
                refine lg_imul hG dX3_serveUpTo_65 (mk96 _) ?_
                refine ms_ldC (i := 0) hG hM dX3_serveUpTo_66 rfl hz12 rfl (show (qI ((fnS σ c p z).1 z))[0]? = some y by rw [g1]; rfl) ?_
                refine lg_iload_n hG dX3_serveUpTo_67 rfl ?_
                refine lg_icmp_gt hG dX3_serveUpTo_68 (tgt := 75) (by decide) (by decide) (fun h_68 => ?_) (fun h_68 => ?_)
                · skip
                  exact absurd (nI_le hyr (by omega)) h_68 --END
                · skip
                  refine lg_iconst hG dX3_serveUpTo_71 (x := 1) (by decide) ?_
                  refine lg_goto hG dX3_serveUpTo_72 (tgt := 76) (by decide) (by decide) ?_
                  refine lg_istore hG dX3_serveUpTo_76 (Nat.le_of_ble_eq_true rfl) rfl ?_
                  refine lg_iload hG dX3_serveUpTo_78 rfl ?_
                  refine lg_if_eq hG dX3_serveUpTo_80 (tgt := 108) (by decide) (by decide) (fun h_80 => ?_) (fun h_80 => ?_)
                  · skip
                    exact absurd h_80 (by decide) --END
                  · skip
                    refine lg_iload_n hG dX3_serveUpTo_83 rfl ?_
                    refine lg_aload_n hG dX3_serveUpTo_84 rfl ?_
                    refine ms_get hG hM dX3_serveUpTo_85 rfl rfl ?_
                    refine lg_bipush hG dX3_serveUpTo_88 (x := (96)) (by decide) ?_
                    refine lg_iload hG dX3_serveUpTo_90 rfl ?_
                    refine lg_imul hG dX3_serveUpTo_92 (mk96 _) ?_
                    refine ms_ldC (i := 0) hG hM dX3_serveUpTo_93 rfl hz12 rfl (show (qI ((fnS σ c p z).1 z))[0]? = some y by rw [g1]; rfl) ?_
                    refine lg_isub hG dX3_serveUpTo_94 (show nI r - nI y.2 = nI (r - y.2) from pk_sub hyr) ?_
                    refine lg_istore_n hG dX3_serveUpTo_95 (Nat.le_of_ble_eq_true rfl) rfl ?_
                    refine lg_aload_n hG dX3_serveUpTo_96 rfl ?_
                    refine lg_iload hG dX3_serveUpTo_97 rfl ?_
                    refine ms_call hG hM dX3_serveUpTo_99 rfl (fun P h => h) (Nat.le_of_ble_eq_true rfl) (Nat.le_of_ble_eq_true rfl) (Nat.le_of_ble_eq_true rfl) ?_
                    refine ⟨_, _, _, _, _, z, y, rr, hM, rfl, hz12, g1, g2, g3, fun L3 hM3 => ?_⟩
                    have hM3 : MS ids n (svS σ c p z).1 (svS σ c p z).2.1 (svS σ c p z).2.2 0 L L3 := by rw [g4]; exact hM3
                    refine lg_iinc hG dX3_serveUpTo_102 (Nat.le_of_ble_eq_true rfl) rfl rfl rfl ?_
                    refine lg_goto hG dX3_serveUpTo_105 (tgt := 112) (by decide) (by decide) ?_
                    refine lg_goto hG dX3_serveUpTo_112 (tgt := 37) (by decide) (by decide) ?_
                    rw [show nI k + Int32.ofInt 1 = nI (k + 1) from nI_1 k]
                    refine ih f' (by omega) (svS σ c p z) (r - y.2) (k + 1) s1 σ' L3 hSU1 (by have := svS_len hI hF; omega) (by have := INV_sv hI hF; rw [show K + (k + 1) = K + k + 1 by omega]; exact this) (by omega) (by omega) (hM3.mw ⟨A, hA⟩ hfr) (by rw [show k + 1 + s1 = k + (s1 + 1) by omega]; exact hp) _
  refine lg_aload_n hG dX3_serveUpTo_0 rfl ?_
  refine lg_iload_n hG dX3_serveUpTo_1 rfl ?_
  refine lg_if_lt hG dX3_serveUpTo_2 (tgt := 11) (by decide) (by decide) (fun h_2 => ?_) (fun h_2 => ?_)
  · skip
    have hpx := hpx (by rintro ⟨x, h, rfl⟩; exact nI_pos (by omega) h_2)
    refine lg_iconst hG dX3_serveUpTo_11 (x := 1) (by decide) ?_
    refine lg_goto hG dX3_serveUpTo_12 (tgt := 16) (by decide) (by decide) ?_
    refine ms_put hG hM dX3_serveUpTo_16 rfl (by first | trivial | exact Or.inl rfl | exact Or.inr rfl | assumption) (by decide) (t' := _) (g' := g) rfl (fun L hM => ?_)
    refine lg_iconst hG dX3_serveUpTo_19 (x := 0) (by decide) ?_
    refine lg_istore_n hG dX3_serveUpTo_20 (Nat.le_of_ble_eq_true rfl) rfl ?_
    refine lg_iload_n hG dX3_serveUpTo_21 rfl ?_
    refine lg_istore_n hG dX3_serveUpTo_22 (Nat.le_of_ble_eq_true rfl) rfl ?_
    refine lg_aload_n hG dX3_serveUpTo_23 rfl ?_
    refine ms_get hG hM dX3_serveUpTo_24 rfl rfl ?_
    refine lg_if_ne hG dX3_serveUpTo_27 (tgt := 34) (by decide) (by decide) (fun h_27 => ?_) (fun h_27 => ?_)
    · skip
      refine lg_iconst hG dX3_serveUpTo_34 (x := 0) (by decide) ?_
      refine lg_istore hG dX3_serveUpTo_35 (Nat.le_of_ble_eq_true rfl) rfl ?_
      refine lg_iload hG dX3_serveUpTo_37 rfl ?_
      refine lg_if_eq hG dX3_serveUpTo_39 (tgt := 115) (by decide) (by decide) (fun h_39 => ?_) (fun h_39 => ?_)
      · skip
        refine lg_iload_n hG dX3_serveUpTo_115 rfl ?_
        refine lg_iret hG dX3_serveUpTo_116 (Nat.le_of_ble_eq_true rfl) (Nat.le_of_ble_eq_true rfl) ?_
        exact ⟨trivial, hpx _ (hM.mw hW (fun _ _ => rfl))⟩
      · skip
        exact absurd rfl h_39 --END
    · skip
      exact absurd h_27 (by decide) --END
  · skip
    refine lg_iload_n hG dX3_serveUpTo_5 rfl ?_
    refine lg_ldc hG dX3_serveUpTo_6 rfl ?_
    refine lg_icmp_le hG dX3_serveUpTo_8 (tgt := 15) (by decide) (by decide) (fun h_8 => ?_) (fun h_8 => ?_)
    · skip
      obtain ⟨x, hx, rfl⟩ := ck_of (N := 100000) rfl (by decide) h_2 h_8
      obtain ⟨σ', s, hSU, hp⟩ := hp x ⟨by omega, rfl⟩
      refine lg_iconst hG dX3_serveUpTo_15 (x := 0) (by decide) ?_
      refine ms_put hG hM dX3_serveUpTo_16 rfl (by first | trivial | exact Or.inl rfl | exact Or.inr rfl | assumption) (by decide) (t' := _) (g' := g) rfl (fun L hM => ?_)
      refine lg_iconst hG dX3_serveUpTo_19 (x := 0) (by decide) ?_
      refine lg_istore_n hG dX3_serveUpTo_20 (Nat.le_of_ble_eq_true rfl) rfl ?_
      refine lg_iload_n hG dX3_serveUpTo_21 rfl ?_
      refine lg_istore_n hG dX3_serveUpTo_22 (Nat.le_of_ble_eq_true rfl) rfl ?_
      refine lg_aload_n hG dX3_serveUpTo_23 rfl ?_
      refine ms_get hG hM dX3_serveUpTo_24 rfl rfl ?_
      refine lg_if_ne hG dX3_serveUpTo_27 (tgt := 34) (by decide) (by decide) (fun h_27 => ?_) (fun h_27 => ?_)
      · skip
        exact absurd rfl h_27 --END
      · skip
        refine lg_iconst hG dX3_serveUpTo_30 (x := 1) (by decide) ?_
        refine lg_goto hG dX3_serveUpTo_31 (tgt := 35) (by decide) (by decide) ?_
        refine lg_istore hG dX3_serveUpTo_35 (Nat.le_of_ble_eq_true rfl) rfl ?_
        exact loop 96 (Q, R, g) x 0 s σ' L hSU hI.2.2.2.1 hI (by omega) hx (hM.mw hW (fun _ _ => rfl)) (by rw [Nat.zero_add]; exact hp) _
        --END
    · skip
      have hpx := hpx (by rintro ⟨x, h, rfl⟩; exact h_8 (nI_le (b := 100000) (by omega) (by decide)))
      refine lg_iconst hG dX3_serveUpTo_11 (x := 1) (by decide) ?_
      refine lg_goto hG dX3_serveUpTo_12 (tgt := 16) (by decide) (by decide) ?_
      refine ms_put hG hM dX3_serveUpTo_16 rfl (by first | trivial | exact Or.inl rfl | exact Or.inr rfl | assumption) (by decide) (t' := _) (g' := g) rfl (fun L hM => ?_)
      refine lg_iconst hG dX3_serveUpTo_19 (x := 0) (by decide) ?_
      refine lg_istore_n hG dX3_serveUpTo_20 (Nat.le_of_ble_eq_true rfl) rfl ?_
      refine lg_iload_n hG dX3_serveUpTo_21 rfl ?_
      refine lg_istore_n hG dX3_serveUpTo_22 (Nat.le_of_ble_eq_true rfl) rfl ?_
      refine lg_aload_n hG dX3_serveUpTo_23 rfl ?_
      refine ms_get hG hM dX3_serveUpTo_24 rfl rfl ?_
      refine lg_if_ne hG dX3_serveUpTo_27 (tgt := 34) (by decide) (by decide) (fun h_27 => ?_) (fun h_27 => ?_)
      · skip
        refine lg_iconst hG dX3_serveUpTo_34 (x := 0) (by decide) ?_
        refine lg_istore hG dX3_serveUpTo_35 (Nat.le_of_ble_eq_true rfl) rfl ?_
        refine lg_iload hG dX3_serveUpTo_37 rfl ?_
        refine lg_if_eq hG dX3_serveUpTo_39 (tgt := 115) (by decide) (by decide) (fun h_39 => ?_) (fun h_39 => ?_)
        · skip
          refine lg_iload_n hG dX3_serveUpTo_115 rfl ?_
          refine lg_iret hG dX3_serveUpTo_116 (Nat.le_of_ble_eq_true rfl) (Nat.le_of_ble_eq_true rfl) ?_
          exact ⟨trivial, hpx _ (hM.mw hW (fun _ _ => rfl))⟩
        · skip
          exact absurd rfl h_39 --END
      · skip
        exact absurd h_27 (by decide) --END

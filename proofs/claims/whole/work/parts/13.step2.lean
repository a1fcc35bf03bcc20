theorem lm_call {p : Program} {l : Launch} {e : Env} {R : Room} {s : State} {m : MethodId} {args : Array Value} {below : List Frame} {meth : Method} {c : Code} {H : Heap} {locs : List Loc} {cells slots mc ms : Nat} {QF : State → Prop} {D : va_G} {B b : Nat} {ex : Bool} {pc : Nat} {ls : Array Slot} {st0 rest : List Value} {a : Array Value} {post : lm_Q} {postX : lm_X}
    (hr : vx_Run p l e R s m args below meth c H locs cells slots mc ms (F0 m pc ls st0) rest (lm_Qc D B b ex post a) (lm_XC D B b ex postX) (lm_A B)) (hS : va_S (lm_A B) s.heap H locs)
    (kk : ∀ (rv : Option Value) (n1 : Nat) (L1 : lm_L) (H1 : Heap) (locs1 : List Loc), post rv n1 L1 → lm_Z ex B n1 H1 → va_P D vwCl (lm_w B b n1 L1) H1 → va_S (lm_A B) s.heap H1 locs1 → W p l e R s m args below meth c H1 locs1 (cells + mc) (slots + ms) QF (F0 m (pc + 3) ls ((rv.map (lm_v B b)).toList ++ rest)))
    (kx : ∀ (en : String) (n1 : Nat) (L1 : lm_L) (H1 : Heap) (locs1 : List Loc) (q9 : Addr) (ce : Cell), postX en n1 L1 → lm_Z ex B n1 H1 → va_P D vwCl (lm_w B b n1 L1) H1 → va_S (lm_A B) s.heap H1 locs1 → H1[q9]? = some ce → ce.vm = .none → s.vm.findClass en = some ce.cls → vx_W p l e R s m args below meth c H1 locs1 (cells + mc) (slots + ms) QF (F0 m pc ls rest) q9) :
    W p l e R s m args below meth c H locs cells slots QF (F0 m pc ls st0) := by
  intro T hT X
  rcases hr T hT X with ⟨v, st₀, t, T9, L, h0, X9, hL, e1, e2, ⟨rv, n1, L1, hv, hp, z1, p1, hF⟩, st⟩ | ⟨q, st₀, t, T9, L, E, ce, h0, X9, hL, e1, e2, ⟨n1, L1, hp, z1, p1, hF⟩, hce, hcv, hcl, st⟩
  · cases hv
    obtain ⟨k1, k2, k3⟩ := vx_keep h0 e1 hS (fun _ _ h => h) (fun _ h => h) hL hF
    obtain ⟨t2, a1, b1⟩ := kk rv n1 L1 T9.heap (locs ++ L) hp (by rw [e1]; exact z1) (by rw [e1]; exact p1) k3 T9 rfl X9
    exact ⟨t2, st t2 a1, b1⟩
  · obtain ⟨k1, k2, k3⟩ := vx_keep h0 e1 hS (fun _ _ h => h) (fun _ h => h) hL hF
    obtain ⟨t2, a1, b1⟩ := kx E n1 L1 T9.heap (locs ++ L) q ce hp (by rw [e1]; exact z1) (by rw [e1]; exact p1) k3 (by rw [e1]; exact hce) hcv hcl T9 rfl X9
    exact ⟨t2, st.trans a1, b1⟩
theorem lm_callN {p : Program} {l : Launch} {e : Env} {R : Room} {s : State} {m : MethodId} {args : Array Value} {below : List Frame} {meth : Method} {c : Code} {H : Heap} {locs : List Loc} {cells slots mc ms : Nat} {QF : State → Prop} {D : va_G} {B b : Nat} {ex : Bool} {pc : Nat} {ls : Array Slot} {st0 rest : List Value} {a : Array Value} {post : lm_Q}
    (hr : va_Run p l e R s m args below meth c H locs cells slots mc ms (F0 m pc ls st0) rest (lm_Qc D B b ex post a) (lm_A B)) (hS : va_S (lm_A B) s.heap H locs)
    (kk : ∀ (rv : Option Value) (n1 : Nat) (L1 : lm_L) (H1 : Heap) (locs1 : List Loc), post rv n1 L1 → lm_Z ex B n1 H1 → va_P D vwCl (lm_w B b n1 L1) H1 → va_S (lm_A B) s.heap H1 locs1 → W p l e R s m args below meth c H1 locs1 (cells + mc) (slots + ms) QF (F0 m (pc + 3) ls ((rv.map (lm_v B b)).toList ++ rest))) :
    W p l e R s m args below meth c H locs cells slots QF (F0 m pc ls st0) := by
  intro T hT X
  obtain ⟨v, st₀, t, T9, L, h0, X9, hL, e1, e2, ⟨rv, n1, L1, hv, hp, z1, p1, hF⟩, st⟩ := hr T hT X
  cases hv
  obtain ⟨k1, k2, k3⟩ := vx_keep h0 e1 hS (fun _ _ h => h) (fun _ h => h) hL hF
  obtain ⟨t2, a1, b1⟩ := kk rv n1 L1 T9.heap (locs ++ L) hp (by rw [e1]; exact z1) (by rw [e1]; exact p1) k3 T9 rfl X9
  exact ⟨t2, st t2 a1, b1⟩
theorem lm_grow {A : Nat → Prop} {H0 H H1 : Heap} {locs : List Loc} (hS : va_S A H0 H locs) (hz : H.size ≤ H1.size) (hk : ∀ q : Nat, q < H.size → H1[q]? = H[q]?) : va_S A H0 H1 locs :=
  ⟨Nat.le_trans hS.1 hz, fun q h1 h2 => (hk q (Nat.lt_of_lt_of_le h1 hS.1)).trans (hS.2.1 q h1 h2), hS.2.2⟩
theorem lm_fresh {s : State} {D : va_G} {B b n : Nat} {L : lm_L} {ex : Bool} {H H1 : Heap} {locs : List Loc} {tys : List (ClassId × FieldType)} {cA cA0 : ClassId} {N : Nat} {a0 : vp_A} {ty : FieldType} {P : Prop} (t0 : Nat) (hK : va_K D vwCl tys s) (ht : tys[t0]? = some (cA0, ty)) (hnm : s.vm.findClass ("[" ++ ty.toString) = some cA) (hZ : lm_Z ex B n H) (hz : H.size = B + n) (hP : va_P D vwCl (lm_w B b n L) H) (hS : va_S (lm_A B) s.heap H locs)
    (e1 : H1[B + n]? = some (arrV cA N (fun _ => defaultValue ty))) (z1 : H1.size = B + n + 1) (o1 : ∀ q, q < B + n → H1[q]? = H[q]?) (k : lm_Z ex B (n + 1) H1 → va_P D vwCl (lm_w B b (n + 1) (va_up L n (.inl (cA0, a0)))) H1 → va_S (lm_A B) s.heap H1 locs → P)
    (hty : ty = .int ∨ ty = .boolean ∨ ty = .long := by first | exact Or.inl rfl | exact Or.inr (Or.inl rfl) | exact Or.inr (Or.inr rfl)) (ha : ∀ c, vp_cell c (lm_ar B a0) = arrV c N (fun _ => defaultValue ty) := by intro c; rfl) : P := by
  have hcA : cA = cA0 := by
    have h9 := (hK.2 t0 _ ht).2
    rcases hty with rfl | rfl | rfl <;> exact Option.some.inj (hnm.symm.trans h9)
  subst hcA
  refine k ⟨by rw [z1]; omega, fun _ => by rw [z1]; omega⟩ ?_ (lm_grow hS (by rw [z1, hz]; omega) (fun q hq => o1 q (by rw [← hz]; exact hq)))
  rw [← lm_w_push (e := .inl (cA, a0)) rfl]
  refine (hP.kept (fun k x hx9 => o1 x.1 (by rw [← hz]; exact (hP k x hx9).lt))).app (fun k x hx9 => ?_)
  have hz9 : k < 1 := (List.getElem?_eq_some_iff.mp hx9).1
  rw [show k = 0 by omega] at hx9
  cases hx9
  show H1[B + n]? = some (vp_cell cA (lm_ar B a0))
  rw [ha]
  exact e1
set_option maxHeartbeats 4000000 in
set_option maxRecDepth 20000 in
theorem lm_step_ok {p : Program} {l : Launch} {e : Env} {R : Room} {s : State} {m : MethodId} {args : Array Value} {below : List Frame} {meth : Method} {c : Code} {D : va_G} {B b : Nat} {ex : Bool} {nL : Nat} {own : String} {cc : ByteArray} {E : lm_E} {Q : lm_Q} {X : lm_X} {QF : State → Prop}
    (hT : lm_T p l e R s m args below meth c D B b ex nL own cc E Q X QF) {K : lm_K} (hK : ∀ pc lo st n L bc bs, K pc lo st n L bc bs → lm_G p l e R s m args below meth c D B b ex nL QF pc lo st n L bc bs)
    {i : Instr} {len pc : Nat} {lo : lm_O} {st : List Value} {n : Nat} {L : lm_L} {bc bs : Nat} (hd : decode cc pc = .ok (i, len)) (h : lm_step E Q X K i len pc lo st n L bc bs) : lm_G p l e R s m args below meth c D B b ex nL QF pc lo st n L bc bs := by
  obtain ⟨hx, hb, hml, hown, hts, hcx, hB, hini, hrc, hrs, hfld, hcv, hcs, hkon, hthr, hXo, hXc, hQi, hQa, hQv, hscr, hcp, hnew, hnar, hci⟩ := id hT
  intro H locs ls hZ hP hS hH
  have go : ∀ {pc lo st n L bc bs} {H : Heap} {locs : List Loc} {ls : Array Slot}, K pc lo st n L bc bs → lm_Z ex B n H → va_P D vwCl (lm_w B b n L) H → va_S (lm_A B) s.heap H locs → lm_H B b nL lo ls → W p l e R s m args below meth c H locs bc bs QF (F0 m pc ls (st.map (lm_v B b))) := fun hk a1 a2 a3 a4 => hK _ _ _ _ _ _ _ hk _ _ _ a1 a2 a3 a4
  have to : ∀ {o : Int}, 0 ≤ (pc : Int) + o → (pc : Int) + o = ((((pc : Int) + o).toNat : Nat) : Int) := fun h0 => (Int.toNat_of_nonneg h0).symm
  cases i with
  | iconst v =>
    obtain ⟨rfl, h⟩ := h
    exact lv_iconst hx hb hd rfl (go h hZ hP hS hH)
  | bipush v =>
    obtain ⟨rfl, h⟩ := h
    exact lv_bipush hx hb hd rfl (go h hZ hP hS hH)
  | sipush v =>
    obtain ⟨rfl, h⟩ := h
    exact lv_sipush hx hb hd rfl (go h hZ hP hS hH)
  | aconst_null =>
    obtain ⟨rfl, h⟩ := h
    exact lv_null hx hb hd (go h hZ hP hS hH)
  | ldc j =>
    obtain ⟨rfl, h⟩ := h
    obtain ⟨v, h1, h⟩ := lm_at_of h
    exact lv_ldc hx hb hown (hkon _ _ h1) hd (go h hZ hP hS hH)
  | iload_n j =>
    obtain ⟨rfl, h⟩ := h
    obtain ⟨x, h1, h⟩ := lm_ldi_of h
    exact lv_iload_n hx hb hd rfl (hH.get h1) (go h hZ hP hS hH)
  | iload j =>
    obtain ⟨rfl, h⟩ := h
    obtain ⟨x, h1, h⟩ := lm_ldi_of h
    exact lv_iload hx hb hd (hH.get h1) (go h hZ hP hS hH)
  | aload_n j =>
    obtain ⟨rfl, h⟩ := h
    rcases lm_lda_of h with ⟨a, h1, h⟩ | ⟨h1, h⟩ | ⟨a, h1, h⟩
    · exact lv_aload_n hx hb hd rfl (hH.get h1) (go h hZ hP hS hH)
    · exact lv_aload_nN hx hb hd rfl (hH.get h1) (go h hZ hP hS hH)
    · exact lv_aload_n hx hb hd rfl (hH.get h1) (go h hZ hP hS hH)
  | aload j =>
    obtain ⟨rfl, h⟩ := h
    rcases lm_lda_of h with ⟨a, h1, h⟩ | ⟨h1, h⟩ | ⟨a, h1, h⟩
    · exact lv_aload hx hb hd (hH.get h1) (go h hZ hP hS hH)
    · exact lv_aloadN hx hb hd (hH.get h1) (go h hZ hP hS hH)
    · exact lv_aload hx hb hd (hH.get h1) (go h hZ hP hS hH)
  | istore_n j =>
    obtain ⟨rfl, hj, h⟩ := h
    obtain ⟨x, r, rfl, h⟩ := lm_s1_of h
    exact lv_istore_n hx hb hd rfl hH.2.1 (by rw [← hH.1]; exact hj) rfl (fun ls1 h1 => go h hZ hP hS (hH.put hj rfl rfl h1))
  | istore j =>
    obtain ⟨rfl, hj, h⟩ := h
    obtain ⟨x, r, rfl, h⟩ := lm_s1_of h
    exact lv_istore hx hb hd hH.2.1 (by rw [← hH.1]; exact hj) rfl (fun ls1 h1 => go h hZ hP hS (hH.put hj rfl rfl h1))
  | astore_n j =>
    obtain ⟨rfl, hj, h⟩ := h
    split at h
    · exact lv_astore_n hx hb hd rfl hH.2.1 (by rw [← hH.1]; exact hj) rfl (fun ls1 h1 => go h hZ hP hS (hH.put hj rfl rfl h1))
    · exact lv_astore_nN hx hb hd rfl hH.2.1 (by rw [← hH.1]; exact hj) rfl (fun ls1 h1 => go h hZ hP hS (hH.put hj rfl rfl h1))
    · exact lv_astore_n hx hb hd rfl hH.2.1 (by rw [← hH.1]; exact hj) rfl (fun ls1 h1 => go h hZ hP hS (hH.put hj rfl rfl h1))
    · exact h.elim
  | astore j =>
    obtain ⟨rfl, hj, h⟩ := h
    split at h
    · exact lv_astore hx hb hd hH.2.1 (by rw [← hH.1]; exact hj) rfl (fun ls1 h1 => go h hZ hP hS (hH.put hj rfl rfl h1))
    · exact lv_astoreN hx hb hd hH.2.1 (by rw [← hH.1]; exact hj) rfl (fun ls1 h1 => go h hZ hP hS (hH.put hj rfl rfl h1))
    · exact lv_astore hx hb hd hH.2.1 (by rw [← hH.1]; exact hj) rfl (fun ls1 h1 => go h hZ hP hS (hH.put hj rfl rfl h1))
    · exact h.elim
  | iinc j v =>
    obtain ⟨rfl, hj, h⟩ := h
    obtain ⟨x, h1, h⟩ := lm_ldi_of h
    obtain ⟨k, hk⟩ := List.getElem?_of_mem (lm_ls_mem (B := B) (b := b) (q := (j, .int x)) |>.mpr ⟨_, h1, rfl⟩)
    exact lv_iinc hx hb hd hH.2.1 hk rfl (by rw [← hH.1]; exact hj) rfl (fun ls1 h1 => go h hZ hP hS (hH.put hj rfl rfl h1))
  | iadd =>
    obtain ⟨rfl, h⟩ := h
    obtain ⟨x, y, r, rfl, h⟩ := lm_s2_of h
    exact lv_iadd hx hb hd (go h hZ hP hS hH)
  | isub =>
    obtain ⟨rfl, h⟩ := h
    obtain ⟨x, y, r, rfl, h⟩ := lm_s2_of h
    exact lv_isub hx hb hd (go h hZ hP hS hH)
  | imul =>
    obtain ⟨rfl, h⟩ := h
    obtain ⟨x, y, r, rfl, h⟩ := lm_s2_of h
    exact lv_imul hx hb hd (go h hZ hP hS hH)
  | iand =>
    obtain ⟨rfl, h⟩ := h
    obtain ⟨x, y, r, rfl, h⟩ := lm_s2_of h
    exact lv_iand hx hb hd (go h hZ hP hS hH)
  | ixor =>
    obtain ⟨rfl, h⟩ := h
    obtain ⟨x, y, r, rfl, h⟩ := lm_s2_of h
    exact lv_ixor hx hb hd (go h hZ hP hS hH)
  | idiv =>
    obtain ⟨rfl, h⟩ := h
    obtain ⟨x, y, r, rfl, h0, h⟩ := lm_s2_of h
    exact lv_idiv hx hb hd h0 (go h hZ hP hS hH)
  | irem =>
    obtain ⟨rfl, h⟩ := h
    obtain ⟨x, y, r, rfl, h0, h⟩ := lm_s2_of h
    exact lv_irem hx hb hd h0 (go h hZ hP hS hH)
  | i2l =>
    obtain ⟨rfl, h⟩ := h
    obtain ⟨x, r, rfl, h⟩ := lm_s1_of h
    exact lv_i2l hx hb hd rfl (go h hZ hP hS hH)
  | lcmp =>
    obtain ⟨rfl, h⟩ := h
    split at h
    · exact W.lcmp hx hb hd (go h hZ hP hS hH)
    · exact h.elim
  | dup =>
    obtain ⟨rfl, h⟩ := h
    split at h
    · exact lv_dup hx hb hd (by rw [lm_v_cat]; exact h.1) (go h.2 hZ hP hS hH)
    · exact h.elim
  | dup2 =>
    obtain ⟨rfl, h⟩ := h
    split at h
    · exact lv_dup2_11 hx hb hd (by rw [lm_v_cat]; exact h.1) (by rw [lm_v_cat]; exact h.2.1) (go h.2.2 hZ hP hS hH)
    · exact h.elim
  | pop =>
    obtain ⟨rfl, h⟩ := h
    split at h
    · exact lv_pop hx hb hd (by rw [lm_v_cat]; exact h.1) (go h.2 hZ hP hS hH)
    · exact h.elim
  | goto o =>
    obtain ⟨rfl, h0, h⟩ := h
    exact lv_goto hx hb hd (to h0) (go h hZ hP hS hH)
  | ifCond cd o =>
    cases cd with
    | eq =>
      obtain ⟨rfl, h0, h⟩ := h
      obtain ⟨x, r, rfl, h⟩ := lm_s1_of h
      exact lv_if_eq hx hb hd (to h0) (fun q => go (h.1 q) hZ hP hS hH) (fun q => go (h.2 q) hZ hP hS hH)
    | ne =>
      obtain ⟨rfl, h0, h⟩ := h
      obtain ⟨x, r, rfl, h⟩ := lm_s1_of h
      exact lv_if_ne hx hb hd (to h0) (fun q => go (h.1 q) hZ hP hS hH) (fun q => go (h.2 q) hZ hP hS hH)
    | lt =>
      obtain ⟨rfl, h0, h⟩ := h
      obtain ⟨x, r, rfl, h⟩ := lm_s1_of h
      exact lv_if_lt hx hb hd (to h0) (fun q => go (h.1 q) hZ hP hS hH) (fun q => go (h.2 q) hZ hP hS hH)
    | le =>
      obtain ⟨rfl, h0, h⟩ := h
      obtain ⟨x, r, rfl, h⟩ := lm_s1_of h
      exact lv_if_le hx hb hd (to h0) (fun q => go (h.1 q) hZ hP hS hH) (fun q => go (h.2 q) hZ hP hS hH)
    | ge =>
      obtain ⟨rfl, h0, h⟩ := h
      obtain ⟨x, r, rfl, h⟩ := lm_s1_of h
      exact lv_if_ge hx hb hd (to h0) (fun q => go (h.1 (Int32.not_lt.mpr q)) hZ hP hS hH) (fun q => go (h.2 (Int32.not_le.mp q)) hZ hP hS hH)
    | gt =>
      obtain ⟨rfl, h0, h⟩ := h
      obtain ⟨x, r, rfl, h⟩ := lm_s1_of h
      exact lv_if_gt hx hb hd (to h0) (fun q => go (h.1 (Int32.not_le.mpr q)) hZ hP hS hH) (fun q => go (h.2 (Int32.not_lt.mp q)) hZ hP hS hH)
  | if_icmp cd o =>
    cases cd with
    | eq =>
      obtain ⟨rfl, h0, h⟩ := h
      obtain ⟨x, y, r, rfl, h⟩ := lm_s2_of h
      exact lv_icmp_eq hx hb hd (to h0) (fun q => go (h.1 q) hZ hP hS hH) (fun q => go (h.2 q) hZ hP hS hH)
    | ne =>
      obtain ⟨rfl, h0, h⟩ := h
      obtain ⟨x, y, r, rfl, h⟩ := lm_s2_of h
      exact lv_icmp_ne hx hb hd (to h0) (fun q => go (h.1 q) hZ hP hS hH) (fun q => go (h.2 q) hZ hP hS hH)
    | lt =>
      obtain ⟨rfl, h0, h⟩ := h
      obtain ⟨x, y, r, rfl, h⟩ := lm_s2_of h
      exact lv_icmp_lt hx hb hd (to h0) (fun q => go (h.1 q) hZ hP hS hH) (fun q => go (h.2 q) hZ hP hS hH)
    | le =>
      obtain ⟨rfl, h0, h⟩ := h
      obtain ⟨x, y, r, rfl, h⟩ := lm_s2_of h
      exact lv_icmp_le hx hb hd (to h0) (fun q => go (h.1 q) hZ hP hS hH) (fun q => go (h.2 q) hZ hP hS hH)
    | ge =>
      obtain ⟨rfl, h0, h⟩ := h
      obtain ⟨x, y, r, rfl, h⟩ := lm_s2_of h
      exact lv_icmp_ge hx hb hd (to h0) (fun q => go (h.1 (Int32.not_lt.mpr q)) hZ hP hS hH) (fun q => go (h.2 (Int32.not_le.mp q)) hZ hP hS hH)
    | gt =>
      obtain ⟨rfl, h0, h⟩ := h
      obtain ⟨x, y, r, rfl, h⟩ := lm_s2_of h
      exact lv_icmp_gt hx hb hd (to h0) (fun q => go (h.1 (Int32.not_le.mpr q)) hZ hP hS hH) (fun q => go (h.2 (Int32.not_lt.mp q)) hZ hP hS hH)
  | ifnonnull o =>
    obtain ⟨rfl, h⟩ := h
    split at h
    · exact lv_ifnonnull hx hb hd (to h.1) (go h.2 hZ hP hS hH)
    · exact lv_ifnonnullN hx hb hd (go h hZ hP hS hH)
    · exact h.elim
  | tableswitch d a1 a2 os =>
    obtain ⟨x, r, rfl, h⟩ := lm_s1_of h
    by_cases q : x.toInt < a1 ∨ a2 < x.toInt
    · obtain ⟨h0, h1⟩ := h.1 q
      exact lv_tableOut hx hb hd q (to h0) (go h1 hZ hP hS hH)
    · obtain ⟨o, ho, h0, h1⟩ := lm_at_of (h.2 (fun z => q (Or.inl z)) (fun z => q (Or.inr z)))
      exact lv_tableIn hx hb hd (fun z => q (Or.inl z)) (fun z => q (Or.inr z)) ho (to h0) (go h1 hZ hP hS hH)
  | getfield j =>
    obtain ⟨rfl, h⟩ := h
    obtain ⟨q, r, rfl, h⟩ := lm_sr_of h
    obtain ⟨f, hf, hq, h⟩ := lm_at_of h
    obtain ⟨fs, hL, h⟩ := lm_ob_of h
    obtain ⟨v, hv, h⟩ := lm_at_of h
    obtain ⟨C, T, N, ⟨hc, hw, -, -⟩, hk, hl, -⟩ := hfld _ _ hf
    have he : (lm_w B b n L)[q]? = some (B + q, .inr (f.1, fs.map (lm_v B b))) := by rw [lm_w_at hq, hL]; rfl
    have hv2 : (fs.map (lm_v B b))[f.2.1]? = some (lm_v B b v) := by rw [List.getElem?_map, hv]; rfl
    rcases hl with hl | ⟨host, hl, -⟩
    · exact va_get (D := D) hx hb hts hw hown hcx.1 hP q he hc f.2.1 hk hl (fun _ h9 => h9) hv2 hd (go h hZ hP hS hH)
    · exact va_getN (D := D) hx hb hts hw hown hcx.1 hP q he hc f.2.1 hk hl (fun _ h9 => h9) hv2 hd (go h hZ hP hS hH)
  | putfield j =>
    obtain ⟨rfl, h⟩ := h
    split at h
    · rename_i v q r
      obtain ⟨f, hf, hq, hft, h⟩ := lm_at_of h
      obtain ⟨fs, hL, hlen, h⟩ := lm_ob_of h
      obtain ⟨C, T, N, ⟨hc, hw, ⟨ty, hty⟩, hnm⟩, hk, hl, hfy⟩ := hfld _ _ hf
      have he : (lm_w B b n L)[q]? = some (B + q, .inr (f.1, fs.map (lm_v B b))) := by rw [lm_w_at hq, hL]; rfl
      have hlen2 : f.2.1 < (fs.map (lm_v B b)).length := by rw [List.length_map]; exact hlen
      have hset : lm_e B b (.inr (f.1, fs.set f.2.1 v)) = .inr (f.1, (fs.map (lm_v B b)).set f.2.1 (lm_v B b v)) := by
        show (Sum.inr (f.1, (fs.set f.2.1 v).map (lm_v B b)) : va_E) = _
        rw [List.map_set]
      have hZq : ∀ H1 : Heap, H1.size = H.size → lm_Z ex B n H1 := fun H1 hz => ⟨by rw [hz]; exact hZ.1, fun h9 => by rw [hz]; exact hZ.2 h9⟩
      obtain ⟨f0, f1, f2⟩ := f
      dsimp only at hft hfy hl hk hc he hlen2 hset h ⊢
      match f2, v, hft with
      | 0, .int x, _ =>
        rcases hl with hl | ⟨host, hl, -⟩
        · exact lm_put hx hb hts hw ty hty hnm hown hcx.1 hP hS q he hc f1 hk hl hfy.1 hfy.2 rfl rfl hlen2 hd (fun H1 locs1 a1 a2 a3 => go h (hZq H1 a3) (by rw [← lm_w_set hq hset]; exact a1) a2 hH)
        · exact lm_putN hx hb hts hw ty hty hnm hown hcx.1 hP hS q he hc f1 hk hl hfy.1 hfy.2 rfl rfl hlen2 hd (fun H1 locs1 a1 a2 a3 => go h (hZq H1 a3) (by rw [← lm_w_set hq hset]; exact a1) a2 hH)
      | 1, .int x, hx01 =>
        have hn : narrow .boolean (.int x) = .int x := by rcases hx01 with rfl | rfl <;> rfl
        have hn2 : fits .boolean (.int x) = true := by rcases hx01 with rfl | rfl <;> rfl
        rcases hl with hl | ⟨host, hl, -⟩
        · exact lm_put hx hb hts hw ty hty hnm hown hcx.1 hP hS q he hc f1 hk hl hfy.1 hfy.2 hn hn2 hlen2 hd (fun H1 locs1 a1 a2 a3 => go h (hZq H1 a3) (by rw [← lm_w_set hq hset]; exact a1) a2 hH)
        · exact lm_putN hx hb hts hw ty hty hnm hown hcx.1 hP hS q he hc f1 hk hl hfy.1 hfy.2 hn hn2 hlen2 hd (fun H1 locs1 a1 a2 a3 => go h (hZq H1 a3) (by rw [← lm_w_set hq hset]; exact a1) a2 hH)
      | 2, .ref x, hi =>
        obtain ⟨hfin, ho, t, ht⟩ := hfy
        rcases hl with hl | ⟨host, hl, h9⟩
        · exact lm_putF hx hb hts hw ty hty hnm hown hcx.1 hP hS q he hc f1 hk hl hfin (hini hi) (ho hi) ht rfl rfl hlen2 hd (fun H1 locs1 a1 a2 a3 => go h (hZq H1 a3) (by rw [← lm_w_set hq hset]; exact a1) a2 hH)
        · exact absurd h9 (by decide)
    · exact h.elim
  | iaload =>
    obtain ⟨rfl, h⟩ := h
    split at h
    · obtain ⟨hq, h⟩ := h
      obtain ⟨k, f, hL, hin, h⟩ := lm_ia_of h
      exact va_iald hx hb hcx.1 hP _ 0 (by rw [lm_w_at hq, hL]; rfl) rfl hin hd (go h hZ hP hS hH)
    · obtain ⟨q, hq, hin, h⟩ := lm_at_of h
      obtain ⟨hX, hbB, hbl⟩ := hscr _ hq
      exact va_sld hx hb hX hbl (Nat.not_le.mpr hbB) hS hin hd (go h hZ hP hS hH)
    · exact h.elim
  | baload =>
    obtain ⟨rfl, h⟩ := h
    split at h
    · obtain ⟨hq, h⟩ := h
      obtain ⟨k, f, hL, hin, h⟩ := lm_ia_of h
      exact va_zald hx hb hcx.1 hP _ 1 (by rw [lm_w_at hq, hL]; rfl) rfl hin hd (go h hZ hP hS hH)
    · exact h.elim
  | laload =>
    obtain ⟨rfl, h⟩ := h
    split at h
    · obtain ⟨hq, h⟩ := h
      obtain ⟨k, f, hL, hin, h⟩ := lm_la_of h
      exact va_lald hx hb hcx.1 hP _ 2 (by rw [lm_w_at hq, hL]; rfl) rfl hin hd (go h hZ hP hS hH)
    · exact h.elim
  | aaload =>
    obtain ⟨rfl, h⟩ := h
    split at h
    · obtain ⟨hq, h⟩ := h
      obtain ⟨c1, k, f, hL, hc1, hin, h⟩ := lm_qa_of h
      have h9 := go h hZ hP hS hH
      rw [List.map_cons, lm_v_rf] at h9
      rcases hc1 with rfl | rfl
      · exact va_aldq (C := RX0) hx hb hcx.1 hP _ 3 (by rw [lm_w_at hq, hL]; rfl) rfl hin hd h9
      · exact va_aldq (C := RX1) hx hb hcx.1 hP _ 4 (by rw [lm_w_at hq, hL]; rfl) rfl hin hd h9
    · exact h.elim
  | iastore =>
    obtain ⟨rfl, h⟩ := h
    split at h
    · obtain ⟨hq, h⟩ := h
      obtain ⟨k, f, hL, hin, h⟩ := lm_ia_of h
      exact lm_iast hx hb hcx.1 hP hS _ 0 (by rw [lm_w_at hq, hL]; rfl) rfl hin hd (fun H1 locs1 a1 a2 a3 => go h ⟨by rw [a3]; exact hZ.1, fun h9 => by rw [a3]; exact hZ.2 h9⟩ (by rw [← lm_w_set hq rfl]; exact a1) a2 hH)
    · exact h.elim
  | bastore =>
    obtain ⟨rfl, h⟩ := h
    split at h
    · obtain ⟨hq, h01, h⟩ := h
      obtain ⟨k, f, hL, hin, h⟩ := lm_ia_of h
      exact lm_zast hx hb hcx.1 hP hS _ 1 (by rw [lm_w_at hq, hL]; rfl) rfl h01 hin hd (fun H1 locs1 a1 a2 a3 => go h ⟨by rw [a3]; exact hZ.1, fun h9 => by rw [a3]; exact hZ.2 h9⟩ (by rw [← lm_w_set hq rfl]; exact a1) a2 hH)
    · exact h.elim
  | lastore =>
    obtain ⟨rfl, h⟩ := h
    split at h
    · obtain ⟨hq, h⟩ := h
      obtain ⟨k, f, hL, hin, h⟩ := lm_la_of h
      exact lm_last hx hb hcx.1 hP hS _ 2 (by rw [lm_w_at hq, hL]; rfl) rfl hin hd (fun H1 locs1 a1 a2 a3 => go h ⟨by rw [a3]; exact hZ.1, fun h9 => by rw [a3]; exact hZ.2 h9⟩ (by rw [← lm_w_set hq rfl]; exact a1) a2 hH)
    · exact h.elim
  | arraylength =>
    obtain ⟨rfl, h⟩ := h
    split at h
    · rename_i a r
      obtain ⟨hq, h⟩ := h
      split at h
      · rename_i c1 k x hL
        obtain ⟨hc1, h⟩ := h
        have he : (lm_w B b n L)[a]? = some (B + a, .inl (c1, lm_ar B (k, x))) := by rw [lm_w_at hq, hL]; rfl
        have hz : Int32.ofNat (lm_ar B (k, x)).1 = Int32.ofNat k := by rcases x with x | x | x | x | x <;> rfl
        rcases hc1 with rfl | rfl | rfl
        · exact va_alen hx hb hcx.1 hP _ 0 he rfl hz hd (go h hZ hP hS hH)
        · exact va_alen hx hb hcx.1 hP _ 3 he rfl hz hd (go h hZ hP hS hH)
        · exact va_alen hx hb hcx.1 hP _ 4 he rfl hz hd (go h hZ hP hS hH)
      · exact h.elim
    · obtain ⟨q, hq, h⟩ := lm_at_of h
      obtain ⟨hX, hbB, hbl⟩ := hscr _ hq
      exact va_slen hx hb hX hbl (Nat.not_le.mpr hbB) hS hd (go h hZ hP hS hH)
    · exact h.elim
  | invokevirtual j =>
    obtain ⟨rfl, h⟩ := h
    obtain ⟨f, hf, h⟩ := lm_at_of h
    obtain ⟨As, r, hAl, hst0, h1⟩ := lm_pop_of _ _ _ h
    clear h
    subst hst0
    rw [List.append_nil] at h1
    obtain ⟨y, c1, maxL, ret, rm, C, T, N, k, hk, hc, hM, hcw⟩ := hcv _ _ hf
    match As, hAl, h1 with
    | .ref q :: As, hAl, h1 =>
      obtain ⟨hq, h1⟩ := h1
      obtain ⟨fs, hL, b1, b2, hst, hwp⟩ := lm_ob_of h1
      have he : (lm_w B b n L)[q]? = some (B + q, .inr (f.2.1, fs.map (lm_v B b))) := by rw [lm_w_at hq, hL]; rfl
      rw [lm_map_rev]
      refine lm_call (vx_runV (As := As.map (lm_v B b)) (rest := r.map (lm_v B b)) (b := B + q) ⟨hx, hb, hml, hown, hts⟩ (hM _ _ _ _ _ hwp) hcw ⟨lm_blind _ _ _ _ _ _ _ _, va_recv (q := (C, T, N)) (ci := f.2.1) (q0 := q) hcx.1 hP hc he, fun U hU hW => ⟨rfl, by rw [hU]; exact hZ, by rw [hU]; exact hP, hcx.to hW (by rw [hU]; exact hS.2.1)⟩⟩ rfl (by rw [List.length_map]; rw [hk] at hAl; simpa using hAl) hH.2.1.1 (by simp [lm_v]) (lv_room (by rw [lm_cats]; exact hst)) hd ⟨Nat.le_trans b1 hrc, Nat.le_trans b2 hrs⟩) hS ?_ ?_
      · intro rv n1 L1 H1 locs1 hp z1 p1 s1
        have h9 := go hp z1 p1 s1 hH
        rw [List.map_append] at h9
        cases rv <;> exact h9
      · intro en n1 L1 H1 locs1 q9 ce hp z1 p1 s1 e1 e2 e3
        cases hct : lm_ct E pc en with
        | none =>
          rw [hct] at hp
          exact hXo pc en lo r n1 L1 _ _ hct b1 b2 hp H1 locs1 ls q9 ce z1 p1 s1 hH e1 e2 e3
        | some h0 =>
          rw [hct] at hp
          exact hXc pc en h0 lo r n1 L1 _ _ hct (fun k9 => hK _ _ _ _ _ _ _ (hp k9)) H1 locs1 ls q9 ce z1 p1 s1 hH e1 e2 e3
    | [], _, h1 => exact h1.elim
    | .int _ :: _, _, h1 => exact h1.elim
    | .long _ :: _, _, h1 => exact h1.elim
    | .float _ :: _, _, h1 => exact h1.elim
    | .double _ :: _, _, h1 => exact h1.elim
    | .null :: _, _, h1 => exact h1.elim
    | .retAddr _ :: _, _, h1 => exact h1.elim
  | invokestatic j =>
    obtain ⟨rfl, h⟩ := h
    split at h
    · rename_i hcj
      obtain ⟨hex, w1, w2, w3, w4, hf1, hl1⟩ := hcp _ hcj
      split at h
      · rename_i k dp a sp a0 r
        obtain ⟨rfl, hq, hst, h⟩ := h
        obtain ⟨N, f, hL, c1, c2, c3, c4, c5, h⟩ := lm_ia_of h
        have he : (lm_w B b n L)[a0]? = some (B + a0, .inl (lm_id E 0, N, .inl f)) := by rw [lm_w_at hq, hL]; rfl
        refine va_copyi hx hb (by rw [hml]; exact hH.2.1.1.symm) hown (hts _ w1) (hts _ w2) (hts _ w3) (hts _ w4) hcx.1 hP lm_w_D hS a0 a0 0 0 he he rfl rfl rfl c1 c2 c3 c4 c5 (fun _ _ => rfl) hf1 (Nat.le_trans (Nat.add_le_add_right (by rw [lm_cats]; exact hst) _) hl1) hd (fun H1 locs1 a1 _ a3 => ?_)
        have a1 : va_P D vwCl (lm_w B b n (va_up L a0 (.inl (lm_id E 0, N, .inl (va_cpy f f sp.toNatClampNeg dp.toNatClampNeg k.toNatClampNeg))))) H1 := by rw [← lm_w_set hq rfl]; exact a1
        refine go h ⟨?_, fun h9 => by rw [hex] at h9; cases h9⟩ a1 a3 hH
        have hn0 : 0 < n := Nat.lt_of_le_of_lt (Nat.zero_le _) hq
        have hn1 : n - 1 < n := by omega
        have h9 := (a1 (n - 1) _ (lm_w_at hn1)).lt
        dsimp only at h9
        omega
      · exact h.elim
    · obtain ⟨f, hf, h⟩ := lm_at_of h
      obtain ⟨As, r, hAl, hst0, h1⟩ := lm_pop_of _ _ _ h
      clear h
      subst hst0
      rw [List.append_nil] at h1
      obtain ⟨b1, b2, hst, hwp⟩ := h1
      rw [lm_map_rev]
      rcases hcs _ _ hf with ⟨y, c1, maxL, ret, rm, hM, hcw⟩ | ⟨y, c1, maxL, ret, hh, rm, hM, hcw⟩
      · refine lm_call (vx_runS (As := As.map (lm_v B b)) (rest := r.map (lm_v B b)) ⟨hx, hb, hml, hown, hts⟩ (hM _ _ _ _ _ hwp) hcw ⟨lm_blind _ _ _ _ _ _ _ _, fun U hU hW => ⟨rfl, by rw [hU]; exact hZ, by rw [hU]; exact hP, hcx.to hW (by rw [hU]; exact hS.2.1)⟩⟩ rfl (by rw [List.length_map]; exact hAl) hH.2.1.1 rfl (lv_room (by rw [lm_cats]; exact hst)) hd ⟨Nat.le_trans b1 hrc, Nat.le_trans b2 hrs⟩) hS ?_ ?_
        · intro rv n1 L1 H1 locs1 hp z1 p1 s1
          have h9 := go hp z1 p1 s1 hH
          rw [List.map_append] at h9
          cases rv <;> exact h9
        · intro en n1 L1 H1 locs1 q9 ce hp z1 p1 s1 e1 e2 e3
          cases hct : lm_ct E pc en with
          | none =>
            rw [hct] at hp
            exact hXo pc en lo r n1 L1 _ _ hct b1 b2 hp H1 locs1 ls q9 ce z1 p1 s1 hH e1 e2 e3
          | some h0 =>
            rw [hct] at hp
            exact hXc pc en h0 lo r n1 L1 _ _ hct (fun k9 => hK _ _ _ _ _ _ _ (hp k9)) H1 locs1 ls q9 ce z1 p1 s1 hH e1 e2 e3
      · refine lm_call (vx_runSX (As := As.map (lm_v B b)) (rest := r.map (lm_v B b)) ⟨hx, hb, hml, hown, hts⟩ (hM _ _ _ _ _ hwp) hcw ⟨lm_blind _ _ _ _ _ _ _ _, fun U hU hW => ⟨rfl, by rw [hU]; exact hZ, by rw [hU]; exact hP, hcx.to hW (by rw [hU]; exact hS.2.1)⟩⟩ rfl (by rw [List.length_map]; exact hAl) hH.2.1.1 rfl (lv_room (by rw [lm_cats]; exact hst)) hd ⟨Nat.le_trans b1 hrc, Nat.le_trans b2 hrs⟩) hS ?_ ?_
        · intro rv n1 L1 H1 locs1 hp z1 p1 s1
          have h9 := go hp z1 p1 s1 hH
          rw [List.map_append] at h9
          cases rv <;> exact h9
        · intro en n1 L1 H1 locs1 q9 ce hp z1 p1 s1 e1 e2 e3
          cases hct : lm_ct E pc en with
          | none =>
            rw [hct] at hp
            exact hXo pc en lo r n1 L1 _ _ hct b1 b2 hp H1 locs1 ls q9 ce z1 p1 s1 hH e1 e2 e3
          | some h0 =>
            rw [hct] at hp
            exact hXc pc en h0 lo r n1 L1 _ _ hct (fun k9 => hK _ _ _ _ _ _ _ (hp k9)) H1 locs1 ls q9 ce z1 p1 s1 hH e1 e2 e3
  | invokespecial j =>
    obtain ⟨rfl, h⟩ := h
    obtain ⟨f, hf, h⟩ := lm_at_of h
    obtain ⟨As, r, hAl, hst0, h1⟩ := lm_pop_of _ _ _ h
    clear h
    subst hst0
    rw [List.append_nil] at h1
    match As, hAl, h1 with
    | .ref q :: As, hAl, h1 =>
      obtain ⟨b1, b2, hst, hwp⟩ := h1
      rw [lm_map_rev]
      rcases hci _ _ hf with ⟨hk, hf2, w1, w2, w3, hf1, hl1⟩ | ⟨y, c1, maxL, rm, hk, hyn, hM, hmono, hcw⟩
      · obtain ⟨f0, f1, f2, f3, f4⟩ := f
        obtain ⟨rfl, rfl, rfl⟩ : f2 = (fun _ n L post _ => post none n L) ∧ f3 = 0 ∧ f4 = 0 := by
          simp only [Prod.mk.injEq] at hf2
          exact hf2
        have hA0 : As = [] := by
          have h9 : f0 = 1 := hk
          rw [h9] at hAl
          simpa using hAl
        subst hA0
        refine W.objInit hx hb hown (hts _ w1) (hts _ w2) (hts _ w3) rfl (by rw [hml]; exact hH.2.1.1) rfl hd hf1 ?_ (go hwp hZ hP hS hH)
        show 0 + ((r.map (lm_v B b)).map fun v => v.category).sum + 12 ≤ R.locals
        rw [lm_cats]
        omega
      · have hA0 : As = [] := by
          rw [hk] at hAl
          simpa using hAl
        subst hA0
        have hMet : Met l y (.code y c1 maxL none :: lm_WT) rm (lm_Pc D (lm_tys E) B b ex [.ref q] n L) (lm_Qc D B b ex (fun rv n1 L1 => K (pc + 3) lo (rv.toList ++ r) n1 L1 (bc + f.2.2.2.1) (bs + f.2.2.2.2))) f.2.2.2.1 f.2.2.2.2 (lm_A B) := by
          refine MetFree.mono (hM _ _ _ _ _ (hmono _ _ _ _ _ hwp)) (fun _ _ h => h) (fun _ _ _ _ _ _ => trivial) (fun a9 s9 o9 t9 _ h9 => ?_)
          rcases h9 with h9 | ⟨q9, -, E9, ce9, L9, ⟨n9, L9', hF, -⟩, -⟩
          · exact h9
          · exact hF.elim
        have hrun : va_Run p l e R s m args below meth c H locs bc bs f.2.2.2.1 f.2.2.2.2 (F0 m pc ls (([Value.ref q].map (lm_v B b)).reverse ++ r.map (lm_v B b))) (r.map (lm_v B b)) (lm_Qc D B b ex (fun rv n1 L1 => K (pc + 3) lo (rv.toList ++ r) n1 L1 (bc + f.2.2.2.1) (bs + f.2.2.2.2)) #[.ref (B + q)]) (lm_A B) := by
          rcases hcw with hcw | ⟨host, hcw⟩
          · exact va_runI (As := []) (rest := r.map (lm_v B b)) (b := B + q) ⟨hx, hb, hml, hown, hts⟩ hMet hcw ⟨lm_blind _ _ _ _ _ _ _ _, fun U hU hW => ⟨rfl, by rw [hU]; exact hZ, by rw [hU]; exact hP, hcx.to hW (by rw [hU]; exact hS.2.1)⟩⟩ rfl rfl hH.2.1.1 rfl (lv_room (by rw [lm_cats]; exact hst)) hd ⟨Nat.le_trans b1 hrc, Nat.le_trans b2 hrs⟩
          · exact va_runIN (As := []) (rest := r.map (lm_v B b)) (b := B + q) ⟨hx, hb, hml, hown, hts⟩ hMet hcw ⟨lm_blind _ _ _ _ _ _ _ _, fun U hU hW => ⟨rfl, by rw [hU]; exact hZ, by rw [hU]; exact hP, hcx.to hW (by rw [hU]; exact hS.2.1)⟩⟩ rfl rfl hH.2.1.1 rfl (lv_room (by rw [lm_cats]; exact hst)) hd ⟨Nat.le_trans b1 hrc, Nat.le_trans b2 hrs⟩
        refine lm_callN hrun hS ?_
        intro rv n1 L1 H1 locs1 hp z1 p1 s1
        have h9 := go hp z1 p1 s1 hH
        rw [List.map_append] at h9
        cases rv <;> exact h9
    | [], _, h1 => exact h1.elim
    | .int _ :: _, _, h1 => exact h1.elim
    | .long _ :: _, _, h1 => exact h1.elim
    | .float _ :: _, _, h1 => exact h1.elim
    | .double _ :: _, _, h1 => exact h1.elim
    | .null :: _, _, h1 => exact h1.elim
    | .retAddr _ :: _, _, h1 => exact h1.elim
  | ireturn =>
    obtain ⟨rfl, h⟩ := h
    split at h
    · exact hQi _ _ _ _ _ _ _ hd h.1 h.2.1 h.2.2 H locs ls hZ hP hS hH
    · exact h.elim
  | areturn =>
    obtain ⟨rfl, h⟩ := h
    split at h
    · exact hQa _ _ _ _ _ _ _ hd h.1 h.2.1 (Or.inr ⟨_, rfl⟩) h.2.2 H locs ls hZ hP hS hH
    · exact hQa _ _ _ _ _ _ _ hd h.1 h.2.1 (Or.inl rfl) h.2.2 H locs ls hZ hP hS hH
    · exact h.elim
  | return_ =>
    obtain ⟨rfl, h⟩ := h
    split at h
    · exact hQv _ _ _ _ _ _ hd h.1 h.2.1 h.2.2 H locs ls hZ hP hS hH
    · exact h.elim
  | new j =>
    obtain ⟨rfl, h⟩ := h
    split at h
    · rename_i en hen
      obtain ⟨rfl, b1, b2, h2⟩ := h
      exact hthr _ _ _ _ _ _ _ hen b1 b2 h2 H locs ls hZ hP hS hH
    · obtain ⟨f, hf, b1, b2, h⟩ := lm_at_of h
      obtain ⟨C, T, hex, ⟨hc, hw, -, -⟩, w1, w2, w3, ⟨ty, hty, hdf⟩, hmp⟩ := hnew _ _ hf
      have hz := hZ.2 hex
      have hKn := hcx.1.1 f.1 _ hc
      refine W.newcK hx hb hown (hts _ w1) (hts _ w2) (hts _ w3) rfl hd (Nat.le_trans b1 hrc) (Nat.le_trans b2 hrs) hKn.2.1 hz fun H1 kC hkC e1 z1 o1 => ?_
      have hP1 : va_P D vwCl (lm_w B b (n + 1) (va_up L n (.inr (f.1, f.2)))) H1 := by
        rw [← lm_w_push (e := .inr (f.1, f.2)) rfl]
        refine (hP.kept (fun k x hx9 => o1 x.1 (by rw [← hz]; exact (hP k x hx9).lt))).app (fun k x hx9 => ?_)
        have hz9 : k < 1 := (List.getElem?_eq_some_iff.mp hx9).1
        rw [show k = 0 by omega] at hx9
        cases hx9
        refine ⟨_, hc, (u_born ty hts hw hKn hkC e1 hty).to (fun j hj => ?_)⟩
        rw [hdf j hj]
        show vp_V f.2 j = vp_V (f.2.map (lm_v B b)) j
        rw [hmp]
      exact go h ⟨by rw [z1]; omega, fun _ => by rw [z1]; omega⟩ hP1 (lm_grow hS (by rw [z1, hz]; omega) (fun q hq => o1 q (by rw [← hz]; exact hq))) hH
  | newarray t =>
    obtain ⟨rfl, hal, h⟩ := h
    obtain ⟨x, r, rfl, hx0, hx1, b1, b2, h⟩ := lm_s1_of h
    obtain ⟨hex, wi, wz, wj⟩ := hnar hal
    have hz := hZ.2 hex
    cases t with
    | int =>
      refine va_newaK hx hb (atype := .int) (hts _ wi) rfl hd rfl hx0 rfl (Nat.le_trans (Nat.mul_le_mul_right _ hx1) (by decide)) (Nat.le_trans b1 hrc) (Nat.le_trans b2 hrs) hz fun H1 cA e1 z1 o1 _ hnm => ?_
      exact lm_fresh (a0 := (x.toNatClampNeg, .inl (fun _ => 0))) (ty := .int) 0 hcx.1 rfl hnm hZ hz hP hS e1 z1 o1 (fun a1 a2 a3 => go h a1 a2 a3 hH)
    | boolean =>
      refine va_newaK hx hb (atype := .boolean) (hts _ wz) rfl hd rfl hx0 rfl (Nat.le_trans (Nat.mul_le_mul_right _ hx1) (by decide)) (Nat.le_trans b1 hrc) (Nat.le_trans b2 hrs) hz fun H1 cA e1 z1 o1 _ hnm => ?_
      exact lm_fresh (a0 := (x.toNatClampNeg, .inl (fun _ => 0))) (ty := .boolean) 1 hcx.1 rfl hnm hZ hz hP hS e1 z1 o1 (fun a1 a2 a3 => go h a1 a2 a3 hH)
    | long =>
      refine va_newaK hx hb (atype := .long) (hts _ wj) rfl hd rfl hx0 rfl (Nat.le_trans (Nat.mul_le_mul_right _ hx1) (by decide)) (Nat.le_trans b1 hrc) (Nat.le_trans b2 hrs) hz fun H1 cA e1 z1 o1 _ hnm => ?_
      exact lm_fresh (a0 := (x.toNatClampNeg, .inr (.inl (fun _ => 0)))) (ty := .long) 2 hcx.1 rfl hnm hZ hz hP hS e1 z1 o1 (fun a1 a2 a3 => go h a1 a2 a3 hH)
    | _ => exact h.elim
  | anewarray j =>
    obtain ⟨rfl, h⟩ := h
    obtain ⟨x, r, rfl, h⟩ := lm_s1_of h
    obtain ⟨f, hf, hf2, hx0, hx1, b1, b2, h⟩ := lm_at_of h
    obtain ⟨C, T, hex, ⟨hc, -, -, -⟩, w1, -⟩ := hnew _ _ hf
    have hz := hZ.2 hex
    have hCC : (f.1 = 0 ∧ C = RX0) ∨ (f.1 = 1 ∧ C = RX1) := by
      rcases (show f.1 = 0 ∨ f.1 = 1 by omega) with e | e
      · rw [e] at hc; exact Or.inl ⟨e, (congrArg Prod.fst (Option.some.inj (show some (RX0, TX0, 15) = some (C, T, f.2.length) from hc))).symm⟩
      · rw [e] at hc; exact Or.inr ⟨e, (congrArg Prod.fst (Option.some.inj (show some (RX1, TX1, 2) = some (C, T, f.2.length) from hc))).symm⟩
    have key : ∀ (C1 : String) (t0 : Nat) (cA0 : ClassId), C = C1 → va_AO C1 s → (lm_tys E)[t0]? = some (cA0, .object C1) → K (pc + 3) lo (.ref n :: r) (n + 1) (va_up L n (.inl (cA0, x.toNatClampNeg, .inr (.inr (.inr (.inr (fun _ => none))))))) (bc + 1) (bs + x.toNatClampNeg) → W p l e R s m args below meth c H locs bc bs QF (F0 m pc ls ((.int x :: r).map (lm_v B b))) := by
      intro C1 t0 cA0 e0 hAO ht0 h
      subst e0
      refine W.anew hx hb hown (hts _ w1) (va_AO.use hAO) rfl hd rfl hx0 (Nat.le_trans (Nat.mul_le_mul_right _ hx1) (by decide)) (Nat.le_trans b1 hrc) (Nat.le_trans b2 hrs) fun cA kA comp f1 f2 f3 f4 => ?_
      have hcA : cA = cA0 := by
        obtain ⟨kA9, comp9, -, -, -, h9⟩ := (hcx.1.2 t0 _ ht0).2
        exact Option.some.inj (f1.symm.trans h9)
      subst hcA
      have e1 : (H.push ({ cls := cA, slots := Array.replicate x.toNatClampNeg .null, vm := .none } : Cell))[B + n]? = some (vp_cell cA (lm_ar B (x.toNatClampNeg, .inr (.inr (.inr (.inr (fun _ => none))))))) := by
        rw [← hz, Array.getElem?_push_size]
        exact congrArg some (by first | exact arrV_new _ _ _ | exact arrV_new)
      have hP1 : va_P D vwCl (lm_w B b (n + 1) (va_up L n (.inl (cA, x.toNatClampNeg, .inr (.inr (.inr (.inr (fun _ => none)))))))) (H.push ({ cls := cA, slots := Array.replicate x.toNatClampNeg .null, vm := .none } : Cell)) := by
        rw [← lm_w_push (e := .inl (cA, x.toNatClampNeg, .inr (.inr (.inr (.inr (fun _ => none)))))) rfl]
        refine (hP.kept (fun k y hy9 => by rw [Array.getElem?_push, if_neg (Nat.ne_of_lt ((hP k y hy9).lt))])).app (fun k y hy9 => ?_)
        have hz9 : k < 1 := (List.getElem?_eq_some_iff.mp hy9).1
        rw [show k = 0 by omega] at hy9
        cases hy9
        exact e1
      have h9 := go (locs := locs) h ⟨by rw [Array.size_push]; omega, fun _ => by rw [Array.size_push]; omega⟩ hP1 (lm_grow hS (by rw [Array.size_push]; omega) (fun q hq => by rw [Array.getElem?_push, if_neg (Nat.ne_of_lt hq)])) hH
      rw [show H.size = B + n from hz]
      exact h9
    rcases hCC with ⟨e1, e2⟩ | ⟨e1, e2⟩
    · rw [e1] at h; exact key RX0 3 _ e2 hcx.2.2.2.2.2.2.1 rfl h
    · rw [e1] at h; exact key RX1 4 _ e2 hcx.2.2.2.2.2.2.2 rfl h
  | aastore =>
    obtain ⟨rfl, h⟩ := h
    split at h
    · rename_i v i a r
      obtain ⟨hq, hv, h⟩ := h
      obtain ⟨c1, k, f, hL, hc1, hin, h⟩ := lm_qa_of h
      have he : (lm_w B b n L)[a]? = some (B + a, .inl (c1, k, .inr (.inr (.inr (.inr (fun j => (f j).map (fun q => B + q))))))) := by rw [lm_w_at hq, hL]; rfl
      have hup : (va_up (fun j => (f j).map (fun q => B + q)) i.toNatClampNeg (some (B + v))) = (fun j => ((va_up f i.toNatClampNeg (some v)) j).map (fun q => B + q)) := by
        funext j
        by_cases hj : j = i.toNatClampNeg
        · subst hj; rw [va_up_self, va_up_self]; rfl
        · rw [va_up_ne _ _ hj, va_up_ne _ _ hj]
      rcases hc1 with ⟨rfl, ho⟩ | ⟨rfl, ho⟩
      · obtain ⟨vs, hLv, -⟩ := lm_ob_of ho
        exact lm_astq (r := (RX0, TX0, 15)) hx hb hcx.1 hP hS a 3 v 0 he rfl (by rw [lm_w_at hv, hLv]; rfl) rfl hin hd (fun H1 locs1 a1 a2 a3 => go h ⟨by rw [a3]; exact hZ.1, fun h9 => by rw [a3]; exact hZ.2 h9⟩ (by rw [← lm_w_set hq rfl]; rw [hup] at a1; exact a1) a2 hH)
      · obtain ⟨vs, hLv, -⟩ := lm_ob_of ho
        exact lm_astq (r := (RX1, TX1, 2)) hx hb hcx.1 hP hS a 4 v 1 he rfl (by rw [lm_w_at hv, hLv]; rfl) rfl hin hd (fun H1 locs1 a1 a2 a3 => go h ⟨by rw [a3]; exact hZ.1, fun h9 => by rw [a3]; exact hZ.2 h9⟩ (by rw [← lm_w_set hq rfl]; rw [hup] at a1; exact a1) a2 hH)
    · exact h.elim
  | _ => exact h.elim

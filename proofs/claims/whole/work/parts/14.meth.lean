/-! from a segment to the machine; a method's entry, its ends, its contract -/
theorem lm_seg_ok {p : Program} {l : Launch} {e : Env} {R : Room} {s : State} {m : MethodId} {args : Array Value} {below : List Frame} {meth : Method} {c : Code} {D : va_G} {B b : Nat} {ex : Bool} {nL : Nat} {own : String} {cc : ByteArray} {E : lm_E} {Q : lm_Q} {X : lm_X} {QF : State → Prop}
    (hT : lm_T p l e R s m args below meth c D B b ex nL own cc E Q X QF) (stop : Nat → Bool) : ∀ (f pc : Nat) (lo : lm_O) (st : List Value) (n : Nat) (L : lm_L) (bc bs : Nat),
    lm_seg E cc Q X stop (lm_G p l e R s m args below meth c D B b ex nL QF) f pc lo st n L bc bs → lm_G p l e R s m args below meth c D B b ex nL QF pc lo st n L bc bs := by
  intro f
  induction f with
  | zero => intro pc lo st n L bc bs h; exact h.elim
  | succ f ih =>
    intro pc lo st n L bc bs h
    unfold lm_seg at h
    split at h
    · rename_i i len hd
      refine lm_step_ok hT (fun pc lo st n L bc bs hk => ?_) hd h
      by_cases hs : stop pc = true
      · rw [if_pos hs] at hk; exact hk
      · rw [if_neg hs] at hk; exact ih _ _ _ _ _ _ _ hk
    · exact h.elim
theorem lm_wp_ok {p : Program} {l : Launch} {e : Env} {R : Room} {s : State} {m : MethodId} {args : Array Value} {below : List Frame} {meth : Method} {c : Code} {D : va_G} {B b : Nat} {ex : Bool} {nL : Nat} {own : String} {cc : ByteArray} {E : lm_E} {Q : lm_Q} {X : lm_X} {QF : State → Prop}
    (hT : lm_T p l e R s m args below meth c D B b ex nL own cc E Q X QF) {pc : Nat} {lo : lm_O} {st : List Value} {n : Nat} {L : lm_L} {bc bs : Nat} (h : lm_wp E cc Q X pc lo st n L bc bs) : lm_G p l e R s m args below meth c D B b ex nL QF pc lo st n L bc bs :=
  h _ (fun stop f pc lo st n L bc bs h9 => lm_seg_ok hT stop f pc lo st n L bc bs h9)
theorem lm_args_at : ∀ (vs : List Value) (i j : Nat) (v : Value), (∀ u ∈ vs, u.category = 1) → vs[j]? = some v → (i + j, v) ∈ lv_args i vs
  | [], i, j, v, _, h => by simp at h
  | u :: vs, i, 0, v, hc, h => by
    simp at h
    subst h
    exact List.mem_cons_self
  | u :: vs, i, j + 1, v, hc, h => by
    unfold lv_args
    rw [if_neg (by rw [hc u List.mem_cons_self]; decide)]
    refine List.mem_cons_of_mem _ ?_
    have h9 := lm_args_at vs (i + 1) j v (fun w hw => hc w (List.mem_cons_of_mem _ hw)) (by simpa using h)
    rw [show i + (j + 1) = i + 1 + j by omega]
    exact h9
theorem lm_sl_len : ∀ (vs : List Value), (∀ u ∈ vs, u.category = 1) → (lg_sl vs).length = vs.length
  | [], _ => rfl
  | u :: vs, h => by
    have h1 := lm_sl_len vs (fun w hw => h w (List.mem_cons_of_mem _ hw))
    have h2 : ¬ u.category = 2 := by rw [h u List.mem_cons_self]; decide
    simp [lg_sl, h2] at h1 ⊢
    omega
theorem lm_entry {B b nL : Nat} {As : List Value} (hc : ∀ u ∈ As, u.category = 1) (hl : As.length ≤ nL) : lm_H B b nL (lm_ent As nL) ((lg_sl (As.map (lm_v B b)) ++ List.replicate (nL - (lg_sl (As.map (lm_v B b))).length) Slot.unset).toArray) := by
  have hc2 : ∀ u ∈ As.map (lm_v B b), u.category = 1 := by
    intro u hu
    obtain ⟨w, hw, rfl⟩ := List.mem_map.mp hu
    rw [lm_v_cat]
    exact hc w hw
  have hl2 : (lg_sl (As.map (lm_v B b))).length ≤ nL := by rw [lm_sl_len _ hc2, List.length_map]; exact hl
  have h1 := lv_entry (As.map (lm_v B b)) hl2
  have key : ∀ (i : Nat) (v : Value), (lm_ent As nL)[i]? = some (some v) → As[i]? = some v := by
    intro i v hi
    unfold lm_ent at hi
    by_cases hia : i < As.length
    · rw [List.getElem?_append_left (by simpa using hia), List.getElem?_map] at hi
      cases ha : As[i]? with
      | none => rw [ha] at hi; simp at hi
      | some w => rw [ha] at hi; simp at hi; rw [hi]
    · rw [List.getElem?_append_right (by simp; omega)] at hi
      have := List.mem_of_getElem? hi
      simp at this
  refine ⟨by simp [lm_ent]; omega, ⟨h1.1, h1.2.1, fun q hq => h1.2.2 q ?_⟩, fun i v hi => hc v (List.mem_of_getElem? (key i v hi))⟩
  obtain ⟨v, hv, he⟩ := lm_ls_mem.mp hq
  have h2 := key _ _ hv
  have h3 := lm_args_at (As.map (lm_v B b)) 0 q.1 (lm_v B b v) hc2 (by rw [List.getElem?_map, h2]; rfl)
  rw [Nat.zero_add, ← he] at h3
  exact h3
/-- the world stays where cells are only made -/
theorem lm_kept {D : va_G} {B b n : Nat} {L : lm_L} {H H1 : Heap} (hP : va_P D vwCl (lm_w B b n L) H) (hk : ∀ q : Nat, q < H.size → H1[q]? = H[q]?) : va_P D vwCl (lm_w B b n L) H1 :=
  hP.kept (fun k q hq => hk q.1 ((hP k q hq).lt))
/-! a method's ends -/
section LME
variable {p : Program} {l : Launch} {e : Env} {R : Room} {s : State} {m : MethodId} {args : Array Value} {below : List Frame} {meth : Method} {c : Code} {D : va_G} {B b : Nat} {ex : Bool} {nL : Nat} {cc : ByteArray} {post Q : lm_Q} {X : lm_X} {mc ms : Nat}
theorem lm_endi (hx : p.tables.exec = Jvm.exec) (hb : c.code = cc) (hr : meth.sig.returnType = some .int) (hlk : meth.locks = false) (hQ : ∀ r n L, Q r n L → post r n L) {pc : Nat} {lo : lm_O} {x : Int32} {n : Nat} {L : lm_L} {bc bs : Nat} (hd : decode cc pc = .ok (.ireturn, 1)) (b1 : bc ≤ mc) (b2 : bs ≤ ms) (h : Q (some (.int x)) n L) :
    lm_G p l e R s m args below meth c D B b ex nL (vx_MQ below (lm_Qc D B b ex post) (lm_XC D B b ex X) args s mc ms (lm_A B)) pc lo [.int x] n L bc bs := by
  intro H locs ls hZ hP hS hH
  exact vx_ret (W.widen b1 b2 (W.iret hx hb hr (fun t ht hW => ⟨some (.int x), n, L, rfl, hQ _ _ _ h, by rw [ht]; exact hZ, by rw [ht]; exact hP, hS.F ht⟩) hS.2.2 hd))
theorem lm_endz (hx : p.tables.exec = Jvm.exec) (hb : c.code = cc) (hr : meth.sig.returnType = some .boolean) (hlk : meth.locks = false) (hQ : ∀ r n L, Q r n L → post r n L ∧ (r = some (.int 0) ∨ r = some (.int 1))) {pc : Nat} {lo : lm_O} {x : Int32} {n : Nat} {L : lm_L} {bc bs : Nat} (hd : decode cc pc = .ok (.ireturn, 1)) (b1 : bc ≤ mc) (b2 : bs ≤ ms) (h : Q (some (.int x)) n L) :
    lm_G p l e R s m args below meth c D B b ex nL (vx_MQ below (lm_Qc D B b ex post) (lm_XC D B b ex X) args s mc ms (lm_A B)) pc lo [.int x] n L bc bs := by
  intro H locs ls hZ hP hS hH
  have hn : narrow .boolean (.int x) = .int x := by
    rcases (hQ _ _ _ h).2 with h9 | h9 <;> (cases h9; rfl)
  exact vx_ret (W.widen b1 b2 (W.zret hx hb hr hn (fun t ht hW => ⟨some (.int x), n, L, rfl, (hQ _ _ _ h).1, by rw [ht]; exact hZ, by rw [ht]; exact hP, hS.F ht⟩) hS.2.2 hd))
theorem lm_endv (hx : p.tables.exec = Jvm.exec) (hb : c.code = cc) (hr : meth.sig.returnType = none) (hlk : meth.locks = false) (hQ : ∀ r n L, Q r n L → post r n L) {pc : Nat} {lo : lm_O} {n : Nat} {L : lm_L} {bc bs : Nat} (hd : decode cc pc = .ok (.return_, 1)) (b1 : bc ≤ mc) (b2 : bs ≤ ms) (h : Q none n L) :
    lm_G p l e R s m args below meth c D B b ex nL (vx_MQ below (lm_Qc D B b ex post) (lm_XC D B b ex X) args s mc ms (lm_A B)) pc lo [] n L bc bs := by
  intro H locs ls hZ hP hS hH
  exact vx_ret (W.widen b1 b2 (W.vret hx hb hr (fun t ht hW => ⟨none, n, L, rfl, hQ _ _ _ h, by rw [ht]; exact hZ, by rw [ht]; exact hP, hS.F ht⟩) hS.2.2 hd))
theorem lm_enda (hx : p.tables.exec = Jvm.exec) (hb : c.code = cc) {cn : String} (hr : meth.sig.returnType = some (.object cn)) (hlk : meth.locks = false) (hQ : ∀ r n L, Q r n L → post r n L) {pc : Nat} {lo : lm_O} {v : Value} {n : Nat} {L : lm_L} {bc bs : Nat} (hd : decode cc pc = .ok (.areturn, 1)) (b1 : bc ≤ mc) (b2 : bs ≤ ms) (hv : v = .null ∨ ∃ k, v = .ref k) (h : Q (some v) n L) :
    lm_G p l e R s m args below meth c D B b ex nL (vx_MQ below (lm_Qc D B b ex post) (lm_XC D B b ex X) args s mc ms (lm_A B)) pc lo [v] n L bc bs := by
  intro H locs ls hZ hP hS hH
  refine vx_ret (W.widen b1 b2 (W.aret (v := lm_v B b v) hx hb hr (Or.inl ⟨_, rfl⟩) ?_ (fun t ht hW => ⟨some v, n, L, rfl, hQ _ _ _ h, by rw [ht]; exact hZ, by rw [ht]; exact hP, hS.F ht⟩) hS.2.2 hd))
  rcases hv with rfl | ⟨k, rfl⟩
  · exact Or.inl rfl
  · exact Or.inr ⟨_, rfl⟩
/-- a throw goes out -/
theorem lm_endx (htab : ∀ x ∈ c.exceptionTable.toList, False) (hlk : meth.locks = false) {pc : Nat} {en : String} {lo : lm_O} {st : List Value} {n : Nat} {L : lm_L} {bc bs : Nat} (b1 : bc ≤ mc) (b2 : bs ≤ ms) (h : X en n L) :
    lm_GX p l e R s m args below meth c D B b ex nL (vx_MQ below (lm_Qc D B b ex post) (lm_XC D B b ex X) args s mc ms (lm_A B)) pc lo st n L bc bs en := by
  intro H locs ls q ce hZ hP hS hH e1 e2 e3
  exact vx_out (fun x hx => (htab x hx).elim) hlk e1 e2 e3 (fun t ht hW => ⟨n, L, h, by rw [ht]; exact hZ, by rw [ht]; exact hP, hS.F ht⟩) hS.2.2 b1 b2
end LME

theorem st_arr {s : State} {args : Array Value} {ty : FieldType} (h : (Cond.arrayClass ty).before args s = true) : ∃ c, ArrOfT s c ty ∧ s.vm.findClass ("[" ++ ty.toString) = some c := by
  obtain ⟨c, k, comp, h1, h2, h3⟩ := Cond.arrayClass_spec h
  exact ⟨c, fun n z => ⟨(fun k h => by cases h), k, h2, comp, h3⟩, h1⟩
theorem st_ao {s : State} {args : Array Value} {C : String} (h : (Cond.arrayOver (.object C)).before args s = true) : ∃ c, ArrOfT s c (.object C) ∧ va_RA s c (.object C) := by
  obtain ⟨comp, c, k, h1, h2, h3, h4, h5⟩ := Cond.arrayOver_spec h
  exact ⟨c, fun n z => ⟨(fun k h => by cases h), k, h3, comp, h4⟩, k, comp, h3, h4, h1, h5⟩
theorem st_tb {w : Cond} (i : Nat) (h : lw_tbl[i]? = some w) : w ∈ lw_tbl := List.mem_of_getElem? h
set_option maxRecDepth 100000 in
theorem st_nest : ∀ w ∈ lm_nest, w ∈ lw_tbl := by decide +kernel
theorem st_str {s : State} {b : Nat} {k : Nat} {tx : String} (h1 : (Cond.stringRef RX2 k tx).before #[Value.ref b] s = true) (h2 : (Cond.exactly (Term.string RX2 k) "java/lang/String").before #[Value.ref b] s = true) : ∃ sa, vk_R RX2 k tx sa s := by
  obtain ⟨a, c, cA, kA, q1, -⟩ := Cond.exactly_spec h2
  exact ⟨a, vk_R.of h1 q1⟩
set_option maxRecDepth 100000 in
theorem st_ctx {s : State} {b : Nat} (hts : ∀ w ∈ lw_tbl, w.before #[Value.ref b] s = true) (hgv : (Jvm.Cond.and given_1 narrow_1).before #[Value.ref b] s = true) : ∃ (D : va_G) (ids : Nat → ClassId), lm_cx D (lm_ty ids) s.heap.size s := by
  have hfl := flat_of_before _ hgv
  have hA : ∀ a : Nat, a < s.heap.size → ¬ lm_A s.heap.size a := fun a ha => Nat.not_le.mpr ha
  obtain ⟨c0, i0, k0⟩ := u_known (C := RX0) (T := TX0) (N := 15) (n := 15) hts zl_X00 (hts (.instantiable RX0 15) (st_tb 54 rfl))
  obtain ⟨c1, i1, k1⟩ := u_known (C := RX1) (T := TX1) (N := 2) (n := 2) hts zl_X10 (hts (.instantiable RX1 2) (st_tb 113 rfl))
  obtain ⟨c2, i2, k2⟩ := u_known (C := RX2) (T := TX2) (N := 7) (n := 7) hts zl_X20 (hts (.instantiable RX2 7) (st_tb 43 rfl))
  obtain ⟨c3, i3, k3⟩ := u_known (C := RX3) (T := TX3) (N := 22) (n := 22) hts zl_X30 (hts (.instantiable RX3 22) (st_tb 448 rfl))
  obtain ⟨a0, f0, g0⟩ := st_arr (hts (.arrayClass .int) (st_tb 112 rfl))
  obtain ⟨a1, f1, g1⟩ := st_arr (hts (.arrayClass .boolean) (st_tb 520 rfl))
  obtain ⟨a2, f2, g2⟩ := st_arr (hts (.arrayClass .long) (st_tb 629 rfl))
  have o3 := hts (.arrayOver (.object RX0)) (st_tb 51 rfl)
  have o4 := hts (.arrayOver (.object RX1)) (st_tb 53 rfl)
  obtain ⟨a3, f3, g3⟩ := st_ao o3
  obtain ⟨a4, f4, g4⟩ := st_ao o4
  refine ⟨(fun k => match k with | 0 => c0 | 1 => c1 | 2 => c2 | _ => c3, fun k => match k with | 0 => i0 | 1 => i1 | 2 => i2 | _ => i3), fun k => match k with | 0 => a0 | 1 => a1 | 2 => a2 | 3 => a3 | _ => a4, ⟨fun k q hq => ?_, fun k q hq => ?_⟩, fun w hw => va_Nw.of (lm_soft_on (lm_nest_soft w hw)) (hts w (st_nest w hw)), fun q hq => ?_, ?_, ?_, ?_, va_AO.of o3, va_AO.of o4⟩
  · match k, hq with
    | 0, hq => cases hq; exact k0
    | 1, hq => cases hq; exact k1
    | 2, hq => cases hq; exact k2
    | 3, hq => cases hq; exact k3
    | k + 4, hq => simp at hq
  · match k, hq with
    | 0, hq => cases hq; exact ⟨f0, g0⟩
    | 1, hq => cases hq; exact ⟨f1, g1⟩
    | 2, hq => cases hq; exact ⟨f2, g2⟩
    | 3, hq => cases hq; exact ⟨f3, g3⟩
    | 4, hq => cases hq; exact ⟨f4, g4⟩
    | k + 5, hq => simp [lm_ty] at hq
  · simp only [lm_str, List.mem_cons, List.not_mem_nil, or_false] at hq
    rcases hq with rfl | rfl | rfl | rfl
    · exact st_str (hts (.stringRef RX2 173 "no such queue") (st_tb 288 rfl)) (hfl (Cond.exactly (Term.string RX2 173) "java/lang/String") (by decide +kernel))
    · exact st_str (hts (.stringRef RX2 175 "out of range") (st_tb 318 rfl)) (hfl (Cond.exactly (Term.string RX2 175) "java/lang/String") (by decide +kernel))
    · exact st_str (hts (.stringRef RX2 145 "no such what") (st_tb 414 rfl)) (hfl (Cond.exactly (Term.string RX2 145) "java/lang/String") (by decide +kernel))
    · exact st_str (hts (.stringRef RX2 152 "no such item") (st_tb 432 rfl)) (hfl (Cond.exactly (Term.string RX2 152) "java/lang/String") (by decide +kernel))
  · exact vx_Zqof (hts (.laysStatic Bundle.tN "UNASSIGNED_STACK" Bundle.steD) (st_tb 275 rfl)) (hts (.initialized Bundle.tN) (st_tb 35 rfl)) (hfl (Cond.isRef (.static Bundle.tN "UNASSIGNED_STACK" Bundle.steD)) (by decide +kernel)) hA
  · exact vx_Zqof (hts (.laysStatic Bundle.tN "SUPPRESSED_SENTINEL" Bundle.listD) (st_tb 277 rfl)) (hts (.initialized Bundle.tN) (st_tb 35 rfl)) (hfl (Cond.isRef (.static Bundle.tN "SUPPRESSED_SENTINEL" Bundle.listD)) (by decide +kernel)) hA
  · exact va_Nc.of (hfl (Cond.not (.castable lm_iob lm_iae)) (by decide +kernel))
set_option maxHeartbeats 8000000 in
set_option maxRecDepth 100000 in
/-- from the entry, for every script of at most 2048 ints, the law comes to its end with true -/
theorem whole_start {p : Program} {e : Env} {s : State} {m : MethodId} {below : List Frame} {meth : Method} {c : Code} (l : Launch) (hlt : l.stackTraces = false) {b L : Nat} {xs : Nat → Int32} (hL : L ≤ 2048) (C0 : lw_At p s m meth c b L xs) : W p l e room_1 s m #[Value.ref b] below meth c s.heap [] 0 0 (lw_Z below #[Value.ref b] s) (entryFrame m ([Value.ref b] : List Value).toArray 7) := by
  obtain ⟨hx, hb, hr, hml, hown, hts0, hX, hbl, hlk, hgv⟩ := C0
  obtain ⟨D, ids, hcx⟩ := st_ctx hts0 hgv
  have hts : ∀ w ∈ lm_WT, w.before #[Value.ref b] s = true := fun w hw => hts0 w (List.mem_filter.mp hw).1
  generalize hB : s.heap.size = B at *
  have hret : ∀ (ex : Bool) (pc : Nat) (lo : lm_O) (x : Int32) (n : Nat) (L : lm_L) (bc bs : Nat), decode cL_law pc = .ok (.ireturn, 1) → bc ≤ 601024 → bs ≤ 7293034 → (some (.int x) : Option Value) = some (.int 1) → lm_G p l e room_1 s m #[Value.ref b] below meth c D B b ex 7 (lw_Z below #[Value.ref b] s) pc lo [.int x] n L bc bs := by
    intro ex pc lo x n L bc bs hd h1 h2 h3
    cases h3
    intro H locs ls hZ hP hS hH
    exact W.widen h1 h2 (va_forget (fun q hq => by rw [hB]; exact hS.2.2 q hq) (lw_ret hx hb hr hlk hd))
  have hT1 : lm_T p l e room_1 s m #[Value.ref b] below meth c D B b true 7 RL cL_law (E1 ids) (fun r _ _ => r = some (.int 1)) (fun _ _ _ => False) (lw_Z below #[Value.ref b] s) := by
    refine ⟨hx, hb, hml, hown, hts, hcx, Nat.le_of_eq hB.symm, (fun h9 => by cases h9), Nat.le_refl _, Nat.le_refl _, (fun j f hf => by cases hf), (fun j f hf => by cases hf), (fun j f hf => by cases hf), (fun j v hv => by cases hv), (fun pc en lo n1 L1 bc bs h1 => by cases h1), (fun pc en lo st n1 L1 bc bs _ _ _ h4 => h4.elim), (fun pc en h lo st n1 L1 bc bs h1 => by cases h1), (fun pc lo x n1 L1 bc bs hd h1 h2 h3 => hret true pc lo x n1 L1 bc bs hd h1 h2 h3), (fun pc lo v n1 L1 bc bs hd h1 h2 h3 h4 => ?_), (fun pc lo n1 L1 bc bs hd h1 h2 h3 => by cases h3), (fun q hq => by cases hq), (fun j hj => by cases hj), (fun j f hf => ?_), (fun _ => ⟨rfl, lm_wt 112 rfl rfl, lm_wt 520 rfl rfl, lm_wt 629 rfl rfl⟩), (fun j f hf => ?_)⟩
    · rcases h3 with rfl | ⟨k, rfl⟩ <;> cases h4
    · unfold E1 lm_mkL at hf
      change nw_law j = some f at hf
      unfold nw_law at hf
      split at hf
      · cases hf; exact ⟨RX2, TX2, rfl, lc_2, lm_wt 42 rfl rfl, lm_wt 43 rfl rfl, lm_wt 31 rfl rfl, ⟨tyX2, tyX2_ok, by decide +kernel⟩, rfl⟩
      · cases hf; exact ⟨RX3, TX3, rfl, lc_3, lm_wt 447 rfl rfl, lm_wt 448 rfl rfl, lm_wt 34 rfl rfl, ⟨tyX3, tyX3_ok, by decide +kernel⟩, rfl⟩
      · cases hf
    · change ci_law ids j = some f at hf
      unfold ci_law at hf
      split at hf
      · cases hf; exact Or.inr ⟨yX2_init, cX2_init, 2, rm_X2_init, rfl, rfl, ok_X2_init l D ids B b, (fun _ _ _ _ _ h => h), Or.inl ⟨callB_of (Ts := lm_WT) 0 hts (lm_goodC (lm_wt 46 rfl rfl)) rfl rfl rfl (hts _ (lm_wt 31 rfl rfl)) (hts _ (lm_wt 44 rfl rfl)) ld_X2_init (by decide), rfl, hts _ (lm_wt 45 rfl rfl)⟩⟩
      · cases hf; exact Or.inr ⟨yX3_init, cX3_init, 2, rm_X3_init, rfl, rfl, ok_X3_init l D ids B b, (fun _ _ _ _ _ h => h), Or.inl ⟨callB_of (Ts := lm_WT) 0 hts (lm_goodC (lm_wt 451 rfl rfl)) rfl rfl rfl (hts _ (lm_wt 34 rfl rfl)) (hts _ (lm_wt 449 rfl rfl)) ld_X3_init (by decide), rfl, hts _ (lm_wt 450 rfl rfl)⟩⟩
      · cases hf
  have hT2 : lm_T p l e room_1 s m #[Value.ref b] below meth c D B b false 7 RL cL_law (E2 ids L xs) (fun r _ _ => r = some (.int 1)) (fun _ _ _ => False) (lw_Z below #[Value.ref b] s) := by
    refine ⟨hx, hb, hml, hown, hts, hcx, Nat.le_of_eq hB.symm, (fun h9 => by cases h9), Nat.le_refl _, Nat.le_refl _, (fun j f hf => by cases hf), (fun j f hf => ?_), (fun j f hf => ?_), (fun j v hv => by cases hv), (fun pc en lo n1 L1 bc bs h1 => by cases h1), (fun pc en lo st n1 L1 bc bs _ _ _ h4 => h4.elim), (fun pc en h lo st n1 L1 bc bs h1 => by cases h1), (fun pc lo x n1 L1 bc bs hd h1 h2 h3 => hret false pc lo x n1 L1 bc bs hd h1 h2 h3), (fun pc lo v n1 L1 bc bs hd h1 h2 h3 h4 => ?_), (fun pc lo n1 L1 bc bs hd h1 h2 h3 => by cases h3), (fun q hq => ?_), (fun j hj => by cases hj), (fun j f hf => by cases hf), (fun h9 => by cases h9), (fun j f hf => by cases hf)⟩
    · change cv_law ids j = some f at hf
      unfold cv_law at hf
      split at hf
      · cases hf; exact ⟨yX3_quota, cX3_quota, 4, (some .int), rm_X3_quota, RX3, TX3, 22, 3, rfl, rfl, ok_X3_quota l D ids B b, lm_cwV hts lw_3_quota ll_8v_50 rfl rfl ⟨rfl, ld_X3_quota⟩ (by decide)⟩
      · cases hf; exact ⟨yX3_thrown, cX3_thrown, 1, (some .int), rm_X3_thrown, RX3, TX3, 22, 0, rfl, rfl, ok_X3_thrown l D ids B b, lm_cwV hts lw_3_thrown ll_8v_51 rfl rfl ⟨rfl, ld_X3_thrown⟩ (by decide)⟩
      · cases hf; exact ⟨yX3_kind, cX3_kind, 4, none, rm_X3_kind, RX3, TX3, 22, 3, rfl, rfl, ok_X3_kind l D ids B b, lm_cwV hts lw_3_kind ll_8v_58 rfl rfl ⟨rfl, ld_X3_kind⟩ (by decide)⟩
      · cases hf; exact ⟨yX3_push, cX3_push, 5, (some .int), rm_X3_push, RX3, TX3, 22, 3, rfl, rfl, ok_X3_push l D ids B b, lm_cwV hts lw_3_push ll_8v_61 rfl rfl ⟨rfl, ld_X3_push⟩ (by decide)⟩
      · cases hf; exact ⟨yX2_serve, cX2_serve, 4, (some .int), rm_X2_serve, RX2, TX2, 7, 0, rfl, rfl, ok_X2_serve l D ids B b, lm_cwV hts lw_2_serve ll_8v_62 rfl rfl ⟨rfl, ld_X2_serve⟩ (by decide)⟩
      · cases hf; exact ⟨yX3_serve, cX3_serve, 2, (some .int), rm_X3_serve, RX3, TX3, 22, 0, rfl, rfl, ok_X3_serve l D ids B b, lm_cwV hts lw_3_serve ll_8v_65 rfl rfl ⟨rfl, ld_X3_serve⟩ (by decide)⟩
      · cases hf; exact ⟨yX2_next, cX2_next, 2, (some .int), rm_X2_next, RX2, TX2, 7, 0, rfl, rfl, ok_X2_next l D ids B b, lm_cwV hts lw_2_next ll_8v_66 rfl rfl ⟨rfl, ld_X2_next⟩ (by decide)⟩
      · cases hf; exact ⟨yX3_next, cX3_next, 2, (some .int), rm_X3_next, RX3, TX3, 22, 0, rfl, rfl, ok_X3_next l D ids B b, lm_cwV hts lw_3_next ll_8v_69 rfl rfl ⟨rfl, ld_X3_next⟩ (by decide)⟩
      · cases hf; exact ⟨yX2_word, cX2_word, 1, (some .int), rm_X2_word, RX2, TX2, 7, 0, rfl, rfl, ok_X2_word l D ids B b, lm_cwV hts lw_2_word ll_8v_70 rfl rfl ⟨rfl, ld_X2_word⟩ (by decide)⟩
      · cases hf; exact ⟨yX3_word, cX3_word, 1, (some .int), rm_X3_word, RX3, TX3, 22, 0, rfl, rfl, ok_X3_word l D ids B b, lm_cwV hts lw_3_word ll_8v_73 rfl rfl ⟨rfl, ld_X3_word⟩ (by decide)⟩
      · cases hf; exact ⟨yX3_serveUpTo, cX3_serveUpTo, 6, (some .int), rm_X3_serveUpTo, RX3, TX3, 22, 1, rfl, rfl, ok_X3_serveUpTo l D ids B b, lm_cwV hts lw_3_serveUpTo ll_8v_77 rfl rfl ⟨rfl, ld_X3_serveUpTo⟩ (by decide)⟩
      · cases hf; exact ⟨yX3_empty, cX3_empty, 3, (some .int), rm_X3_empty, RX3, TX3, 22, 1, rfl, rfl, ok_X3_empty l D ids B b, lm_cwV hts lw_3_empty ll_8v_80 rfl rfl ⟨rfl, ld_X3_empty⟩ (by decide)⟩
      · cases hf; exact ⟨yX3_told, cX3_told, 3, (some .int), rm_X3_told, RX3, TX3, 22, 2, rfl, rfl, ok_X3_told l D ids B b, lm_cwV hts lw_3_told ll_8v_84 rfl rfl ⟨rfl, ld_X3_told⟩ (by decide)⟩
      · cases hf; exact ⟨yX3_item, cX3_item, 4, (some .int), rm_X3_item, RX3, TX3, 22, 3, rfl, rfl, ok_X3_item l D ids B b, lm_cwV hts lw_3_item ll_8v_87 rfl rfl ⟨rfl, ld_X3_item⟩ (by decide)⟩
      · cases hf; exact ⟨yX3_all, cX3_all, 4, (some .int), rm_X3_all, RX3, TX3, 22, 1, rfl, rfl, ok_X3_all l D ids B b, lm_cwV hts lw_3_all ll_8v_90 rfl rfl ⟨rfl, ld_X3_all⟩ (by decide)⟩
      · cases hf
    · change cs_law ids j = some f at hf
      unfold cs_law at hf
      split at hf
      · cases hf; exact Or.inr ⟨yL_quota, cL_quota, 6, some .int, hh_L_quota, rm_L_quota, ok_L_quota l D ids B b hlt, lm_cwW hts rfl lw_L_quota rfl rfl ld_L_quota (by decide)⟩
      · cases hf; exact Or.inr ⟨yL_kind, cL_kind, 5, some .int, hh_L_kind, rm_L_kind, ok_L_kind l D ids B b hlt, lm_cwW hts rfl lw_L_kind rfl rfl ld_L_kind (by decide)⟩
      · cases hf; exact Or.inr ⟨yL_push, cL_push, 6, some .int, hh_L_push, rm_L_push, ok_L_push l D ids B b hlt, lm_cwW hts rfl lw_L_push rfl rfl ld_L_push (by decide)⟩
      · cases hf; exact Or.inr ⟨yL_serveUpTo, cL_serveUpTo, 4, some .int, hh_L_serveUpTo, rm_L_serveUpTo, ok_L_serveUpTo l D ids B b hlt, lm_cwW hts rfl lw_L_serveUpTo rfl rfl ld_L_serveUpTo (by decide)⟩
      · cases hf; exact Or.inr ⟨yL_empty, cL_empty, 4, some .int, hh_L_empty, rm_L_empty, ok_L_empty l D ids B b hlt, lm_cwW hts rfl lw_L_empty rfl rfl ld_L_empty (by decide)⟩
      · cases hf; exact Or.inr ⟨yL_told, cL_told, 5, some .int, hh_L_told, rm_L_told, ok_L_told l D ids B b hlt, lm_cwW hts rfl lw_L_told rfl rfl ld_L_told (by decide)⟩
      · cases hf; exact Or.inr ⟨yL_item, cL_item, 6, some .int, hh_L_item, rm_L_item, ok_L_item l D ids B b hlt, lm_cwW hts rfl lw_L_item rfl rfl ld_L_item (by decide)⟩
      · cases hf; exact Or.inr ⟨yL_all, cL_all, 4, some .int, hh_L_all, rm_L_all, ok_L_all l D ids B b hlt, lm_cwW hts rfl lw_L_all rfl rfl ld_L_all (by decide)⟩
      · cases hf
    · rcases h3 with rfl | ⟨k, rfl⟩ <;> cases h4
    · cases hq
      exact ⟨hX, hbl, by rw [hB]; exact hbl⟩
  have hG1 : lm_cl (E1 ids) cL_law (fun r _ _ => r = some (.int 1)) (fun _ _ _ => False) (lm_G p l e room_1 s m #[Value.ref b] below meth c D B b true 7 (lw_Z below #[Value.ref b] s)) := fun i len pc lo st n L bc bs hd hs => lm_step_ok hT1 (fun _ _ _ _ _ _ _ h => h) hd hs
  have hG2 : lm_cl (E2 ids L xs) cL_law (fun r _ _ => r = some (.int 1)) (fun _ _ _ => False) (lm_G p l e room_1 s m #[Value.ref b] below meth c D B b false 7 (lw_Z below #[Value.ref b] s)) := fun i len pc lo st n L bc bs hd hs => lm_step_ok hT2 (fun _ _ _ _ _ _ _ h => h) hd hs
  have h0 := law_start hL hG1 hG2 (fun pc lo st n L bc bs h H locs ls hZ hP hS hH => h H locs ls ⟨hZ.1, fun h9 => by cases h9⟩ hP hS hH) (fun _ => .inr (0, []))
  rw [lg_entry_eq]
  exact h0 s.heap [] _ ⟨by omega, fun _ => by omega⟩ (fun k q h => by simp [lm_w] at h) va_S.rf (lm_entry (As := [.float 0]) (by simp [Value.category]) (by decide))
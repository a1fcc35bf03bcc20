def ci_law (ids : Nat → ClassId) : Nat → Option lm_C := fun j => match j with
  | 41 => some (1, 2, sp_X2_init ids, 46, 2556)
  | 44 => some (1, 3, sp_X3_init ids, 18, 2560)
  | _ => none
def nw_law : Nat → Option (Nat × List Value) := fun j => match j with
  | 8 => some (2, zq2)
  | 42 => some (3, zq3)
  | _ => none
abbrev E1 (ids : Nat → ClassId) : lm_E := lm_mkL (fun _ => none) (fun _ => none) (ci_law ids) (fun _ _ => none) nw_law ids none 601024 7293034 true
theorem CW.nn {ids : Nat → ClassId} {n n1 : Nat} {Q : Nat → Qs} {R : Nat → List Nat} {g : Nat → Int32} {L0 L : lm_L} (h : CW ids n Q R g L0 L) (hn : 47 ≤ n1) : CW ids n1 Q R g L0 L := ⟨hn, h.2⟩
theorem MS.nn {ids : Nat → ClassId} {n n1 : Nat} {Q : Nat → Qs} {R : Nat → List Nat} {g : Nat → Int32} {t : Int32} {L0 L : lm_L} (h : MS ids n Q R g t L0 L) (hn : 66 ≤ n1) : MS ids n1 Q R g t L0 L := by
  obtain ⟨F, ⟨h1, h2⟩, hV⟩ := h
  exact ⟨F, ⟨hn, h2⟩, hV⟩
theorem sumN_0 : ∀ k, sumN (fun _ => 0) k = 0
  | 0 => rfl
  | k + 1 => by simp only [sumN]; rw [sumN_0 k]
theorem sumI_0 : ∀ k, sumI (fun _ => 0) k = 0
  | 0 => rfl
  | k + 1 => by simp only [sumI]; rw [sumI_0 k]; rfl
theorem INV_init : INV 0 (fun _ => Qi, fun _ => [], fun _ => 0) := by
  refine ⟨fun q hq => ⟨(show 0 < 4 by decide), (show 0 < 1 by decide), (show 1 ≤ 1000 by decide), (show 96 ≤ 96 by decide), (show 0 ≤ 96 by decide), (show 0 ≤ 2000 + 1000 * 0 by decide), (fun y hy => by cases hy), fun _ => ⟨rfl, rfl⟩, fun h => absurd (show 0 < 0 from h) (by decide)⟩, fun c hc => ⟨List.nodup_nil, (fun q hq => by cases hq)⟩, ?_, ?_, ?_, ?_⟩
  · show sumN (fun _ => 0) 12 ≤ 96
    rw [sumN_0]; decide
  · show sumN (fun _ => 0) 12 ≤ 96
    rw [sumN_0]; decide
  · exact (sumI_0 12).symm
  · exact (sumI_0 12).symm
set_option maxHeartbeats 4000000 in
set_option maxRecDepth 20000 in
theorem law_start {ids : Nat → ClassId} {Lx : Nat} {xs : Nat → Int32} (hLx : Lx ≤ 2048) {G1 G2 : lm_K} (hG : lm_cl (E1 ids) cL_law (fun r _ _ => r = some (.int 1)) (fun _ _ _ => False) G1) (hG2 : lm_cl (E2 ids Lx xs) cL_law (fun r _ _ => r = some (.int 1)) (fun _ _ _ => False) G2) (h12 : ∀ pc lo st n L bc bs, G2 pc lo st n L bc bs → G1 pc lo st n L bc bs) (L0 : lm_L) : G1 0 [some (.float 0), none, none, none, none, none, none] [] 0 L0 0 0 := by
  refine lg_new hG dL_law_0 rfl rfl (Nat.le_of_ble_eq_true rfl) (Nat.le_of_ble_eq_true rfl) ?_
  refine lg_dup hG dL_law_3 rfl ?_
  refine lg_callI hG dL_law_4 rfl (fun P h => h) (Nat.le_of_ble_eq_true rfl) (Nat.le_of_ble_eq_true rfl) (Nat.le_of_ble_eq_true rfl) ?_
  refine ⟨rfl, rfl, va_up_self _ _ _, fun L1 hC => ?_⟩
  refine lg_astore_n hG dL_law_7 (Nat.le_of_ble_eq_true rfl) rfl ?_
  refine lg_new hG dL_law_8 rfl rfl (Nat.le_of_ble_eq_true rfl) (Nat.le_of_ble_eq_true rfl) ?_
  refine lg_dup hG dL_law_11 rfl ?_
  refine lg_callI hG dL_law_12 rfl (fun P h => h) (Nat.le_of_ble_eq_true rfl) (Nat.le_of_ble_eq_true rfl) (Nat.le_of_ble_eq_true rfl) ?_
  refine ⟨rfl, rfl, va_up_self _ _ _, fun L2 hM hA hfr => ?_⟩
  refine lg_astore_n hG dL_law_15 (Nat.le_of_ble_eq_true rfl) rfl ?_
  refine lg_iconst hG dL_law_16 (x := 1) (by decide) ?_
  refine lg_newJ hG dL_law_17 rfl (N := 1) rfl (by decide) (by decide) (Nat.le_of_ble_eq_true rfl) (Nat.le_of_ble_eq_true rfl) ?_
  refine lg_astore_n hG dL_law_19 (Nat.le_of_ble_eq_true rfl) rfl ?_
  refine lg_iconst hG dL_law_20 (x := 0) (by decide) ?_
  refine lg_istore hG dL_law_21 (Nat.le_of_ble_eq_true rfl) rfl ?_
  refine h12 _ _ _ _ _ _ _ (law_loop hLx hG2 (Lx + 1) 0 _ 67 5146 (by omega) (by omega) ⟨(fun _ => Qi, fun _ => [], fun _ => 0), 0, ?_, ?_, ?_, ⟨by omega, _, va_up_self _ _ _⟩, INV_init⟩ (by omega) (by omega) _ _)
  · refine CW.cg (CW.nn hC (by omega)) (fun k hk => ?_)
    rw [va_up_ne _ _ (by omega), hfr k hk, va_up_ne _ _ (by omega)]
  · exact (MS.nn hM (by omega)).cgs (fun k h1 h2 => va_up_ne _ _ (by omega))
  · exact hA.cg (fun k h1 h2 => va_up_ne _ _ (by omega))
set_option maxRecDepth 100000 in
theorem ll_8v_50 : Cond.methodLink RL 50 yX3_quota ∈ lm_WT := lm_wt 525 rfl rfl
set_option maxRecDepth 100000 in
theorem ll_8v_51 : Cond.methodLink RL 51 yX3_thrown ∈ lm_WT := lm_wt 521 rfl rfl
set_option maxRecDepth 100000 in
theorem ll_8v_58 : Cond.methodLink RL 58 yX3_kind ∈ lm_WT := lm_wt 536 rfl rfl
set_option maxRecDepth 100000 in
theorem ll_8v_61 : Cond.methodLink RL 61 yX3_push ∈ lm_WT := lm_wt 552 rfl rfl
set_option maxRecDepth 100000 in
theorem ll_8v_62 : Cond.methodLink RL 62 yX2_serve ∈ lm_WT := lm_wt 148 rfl rfl
set_option maxRecDepth 100000 in
theorem ll_8v_65 : Cond.methodLink RL 65 yX3_serve ∈ lm_WT := lm_wt 576 rfl rfl
set_option maxRecDepth 100000 in
theorem ll_8v_66 : Cond.methodLink RL 66 yX2_next ∈ lm_WT := lm_wt 228 rfl rfl
set_option maxRecDepth 100000 in
theorem ll_8v_69 : Cond.methodLink RL 69 yX3_next ∈ lm_WT := lm_wt 588 rfl rfl
set_option maxRecDepth 100000 in
theorem ll_8v_70 : Cond.methodLink RL 70 yX2_word ∈ lm_WT := lm_wt 232 rfl rfl
set_option maxRecDepth 100000 in
theorem ll_8v_73 : Cond.methodLink RL 73 yX3_word ∈ lm_WT := lm_wt 600 rfl rfl
set_option maxRecDepth 100000 in
theorem ll_8v_77 : Cond.methodLink RL 77 yX3_serveUpTo ∈ lm_WT := lm_wt 604 rfl rfl
set_option maxRecDepth 100000 in
theorem ll_8v_80 : Cond.methodLink RL 80 yX3_empty ∈ lm_WT := lm_wt 609 rfl rfl
set_option maxRecDepth 100000 in
theorem ll_8v_84 : Cond.methodLink RL 84 yX3_told ∈ lm_WT := lm_wt 613 rfl rfl
set_option maxRecDepth 100000 in
theorem ll_8v_87 : Cond.methodLink RL 87 yX3_item ∈ lm_WT := lm_wt 621 rfl rfl
set_option maxRecDepth 100000 in
theorem ll_8v_90 : Cond.methodLink RL 90 yX3_all ∈ lm_WT := lm_wt 625 rfl rfl
set_option maxRecDepth 100000 in
theorem lw_L_quota : Cond.methodLink RL 45 yL_quota ∈ lm_WT ∧ Cond.static yL_quota ∈ lm_WT ∧ Cond.codeWith yL_quota cL_quota 6 (some .int) hh_L_quota ∈ lm_WT := ⟨lm_wt 236 rfl rfl, lm_wt 237 rfl rfl, lm_wt 238 rfl rfl⟩
set_option maxRecDepth 100000 in
theorem lw_L_kind : Cond.methodLink RL 55 yL_kind ∈ lm_WT ∧ Cond.static yL_kind ∈ lm_WT ∧ Cond.codeWith yL_kind cL_kind 5 (some .int) hh_L_kind ∈ lm_WT := ⟨lm_wt 323 rfl rfl, lm_wt 324 rfl rfl, lm_wt 325 rfl rfl⟩
set_option maxRecDepth 100000 in
theorem lw_L_push : Cond.methodLink RL 59 yL_push ∈ lm_WT ∧ Cond.static yL_push ∈ lm_WT ∧ Cond.codeWith yL_push cL_push 6 (some .int) hh_L_push ∈ lm_WT := ⟨lm_wt 335 rfl rfl, lm_wt 336 rfl rfl, lm_wt 337 rfl rfl⟩
set_option maxRecDepth 100000 in
theorem lw_L_serveUpTo : Cond.methodLink RL 74 yL_serveUpTo ∈ lm_WT ∧ Cond.static yL_serveUpTo ∈ lm_WT ∧ Cond.codeWith yL_serveUpTo cL_serveUpTo 4 (some .int) hh_L_serveUpTo ∈ lm_WT := ⟨lm_wt 385 rfl rfl, lm_wt 386 rfl rfl, lm_wt 387 rfl rfl⟩
set_option maxRecDepth 100000 in
theorem lw_L_empty : Cond.methodLink RL 78 yL_empty ∈ lm_WT ∧ Cond.static yL_empty ∈ lm_WT ∧ Cond.codeWith yL_empty cL_empty 4 (some .int) hh_L_empty ∈ lm_WT := ⟨lm_wt 395 rfl rfl, lm_wt 396 rfl rfl, lm_wt 397 rfl rfl⟩
set_option maxRecDepth 100000 in
theorem lw_L_told : Cond.methodLink RL 81 yL_told ∈ lm_WT ∧ Cond.static yL_told ∈ lm_WT ∧ Cond.codeWith yL_told cL_told 5 (some .int) hh_L_told ∈ lm_WT := ⟨lm_wt 406 rfl rfl, lm_wt 407 rfl rfl, lm_wt 408 rfl rfl⟩
set_option maxRecDepth 100000 in
theorem lw_L_item : Cond.methodLink RL 85 yL_item ∈ lm_WT ∧ Cond.static yL_item ∈ lm_WT ∧ Cond.codeWith yL_item cL_item 6 (some .int) hh_L_item ∈ lm_WT := ⟨lm_wt 415 rfl rfl, lm_wt 416 rfl rfl, lm_wt 417 rfl rfl⟩
set_option maxRecDepth 100000 in
theorem lw_L_all : Cond.methodLink RL 88 yL_all ∈ lm_WT ∧ Cond.static yL_all ∈ lm_WT ∧ Cond.codeWith yL_all cL_all 4 (some .int) hh_L_all ∈ lm_WT := ⟨lm_wt 440 rfl rfl, lm_wt 441 rfl rfl, lm_wt 442 rfl rfl⟩
set_option maxRecDepth 100000 in
theorem lw_L_ini : Cond.initialized RL ∈ lm_WT := lm_wt 30 rfl rfl
theorem lm_cwW {R : Room} {s : State} {args : Array Value} {j : Nat} {y : MethodName} {c1 : ByteArray} {maxL : Nat} {hh : List (Nat × Nat × Nat × Nat)} {rm : Room} {mc ms k : Nat} (hts : ∀ w ∈ lm_WT, w.before args s = true) (hy : y.cls = RL) (hw : Cond.methodLink RL j y ∈ lm_WT ∧ Cond.static y ∈ lm_WT ∧ Cond.codeWith y c1 maxL (some .int) hh ∈ lm_WT) (hrc : rm.cells = mc) (hrs : rm.slots = ms)
    (hd : y.cls ≠ "java/lang/invoke/MethodHandle" ∧ y.cls ≠ "java/lang/invoke/VarHandle" ∧ (parseMethodDescriptor y.desc).map (fun d => d.parameters.length) = some k) (hR : rm.frames + 1 ≤ R.frames ∧ 8 + (maxL + 11) + rm.locals ≤ R.locals) :
    vx_CSW R s args RL j y c1 maxL (some .int) hh (.codeWith y c1 maxL (some .int) hh :: lm_WT) rm mc ms k := by
  refine vx_cwSW (Ts := lm_WT) k hts ?_ rfl hrc hrs hd hR
  intro w hw9
  have h9 : w ∈ lm_WT := by
    unfold va_wsS at hw9
    rcases List.mem_append.mp hw9 with h | h
    · simp only [List.mem_cons, List.not_mem_nil, or_false] at h
      rcases h with rfl | rfl | rfl
      · exact hw.1
      · exact hw.2.1
      · rw [hy]; exact lw_L_ini
    · rcases List.mem_cons.mp h with e | e
      · rw [e]; exact hw.2.2
      · exact e
  exact ⟨h9, good_of_word (lm_wg h9)⟩
theorem lm_goodC {y : MethodName} {c1 : ByteArray} {mL : Nat} (w1 : Cond.code y c1 mL none ∈ lm_WT) : GoodIn lm_WT (Cond.code y c1 mL none :: lm_WT) := by
  intro w hw
  have h9 : w ∈ lm_WT := by
    rcases List.mem_cons.mp hw with e9 | e9
    · rw [e9]; exact w1
    · exact e9
  exact ⟨h9, good_of_word (lm_wg h9)⟩
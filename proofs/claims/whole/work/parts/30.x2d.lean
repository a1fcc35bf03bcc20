theorem bI_0 {x : Bool} (h : bI x = 0) : x = false := by cases x; rfl; exact absurd h (by decide)
theorem bI_1 {x : Bool} (h : ¬ bI x = 0) : x = true := by cases x; exact absurd rfl h; rfl
theorem CS.mk {ids : Nat → ClassId} {n : Nat} {σ : St} {Q : Nat → Qs} {R : Nat → List Nat} {g : Nat → Int32} {L0 L : lm_L} (h : CW ids n Q R g L0 L) (e : σ = (Q, R, g)) : CS ids n σ L0 L := by
  subst e
  exact h
def rm_X2_push : Room := { frames := 7, cells := 2, slots := 12, locals := 106 }
theorem ld_X2_push : yX2_push.cls ≠ "java/lang/invoke/MethodHandle" ∧ yX2_push.cls ≠ "java/lang/invoke/VarHandle" ∧ (parseMethodDescriptor yX2_push.desc).map (fun d => d.parameters.length) = some 3 := by decide +kernel
def sp_X2_push (ids : Nat → ClassId) : lm_S := fun As n L post postX => ∃ Q R g L0 z w a K, CW ids n Q R g L0 L ∧ As = [.ref 0, .int z, .int w, .int a] ∧ INV K (Q, R, g) ∧ (∀ q k, okP z a q k → ∀ L1, CS ids n (psh (Q, R, g) q w k).1 L0 L1 → post (some (.int (psh (Q, R, g) q w k).2)) n L1) ∧ ((¬ ∃ q k, okP z a q k) → postX lm_iae n L)
def cv_X2_push (ids : Nat → ClassId) : Nat → Option lm_C := fun j => match j with
  | 23 => some (2, 2, sp_X2_queueOf ids, 1, 6)
  | 58 => some (2, 2, sp_X2_hasRoomFor ids, 0, 0)
  | 62 => some (5, 2, sp_X2_addItem ids, 0, 0)
  | 66 => some (1, 2, sp_X2_queueOfGreatestExcess ids, 0, 0)
  | 69 => some (1, 0, sp_X0_excess ids, 0, 0)
  | 75 => some (2, 2, sp_X2_loseLastItem ids, 0, 0)
  | _ => none
def cs_X2_push (ids : Nat → ClassId) : Nat → Option lm_C := fun j => match j with
  | 27 => some (3, 0, sp_X2_checkRange ids, 1, 6)
  | _ => none
set_option maxHeartbeats 4000000 in
set_option maxRecDepth 20000 in
theorem ok_X2_push (l : Launch) (D : va_G) (ids : Nat → ClassId) (B b : Nat) (hlt : l.stackTraces = false) : lm_M l D (lm_ty ids) B b false yX2_push cX2_push 6 (some .int) rm_X2_push 2 12 (sp_X2_push ids) := by
  refine lm_method (own := RX2) (fld := lf_2) (cv := (cv_X2_push ids)) (cs := (cs_X2_push ids)) (ci := (fun _ => none)) (kon := (fun _ => none)) (thr := (fun _ => none)) (nw := (fun _ => none)) (ini := false) (cp := none) (alc := false) (by decide +kernel) rfl rfl rfl (lf_2_ok _) ⟨?_, ?_⟩ ?_ (fun h => by cases h) (lm_aok0 _ _ _ _ _ _ _ _) ?_ ?_
  · intro j f hf
    unfold cv_X2_push at hf
    split at hf
    · cases hf; exact ⟨yX2_queueOf, cX2_queueOf, 2, (some (.object "SharedQueues$Queue")), rm_X2_queueOf, RX2, TX2, 7, 1, rfl, rfl, ok_X2_queueOf l D ids B b hlt, lw_2_queueOf, ll_2_23, rfl, rfl, ⟨rfl, ld_X2_queueOf⟩, by decide⟩
    · cases hf; exact ⟨yX2_hasRoomFor, cX2_hasRoomFor, 2, (some .boolean), rm_X2_hasRoomFor, RX2, TX2, 7, 1, rfl, rfl, ok_X2_hasRoomFor l D ids B b, lw_2_hasRoomFor, ll_2_58, rfl, rfl, ⟨rfl, ld_X2_hasRoomFor⟩, by decide⟩
    · cases hf; exact ⟨yX2_addItem, cX2_addItem, 5, none, rm_X2_addItem, RX2, TX2, 7, 4, rfl, rfl, ok_X2_addItem l D ids B b, lw_2_addItem, ll_2_62, rfl, rfl, ⟨rfl, ld_X2_addItem⟩, by decide⟩
    · cases hf; exact ⟨yX2_queueOfGreatestExcess, cX2_queueOfGreatestExcess, 3, (some .int), rm_X2_queueOfGreatestExcess, RX2, TX2, 7, 0, rfl, rfl, ok_X2_queueOfGreatestExcess l D ids B b, lw_2_queueOfGreatestExcess, ll_2_66, rfl, rfl, ⟨rfl, ld_X2_queueOfGreatestExcess⟩, by decide⟩
    · cases hf; exact ⟨yX0_excess, cX0_excess, 1, (some .int), rm_X0_excess, RX0, TX0, 15, 0, rfl, rfl, ok_X0_excess l D ids B b, lw_0_excess, ll_2_69, rfl, rfl, ⟨rfl, ld_X0_excess⟩, by decide⟩
    · cases hf; exact ⟨yX2_loseLastItem, cX2_loseLastItem, 3, none, rm_X2_loseLastItem, RX2, TX2, 7, 1, rfl, rfl, ok_X2_loseLastItem l D ids B b, lw_2_loseLastItem, ll_2_75, rfl, rfl, ⟨rfl, ld_X2_loseLastItem⟩, by decide⟩
    · cases hf
  · intro j f hf
    unfold cs_X2_push at hf
    split at hf
    · cases hf; exact ⟨yX2_checkRange, cX2_checkRange, 3, none, rm_X2_checkRange, ok_X2_checkRange l D ids B b hlt, lw_2_checkRange, ll_2_27, rfl, rfl, ld_X2_checkRange, by decide⟩
    · cases hf
  · intro j v hv; cases hv
  · exact Or.inl fun _ => rfl
  rintro As n L post postX ⟨Q, R, g, L0, z, w, a, K, hC, rfl, hI, hp, hpx⟩
  refine ⟨by simp [Value.category], (Nat.le_of_ble_eq_true rfl), lm_cl_of ?_⟩
  intro G hG
  refine lg_aload_n hG dX2_push_0 rfl ?_
  refine lg_iload_n hG dX2_push_1 rfl ?_
  refine cg_callO hG hC dX2_push_2 rfl (fun P h => h) (Nat.le_of_ble_eq_true rfl) (Nat.le_of_ble_eq_true rfl) (Nat.le_of_ble_eq_true rfl) ?_
  refine ⟨Q, R, g, L0, z, hC, rfl, ?_, fun hno => hpx (by rintro ⟨q, k, h, -⟩; exact hno q h.1 h.2)⟩
  intro q hq hz
  subst hz
  refine lg_astore hG dX2_push_5 (Nat.le_of_ble_eq_true rfl) rfl ?_
  refine lg_iload_n hG dX2_push_7 rfl ?_
  refine lg_iconst hG dX2_push_8 (x := 1) (by decide) ?_
  refine lg_sipush hG dX2_push_9 (x := (2000)) (by decide) ?_
  refine lg_callS hG dX2_push_12 (by simp) rfl (fun P h => h) (Nat.le_of_ble_eq_true rfl) (Nat.le_of_ble_eq_true rfl) (Nat.le_of_ble_eq_true rfl) ?_
  refine ⟨_, _, _, rfl, fun hno => hpx (by rintro ⟨q, k, -, h1, h2, rfl⟩; exact ck_no1 (N := 2000) rfl (by decide) h1 h2 hno), ?_⟩
  intro hge hle
  obtain ⟨k, hk1, hk2, rfl⟩ := ck_of1 (N := 2000) rfl (by decide) hge hle
  have hp := hp q k ⟨⟨hq, rfl⟩, hk1, hk2, rfl⟩
  obtain ⟨b1, b2, b3, b4, b5, b6, b7, b8, b9⟩ := hI.1 q hq
  have hl96 := hC.blen hq
  unfold psh at hp
  refine lg_aload hG dX2_push_15 rfl ?_
  refine cg_get hG hC dX2_push_17 rfl (by first | assumption | omega) rfl rfl ?_
  refine lg_aload hG dX2_push_20 rfl ?_
  refine cg_get hG hC dX2_push_22 rfl (by first | assumption | omega) rfl rfl ?_
  refine lg_icmp_lt hG dX2_push_25 (tgt := 41) (by decide) (by decide) (fun h_25 => ?_) (fun h_25 => ?_)
  · skip
    have e1 : ¬ qq (Q q) ≤ (qI (Q q)).length := by
      have := (nI_ltI (a := (qI (Q q)).length) (b := qq (Q q)) (by omega) (by have : qq (Q q) ≤ 96 := b4; omega)).mp h_25
      omega
    rw [if_neg e1] at hp
    have hlt : (qI (Q q)).length < 96 := by have : qq (Q q) ≤ 96 := b4; omega
    refine lg_aload_n hG dX2_push_41 rfl ?_
    refine lg_aload hG dX2_push_42 rfl ?_
    refine cg_callO hG hC dX2_push_44 rfl (fun P h => h) (Nat.le_of_ble_eq_true rfl) (Nat.le_of_ble_eq_true rfl) (Nat.le_of_ble_eq_true rfl) ?_
    refine ⟨Q, R, g, L0, q, hC, rfl, hq, hI.kp, ?_⟩
    refine lg_if_eq hG dX2_push_47 (tgt := 62) (by decide) (by decide) (fun h_47 => ?_) (fun h_47 => ?_)
    · skip
      have er : room Q q = false := bI_0 h_47
      rw [if_neg (show ¬ room Q q = true by rw [er]; decide)] at hp
      refine lg_aload_n hG dX2_push_62 rfl ?_
      refine cg_callO hG hC dX2_push_63 rfl (fun P h => h) (Nat.le_of_ble_eq_true rfl) (Nat.le_of_ble_eq_true rfl) (Nat.le_of_ble_eq_true rfl) ?_
      refine ⟨Q, R, g, L0, hC, rfl, hI.kp, ?_⟩
      have hg12 : grd Q 11 < 12 := by have := grd_le Q 11; omega
      have he1 := hC.bexc hI.kp hq
      have he2 := hC.bexc hI.kp hg12
      refine lg_istore hG dX2_push_66 (Nat.le_of_ble_eq_true rfl) rfl ?_
      refine lg_aload_n hG dX2_push_68 rfl ?_
      refine cg_getg hG hC dX2_push_69 rfl rfl ?_
      refine lg_iload hG dX2_push_72 rfl ?_
      first | refine cg_aq hG hC dX2_push_74 rfl (by first | assumption | omega) ?_ | refine cg_ar hG hC dX2_push_74 rfl (by first | assumption | omega) ?_
      refine cg_callQ hG hC dX2_push_75 rfl (fun P h => h) (by first | assumption | omega) (Nat.le_of_ble_eq_true rfl) (Nat.le_of_ble_eq_true rfl) (Nat.le_of_ble_eq_true rfl) ?_
      refine cq_excess hC hg12 ?_
      refine lg_aload hG dX2_push_78 rfl ?_
      refine cg_callQ hG hC dX2_push_80 rfl (fun P h => h) (by first | assumption | omega) (Nat.le_of_ble_eq_true rfl) (Nat.le_of_ble_eq_true rfl) (Nat.le_of_ble_eq_true rfl) ?_
      refine cq_excess hC hq ?_
      refine lg_isub hG dX2_push_83 (iI_sub (exc Q (grd Q 11)) (exc Q q)) ?_
      refine lg_iconst hG dX2_push_84 (x := 2) (by decide) ?_
      refine lg_icmp_ge hG dX2_push_85 (tgt := 101) (by decide) (by decide) (fun h_85 => ?_) (fun h_85 => ?_)
      · skip
        have e3 : ¬ exc Q (grd Q 11) - exc Q q < 2 := fun h => h_85 ((iI_lt (b := 2) (by omega) (by omega) (by omega) (by omega)).mpr h)
        rw [if_neg e3] at hp
        obtain ⟨hne, hgl⟩ := lose_ok (σ := (Q, R, g)) hI hq er e3
        obtain ⟨y, t, hyt⟩ : ∃ y t, qI (Q (grd Q 11)) = t ++ [y] := ⟨_, _, (List.dropLast_concat_getLast (List.ne_nil_of_length_pos hgl)).symm⟩
        have htd : (qI (Q (grd Q 11))).dropLast = t := by rw [hyt]; simp
        obtain ⟨d1, -, -, -, -, -, -, -, d9⟩ := hI.1 (grd Q 11) hg12
        refine lg_aload_n hG dX2_push_101 rfl ?_
        refine lg_iload hG dX2_push_102 rfl ?_
        refine cg_callO hG hC dX2_push_104 rfl (fun P h => h) (Nat.le_of_ble_eq_true rfl) (Nat.le_of_ble_eq_true rfl) (Nat.le_of_ble_eq_true rfl) ?_
        refine ⟨Q, R, g, L0, grd Q 11, y, t, hC, rfl, hg12, hyt, d1, d9 hgl, fun L hC => ?_⟩
        have hC : CS ids n (losS (Q, R, g) (grd Q 11)) L0 L := CS.mk hC (by unfold losS; simp only [htd])
        have hqq : (losS (Q, R, g) (grd Q 11)).1 q = Q q := va_up_ne _ _ (Ne.symm hne)
        have hC : CW ids n (losS (Q, R, g) (grd Q 11)).1 (losS (Q, R, g) (grd Q 11)).2.1 (losS (Q, R, g) (grd Q 11)).2.2 L0 L := hC
        refine lg_aload_n hG dX2_push_107 rfl ?_
        refine lg_iload_n hG dX2_push_108 rfl ?_
        refine lg_aload hG dX2_push_109 rfl ?_
        refine lg_iload_n hG dX2_push_111 rfl ?_
        refine lg_iload_n hG dX2_push_112 rfl ?_
        refine cg_callO hG hC dX2_push_113 rfl (fun P h => h) (Nat.le_of_ble_eq_true rfl) (Nat.le_of_ble_eq_true rfl) (Nat.le_of_ble_eq_true rfl) ?_
        refine ⟨_, _, _, L0, q, w, k, hC, rfl, hq, by rw [hqq]; exact hlt, by rw [hqq]; exact b1, by rw [hqq]; exact fun h0 => Nat.lt_of_le_of_lt los_len (hI.ring hq b1 (Or.inl h0)), fun L hC => ?_⟩
        refine lg_iload hG dX2_push_116 rfl ?_
        refine lg_iret hG dX2_push_118 (Nat.le_of_ble_eq_true rfl) (Nat.le_of_ble_eq_true rfl) ?_
        exact ⟨trivial, hp _ hC⟩
      · skip
        have e3 : exc Q (grd Q 11) - exc Q q < 2 := (iI_lt (b := 2) (by omega) (by omega) (by omega) (by omega)).mp h_85
        rw [if_pos e3] at hp
        refine lg_aload_n hG dX2_push_88 rfl ?_
        refine lg_dup hG dX2_push_89 rfl ?_
        refine cg_getg hG hC dX2_push_90 rfl rfl ?_
        refine lg_iconst hG dX2_push_93 (x := 1) (by decide) ?_
        refine lg_iadd hG dX2_push_94 rfl ?_
        refine cg_putg hG hC dX2_push_95 rfl (by first | trivial | exact Or.inl rfl | exact Or.inr rfl | assumption) (by decide) (g' := upd g 4 (g 4 + 1)) rfl (fun L hC => ?_)
        refine lg_bipush hG dX2_push_98 (x := (-3)) (by decide) ?_
        refine lg_iret hG dX2_push_100 (Nat.le_of_ble_eq_true rfl) (Nat.le_of_ble_eq_true rfl) ?_
        exact ⟨trivial, hp _ hC⟩
    · skip
      have er : room Q q = true := bI_1 h_47
      rw [if_pos er] at hp
      refine lg_aload_n hG dX2_push_50 rfl ?_
      refine lg_iload_n hG dX2_push_51 rfl ?_
      refine lg_aload hG dX2_push_52 rfl ?_
      refine lg_iload_n hG dX2_push_54 rfl ?_
      refine lg_iload_n hG dX2_push_55 rfl ?_
      refine cg_callO hG hC dX2_push_56 rfl (fun P h => h) (Nat.le_of_ble_eq_true rfl) (Nat.le_of_ble_eq_true rfl) (Nat.le_of_ble_eq_true rfl) ?_
      refine ⟨Q, R, g, L0, q, w, k, hC, rfl, hq, hlt, b1, fun h0 => hI.ring hq b1 (Or.inl h0), fun L hC => ?_⟩
      refine lg_bipush hG dX2_push_59 (x := (100)) (by decide) ?_
      refine lg_iret hG dX2_push_61 (Nat.le_of_ble_eq_true rfl) (Nat.le_of_ble_eq_true rfl) ?_
      exact ⟨trivial, hp _ hC⟩
  · skip
    have e1 : qq (Q q) ≤ (qI (Q q)).length := by
      rcases Nat.lt_or_ge (qI (Q q)).length (qq (Q q)) with h | h
      · exact absurd (nI_lt h (by have : qq (Q q) ≤ 96 := b4; omega)) h_25
      · exact h
    rw [if_pos e1] at hp
    refine lg_aload_n hG dX2_push_28 rfl ?_
    refine lg_dup hG dX2_push_29 rfl ?_
    refine cg_getg hG hC dX2_push_30 rfl rfl ?_
    refine lg_iconst hG dX2_push_33 (x := 1) (by decide) ?_
    refine lg_iadd hG dX2_push_34 rfl ?_
    refine cg_putg hG hC dX2_push_35 rfl (by first | trivial | exact Or.inl rfl | exact Or.inr rfl | assumption) (by decide) (g' := upd g 3 (g 3 + 1)) rfl (fun L hC => ?_)
    refine lg_bipush hG dX2_push_38 (x := (-2)) (by decide) ?_
    refine lg_iret hG dX2_push_40 (Nat.le_of_ble_eq_true rfl) (Nat.le_of_ble_eq_true rfl) ?_
    exact ⟨trivial, hp _ hC⟩

def rm_X2_next : Room := { frames := 3, cells := 0, slots := 0, locals := 67 }
theorem ld_X2_next : yX2_next.cls ≠ "java/lang/invoke/MethodHandle" ∧ yX2_next.cls ≠ "java/lang/invoke/VarHandle" ∧ (parseMethodDescriptor yX2_next.desc).map (fun d => d.parameters.length) = some 0 := by decide +kernel
def sp_X2_next (ids : Nat → ClassId) : lm_S := fun As n L post postX => ∃ Q R g L0 K, CW ids n Q R g L0 L ∧ As = [.ref 0] ∧ INV K (Q, R, g) ∧ K ≤ 2 ^ 17 ∧ (NQ (Q, R, g) → post (some (.int (-1))) n L) ∧ (∀ c p z, FP (Q, R, g) c p z → post (some (.int (nI z))) n L)
def cv_X2_next (ids : Nat → ClassId) : Nat → Option lm_C := fun j => match j with
  | 79 => some (1, 2, sp_X2_firstRingWithQueues ids, 0, 0)
  | 83 => some (2, 2, sp_X2_placeServedNext ids, 0, 0)
  | 87 => some (2, 1, sp_X1_queueAt ids, 0, 0)
  | _ => none
set_option maxHeartbeats 4000000 in
set_option maxRecDepth 20000 in
theorem ok_X2_next (l : Launch) (D : va_G) (ids : Nat → ClassId) (B b : Nat) : lm_M l D (lm_ty ids) B b false yX2_next cX2_next 2 (some .int) rm_X2_next 0 0 (sp_X2_next ids) := by
  refine lm_method (own := RX2) (fld := lf_2) (cv := (cv_X2_next ids)) (cs := (fun _ => none)) (ci := (fun _ => none)) (kon := (fun _ => none)) (thr := (fun _ => none)) (nw := (fun _ => none)) (ini := false) (cp := none) (alc := false) (by decide +kernel) rfl rfl rfl (lf_2_ok _) ⟨?_, ?_⟩ ?_ (fun h => by cases h) (lm_aok0 _ _ _ _ _ _ _ _) ?_ ?_
  · intro j f hf
    unfold cv_X2_next at hf
    split at hf
    · cases hf; exact ⟨yX2_firstRingWithQueues, cX2_firstRingWithQueues, 5, (some (.object "SharedQueues$Ring")), rm_X2_firstRingWithQueues, RX2, TX2, 7, 0, rfl, rfl, ok_X2_firstRingWithQueues l D ids B b, lw_2_firstRingWithQueues, ll_2_79, rfl, rfl, ⟨rfl, ld_X2_firstRingWithQueues⟩, by decide⟩
    · cases hf; exact ⟨yX2_placeServedNext, cX2_placeServedNext, 6, (some .int), rm_X2_placeServedNext, RX2, TX2, 7, 1, rfl, rfl, ok_X2_placeServedNext l D ids B b, lw_2_placeServedNext, ll_2_83, rfl, rfl, ⟨rfl, ld_X2_placeServedNext⟩, by decide⟩
    · cases hf; exact ⟨yX1_queueAt, cX1_queueAt, 2, (some .int), rm_X1_queueAt, RX1, TX1, 2, 1, rfl, rfl, ok_X1_queueAt l D ids B b, lw_1_queueAt, ll_2_87, rfl, rfl, ⟨rfl, ld_X1_queueAt⟩, by decide⟩
    · cases hf
  · intro j f hf
    cases hf
  · intro j v hv; cases hv
  · exact Or.inl fun _ => rfl
  rintro As n L post postX ⟨Q, R, g, L0, K, hC, rfl, hI, hK, hpn, hp⟩
  refine ⟨by simp [Value.category], (Nat.le_of_ble_eq_true rfl), lm_cl_of ?_⟩
  intro G hG
  refine lg_aload_n hG dX2_next_0 rfl ?_
  refine cg_callO hG hC dX2_next_1 rfl (fun P h => h) (Nat.le_of_ble_eq_true rfl) (Nat.le_of_ble_eq_true rfl) (Nat.le_of_ble_eq_true rfl) ?_
  refine ⟨Q, R, g, L0, hC, rfl, ?_, ?_⟩
  · intro c hc hc0 hcd
    have hg := hI.lg hK hc
    refine lg_astore_n hG dX2_next_4 (Nat.le_of_ble_eq_true rfl) rfl ?_
    refine lg_aload_n hG dX2_next_5 rfl ?_
    refine lg_ifnonnull hG dX2_next_6 (tgt := 13) (by decide) (by decide) ?_
    refine lg_aload_n hG dX2_next_13 rfl ?_
    refine lg_aload_n hG dX2_next_14 rfl ?_
    refine lg_aload_n hG dX2_next_15 rfl ?_
    refine cg_callO hG hC dX2_next_16 rfl (fun P h => h) (Nat.le_of_ble_eq_true rfl) (Nat.le_of_ble_eq_true rfl) (Nat.le_of_ble_eq_true rfl) ?_
    refine ⟨Q, R, g, L0, c, R c, hC, rfl, hc, rfl, hc0, hg, fun p z hP => ?_⟩
    have hp := hp c p z ⟨hc, hc0, hcd, hP⟩
    refine cg_callR hG hC dX2_next_19 rfl (fun P h => h) hc (Nat.le_of_ble_eq_true rfl) (Nat.le_of_ble_eq_true rfl) (Nat.le_of_ble_eq_true rfl) ?_
    refine cr_at hC hc rfl hP.1 ?_
    refine lg_iret hG dX2_next_22 (Nat.le_of_ble_eq_true rfl) (Nat.le_of_ble_eq_true rfl) ?_
    exact ⟨trivial, hp⟩
  · intro hno
    have hp := hpn hno
    refine lg_astore_nN hG dX2_next_4 (Nat.le_of_ble_eq_true rfl) rfl ?_
    refine lg_aload_nN hG dX2_next_5 rfl ?_
    refine lg_ifnonnullN hG dX2_next_6 ?_
    refine lg_iconst hG dX2_next_9 (x := (-1)) (by decide) ?_
    refine lg_goto hG dX2_next_10 (tgt := 22) (by decide) (by decide) ?_
    refine lg_iret hG dX2_next_22 (Nat.le_of_ble_eq_true rfl) (Nat.le_of_ble_eq_true rfl) ?_
    exact ⟨trivial, hp⟩

def rm_X2_serve : Room := { frames := 4, cells := 0, slots := 0, locals := 95 }
theorem ld_X2_serve : yX2_serve.cls ≠ "java/lang/invoke/MethodHandle" ∧ yX2_serve.cls ≠ "java/lang/invoke/VarHandle" ∧ (parseMethodDescriptor yX2_serve.desc).map (fun d => d.parameters.length) = some 0 := by decide +kernel
def sp_X2_serve (ids : Nat → ClassId) : lm_S := fun As n L post postX => ∃ Q R g L0 K, CW ids n Q R g L0 L ∧ As = [.ref 0] ∧ INV K (Q, R, g) ∧ K ≤ 2 ^ 17 ∧ (NQ (Q, R, g) → post (some (.int (-1))) n L) ∧ (∀ c p z, FP (Q, R, g) c p z → ∀ L1, CS ids n (svS (Q, R, g) c p z) L0 L1 → post (some (.int (nI z))) n L1)
def cv_X2_serve (ids : Nat → ClassId) : Nat → Option lm_C := fun j => match j with
  | 79 => some (1, 2, sp_X2_firstRingWithQueues ids, 0, 0)
  | 83 => some (2, 2, sp_X2_placeServedNext ids, 0, 0)
  | 87 => some (2, 1, sp_X1_queueAt ids, 0, 0)
  | 91 => some (3, 2, sp_X2_bringToFront ids, 0, 0)
  | 95 => some (2, 2, sp_X2_serveFirstItem ids, 0, 0)
  | _ => none
set_option maxHeartbeats 4000000 in
set_option maxRecDepth 20000 in
theorem ok_X2_serve (l : Launch) (D : va_G) (ids : Nat → ClassId) (B b : Nat) : lm_M l D (lm_ty ids) B b false yX2_serve cX2_serve 4 (some .int) rm_X2_serve 0 0 (sp_X2_serve ids) := by
  refine lm_method (own := RX2) (fld := lf_2) (cv := (cv_X2_serve ids)) (cs := (fun _ => none)) (ci := (fun _ => none)) (kon := (fun _ => none)) (thr := (fun _ => none)) (nw := (fun _ => none)) (ini := false) (cp := none) (alc := false) (by decide +kernel) rfl rfl rfl (lf_2_ok _) ⟨?_, ?_⟩ ?_ (fun h => by cases h) (lm_aok0 _ _ _ _ _ _ _ _) ?_ ?_
  · intro j f hf
    unfold cv_X2_serve at hf
    split at hf
    · cases hf; exact ⟨yX2_firstRingWithQueues, cX2_firstRingWithQueues, 5, (some (.object "SharedQueues$Ring")), rm_X2_firstRingWithQueues, RX2, TX2, 7, 0, rfl, rfl, ok_X2_firstRingWithQueues l D ids B b, lw_2_firstRingWithQueues, ll_2_79, rfl, rfl, ⟨rfl, ld_X2_firstRingWithQueues⟩, by decide⟩
    · cases hf; exact ⟨yX2_placeServedNext, cX2_placeServedNext, 6, (some .int), rm_X2_placeServedNext, RX2, TX2, 7, 1, rfl, rfl, ok_X2_placeServedNext l D ids B b, lw_2_placeServedNext, ll_2_83, rfl, rfl, ⟨rfl, ld_X2_placeServedNext⟩, by decide⟩
    · cases hf; exact ⟨yX1_queueAt, cX1_queueAt, 2, (some .int), rm_X1_queueAt, RX1, TX1, 2, 1, rfl, rfl, ok_X1_queueAt l D ids B b, lw_1_queueAt, ll_2_87, rfl, rfl, ⟨rfl, ld_X1_queueAt⟩, by decide⟩
    · cases hf; exact ⟨yX2_bringToFront, cX2_bringToFront, 5, none, rm_X2_bringToFront, RX2, TX2, 7, 2, rfl, rfl, ok_X2_bringToFront l D ids B b, lw_2_bringToFront, ll_2_91, rfl, rfl, ⟨rfl, ld_X2_bringToFront⟩, by decide⟩
    · cases hf; exact ⟨yX2_serveFirstItem, cX2_serveFirstItem, 4, none, rm_X2_serveFirstItem, RX2, TX2, 7, 1, rfl, rfl, ok_X2_serveFirstItem l D ids B b, lw_2_serveFirstItem, ll_2_95, rfl, rfl, ⟨rfl, ld_X2_serveFirstItem⟩, by decide⟩
    · cases hf
  · intro j f hf
    cases hf
  · intro j v hv; cases hv
  · exact Or.inl fun _ => rfl
  rintro As n L post postX ⟨Q, R, g, L0, K, hC, rfl, hI, hK, hpn, hp⟩
  refine ⟨by simp [Value.category], (Nat.le_of_ble_eq_true rfl), lm_cl_of ?_⟩
  intro G hG
  refine lg_aload_n hG dX2_serve_0 rfl ?_
  refine cg_callO hG hC dX2_serve_1 rfl (fun P h => h) (Nat.le_of_ble_eq_true rfl) (Nat.le_of_ble_eq_true rfl) (Nat.le_of_ble_eq_true rfl) ?_
  refine ⟨Q, R, g, L0, hC, rfl, ?_, ?_⟩
  · intro c hc hc0 hcd
    have hg := hI.lg hK hc
    refine lg_astore_n hG dX2_serve_4 (Nat.le_of_ble_eq_true rfl) rfl ?_
    refine lg_aload_n hG dX2_serve_5 rfl ?_
    refine lg_ifnonnull hG dX2_serve_6 (tgt := 11) (by decide) (by decide) ?_
    refine lg_aload_n hG dX2_serve_11 rfl ?_
    refine lg_aload_n hG dX2_serve_12 rfl ?_
    refine cg_callO hG hC dX2_serve_13 rfl (fun P h => h) (Nat.le_of_ble_eq_true rfl) (Nat.le_of_ble_eq_true rfl) (Nat.le_of_ble_eq_true rfl) ?_
    refine ⟨Q, R, g, L0, c, R c, hC, rfl, hc, rfl, hc0, hg, fun p z hP => ?_⟩
    have hF : FP (Q, R, g) c p z := ⟨hc, hc0, hcd, hP⟩
    have hp := hp c p z hF
    refine lg_istore_n hG dX2_serve_16 (Nat.le_of_ble_eq_true rfl) rfl ?_
    refine lg_aload_n hG dX2_serve_17 rfl ?_
    refine lg_iload_n hG dX2_serve_18 rfl ?_
    refine cg_callR hG hC dX2_serve_19 rfl (fun P h => h) hc (Nat.le_of_ble_eq_true rfl) (Nat.le_of_ble_eq_true rfl) (Nat.le_of_ble_eq_true rfl) ?_
    refine cr_at hC hc rfl hP.1 ?_
    refine lg_istore_n hG dX2_serve_22 (Nat.le_of_ble_eq_true rfl) rfl ?_
    refine lg_aload_n hG dX2_serve_23 rfl ?_
    refine lg_aload_n hG dX2_serve_24 rfl ?_
    refine lg_iload_n hG dX2_serve_25 rfl ?_
    refine cg_callO hG hC dX2_serve_26 rfl (fun P h => h) (Nat.le_of_ble_eq_true rfl) (Nat.le_of_ble_eq_true rfl) (Nat.le_of_ble_eq_true rfl) ?_
    refine ⟨Q, R, g, L0, c, R c, p, z, hC, rfl, hc, rfl, (hI.2.1 c hc).1, hg, hP.1, fun L hC => ?_⟩
    have hC : CW ids n (bfS (Q, R, g) c p z).1 (bfS (Q, R, g) c p z).2.1 (bfS (Q, R, g) c p z).2.2 L0 L := hC
    obtain ⟨hz12, hzk, hzl⟩ := (hI.2.1 c hc).2 z hF.mem
    obtain ⟨y, t, hy, hfy⟩ := fc_mem hzl
    have hy1 : qI ((bfS (Q, R, g) c p z).1 z) = y :: t := (bf_I z).trans hy
    have hk1 : qk ((bfS (Q, R, g) c p z).1 z) = c := (bf_k z).trans hzk
    have hd1 : y.2 ≤ qd (tkt ((bfS (Q, R, g) c p z).1 z)) := by
      rw [bf_at hI hF, ← hfy]
      exact lkx_enough (hI.1 z hz12).2.1
    refine lg_aload_n hG dX2_serve_29 rfl ?_
    refine lg_iload_n hG dX2_serve_30 rfl ?_
    refine cg_callO hG hC dX2_serve_31 rfl (fun P h => h) (Nat.le_of_ble_eq_true rfl) (Nat.le_of_ble_eq_true rfl) (Nat.le_of_ble_eq_true rfl) ?_
    refine ⟨_, _, _, _, z, y, t, hC, rfl, hz12, hy1, by rw [hk1]; exact hc, by rw [hk1]; exact bf_mem hF, hd1, fun L hC => ?_⟩
    have hp := hp L (CS.mk hC (sfS_cons hy1))
    refine lg_iload_n hG dX2_serve_34 rfl ?_
    refine lg_iret hG dX2_serve_35 (Nat.le_of_ble_eq_true rfl) (Nat.le_of_ble_eq_true rfl) ?_
    exact ⟨trivial, hp⟩
  · intro hno
    have hp := hpn hno
    refine lg_astore_nN hG dX2_serve_4 (Nat.le_of_ble_eq_true rfl) rfl ?_
    refine lg_aload_nN hG dX2_serve_5 rfl ?_
    refine lg_ifnonnullN hG dX2_serve_6 ?_
    refine lg_iconst hG dX2_serve_9 (x := (-1)) (by decide) ?_
    refine lg_iret hG dX2_serve_10 (Nat.le_of_ble_eq_true rfl) (Nat.le_of_ble_eq_true rfl) ?_
    exact ⟨trivial, hp⟩

theorem PN_uni {Q : Nat → Qs} {l : List Nat} {k p z p1 z1 : Nat} (h : PN Q l k p z) (h1 : PN Q l k p1 z1) : p = p1 ∧ z = z1 := by
  obtain ⟨a1, a2, a3⟩ := h
  obtain ⟨b1, b2, b3⟩ := h1
  have e1 := a3 p1 z1 b2 b1
  have e2 := b3 p z a2 a1
  have : p = p1 := by
    rcases Nat.lt_trichotomy p p1 with h9 | h9 | h9
    · have := e2.2 h9; omega
    · exact h9
    · have := e1.2 h9; omega
  subst this
  exact ⟨rfl, Option.some.inj (a1.symm.trans b1)⟩
theorem FP_uni {σ : St} {c p z c1 p1 z1 : Nat} (h : FP σ c p z) (h1 : FP σ c1 p1 z1) : c = c1 ∧ p = p1 ∧ z = z1 := by
  obtain ⟨a1, a2, a3, a4⟩ := h
  obtain ⟨b1, b2, b3, b4⟩ := h1
  have : c = c1 := by
    rcases Nat.lt_trichotomy c c1 with h9 | h9 | h9
    · have := b3 c h9; omega
    · exact h9
    · have := a3 c1 h9; omega
  subst this
  exact ⟨rfl, PN_uni a4 b4⟩
def rm_X2_serveUpTo : Room := { frames := 7, cells := 1, slots := 6, locals := 118 }
theorem ld_X2_serveUpTo : yX2_serveUpTo.cls ≠ "java/lang/invoke/MethodHandle" ∧ yX2_serveUpTo.cls ≠ "java/lang/invoke/VarHandle" ∧ (parseMethodDescriptor yX2_serveUpTo.desc).map (fun d => d.parameters.length) = some 1 := by decide +kernel
def sp_X2_serveUpTo (ids : Nat → ClassId) : lm_S := fun As n L post postX => ∃ Q R g L0 a K, CW ids n Q R g L0 L ∧ As = [.ref 0, .int a] ∧ INV K (Q, R, g) ∧ K + 96 ≤ 2 ^ 17 ∧ (∀ x, okN 100001 a x → ∀ σ' s, SUR 96 (Q, R, g) x σ' s → ∀ L1, CS ids n σ' L0 L1 → post (some (.int (nI s))) n L1) ∧ ((¬ ∃ x, okN 100001 a x) → postX lm_iae n L)
def cv_X2_serveUpTo (ids : Nat → ClassId) : Nat → Option lm_C := fun j => match j with
  | 102 => some (1, 2, sp_X2_next ids, 0, 0)
  | 105 => some (1, 0, sp_X0_firstCost ids, 0, 0)
  | 108 => some (1, 2, sp_X2_serve ids, 0, 0)
  | _ => none
def cs_X2_serveUpTo (ids : Nat → ClassId) : Nat → Option lm_C := fun j => match j with
  | 27 => some (3, 0, sp_X2_checkRange ids, 1, 6)
  | _ => none
def ko_X2_serveUpTo : Nat → Option Int32 := fun j => match j with
  | 101 => some 100000
  | _ => none
set_option maxHeartbeats 4000000 in
set_option maxRecDepth 20000 in
theorem ok_X2_serveUpTo (l : Launch) (D : va_G) (ids : Nat → ClassId) (B b : Nat) (hlt : l.stackTraces = false) : lm_M l D (lm_ty ids) B b false yX2_serveUpTo cX2_serveUpTo 6 (some .int) rm_X2_serveUpTo 1 6 (sp_X2_serveUpTo ids) := by
  refine lm_method (own := RX2) (fld := lf_2) (cv := (cv_X2_serveUpTo ids)) (cs := (cs_X2_serveUpTo ids)) (ci := (fun _ => none)) (kon := ko_X2_serveUpTo) (thr := (fun _ => none)) (nw := (fun _ => none)) (ini := false) (cp := none) (alc := false) (by decide +kernel) rfl rfl rfl (lf_2_ok _) ⟨?_, ?_⟩ ?_ (fun h => by cases h) (lm_aok0 _ _ _ _ _ _ _ _) ?_ ?_
  · intro j f hf
    unfold cv_X2_serveUpTo at hf
    split at hf
    · cases hf; exact ⟨yX2_next, cX2_next, 2, (some .int), rm_X2_next, RX2, TX2, 7, 0, rfl, rfl, ok_X2_next l D ids B b, lw_2_next, ll_2_102, rfl, rfl, ⟨rfl, ld_X2_next⟩, by decide⟩
    · cases hf; exact ⟨yX0_firstCost, cX0_firstCost, 1, (some .int), rm_X0_firstCost, RX0, TX0, 15, 0, rfl, rfl, ok_X0_firstCost l D ids B b, lw_0_firstCost, ll_2_105, rfl, rfl, ⟨rfl, ld_X0_firstCost⟩, by decide⟩
    · cases hf; exact ⟨yX2_serve, cX2_serve, 4, (some .int), rm_X2_serve, RX2, TX2, 7, 0, rfl, rfl, ok_X2_serve l D ids B b, lw_2_serve, ll_2_108, rfl, rfl, ⟨rfl, ld_X2_serve⟩, by decide⟩
    · cases hf
  · intro j f hf
    unfold cs_X2_serveUpTo at hf
    split at hf
    · cases hf; exact ⟨yX2_checkRange, cX2_checkRange, 3, none, rm_X2_checkRange, ok_X2_checkRange l D ids B b hlt, lw_2_checkRange, ll_2_27, rfl, rfl, ld_X2_checkRange, by decide⟩
    · cases hf
  · intro j v hv
    unfold ko_X2_serveUpTo at hv
    split at hv
    · cases hv; exact lk_2_101
    · cases hv
  · exact Or.inl fun _ => rfl
  rintro As n L post postX ⟨Q, R, g, L0, a, K, hC, rfl, hI, hK, hp, hpx⟩
  refine ⟨by simp [Value.category], (Nat.le_of_ble_eq_true rfl), lm_cl_of ?_⟩
  intro G hG
  refine lg_iload_n hG dX2_serveUpTo_0 rfl ?_
  refine lg_iconst hG dX2_serveUpTo_1 (x := 0) (by decide) ?_
  refine lg_ldc hG dX2_serveUpTo_2 rfl ?_
  refine lg_callS hG dX2_serveUpTo_4 (by simp) rfl (fun P h => h) (Nat.le_of_ble_eq_true rfl) (Nat.le_of_ble_eq_true rfl) (Nat.le_of_ble_eq_true rfl) ?_
  refine ⟨_, _, _, rfl, fun hno => hpx (by rintro ⟨x, h, rfl⟩; exact ck_no (N := 100000) rfl (by decide) (by omega) hno), ?_⟩
  intro hge hle
  obtain ⟨x, hx, rfl⟩ := ck_of (N := 100000) rfl (by decide) hge hle
  have hp := hp x ⟨by omega, rfl⟩
  refine lg_iload_n hG dX2_serveUpTo_7 rfl ?_
  refine lg_istore_n hG dX2_serveUpTo_8 (Nat.le_of_ble_eq_true rfl) rfl ?_
  refine lg_iconst hG dX2_serveUpTo_9 (x := 0) (by decide) ?_
  refine lg_istore_n hG dX2_serveUpTo_10 (Nat.le_of_ble_eq_true rfl) rfl ?_
  have loop : ∀ (m k r : Nat) (σ : St) (L : lm_L), k ≤ 96 → 96 - k < m → r ≤ 100000 → INV (K + k) σ → CS ids n σ L0 L → (∀ σ' s, SUR (96 - k) σ r σ' s → ∀ L1, CS ids n σ' L0 L1 → post (some (.int (nI (k + s)))) n L1) → ∀ z4 z5, G 11 [some (.ref 0), some (.int (nI x)), some (.int (nI r)), some (.int (nI k)), z4, z5] [] n L 1 6 := by
    intro m
    induction m with
    | zero => intro k r σ L h1 h2; omega
    | succ m ih =>
      intro k r σ L hk hkm hr hI hC hp z4 z5
      have hC : CW ids n σ.1 σ.2.1 σ.2.2 L0 L := hC
      refine lg_iload_n hG dX2_serveUpTo_11 rfl ?_
      refine lg_bipush hG dX2_serveUpTo_12 (x := (96)) (by decide) ?_
      refine lg_icmp_ge hG dX2_serveUpTo_14 (tgt := 69) (by decide) (by decide) (fun h_14 => ?_) (fun h_14 => ?_)
      · skip
        have hk9 : k = 96 := by
          rcases Nat.lt_or_ge k 96 with h | h
          · exact absurd (nI_lt (b := 96) h (by omega)) h_14
          · omega
        subst hk9
        have hp := hp σ 0 ⟨rfl, rfl⟩ L hC
        refine lg_iload_n hG dX2_serveUpTo_69 rfl ?_
        refine lg_iret hG dX2_serveUpTo_70 (Nat.le_of_ble_eq_true rfl) (Nat.le_of_ble_eq_true rfl) ?_
        exact ⟨trivial, hp⟩
      · skip
        have hk9 : k < 96 := (nI_ltI (b := 96) (by omega) (by omega)).mp h_14
        obtain ⟨f, hf⟩ : ∃ f, 96 - k = f + 1 := ⟨95 - k, by omega⟩
        have hfk : 96 - (k + 1) = f := by omega
        rw [hf] at hp
        refine lg_aload_n hG dX2_serveUpTo_17 rfl ?_
        refine cg_callO hG hC dX2_serveUpTo_18 rfl (fun P h => h) (Nat.le_of_ble_eq_true rfl) (Nat.le_of_ble_eq_true rfl) (Nat.le_of_ble_eq_true rfl) ?_
        refine ⟨_, _, _, L0, K + k, hC, rfl, hI, by omega, ?_, ?_⟩
        · intro hno
          have hp := hp σ 0 (Or.inl ⟨hno, rfl, rfl⟩) L hC
          refine lg_istore hG dX2_serveUpTo_21 (Nat.le_of_ble_eq_true rfl) rfl ?_
          refine lg_iload hG dX2_serveUpTo_23 rfl ?_
          refine lg_iconst hG dX2_serveUpTo_25 (x := (-1)) (by decide) ?_
          refine lg_icmp_ne hG dX2_serveUpTo_26 (tgt := 32) (by decide) (by decide) (fun h_26 => ?_) (fun h_26 => ?_)
          · skip
            exact absurd rfl h_26 --END
          · skip
            refine lg_goto hG dX2_serveUpTo_29 (tgt := 69) (by decide) (by decide) ?_
            refine lg_iload_n hG dX2_serveUpTo_69 rfl ?_
            refine lg_iret hG dX2_serveUpTo_70 (Nat.le_of_ble_eq_true rfl) (Nat.le_of_ble_eq_true rfl) ?_
            exact ⟨trivial, hp⟩
        · intro c p z hF
          have hF : FP σ c p z := hF
          obtain ⟨hz12, hzk, hzl⟩ := (hI.2.1 c hF.1).2 z hF.mem
          obtain ⟨y, t, hy, hfy⟩ := fc_mem hzl
          have hy2 := ((hI.1 z hz12).2.2.2.2.2.2.1 y (by rw [hy]; exact List.mem_cons_self)).2
          refine lg_istore hG dX2_serveUpTo_21 (Nat.le_of_ble_eq_true rfl) rfl ?_
          refine lg_iload hG dX2_serveUpTo_23 rfl ?_
          refine lg_iconst hG dX2_serveUpTo_25 (x := (-1)) (by decide) ?_
          refine lg_icmp_ne hG dX2_serveUpTo_26 (tgt := 32) (by decide) (by decide) (fun h_26 => ?_) (fun h_26 => ?_)
          · skip
            refine lg_aload_n hG dX2_serveUpTo_32 rfl ?_
            refine cg_getg hG hC dX2_serveUpTo_33 rfl rfl ?_
            refine lg_iload hG dX2_serveUpTo_36 rfl ?_
            first | refine cg_aq hG hC dX2_serveUpTo_38 rfl hz12 ?_ | refine cg_ar hG hC dX2_serveUpTo_38 rfl hz12 ?_
            refine cg_callQ hG hC dX2_serveUpTo_39 rfl (fun P h => h) hz12 (Nat.le_of_ble_eq_true rfl) (Nat.le_of_ble_eq_true rfl) (Nat.le_of_ble_eq_true rfl) ?_
            refine cq_first hC hz12 rfl hy ?_
            refine lg_istore hG dX2_serveUpTo_42 (Nat.le_of_ble_eq_true rfl) rfl ?_
            refine lg_iload hG dX2_serveUpTo_44 rfl ?_
            refine lg_iload_n hG dX2_serveUpTo_46 rfl ?_
            refine lg_icmp_le hG dX2_serveUpTo_47 (tgt := 53) (by decide) (by decide) (fun h_47 => ?_) (fun h_47 => ?_)
            · skip
              have e1 : y.2 ≤ r := (nI_leI (by omega) (by omega)).mp h_47
              have hp := fun σ' s (h : SUR f (svS σ c p z) (r - y.2) σ' s) => hp σ' (s + 1) (Or.inr ⟨c, p, z, hF, Or.inr ⟨by rw [hfy]; exact e1, s, rfl, by rw [hfy]; exact h⟩⟩)
              refine lg_iload_n hG dX2_serveUpTo_53 rfl ?_
              refine lg_iload hG dX2_serveUpTo_54 rfl ?_
              refine lg_isub hG dX2_serveUpTo_56 (show nI r - nI y.2 = nI (r - y.2) from pk_sub e1) ?_
              refine lg_istore_n hG dX2_serveUpTo_57 (Nat.le_of_ble_eq_true rfl) rfl ?_
              refine lg_aload_n hG dX2_serveUpTo_58 rfl ?_
              refine cg_callO hG hC dX2_serveUpTo_59 rfl (fun P h => h) (Nat.le_of_ble_eq_true rfl) (Nat.le_of_ble_eq_true rfl) (Nat.le_of_ble_eq_true rfl) ?_
              refine ⟨_, _, _, L0, K + k, hC, rfl, hI, by omega, fun hno => ?_, fun c1 p1 z1 hF1 L hC1 => ?_⟩
              · have h9 := hno c hF.1
                have h8 := hF.2.1
                exact absurd h9 (by show ¬ (σ.2.1 c).length = 0; omega)
              obtain ⟨rfl, rfl, rfl⟩ := FP_uni hF hF1
              have hC : CS ids n (svS σ c p z) L0 L := hC1
              refine lg_pop hG dX2_serveUpTo_62 rfl ?_
              refine lg_iinc hG dX2_serveUpTo_63 (Nat.le_of_ble_eq_true rfl) rfl rfl rfl ?_
              refine lg_goto hG dX2_serveUpTo_66 (tgt := 11) (by decide) (by decide) ?_
              rw [show nI k + Int32.ofInt 1 = nI (k + 1) from nI_1 k]
              rw [← hfk] at hp
              exact ih (k + 1) (r - y.2) (svS σ c p z) L (by omega) (by omega) (by omega) (by have := INV_sv hI hF; rw [show K + (k + 1) = K + k + 1 by omega]; exact this) hC (by intro σ' s h; have := hp σ' s h; rw [show k + 1 + s = k + (s + 1) by omega]; exact this) _ _
            · skip
              have e1 : ¬ y.2 ≤ r := fun h => h_47 (nI_le h (by omega))
              have hp := hp σ 0 (Or.inr ⟨c, p, z, hF, Or.inl ⟨by rw [hfy]; omega, rfl, rfl⟩⟩) L hC
              refine lg_goto hG dX2_serveUpTo_50 (tgt := 69) (by decide) (by decide) ?_
              refine lg_iload_n hG dX2_serveUpTo_69 rfl ?_
              refine lg_iret hG dX2_serveUpTo_70 (Nat.le_of_ble_eq_true rfl) (Nat.le_of_ble_eq_true rfl) ?_
              exact ⟨trivial, hp⟩
          · skip
            exact absurd h_26 (by rw [show (-1 : Int32) = nI (2 ^ 32 - 1) from rfl]; exact nI_nm1 (by omega)) --END
  exact loop 97 0 x (Q, R, g) L (by omega) (by omega) (by omega) hI hC (by intro σ' s h; rw [Nat.zero_add]; exact hp σ' s h) _ _

theorem dl_pre {I : List (Int32 × Nat)} : ∀ (k : Nat) (y : Int32 × Nat), I.dropLast[k]? = some y → I[k]? = some y := by
  intro k y h
  have h1 := (List.getElem?_eq_some_iff.mp h).1
  rw [List.length_dropLast] at h1
  rw [List.getElem?_dropLast] at h
  split at h
  · first | exact h | cases h
  · first | exact h | cases h
theorem ad_id {x : Qs} {w : Int32} {k : Nat} (h : qd x = 0 ∧ qt x = false) : sT (sD (adq x w k) 0) false = adq x w k := by
  obtain ⟨I, k, u, o, p, d, t, a, b, c, e⟩ := x
  simp only [qd, qt] at h
  obtain ⟨rfl, rfl⟩ := h
  rfl
def rm_X3_push : Room := { frames := 3, cells := 0, slots := 0, locals := 68 }
theorem ld_X3_push : yX3_push.cls ≠ "java/lang/invoke/MethodHandle" ∧ yX3_push.cls ≠ "java/lang/invoke/VarHandle" ∧ (parseMethodDescriptor yX3_push.desc).map (fun d => d.parameters.length) = some 3 := by decide +kernel
def sp_X3_push (ids : Nat → ClassId) : lm_S := fun As n L post postX => ∃ Q R g t L0 z w a K, MS ids n Q R g t L0 L ∧ As = [.ref 47, .int z, .int w, .int a] ∧ INV K (Q, R, g) ∧ (∀ q k, okP z a q k → ∀ L1, MS ids n (psh (Q, R, g) q w k).1.1 (psh (Q, R, g) q w k).1.2.1 (psh (Q, R, g) q w k).1.2.2 0 L0 L1 → post (some (.int (psh (Q, R, g) q w k).2)) n L1) ∧ ((¬ ∃ q k, okP z a q k) → ∀ L1, MS ids n Q R g 1 L0 L1 → post (some (.int 0)) n L1)
def cv_X3_push (ids : Nat → ClassId) : Nat → Option lm_C := fun j => match j with
  | 85 => some (2, 3, sp_X3_enter ids, 0, 0)
  | 88 => some (1, 3, sp_X3_free ids, 0, 0)
  | 91 => some (2, 3, sp_X3_excess ids, 0, 0)
  | 97 => some (1, 3, sp_X3_open ids, 0, 0)
  | 100 => some (1, 3, sp_X3_greediest ids, 0, 0)
  | 106 => some (2, 3, sp_X3_settle ids, 0, 0)
  | _ => none
def cs_X3_push (ids : Nat → ClassId) : Nat → Option lm_C := fun j => match j with
  | 69 => some (1, 0, sp_X3_noQueue ids, 0, 0)
  | _ => none
set_option maxHeartbeats 4000000 in
set_option maxRecDepth 20000 in
theorem ok_X3_push (l : Launch) (D : va_G) (ids : Nat → ClassId) (B b : Nat) : lm_M l D (lm_ty ids) B b false yX3_push cX3_push 5 (some .int) rm_X3_push 0 0 (sp_X3_push ids) := by
  refine lm_method (own := RX3) (fld := lf_3) (cv := (cv_X3_push ids)) (cs := (cs_X3_push ids)) (ci := (fun _ => none)) (kon := (fun _ => none)) (thr := (fun _ => none)) (nw := (fun _ => none)) (ini := false) (cp := none) (alc := false) (by decide +kernel) rfl rfl rfl (lf_3_ok _) ⟨?_, ?_⟩ ?_ (fun h => by cases h) (lm_aok0 _ _ _ _ _ _ _ _) ?_ ?_
  · intro j f hf
    unfold cv_X3_push at hf
    split at hf
    · cases hf; exact ⟨yX3_enter, cX3_enter, 3, none, rm_X3_enter, RX3, TX3, 22, 1, rfl, rfl, ok_X3_enter l D ids B b, lw_3_enter, ll_3_85, rfl, rfl, ⟨rfl, ld_X3_enter⟩, by decide⟩
    · cases hf; exact ⟨yX3_free, cX3_free, 3, (some .int), rm_X3_free, RX3, TX3, 22, 0, rfl, rfl, ok_X3_free l D ids B b, lw_3_free, ll_3_88, rfl, rfl, ⟨rfl, ld_X3_free⟩, by decide⟩
    · cases hf; exact ⟨yX3_excess, cX3_excess, 2, (some .int), rm_X3_excess, RX3, TX3, 22, 1, rfl, rfl, ok_X3_excess l D ids B b, lw_3_excess, ll_3_91, rfl, rfl, ⟨rfl, ld_X3_excess⟩, by decide⟩
    · cases hf; exact ⟨yX3_open, cX3_open, 3, (some .int), rm_X3_open, RX3, TX3, 22, 0, rfl, rfl, ok_X3_open l D ids B b, lw_3_open, ll_3_97, rfl, rfl, ⟨rfl, ld_X3_open⟩, by decide⟩
    · cases hf; exact ⟨yX3_greediest, cX3_greediest, 3, (some .int), rm_X3_greediest, RX3, TX3, 22, 0, rfl, rfl, ok_X3_greediest l D ids B b, lw_3_greediest, ll_3_100, rfl, rfl, ⟨rfl, ld_X3_greediest⟩, by decide⟩
    · cases hf; exact ⟨yX3_settle, cX3_settle, 2, none, rm_X3_settle, RX3, TX3, 22, 1, rfl, rfl, ok_X3_settle l D ids B b, lw_3_settle, ll_3_106, rfl, rfl, ⟨rfl, ld_X3_settle⟩, by decide⟩
    · cases hf
  · intro j f hf
    unfold cs_X3_push at hf
    split at hf
    · cases hf; exact ⟨yX3_noQueue, cX3_noQueue, 1, (some .boolean), rm_X3_noQueue, ok_X3_noQueue l D ids B b, lw_3_noQueue, ll_3_69, rfl, rfl, ld_X3_noQueue, by decide⟩
    · cases hf
  · intro j v hv; cases hv
  · exact Or.inl fun _ => rfl
  rintro As n L post postX ⟨Q, R, g, t, L0, z, w, a, K, hM, rfl, hI, hp, hpx⟩
  refine ⟨by simp [Value.category], (Nat.le_of_ble_eq_true rfl), lm_cl_of ?_⟩
  intro G hG
  refine lg_aload_n hG dX3_push_0 rfl ?_
  refine lg_iload_n hG dX3_push_1 rfl ?_
  refine lg_callS hG dX3_push_2 (by simp) rfl (fun P h => h) (Nat.le_of_ble_eq_true rfl) (Nat.le_of_ble_eq_true rfl) (Nat.le_of_ble_eq_true rfl) ?_
  refine ⟨z, rfl, ?_, ?_⟩
  · intro q hq hz
    subst hz
    refine lg_if_ne hG dX3_push_5 (tgt := 20) (by decide) (by decide) (fun h_5 => ?_) (fun h_5 => ?_)
    · skip
      exact absurd rfl h_5 --END
    · skip
      refine lg_iload_n hG dX3_push_8 rfl ?_
      refine lg_iconst hG dX3_push_9 (x := 1) (by decide) ?_
      refine lg_icmp_lt hG dX3_push_10 (tgt := 20) (by decide) (by decide) (fun h_10 => ?_) (fun h_10 => ?_)
      · skip
        have hpx := hpx (by rintro ⟨q1, k1, c1, c2, c3, c4⟩; subst c4; exact nI_nlt (a := k1) (b := 1) c2 (by omega) h_10)
        refine lg_iconst hG dX3_push_20 (x := 1) (by decide) ?_
        refine lg_goto hG dX3_push_21 (tgt := 25) (by decide) (by decide) ?_
        refine ms_put hG hM dX3_push_25 rfl (by first | trivial | exact Or.inl rfl | exact Or.inr rfl | assumption) (by decide) (t' := _) (g' := g) rfl (fun L hM => ?_)
        refine lg_aload_n hG dX3_push_28 rfl ?_
        refine ms_get hG hM dX3_push_29 rfl rfl ?_
        refine lg_if_le hG dX3_push_32 (tgt := 37) (by decide) (by decide) (fun h_32 => ?_) (fun h_32 => ?_)
        · skip
          exact absurd h_32 (by decide) --END
        · skip
          refine lg_iconst hG dX3_push_35 (x := 0) (by decide) ?_
          refine lg_iret hG dX3_push_36 (Nat.le_of_ble_eq_true rfl) (Nat.le_of_ble_eq_true rfl) ?_
          exact ⟨trivial, hpx _ hM⟩
      · skip
        refine lg_iload_n hG dX3_push_13 rfl ?_
        refine lg_sipush hG dX3_push_14 (x := (2000)) (by decide) ?_
        refine lg_icmp_le hG dX3_push_17 (tgt := 24) (by decide) (by decide) (fun h_17 => ?_) (fun h_17 => ?_)
        · skip
          obtain ⟨k, hk1, hk2, rfl⟩ := ck_of1 (N := 2000) rfl (by decide) h_10 h_17
          have hp := hp q k ⟨⟨hq, rfl⟩, hk1, hk2, rfl⟩
          obtain ⟨b1, b2, b3, b4, b5, b6, b7, b8, b9⟩ := hI.1 q hq
          have hl96 := hM.len hq
          unfold psh at hp
          have tail : ∀ (Q1 : Nat → Qs) (R1 : Nat → List Nat) (g1 : Nat → Int32) (L : lm_L) (v : Int32), MS ids n Q1 R1 g1 0 L0 L → (qI (Q1 q)).length < 96 → qk (Q1 q) < 4 → ((qI (Q1 q)).length = 0 → (qd (Q1 q) = 0 ∧ qt (Q1 q) = false) ∧ (R1 (qk (Q1 q))).length < 12) → (∀ L1, MS ids n (va_up Q1 q (adq (Q1 q) w k)) (adR Q1 R1 q) g1 0 L0 L1 → post (some (.int v)) n L1) → G 156 [some (.ref 47), some (.int (nI q)), some (.int w), some (.int (nI k)), some (.int v)] [] n L 0 0 := by
            intro Q1 R1 g1 L v hM hl1 hk41 h01 hq1
            obtain ⟨F, hF, hV⟩ := hM
            have f4 : F 4 q = nI (qI (Q1 q)).length := (hV.1 q hq).1 4 _ (by omega) (by omega) rfl
            refine lg_aload_n hG dX3_push_156 rfl ?_
            refine mg_get hG hF dX3_push_157 rfl rfl ?_
            refine lg_bipush hG dX3_push_160 (x := (96)) (by decide) ?_
            refine lg_iload_n hG dX3_push_162 rfl ?_
            refine lg_imul hG dX3_push_163 (mk96 _) ?_
            refine lg_aload_n hG dX3_push_164 rfl ?_
            refine mg_get hG hF dX3_push_165 rfl rfl ?_
            refine lg_iload_n hG dX3_push_168 rfl ?_
            refine mg_ld hG hF dX3_push_169 (by decide) rfl (show _ < 12 by omega) (by decide) ?_
            rw [f4]
            refine lg_iadd hG dX3_push_170 (nI_add _ _) ?_
            refine lg_iload_n hG dX3_push_171 rfl ?_
            refine mg_st hG hF dX3_push_172 (by decide) rfl (show _ < 1152 by omega) (by decide) (fun L hF => ?_)
            refine lg_aload_n hG dX3_push_173 rfl ?_
            refine mg_get hG hF dX3_push_174 rfl rfl ?_
            refine lg_bipush hG dX3_push_177 (x := (96)) (by decide) ?_
            refine lg_iload_n hG dX3_push_179 rfl ?_
            refine lg_imul hG dX3_push_180 (mk96 _) ?_
            refine lg_aload_n hG dX3_push_181 rfl ?_
            refine mg_get hG hF dX3_push_182 rfl rfl ?_
            refine lg_iload_n hG dX3_push_185 rfl ?_
            refine mg_ld hG hF dX3_push_186 (by decide) rfl (show _ < 12 by omega) (by decide) ?_
            rw [va_up_ne _ _ (by omega : 4 ≠ 7), f4]
            refine lg_iadd hG dX3_push_187 (nI_add _ _) ?_
            refine lg_iload_n hG dX3_push_188 rfl ?_
            refine mg_st hG hF dX3_push_189 (by decide) rfl (show _ < 1152 by omega) (by decide) (fun L hF => ?_)
            refine lg_aload_n hG dX3_push_190 rfl ?_
            refine mg_get hG hF dX3_push_191 rfl rfl ?_
            refine lg_iload_n hG dX3_push_194 rfl ?_
            refine lg_dup2 hG dX3_push_195 rfl rfl ?_
            refine mg_ld hG hF dX3_push_196 (by decide) rfl (show _ < 12 by omega) (by decide) ?_
            rw [va_up_ne _ _ (by omega : 4 ≠ 8), va_up_ne _ _ (by omega : 4 ≠ 7), f4]
            refine lg_iconst hG dX3_push_197 (x := 1) (by decide) ?_
            refine lg_iadd hG dX3_push_198 (nI_1 (qI (Q1 q)).length) ?_
            refine mg_st hG hF dX3_push_199 (by decide) rfl (show _ < 12 by omega) (by decide) (fun L hF => ?_)
            have hM : MS ids n (va_up Q1 q (sI (Q1 q) (qI (Q1 q) ++ [(w, k)]))) R1 g1 0 L0 L := ⟨_, hF, hV.push hq hl1 (fun j h4 h7 h8 => ((va_up_ne _ _ h4).trans (va_up_ne _ _ h8)).trans (va_up_ne _ _ h7)) (by rw [va_up_self, va_up_ne _ _ (by omega : 4 ≠ 8), va_up_ne _ _ (by omega : 4 ≠ 7)]) (by rw [va_up_ne _ _ (by omega : 7 ≠ 4), va_up_ne _ _ (by omega : 7 ≠ 8), va_up_self]) (by rw [va_up_ne _ _ (by omega : 8 ≠ 4), va_up_self, va_up_ne _ _ (by omega : 8 ≠ 7)])⟩
            refine lg_aload_n hG dX3_push_200 rfl ?_
            refine ms_get hG hM dX3_push_201 rfl rfl ?_
            refine lg_iload_n hG dX3_push_204 rfl ?_
            refine lg_dup2 hG dX3_push_205 rfl rfl ?_
            refine ms_ld hG hM dX3_push_206 (by decide) rfl rfl (by first | assumption | omega) (va_up_self _ _ _) rfl ?_
            refine lg_iconst hG dX3_push_207 (x := 1) (by decide) ?_
            refine lg_iadd hG dX3_push_208 rfl ?_
            refine ms_st hG hM dX3_push_209 (by decide) rfl rfl (by first | assumption | omega) (va_up_self _ _ _) (x' := adq (Q1 q) w k) (fun _ _ h => h) rfl (fun L hM => ?_)
            try rw [bx_uu] at hM
            refine lg_aload_n hG dX3_push_210 rfl ?_
            refine ms_get hG hM dX3_push_211 rfl rfl ?_
            refine lg_iload_n hG dX3_push_214 rfl ?_
            refine ms_ld hG hM dX3_push_215 (by decide) rfl rfl (by first | assumption | omega) (va_up_self _ _ _) rfl ?_
            refine lg_iconst hG dX3_push_216 (x := 1) (by decide) ?_
            refine lg_icmp_ne hG dX3_push_217 (tgt := 232) (by decide) (by decide) (fun h_217 => ?_) (fun h_217 => ?_)
            · skip
              have e9 : ¬ (qI (Q1 q)).length = 0 := fun h => h_217 (by show nI (qI (Q1 q) ++ [(w, k)]).length = 1; rw [List.length_append, h]; rfl)
              unfold adR at hq1
              rw [if_neg e9] at hq1
              refine lg_iload hG dX3_push_232 rfl ?_
              refine lg_iret hG dX3_push_234 (Nat.le_of_ble_eq_true rfl) (Nat.le_of_ble_eq_true rfl) ?_
              exact ⟨trivial, hq1 _ hM⟩
            · skip
              have e9 : (qI (Q1 q)).length = 0 := by
                have h9 : nI (qI (Q1 q) ++ [(w, k)]).length = nI 1 := h_217
                rw [List.length_append] at h9
                have := (nI_eq (by simp; omega) (by decide)).mp h9
                simpa using this
              unfold adR at hq1
              rw [if_pos e9] at hq1
              obtain ⟨h01, hr1⟩ := h01 e9
              refine lg_aload_n hG dX3_push_220 rfl ?_
              refine ms_get hG hM dX3_push_221 rfl rfl ?_
              refine lg_iload_n hG dX3_push_224 rfl ?_
              refine lg_iconst hG dX3_push_225 (x := 0) (by decide) ?_
              refine ms_st hG hM dX3_push_226 (by decide) rfl rfl (by first | assumption | omega) (va_up_self _ _ _) (x' := sD (adq (Q1 q) w k) 0) (fun _ _ h => h) rfl (fun L hM => ?_)
              try rw [bx_uu] at hM
              refine lg_aload_n hG dX3_push_227 rfl ?_
              refine lg_iload_n hG dX3_push_228 rfl ?_
              refine ms_call hG hM dX3_push_229 rfl (fun P h => h) (Nat.le_of_ble_eq_true rfl) (Nat.le_of_ble_eq_true rfl) (Nat.le_of_ble_eq_true rfl) ?_
              refine ⟨_, R1, g1, _, L0, q, hM, rfl, hq, by rw [va_up_self]; exact hk41, by rw [va_up_self]; exact hr1, fun L hM => ?_⟩
              rw [va_up_self, bx_uu, ad_id h01] at hM
              refine lg_iload hG dX3_push_232 rfl ?_
              refine lg_iret hG dX3_push_234 (Nat.le_of_ble_eq_true rfl) (Nat.le_of_ble_eq_true rfl) ?_
              exact ⟨trivial, hq1 _ hM⟩
          refine lg_iconst hG dX3_push_24 (x := 0) (by decide) ?_
          refine ms_put hG hM dX3_push_25 rfl (by first | trivial | exact Or.inl rfl | exact Or.inr rfl | assumption) (by decide) (t' := _) (g' := g) rfl (fun L hM => ?_)
          refine lg_aload_n hG dX3_push_28 rfl ?_
          refine ms_get hG hM dX3_push_29 rfl rfl ?_
          refine lg_if_le hG dX3_push_32 (tgt := 37) (by decide) (by decide) (fun h_32 => ?_) (fun h_32 => ?_)
          · skip
            refine lg_aload_n hG dX3_push_37 rfl ?_
            refine ms_get hG hM dX3_push_38 rfl rfl ?_
            refine lg_iload_n hG dX3_push_41 rfl ?_
            refine ms_ld hG hM dX3_push_42 (by decide) rfl rfl (by first | assumption | omega) rfl rfl ?_
            refine lg_aload_n hG dX3_push_43 rfl ?_
            refine ms_get hG hM dX3_push_44 rfl rfl ?_
            refine lg_iload_n hG dX3_push_47 rfl ?_
            refine ms_ld hG hM dX3_push_48 (by decide) rfl rfl (by first | assumption | omega) rfl rfl ?_
            refine lg_icmp_lt hG dX3_push_49 (tgt := 65) (by decide) (by decide) (fun h_49 => ?_) (fun h_49 => ?_)
            · skip
              have e1 : ¬ qq (Q q) ≤ (qI (Q q)).length := by
                have := (nI_ltI (a := (qI (Q q)).length) (b := qq (Q q)) (by omega) (by have : qq (Q q) ≤ 96 := b4; omega)).mp h_49
                omega
              rw [if_neg e1] at hp
              have hlt : (qI (Q q)).length < 96 := by have : qq (Q q) ≤ 96 := b4; omega
              have hf := hM.bfre
              have he := hM.bexc hI.kp hq
              have ho := hM.bopn hI.kp (k := 12) (by omega)
              refine lg_bipush hG dX3_push_65 (x := (100)) (by decide) ?_
              refine lg_istore hG dX3_push_67 (Nat.le_of_ble_eq_true rfl) rfl ?_
              refine lg_aload_n hG dX3_push_69 rfl ?_
              refine ms_call hG hM dX3_push_70 rfl (fun P h => h) (Nat.le_of_ble_eq_true rfl) (Nat.le_of_ble_eq_true rfl) (Nat.le_of_ble_eq_true rfl) ?_
              refine ⟨Q, R, g, _, L0, hM, rfl, ?_⟩
              refine lg_iconst hG dX3_push_73 (x := 1) (by decide) ?_
              refine lg_icmp_lt hG dX3_push_74 (tgt := 93) (by decide) (by decide) (fun h_74 => ?_) (fun h_74 => ?_)
              · skip
                have r1 : ¬ 0 < fre Q := by
                  have := (iI_lt (b := 1) (by omega) (by omega) (by omega) (by omega)).mp h_74
                  omega
                have er : room Q q = false := by simp [room, r1]
                rw [if_neg (show ¬ room Q q = true by rw [er]; decide)] at hp
                refine lg_aload_n hG dX3_push_93 rfl ?_
                refine ms_call hG hM dX3_push_94 rfl (fun P h => h) (Nat.le_of_ble_eq_true rfl) (Nat.le_of_ble_eq_true rfl) (Nat.le_of_ble_eq_true rfl) ?_
                refine ⟨Q, R, g, _, L0, hM, rfl, hI.kp, ?_⟩
                have hg12 : grd Q 11 < 12 := by have := grd_le Q 11; omega
                have he2 := hM.bexc hI.kp hg12
                refine lg_istore hG dX3_push_97 (Nat.le_of_ble_eq_true rfl) rfl ?_
                refine lg_aload_n hG dX3_push_99 rfl ?_
                refine lg_iload hG dX3_push_100 rfl ?_
                refine ms_call hG hM dX3_push_102 rfl (fun P h => h) (Nat.le_of_ble_eq_true rfl) (Nat.le_of_ble_eq_true rfl) (Nat.le_of_ble_eq_true rfl) ?_
                refine ⟨Q, R, g, _, L0, grd Q 11, hM, rfl, hg12, ?_⟩
                refine lg_aload_n hG dX3_push_105 rfl ?_
                refine lg_iload_n hG dX3_push_106 rfl ?_
                refine ms_call hG hM dX3_push_107 rfl (fun P h => h) (Nat.le_of_ble_eq_true rfl) (Nat.le_of_ble_eq_true rfl) (Nat.le_of_ble_eq_true rfl) ?_
                refine ⟨Q, R, g, _, L0, q, hM, rfl, hq, ?_⟩
                refine lg_iconst hG dX3_push_110 (x := 2) (by decide) ?_
                refine lg_iadd hG dX3_push_111 (iI_add (exc Q q) 2) ?_
                refine lg_icmp_ge hG dX3_push_112 (tgt := 128) (by decide) (by decide) (fun h_112 => ?_) (fun h_112 => ?_)
                · skip
                  have e3 : ¬ exc Q (grd Q 11) - exc Q q < 2 := fun h => h_112 ((iI_lt (by omega) (by omega) (by omega) (by omega)).mpr (by omega))
                  rw [if_neg e3] at hp
                  obtain ⟨hne, hgl⟩ := lose_ok (σ := (Q, R, g)) hI hq er e3
                  obtain ⟨d1, -, -, -, -, -, -, -, d9⟩ := hI.1 (grd Q 11) hg12
                  have hgl : 0 < (qI (Q (grd Q 11))).length := hgl
                  refine lg_aload_n hG dX3_push_128 rfl ?_
                  refine ms_get hG hM dX3_push_129 rfl rfl ?_
                  refine lg_iload hG dX3_push_132 rfl ?_
                  refine lg_dup2 hG dX3_push_134 rfl rfl ?_
                  refine ms_ld hG hM dX3_push_135 (by decide) rfl rfl (by first | assumption | omega) rfl rfl ?_
                  refine lg_iconst hG dX3_push_136 (x := 1) (by decide) ?_
                  refine lg_isub hG dX3_push_137 (show nI (qI (Q (grd Q 11))).length - 1 = nI (qI (Q (grd Q 11))).dropLast.length by rw [List.length_dropLast]; exact pk_sub (b := 1) hgl) ?_
                  refine ms_st hG hM dX3_push_138 (by decide) rfl rfl (by first | assumption | omega) rfl (x' := sI (Q (grd Q 11)) (qI (Q (grd Q 11))).dropLast) dl_pre rfl (fun L hM => ?_)
                  try rw [bx_uu] at hM
                  refine lg_aload_n hG dX3_push_139 rfl ?_
                  refine ms_get hG hM dX3_push_140 rfl rfl ?_
                  refine lg_iload hG dX3_push_143 rfl ?_
                  refine lg_dup2 hG dX3_push_145 rfl rfl ?_
                  refine ms_ld hG hM dX3_push_146 (by decide) rfl rfl (by first | assumption | omega) (va_up_self _ _ _) rfl ?_
                  refine lg_iconst hG dX3_push_147 (x := 1) (by decide) ?_
                  refine lg_iadd hG dX3_push_148 rfl ?_
                  refine ms_st hG hM dX3_push_149 (by decide) rfl rfl (by first | assumption | omega) (va_up_self _ _ _) (x' := loq (Q (grd Q 11)) (qI (Q (grd Q 11))).dropLast) (fun _ _ h => h) rfl (fun L hM => ?_)
                  try rw [bx_uu] at hM
                  refine lg_aload_n hG dX3_push_150 rfl ?_
                  refine lg_iload hG dX3_push_151 rfl ?_
                  refine ms_call hG hM dX3_push_153 rfl (fun P h => h) (Nat.le_of_ble_eq_true rfl) (Nat.le_of_ble_eq_true rfl) (Nat.le_of_ble_eq_true rfl) ?_
                  refine ⟨_, R, g, _, L0, grd Q 11, hM, rfl, hg12, by rw [va_up_self]; exact d1, fun L hM => ?_⟩
                  rw [va_up_self, bx_uu] at hM
                  have hM : MS ids n (losS (Q, R, g) (grd Q 11)).1 (losS (Q, R, g) (grd Q 11)).2.1 (losS (Q, R, g) (grd Q 11)).2.2 0 L0 L := by
                    unfold losS
                    by_cases e0 : (qI (Q (grd Q 11))).dropLast.length = 0
                    · have e0b : (qI (loq (Q (grd Q 11)) (qI (Q (grd Q 11))).dropLast)).length = 0 := e0
                      rw [if_pos e0b, if_pos e0b] at hM
                      simp only [if_pos e0]
                      unfold lvR at hM ⊢
                      rw [va_up_self] at hM
                      exact hM
                    · have e0b : ¬ (qI (loq (Q (grd Q 11)) (qI (Q (grd Q 11))).dropLast)).length = 0 := e0
                      rw [if_neg e0b, if_neg e0b] at hM
                      simp only [if_neg e0]
                      exact hM
                  have hqq : (losS (Q, R, g) (grd Q 11)).1 q = Q q := va_up_ne _ _ (Ne.symm hne)
                  exact tail _ _ _ L (nI (grd Q 11)) hM (by rw [hqq]; exact hlt) (by rw [hqq]; exact b1) (by rw [hqq]; exact fun h0 => ⟨b8 h0, Nat.lt_of_le_of_lt los_len (hI.ring hq b1 (Or.inl h0))⟩) hp
                  --END
                · skip
                  have e3 : exc Q (grd Q 11) - exc Q q < 2 := by
                    have := (iI_lt (by omega) (by omega) (by omega) (by omega)).mp h_112
                    omega
                  rw [if_pos e3] at hp
                  refine lg_aload_n hG dX3_push_115 rfl ?_
                  refine lg_dup hG dX3_push_116 rfl ?_
                  refine ms_get hG hM dX3_push_117 rfl rfl ?_
                  refine lg_iconst hG dX3_push_120 (x := 1) (by decide) ?_
                  refine lg_iadd hG dX3_push_121 rfl ?_
                  refine ms_put hG hM dX3_push_122 rfl (by first | trivial | exact Or.inl rfl | exact Or.inr rfl | assumption) (by decide) (t' := _) (g' := upd g 4 (g 4 + 1)) rfl (fun L hM => ?_)
                  refine lg_bipush hG dX3_push_125 (x := (-3)) (by decide) ?_
                  refine lg_iret hG dX3_push_127 (Nat.le_of_ble_eq_true rfl) (Nat.le_of_ble_eq_true rfl) ?_
                  exact ⟨trivial, hp _ hM⟩
              · skip
                have r1 : 0 < fre Q := by
                  rcases Int.lt_or_le 0 (fre Q) with h | h
                  · exact h
                  · exact absurd ((iI_lt (b := 1) (by omega) (by omega) (by omega) (by omega)).mpr (by omega)) h_74
                refine lg_aload_n hG dX3_push_77 rfl ?_
                refine lg_iload_n hG dX3_push_78 rfl ?_
                refine ms_call hG hM dX3_push_79 rfl (fun P h => h) (Nat.le_of_ble_eq_true rfl) (Nat.le_of_ble_eq_true rfl) (Nat.le_of_ble_eq_true rfl) ?_
                refine ⟨Q, R, g, _, L0, q, hM, rfl, hq, ?_⟩
                refine lg_if_lt hG dX3_push_82 (tgt := 156) (by decide) (by decide) (fun h_82 => ?_) (fun h_82 => ?_)
                · skip
                  have r2 : exc Q q < 0 := (iI_lt (b := 0) (by omega) (by omega) (by omega) (by omega)).mp h_82
                  have er : room Q q = true := by simp [room, r1, r2]
                  rw [if_pos er] at hp
                  exact tail Q R g L 100 hM hlt b1 (fun h0 => ⟨b8 h0, hI.ring hq b1 (Or.inl h0)⟩) hp
                  --END
                · skip
                  have r2 : ¬ exc Q q < 0 := fun h => h_82 ((iI_lt (b := 0) (by omega) (by omega) (by omega) (by omega)).mpr h)
                  refine lg_aload_n hG dX3_push_85 rfl ?_
                  refine ms_call hG hM dX3_push_86 rfl (fun P h => h) (Nat.le_of_ble_eq_true rfl) (Nat.le_of_ble_eq_true rfl) (Nat.le_of_ble_eq_true rfl) ?_
                  refine ⟨Q, R, g, _, L0, hM, rfl, hI.kp, ?_⟩
                  refine lg_iconst hG dX3_push_89 (x := 1) (by decide) ?_
                  refine lg_icmp_ge hG dX3_push_90 (tgt := 156) (by decide) (by decide) (fun h_90 => ?_) (fun h_90 => ?_)
                  · skip
                    have r3 : 0 < opn Q 12 := by
                      rcases Int.lt_or_le 0 (opn Q 12) with h | h
                      · exact h
                      · exact absurd ((iI_lt (b := 1) (by omega) (by omega) (by omega) (by omega)).mpr (by omega)) h_90
                    have er : room Q q = true := by simp [room, r1, r3]
                    rw [if_pos er] at hp
                    exact tail Q R g L 100 hM hlt b1 (fun h0 => ⟨b8 h0, hI.ring hq b1 (Or.inl h0)⟩) hp
                    --END
                  · skip
                    have r3 : ¬ 0 < opn Q 12 := by
                      have := (iI_lt (b := 1) (by omega) (by omega) (by omega) (by omega)).mp h_90
                      omega
                    have er : room Q q = false := by simp [room, r2, r3]
                    rw [if_neg (show ¬ room Q q = true by rw [er]; decide)] at hp
                    refine lg_aload_n hG dX3_push_93 rfl ?_
                    refine ms_call hG hM dX3_push_94 rfl (fun P h => h) (Nat.le_of_ble_eq_true rfl) (Nat.le_of_ble_eq_true rfl) (Nat.le_of_ble_eq_true rfl) ?_
                    refine ⟨Q, R, g, _, L0, hM, rfl, hI.kp, ?_⟩
                    have hg12 : grd Q 11 < 12 := by have := grd_le Q 11; omega
                    have he2 := hM.bexc hI.kp hg12
                    refine lg_istore hG dX3_push_97 (Nat.le_of_ble_eq_true rfl) rfl ?_
                    refine lg_aload_n hG dX3_push_99 rfl ?_
                    refine lg_iload hG dX3_push_100 rfl ?_
                    refine ms_call hG hM dX3_push_102 rfl (fun P h => h) (Nat.le_of_ble_eq_true rfl) (Nat.le_of_ble_eq_true rfl) (Nat.le_of_ble_eq_true rfl) ?_
                    refine ⟨Q, R, g, _, L0, grd Q 11, hM, rfl, hg12, ?_⟩
                    refine lg_aload_n hG dX3_push_105 rfl ?_
                    refine lg_iload_n hG dX3_push_106 rfl ?_
                    refine ms_call hG hM dX3_push_107 rfl (fun P h => h) (Nat.le_of_ble_eq_true rfl) (Nat.le_of_ble_eq_true rfl) (Nat.le_of_ble_eq_true rfl) ?_
                    refine ⟨Q, R, g, _, L0, q, hM, rfl, hq, ?_⟩
                    refine lg_iconst hG dX3_push_110 (x := 2) (by decide) ?_
                    refine lg_iadd hG dX3_push_111 (iI_add (exc Q q) 2) ?_
                    refine lg_icmp_ge hG dX3_push_112 (tgt := 128) (by decide) (by decide) (fun h_112 => ?_) (fun h_112 => ?_)
                    · skip
                      have e3 : ¬ exc Q (grd Q 11) - exc Q q < 2 := fun h => h_112 ((iI_lt (by omega) (by omega) (by omega) (by omega)).mpr (by omega))
                      rw [if_neg e3] at hp
                      obtain ⟨hne, hgl⟩ := lose_ok (σ := (Q, R, g)) hI hq er e3
                      obtain ⟨d1, -, -, -, -, -, -, -, d9⟩ := hI.1 (grd Q 11) hg12
                      have hgl : 0 < (qI (Q (grd Q 11))).length := hgl
                      refine lg_aload_n hG dX3_push_128 rfl ?_
                      refine ms_get hG hM dX3_push_129 rfl rfl ?_
                      refine lg_iload hG dX3_push_132 rfl ?_
                      refine lg_dup2 hG dX3_push_134 rfl rfl ?_
                      refine ms_ld hG hM dX3_push_135 (by decide) rfl rfl (by first | assumption | omega) rfl rfl ?_
                      refine lg_iconst hG dX3_push_136 (x := 1) (by decide) ?_
                      refine lg_isub hG dX3_push_137 (show nI (qI (Q (grd Q 11))).length - 1 = nI (qI (Q (grd Q 11))).dropLast.length by rw [List.length_dropLast]; exact pk_sub (b := 1) hgl) ?_
                      refine ms_st hG hM dX3_push_138 (by decide) rfl rfl (by first | assumption | omega) rfl (x' := sI (Q (grd Q 11)) (qI (Q (grd Q 11))).dropLast) dl_pre rfl (fun L hM => ?_)
                      try rw [bx_uu] at hM
                      refine lg_aload_n hG dX3_push_139 rfl ?_
                      refine ms_get hG hM dX3_push_140 rfl rfl ?_
                      refine lg_iload hG dX3_push_143 rfl ?_
                      refine lg_dup2 hG dX3_push_145 rfl rfl ?_
                      refine ms_ld hG hM dX3_push_146 (by decide) rfl rfl (by first | assumption | omega) (va_up_self _ _ _) rfl ?_
                      refine lg_iconst hG dX3_push_147 (x := 1) (by decide) ?_
                      refine lg_iadd hG dX3_push_148 rfl ?_
                      refine ms_st hG hM dX3_push_149 (by decide) rfl rfl (by first | assumption | omega) (va_up_self _ _ _) (x' := loq (Q (grd Q 11)) (qI (Q (grd Q 11))).dropLast) (fun _ _ h => h) rfl (fun L hM => ?_)
                      try rw [bx_uu] at hM
                      refine lg_aload_n hG dX3_push_150 rfl ?_
                      refine lg_iload hG dX3_push_151 rfl ?_
                      refine ms_call hG hM dX3_push_153 rfl (fun P h => h) (Nat.le_of_ble_eq_true rfl) (Nat.le_of_ble_eq_true rfl) (Nat.le_of_ble_eq_true rfl) ?_
                      refine ⟨_, R, g, _, L0, grd Q 11, hM, rfl, hg12, by rw [va_up_self]; exact d1, fun L hM => ?_⟩
                      rw [va_up_self, bx_uu] at hM
                      have hM : MS ids n (losS (Q, R, g) (grd Q 11)).1 (losS (Q, R, g) (grd Q 11)).2.1 (losS (Q, R, g) (grd Q 11)).2.2 0 L0 L := by
                        unfold losS
                        by_cases e0 : (qI (Q (grd Q 11))).dropLast.length = 0
                        · have e0b : (qI (loq (Q (grd Q 11)) (qI (Q (grd Q 11))).dropLast)).length = 0 := e0
                          rw [if_pos e0b, if_pos e0b] at hM
                          simp only [if_pos e0]
                          unfold lvR at hM ⊢
                          rw [va_up_self] at hM
                          exact hM
                        · have e0b : ¬ (qI (loq (Q (grd Q 11)) (qI (Q (grd Q 11))).dropLast)).length = 0 := e0
                          rw [if_neg e0b, if_neg e0b] at hM
                          simp only [if_neg e0]
                          exact hM
                      have hqq : (losS (Q, R, g) (grd Q 11)).1 q = Q q := va_up_ne _ _ (Ne.symm hne)
                      exact tail _ _ _ L (nI (grd Q 11)) hM (by rw [hqq]; exact hlt) (by rw [hqq]; exact b1) (by rw [hqq]; exact fun h0 => ⟨b8 h0, Nat.lt_of_le_of_lt los_len (hI.ring hq b1 (Or.inl h0))⟩) hp
                      --END
                    · skip
                      have e3 : exc Q (grd Q 11) - exc Q q < 2 := by
                        have := (iI_lt (by omega) (by omega) (by omega) (by omega)).mp h_112
                        omega
                      rw [if_pos e3] at hp
                      refine lg_aload_n hG dX3_push_115 rfl ?_
                      refine lg_dup hG dX3_push_116 rfl ?_
                      refine ms_get hG hM dX3_push_117 rfl rfl ?_
                      refine lg_iconst hG dX3_push_120 (x := 1) (by decide) ?_
                      refine lg_iadd hG dX3_push_121 rfl ?_
                      refine ms_put hG hM dX3_push_122 rfl (by first | trivial | exact Or.inl rfl | exact Or.inr rfl | assumption) (by decide) (t' := _) (g' := upd g 4 (g 4 + 1)) rfl (fun L hM => ?_)
                      refine lg_bipush hG dX3_push_125 (x := (-3)) (by decide) ?_
                      refine lg_iret hG dX3_push_127 (Nat.le_of_ble_eq_true rfl) (Nat.le_of_ble_eq_true rfl) ?_
                      exact ⟨trivial, hp _ hM⟩
            · skip
              have e1 : qq (Q q) ≤ (qI (Q q)).length := by
                rcases Nat.lt_or_ge (qI (Q q)).length (qq (Q q)) with h | h
                · exact absurd (nI_lt h (by have : qq (Q q) ≤ 96 := b4; omega)) h_49
                · exact h
              rw [if_pos e1] at hp
              refine lg_aload_n hG dX3_push_52 rfl ?_
              refine lg_dup hG dX3_push_53 rfl ?_
              refine ms_get hG hM dX3_push_54 rfl rfl ?_
              refine lg_iconst hG dX3_push_57 (x := 1) (by decide) ?_
              refine lg_iadd hG dX3_push_58 rfl ?_
              refine ms_put hG hM dX3_push_59 rfl (by first | trivial | exact Or.inl rfl | exact Or.inr rfl | assumption) (by decide) (t' := _) (g' := upd g 3 (g 3 + 1)) rfl (fun L hM => ?_)
              refine lg_bipush hG dX3_push_62 (x := (-2)) (by decide) ?_
              refine lg_iret hG dX3_push_64 (Nat.le_of_ble_eq_true rfl) (Nat.le_of_ble_eq_true rfl) ?_
              exact ⟨trivial, hp _ hM⟩
          · skip
            exact absurd (by decide) h_32 --END
        · skip
          have hpx := hpx (by rintro ⟨q1, k1, c1, c2, c3, c4⟩; subst c4; exact h_17 (nI_le (b := 2000) c3 (by decide)))
          refine lg_iconst hG dX3_push_20 (x := 1) (by decide) ?_
          refine lg_goto hG dX3_push_21 (tgt := 25) (by decide) (by decide) ?_
          refine ms_put hG hM dX3_push_25 rfl (by first | trivial | exact Or.inl rfl | exact Or.inr rfl | assumption) (by decide) (t' := _) (g' := g) rfl (fun L hM => ?_)
          refine lg_aload_n hG dX3_push_28 rfl ?_
          refine ms_get hG hM dX3_push_29 rfl rfl ?_
          refine lg_if_le hG dX3_push_32 (tgt := 37) (by decide) (by decide) (fun h_32 => ?_) (fun h_32 => ?_)
          · skip
            exact absurd h_32 (by decide) --END
          · skip
            refine lg_iconst hG dX3_push_35 (x := 0) (by decide) ?_
            refine lg_iret hG dX3_push_36 (Nat.le_of_ble_eq_true rfl) (Nat.le_of_ble_eq_true rfl) ?_
            exact ⟨trivial, hpx _ hM⟩
  · intro hno
    have hpx := hpx (by rintro ⟨q1, k1, c1, -⟩; exact hno q1 c1.1 c1.2)
    refine lg_if_ne hG dX3_push_5 (tgt := 20) (by decide) (by decide) (fun h_5 => ?_) (fun h_5 => ?_)
    · skip
      refine lg_iconst hG dX3_push_20 (x := 1) (by decide) ?_
      refine lg_goto hG dX3_push_21 (tgt := 25) (by decide) (by decide) ?_
      refine ms_put hG hM dX3_push_25 rfl (by first | trivial | exact Or.inl rfl | exact Or.inr rfl | assumption) (by decide) (t' := _) (g' := g) rfl (fun L hM => ?_)
      refine lg_aload_n hG dX3_push_28 rfl ?_
      refine ms_get hG hM dX3_push_29 rfl rfl ?_
      refine lg_if_le hG dX3_push_32 (tgt := 37) (by decide) (by decide) (fun h_32 => ?_) (fun h_32 => ?_)
      · skip
        exact absurd h_32 (by decide) --END
      · skip
        refine lg_iconst hG dX3_push_35 (x := 0) (by decide) ?_
        refine lg_iret hG dX3_push_36 (Nat.le_of_ble_eq_true rfl) (Nat.le_of_ble_eq_true rfl) ?_
        exact ⟨trivial, hpx _ hM⟩
    · skip
      exact absurd h_5 (by decide) --END

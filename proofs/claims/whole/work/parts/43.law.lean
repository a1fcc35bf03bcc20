def cv_law (ids : Nat → ClassId) : Nat → Option lm_C := fun j => match j with
  | 50 => some (4, 3, sp_X3_quota ids, 0, 0)
  | 51 => some (1, 3, sp_X3_thrown ids, 0, 0)
  | 58 => some (4, 3, sp_X3_kind ids, 0, 0)
  | 61 => some (4, 3, sp_X3_push ids, 0, 0)
  | 62 => some (1, 2, sp_X2_serve ids, 0, 0)
  | 65 => some (1, 3, sp_X3_serve ids, 0, 0)
  | 66 => some (1, 2, sp_X2_next ids, 0, 0)
  | 69 => some (1, 3, sp_X3_next ids, 0, 0)
  | 70 => some (1, 2, sp_X2_word ids, 0, 0)
  | 73 => some (1, 3, sp_X3_word ids, 0, 0)
  | 77 => some (2, 3, sp_X3_serveUpTo ids, 0, 0)
  | 80 => some (2, 3, sp_X3_empty ids, 0, 0)
  | 84 => some (3, 3, sp_X3_told ids, 0, 0)
  | 87 => some (4, 3, sp_X3_item ids, 0, 0)
  | 90 => some (2, 3, sp_X3_all ids, 0, 0)
  | _ => none
def cs_law (ids : Nat → ClassId) : Nat → Option lm_C := fun j => match j with
  | 45 => some (5, 0, sp_L_quota ids, 4, 24)
  | 55 => some (4, 0, sp_L_kind ids, 3, 18)
  | 59 => some (5, 0, sp_L_push ids, 2, 12)
  | 74 => some (3, 0, sp_L_serveUpTo ids, 1, 6)
  | 78 => some (3, 0, sp_L_empty ids, 1, 6)
  | 81 => some (4, 0, sp_L_told ids, 2, 12)
  | 85 => some (5, 0, sp_L_item ids, 3, 18)
  | 88 => some (3, 0, sp_L_all ids, 1, 6)
  | _ => none
abbrev E2 (ids : Nat → ClassId) (Lx : Nat) (xs : Nat → Int32) : lm_E := lm_mkL (cv_law ids) (cs_law ids) (fun _ => none) (fun _ _ => none) (fun _ => none) ids (some (Lx, xs)) 601024 7293034 false
theorem okN_uni {N a b : Nat} {z : Int32} (hN : N ≤ 2 ^ 31) (h : okN N z a) (h1 : okN N z b) : a = b := (nI_eq (by have := h.1; omega) (by have := h1.1; omega)).mp (h.2.symm.trans h1.2)
theorem nI_uni {a b : Nat} {z : Int32} (ha : a < 2 ^ 31) (hb : b < 2 ^ 31) (h : z = nI a) (h1 : z = nI b) : a = b := (nI_eq ha hb).mp (h.symm.trans h1)
theorem okQ_uni {Q : Nat → Qs} {z a b : Int32} {q i j q1 i1 j1 : Nat} (h : okQ Q z a b q i j) (h1 : okQ Q z a b q1 i1 j1) : q = q1 ∧ i = i1 ∧ j = j1 := by
  obtain ⟨⟨a1, a2⟩, ⟨a3, a4⟩, ⟨a5, a6⟩, -⟩ := h
  obtain ⟨⟨b1, b2⟩, ⟨b3, b4⟩, ⟨b5, b6⟩, -⟩ := h1
  exact ⟨nI_uni (by omega) (by omega) a2 b2, nI_uni (by omega) (by omega) a4 b4, nI_uni (by omega) (by omega) a6 b6⟩
theorem okK_uni {z a b : Int32} {q i j q1 i1 j1 : Nat} (h : okK z a b q i j) (h1 : okK z a b q1 i1 j1) : q = q1 ∧ i = i1 ∧ j = j1 := by
  obtain ⟨⟨a1, a2⟩, ⟨a3, a4⟩, a5, a6, a7⟩ := h
  obtain ⟨⟨b1, b2⟩, ⟨b3, b4⟩, b5, b6, b7⟩ := h1
  exact ⟨nI_uni (by omega) (by omega) a2 b2, nI_uni (by omega) (by omega) a4 b4, nI_uni (by omega) (by omega) a7 b7⟩
theorem okP_uni {z c : Int32} {q k q1 k1 : Nat} (h : okP z c q k) (h1 : okP z c q1 k1) : q = q1 ∧ k = k1 := by
  obtain ⟨⟨a1, a2⟩, a5, a6, a7⟩ := h
  obtain ⟨⟨b1, b2⟩, b5, b6, b7⟩ := h1
  exact ⟨nI_uni (by omega) (by omega) a2 b2, nI_uni (by omega) (by omega) a7 b7⟩
theorem cmp_self (x : Int64) : lg_cmp x x = 0 := by
  unfold lg_cmp
  rw [if_neg (by simp), if_pos rfl]
theorem INV_mono {K K1 : Nat} {σ : St} (h : INV K σ) (hK : K ≤ K1) : INV K1 σ := by
  refine ⟨fun q hq => ?_, h.2⟩
  obtain ⟨c1, c2, c3, c4, c5, c6, c7⟩ := h.1 q hq
  exact ⟨c1, c2, c3, c4, c5, by omega, c7⟩
theorem INV_sur : ∀ (f : Nat) {K : Nat} {σ σ' : St} {r s : Nat}, INV K σ → SUR f σ r σ' s → INV (K + f) σ'
  | 0, K, σ, σ', r, s, hI, h => by rw [h.1]; exact hI
  | f + 1, K, σ, σ', r, s, hI, h => by
    rcases h with ⟨-, h, -⟩ | ⟨c, p, z, hF, ⟨-, h, -⟩ | ⟨-, s1, -, h⟩⟩
    · rw [h]; exact INV_mono hI (by omega)
    · rw [h]; exact INV_mono hI (by omega)
    · have := INV_sur f (INV_sv hI hF) h
      exact INV_mono this (by omega)
theorem SUR_ex : ∀ (f : Nat) (σ : St) (r : Nat), ∃ σ' s, SUR f σ r σ' s
  | 0, σ, r => ⟨σ, 0, rfl, rfl⟩
  | f + 1, σ, r => by
    rcases FP_ex σ with h | ⟨c, p, z, hF⟩
    · exact ⟨σ, 0, Or.inl ⟨h, rfl, rfl⟩⟩
    · rcases Nat.lt_or_ge r (fc (σ.1 z)) with h | h
      · exact ⟨σ, 0, Or.inr ⟨c, p, z, hF, Or.inl ⟨h, rfl, rfl⟩⟩⟩
      · obtain ⟨σ', s, h9⟩ := SUR_ex f (svS σ c p z) (r - fc (σ.1 z))
        exact ⟨σ', s + 1, Or.inr ⟨c, p, z, hF, Or.inr ⟨h, s, rfl, h9⟩⟩⟩
theorem MS.cgs {ids : Nat → ClassId} {n : Nat} {Q : Nat → Qs} {R : Nat → List Nat} {g : Nat → Int32} {t : Int32} {L0 L L2 : lm_L} (hM : MS ids n Q R g t L0 L) (h : ∀ k, 47 ≤ k → k < 66 → L2 k = L k) : MS ids n Q R g t L2 L2 := by
  obtain ⟨F, ⟨h1, h2, h3, h4, h5⟩, hV⟩ := hM
  refine ⟨F, ⟨h1, h2, ?_, fun j hj => ?_, fun _ _ => rfl⟩, hV⟩
  · rw [h 47 (by omega) (by omega)]; exact h3
  · rw [h _ (by omega) (by omega)]; exact h4 j hj
theorem WA.cg {ids : Nat → ClassId} {L L2 : lm_L} (hA : WA ids L) (h : ∀ k, 47 ≤ k → k < 66 → L2 k = L k) : WA ids L2 := by
  obtain ⟨A, hA⟩ := hA
  refine ⟨A, fun j hj hj2 => ?_⟩
  rw [h _ (by omega) (by omega)]; exact hA j hj hj2
/-- the law's state between two calls -/
def LAWI (ids : Nat → ClassId) (K : Nat) (L : lm_L) : Prop := ∃ (σ : St) (t : Int32), CW ids 67 σ.1 σ.2.1 σ.2.2 L L ∧ MS ids 67 σ.1 σ.2.1 σ.2.2 t L L ∧ WA ids L ∧ OUT ids 67 L ∧ INV K σ
theorem LAWI_of {ids : Nat → ClassId} {K : Nat} {σ : St} {t : Int32} {L2 L3 : lm_L} (hC : CW ids 67 σ.1 σ.2.1 σ.2.2 L2 L2) (hW : MW ids 67 σ.1 σ.2.1 σ.2.2 t L2 L3) (hO : OUT ids 67 L2) (hI : INV K σ) : LAWI ids K L3 := by
  obtain ⟨h1, h2, h3⟩ := hW
  refine ⟨σ, t, hC.cg (fun k hk => h3 k (Or.inl hk)), h1, h2, ?_, hI⟩
  obtain ⟨h4, f, h5⟩ := hO
  exact ⟨h4, f, by rw [h3 66 (Or.inr (by omega))]; exact h5⟩
theorem em_g {ids : Nat → ClassId} {n : Nat} {σ : St} {q : Nat} {t : Int32} {L0 L : lm_L} (h : MS ids n (emS σ q).1 (emS σ q).2.1 σ.2.2 t L0 L) : MS ids n (emS σ q).1 (emS σ q).2.1 (emS σ q).2.2 t L0 L := by
  have : (emS σ q).2.2 = σ.2.2 := by unfold emS; split <;> rfl
  rw [this]
  exact h
theorem kd_g {ids : Nat → ClassId} {n : Nat} {σ : St} {q j u : Nat} {t : Int32} {L0 L : lm_L} (h : MS ids n (kdS σ q j u).1 (kdS σ q j u).2.1 σ.2.2 t L0 L) : MS ids n (kdS σ q j u).1 (kdS σ q j u).2.1 (kdS σ q j u).2.2 t L0 L := by
  have : (kdS σ q j u).2.2 = σ.2.2 := by unfold kdS; split <;> rfl
  rw [this]
  exact h
set_option maxHeartbeats 8000000 in
set_option maxRecDepth 20000 in
theorem law_loop {ids : Nat → ClassId} {Lx : Nat} {xs : Nat → Int32} (hLx : Lx ≤ 2048) {X : lm_X} {G : lm_K} (hG : lm_cl (E2 ids Lx xs) cL_law (fun r _ _ => r = some (.int 1)) X G) :
    ∀ (m t : Nat) (L : lm_L) (bc bs : Nat), 4 * t ≤ Lx → Lx - 4 * t < m → LAWI ids (100 * t) L → bc ≤ 67 + 4 * t → bs ≤ 5146 + 24 * t → ∀ v5 v6, G 23 [some (.float 0), some (.ref 0), some (.ref 47), some (.ref 66), some (.int (nI (4 * t))), v5, v6] [] 67 L bc bs := by
  intro m
  induction m with
  | zero => intro t L bc bs h1 h2; omega
  | succ m ih =>
    intro t L bc bs ht htm hLW hbc hbs v5 v6
    obtain ⟨σ, tt, hC, hM, hA, hO, hI⟩ := hLW
    refine lg_iload hG dL_law_23 rfl ?_
    refine lg_aload_nS hG dL_law_25 rfl ?_
    refine lg_slen hG dL_law_26 rfl (x := nI Lx) rfl ?_
    refine lg_iconst hG dL_law_27 (x := 4) (by decide) ?_
    refine lg_isub hG dL_law_28 (show nI Lx - 4 = iI ((Lx : Int) - 4) by rw [iI_n]; exact iI_sub _ 4) ?_
    refine lg_icmp_gt hG dL_law_29 (tgt := 677) (by decide) (by decide) (fun h_29 => ?_) (fun h_29 => ?_)
    · skip
      have hp : (some (.int 1) : Option Value) = some (.int 1) := rfl
      refine lg_iconst hG dL_law_677 (x := 1) (by decide) ?_
      refine lg_iret hG dL_law_678 (by show bc ≤ 601024; omega) (by show bs ≤ 7293034; omega) ?_
      exact rfl --END
    · skip
      have h4t : 4 * t + 4 ≤ Lx := by
        have h9 : iI ((4 * t : Nat) : Int) ≤ iI ((Lx : Int) - 4) := by rw [← iI_n]; exact h_29
        have := (iI_le (by omega) (by omega) (by omega) (by omega)).mp h9
        omega
      refine lg_aload_nS hG dL_law_32 rfl ?_
      refine lg_iload hG dL_law_33 rfl ?_
      refine lg_sld hG dL_law_35 rfl (vp_in_nI (show _ < Lx by omega) (by omega)) ?_
      rw [nI_clamp (by omega)]
      obtain ⟨j, hj16, hj⟩ := pk_andE (xs (4 * t)) (m := 15) 4 rfl
      refine lg_bipush hG dL_law_36 (x := (15)) (by decide) ?_
      refine lg_iand hG dL_law_38 hj ?_
      have cont : ∀ (L1 : lm_L) (bc1 bs1 : Nat) (v5 v6 : Option Value), LAWI ids (100 * (t + 1)) L1 → bc1 ≤ 67 + 4 * (t + 1) → bs1 ≤ 5146 + 24 * (t + 1) → G 671 [some (.float 0), some (.ref 0), some (.ref 47), some (.ref 66), some (.int (nI (4 * t))), v5, v6] [] 67 L1 bc1 bs1 := by
        intro L1 bc1 bs1 v5 v6 hL1 hb1 hb2
        refine lg_iinc hG dL_law_671 (Nat.le_of_ble_eq_true rfl) rfl rfl rfl ?_
        refine lg_goto hG dL_law_674 (tgt := 23) (by decide) (by decide) ?_
        rw [show nI (4 * t) + Int32.ofInt 4 = nI (4 * (t + 1)) by rw [Nat.mul_add]; exact nI_add (4 * t) 4]
        exact ih (t + 1) L1 bc1 bs1 h4t (by omega) hL1 (by omega) (by omega) _ _
      rcases (by omega : j = 0 ∨ j = 1 ∨ j = 2 ∨ j = 3 ∨ j = 4 ∨ j = 5 ∨ j = 6 ∨ j = 7 ∨ j = 8 ∨ j = 9 ∨ j = 10 ∨ 11 ≤ j) with rfl | rfl | rfl | rfl | rfl | rfl | rfl | rfl | rfl | rfl | rfl | hj11
      · refine lg_tabIn hG dL_law_39 (by decide) (by decide) (o := 57) (by decide) (tgt := 96) (by decide) (by decide) ?_
        refine lg_aload_n hG dL_law_96 rfl ?_
        refine lg_aload_nS hG dL_law_97 rfl ?_
        refine lg_iload hG dL_law_98 rfl ?_
        refine lg_iconst hG dL_law_100 (x := 1) (by decide) ?_
        refine lg_iadd hG dL_law_101 (show nI (4 * t) + 1 = nI (4 * t + 1) from nI_add (4 * t) 1) ?_
        refine lg_sld hG dL_law_102 rfl (vp_in_nI (show _ < Lx by omega) (by omega)) ?_
        rw [nI_clamp (by omega)]
        refine lg_aload_nS hG dL_law_103 rfl ?_
        refine lg_iload hG dL_law_104 rfl ?_
        refine lg_iconst hG dL_law_106 (x := 2) (by decide) ?_
        refine lg_iadd hG dL_law_107 (show nI (4 * t) + 2 = nI (4 * t + 2) from nI_add (4 * t) 2) ?_
        refine lg_sld hG dL_law_108 rfl (vp_in_nI (show _ < Lx by omega) (by omega)) ?_
        rw [nI_clamp (by omega)]
        refine lg_aload_nS hG dL_law_109 rfl ?_
        refine lg_iload hG dL_law_110 rfl ?_
        refine lg_iconst hG dL_law_112 (x := 3) (by decide) ?_
        refine lg_iadd hG dL_law_113 (show nI (4 * t) + 3 = nI (4 * t + 3) from nI_add (4 * t) 3) ?_
        refine lg_sld hG dL_law_114 rfl (vp_in_nI (show _ < Lx by omega) (by omega)) ?_
        rw [nI_clamp (by omega)]
        refine lg_aload_n hG dL_law_115 rfl ?_
        refine lg_callS hG dL_law_116 (by simp) rfl (fun P h => h) (by show _ + _ ≤ 601024; omega) (by show _ + _ ≤ 7293034; omega) (Nat.le_of_ble_eq_true rfl) ?_
        refine ⟨σ.1, σ.2.1, σ.2.2, 100 * t, (xs (4 * t + 1)), (xs (4 * t + 2)), (xs (4 * t + 3)), hC, hO, rfl, hI, ?_, ?_⟩
        · intro q i j hok L2 hW
          obtain ⟨hC2, hfr, f6, h66, hf6⟩ := hW
          have hM2 := hM.cgs (L2 := L2) (fun k h1 h2 => hfr k h1 (by omega))
          have hA2 := hA.cg (L2 := L2) (fun k h1 h2 => hfr k h1 (by omega))
          have hO2 : OUT ids 67 L2 := ⟨by omega, f6, h66⟩
          have hM := hM2
          refine lg_istore hG dL_law_119 (Nat.le_of_ble_eq_true rfl) rfl ?_
          refine lg_aload_n hG dL_law_121 rfl ?_
          refine lg_aload_nS hG dL_law_122 rfl ?_
          refine lg_iload hG dL_law_123 rfl ?_
          refine lg_iconst hG dL_law_125 (x := 1) (by decide) ?_
          refine lg_iadd hG dL_law_126 (show nI (4 * t) + 1 = nI (4 * t + 1) from nI_add (4 * t) 1) ?_
          refine lg_sld hG dL_law_127 rfl (vp_in_nI (show _ < Lx by omega) (by omega)) ?_
          rw [nI_clamp (by omega)]
          refine lg_aload_nS hG dL_law_128 rfl ?_
          refine lg_iload hG dL_law_129 rfl ?_
          refine lg_iconst hG dL_law_131 (x := 2) (by decide) ?_
          refine lg_iadd hG dL_law_132 (show nI (4 * t) + 2 = nI (4 * t + 2) from nI_add (4 * t) 2) ?_
          refine lg_sld hG dL_law_133 rfl (vp_in_nI (show _ < Lx by omega) (by omega)) ?_
          rw [nI_clamp (by omega)]
          refine lg_aload_nS hG dL_law_134 rfl ?_
          refine lg_iload hG dL_law_135 rfl ?_
          refine lg_iconst hG dL_law_137 (x := 3) (by decide) ?_
          refine lg_iadd hG dL_law_138 (show nI (4 * t) + 3 = nI (4 * t + 3) from nI_add (4 * t) 3) ?_
          refine lg_sld hG dL_law_139 rfl (vp_in_nI (show _ < Lx by omega) (by omega)) ?_
          rw [nI_clamp (by omega)]
          refine ms_call hG hM dL_law_140 rfl (fun P h => h) (by show _ + _ ≤ 601024; omega) (by show _ + _ ≤ 7293034; omega) (Nat.le_of_ble_eq_true rfl) ?_
          refine ⟨σ.1, σ.2.1, σ.2.2, _, _, (xs (4 * t + 1)), (xs (4 * t + 2)), (xs (4 * t + 3)), 100 * t, hM, rfl, hI, ?_, ?_⟩
          · intro q1 i1 j1 hok1 L3 hM3
            obtain ⟨rfl, rfl, rfl⟩ := okQ_uni hok hok1
            have hW3 := hM3.mw hA2 (fun _ _ => rfl)
            have hM := hW3.1
            refine lg_istore hG dL_law_143 (Nat.le_of_ble_eq_true rfl) rfl ?_
            refine lg_aload_n hG dL_law_145 rfl ?_
            refine ms_call hG hM dL_law_146 rfl (fun P h => h) (by show _ + _ ≤ 601024; omega) (by show _ + _ ≤ 7293034; omega) (Nat.le_of_ble_eq_true rfl) ?_
            refine ⟨_, _, _, _, _, hM, rfl, ?_⟩
            refine lg_iload hG dL_law_149 rfl ?_
            refine lg_icmp_eq hG dL_law_151 (tgt := 156) (by decide) (by decide) (fun h_151 => ?_) (fun h_151 => ?_)
            · skip
              refine lg_iload hG dL_law_156 rfl ?_
              refine lg_if_ne hG dL_law_158 (tgt := 173) (by decide) (by decide) (fun h_158 => ?_) (fun h_158 => ?_)
              · skip
                exact absurd rfl h_158 --END
              · skip
                refine lg_aload_n hG dL_law_161 rfl ?_
                refine lg_iconst hG dL_law_162 (x := 0) (by decide) ?_
                refine lg_lald hG dL_law_163 (by first | assumption | omega) (show L3 66 = .inl (ids 2, 1, .inr (.inl f6)) by rw [hW3.2.2 66 (Or.inr (by omega))]; exact h66) (vp_in_nI (n := 0) (by decide) (by decide)) ?_
                rw [show f6 (0 : Int32).toNatClampNeg = _ from hf6]
                refine lg_iload hG dL_law_164 rfl ?_
                refine lg_i2l hG dL_law_166 ?_
                refine lg_lcmp hG dL_law_167 ?_
                refine lg_if_eq hG dL_law_168 (tgt := 173) (by decide) (by decide) (fun h_168 => ?_) (fun h_168 => ?_)
                · skip
                  refine lg_goto hG dL_law_173 (tgt := 671) (by decide) (by decide) ?_
                  exact cont L3 _ _ _ _ (LAWI_of hC2 hW3 hO2 (INV_mono (INV_qu hI hok.1.1 hok.2.1.1 hok.2.2.1.1 hok.2.2.2) (by omega))) (by omega) (by omega)
                · skip
                  exact absurd (cmp_self _) h_168 --END
            · skip
              exact absurd rfl h_151 --END
          · intro hno1
            exact absurd ⟨q, i, j, hok⟩ hno1
        · intro hno
          refine lg_istore hG dL_law_119 (Nat.le_of_ble_eq_true rfl) rfl ?_
          refine lg_aload_n hG dL_law_121 rfl ?_
          refine lg_aload_nS hG dL_law_122 rfl ?_
          refine lg_iload hG dL_law_123 rfl ?_
          refine lg_iconst hG dL_law_125 (x := 1) (by decide) ?_
          refine lg_iadd hG dL_law_126 (show nI (4 * t) + 1 = nI (4 * t + 1) from nI_add (4 * t) 1) ?_
          refine lg_sld hG dL_law_127 rfl (vp_in_nI (show _ < Lx by omega) (by omega)) ?_
          rw [nI_clamp (by omega)]
          refine lg_aload_nS hG dL_law_128 rfl ?_
          refine lg_iload hG dL_law_129 rfl ?_
          refine lg_iconst hG dL_law_131 (x := 2) (by decide) ?_
          refine lg_iadd hG dL_law_132 (show nI (4 * t) + 2 = nI (4 * t + 2) from nI_add (4 * t) 2) ?_
          refine lg_sld hG dL_law_133 rfl (vp_in_nI (show _ < Lx by omega) (by omega)) ?_
          rw [nI_clamp (by omega)]
          refine lg_aload_nS hG dL_law_134 rfl ?_
          refine lg_iload hG dL_law_135 rfl ?_
          refine lg_iconst hG dL_law_137 (x := 3) (by decide) ?_
          refine lg_iadd hG dL_law_138 (show nI (4 * t) + 3 = nI (4 * t + 3) from nI_add (4 * t) 3) ?_
          refine lg_sld hG dL_law_139 rfl (vp_in_nI (show _ < Lx by omega) (by omega)) ?_
          rw [nI_clamp (by omega)]
          refine ms_call hG hM dL_law_140 rfl (fun P h => h) (by show _ + _ ≤ 601024; omega) (by show _ + _ ≤ 7293034; omega) (Nat.le_of_ble_eq_true rfl) ?_
          refine ⟨σ.1, σ.2.1, σ.2.2, _, _, (xs (4 * t + 1)), (xs (4 * t + 2)), (xs (4 * t + 3)), 100 * t, hM, rfl, hI, ?_, ?_⟩
          · intro q1 i1 j1 hok1
            exact absurd ⟨q1, i1, j1, hok1⟩ hno
          · intro hno1 L3 hM3
            have hW3 := hM3.mw hA (fun _ _ => rfl)
            have hM := hW3.1
            refine lg_istore hG dL_law_143 (Nat.le_of_ble_eq_true rfl) rfl ?_
            refine lg_aload_n hG dL_law_145 rfl ?_
            refine ms_call hG hM dL_law_146 rfl (fun P h => h) (by show _ + _ ≤ 601024; omega) (by show _ + _ ≤ 7293034; omega) (Nat.le_of_ble_eq_true rfl) ?_
            refine ⟨_, _, _, _, _, hM, rfl, ?_⟩
            refine lg_iload hG dL_law_149 rfl ?_
            refine lg_icmp_eq hG dL_law_151 (tgt := 156) (by decide) (by decide) (fun h_151 => ?_) (fun h_151 => ?_)
            · skip
              refine lg_iload hG dL_law_156 rfl ?_
              refine lg_if_ne hG dL_law_158 (tgt := 173) (by decide) (by decide) (fun h_158 => ?_) (fun h_158 => ?_)
              · skip
                refine lg_goto hG dL_law_173 (tgt := 671) (by decide) (by decide) ?_
                exact cont L3 _ _ _ _ (LAWI_of hC hW3 hO (INV_mono hI (by omega))) (by omega) (by omega)
              · skip
                exact absurd h_158 (by decide) --END
            · skip
              exact absurd rfl h_151 --END
      · refine lg_tabIn hG dL_law_39 (by decide) (by decide) (o := 137) (by decide) (tgt := 176) (by decide) (by decide) ?_
        refine lg_aload_n hG dL_law_176 rfl ?_
        refine lg_aload_nS hG dL_law_177 rfl ?_
        refine lg_iload hG dL_law_178 rfl ?_
        refine lg_iconst hG dL_law_180 (x := 1) (by decide) ?_
        refine lg_iadd hG dL_law_181 (show nI (4 * t) + 1 = nI (4 * t + 1) from nI_add (4 * t) 1) ?_
        refine lg_sld hG dL_law_182 rfl (vp_in_nI (show _ < Lx by omega) (by omega)) ?_
        rw [nI_clamp (by omega)]
        refine lg_aload_nS hG dL_law_183 rfl ?_
        refine lg_iload hG dL_law_184 rfl ?_
        refine lg_iconst hG dL_law_186 (x := 2) (by decide) ?_
        refine lg_iadd hG dL_law_187 (show nI (4 * t) + 2 = nI (4 * t + 2) from nI_add (4 * t) 2) ?_
        refine lg_sld hG dL_law_188 rfl (vp_in_nI (show _ < Lx by omega) (by omega)) ?_
        rw [nI_clamp (by omega)]
        refine lg_aload_nS hG dL_law_189 rfl ?_
        refine lg_iload hG dL_law_190 rfl ?_
        refine lg_iconst hG dL_law_192 (x := 3) (by decide) ?_
        refine lg_iadd hG dL_law_193 (show nI (4 * t) + 3 = nI (4 * t + 3) from nI_add (4 * t) 3) ?_
        refine lg_sld hG dL_law_194 rfl (vp_in_nI (show _ < Lx by omega) (by omega)) ?_
        rw [nI_clamp (by omega)]
        refine lg_callS hG dL_law_195 (by simp) rfl (fun P h => h) (by show _ + _ ≤ 601024; omega) (by show _ + _ ≤ 7293034; omega) (Nat.le_of_ble_eq_true rfl) ?_
        refine ⟨σ.1, σ.2.1, σ.2.2, 100 * t, (xs (4 * t + 1)), (xs (4 * t + 2)), (xs (4 * t + 3)), hC, hO, rfl, hI, ?_, ?_⟩
        · intro q j u hok L2 hW
          obtain ⟨hC2, hfr⟩ := hW
          have hM2 := hM.cgs (L2 := L2) (fun k h1 h2 => hfr k h1)
          have hA2 := hA.cg (L2 := L2) (fun k h1 h2 => hfr k h1)
          have hO2 : OUT ids 67 L2 := by obtain ⟨h4, f, h5⟩ := hO; exact ⟨h4, f, by rw [hfr 66 (by omega)]; exact h5⟩
          have hM := hM2
          refine lg_istore hG dL_law_198 (Nat.le_of_ble_eq_true rfl) rfl ?_
          refine lg_aload_n hG dL_law_200 rfl ?_
          refine lg_aload_nS hG dL_law_201 rfl ?_
          refine lg_iload hG dL_law_202 rfl ?_
          refine lg_iconst hG dL_law_204 (x := 1) (by decide) ?_
          refine lg_iadd hG dL_law_205 (show nI (4 * t) + 1 = nI (4 * t + 1) from nI_add (4 * t) 1) ?_
          refine lg_sld hG dL_law_206 rfl (vp_in_nI (show _ < Lx by omega) (by omega)) ?_
          rw [nI_clamp (by omega)]
          refine lg_aload_nS hG dL_law_207 rfl ?_
          refine lg_iload hG dL_law_208 rfl ?_
          refine lg_iconst hG dL_law_210 (x := 2) (by decide) ?_
          refine lg_iadd hG dL_law_211 (show nI (4 * t) + 2 = nI (4 * t + 2) from nI_add (4 * t) 2) ?_
          refine lg_sld hG dL_law_212 rfl (vp_in_nI (show _ < Lx by omega) (by omega)) ?_
          rw [nI_clamp (by omega)]
          refine lg_aload_nS hG dL_law_213 rfl ?_
          refine lg_iload hG dL_law_214 rfl ?_
          refine lg_iconst hG dL_law_216 (x := 3) (by decide) ?_
          refine lg_iadd hG dL_law_217 (show nI (4 * t) + 3 = nI (4 * t + 3) from nI_add (4 * t) 3) ?_
          refine lg_sld hG dL_law_218 rfl (vp_in_nI (show _ < Lx by omega) (by omega)) ?_
          rw [nI_clamp (by omega)]
          refine ms_call hG hM dL_law_219 rfl (fun P h => h) (by show _ + _ ≤ 601024; omega) (by show _ + _ ≤ 7293034; omega) (Nat.le_of_ble_eq_true rfl) ?_
          refine ⟨σ.1, σ.2.1, σ.2.2, _, _, (xs (4 * t + 1)), (xs (4 * t + 2)), (xs (4 * t + 3)), 100 * t, hM, rfl, hI, ?_, ?_⟩
          · intro q1 j1 u1 hok1 L3 hM3
            obtain ⟨rfl, rfl, rfl⟩ := okK_uni hok hok1
            have hM3 : MS ids 67 (kdS σ q j u).1 (kdS σ q j u).2.1 (kdS σ q j u).2.2 0 L2 L3 := kd_g hM3
            have hW3 := hM3.mw hA2 (fun _ _ => rfl)
            have hM := hW3.1
            refine lg_aload_n hG dL_law_222 rfl ?_
            refine ms_call hG hM dL_law_223 rfl (fun P h => h) (by show _ + _ ≤ 601024; omega) (by show _ + _ ≤ 7293034; omega) (Nat.le_of_ble_eq_true rfl) ?_
            refine ⟨_, _, _, _, _, hM, rfl, ?_⟩
            refine lg_iload hG dL_law_226 rfl ?_
            refine lg_icmp_eq hG dL_law_228 (tgt := 233) (by decide) (by decide) (fun h_228 => ?_) (fun h_228 => ?_)
            · skip
              refine lg_goto hG dL_law_233 (tgt := 671) (by decide) (by decide) ?_
              exact cont L3 _ _ _ _ (LAWI_of hC2 hW3 hO2 (INV_mono (INV_kd hI hok.1.1 hok.2.1.1 hok.2.2.1 hok.2.2.2.1) (by omega))) (by omega) (by omega)
            · skip
              exact absurd rfl h_228 --END
          · intro hno1
            exact absurd ⟨q, j, u, hok⟩ hno1
        · intro hno
          refine lg_istore hG dL_law_198 (Nat.le_of_ble_eq_true rfl) rfl ?_
          refine lg_aload_n hG dL_law_200 rfl ?_
          refine lg_aload_nS hG dL_law_201 rfl ?_
          refine lg_iload hG dL_law_202 rfl ?_
          refine lg_iconst hG dL_law_204 (x := 1) (by decide) ?_
          refine lg_iadd hG dL_law_205 (show nI (4 * t) + 1 = nI (4 * t + 1) from nI_add (4 * t) 1) ?_
          refine lg_sld hG dL_law_206 rfl (vp_in_nI (show _ < Lx by omega) (by omega)) ?_
          rw [nI_clamp (by omega)]
          refine lg_aload_nS hG dL_law_207 rfl ?_
          refine lg_iload hG dL_law_208 rfl ?_
          refine lg_iconst hG dL_law_210 (x := 2) (by decide) ?_
          refine lg_iadd hG dL_law_211 (show nI (4 * t) + 2 = nI (4 * t + 2) from nI_add (4 * t) 2) ?_
          refine lg_sld hG dL_law_212 rfl (vp_in_nI (show _ < Lx by omega) (by omega)) ?_
          rw [nI_clamp (by omega)]
          refine lg_aload_nS hG dL_law_213 rfl ?_
          refine lg_iload hG dL_law_214 rfl ?_
          refine lg_iconst hG dL_law_216 (x := 3) (by decide) ?_
          refine lg_iadd hG dL_law_217 (show nI (4 * t) + 3 = nI (4 * t + 3) from nI_add (4 * t) 3) ?_
          refine lg_sld hG dL_law_218 rfl (vp_in_nI (show _ < Lx by omega) (by omega)) ?_
          rw [nI_clamp (by omega)]
          refine ms_call hG hM dL_law_219 rfl (fun P h => h) (by show _ + _ ≤ 601024; omega) (by show _ + _ ≤ 7293034; omega) (Nat.le_of_ble_eq_true rfl) ?_
          refine ⟨σ.1, σ.2.1, σ.2.2, _, _, (xs (4 * t + 1)), (xs (4 * t + 2)), (xs (4 * t + 3)), 100 * t, hM, rfl, hI, ?_, ?_⟩
          · intro q1 j1 u1 hok1
            exact absurd ⟨q1, j1, u1, hok1⟩ hno
          · intro hno1 L3 hM3
            have hW3 := hM3.mw hA (fun _ _ => rfl)
            have hM := hW3.1
            refine lg_aload_n hG dL_law_222 rfl ?_
            refine ms_call hG hM dL_law_223 rfl (fun P h => h) (by show _ + _ ≤ 601024; omega) (by show _ + _ ≤ 7293034; omega) (Nat.le_of_ble_eq_true rfl) ?_
            refine ⟨_, _, _, _, _, hM, rfl, ?_⟩
            refine lg_iload hG dL_law_226 rfl ?_
            refine lg_icmp_eq hG dL_law_228 (tgt := 233) (by decide) (by decide) (fun h_228 => ?_) (fun h_228 => ?_)
            · skip
              refine lg_goto hG dL_law_233 (tgt := 671) (by decide) (by decide) ?_
              exact cont L3 _ _ _ _ (LAWI_of hC hW3 hO (INV_mono hI (by omega))) (by omega) (by omega)
            · skip
              exact absurd rfl h_228 --END
      · refine lg_tabIn hG dL_law_39 (by decide) (by decide) (o := 197) (by decide) (tgt := 236) (by decide) (by decide) ?_
        refine lg_aload_n hG dL_law_236 rfl ?_
        refine lg_aload_nS hG dL_law_237 rfl ?_
        refine lg_iload hG dL_law_238 rfl ?_
        refine lg_iconst hG dL_law_240 (x := 1) (by decide) ?_
        refine lg_iadd hG dL_law_241 (show nI (4 * t) + 1 = nI (4 * t + 1) from nI_add (4 * t) 1) ?_
        refine lg_sld hG dL_law_242 rfl (vp_in_nI (show _ < Lx by omega) (by omega)) ?_
        rw [nI_clamp (by omega)]
        refine lg_aload_nS hG dL_law_243 rfl ?_
        refine lg_iload hG dL_law_244 rfl ?_
        refine lg_iconst hG dL_law_246 (x := 2) (by decide) ?_
        refine lg_iadd hG dL_law_247 (show nI (4 * t) + 2 = nI (4 * t + 2) from nI_add (4 * t) 2) ?_
        refine lg_sld hG dL_law_248 rfl (vp_in_nI (show _ < Lx by omega) (by omega)) ?_
        rw [nI_clamp (by omega)]
        refine lg_aload_nS hG dL_law_249 rfl ?_
        refine lg_iload hG dL_law_250 rfl ?_
        refine lg_iconst hG dL_law_252 (x := 3) (by decide) ?_
        refine lg_iadd hG dL_law_253 (show nI (4 * t) + 3 = nI (4 * t + 3) from nI_add (4 * t) 3) ?_
        refine lg_sld hG dL_law_254 rfl (vp_in_nI (show _ < Lx by omega) (by omega)) ?_
        rw [nI_clamp (by omega)]
        refine lg_aload_n hG dL_law_255 rfl ?_
        refine lg_callS hG dL_law_256 (by simp) rfl (fun P h => h) (by show _ + _ ≤ 601024; omega) (by show _ + _ ≤ 7293034; omega) (Nat.le_of_ble_eq_true rfl) ?_
        refine ⟨σ.1, σ.2.1, σ.2.2, 100 * t, (xs (4 * t + 1)), (xs (4 * t + 2)), (xs (4 * t + 3)), hC, hO, rfl, hI, ?_, ?_⟩
        · intro q k hok L2 hW
          obtain ⟨hC2, hfr, f6, h66, hf6⟩ := hW
          have hM2 := hM.cgs (L2 := L2) (fun k h1 h2 => hfr k h1 (by omega))
          have hA2 := hA.cg (L2 := L2) (fun k h1 h2 => hfr k h1 (by omega))
          have hO2 : OUT ids 67 L2 := ⟨by omega, f6, h66⟩
          have hM := hM2
          refine lg_istore hG dL_law_259 (Nat.le_of_ble_eq_true rfl) rfl ?_
          refine lg_aload_n hG dL_law_261 rfl ?_
          refine lg_aload_nS hG dL_law_262 rfl ?_
          refine lg_iload hG dL_law_263 rfl ?_
          refine lg_iconst hG dL_law_265 (x := 1) (by decide) ?_
          refine lg_iadd hG dL_law_266 (show nI (4 * t) + 1 = nI (4 * t + 1) from nI_add (4 * t) 1) ?_
          refine lg_sld hG dL_law_267 rfl (vp_in_nI (show _ < Lx by omega) (by omega)) ?_
          rw [nI_clamp (by omega)]
          refine lg_aload_nS hG dL_law_268 rfl ?_
          refine lg_iload hG dL_law_269 rfl ?_
          refine lg_iconst hG dL_law_271 (x := 2) (by decide) ?_
          refine lg_iadd hG dL_law_272 (show nI (4 * t) + 2 = nI (4 * t + 2) from nI_add (4 * t) 2) ?_
          refine lg_sld hG dL_law_273 rfl (vp_in_nI (show _ < Lx by omega) (by omega)) ?_
          rw [nI_clamp (by omega)]
          refine lg_aload_nS hG dL_law_274 rfl ?_
          refine lg_iload hG dL_law_275 rfl ?_
          refine lg_iconst hG dL_law_277 (x := 3) (by decide) ?_
          refine lg_iadd hG dL_law_278 (show nI (4 * t) + 3 = nI (4 * t + 3) from nI_add (4 * t) 3) ?_
          refine lg_sld hG dL_law_279 rfl (vp_in_nI (show _ < Lx by omega) (by omega)) ?_
          rw [nI_clamp (by omega)]
          refine ms_call hG hM dL_law_280 rfl (fun P h => h) (by show _ + _ ≤ 601024; omega) (by show _ + _ ≤ 7293034; omega) (Nat.le_of_ble_eq_true rfl) ?_
          refine ⟨σ.1, σ.2.1, σ.2.2, _, _, (xs (4 * t + 1)), (xs (4 * t + 2)), (xs (4 * t + 3)), 100 * t, hM, rfl, hI, ?_, ?_⟩
          · intro q1 k1 hok1 L3 hM3
            obtain ⟨rfl, rfl⟩ := okP_uni hok hok1
            have hW3 := hM3.mw hA2 (fun _ _ => rfl)
            have hM := hW3.1
            refine lg_istore hG dL_law_283 (Nat.le_of_ble_eq_true rfl) rfl ?_
            refine lg_aload_n hG dL_law_285 rfl ?_
            refine ms_call hG hM dL_law_286 rfl (fun P h => h) (by show _ + _ ≤ 601024; omega) (by show _ + _ ≤ 7293034; omega) (Nat.le_of_ble_eq_true rfl) ?_
            refine ⟨_, _, _, _, _, hM, rfl, ?_⟩
            refine lg_iload hG dL_law_289 rfl ?_
            refine lg_icmp_eq hG dL_law_291 (tgt := 296) (by decide) (by decide) (fun h_291 => ?_) (fun h_291 => ?_)
            · skip
              refine lg_iload hG dL_law_296 rfl ?_
              refine lg_if_ne hG dL_law_298 (tgt := 313) (by decide) (by decide) (fun h_298 => ?_) (fun h_298 => ?_)
              · skip
                exact absurd rfl h_298 --END
              · skip
                refine lg_aload_n hG dL_law_301 rfl ?_
                refine lg_iconst hG dL_law_302 (x := 0) (by decide) ?_
                refine lg_lald hG dL_law_303 (by first | assumption | omega) (show L3 66 = .inl (ids 2, 1, .inr (.inl f6)) by rw [hW3.2.2 66 (Or.inr (by omega))]; exact h66) (vp_in_nI (n := 0) (by decide) (by decide)) ?_
                rw [show f6 (0 : Int32).toNatClampNeg = _ from hf6]
                refine lg_iload hG dL_law_304 rfl ?_
                refine lg_i2l hG dL_law_306 ?_
                refine lg_lcmp hG dL_law_307 ?_
                refine lg_if_eq hG dL_law_308 (tgt := 313) (by decide) (by decide) (fun h_308 => ?_) (fun h_308 => ?_)
                · skip
                  refine lg_goto hG dL_law_313 (tgt := 671) (by decide) (by decide) ?_
                  exact cont L3 _ _ _ _ (LAWI_of hC2 hW3 hO2 (INV_mono (INV_psh hI hok.1.1 ⟨hok.2.1, hok.2.2.1⟩) (by omega))) (by omega) (by omega)
                · skip
                  exact absurd (cmp_self _) h_308 --END
            · skip
              exact absurd rfl h_291 --END
          · intro hno1
            exact absurd ⟨q, k, hok⟩ hno1
        · intro hno
          refine lg_istore hG dL_law_259 (Nat.le_of_ble_eq_true rfl) rfl ?_
          refine lg_aload_n hG dL_law_261 rfl ?_
          refine lg_aload_nS hG dL_law_262 rfl ?_
          refine lg_iload hG dL_law_263 rfl ?_
          refine lg_iconst hG dL_law_265 (x := 1) (by decide) ?_
          refine lg_iadd hG dL_law_266 (show nI (4 * t) + 1 = nI (4 * t + 1) from nI_add (4 * t) 1) ?_
          refine lg_sld hG dL_law_267 rfl (vp_in_nI (show _ < Lx by omega) (by omega)) ?_
          rw [nI_clamp (by omega)]
          refine lg_aload_nS hG dL_law_268 rfl ?_
          refine lg_iload hG dL_law_269 rfl ?_
          refine lg_iconst hG dL_law_271 (x := 2) (by decide) ?_
          refine lg_iadd hG dL_law_272 (show nI (4 * t) + 2 = nI (4 * t + 2) from nI_add (4 * t) 2) ?_
          refine lg_sld hG dL_law_273 rfl (vp_in_nI (show _ < Lx by omega) (by omega)) ?_
          rw [nI_clamp (by omega)]
          refine lg_aload_nS hG dL_law_274 rfl ?_
          refine lg_iload hG dL_law_275 rfl ?_
          refine lg_iconst hG dL_law_277 (x := 3) (by decide) ?_
          refine lg_iadd hG dL_law_278 (show nI (4 * t) + 3 = nI (4 * t + 3) from nI_add (4 * t) 3) ?_
          refine lg_sld hG dL_law_279 rfl (vp_in_nI (show _ < Lx by omega) (by omega)) ?_
          rw [nI_clamp (by omega)]
          refine ms_call hG hM dL_law_280 rfl (fun P h => h) (by show _ + _ ≤ 601024; omega) (by show _ + _ ≤ 7293034; omega) (Nat.le_of_ble_eq_true rfl) ?_
          refine ⟨σ.1, σ.2.1, σ.2.2, _, _, (xs (4 * t + 1)), (xs (4 * t + 2)), (xs (4 * t + 3)), 100 * t, hM, rfl, hI, ?_, ?_⟩
          · intro q1 k1 hok1
            exact absurd ⟨q1, k1, hok1⟩ hno
          · intro hno1 L3 hM3
            have hW3 := hM3.mw hA (fun _ _ => rfl)
            have hM := hW3.1
            refine lg_istore hG dL_law_283 (Nat.le_of_ble_eq_true rfl) rfl ?_
            refine lg_aload_n hG dL_law_285 rfl ?_
            refine ms_call hG hM dL_law_286 rfl (fun P h => h) (by show _ + _ ≤ 601024; omega) (by show _ + _ ≤ 7293034; omega) (Nat.le_of_ble_eq_true rfl) ?_
            refine ⟨_, _, _, _, _, hM, rfl, ?_⟩
            refine lg_iload hG dL_law_289 rfl ?_
            refine lg_icmp_eq hG dL_law_291 (tgt := 296) (by decide) (by decide) (fun h_291 => ?_) (fun h_291 => ?_)
            · skip
              refine lg_iload hG dL_law_296 rfl ?_
              refine lg_if_ne hG dL_law_298 (tgt := 313) (by decide) (by decide) (fun h_298 => ?_) (fun h_298 => ?_)
              · skip
                refine lg_goto hG dL_law_313 (tgt := 671) (by decide) (by decide) ?_
                exact cont L3 _ _ _ _ (LAWI_of hC hW3 hO (INV_mono hI (by omega))) (by omega) (by omega)
              · skip
                exact absurd h_298 (by decide) --END
            · skip
              exact absurd rfl h_291 --END
      · refine lg_tabIn hG dL_law_39 (by decide) (by decide) (o := 277) (by decide) (tgt := 316) (by decide) (by decide) ?_
        refine lg_aload_n hG dL_law_316 rfl ?_
        refine cg_callO hG hC dL_law_317 rfl (fun P h => h) (by show _ + _ ≤ 601024; omega) (by show _ + _ ≤ 7293034; omega) (Nat.le_of_ble_eq_true rfl) ?_
        refine ⟨σ.1, σ.2.1, σ.2.2, L, 100 * t, hC, rfl, hI, by omega, ?_, ?_⟩
        · intro hN
          refine lg_aload_n hG dL_law_320 rfl ?_
          refine ms_call hG hM dL_law_321 rfl (fun P h => h) (by show _ + _ ≤ 601024; omega) (by show _ + _ ≤ 7293034; omega) (Nat.le_of_ble_eq_true rfl) ?_
          refine ⟨σ.1, σ.2.1, σ.2.2, _, _, 100 * t, hM, rfl, hI, by omega, ?_, ?_⟩
          · intro hN1 L3 hM3
            refine lg_icmp_eq hG dL_law_324 (tgt := 671) (by decide) (by decide) (fun h_324 => ?_) (fun h_324 => ?_)
            · skip
              exact cont L3 _ _ _ _ (LAWI_of hC (hM3.mw hA (fun _ _ => rfl)) hO (INV_mono hI (by omega))) (by omega) (by omega)
            · skip
              exact absurd rfl h_324 --END
          · intro c p z hF
            exact (FP.nn hF hN).elim
        · intro c p z hF L2 hCS
          obtain ⟨hC2, hfr⟩ := WN_of hCS
          have hM2 := hM.cgs (L2 := L2) (fun k h1 h2 => hfr k h1)
          have hA2 := hA.cg (L2 := L2) (fun k h1 h2 => hfr k h1)
          have hO2 : OUT ids 67 L2 := by obtain ⟨h4, f, h5⟩ := hO; exact ⟨h4, f, by rw [hfr 66 (by omega)]; exact h5⟩
          have hM := hM2
          refine lg_aload_n hG dL_law_320 rfl ?_
          refine ms_call hG hM dL_law_321 rfl (fun P h => h) (by show _ + _ ≤ 601024; omega) (by show _ + _ ≤ 7293034; omega) (Nat.le_of_ble_eq_true rfl) ?_
          refine ⟨σ.1, σ.2.1, σ.2.2, _, _, 100 * t, hM, rfl, hI, by omega, ?_, ?_⟩
          · intro hN
            exact (FP.nn hF hN).elim
          · intro c1 p1 z1 hF1 L3 hM3
            obtain ⟨rfl, rfl, rfl⟩ := FP_uni hF hF1
            refine lg_icmp_eq hG dL_law_324 (tgt := 671) (by decide) (by decide) (fun h_324 => ?_) (fun h_324 => ?_)
            · skip
              exact cont L3 _ _ _ _ (LAWI_of hC2 (hM3.mw hA2 (fun _ _ => rfl)) hO2 (INV_mono (INV_sv hI hF) (by omega))) (by omega) (by omega)
            · skip
              exact absurd rfl h_324 --END
      · refine lg_tabIn hG dL_law_39 (by decide) (by decide) (o := 290) (by decide) (tgt := 329) (by decide) (by decide) ?_
        refine lg_aload_n hG dL_law_329 rfl ?_
        refine cg_callO hG hC dL_law_330 rfl (fun P h => h) (by show _ + _ ≤ 601024; omega) (by show _ + _ ≤ 7293034; omega) (Nat.le_of_ble_eq_true rfl) ?_
        refine ⟨σ.1, σ.2.1, σ.2.2, L, 100 * t, hC, rfl, hI, by omega, ?_, ?_⟩
        · intro hN
          refine lg_aload_n hG dL_law_333 rfl ?_
          refine ms_call hG hM dL_law_334 rfl (fun P h => h) (by show _ + _ ≤ 601024; omega) (by show _ + _ ≤ 7293034; omega) (Nat.le_of_ble_eq_true rfl) ?_
          refine ⟨σ.1, σ.2.1, σ.2.2, _, _, 100 * t, hM, rfl, hA, hI, by omega, ?_, ?_⟩
          · intro hN1 L3 hW3
            refine lg_icmp_eq hG dL_law_337 (tgt := 671) (by decide) (by decide) (fun h_337 => ?_) (fun h_337 => ?_)
            · skip
              exact cont L3 _ _ _ _ (LAWI_of hC hW3 hO (INV_mono hI (by omega))) (by omega) (by omega)
            · skip
              exact absurd rfl h_337 --END
          · intro c p z hF
            exact (FP.nn hF hN).elim
        · intro c p z hF
          refine lg_aload_n hG dL_law_333 rfl ?_
          refine ms_call hG hM dL_law_334 rfl (fun P h => h) (by show _ + _ ≤ 601024; omega) (by show _ + _ ≤ 7293034; omega) (Nat.le_of_ble_eq_true rfl) ?_
          refine ⟨σ.1, σ.2.1, σ.2.2, _, _, 100 * t, hM, rfl, hA, hI, by omega, ?_, ?_⟩
          · intro hN
            exact (FP.nn hF hN).elim
          · intro c1 p1 z1 hF1 L3 hW3
            obtain ⟨rfl, rfl, rfl⟩ := FP_uni hF hF1
            refine lg_icmp_eq hG dL_law_337 (tgt := 671) (by decide) (by decide) (fun h_337 => ?_) (fun h_337 => ?_)
            · skip
              exact cont L3 _ _ _ _ (LAWI_of hC hW3 hO (INV_mono hI (by omega))) (by omega) (by omega)
            · skip
              exact absurd rfl h_337 --END
      · refine lg_tabIn hG dL_law_39 (by decide) (by decide) (o := 303) (by decide) (tgt := 342) (by decide) (by decide) ?_
        refine lg_aload_n hG dL_law_342 rfl ?_
        refine cg_callO hG hC dL_law_343 rfl (fun P h => h) (by show _ + _ ≤ 601024; omega) (by show _ + _ ≤ 7293034; omega) (Nat.le_of_ble_eq_true rfl) ?_
        refine ⟨σ.1, σ.2.1, σ.2.2, L, hC, rfl, ?_⟩
        refine lg_aload_n hG dL_law_346 rfl ?_
        refine ms_call hG hM dL_law_347 rfl (fun P h => h) (by show _ + _ ≤ 601024; omega) (by show _ + _ ≤ 7293034; omega) (Nat.le_of_ble_eq_true rfl) ?_
        refine ⟨σ.1, σ.2.1, σ.2.2, _, _, hM, rfl, fun L3 hM3 => ?_⟩
        refine lg_icmp_eq hG dL_law_350 (tgt := 671) (by decide) (by decide) (fun h_350 => ?_) (fun h_350 => ?_)
        · skip
          exact cont L3 _ _ _ _ (LAWI_of hC (hM3.mw hA (fun _ _ => rfl)) hO (INV_mono hI (by omega))) (by omega) (by omega)
        · skip
          exact absurd rfl h_350 --END
      · refine lg_tabIn hG dL_law_39 (by decide) (by decide) (o := 316) (by decide) (tgt := 355) (by decide) (by decide) ?_
        refine lg_aload_n hG dL_law_355 rfl ?_
        refine lg_aload_nS hG dL_law_356 rfl ?_
        refine lg_iload hG dL_law_357 rfl ?_
        refine lg_iconst hG dL_law_359 (x := 1) (by decide) ?_
        refine lg_iadd hG dL_law_360 (show nI (4 * t) + 1 = nI (4 * t + 1) from nI_add (4 * t) 1) ?_
        refine lg_sld hG dL_law_361 rfl (vp_in_nI (show _ < Lx by omega) (by omega)) ?_
        rw [nI_clamp (by omega)]
        refine lg_aload_n hG dL_law_362 rfl ?_
        refine lg_callS hG dL_law_363 (by simp) rfl (fun P h => h) (by show _ + _ ≤ 601024; omega) (by show _ + _ ≤ 7293034; omega) (Nat.le_of_ble_eq_true rfl) ?_
        refine ⟨σ.1, σ.2.1, σ.2.2, 100 * t, (xs (4 * t + 1)), hC, hO, rfl, hI, by omega, ?_, ?_⟩
        · intro x hok σ' s hSU L2 hW
          obtain ⟨hC2, hfr, f6, h66, hf6⟩ := hW
          have hM2 := hM.cgs (L2 := L2) (fun k h1 h2 => hfr k h1 (by omega))
          have hA2 := hA.cg (L2 := L2) (fun k h1 h2 => hfr k h1 (by omega))
          have hO2 : OUT ids 67 L2 := ⟨by omega, f6, h66⟩
          have hM := hM2
          refine lg_istore hG dL_law_366 (Nat.le_of_ble_eq_true rfl) rfl ?_
          refine lg_aload_n hG dL_law_368 rfl ?_
          refine lg_aload_nS hG dL_law_369 rfl ?_
          refine lg_iload hG dL_law_370 rfl ?_
          refine lg_iconst hG dL_law_372 (x := 1) (by decide) ?_
          refine lg_iadd hG dL_law_373 (show nI (4 * t) + 1 = nI (4 * t + 1) from nI_add (4 * t) 1) ?_
          refine lg_sld hG dL_law_374 rfl (vp_in_nI (show _ < Lx by omega) (by omega)) ?_
          rw [nI_clamp (by omega)]
          refine ms_call hG hM dL_law_375 rfl (fun P h => h) (by show _ + _ ≤ 601024; omega) (by show _ + _ ≤ 7293034; omega) (Nat.le_of_ble_eq_true rfl) ?_
          refine ⟨σ.1, σ.2.1, σ.2.2, _, _, (xs (4 * t + 1)), 100 * t, hM, rfl, hA2, hI, by omega, ?_, ?_⟩
          · intro x1 hok1
            obtain rfl := okN_uni (by omega) hok hok1
            refine ⟨σ', s, hSU, fun L3 hW3 => ?_⟩
            have hM := hW3.1
            refine lg_istore hG dL_law_378 (Nat.le_of_ble_eq_true rfl) rfl ?_
            refine lg_aload_n hG dL_law_380 rfl ?_
            refine ms_call hG hM dL_law_381 rfl (fun P h => h) (by show _ + _ ≤ 601024; omega) (by show _ + _ ≤ 7293034; omega) (Nat.le_of_ble_eq_true rfl) ?_
            refine ⟨_, _, _, _, _, hM, rfl, ?_⟩
            refine lg_iload hG dL_law_384 rfl ?_
            refine lg_icmp_eq hG dL_law_386 (tgt := 391) (by decide) (by decide) (fun h_386 => ?_) (fun h_386 => ?_)
            · skip
              refine lg_iload hG dL_law_391 rfl ?_
              refine lg_if_ne hG dL_law_393 (tgt := 408) (by decide) (by decide) (fun h_393 => ?_) (fun h_393 => ?_)
              · skip
                exact absurd rfl h_393 --END
              · skip
                refine lg_aload_n hG dL_law_396 rfl ?_
                refine lg_iconst hG dL_law_397 (x := 0) (by decide) ?_
                refine lg_lald hG dL_law_398 (by first | assumption | omega) (show L3 66 = .inl (ids 2, 1, .inr (.inl f6)) by rw [hW3.2.2 66 (Or.inr (by omega))]; exact h66) (vp_in_nI (n := 0) (by decide) (by decide)) ?_
                rw [show f6 (0 : Int32).toNatClampNeg = _ from hf6]
                refine lg_iload hG dL_law_399 rfl ?_
                refine lg_i2l hG dL_law_401 ?_
                refine lg_lcmp hG dL_law_402 ?_
                refine lg_if_eq hG dL_law_403 (tgt := 408) (by decide) (by decide) (fun h_403 => ?_) (fun h_403 => ?_)
                · skip
                  refine lg_goto hG dL_law_408 (tgt := 671) (by decide) (by decide) ?_
                  exact cont L3 _ _ _ _ (LAWI_of hC2 hW3 hO2 (INV_mono (INV_sur 96 hI hSU) (by omega))) (by omega) (by omega)
                · skip
                  exact absurd (cmp_self _) h_403 --END
            · skip
              exact absurd rfl h_386 --END
          · intro hno1
            exact absurd ⟨x, hok⟩ hno1
        · intro hno
          refine lg_istore hG dL_law_366 (Nat.le_of_ble_eq_true rfl) rfl ?_
          refine lg_aload_n hG dL_law_368 rfl ?_
          refine lg_aload_nS hG dL_law_369 rfl ?_
          refine lg_iload hG dL_law_370 rfl ?_
          refine lg_iconst hG dL_law_372 (x := 1) (by decide) ?_
          refine lg_iadd hG dL_law_373 (show nI (4 * t) + 1 = nI (4 * t + 1) from nI_add (4 * t) 1) ?_
          refine lg_sld hG dL_law_374 rfl (vp_in_nI (show _ < Lx by omega) (by omega)) ?_
          rw [nI_clamp (by omega)]
          refine ms_call hG hM dL_law_375 rfl (fun P h => h) (by show _ + _ ≤ 601024; omega) (by show _ + _ ≤ 7293034; omega) (Nat.le_of_ble_eq_true rfl) ?_
          refine ⟨σ.1, σ.2.1, σ.2.2, _, _, (xs (4 * t + 1)), 100 * t, hM, rfl, hA, hI, by omega, ?_, ?_⟩
          · intro x1 hok1
            exact absurd ⟨x1, hok1⟩ hno
          · intro hno1 L3 hW3
            have hM := hW3.1
            refine lg_istore hG dL_law_378 (Nat.le_of_ble_eq_true rfl) rfl ?_
            refine lg_aload_n hG dL_law_380 rfl ?_
            refine ms_call hG hM dL_law_381 rfl (fun P h => h) (by show _ + _ ≤ 601024; omega) (by show _ + _ ≤ 7293034; omega) (Nat.le_of_ble_eq_true rfl) ?_
            refine ⟨_, _, _, _, _, hM, rfl, ?_⟩
            refine lg_iload hG dL_law_384 rfl ?_
            refine lg_icmp_eq hG dL_law_386 (tgt := 391) (by decide) (by decide) (fun h_386 => ?_) (fun h_386 => ?_)
            · skip
              refine lg_iload hG dL_law_391 rfl ?_
              refine lg_if_ne hG dL_law_393 (tgt := 408) (by decide) (by decide) (fun h_393 => ?_) (fun h_393 => ?_)
              · skip
                refine lg_goto hG dL_law_408 (tgt := 671) (by decide) (by decide) ?_
                exact cont L3 _ _ _ _ (LAWI_of hC hW3 hO (INV_mono hI (by omega))) (by omega) (by omega)
              · skip
                exact absurd h_393 (by decide) --END
            · skip
              exact absurd rfl h_386 --END
      · refine lg_tabIn hG dL_law_39 (by decide) (by decide) (o := 372) (by decide) (tgt := 411) (by decide) (by decide) ?_
        refine lg_aload_n hG dL_law_411 rfl ?_
        refine lg_aload_nS hG dL_law_412 rfl ?_
        refine lg_iload hG dL_law_413 rfl ?_
        refine lg_iconst hG dL_law_415 (x := 1) (by decide) ?_
        refine lg_iadd hG dL_law_416 (show nI (4 * t) + 1 = nI (4 * t + 1) from nI_add (4 * t) 1) ?_
        refine lg_sld hG dL_law_417 rfl (vp_in_nI (show _ < Lx by omega) (by omega)) ?_
        rw [nI_clamp (by omega)]
        refine lg_aload_n hG dL_law_418 rfl ?_
        refine lg_callS hG dL_law_419 (by simp) rfl (fun P h => h) (by show _ + _ ≤ 601024; omega) (by show _ + _ ≤ 7293034; omega) (Nat.le_of_ble_eq_true rfl) ?_
        refine ⟨σ.1, σ.2.1, σ.2.2, 100 * t, (xs (4 * t + 1)), hC, hO, rfl, hI, ?_, ?_⟩
        · intro q hok L2 hW
          obtain ⟨hC2, hfr, f6, h66, hf6⟩ := hW
          have hM2 := hM.cgs (L2 := L2) (fun k h1 h2 => hfr k h1 (by omega))
          have hA2 := hA.cg (L2 := L2) (fun k h1 h2 => hfr k h1 (by omega))
          have hO2 : OUT ids 67 L2 := ⟨by omega, f6, h66⟩
          have hM := hM2
          refine lg_istore hG dL_law_422 (Nat.le_of_ble_eq_true rfl) rfl ?_
          refine lg_aload_n hG dL_law_424 rfl ?_
          refine lg_aload_nS hG dL_law_425 rfl ?_
          refine lg_iload hG dL_law_426 rfl ?_
          refine lg_iconst hG dL_law_428 (x := 1) (by decide) ?_
          refine lg_iadd hG dL_law_429 (show nI (4 * t) + 1 = nI (4 * t + 1) from nI_add (4 * t) 1) ?_
          refine lg_sld hG dL_law_430 rfl (vp_in_nI (show _ < Lx by omega) (by omega)) ?_
          rw [nI_clamp (by omega)]
          refine ms_call hG hM dL_law_431 rfl (fun P h => h) (by show _ + _ ≤ 601024; omega) (by show _ + _ ≤ 7293034; omega) (Nat.le_of_ble_eq_true rfl) ?_
          refine ⟨σ.1, σ.2.1, σ.2.2, _, _, (xs (4 * t + 1)), 100 * t, hM, rfl, hI, ?_, ?_⟩
          · intro q1 hok1 L3 hM3
            obtain rfl := okN_uni (by omega) hok hok1
            have hM3 : MS ids 67 (emS σ q).1 (emS σ q).2.1 (emS σ q).2.2 0 L2 L3 := em_g hM3
            have hW3 := hM3.mw hA2 (fun _ _ => rfl)
            have hM := hW3.1
            refine lg_istore hG dL_law_434 (Nat.le_of_ble_eq_true rfl) rfl ?_
            refine lg_aload_n hG dL_law_436 rfl ?_
            refine ms_call hG hM dL_law_437 rfl (fun P h => h) (by show _ + _ ≤ 601024; omega) (by show _ + _ ≤ 7293034; omega) (Nat.le_of_ble_eq_true rfl) ?_
            refine ⟨_, _, _, _, _, hM, rfl, ?_⟩
            refine lg_iload hG dL_law_440 rfl ?_
            refine lg_icmp_eq hG dL_law_442 (tgt := 447) (by decide) (by decide) (fun h_442 => ?_) (fun h_442 => ?_)
            · skip
              refine lg_iload hG dL_law_447 rfl ?_
              refine lg_if_ne hG dL_law_449 (tgt := 464) (by decide) (by decide) (fun h_449 => ?_) (fun h_449 => ?_)
              · skip
                exact absurd rfl h_449 --END
              · skip
                refine lg_aload_n hG dL_law_452 rfl ?_
                refine lg_iconst hG dL_law_453 (x := 0) (by decide) ?_
                refine lg_lald hG dL_law_454 (by first | assumption | omega) (show L3 66 = .inl (ids 2, 1, .inr (.inl f6)) by rw [hW3.2.2 66 (Or.inr (by omega))]; exact h66) (vp_in_nI (n := 0) (by decide) (by decide)) ?_
                rw [show f6 (0 : Int32).toNatClampNeg = _ from hf6]
                refine lg_iload hG dL_law_455 rfl ?_
                refine lg_i2l hG dL_law_457 ?_
                refine lg_lcmp hG dL_law_458 ?_
                refine lg_if_eq hG dL_law_459 (tgt := 464) (by decide) (by decide) (fun h_459 => ?_) (fun h_459 => ?_)
                · skip
                  refine lg_goto hG dL_law_464 (tgt := 671) (by decide) (by decide) ?_
                  exact cont L3 _ _ _ _ (LAWI_of hC2 hW3 hO2 (INV_mono (INV_em hI hok.1) (by omega))) (by omega) (by omega)
                · skip
                  exact absurd (cmp_self _) h_459 --END
            · skip
              exact absurd rfl h_442 --END
          · intro hno1
            exact absurd ⟨q, hok⟩ hno1
        · intro hno
          refine lg_istore hG dL_law_422 (Nat.le_of_ble_eq_true rfl) rfl ?_
          refine lg_aload_n hG dL_law_424 rfl ?_
          refine lg_aload_nS hG dL_law_425 rfl ?_
          refine lg_iload hG dL_law_426 rfl ?_
          refine lg_iconst hG dL_law_428 (x := 1) (by decide) ?_
          refine lg_iadd hG dL_law_429 (show nI (4 * t) + 1 = nI (4 * t + 1) from nI_add (4 * t) 1) ?_
          refine lg_sld hG dL_law_430 rfl (vp_in_nI (show _ < Lx by omega) (by omega)) ?_
          rw [nI_clamp (by omega)]
          refine ms_call hG hM dL_law_431 rfl (fun P h => h) (by show _ + _ ≤ 601024; omega) (by show _ + _ ≤ 7293034; omega) (Nat.le_of_ble_eq_true rfl) ?_
          refine ⟨σ.1, σ.2.1, σ.2.2, _, _, (xs (4 * t + 1)), 100 * t, hM, rfl, hI, ?_, ?_⟩
          · intro q1 hok1
            exact absurd ⟨q1, hok1⟩ hno
          · intro hno1 L3 hM3
            have hW3 := hM3.mw hA (fun _ _ => rfl)
            have hM := hW3.1
            refine lg_istore hG dL_law_434 (Nat.le_of_ble_eq_true rfl) rfl ?_
            refine lg_aload_n hG dL_law_436 rfl ?_
            refine ms_call hG hM dL_law_437 rfl (fun P h => h) (by show _ + _ ≤ 601024; omega) (by show _ + _ ≤ 7293034; omega) (Nat.le_of_ble_eq_true rfl) ?_
            refine ⟨_, _, _, _, _, hM, rfl, ?_⟩
            refine lg_iload hG dL_law_440 rfl ?_
            refine lg_icmp_eq hG dL_law_442 (tgt := 447) (by decide) (by decide) (fun h_442 => ?_) (fun h_442 => ?_)
            · skip
              refine lg_iload hG dL_law_447 rfl ?_
              refine lg_if_ne hG dL_law_449 (tgt := 464) (by decide) (by decide) (fun h_449 => ?_) (fun h_449 => ?_)
              · skip
                refine lg_goto hG dL_law_464 (tgt := 671) (by decide) (by decide) ?_
                exact cont L3 _ _ _ _ (LAWI_of hC hW3 hO (INV_mono hI (by omega))) (by omega) (by omega)
              · skip
                exact absurd h_449 (by decide) --END
            · skip
              exact absurd rfl h_442 --END
      · refine lg_tabIn hG dL_law_39 (by decide) (by decide) (o := 428) (by decide) (tgt := 467) (by decide) (by decide) ?_
        refine lg_aload_n hG dL_law_467 rfl ?_
        refine lg_aload_nS hG dL_law_468 rfl ?_
        refine lg_iload hG dL_law_469 rfl ?_
        refine lg_iconst hG dL_law_471 (x := 1) (by decide) ?_
        refine lg_iadd hG dL_law_472 (show nI (4 * t) + 1 = nI (4 * t + 1) from nI_add (4 * t) 1) ?_
        refine lg_sld hG dL_law_473 rfl (vp_in_nI (show _ < Lx by omega) (by omega)) ?_
        rw [nI_clamp (by omega)]
        refine lg_aload_nS hG dL_law_474 rfl ?_
        refine lg_iload hG dL_law_475 rfl ?_
        refine lg_iconst hG dL_law_477 (x := 2) (by decide) ?_
        refine lg_iadd hG dL_law_478 (show nI (4 * t) + 2 = nI (4 * t + 2) from nI_add (4 * t) 2) ?_
        refine lg_sld hG dL_law_479 rfl (vp_in_nI (show _ < Lx by omega) (by omega)) ?_
        rw [nI_clamp (by omega)]
        refine lg_aload_n hG dL_law_480 rfl ?_
        refine lg_callS hG dL_law_481 (by simp) rfl (fun P h => h) (by show _ + _ ≤ 601024; omega) (by show _ + _ ≤ 7293034; omega) (Nat.le_of_ble_eq_true rfl) ?_
        refine ⟨σ.1, σ.2.1, σ.2.2, 100 * t, (xs (4 * t + 1)), (xs (4 * t + 2)), hC, hO, rfl, hI, ?_, ?_⟩
        · intro q i hok hok2 L2 hW
          obtain ⟨hC2, hfr, f6, h66, hf6⟩ := hW
          have hM2 := hM.cgs (L2 := L2) (fun k h1 h2 => hfr k h1 (by omega))
          have hA2 := hA.cg (L2 := L2) (fun k h1 h2 => hfr k h1 (by omega))
          have hO2 : OUT ids 67 L2 := ⟨by omega, f6, h66⟩
          have hM := hM2
          refine lg_istore hG dL_law_484 (Nat.le_of_ble_eq_true rfl) rfl ?_
          refine lg_aload_n hG dL_law_486 rfl ?_
          refine lg_aload_nS hG dL_law_487 rfl ?_
          refine lg_iload hG dL_law_488 rfl ?_
          refine lg_iconst hG dL_law_490 (x := 1) (by decide) ?_
          refine lg_iadd hG dL_law_491 (show nI (4 * t) + 1 = nI (4 * t + 1) from nI_add (4 * t) 1) ?_
          refine lg_sld hG dL_law_492 rfl (vp_in_nI (show _ < Lx by omega) (by omega)) ?_
          rw [nI_clamp (by omega)]
          refine lg_aload_nS hG dL_law_493 rfl ?_
          refine lg_iload hG dL_law_494 rfl ?_
          refine lg_iconst hG dL_law_496 (x := 2) (by decide) ?_
          refine lg_iadd hG dL_law_497 (show nI (4 * t) + 2 = nI (4 * t + 2) from nI_add (4 * t) 2) ?_
          refine lg_sld hG dL_law_498 rfl (vp_in_nI (show _ < Lx by omega) (by omega)) ?_
          rw [nI_clamp (by omega)]
          refine ms_call hG hM dL_law_499 rfl (fun P h => h) (by show _ + _ ≤ 601024; omega) (by show _ + _ ≤ 7293034; omega) (Nat.le_of_ble_eq_true rfl) ?_
          refine ⟨σ.1, σ.2.1, σ.2.2, _, _, (xs (4 * t + 1)), (xs (4 * t + 2)), 100 * t, hM, rfl, hI, ?_, ?_⟩
          · intro q1 i1 hok1 hok3 L3 hM3
            obtain rfl := okN_uni (by omega) hok hok1
            obtain rfl := okN_uni (by omega) hok2 hok3
            have hW3 := hM3.mw hA2 (fun _ _ => rfl)
            have hM := hW3.1
            refine lg_istore hG dL_law_502 (Nat.le_of_ble_eq_true rfl) rfl ?_
            refine lg_aload_n hG dL_law_504 rfl ?_
            refine ms_call hG hM dL_law_505 rfl (fun P h => h) (by show _ + _ ≤ 601024; omega) (by show _ + _ ≤ 7293034; omega) (Nat.le_of_ble_eq_true rfl) ?_
            refine ⟨_, _, _, _, _, hM, rfl, ?_⟩
            refine lg_iload hG dL_law_508 rfl ?_
            refine lg_icmp_eq hG dL_law_510 (tgt := 515) (by decide) (by decide) (fun h_510 => ?_) (fun h_510 => ?_)
            · skip
              refine lg_iload hG dL_law_515 rfl ?_
              refine lg_if_ne hG dL_law_517 (tgt := 532) (by decide) (by decide) (fun h_517 => ?_) (fun h_517 => ?_)
              · skip
                exact absurd rfl h_517 --END
              · skip
                refine lg_aload_n hG dL_law_520 rfl ?_
                refine lg_iconst hG dL_law_521 (x := 0) (by decide) ?_
                refine lg_lald hG dL_law_522 (by first | assumption | omega) (show L3 66 = .inl (ids 2, 1, .inr (.inl f6)) by rw [hW3.2.2 66 (Or.inr (by omega))]; exact h66) (vp_in_nI (n := 0) (by decide) (by decide)) ?_
                rw [show f6 (0 : Int32).toNatClampNeg = _ from hf6]
                refine lg_iload hG dL_law_523 rfl ?_
                refine lg_i2l hG dL_law_525 ?_
                refine lg_lcmp hG dL_law_526 ?_
                refine lg_if_eq hG dL_law_527 (tgt := 532) (by decide) (by decide) (fun h_527 => ?_) (fun h_527 => ?_)
                · skip
                  refine lg_goto hG dL_law_532 (tgt := 671) (by decide) (by decide) ?_
                  exact cont L3 _ _ _ _ (LAWI_of hC2 hW3 hO2 (INV_mono hI (by omega))) (by omega) (by omega)
                · skip
                  exact absurd (cmp_self _) h_527 --END
            · skip
              exact absurd rfl h_510 --END
          · intro hno1
            exact absurd ⟨q, i, hok, hok2⟩ hno1
        · intro hno
          refine lg_istore hG dL_law_484 (Nat.le_of_ble_eq_true rfl) rfl ?_
          refine lg_aload_n hG dL_law_486 rfl ?_
          refine lg_aload_nS hG dL_law_487 rfl ?_
          refine lg_iload hG dL_law_488 rfl ?_
          refine lg_iconst hG dL_law_490 (x := 1) (by decide) ?_
          refine lg_iadd hG dL_law_491 (show nI (4 * t) + 1 = nI (4 * t + 1) from nI_add (4 * t) 1) ?_
          refine lg_sld hG dL_law_492 rfl (vp_in_nI (show _ < Lx by omega) (by omega)) ?_
          rw [nI_clamp (by omega)]
          refine lg_aload_nS hG dL_law_493 rfl ?_
          refine lg_iload hG dL_law_494 rfl ?_
          refine lg_iconst hG dL_law_496 (x := 2) (by decide) ?_
          refine lg_iadd hG dL_law_497 (show nI (4 * t) + 2 = nI (4 * t + 2) from nI_add (4 * t) 2) ?_
          refine lg_sld hG dL_law_498 rfl (vp_in_nI (show _ < Lx by omega) (by omega)) ?_
          rw [nI_clamp (by omega)]
          refine ms_call hG hM dL_law_499 rfl (fun P h => h) (by show _ + _ ≤ 601024; omega) (by show _ + _ ≤ 7293034; omega) (Nat.le_of_ble_eq_true rfl) ?_
          refine ⟨σ.1, σ.2.1, σ.2.2, _, _, (xs (4 * t + 1)), (xs (4 * t + 2)), 100 * t, hM, rfl, hI, ?_, ?_⟩
          · intro q1 i1 hok1 hok3
            exact absurd ⟨q1, i1, hok1, hok3⟩ hno
          · intro hno1 L3 hM3
            have hW3 := hM3.mw hA (fun _ _ => rfl)
            have hM := hW3.1
            refine lg_istore hG dL_law_502 (Nat.le_of_ble_eq_true rfl) rfl ?_
            refine lg_aload_n hG dL_law_504 rfl ?_
            refine ms_call hG hM dL_law_505 rfl (fun P h => h) (by show _ + _ ≤ 601024; omega) (by show _ + _ ≤ 7293034; omega) (Nat.le_of_ble_eq_true rfl) ?_
            refine ⟨_, _, _, _, _, hM, rfl, ?_⟩
            refine lg_iload hG dL_law_508 rfl ?_
            refine lg_icmp_eq hG dL_law_510 (tgt := 515) (by decide) (by decide) (fun h_510 => ?_) (fun h_510 => ?_)
            · skip
              refine lg_iload hG dL_law_515 rfl ?_
              refine lg_if_ne hG dL_law_517 (tgt := 532) (by decide) (by decide) (fun h_517 => ?_) (fun h_517 => ?_)
              · skip
                refine lg_goto hG dL_law_532 (tgt := 671) (by decide) (by decide) ?_
                exact cont L3 _ _ _ _ (LAWI_of hC hW3 hO (INV_mono hI (by omega))) (by omega) (by omega)
              · skip
                exact absurd h_517 (by decide) --END
            · skip
              exact absurd rfl h_510 --END
      · refine lg_tabIn hG dL_law_39 (by decide) (by decide) (o := 496) (by decide) (tgt := 535) (by decide) (by decide) ?_
        refine lg_aload_n hG dL_law_535 rfl ?_
        refine lg_aload_nS hG dL_law_536 rfl ?_
        refine lg_iload hG dL_law_537 rfl ?_
        refine lg_iconst hG dL_law_539 (x := 1) (by decide) ?_
        refine lg_iadd hG dL_law_540 (show nI (4 * t) + 1 = nI (4 * t + 1) from nI_add (4 * t) 1) ?_
        refine lg_sld hG dL_law_541 rfl (vp_in_nI (show _ < Lx by omega) (by omega)) ?_
        rw [nI_clamp (by omega)]
        refine lg_aload_nS hG dL_law_542 rfl ?_
        refine lg_iload hG dL_law_543 rfl ?_
        refine lg_iconst hG dL_law_545 (x := 2) (by decide) ?_
        refine lg_iadd hG dL_law_546 (show nI (4 * t) + 2 = nI (4 * t + 2) from nI_add (4 * t) 2) ?_
        refine lg_sld hG dL_law_547 rfl (vp_in_nI (show _ < Lx by omega) (by omega)) ?_
        rw [nI_clamp (by omega)]
        refine lg_aload_nS hG dL_law_548 rfl ?_
        refine lg_iload hG dL_law_549 rfl ?_
        refine lg_iconst hG dL_law_551 (x := 3) (by decide) ?_
        refine lg_iadd hG dL_law_552 (show nI (4 * t) + 3 = nI (4 * t + 3) from nI_add (4 * t) 3) ?_
        refine lg_sld hG dL_law_553 rfl (vp_in_nI (show _ < Lx by omega) (by omega)) ?_
        rw [nI_clamp (by omega)]
        refine lg_aload_n hG dL_law_554 rfl ?_
        refine lg_callS hG dL_law_555 (by simp) rfl (fun P h => h) (by show _ + _ ≤ 601024; omega) (by show _ + _ ≤ 7293034; omega) (Nat.le_of_ble_eq_true rfl) ?_
        refine ⟨σ.1, σ.2.1, σ.2.2, 100 * t, (xs (4 * t + 1)), (xs (4 * t + 2)), (xs (4 * t + 3)), hC, hO, rfl, hI, fun q i hok hok2 => ⟨?_, ?_⟩, ?_⟩
        · intro k y hk hy L2 hW
          obtain ⟨hC2, hfr, f6, h66, hf6⟩ := hW
          have hM2 := hM.cgs (L2 := L2) (fun k h1 h2 => hfr k h1 (by omega))
          have hA2 := hA.cg (L2 := L2) (fun k h1 h2 => hfr k h1 (by omega))
          have hO2 : OUT ids 67 L2 := ⟨by omega, f6, h66⟩
          have hM := hM2
          refine lg_istore hG dL_law_558 (Nat.le_of_ble_eq_true rfl) rfl ?_
          refine lg_aload_n hG dL_law_560 rfl ?_
          refine lg_aload_nS hG dL_law_561 rfl ?_
          refine lg_iload hG dL_law_562 rfl ?_
          refine lg_iconst hG dL_law_564 (x := 1) (by decide) ?_
          refine lg_iadd hG dL_law_565 (show nI (4 * t) + 1 = nI (4 * t + 1) from nI_add (4 * t) 1) ?_
          refine lg_sld hG dL_law_566 rfl (vp_in_nI (show _ < Lx by omega) (by omega)) ?_
          rw [nI_clamp (by omega)]
          refine lg_aload_nS hG dL_law_567 rfl ?_
          refine lg_iload hG dL_law_568 rfl ?_
          refine lg_iconst hG dL_law_570 (x := 2) (by decide) ?_
          refine lg_iadd hG dL_law_571 (show nI (4 * t) + 2 = nI (4 * t + 2) from nI_add (4 * t) 2) ?_
          refine lg_sld hG dL_law_572 rfl (vp_in_nI (show _ < Lx by omega) (by omega)) ?_
          rw [nI_clamp (by omega)]
          refine lg_aload_nS hG dL_law_573 rfl ?_
          refine lg_iload hG dL_law_574 rfl ?_
          refine lg_iconst hG dL_law_576 (x := 3) (by decide) ?_
          refine lg_iadd hG dL_law_577 (show nI (4 * t) + 3 = nI (4 * t + 3) from nI_add (4 * t) 3) ?_
          refine lg_sld hG dL_law_578 rfl (vp_in_nI (show _ < Lx by omega) (by omega)) ?_
          rw [nI_clamp (by omega)]
          refine ms_call hG hM dL_law_579 rfl (fun P h => h) (by show _ + _ ≤ 601024; omega) (by show _ + _ ≤ 7293034; omega) (Nat.le_of_ble_eq_true rfl) ?_
          refine ⟨σ.1, σ.2.1, σ.2.2, _, _, (xs (4 * t + 1)), (xs (4 * t + 2)), (xs (4 * t + 3)), 100 * t, hM, rfl, hI, fun q1 i1 hok1 hok3 => ⟨?_, ?_⟩, ?_⟩
          · intro k1 y1 hk1 hy1 L3 hM3
            obtain rfl := okN_uni (by omega) hok hok1
            obtain rfl := okN_uni (by omega) hok2 hok3
            obtain rfl := okN_uni (by have := hM.len hok.1; omega) hk hk1
            obtain rfl := Option.some.inj (hy.symm.trans hy1)
            have hW3 := hM3.mw hA2 (fun _ _ => rfl)
            have hM := hW3.1
            refine lg_istore hG dL_law_582 (Nat.le_of_ble_eq_true rfl) rfl ?_
            refine lg_aload_n hG dL_law_584 rfl ?_
            refine ms_call hG hM dL_law_585 rfl (fun P h => h) (by show _ + _ ≤ 601024; omega) (by show _ + _ ≤ 7293034; omega) (Nat.le_of_ble_eq_true rfl) ?_
            refine ⟨_, _, _, _, _, hM, rfl, ?_⟩
            refine lg_iload hG dL_law_588 rfl ?_
            refine lg_icmp_eq hG dL_law_590 (tgt := 595) (by decide) (by decide) (fun h_590 => ?_) (fun h_590 => ?_)
            · skip
              refine lg_iload hG dL_law_595 rfl ?_
              refine lg_if_ne hG dL_law_597 (tgt := 612) (by decide) (by decide) (fun h_597 => ?_) (fun h_597 => ?_)
              · skip
                exact absurd rfl h_597 --END
              · skip
                refine lg_aload_n hG dL_law_600 rfl ?_
                refine lg_iconst hG dL_law_601 (x := 0) (by decide) ?_
                refine lg_lald hG dL_law_602 (by first | assumption | omega) (show L3 66 = .inl (ids 2, 1, .inr (.inl f6)) by rw [hW3.2.2 66 (Or.inr (by omega))]; exact h66) (vp_in_nI (n := 0) (by decide) (by decide)) ?_
                rw [show f6 (0 : Int32).toNatClampNeg = _ from hf6]
                refine lg_iload hG dL_law_603 rfl ?_
                refine lg_i2l hG dL_law_605 ?_
                refine lg_lcmp hG dL_law_606 ?_
                refine lg_if_eq hG dL_law_607 (tgt := 612) (by decide) (by decide) (fun h_607 => ?_) (fun h_607 => ?_)
                · skip
                  refine lg_goto hG dL_law_612 (tgt := 671) (by decide) (by decide) ?_
                  exact cont L3 _ _ _ _ (LAWI_of hC2 hW3 hO2 (INV_mono hI (by omega))) (by omega) (by omega)
                · skip
                  exact absurd (cmp_self _) h_607 --END
            · skip
              exact absurd rfl h_590 --END
          · intro hno1
            obtain rfl := okN_uni (by omega) hok hok1
            exact absurd ⟨k, hk⟩ hno1
          · intro hno1
            exact absurd ⟨q, i, hok, hok2⟩ hno1
        · intro hno
          refine lg_istore hG dL_law_558 (Nat.le_of_ble_eq_true rfl) rfl ?_
          refine lg_aload_n hG dL_law_560 rfl ?_
          refine lg_aload_nS hG dL_law_561 rfl ?_
          refine lg_iload hG dL_law_562 rfl ?_
          refine lg_iconst hG dL_law_564 (x := 1) (by decide) ?_
          refine lg_iadd hG dL_law_565 (show nI (4 * t) + 1 = nI (4 * t + 1) from nI_add (4 * t) 1) ?_
          refine lg_sld hG dL_law_566 rfl (vp_in_nI (show _ < Lx by omega) (by omega)) ?_
          rw [nI_clamp (by omega)]
          refine lg_aload_nS hG dL_law_567 rfl ?_
          refine lg_iload hG dL_law_568 rfl ?_
          refine lg_iconst hG dL_law_570 (x := 2) (by decide) ?_
          refine lg_iadd hG dL_law_571 (show nI (4 * t) + 2 = nI (4 * t + 2) from nI_add (4 * t) 2) ?_
          refine lg_sld hG dL_law_572 rfl (vp_in_nI (show _ < Lx by omega) (by omega)) ?_
          rw [nI_clamp (by omega)]
          refine lg_aload_nS hG dL_law_573 rfl ?_
          refine lg_iload hG dL_law_574 rfl ?_
          refine lg_iconst hG dL_law_576 (x := 3) (by decide) ?_
          refine lg_iadd hG dL_law_577 (show nI (4 * t) + 3 = nI (4 * t + 3) from nI_add (4 * t) 3) ?_
          refine lg_sld hG dL_law_578 rfl (vp_in_nI (show _ < Lx by omega) (by omega)) ?_
          rw [nI_clamp (by omega)]
          refine ms_call hG hM dL_law_579 rfl (fun P h => h) (by show _ + _ ≤ 601024; omega) (by show _ + _ ≤ 7293034; omega) (Nat.le_of_ble_eq_true rfl) ?_
          refine ⟨σ.1, σ.2.1, σ.2.2, _, _, (xs (4 * t + 1)), (xs (4 * t + 2)), (xs (4 * t + 3)), 100 * t, hM, rfl, hI, fun q1 i1 hok1 hok3 => ⟨?_, ?_⟩, ?_⟩
          · intro k1 y1 hk1 hy1
            obtain rfl := okN_uni (by omega) hok hok1
            exact absurd ⟨k1, hk1⟩ hno
          · intro hno1 L3 hM3
            have hW3 := hM3.mw hA (fun _ _ => rfl)
            have hM := hW3.1
            refine lg_istore hG dL_law_582 (Nat.le_of_ble_eq_true rfl) rfl ?_
            refine lg_aload_n hG dL_law_584 rfl ?_
            refine ms_call hG hM dL_law_585 rfl (fun P h => h) (by show _ + _ ≤ 601024; omega) (by show _ + _ ≤ 7293034; omega) (Nat.le_of_ble_eq_true rfl) ?_
            refine ⟨_, _, _, _, _, hM, rfl, ?_⟩
            refine lg_iload hG dL_law_588 rfl ?_
            refine lg_icmp_eq hG dL_law_590 (tgt := 595) (by decide) (by decide) (fun h_590 => ?_) (fun h_590 => ?_)
            · skip
              refine lg_iload hG dL_law_595 rfl ?_
              refine lg_if_ne hG dL_law_597 (tgt := 612) (by decide) (by decide) (fun h_597 => ?_) (fun h_597 => ?_)
              · skip
                refine lg_goto hG dL_law_612 (tgt := 671) (by decide) (by decide) ?_
                exact cont L3 _ _ _ _ (LAWI_of hC hW3 hO (INV_mono hI (by omega))) (by omega) (by omega)
              · skip
                exact absurd h_597 (by decide) --END
            · skip
              exact absurd rfl h_590 --END
          · intro hno1
            exact absurd ⟨q, i, hok, hok2⟩ hno1
        · intro hno
          refine lg_istore hG dL_law_558 (Nat.le_of_ble_eq_true rfl) rfl ?_
          refine lg_aload_n hG dL_law_560 rfl ?_
          refine lg_aload_nS hG dL_law_561 rfl ?_
          refine lg_iload hG dL_law_562 rfl ?_
          refine lg_iconst hG dL_law_564 (x := 1) (by decide) ?_
          refine lg_iadd hG dL_law_565 (show nI (4 * t) + 1 = nI (4 * t + 1) from nI_add (4 * t) 1) ?_
          refine lg_sld hG dL_law_566 rfl (vp_in_nI (show _ < Lx by omega) (by omega)) ?_
          rw [nI_clamp (by omega)]
          refine lg_aload_nS hG dL_law_567 rfl ?_
          refine lg_iload hG dL_law_568 rfl ?_
          refine lg_iconst hG dL_law_570 (x := 2) (by decide) ?_
          refine lg_iadd hG dL_law_571 (show nI (4 * t) + 2 = nI (4 * t + 2) from nI_add (4 * t) 2) ?_
          refine lg_sld hG dL_law_572 rfl (vp_in_nI (show _ < Lx by omega) (by omega)) ?_
          rw [nI_clamp (by omega)]
          refine lg_aload_nS hG dL_law_573 rfl ?_
          refine lg_iload hG dL_law_574 rfl ?_
          refine lg_iconst hG dL_law_576 (x := 3) (by decide) ?_
          refine lg_iadd hG dL_law_577 (show nI (4 * t) + 3 = nI (4 * t + 3) from nI_add (4 * t) 3) ?_
          refine lg_sld hG dL_law_578 rfl (vp_in_nI (show _ < Lx by omega) (by omega)) ?_
          rw [nI_clamp (by omega)]
          refine ms_call hG hM dL_law_579 rfl (fun P h => h) (by show _ + _ ≤ 601024; omega) (by show _ + _ ≤ 7293034; omega) (Nat.le_of_ble_eq_true rfl) ?_
          refine ⟨σ.1, σ.2.1, σ.2.2, _, _, (xs (4 * t + 1)), (xs (4 * t + 2)), (xs (4 * t + 3)), 100 * t, hM, rfl, hI, fun q1 i1 hok1 hok3 => ⟨?_, ?_⟩, ?_⟩
          · exact absurd ⟨q1, i1, hok1, hok3⟩ hno
          · exact absurd ⟨q1, i1, hok1, hok3⟩ hno
          · intro hno1 L3 hM3
            have hW3 := hM3.mw hA (fun _ _ => rfl)
            have hM := hW3.1
            refine lg_istore hG dL_law_582 (Nat.le_of_ble_eq_true rfl) rfl ?_
            refine lg_aload_n hG dL_law_584 rfl ?_
            refine ms_call hG hM dL_law_585 rfl (fun P h => h) (by show _ + _ ≤ 601024; omega) (by show _ + _ ≤ 7293034; omega) (Nat.le_of_ble_eq_true rfl) ?_
            refine ⟨_, _, _, _, _, hM, rfl, ?_⟩
            refine lg_iload hG dL_law_588 rfl ?_
            refine lg_icmp_eq hG dL_law_590 (tgt := 595) (by decide) (by decide) (fun h_590 => ?_) (fun h_590 => ?_)
            · skip
              refine lg_iload hG dL_law_595 rfl ?_
              refine lg_if_ne hG dL_law_597 (tgt := 612) (by decide) (by decide) (fun h_597 => ?_) (fun h_597 => ?_)
              · skip
                refine lg_goto hG dL_law_612 (tgt := 671) (by decide) (by decide) ?_
                exact cont L3 _ _ _ _ (LAWI_of hC hW3 hO (INV_mono hI (by omega))) (by omega) (by omega)
              · skip
                exact absurd h_597 (by decide) --END
            · skip
              exact absurd rfl h_590 --END
      · refine lg_tabIn hG dL_law_39 (by decide) (by decide) (o := 576) (by decide) (tgt := 615) (by decide) (by decide) ?_
        refine lg_aload_n hG dL_law_615 rfl ?_
        refine lg_aload_nS hG dL_law_616 rfl ?_
        refine lg_iload hG dL_law_617 rfl ?_
        refine lg_iconst hG dL_law_619 (x := 1) (by decide) ?_
        refine lg_iadd hG dL_law_620 (show nI (4 * t) + 1 = nI (4 * t + 1) from nI_add (4 * t) 1) ?_
        refine lg_sld hG dL_law_621 rfl (vp_in_nI (show _ < Lx by omega) (by omega)) ?_
        rw [nI_clamp (by omega)]
        refine lg_aload_n hG dL_law_622 rfl ?_
        refine lg_callS hG dL_law_623 (by simp) rfl (fun P h => h) (by show _ + _ ≤ 601024; omega) (by show _ + _ ≤ 7293034; omega) (Nat.le_of_ble_eq_true rfl) ?_
        refine ⟨σ.1, σ.2.1, σ.2.2, 100 * t, (xs (4 * t + 1)), hC, hO, rfl, hI, ?_, ?_⟩
        · intro i hok L2 hW
          obtain ⟨hC2, hfr, f6, h66, hf6⟩ := hW
          have hM2 := hM.cgs (L2 := L2) (fun k h1 h2 => hfr k h1 (by omega))
          have hA2 := hA.cg (L2 := L2) (fun k h1 h2 => hfr k h1 (by omega))
          have hO2 : OUT ids 67 L2 := ⟨by omega, f6, h66⟩
          have hM := hM2
          refine lg_istore hG dL_law_626 (Nat.le_of_ble_eq_true rfl) rfl ?_
          refine lg_aload_n hG dL_law_628 rfl ?_
          refine lg_aload_nS hG dL_law_629 rfl ?_
          refine lg_iload hG dL_law_630 rfl ?_
          refine lg_iconst hG dL_law_632 (x := 1) (by decide) ?_
          refine lg_iadd hG dL_law_633 (show nI (4 * t) + 1 = nI (4 * t + 1) from nI_add (4 * t) 1) ?_
          refine lg_sld hG dL_law_634 rfl (vp_in_nI (show _ < Lx by omega) (by omega)) ?_
          rw [nI_clamp (by omega)]
          refine ms_call hG hM dL_law_635 rfl (fun P h => h) (by show _ + _ ≤ 601024; omega) (by show _ + _ ≤ 7293034; omega) (Nat.le_of_ble_eq_true rfl) ?_
          refine ⟨σ.1, σ.2.1, σ.2.2, _, _, (xs (4 * t + 1)), 100 * t, hM, rfl, hI, ?_, ?_⟩
          · intro i1 hok1 L3 hM3
            obtain rfl := okN_uni (by omega) hok hok1
            have hW3 := hM3.mw hA2 (fun _ _ => rfl)
            have hM := hW3.1
            refine lg_istore hG dL_law_638 (Nat.le_of_ble_eq_true rfl) rfl ?_
            refine lg_aload_n hG dL_law_640 rfl ?_
            refine ms_call hG hM dL_law_641 rfl (fun P h => h) (by show _ + _ ≤ 601024; omega) (by show _ + _ ≤ 7293034; omega) (Nat.le_of_ble_eq_true rfl) ?_
            refine ⟨_, _, _, _, _, hM, rfl, ?_⟩
            refine lg_iload hG dL_law_644 rfl ?_
            refine lg_icmp_eq hG dL_law_646 (tgt := 651) (by decide) (by decide) (fun h_646 => ?_) (fun h_646 => ?_)
            · skip
              refine lg_iload hG dL_law_651 rfl ?_
              refine lg_if_ne hG dL_law_653 (tgt := 668) (by decide) (by decide) (fun h_653 => ?_) (fun h_653 => ?_)
              · skip
                exact absurd rfl h_653 --END
              · skip
                refine lg_aload_n hG dL_law_656 rfl ?_
                refine lg_iconst hG dL_law_657 (x := 0) (by decide) ?_
                refine lg_lald hG dL_law_658 (by first | assumption | omega) (show L3 66 = .inl (ids 2, 1, .inr (.inl f6)) by rw [hW3.2.2 66 (Or.inr (by omega))]; exact h66) (vp_in_nI (n := 0) (by decide) (by decide)) ?_
                rw [show f6 (0 : Int32).toNatClampNeg = _ from hf6]
                refine lg_iload hG dL_law_659 rfl ?_
                refine lg_i2l hG dL_law_661 ?_
                refine lg_lcmp hG dL_law_662 ?_
                refine lg_if_eq hG dL_law_663 (tgt := 668) (by decide) (by decide) (fun h_663 => ?_) (fun h_663 => ?_)
                · skip
                  refine lg_goto hG dL_law_668 (tgt := 671) (by decide) (by decide) ?_
                  exact cont L3 _ _ _ _ (LAWI_of hC2 hW3 hO2 (INV_mono hI (by omega))) (by omega) (by omega)
                · skip
                  exact absurd (cmp_self _) h_663 --END
            · skip
              exact absurd rfl h_646 --END
          · intro hno1
            exact absurd ⟨i, hok⟩ hno1
        · intro hno
          refine lg_istore hG dL_law_626 (Nat.le_of_ble_eq_true rfl) rfl ?_
          refine lg_aload_n hG dL_law_628 rfl ?_
          refine lg_aload_nS hG dL_law_629 rfl ?_
          refine lg_iload hG dL_law_630 rfl ?_
          refine lg_iconst hG dL_law_632 (x := 1) (by decide) ?_
          refine lg_iadd hG dL_law_633 (show nI (4 * t) + 1 = nI (4 * t + 1) from nI_add (4 * t) 1) ?_
          refine lg_sld hG dL_law_634 rfl (vp_in_nI (show _ < Lx by omega) (by omega)) ?_
          rw [nI_clamp (by omega)]
          refine ms_call hG hM dL_law_635 rfl (fun P h => h) (by show _ + _ ≤ 601024; omega) (by show _ + _ ≤ 7293034; omega) (Nat.le_of_ble_eq_true rfl) ?_
          refine ⟨σ.1, σ.2.1, σ.2.2, _, _, (xs (4 * t + 1)), 100 * t, hM, rfl, hI, ?_, ?_⟩
          · intro i1 hok1
            exact absurd ⟨i1, hok1⟩ hno
          · intro hno1 L3 hM3
            have hW3 := hM3.mw hA (fun _ _ => rfl)
            have hM := hW3.1
            refine lg_istore hG dL_law_638 (Nat.le_of_ble_eq_true rfl) rfl ?_
            refine lg_aload_n hG dL_law_640 rfl ?_
            refine ms_call hG hM dL_law_641 rfl (fun P h => h) (by show _ + _ ≤ 601024; omega) (by show _ + _ ≤ 7293034; omega) (Nat.le_of_ble_eq_true rfl) ?_
            refine ⟨_, _, _, _, _, hM, rfl, ?_⟩
            refine lg_iload hG dL_law_644 rfl ?_
            refine lg_icmp_eq hG dL_law_646 (tgt := 651) (by decide) (by decide) (fun h_646 => ?_) (fun h_646 => ?_)
            · skip
              refine lg_iload hG dL_law_651 rfl ?_
              refine lg_if_ne hG dL_law_653 (tgt := 668) (by decide) (by decide) (fun h_653 => ?_) (fun h_653 => ?_)
              · skip
                refine lg_goto hG dL_law_668 (tgt := 671) (by decide) (by decide) ?_
                exact cont L3 _ _ _ _ (LAWI_of hC hW3 hO (INV_mono hI (by omega))) (by omega) (by omega)
              · skip
                exact absurd h_653 (by decide) --END
            · skip
              exact absurd rfl h_646 --END
      · refine lg_tabOut hG dL_law_39 (Or.inr (by rw [nI_toInt (by omega)]; omega)) rfl (tgt := 671) (by decide) (by decide) ?_
        exact cont L _ _ _ _ ⟨σ, tt, hC, hM, hA, hO, INV_mono hI (by omega)⟩ (by omega) (by omega)
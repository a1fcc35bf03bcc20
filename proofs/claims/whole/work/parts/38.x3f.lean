/-- the state behind find: the looks in vain are done, the queue z has its turn -/
def fnS (σ : St) (c p z : Nat) : St := (va_up (bfS σ c p z).1 z (tkt ((bfS σ c p z).1 z)), (bfS σ c p z).2.1, σ.2.2)
theorem MV.rot {Q : Nat → Qs} {R : Nat → List Nat} {F F2 : Nat → Nat → Int32} (hV : MV Q R F) {c q : Nat} {tl : List Nat} (hc : c < 4) (hl : R c = q :: tl) (h1 : ∀ j, j ≠ 13 → F2 j = F j) (h2 : F2 13 = upd (va_cpy (F 13) (F 13) (12 * c + 1) (12 * c) tl.length) (12 * c + tl.length) (nI q)) : MV Q (va_up R c (tl ++ [q])) F2 := by
  obtain ⟨a1, a2, a3, a4⟩ := hV.2 c hc
  rw [hl] at a1 a2 a3 a4
  have hlen : tl.length + 1 ≤ 12 := a2
  refine hV.ring (fun j h13 _ => h1 j h13) (fun d k hd hne hk => ?_) (fun d hne => by rw [h1 14 (by omega)]) ⟨?_, ?_, ?_, ?_⟩
  · rw [h2, pk_un (by omega), pk_cpy_out (by omega)]
  · rw [h1 14 (by omega), a1, List.length_append]; rfl
  · rw [List.length_append]; exact hlen
  · intro x hx
    refine a3 x ?_
    rcases List.mem_append.mp hx with h | h
    · exact List.mem_cons_of_mem _ h
    · simp at h; subst h; exact List.mem_cons_self
  · intro k x hk
    rw [h2]
    rcases Nat.lt_or_ge k tl.length with h | h
    · rw [List.getElem?_append_left h] at hk
      rw [pk_un (by omega), pk_cpy_in (by omega) (by omega), show 12 * c + 1 + (12 * c + k - 12 * c) = 12 * c + (k + 1) by omega]
      exact a4 (k + 1) x hk
    · rw [List.getElem?_append_right h] at hk
      have hz : k - tl.length = 0 := by
        have := (List.getElem?_eq_some_iff.mp hk).1
        simp at this
        omega
      rw [hz] at hk
      have hx : x = q := by simpa using hk.symm
      subst hx
      rw [show k = tl.length by omega, pk_us]
def rm_X3_find : Room := { frames := 0, cells := 0, slots := 0, locals := 0 }
theorem ld_X3_find : yX3_find.cls ≠ "java/lang/invoke/MethodHandle" ∧ yX3_find.cls ≠ "java/lang/invoke/VarHandle" ∧ (parseMethodDescriptor yX3_find.desc).map (fun d => d.parameters.length) = some 0 := by decide +kernel
def sp_X3_find (ids : Nat → ClassId) : lm_S := fun As n L post postX => ∃ Q R g t L0 K, MS ids n Q R g t L0 L ∧ As = [.ref 47] ∧ INV K (Q, R, g) ∧ K ≤ 2 ^ 17 ∧ (NQ (Q, R, g) → post (some (.int (-1))) n L) ∧ (∀ c p z, FP (Q, R, g) c p z → ∀ L1, MS ids n (fnS (Q, R, g) c p z).1 (fnS (Q, R, g) c p z).2.1 g t L0 L1 → post (some (.int (nI z))) n L1)
set_option maxHeartbeats 4000000 in
set_option maxRecDepth 20000 in
theorem ok_X3_find (l : Launch) (D : va_G) (ids : Nat → ClassId) (B b : Nat) : lm_M l D (lm_ty ids) B b false yX3_find cX3_find 4 (some .int) rm_X3_find 0 0 (sp_X3_find ids) := by
  refine lm_method (own := RX3) (fld := lf_3) (cv := (fun _ => none)) (cs := (fun _ => none)) (ci := (fun _ => none)) (kon := (fun _ => none)) (thr := (fun _ => none)) (nw := (fun _ => none)) (ini := false) (cp := none) (alc := false) (by decide +kernel) rfl rfl rfl (lf_3_ok _) ⟨?_, ?_⟩ ?_ (fun h => by cases h) (lm_aok0 _ _ _ _ _ _ _ _) ?_ ?_
  · intro j f hf
    cases hf
  · intro j f hf
    cases hf
  · intro j v hv; cases hv
  · exact Or.inl fun _ => rfl
  rintro As n L post postX ⟨Q, R, g, t, L0, K, hM, rfl, hI, hK, hpn, hp⟩
  refine ⟨by simp [Value.category], (Nat.le_of_ble_eq_true rfl), lm_cl_of ?_⟩
  intro G hG
  rcases FP_ex (Q, R, g) with hN | ⟨c, p, z, hF0⟩
  · skip
    have loop : ∀ (m k : Nat), k ≤ 4 → 4 - k < m → ∀ v2 v3, G 2 [some (.ref 47), some (.int (nI k)), v2, v3] [] n L 0 0 := by
      intro m
      induction m with
      | zero => intro k h1 h2; omega
      | succ m ih =>
        intro k hk hkm v2 v3
        refine lg_iload_n hG dX3_find_2 rfl ?_
        refine lg_iconst hG dX3_find_3 (x := 4) (by decide) ?_
        refine lg_icmp_ge hG dX3_find_4 (tgt := 22) (by decide) (by decide) (fun h_4 => ?_) (fun h_4 => ?_)
        · skip
          have hk4 : k = 4 := by
            rcases Nat.lt_or_ge k 4 with h | h
            · exact absurd (nI_lt (b := 4) h (by decide)) h_4
            · omega
          subst hk4
          refine lg_iload_n hG dX3_find_22 rfl ?_
          refine lg_iconst hG dX3_find_23 (x := 4) (by decide) ?_
          refine lg_icmp_ne hG dX3_find_24 (tgt := 29) (by decide) (by decide) (fun h_24 => ?_) (fun h_24 => ?_)
          · skip
            exact absurd rfl h_24 --END
          · skip
            refine lg_iconst hG dX3_find_27 (x := (-1)) (by decide) ?_
            refine lg_iret hG dX3_find_28 (Nat.le_of_ble_eq_true rfl) (Nat.le_of_ble_eq_true rfl) ?_
            exact ⟨trivial, hpn hN⟩
        · skip
          have hk4 : k < 4 := (nI_ltI (b := 4) (by omega) (by decide)).mp h_4
          have h0 : (R k).length = 0 := hN k hk4
          refine lg_aload_n hG dX3_find_7 rfl ?_
          refine ms_get hG hM dX3_find_8 rfl rfl ?_
          refine lg_iload_n hG dX3_find_11 rfl ?_
          refine ms_ldL hG hM dX3_find_12 rfl hk4 rfl ?_
          rw [h0]
          refine lg_if_ne hG dX3_find_13 (tgt := 22) (by decide) (by decide) (fun h_13 => ?_) (fun h_13 => ?_)
          · skip
            exact absurd rfl h_13 --END
          · skip
            refine lg_iinc hG dX3_find_16 (Nat.le_of_ble_eq_true rfl) rfl rfl rfl ?_
            refine lg_goto hG dX3_find_19 (tgt := 2) (by decide) (by decide) ?_
            rw [show nI k + Int32.ofInt 1 = nI (k + 1) from nI_1 k]
            exact ih (k + 1) (by omega) (by omega) _ _
    refine lg_iconst hG dX3_find_0 (x := 0) (by decide) ?_
    refine lg_istore_n hG dX3_find_1 (Nat.le_of_ble_eq_true rfl) rfl ?_
    exact loop 5 0 (by omega) (by omega) _ _
  · obtain ⟨hc, hc0, hcd, hP⟩ := hF0
    have hc0 : 0 < (R c).length := hc0
    have hcd : ∀ d, d < c → (R d).length = 0 := hcd
    have hF0 : FP (Q, R, g) c p z := ⟨hc, hc0, hcd, hP⟩
    have main : ∀ (m : Nat) (Q' : Nat → Qs) (R' : Nat → List Nat) (L : lm_L) (p' : Nat), MS ids n Q' R' g t L0 L → INV K (Q', R', g) → FP (Q', R', g) c p' z → lkx (Q' z) * (R' c).length + p' < m → bfS (Q', R', g) c p' z = bfS (Q, R, g) c p z → ∀ v2 v3, G 29 [some (.ref 47), some (.int (nI c)), v2, v3] [] n L 0 0 := by
      intro m
      induction m with
      | zero => intro Q' R' L p' _ _ _ h; omega
      | succ m ih =>
        intro Q' R' L p' hM hI hF1 hms hbf v2 v3
        obtain ⟨q, tl, hl⟩ : ∃ q tl, R' c = q :: tl := by
          have h9 : 0 < (R' c).length := hF1.2.1
          cases h8 : R' c with
          | nil => rw [h8] at h9; simp at h9
          | cons q tl => exact ⟨q, tl, rfl⟩
        obtain ⟨hq12, hqk, hql⟩ := (hI.2.1 c hc).2 q (by show q ∈ R' c; rw [hl]; exact List.mem_cons_self)
        obtain ⟨b1, b2, b3, b4, b5, b6, b7, b8, b9⟩ := hI.1 q hq12
        have b2 : 0 < qu (Q' q) := b2
        have b3 : qu (Q' q) ≤ 1000 := b3
        have b6 : qd (Q' q) ≤ 2000 + 1000 * K := b6
        have hql : 0 < (qI (Q' q)).length := hql
        obtain ⟨y, r, hy, hfy⟩ := fc_mem hql
        have hy2 := (b7 y (by show y ∈ qI (Q' q); rw [hy]; exact List.mem_cons_self)).2
        have hyt : qI (tkt (Q' q)) = y :: r := (tkt_I _).trans hy
        have htd := tkt_d (Q' q)
        have hl12 : tl.length + 1 ≤ 12 := by have := (hM.ring hc).1; rw [hl] at this; exact this
        rw [hl] at hms
        have hms : lkx (Q' z) * (tl.length + 1) + p' < m + 1 := hms
        have tail : ∀ (L : lm_L), MS ids n (va_up Q' q (tkt (Q' q))) R' g t L0 L → G 74 [some (.ref 47), some (.int (nI c)), some (.int (nI q)), v3] [] n L 0 0 := by
          intro L hM
          refine lg_aload_n hG dX3_find_74 rfl ?_
          refine ms_get hG hM dX3_find_75 rfl rfl ?_
          refine lg_bipush hG dX3_find_78 (x := (96)) (by decide) ?_
          refine lg_iload_n hG dX3_find_80 rfl ?_
          refine lg_imul hG dX3_find_81 (mk96 _) ?_
          refine ms_ldC (i := 0) hG hM dX3_find_82 rfl (by first | assumption | omega) (va_up_self _ _ _) (show (qI (tkt (Q' q)))[0]? = some y by rw [hyt]; rfl) ?_
          refine lg_aload_n hG dX3_find_83 rfl ?_
          refine ms_get hG hM dX3_find_84 rfl rfl ?_
          refine lg_iload_n hG dX3_find_87 rfl ?_
          refine ms_ld hG hM dX3_find_88 (by decide) rfl rfl (by first | assumption | omega) (va_up_self _ _ _) rfl ?_
          refine lg_icmp_gt hG dX3_find_89 (tgt := 94) (by decide) (by decide) (fun h_89 => ?_) (fun h_89 => ?_)
          · skip
            have hk1 : 1 ≤ lkx (Q' q) := by
              rcases Nat.eq_zero_or_pos (lkx (Q' q)) with h | h
              · exact absurd (nI_le ((lkx_zero hy b2).mpr h) (by omega)) h_89
              · exact h
            refine lg_aload_n hG dX3_find_94 rfl ?_
            refine ms_get hG hM dX3_find_95 rfl rfl ?_
            refine lg_iload_n hG dX3_find_98 rfl ?_
            refine lg_iconst hG dX3_find_99 (x := 0) (by decide) ?_
            refine ms_bst hG hM dX3_find_100 rfl (by first | exact Or.inl rfl | exact Or.inr rfl) (by first | assumption | omega) (va_up_self _ _ _) (x' := sT (tkt (Q' q)) false) rfl rfl (fun L hM => ?_)
            try rw [bx_uu] at hM
            rw [vlk_one] at hM
            obtain ⟨F, hF, hV⟩ := hM
            have h14 : F 14 c = nI (tl.length + 1) := by have := (hV.2 c hc).1; rw [hl] at this; exact this
            refine lg_iconst hG dX3_find_101 (x := 1) (by decide) ?_
            refine lg_istore_n hG dX3_find_102 (Nat.le_of_ble_eq_true rfl) rfl ?_
            have loop2 : ∀ (m2 k : Nat) (F' : Nat → Nat → Int32) (L : lm_L), 1 ≤ k → k ≤ tl.length + 1 → tl.length + 1 - k < m2 → MF ids n 15 F' t (g 0) (g 3) (g 4) L0 L → (∀ j, j ≠ 13 → F' j = F j) → F' 13 = va_cpy (F 13) (F 13) (12 * c + 1) (12 * c) (k - 1) → G 103 [some (.ref 47), some (.int (nI c)), some (.int (nI q)), some (.int (nI k))] [] n L 0 0 := by
              intro m2
              induction m2 with
              | zero => intro k F' L h0 h1 h2; omega
              | succ m2 ih2 =>
                intro k F' L hk0 hk hkm hF hfj f13
                refine lg_iload_n hG dX3_find_103 rfl ?_
                refine lg_aload_n hG dX3_find_104 rfl ?_
                refine mg_get hG hF dX3_find_105 rfl rfl ?_
                refine lg_iload_n hG dX3_find_108 rfl ?_
                refine mg_ld hG hF dX3_find_109 (by decide) rfl (show _ < 4 from hc) (by decide) ?_
                rw [hfj 14 (by omega), h14]
                refine lg_icmp_ge hG dX3_find_110 (tgt := 143) (by decide) (by decide) (fun h_110 => ?_) (fun h_110 => ?_)
                · skip
                  have hkl : k = tl.length + 1 := by
                    rcases Nat.lt_or_ge k (tl.length + 1) with h | h
                    · exact absurd (nI_lt h (by omega)) h_110
                    · omega
                  subst hkl
                  refine lg_aload_n hG dX3_find_143 rfl ?_
                  refine mg_get hG hF dX3_find_144 rfl rfl ?_
                  refine lg_bipush hG dX3_find_147 (x := (12)) (by decide) ?_
                  refine lg_iload_n hG dX3_find_149 rfl ?_
                  refine lg_imul hG dX3_find_150 (mk12 _) ?_
                  refine lg_aload_n hG dX3_find_151 rfl ?_
                  refine mg_get hG hF dX3_find_152 rfl rfl ?_
                  refine lg_iload_n hG dX3_find_155 rfl ?_
                  refine mg_ld hG hF dX3_find_156 (by decide) rfl (show _ < 4 from hc) (by decide) ?_
                  rw [hfj 14 (by omega), h14]
                  refine lg_iadd hG dX3_find_157 (nI_add _ _) ?_
                  refine lg_iconst hG dX3_find_158 (x := 1) (by decide) ?_
                  refine lg_isub hG dX3_find_159 (show nI (12 * c + (tl.length + 1)) - 1 = nI (12 * c + tl.length) from pk_sub (a := 12 * c + (tl.length + 1)) (b := 1) (by omega)) ?_
                  refine lg_iload_n hG dX3_find_160 rfl ?_
                  refine mg_st hG hF dX3_find_161 (by decide) rfl (show _ < 48 by omega) (by decide) (fun L hF => ?_)
                  have hM : MS ids n (lkS (Q', R', g) c q tl).1 (lkS (Q', R', g) c q tl).2.1 g t L0 L := ⟨_, hF, hV.rot hc hl (fun j h13 => (va_up_ne _ _ h13).trans (hfj j h13)) (by rw [va_up_self, f13, Nat.add_sub_cancel])⟩
                  refine lg_goto hG dX3_find_162 (tgt := 29) (by decide) (by decide) ?_
                  obtain ⟨p2, g1, g2, g3⟩ := FP_step (σ := (Q', R', g)) hl (by rw [← hl]; exact (hI.2.1 c hc).1) b2 hk1 hF1
                  have hme : lkx ((lkS (Q', R', g) c q tl).1 z) * ((lkS (Q', R', g) c q tl).2.1 c).length + p2 < m := by
                    have h8 : ((lkS (Q', R', g) c q tl).2.1 c).length = tl.length + 1 := by
                      show (va_up R' c (tl ++ [q]) c).length = _
                      rw [va_up_self, List.length_append]; rfl
                    rw [h8]
                    have g2 : lkx ((lkS (Q', R', g) c q tl).1 z) * (tl.length + 1) + p2 + 1 = lkx (Q' z) * (tl.length + 1) + p' := g2
                    omega
                  exact ih _ _ L p2 hM (INV_lk hI hc hl hk1) g1 hme (g3.trans hbf) _ _
                · skip
                  have hkl : k < tl.length + 1 := (nI_ltI (by omega) (by omega)).mp h_110
                  refine lg_aload_n hG dX3_find_113 rfl ?_
                  refine mg_get hG hF dX3_find_114 rfl rfl ?_
                  refine lg_bipush hG dX3_find_117 (x := (12)) (by decide) ?_
                  refine lg_iload_n hG dX3_find_119 rfl ?_
                  refine lg_imul hG dX3_find_120 (mk12 _) ?_
                  refine lg_iload_n hG dX3_find_121 rfl ?_
                  refine lg_iadd hG dX3_find_122 (nI_add _ _) ?_
                  refine lg_iconst hG dX3_find_123 (x := 1) (by decide) ?_
                  refine lg_isub hG dX3_find_124 (show nI (12 * c + k) - 1 = nI (12 * c + k - 1) from pk_sub (a := 12 * c + k) (b := 1) (by omega)) ?_
                  refine lg_aload_n hG dX3_find_125 rfl ?_
                  refine mg_get hG hF dX3_find_126 rfl rfl ?_
                  refine lg_bipush hG dX3_find_129 (x := (12)) (by decide) ?_
                  refine lg_iload_n hG dX3_find_131 rfl ?_
                  refine lg_imul hG dX3_find_132 (mk12 _) ?_
                  refine lg_iload_n hG dX3_find_133 rfl ?_
                  refine lg_iadd hG dX3_find_134 (nI_add _ _) ?_
                  refine mg_ld hG hF dX3_find_135 (by decide) rfl (show _ < 48 by omega) (by decide) ?_
                  rw [f13, pk_cpy_out (by omega)]
                  refine mg_st hG hF dX3_find_136 (by decide) rfl (show _ < 48 by omega) (by decide) (fun L hF => ?_)
                  refine lg_iinc hG dX3_find_137 (Nat.le_of_ble_eq_true rfl) rfl rfl rfl ?_
                  refine lg_goto hG dX3_find_140 (tgt := 103) (by decide) (by decide) ?_
                  rw [show nI k + Int32.ofInt 1 = nI (k + 1) from nI_1 k]
                  refine ih2 (k + 1) _ L (by omega) (by omega) (by omega) hF (fun j h13 => (va_up_ne _ _ h13).trans (hfj j h13)) ?_
                  rw [va_up_self, f13]
                  have h9 := cpy_step (F 13) (12 * c) (k - 1)
                  rw [show 12 * c + (k - 1) + 1 = 12 * c + k by omega, show 12 * c + (k - 1) = 12 * c + k - 1 by omega] at h9
                  rw [h9, show k - 1 + 1 = k + 1 - 1 by omega]
            exact loop2 (tl.length + 2) 1 F L (by omega) (by omega) (by omega) hF (fun _ _ => rfl) (by funext i; rw [pk_cpy_out (by omega)])
          · skip
            have hk0 : lkx (Q' q) = 0 := (lkx_zero hy b2).mp ((nI_leI (by omega) (by omega)).mp h_89)
            obtain ⟨rfl, hb0⟩ := bf_zero (σ := (Q', R', g)) hF1 hl hk0
            rw [hbf] at hb0
            refine lg_iload_n hG dX3_find_92 rfl ?_
            refine lg_iret hG dX3_find_93 (Nat.le_of_ble_eq_true rfl) (Nat.le_of_ble_eq_true rfl) ?_
            refine ⟨trivial, hp c p z hF0 L ?_⟩
            unfold fnS
            rw [hb0]
            exact hM
        refine lg_aload_n hG dX3_find_29 rfl ?_
        refine ms_get hG hM dX3_find_30 rfl rfl ?_
        refine lg_bipush hG dX3_find_33 (x := (12)) (by decide) ?_
        refine lg_iload_n hG dX3_find_35 rfl ?_
        refine lg_imul hG dX3_find_36 (mk12 _) ?_
        refine ms_ldR (i := 0) hG hM dX3_find_37 rfl hc hl rfl ?_
        refine lg_istore_n hG dX3_find_38 (Nat.le_of_ble_eq_true rfl) rfl ?_
        refine lg_aload_n hG dX3_find_39 rfl ?_
        refine ms_get hG hM dX3_find_40 rfl rfl ?_
        refine lg_iload_n hG dX3_find_43 rfl ?_
        refine ms_bld hG hM dX3_find_44 rfl hq12 rfl ?_
        refine lg_if_ne hG dX3_find_45 (tgt := 74) (by decide) (by decide) (fun h_45 => ?_) (fun h_45 => ?_)
        · skip
          have ht : qt (Q' q) = true := bI_1 h_45
          have htk : tkt (Q' q) = Q' q := by unfold tkt; rw [if_pos ht]
          refine tail L ?_
          rw [htk, va_up_id rfl]
          exact hM --END
        · skip
          have ht : qt (Q' q) = false := bI_0 h_45
          refine lg_aload_n hG dX3_find_48 rfl ?_
          refine ms_get hG hM dX3_find_49 rfl rfl ?_
          refine lg_iload_n hG dX3_find_52 rfl ?_
          refine lg_iconst hG dX3_find_53 (x := 1) (by decide) ?_
          refine ms_bst hG hM dX3_find_54 rfl (by first | exact Or.inl rfl | exact Or.inr rfl) hq12 rfl (x' := sT (Q' q) true) rfl rfl (fun L hM => ?_)
          try rw [bx_uu] at hM
          refine lg_aload_n hG dX3_find_55 rfl ?_
          refine ms_get hG hM dX3_find_56 rfl rfl ?_
          refine lg_iload_n hG dX3_find_59 rfl ?_
          refine lg_aload_n hG dX3_find_60 rfl ?_
          refine ms_get hG hM dX3_find_61 rfl rfl ?_
          refine lg_iload_n hG dX3_find_64 rfl ?_
          refine ms_ld hG hM dX3_find_65 (by decide) rfl rfl hq12 (va_up_self _ _ _) rfl ?_
          refine lg_aload_n hG dX3_find_66 rfl ?_
          refine ms_get hG hM dX3_find_67 rfl rfl ?_
          refine lg_iload_n hG dX3_find_70 rfl ?_
          refine ms_ld hG hM dX3_find_71 (by decide) rfl rfl hq12 (va_up_self _ _ _) rfl ?_
          refine lg_iadd hG dX3_find_72 (nI_add _ _) ?_
          refine ms_st hG hM dX3_find_73 (by decide) rfl rfl hq12 (va_up_self _ _ _) (x' := sD (sT (Q' q) true) (qd (Q' q) + qu (Q' q))) (fun _ _ h => h) rfl (fun L hM => ?_)
          try rw [bx_uu] at hM
          refine tail L ?_
          have htk : tkt (Q' q) = sD (sT (Q' q) true) (qd (Q' q) + qu (Q' q)) := by unfold tkt; rw [if_neg (by rw [ht]; decide)]; rfl
          rw [htk]
          exact hM
    have loop : ∀ (m k : Nat), k ≤ c → c - k < m → ∀ v2 v3, G 2 [some (.ref 47), some (.int (nI k)), v2, v3] [] n L 0 0 := by
      intro m
      induction m with
      | zero => intro k h1 h2; omega
      | succ m ih =>
        intro k hk hkm v2 v3
        refine lg_iload_n hG dX3_find_2 rfl ?_
        refine lg_iconst hG dX3_find_3 (x := 4) (by decide) ?_
        refine lg_icmp_ge hG dX3_find_4 (tgt := 22) (by decide) (by decide) (fun h_4 => ?_) (fun h_4 => ?_)
        · skip
          exact absurd (nI_lt (b := 4) (by omega) (by decide)) h_4 --END
        · skip
          refine lg_aload_n hG dX3_find_7 rfl ?_
          refine ms_get hG hM dX3_find_8 rfl rfl ?_
          refine lg_iload_n hG dX3_find_11 rfl ?_
          refine ms_ldL hG hM dX3_find_12 rfl (by omega) rfl ?_
          refine lg_if_ne hG dX3_find_13 (tgt := 22) (by decide) (by decide) (fun h_13 => ?_) (fun h_13 => ?_)
          · skip
            have hkc : k = c := by
              rcases Nat.lt_or_ge k c with h | h
              · exact absurd (by rw [hcd k h]; rfl) h_13
              · omega
            subst hkc
            refine lg_iload_n hG dX3_find_22 rfl ?_
            refine lg_iconst hG dX3_find_23 (x := 4) (by decide) ?_
            refine lg_icmp_ne hG dX3_find_24 (tgt := 29) (by decide) (by decide) (fun h_24 => ?_) (fun h_24 => ?_)
            · skip
              exact main _ Q R L p hM hI hF0 (Nat.lt_succ_self _) rfl _ _
            · skip
              exact absurd h_24 (fun h => by have := (nI_eq (b := 4) (by omega) (by decide)).mp h; omega) --END
          · skip
            have hkc : k < c := by
              have h9 : (R k).length = 0 := (nI_eq (b := 0) (by have := (hM.ring (show k < 4 by omega)).1; omega) (by decide)).mp h_13
              rcases Nat.lt_or_ge k c with h | h
              · exact h
              · have : k = c := by omega
                subst this
                omega
            refine lg_iinc hG dX3_find_16 (Nat.le_of_ble_eq_true rfl) rfl rfl rfl ?_
            refine lg_goto hG dX3_find_19 (tgt := 2) (by decide) (by decide) ?_
            rw [show nI k + Int32.ofInt 1 = nI (k + 1) from nI_1 k]
            exact ih (k + 1) (by omega) (by omega) _ _
    refine lg_iconst hG dX3_find_0 (x := 0) (by decide) ?_
    refine lg_istore_n hG dX3_find_1 (Nat.le_of_ble_eq_true rfl) rfl ?_
    exact loop (c + 1) 0 (by omega) (by omega) _ _

set_option maxRecDepth 100000 in
theorem lc_0 : lm_cls 0 RX0 TX0 15 := ⟨rfl, fun w hw => List.mem_filter.mpr ⟨zl_X00 w hw, (by decide +kernel : ∀ w ∈ wsX00, goodWord w = true) w hw⟩, ⟨tyX0, tyX0_ok⟩, nmX0⟩
set_option maxRecDepth 100000 in
theorem lc_1 : lm_cls 1 RX1 TX1 2 := ⟨rfl, fun w hw => List.mem_filter.mpr ⟨zl_X10 w hw, (by decide +kernel : ∀ w ∈ wsX10, goodWord w = true) w hw⟩, ⟨tyX1, tyX1_ok⟩, nmX1⟩
set_option maxRecDepth 100000 in
theorem lc_2 : lm_cls 2 RX2 TX2 7 := ⟨rfl, fun w hw => List.mem_filter.mpr ⟨zl_X20 w hw, (by decide +kernel : ∀ w ∈ wsX20, goodWord w = true) w hw⟩, ⟨tyX2, tyX2_ok⟩, nmX2⟩
set_option maxRecDepth 100000 in
theorem lc_3 : lm_cls 3 RX3 TX3 22 := ⟨rfl, fun w hw => List.mem_filter.mpr ⟨zl_X30 w hw, (by decide +kernel : ∀ w ∈ wsX30, goodWord w = true) w hw⟩, ⟨tyX3, tyX3_ok⟩, nmX3⟩
def lf_0 : Nat → Option (Nat × Nat × Nat) := fun j => match j with
  | 9 => some (0, 0, 2)
  | 15 => some (0, 1, 2)
  | 18 => some (0, 6, 0)
  | 22 => some (0, 7, 0)
  | 25 => some (0, 3, 0)
  | 28 => some (0, 8, 0)
  | 35 => some (0, 2, 0)
  | 38 => some (0, 4, 0)
  | 48 => some (0, 10, 1)
  | 52 => some (0, 9, 0)
  | _ => none
set_option maxRecDepth 100000 in
theorem lf_0_ok (ini : Bool) : lm_fok RX0 lf_0 ini := by
  intro D tys B args s hts hcx j f hf
  unfold lf_0 at hf
  split at hf
  · cases hf; exact ⟨_, _, _, lc_0, by decide, Or.inl (hts _ (lm_wt 59 rfl rfl)), ⟨rfl, fun _ => rfl, .int, by decide +kernel⟩⟩
  · cases hf; exact ⟨_, _, _, lc_0, by decide, Or.inl (hts _ (lm_wt 60 rfl rfl)), ⟨rfl, fun _ => rfl, .int, by decide +kernel⟩⟩
  · cases hf; exact ⟨_, _, _, lc_0, by decide, Or.inl (hts _ (lm_wt 67 rfl rfl)), ⟨rfl, by decide +kernel⟩⟩
  · cases hf; exact ⟨_, _, _, lc_0, by decide, Or.inl (hts _ (lm_wt 69 rfl rfl)), ⟨rfl, by decide +kernel⟩⟩
  · cases hf; exact ⟨_, _, _, lc_0, by decide, Or.inl (hts _ (lm_wt 62 rfl rfl)), ⟨rfl, by decide +kernel⟩⟩
  · cases hf; exact ⟨_, _, _, lc_0, by decide, Or.inl (hts _ (lm_wt 71 rfl rfl)), ⟨rfl, by decide +kernel⟩⟩
  · cases hf; exact ⟨_, _, _, lc_0, by decide, Or.inl (hts _ (lm_wt 61 rfl rfl)), ⟨rfl, by decide +kernel⟩⟩
  · cases hf; exact ⟨_, _, _, lc_0, by decide, Or.inl (hts _ (lm_wt 64 rfl rfl)), ⟨rfl, by decide +kernel⟩⟩
  · cases hf; exact ⟨_, _, _, lc_0, by decide, Or.inl (hts _ (lm_wt 75 rfl rfl)), ⟨rfl, by decide +kernel⟩⟩
  · cases hf; exact ⟨_, _, _, lc_0, by decide, Or.inl (hts _ (lm_wt 73 rfl rfl)), ⟨rfl, by decide +kernel⟩⟩
  · cases hf
def lf_1 : Nat → Option (Nat × Nat × Nat) := fun j => match j with
  | 9 => some (1, 0, 2)
  | 15 => some (1, 1, 0)
  | _ => none
set_option maxRecDepth 100000 in
theorem lf_1_ok (ini : Bool) : lm_fok RX1 lf_1 ini := by
  intro D tys B args s hts hcx j f hf
  unfold lf_1 at hf
  split at hf
  · cases hf; exact ⟨_, _, _, lc_1, by decide, Or.inl (hts _ (lm_wt 118 rfl rfl)), ⟨rfl, fun _ => rfl, .int, by decide +kernel⟩⟩
  · cases hf; exact ⟨_, _, _, lc_1, by decide, Or.inl (hts _ (lm_wt 119 rfl rfl)), ⟨rfl, by decide +kernel⟩⟩
  · cases hf
def lf_2 : Nat → Option (Nat × Nat × Nat) := fun j => match j with
  | 11 => some (2, 0, 2)
  | 17 => some (2, 1, 2)
  | 35 => some (0, 8, 0)
  | 39 => some (0, 7, 0)
  | 42 => some (0, 6, 0)
  | 45 => some (0, 5, 0)
  | 52 => some (0, 3, 0)
  | 55 => some (2, 5, 0)
  | 72 => some (2, 6, 0)
  | 98 => some (2, 2, 0)
  | 118 => some (0, 9, 0)
  | 121 => some (0, 10, 1)
  | 128 => some (0, 11, 0)
  | 131 => some (0, 12, 0)
  | 134 => some (0, 13, 0)
  | 137 => some (0, 14, 0)
  | 140 => some (0, 4, 0)
  | 167 => some (2, 3, 0)
  | 170 => some (2, 4, 0)
  | 196 => some (1, 1, 0)
  | _ => none
set_option maxRecDepth 100000 in
theorem lf_2_ok (ini : Bool) : lm_fok RX2 lf_2 ini := by
  intro D tys B args s hts hcx j f hf
  unfold lf_2 at hf
  split at hf
  · cases hf; exact ⟨_, _, _, lc_2, by decide, Or.inl (hts _ (lm_wt 126 rfl rfl)), ⟨rfl, fun _ => rfl, .object "SharedQueues$Queue", by decide +kernel⟩⟩
  · cases hf; exact ⟨_, _, _, lc_2, by decide, Or.inl (hts _ (lm_wt 127 rfl rfl)), ⟨rfl, fun _ => rfl, .object "SharedQueues$Ring", by decide +kernel⟩⟩
  · cases hf; exact ⟨_, _, _, lc_0, by decide, Or.inr ⟨RX2, va_Nw.use rfl (hcx.2.1 (.fieldLinkNest RX2 35 RX0 "kept" "I" RX2) (by decide)), by decide⟩, ⟨rfl, by decide +kernel⟩⟩
  · cases hf; exact ⟨_, _, _, lc_0, by decide, Or.inr ⟨RX2, va_Nw.use rfl (hcx.2.1 (.fieldLinkNest RX2 39 RX0 "quota" "I" RX2) (by decide)), by decide⟩, ⟨rfl, by decide +kernel⟩⟩
  · cases hf; exact ⟨_, _, _, lc_0, by decide, Or.inr ⟨RX2, va_Nw.use rfl (hcx.2.1 (.fieldLinkNest RX2 42 RX0 "quantum" "I" RX2) (by decide)), by decide⟩, ⟨rfl, by decide +kernel⟩⟩
  · cases hf; exact ⟨_, _, _, lc_0, by decide, Or.inr ⟨RX2, va_Nw.use rfl (hcx.2.1 (.fieldLinkNest RX2 45 RX0 "kind" "I" RX2) (by decide)), by decide⟩, ⟨rfl, by decide +kernel⟩⟩
  · cases hf; exact ⟨_, _, _, lc_0, by decide, Or.inr ⟨RX2, va_Nw.use rfl (hcx.2.1 (.fieldLinkNest RX2 52 RX0 "count" "I" RX2) (by decide)), by decide⟩, ⟨rfl, by decide +kernel⟩⟩
  · cases hf; exact ⟨_, _, _, lc_2, by decide, Or.inl (hts _ (lm_wt 131 rfl rfl)), ⟨rfl, by decide +kernel⟩⟩
  · cases hf; exact ⟨_, _, _, lc_2, by decide, Or.inl (hts _ (lm_wt 132 rfl rfl)), ⟨rfl, by decide +kernel⟩⟩
  · cases hf; exact ⟨_, _, _, lc_2, by decide, Or.inl (hts _ (lm_wt 128 rfl rfl)), ⟨rfl, by decide +kernel⟩⟩
  · cases hf; exact ⟨_, _, _, lc_0, by decide, Or.inr ⟨RX2, va_Nw.use rfl (hcx.2.1 (.fieldLinkNest RX2 118 RX0 "deficit" "I" RX2) (by decide)), by decide⟩, ⟨rfl, by decide +kernel⟩⟩
  · cases hf; exact ⟨_, _, _, lc_0, by decide, Or.inr ⟨RX2, va_Nw.use rfl (hcx.2.1 (.fieldLinkNest RX2 121 RX0 "hasTurn" "Z" RX2) (by decide)), by decide⟩, ⟨rfl, by decide +kernel⟩⟩
  · cases hf; exact ⟨_, _, _, lc_0, by decide, Or.inr ⟨RX2, va_Nw.use rfl (hcx.2.1 (.fieldLinkNest RX2 128 RX0 "pushed" "I" RX2) (by decide)), by decide⟩, ⟨rfl, by decide +kernel⟩⟩
  · cases hf; exact ⟨_, _, _, lc_0, by decide, Or.inr ⟨RX2, va_Nw.use rfl (hcx.2.1 (.fieldLinkNest RX2 131 RX0 "lost" "I" RX2) (by decide)), by decide⟩, ⟨rfl, by decide +kernel⟩⟩
  · cases hf; exact ⟨_, _, _, lc_0, by decide, Or.inr ⟨RX2, va_Nw.use rfl (hcx.2.1 (.fieldLinkNest RX2 134 RX0 "served" "I" RX2) (by decide)), by decide⟩, ⟨rfl, by decide +kernel⟩⟩
  · cases hf; exact ⟨_, _, _, lc_0, by decide, Or.inr ⟨RX2, va_Nw.use rfl (hcx.2.1 (.fieldLinkNest RX2 137 RX0 "servedCosts" "I" RX2) (by decide)), by decide⟩, ⟨rfl, by decide +kernel⟩⟩
  · cases hf; exact ⟨_, _, _, lc_0, by decide, Or.inr ⟨RX2, va_Nw.use rfl (hcx.2.1 (.fieldLinkNest RX2 140 RX0 "costs" "I" RX2) (by decide)), by decide⟩, ⟨rfl, by decide +kernel⟩⟩
  · cases hf; exact ⟨_, _, _, lc_2, by decide, Or.inl (hts _ (lm_wt 129 rfl rfl)), ⟨rfl, by decide +kernel⟩⟩
  · cases hf; exact ⟨_, _, _, lc_2, by decide, Or.inl (hts _ (lm_wt 130 rfl rfl)), ⟨rfl, by decide +kernel⟩⟩
  · cases hf; exact ⟨_, _, _, lc_1, by decide, Or.inr ⟨RX2, va_Nw.use rfl (hcx.2.1 (.fieldLinkNest RX2 196 RX1 "size" "I" RX2) (by decide)), by decide⟩, ⟨rfl, by decide +kernel⟩⟩
  · cases hf
def lf_3 : Nat → Option (Nat × Nat × Nat) := fun j => match j with
  | 7 => some (3, 1, 2)
  | 13 => some (3, 2, 2)
  | 16 => some (3, 3, 2)
  | 19 => some (3, 4, 2)
  | 22 => some (3, 5, 2)
  | 25 => some (3, 6, 2)
  | 28 => some (3, 7, 2)
  | 32 => some (3, 8, 2)
  | 35 => some (3, 9, 2)
  | 38 => some (3, 10, 2)
  | 41 => some (3, 11, 2)
  | 44 => some (3, 12, 2)
  | 47 => some (3, 13, 2)
  | 50 => some (3, 14, 2)
  | 53 => some (3, 15, 2)
  | 56 => some (3, 19, 2)
  | 59 => some (3, 20, 2)
  | 62 => some (3, 21, 2)
  | 65 => some (3, 0, 0)
  | 94 => some (3, 17, 0)
  | 103 => some (3, 18, 0)
  | 109 => some (3, 16, 0)
  | _ => none
set_option maxRecDepth 100000 in
theorem lf_3_ok (ini : Bool) : lm_fok RX3 lf_3 ini := by
  intro D tys B args s hts hcx j f hf
  unfold lf_3 at hf
  split at hf
  · cases hf; exact ⟨_, _, _, lc_3, by decide, Or.inl (hts _ (lm_wt 454 rfl rfl)), ⟨rfl, fun _ => rfl, .int, by decide +kernel⟩⟩
  · cases hf; exact ⟨_, _, _, lc_3, by decide, Or.inl (hts _ (lm_wt 455 rfl rfl)), ⟨rfl, fun _ => rfl, .int, by decide +kernel⟩⟩
  · cases hf; exact ⟨_, _, _, lc_3, by decide, Or.inl (hts _ (lm_wt 456 rfl rfl)), ⟨rfl, fun _ => rfl, .int, by decide +kernel⟩⟩
  · cases hf; exact ⟨_, _, _, lc_3, by decide, Or.inl (hts _ (lm_wt 457 rfl rfl)), ⟨rfl, fun _ => rfl, .int, by decide +kernel⟩⟩
  · cases hf; exact ⟨_, _, _, lc_3, by decide, Or.inl (hts _ (lm_wt 458 rfl rfl)), ⟨rfl, fun _ => rfl, .int, by decide +kernel⟩⟩
  · cases hf; exact ⟨_, _, _, lc_3, by decide, Or.inl (hts _ (lm_wt 459 rfl rfl)), ⟨rfl, fun _ => rfl, .int, by decide +kernel⟩⟩
  · cases hf; exact ⟨_, _, _, lc_3, by decide, Or.inl (hts _ (lm_wt 460 rfl rfl)), ⟨rfl, fun _ => rfl, .boolean, by decide +kernel⟩⟩
  · cases hf; exact ⟨_, _, _, lc_3, by decide, Or.inl (hts _ (lm_wt 461 rfl rfl)), ⟨rfl, fun _ => rfl, .int, by decide +kernel⟩⟩
  · cases hf; exact ⟨_, _, _, lc_3, by decide, Or.inl (hts _ (lm_wt 462 rfl rfl)), ⟨rfl, fun _ => rfl, .int, by decide +kernel⟩⟩
  · cases hf; exact ⟨_, _, _, lc_3, by decide, Or.inl (hts _ (lm_wt 463 rfl rfl)), ⟨rfl, fun _ => rfl, .int, by decide +kernel⟩⟩
  · cases hf; exact ⟨_, _, _, lc_3, by decide, Or.inl (hts _ (lm_wt 464 rfl rfl)), ⟨rfl, fun _ => rfl, .int, by decide +kernel⟩⟩
  · cases hf; exact ⟨_, _, _, lc_3, by decide, Or.inl (hts _ (lm_wt 465 rfl rfl)), ⟨rfl, fun _ => rfl, .int, by decide +kernel⟩⟩
  · cases hf; exact ⟨_, _, _, lc_3, by decide, Or.inl (hts _ (lm_wt 466 rfl rfl)), ⟨rfl, fun _ => rfl, .int, by decide +kernel⟩⟩
  · cases hf; exact ⟨_, _, _, lc_3, by decide, Or.inl (hts _ (lm_wt 467 rfl rfl)), ⟨rfl, fun _ => rfl, .int, by decide +kernel⟩⟩
  · cases hf; exact ⟨_, _, _, lc_3, by decide, Or.inl (hts _ (lm_wt 468 rfl rfl)), ⟨rfl, fun _ => rfl, .int, by decide +kernel⟩⟩
  · cases hf; exact ⟨_, _, _, lc_3, by decide, Or.inl (hts _ (lm_wt 472 rfl rfl)), ⟨rfl, fun _ => rfl, .int, by decide +kernel⟩⟩
  · cases hf; exact ⟨_, _, _, lc_3, by decide, Or.inl (hts _ (lm_wt 473 rfl rfl)), ⟨rfl, fun _ => rfl, .boolean, by decide +kernel⟩⟩
  · cases hf; exact ⟨_, _, _, lc_3, by decide, Or.inl (hts _ (lm_wt 474 rfl rfl)), ⟨rfl, fun _ => rfl, .int, by decide +kernel⟩⟩
  · cases hf; exact ⟨_, _, _, lc_3, by decide, Or.inl (hts _ (lm_wt 453 rfl rfl)), ⟨rfl, by decide +kernel⟩⟩
  · cases hf; exact ⟨_, _, _, lc_3, by decide, Or.inl (hts _ (lm_wt 470 rfl rfl)), ⟨rfl, by decide +kernel⟩⟩
  · cases hf; exact ⟨_, _, _, lc_3, by decide, Or.inl (hts _ (lm_wt 471 rfl rfl)), ⟨rfl, by decide +kernel⟩⟩
  · cases hf; exact ⟨_, _, _, lc_3, by decide, Or.inl (hts _ (lm_wt 469 rfl rfl)), ⟨rfl, by decide +kernel⟩⟩
  · cases hf
set_option maxRecDepth 100000 in
theorem lw_0_cellOf : lm_yV RX0 yX0_cellOf cX0_cellOf 2 (some .int) := ⟨lm_wt 214 rfl rfl, lm_wt 4 rfl rfl, lm_wt 32 rfl rfl, lm_wt 215 rfl rfl⟩
set_option maxRecDepth 100000 in
theorem lw_0_costAt : lm_yV RX0 yX0_costAt cX0_costAt 2 (some .int) := ⟨lm_wt 382 rfl rfl, lm_wt 383 rfl rfl, lm_wt 32 rfl rfl, lm_wt 384 rfl rfl⟩
set_option maxRecDepth 100000 in
theorem lw_0_dropAll : lm_yV RX0 yX0_dropAll cX0_dropAll 1 none := ⟨lm_wt 403 rfl rfl, lm_wt 404 rfl rfl, lm_wt 32 rfl rfl, lm_wt 405 rfl rfl⟩
set_option maxRecDepth 100000 in
theorem lw_0_dropFirst : lm_yV RX0 yX0_dropFirst cX0_dropFirst 1 none := ⟨lm_wt 220 rfl rfl, lm_wt 221 rfl rfl, lm_wt 32 rfl rfl, lm_wt 222 rfl rfl⟩
set_option maxRecDepth 100000 in
theorem lw_0_dropLast : lm_yV RX0 yX0_dropLast cX0_dropLast 1 none := ⟨lm_wt 378 rfl rfl, lm_wt 379 rfl rfl, lm_wt 32 rfl rfl, lm_wt 380 rfl rfl⟩
set_option maxRecDepth 100000 in
theorem lw_0_excess : lm_yV RX0 yX0_excess cX0_excess 1 (some .int) := ⟨lm_wt 351 rfl rfl, lm_wt 352 rfl rfl, lm_wt 32 rfl rfl, lm_wt 353 rfl rfl⟩
set_option maxRecDepth 100000 in
theorem lw_0_firstCost : lm_yV RX0 yX0_firstCost cX0_firstCost 1 (some .int) := ⟨lm_wt 169 rfl rfl, lm_wt 170 rfl rfl, lm_wt 32 rfl rfl, lm_wt 171 rfl rfl⟩
set_option maxRecDepth 100000 in
theorem lw_0_lookInVain : lm_yV RX0 yX0_lookInVain cX0_lookInVain 3 none := ⟨lm_wt 177 rfl rfl, lm_wt 178 rfl rfl, lm_wt 32 rfl rfl, lm_wt 179 rfl rfl⟩
set_option maxRecDepth 100000 in
theorem lw_0_looksInVain : lm_yV RX0 yX0_looksInVain cX0_looksInVain 3 (some .int) := ⟨lm_wt 165 rfl rfl, lm_wt 166 rfl rfl, lm_wt 32 rfl rfl, lm_wt 167 rfl rfl⟩
set_option maxRecDepth 100000 in
theorem lw_0_putLast : lm_yV RX0 yX0_putLast cX0_putLast 4 none := ⟨lm_wt 366 rfl rfl, lm_wt 367 rfl rfl, lm_wt 32 rfl rfl, lm_wt 368 rfl rfl⟩
set_option maxRecDepth 100000 in
theorem lw_0_takeTurn : lm_yV RX0 yX0_takeTurn cX0_takeTurn 1 none := ⟨lm_wt 204 rfl rfl, lm_wt 205 rfl rfl, lm_wt 32 rfl rfl, lm_wt 206 rfl rfl⟩
set_option maxRecDepth 100000 in
theorem lw_0_wordAt : lm_yV RX0 yX0_wordAt cX0_wordAt 2 (some .int) := ⟨lm_wt 209 rfl rfl, lm_wt 210 rfl rfl, lm_wt 32 rfl rfl, lm_wt 211 rfl rfl⟩
set_option maxRecDepth 100000 in
theorem lw_1_placeOf : lm_yV RX1 yX1_placeOf cX1_placeOf 3 (some .int) := ⟨lm_wt 189 rfl rfl, lm_wt 190 rfl rfl, lm_wt 33 rfl rfl, lm_wt 191 rfl rfl⟩
set_option maxRecDepth 100000 in
theorem lw_1_putAtEnd : lm_yV RX1 yX1_putAtEnd cX1_putAtEnd 2 none := ⟨lm_wt 196 rfl rfl, lm_wt 197 rfl rfl, lm_wt 33 rfl rfl, lm_wt 198 rfl rfl⟩
set_option maxRecDepth 100000 in
theorem lw_1_queueAt : lm_yV RX1 yX1_queueAt cX1_queueAt 2 (some .int) := ⟨lm_wt 161 rfl rfl, lm_wt 162 rfl rfl, lm_wt 33 rfl rfl, lm_wt 163 rfl rfl⟩
set_option maxRecDepth 100000 in
theorem lw_1_takeOut : lm_yV RX1 yX1_takeOut cX1_takeOut 3 none := ⟨lm_wt 185 rfl rfl, lm_wt 186 rfl rfl, lm_wt 33 rfl rfl, lm_wt 187 rfl rfl⟩
set_option maxRecDepth 100000 in
theorem lw_1_turnBy : lm_yV RX1 yX1_turnBy cX1_turnBy 4 none := ⟨lm_wt 181 rfl rfl, lm_wt 182 rfl rfl, lm_wt 33 rfl rfl, lm_wt 183 rfl rfl⟩
set_option maxRecDepth 100000 in
theorem lw_2_addItem : lm_yV RX2 yX2_addItem cX2_addItem 5 none := ⟨lm_wt 363 rfl rfl, lm_wt 13 rfl rfl, lm_wt 31 rfl rfl, lm_wt 364 rfl rfl⟩
set_option maxRecDepth 100000 in
theorem lw_2_all : lm_yV RX2 yX2_all cX2_all 2 (some .int) := ⟨lm_wt 444 rfl rfl, lm_wt 445 rfl rfl, lm_wt 31 rfl rfl, lm_wt 446 rfl rfl⟩
set_option maxRecDepth 100000 in
theorem lw_2_bringToFront : lm_yV RX2 yX2_bringToFront cX2_bringToFront 5 none := ⟨lm_wt 174 rfl rfl, lm_wt 2 rfl rfl, lm_wt 31 rfl rfl, lm_wt 175 rfl rfl⟩
set_option maxRecDepth 100000 in
theorem lw_2_changeClass : lm_yV RX2 yX2_changeClass cX2_changeClass 4 none := ⟨lm_wt 332 rfl rfl, lm_wt 9 rfl rfl, lm_wt 31 rfl rfl, lm_wt 333 rfl rfl⟩
set_option maxRecDepth 100000 in
theorem lw_2_checkRange : lm_yS yX2_checkRange cX2_checkRange 3 none := ⟨lm_wt 316 rfl rfl, lm_wt 31 rfl rfl, lm_wt 317 rfl rfl⟩
set_option maxRecDepth 100000 in
theorem lw_2_empty : lm_yV RX2 yX2_empty cX2_empty 4 (some .int) := ⟨lm_wt 399 rfl rfl, lm_wt 400 rfl rfl, lm_wt 31 rfl rfl, lm_wt 401 rfl rfl⟩
set_option maxRecDepth 100000 in
theorem lw_2_firstRingWithQueues : lm_yV RX2 yX2_firstRingWithQueues cX2_firstRingWithQueues 5 (some (.object "SharedQueues$Ring")) := ⟨lm_wt 154 rfl rfl, lm_wt 0 rfl rfl, lm_wt 31 rfl rfl, lm_wt 155 rfl rfl⟩
set_option maxRecDepth 100000 in
theorem lw_2_freeCells : lm_yV RX2 yX2_freeCells cX2_freeCells 6 (some .int) := ⟨lm_wt 348 rfl rfl, lm_wt 11 rfl rfl, lm_wt 31 rfl rfl, lm_wt 349 rfl rfl⟩
set_option maxRecDepth 100000 in
theorem lw_2_hasRoomFor : lm_yV RX2 yX2_hasRoomFor cX2_hasRoomFor 2 (some .boolean) := ⟨lm_wt 344 rfl rfl, lm_wt 10 rfl rfl, lm_wt 31 rfl rfl, lm_wt 345 rfl rfl⟩
set_option maxRecDepth 100000 in
theorem lw_2_item : lm_yV RX2 yX2_item cX2_item 5 (some .int) := ⟨lm_wt 420 rfl rfl, lm_wt 421 rfl rfl, lm_wt 31 rfl rfl, lm_wt 422 rfl rfl⟩
set_option maxRecDepth 100000 in
theorem lw_2_keptCells : lm_yV RX2 yX2_keptCells cX2_keptCells 6 (some .int) := ⟨lm_wt 321 rfl rfl, lm_wt 8 rfl rfl, lm_wt 31 rfl rfl, lm_wt 322 rfl rfl⟩
set_option maxRecDepth 100000 in
theorem lw_2_kind : lm_yV RX2 yX2_kind cX2_kind 5 none := ⟨lm_wt 327 rfl rfl, lm_wt 328 rfl rfl, lm_wt 31 rfl rfl, lm_wt 329 rfl rfl⟩
set_option maxRecDepth 100000 in
theorem lw_2_leaveRing : lm_yV RX2 yX2_leaveRing cX2_leaveRing 3 none := ⟨lm_wt 225 rfl rfl, lm_wt 5 rfl rfl, lm_wt 31 rfl rfl, lm_wt 226 rfl rfl⟩
set_option maxRecDepth 100000 in
theorem lw_2_loseLastItem : lm_yV RX2 yX2_loseLastItem cX2_loseLastItem 3 none := ⟨lm_wt 375 rfl rfl, lm_wt 15 rfl rfl, lm_wt 31 rfl rfl, lm_wt 376 rfl rfl⟩
set_option maxRecDepth 100000 in
theorem lw_2_next : lm_yV RX2 yX2_next cX2_next 2 (some .int) := ⟨lm_wt 229 rfl rfl, lm_wt 230 rfl rfl, lm_wt 31 rfl rfl, lm_wt 231 rfl rfl⟩
set_option maxRecDepth 100000 in
theorem lw_2_openCells : lm_yV RX2 yX2_openCells cX2_openCells 6 (some .int) := ⟨lm_wt 356 rfl rfl, lm_wt 12 rfl rfl, lm_wt 31 rfl rfl, lm_wt 357 rfl rfl⟩
set_option maxRecDepth 100000 in
theorem lw_2_placeServedNext : lm_yV RX2 yX2_placeServedNext cX2_placeServedNext 6 (some .int) := ⟨lm_wt 158 rfl rfl, lm_wt 1 rfl rfl, lm_wt 31 rfl rfl, lm_wt 159 rfl rfl⟩
set_option maxRecDepth 100000 in
theorem lw_2_push : lm_yV RX2 yX2_push cX2_push 6 (some .int) := ⟨lm_wt 339 rfl rfl, lm_wt 340 rfl rfl, lm_wt 31 rfl rfl, lm_wt 341 rfl rfl⟩
set_option maxRecDepth 100000 in
theorem lw_2_queueOf : lm_yV RX2 yX2_queueOf cX2_queueOf 2 (some (.object "SharedQueues$Queue")) := ⟨lm_wt 246 rfl rfl, lm_wt 6 rfl rfl, lm_wt 31 rfl rfl, lm_wt 247 rfl rfl⟩
set_option maxRecDepth 100000 in
theorem lw_2_queueOfGreatestExcess : lm_yV RX2 yX2_queueOfGreatestExcess cX2_queueOfGreatestExcess 3 (some .int) := ⟨lm_wt 371 rfl rfl, lm_wt 14 rfl rfl, lm_wt 31 rfl rfl, lm_wt 372 rfl rfl⟩
set_option maxRecDepth 100000 in
theorem lw_2_quota : lm_yV RX2 yX2_quota cX2_quota 6 (some .int) := ⟨lm_wt 241 rfl rfl, lm_wt 242 rfl rfl, lm_wt 31 rfl rfl, lm_wt 243 rfl rfl⟩
set_option maxRecDepth 100000 in
theorem lw_2_serve : lm_yV RX2 yX2_serve cX2_serve 4 (some .int) := ⟨lm_wt 149 rfl rfl, lm_wt 150 rfl rfl, lm_wt 31 rfl rfl, lm_wt 151 rfl rfl⟩
set_option maxRecDepth 100000 in
theorem lw_2_serveFirstItem : lm_yV RX2 yX2_serveFirstItem cX2_serveFirstItem 4 none := ⟨lm_wt 201 rfl rfl, lm_wt 3 rfl rfl, lm_wt 31 rfl rfl, lm_wt 202 rfl rfl⟩
set_option maxRecDepth 100000 in
theorem lw_2_serveUpTo : lm_yV RX2 yX2_serveUpTo cX2_serveUpTo 6 (some .int) := ⟨lm_wt 389 rfl rfl, lm_wt 390 rfl rfl, lm_wt 31 rfl rfl, lm_wt 391 rfl rfl⟩
set_option maxRecDepth 100000 in
theorem lw_2_told : lm_yV RX2 yX2_told cX2_told 4 (some .int) := ⟨lm_wt 410 rfl rfl, lm_wt 411 rfl rfl, lm_wt 31 rfl rfl, lm_wt 412 rfl rfl⟩
set_option maxRecDepth 100000 in
theorem lw_2_word : lm_yV RX2 yX2_word cX2_word 1 (some .int) := ⟨lm_wt 233 rfl rfl, lm_wt 234 rfl rfl, lm_wt 31 rfl rfl, lm_wt 235 rfl rfl⟩
set_option maxRecDepth 100000 in
theorem lw_3_all : lm_yV RX3 yX3_all cX3_all 4 (some .int) := ⟨lm_wt 626 rfl rfl, lm_wt 627 rfl rfl, lm_wt 34 rfl rfl, lm_wt 628 rfl rfl⟩
set_option maxRecDepth 100000 in
theorem lw_3_costOf : lm_yV RX3 yX3_costOf cX3_costOf 4 (some .int) := ⟨lm_wt 619 rfl rfl, lm_wt 29 rfl rfl, lm_wt 34 rfl rfl, lm_wt 620 rfl rfl⟩
set_option maxRecDepth 100000 in
theorem lw_3_empty : lm_yV RX3 yX3_empty cX3_empty 3 (some .int) := ⟨lm_wt 610 rfl rfl, lm_wt 611 rfl rfl, lm_wt 34 rfl rfl, lm_wt 612 rfl rfl⟩
set_option maxRecDepth 100000 in
theorem lw_3_enter : lm_yV RX3 yX3_enter cX3_enter 3 none := ⟨lm_wt 550 rfl rfl, lm_wt 19 rfl rfl, lm_wt 34 rfl rfl, lm_wt 551 rfl rfl⟩
set_option maxRecDepth 100000 in
theorem lw_3_excess : lm_yV RX3 yX3_excess cX3_excess 2 (some .int) := ⟨lm_wt 562 rfl rfl, lm_wt 21 rfl rfl, lm_wt 34 rfl rfl, lm_wt 563 rfl rfl⟩
set_option maxRecDepth 100000 in
theorem lw_3_find : lm_yV RX3 yX3_find cX3_find 4 (some .int) := ⟨lm_wt 582 rfl rfl, lm_wt 25 rfl rfl, lm_wt 34 rfl rfl, lm_wt 583 rfl rfl⟩
set_option maxRecDepth 100000 in
theorem lw_3_free : lm_yV RX3 yX3_free cX3_free 3 (some .int) := ⟨lm_wt 558 rfl rfl, lm_wt 20 rfl rfl, lm_wt 34 rfl rfl, lm_wt 559 rfl rfl⟩
set_option maxRecDepth 100000 in
theorem lw_3_greediest : lm_yV RX3 yX3_greediest cX3_greediest 3 (some .int) := ⟨lm_wt 570 rfl rfl, lm_wt 23 rfl rfl, lm_wt 34 rfl rfl, lm_wt 571 rfl rfl⟩
set_option maxRecDepth 100000 in
theorem lw_3_item : lm_yV RX3 yX3_item cX3_item 4 (some .int) := ⟨lm_wt 622 rfl rfl, lm_wt 623 rfl rfl, lm_wt 34 rfl rfl, lm_wt 624 rfl rfl⟩
set_option maxRecDepth 100000 in
theorem lw_3_keepTurns : lm_yV RX3 yX3_keepTurns cX3_keepTurns 2 none := ⟨lm_wt 594 rfl rfl, lm_wt 27 rfl rfl, lm_wt 34 rfl rfl, lm_wt 595 rfl rfl⟩
set_option maxRecDepth 100000 in
theorem lw_3_keptInAll : lm_yV RX3 yX3_keptInAll cX3_keptInAll 3 (some .int) := ⟨lm_wt 534 rfl rfl, lm_wt 16 rfl rfl, lm_wt 34 rfl rfl, lm_wt 535 rfl rfl⟩
set_option maxRecDepth 100000 in
theorem lw_3_kind : lm_yV RX3 yX3_kind cX3_kind 4 none := ⟨lm_wt 537 rfl rfl, lm_wt 538 rfl rfl, lm_wt 34 rfl rfl, lm_wt 539 rfl rfl⟩
set_option maxRecDepth 100000 in
theorem lw_3_leave : lm_yV RX3 yX3_leave cX3_leave 5 none := ⟨lm_wt 542 rfl rfl, lm_wt 17 rfl rfl, lm_wt 34 rfl rfl, lm_wt 543 rfl rfl⟩
set_option maxRecDepth 100000 in
theorem lw_3_next : lm_yV RX3 yX3_next cX3_next 2 (some .int) := ⟨lm_wt 589 rfl rfl, lm_wt 590 rfl rfl, lm_wt 34 rfl rfl, lm_wt 591 rfl rfl⟩
set_option maxRecDepth 100000 in
theorem lw_3_noQueue : lm_yS yX3_noQueue cX3_noQueue 1 (some .boolean) := ⟨lm_wt 530 rfl rfl, lm_wt 34 rfl rfl, lm_wt 531 rfl rfl⟩
set_option maxRecDepth 100000 in
theorem lw_3_open : lm_yV RX3 yX3_open cX3_open 3 (some .int) := ⟨lm_wt 566 rfl rfl, lm_wt 22 rfl rfl, lm_wt 34 rfl rfl, lm_wt 567 rfl rfl⟩
set_option maxRecDepth 100000 in
theorem lw_3_placeOf : lm_yV RX3 yX3_placeOf cX3_placeOf 4 (some .int) := ⟨lm_wt 546 rfl rfl, lm_wt 18 rfl rfl, lm_wt 34 rfl rfl, lm_wt 547 rfl rfl⟩
set_option maxRecDepth 100000 in
theorem lw_3_push : lm_yV RX3 yX3_push cX3_push 5 (some .int) := ⟨lm_wt 553 rfl rfl, lm_wt 554 rfl rfl, lm_wt 34 rfl rfl, lm_wt 555 rfl rfl⟩
set_option maxRecDepth 100000 in
theorem lw_3_quota : lm_yV RX3 yX3_quota cX3_quota 4 (some .int) := ⟨lm_wt 526 rfl rfl, lm_wt 527 rfl rfl, lm_wt 34 rfl rfl, lm_wt 528 rfl rfl⟩
set_option maxRecDepth 100000 in
theorem lw_3_serve : lm_yV RX3 yX3_serve cX3_serve 2 (some .int) := ⟨lm_wt 577 rfl rfl, lm_wt 578 rfl rfl, lm_wt 34 rfl rfl, lm_wt 579 rfl rfl⟩
set_option maxRecDepth 100000 in
theorem lw_3_serveUpTo : lm_yV RX3 yX3_serveUpTo cX3_serveUpTo 6 (some .int) := ⟨lm_wt 605 rfl rfl, lm_wt 606 rfl rfl, lm_wt 34 rfl rfl, lm_wt 607 rfl rfl⟩
set_option maxRecDepth 100000 in
theorem lw_3_settle : lm_yV RX3 yX3_settle cX3_settle 2 none := ⟨lm_wt 574 rfl rfl, lm_wt 24 rfl rfl, lm_wt 34 rfl rfl, lm_wt 575 rfl rfl⟩
set_option maxRecDepth 100000 in
theorem lw_3_take : lm_yV RX3 yX3_take cX3_take 4 none := ⟨lm_wt 586 rfl rfl, lm_wt 26 rfl rfl, lm_wt 34 rfl rfl, lm_wt 587 rfl rfl⟩
set_option maxRecDepth 100000 in
theorem lw_3_thrown : lm_yV RX3 yX3_thrown cX3_thrown 1 (some .int) := ⟨lm_wt 522 rfl rfl, lm_wt 523 rfl rfl, lm_wt 34 rfl rfl, lm_wt 524 rfl rfl⟩
set_option maxRecDepth 100000 in
theorem lw_3_told : lm_yV RX3 yX3_told cX3_told 3 (some .int) := ⟨lm_wt 614 rfl rfl, lm_wt 615 rfl rfl, lm_wt 34 rfl rfl, lm_wt 616 rfl rfl⟩
set_option maxRecDepth 100000 in
theorem lw_3_turnBack : lm_yV RX3 yX3_turnBack cX3_turnBack 2 none := ⟨lm_wt 598 rfl rfl, lm_wt 28 rfl rfl, lm_wt 34 rfl rfl, lm_wt 599 rfl rfl⟩
set_option maxRecDepth 100000 in
theorem lw_3_word : lm_yV RX3 yX3_word cX3_word 1 (some .int) := ⟨lm_wt 601 rfl rfl, lm_wt 602 rfl rfl, lm_wt 34 rfl rfl, lm_wt 603 rfl rfl⟩
set_option maxRecDepth 100000 in
theorem lw_9_floorMod : lm_yS yJ9_floorMod_7cf53 cJ9_floorMod_7cf53 3 (some .int) := ⟨lm_wt 217 rfl rfl, lm_wt 40 rfl rfl, lm_wt 218 rfl rfl⟩
set_option maxRecDepth 100000 in
theorem lw_9_min : lm_yS yJ9_min_7cf53 cJ9_min_7cf53 2 (some .int) := ⟨lm_wt 359 rfl rfl, lm_wt 40 rfl rfl, lm_wt 360 rfl rfl⟩
set_option maxRecDepth 100000 in
theorem ll_0_31 : Cond.methodLink RX0 31 yX0_cellOf ∈ lm_WT := lm_wt 212 rfl rfl
set_option maxRecDepth 100000 in
theorem ll_0_41 : Cond.methodLink RX0 41 yX0_firstCost ∈ lm_WT := lm_wt 168 rfl rfl
set_option maxRecDepth 100000 in
theorem ll_0_45 : Cond.methodLink RX0 45 yX0_costAt ∈ lm_WT := lm_wt 381 rfl rfl
set_option maxRecDepth 100000 in
theorem ll_0_55 : Cond.methodLink RX0 55 yJ9_floorMod_7cf53 ∈ lm_WT := lm_wt 216 rfl rfl
set_option maxRecDepth 100000 in
theorem ll_1_19 : Cond.methodLink RX1 19 yX1_placeOf ∈ lm_WT := lm_wt 188 rfl rfl
set_option maxRecDepth 100000 in
theorem ll_1_29 : Cond.methodLink RX1 29 yX1_takeOut ∈ lm_WT := lm_wt 184 rfl rfl
set_option maxRecDepth 100000 in
theorem ll_1_33 : Cond.methodLink RX1 33 yX1_putAtEnd ∈ lm_WT := lm_wt 195 rfl rfl
set_option maxRecDepth 100000 in
theorem ll_2_23 : Cond.methodLink RX2 23 yX2_queueOf ∈ lm_WT := lm_wt 244 rfl rfl
set_option maxRecDepth 100000 in
theorem ll_2_27 : Cond.methodLink RX2 27 yX2_checkRange ∈ lm_WT := lm_wt 315 rfl rfl
set_option maxRecDepth 100000 in
theorem ll_2_31 : Cond.methodLink RX2 31 yX2_keptCells ∈ lm_WT := lm_wt 319 rfl rfl
set_option maxRecDepth 100000 in
theorem ll_2_48 : Cond.methodLink RX2 48 yX2_changeClass ∈ lm_WT := lm_wt 330 rfl rfl
set_option maxRecDepth 100000 in
theorem ll_2_58 : Cond.methodLink RX2 58 yX2_hasRoomFor ∈ lm_WT := lm_wt 342 rfl rfl
set_option maxRecDepth 100000 in
theorem ll_2_62 : Cond.methodLink RX2 62 yX2_addItem ∈ lm_WT := lm_wt 361 rfl rfl
set_option maxRecDepth 100000 in
theorem ll_2_66 : Cond.methodLink RX2 66 yX2_queueOfGreatestExcess ∈ lm_WT := lm_wt 369 rfl rfl
set_option maxRecDepth 100000 in
theorem ll_2_69 : Cond.methodLink RX2 69 yX0_excess ∈ lm_WT := lm_wt 350 rfl rfl
set_option maxRecDepth 100000 in
theorem ll_2_75 : Cond.methodLink RX2 75 yX2_loseLastItem ∈ lm_WT := lm_wt 373 rfl rfl
set_option maxRecDepth 100000 in
theorem ll_2_79 : Cond.methodLink RX2 79 yX2_firstRingWithQueues ∈ lm_WT := lm_wt 152 rfl rfl
set_option maxRecDepth 100000 in
theorem ll_2_83 : Cond.methodLink RX2 83 yX2_placeServedNext ∈ lm_WT := lm_wt 156 rfl rfl
set_option maxRecDepth 100000 in
theorem ll_2_87 : Cond.methodLink RX2 87 yX1_queueAt ∈ lm_WT := lm_wt 160 rfl rfl
set_option maxRecDepth 100000 in
theorem ll_2_91 : Cond.methodLink RX2 91 yX2_bringToFront ∈ lm_WT := lm_wt 172 rfl rfl
set_option maxRecDepth 100000 in
theorem ll_2_95 : Cond.methodLink RX2 95 yX2_serveFirstItem ∈ lm_WT := lm_wt 199 rfl rfl
set_option maxRecDepth 100000 in
theorem ll_2_102 : Cond.methodLink RX2 102 yX2_next ∈ lm_WT := lm_wt 393 rfl rfl
set_option maxRecDepth 100000 in
theorem ll_2_105 : Cond.methodLink RX2 105 yX0_firstCost ∈ lm_WT := lm_wt 207 rfl rfl
set_option maxRecDepth 100000 in
theorem ll_2_108 : Cond.methodLink RX2 108 yX2_serve ∈ lm_WT := lm_wt 394 rfl rfl
set_option maxRecDepth 100000 in
theorem ll_2_111 : Cond.methodLink RX2 111 yX0_dropAll ∈ lm_WT := lm_wt 402 rfl rfl
set_option maxRecDepth 100000 in
theorem ll_2_114 : Cond.methodLink RX2 114 yX2_leaveRing ∈ lm_WT := lm_wt 223 rfl rfl
set_option maxRecDepth 100000 in
theorem ll_2_125 : Cond.methodLink RX2 125 yX1_placeOf ∈ lm_WT := lm_wt 413 rfl rfl
set_option maxRecDepth 100000 in
theorem ll_2_155 : Cond.methodLink RX2 155 yX0_wordAt ∈ lm_WT := lm_wt 208 rfl rfl
set_option maxRecDepth 100000 in
theorem ll_2_158 : Cond.methodLink RX2 158 yX0_costAt ∈ lm_WT := lm_wt 439 rfl rfl
set_option maxRecDepth 100000 in
theorem ll_2_161 : Cond.methodLink RX2 161 yX2_freeCells ∈ lm_WT := lm_wt 346 rfl rfl
set_option maxRecDepth 100000 in
theorem ll_2_164 : Cond.methodLink RX2 164 yX2_openCells ∈ lm_WT := lm_wt 354 rfl rfl
set_option maxRecDepth 100000 in
theorem ll_2_177 : Cond.methodLink RX2 177 yJ9_min_7cf53 ∈ lm_WT := lm_wt 358 rfl rfl
set_option maxRecDepth 100000 in
theorem ll_2_183 : Cond.methodLink RX2 183 yX0_putLast ∈ lm_WT := lm_wt 365 rfl rfl
set_option maxRecDepth 100000 in
theorem ll_2_187 : Cond.methodLink RX2 187 yX1_putAtEnd ∈ lm_WT := lm_wt 334 rfl rfl
set_option maxRecDepth 100000 in
theorem ll_2_190 : Cond.methodLink RX2 190 yX0_dropLast ∈ lm_WT := lm_wt 377 rfl rfl
set_option maxRecDepth 100000 in
theorem ll_2_193 : Cond.methodLink RX2 193 yX1_takeOut ∈ lm_WT := lm_wt 227 rfl rfl
set_option maxRecDepth 100000 in
theorem ll_2_199 : Cond.methodLink RX2 199 yX0_looksInVain ∈ lm_WT := lm_wt 164 rfl rfl
set_option maxRecDepth 100000 in
theorem ll_2_202 : Cond.methodLink RX2 202 yX0_lookInVain ∈ lm_WT := lm_wt 176 rfl rfl
set_option maxRecDepth 100000 in
theorem ll_2_205 : Cond.methodLink RX2 205 yX1_turnBy ∈ lm_WT := lm_wt 180 rfl rfl
set_option maxRecDepth 100000 in
theorem ll_2_208 : Cond.methodLink RX2 208 yX0_takeTurn ∈ lm_WT := lm_wt 203 rfl rfl
set_option maxRecDepth 100000 in
theorem ll_2_211 : Cond.methodLink RX2 211 yX0_dropFirst ∈ lm_WT := lm_wt 219 rfl rfl
set_option maxRecDepth 100000 in
theorem ll_3_69 : Cond.methodLink RX3 69 yX3_noQueue ∈ lm_WT := lm_wt 529 rfl rfl
set_option maxRecDepth 100000 in
theorem ll_3_73 : Cond.methodLink RX3 73 yX3_keptInAll ∈ lm_WT := lm_wt 532 rfl rfl
set_option maxRecDepth 100000 in
theorem ll_3_77 : Cond.methodLink RX3 77 yX3_placeOf ∈ lm_WT := lm_wt 544 rfl rfl
set_option maxRecDepth 100000 in
theorem ll_3_81 : Cond.methodLink RX3 81 yX3_leave ∈ lm_WT := lm_wt 540 rfl rfl
set_option maxRecDepth 100000 in
theorem ll_3_85 : Cond.methodLink RX3 85 yX3_enter ∈ lm_WT := lm_wt 548 rfl rfl
set_option maxRecDepth 100000 in
theorem ll_3_88 : Cond.methodLink RX3 88 yX3_free ∈ lm_WT := lm_wt 556 rfl rfl
set_option maxRecDepth 100000 in
theorem ll_3_91 : Cond.methodLink RX3 91 yX3_excess ∈ lm_WT := lm_wt 560 rfl rfl
set_option maxRecDepth 100000 in
theorem ll_3_97 : Cond.methodLink RX3 97 yX3_open ∈ lm_WT := lm_wt 564 rfl rfl
set_option maxRecDepth 100000 in
theorem ll_3_100 : Cond.methodLink RX3 100 yX3_greediest ∈ lm_WT := lm_wt 568 rfl rfl
set_option maxRecDepth 100000 in
theorem ll_3_106 : Cond.methodLink RX3 106 yX3_settle ∈ lm_WT := lm_wt 572 rfl rfl
set_option maxRecDepth 100000 in
theorem ll_3_112 : Cond.methodLink RX3 112 yX3_find ∈ lm_WT := lm_wt 580 rfl rfl
set_option maxRecDepth 100000 in
theorem ll_3_115 : Cond.methodLink RX3 115 yX3_take ∈ lm_WT := lm_wt 584 rfl rfl
set_option maxRecDepth 100000 in
theorem ll_3_118 : Cond.methodLink RX3 118 yX3_keepTurns ∈ lm_WT := lm_wt 592 rfl rfl
set_option maxRecDepth 100000 in
theorem ll_3_121 : Cond.methodLink RX3 121 yX3_turnBack ∈ lm_WT := lm_wt 596 rfl rfl
set_option maxRecDepth 100000 in
theorem ll_3_125 : Cond.methodLink RX3 125 yX3_costOf ∈ lm_WT := lm_wt 617 rfl rfl
set_option maxRecDepth 100000 in
theorem lk_2_101 : Cond.constant RX2 101 100000 ∈ lm_WT := lm_wt 392 rfl rfl
set_option maxRecDepth 100000 in
theorem lk_3_124 : Cond.constant RX3 124 100000 ∈ lm_WT := lm_wt 608 rfl rfl
set_option maxRecDepth 100000 in
theorem lx_iae : lm_xw lm_iae 143 147 := ⟨⟨lm_wt 248 rfl rfl, lm_wt 38 rfl rfl, fun w hw => List.mem_filter.mpr ⟨wsL_law_x0 w hw, (List.mem_filter.mp hw).2⟩⟩, by decide +kernel, by decide +kernel, by decide +kernel⟩
set_option maxRecDepth 100000 in
theorem lx_iob : lm_xw lm_iob 150 154 := ⟨⟨lm_wt 423 rfl rfl, lm_wt 41 rfl rfl, fun w hw => List.mem_filter.mpr ⟨wsL_law_x1 w hw, (List.mem_filter.mp hw).2⟩⟩, by decide +kernel, by decide +kernel, by decide +kernel⟩

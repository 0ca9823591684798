set_option maxHeartbeats 4000000 in
set_option maxRecDepth 100000 in
theorem c_bitCount (l : Launch) (n : Nat) (hn : n < 2147483648) : Met l yJ6_bitCount_0f7a4 wsJ6_bitCount_0f7a4 ({ frames := 0, cells := 0, slots := 0, locals := 0 }) (fun v _ => v = ([.int (nI n)] : List Value).toArray) (vp_Si (fun r => r = nI (ctb n))) 0 0 (fun _ => False) := by
  refine Met.ofW (cc := cJ6_bitCount_0f7a4) (maxL := 1) (ret := (some .int)) (by decide) rfl ?_
  intro p e s m args below meth c s₁ B hml hv
  subst hv
  have hx := B.exec
  have hb := B.bytes
  have hr := B.returns
  have hts := atoms_spec (ws := wsJ6_bitCount_0f7a4) B.pre
  have hown : s.vm.findClass RJ6 = some m.cls := findClass_of_methodNamed B.named
  have hlocks := B.notSynchronized
  generalize hH : s.heap = H
  have hl := lv_entry ([.int (nI n)]) (n := 1) (Nat.le_of_ble_eq_true rfl)
  rw [lg_entry_eq]
  generalize (lg_sl ([.int (nI n)]) ++ List.replicate (1 - (lg_sl ([.int (nI n)])).length) Slot.unset).toArray = ls at hl ⊢
  have hl : lv_has ls 1 [(0, .int (nI n))] := hl
  have ha : n % 256 < 256 := by omega
  have hb1 : n / 256 % 256 < 256 := by omega
  have hc1 : n / 65536 % 256 < 256 := by omega
  have hd1 : n / 16777216 % 256 < 256 := by omega
  have e0 : n = n % 256 + 256 * (n / 256 % 256) + 65536 * (n / 65536 % 256) + 16777216 * (n / 16777216 % 256) := by omega
  obtain ⟨y1, hy1⟩ : ∃ y, y = n - (n / 2 &&& 1431655765) := ⟨_, rfl⟩
  have f1 : y1 = _ := hy1.trans (bc_1b ha hb1 hc1 hd1 e0)
  have l1 := bc_1le ha hb1 hc1 hd1 e0
  obtain ⟨y2, hy2⟩ : ∃ y, y = (y1 &&& 858993459) + (y1 / 4 &&& 858993459) := ⟨_, rfl⟩
  have f2 : y2 = _ := hy2.trans (bc_2 (st1_lt _ ha) (st1_lt _ hb1) (st1_lt _ hc1) (st1_lt _ hd1) f1)
  have b0 := st2_le _ ha
  have b1 := st2_le _ hb1
  have b2 := st2_le _ hc1
  have b3 := st2_le _ hd1
  obtain ⟨y3, hy3⟩ : ∃ y, y = (y2 + y2 / 16 &&& 252645135) := ⟨_, rfl⟩
  have f3 : y3 = _ := hy3.trans (bc_3 ha hb1 hc1 hd1 f2)
  have d0 := ct8_le _ ha
  have d1 := ct8_le _ hb1
  have d2 := ct8_le _ hc1
  have d3 := ct8_le _ hd1
  have f5 : ((y3 + y3 / 256) + (y3 + y3 / 256) / 65536) &&& 63 = ctb n := (bc_4 d0 d1 d2 d3 f3).trans (bcn_ct n)
  have q1 : y1 < 2 ^ 32 := by omega
  have q2 : y2 < 2 ^ 32 := by omega
  have q3 : y3 < 2 ^ 31 := by omega
  refine lv_iload_n hx hb dJ6_bitCount_0f7a4_0 rfl (lv_at hl 0 rfl) ?_
  refine lv_iload_n hx hb dJ6_bitCount_0f7a4_1 rfl (lv_at hl 0 rfl) ?_
  refine lv_iconst (v := 1) hx hb dJ6_bitCount_0f7a4_2 (by decide) ?_
  refine lv_iushr (v := nI (n / 2)) hx hb dJ6_bitCount_0f7a4_3 (pk_ushrN (by omega) 1 1 (by decide)) ?_
  refine lv_ldcw (v := 1431655765) hx hb hown (hts (.constant RJ6 265 (1431655765)) (by decide +kernel)) dJ6_bitCount_0f7a4_4 ?_
  refine lv_iand hx hb dJ6_bitCount_0f7a4_7 ?_
  refine lv_topi (fun y1 ey1 => ?_)
  replace ey1 : y1 = nI (n / 2 &&& 1431655765) := ey1.trans (fa_and (n / 2) 1431655765)
  subst ey1
  refine lv_isub hx hb dJ6_bitCount_0f7a4_8 ?_
  refine lv_topi (fun y2 ey2 => ?_)
  replace ey2 : y2 = nI y1 := ey2.trans ((pk_sub l1).trans (by rw [hy1]))
  subst ey2
  refine lv_istore_n (lv' := [(0, .int (nI y1))]) hx hb dJ6_bitCount_0f7a4_9 rfl hl (by decide) rfl (fun ls hl => ?_)
  refine lv_iload_n hx hb dJ6_bitCount_0f7a4_10 rfl (lv_at hl 0 rfl) ?_
  refine lv_ldcw (v := 858993459) hx hb hown (hts (.constant RJ6 266 (858993459)) (by decide +kernel)) dJ6_bitCount_0f7a4_11 ?_
  refine lv_iand hx hb dJ6_bitCount_0f7a4_14 ?_
  refine lv_topi (fun y3 ey3 => ?_)
  replace ey3 : y3 = nI (y1 &&& 858993459) := ey3.trans (fa_and y1 858993459)
  subst ey3
  refine lv_iload_n hx hb dJ6_bitCount_0f7a4_15 rfl (lv_at hl 0 rfl) ?_
  refine lv_iconst (v := 2) hx hb dJ6_bitCount_0f7a4_16 (by decide) ?_
  refine lv_iushr (v := nI (y1 / 4)) hx hb dJ6_bitCount_0f7a4_17 (pk_ushrN q1 2 2 (by decide)) ?_
  refine lv_ldcw (v := 858993459) hx hb hown (hts (.constant RJ6 266 (858993459)) (by decide +kernel)) dJ6_bitCount_0f7a4_18 ?_
  refine lv_iand hx hb dJ6_bitCount_0f7a4_21 ?_
  refine lv_topi (fun y4 ey4 => ?_)
  replace ey4 : y4 = nI (y1 / 4 &&& 858993459) := ey4.trans (fa_and (y1 / 4) 858993459)
  subst ey4
  refine lv_iadd hx hb dJ6_bitCount_0f7a4_22 ?_
  refine lv_topi (fun y5 ey5 => ?_)
  replace ey5 : y5 = nI y2 := ey5.trans ((nI_add _ _).trans (by rw [hy2]))
  subst ey5
  refine lv_istore_n (lv' := [(0, .int (nI y2))]) hx hb dJ6_bitCount_0f7a4_23 rfl hl (by decide) rfl (fun ls hl => ?_)
  refine lv_iload_n hx hb dJ6_bitCount_0f7a4_24 rfl (lv_at hl 0 rfl) ?_
  refine lv_iload_n hx hb dJ6_bitCount_0f7a4_25 rfl (lv_at hl 0 rfl) ?_
  refine lv_iconst (v := 4) hx hb dJ6_bitCount_0f7a4_26 (by decide) ?_
  refine lv_iushr (v := nI (y2 / 16)) hx hb dJ6_bitCount_0f7a4_27 (pk_ushrN q2 4 4 (by decide)) ?_
  refine lv_iadd hx hb dJ6_bitCount_0f7a4_28 ?_
  refine lv_topi (fun y6 ey6 => ?_)
  replace ey6 : y6 = nI (y2 + y2 / 16) := ey6.trans (nI_add _ _)
  subst ey6
  refine lv_ldcw (v := 252645135) hx hb hown (hts (.constant RJ6 267 (252645135)) (by decide +kernel)) dJ6_bitCount_0f7a4_29 ?_
  refine lv_iand hx hb dJ6_bitCount_0f7a4_32 ?_
  refine lv_topi (fun y7 ey7 => ?_)
  replace ey7 : y7 = nI y3 := ey7.trans ((fa_and (y2 + y2 / 16) 252645135).trans (by rw [hy3]))
  subst ey7
  refine lv_istore_n (lv' := [(0, .int (nI y3))]) hx hb dJ6_bitCount_0f7a4_33 rfl hl (by decide) rfl (fun ls hl => ?_)
  refine lv_iload_n hx hb dJ6_bitCount_0f7a4_34 rfl (lv_at hl 0 rfl) ?_
  refine lv_iload_n hx hb dJ6_bitCount_0f7a4_35 rfl (lv_at hl 0 rfl) ?_
  refine lv_bipush (v := 8) hx hb dJ6_bitCount_0f7a4_36 (by decide) ?_
  refine lv_iushr (v := nI (y3 / 256)) hx hb dJ6_bitCount_0f7a4_38 (pk_ushrN (by omega) 8 8 (by decide)) ?_
  refine lv_iadd hx hb dJ6_bitCount_0f7a4_39 ?_
  refine lv_topi (fun y8 ey8 => ?_)
  replace ey8 : y8 = nI (y3 + y3 / 256) := ey8.trans (nI_add _ _)
  subst ey8
  refine lv_istore_n (lv' := [(0, .int (nI (y3 + y3 / 256)))]) hx hb dJ6_bitCount_0f7a4_40 rfl hl (by decide) rfl (fun ls hl => ?_)
  refine lv_iload_n hx hb dJ6_bitCount_0f7a4_41 rfl (lv_at hl 0 rfl) ?_
  refine lv_iload_n hx hb dJ6_bitCount_0f7a4_42 rfl (lv_at hl 0 rfl) ?_
  refine lv_bipush (v := 16) hx hb dJ6_bitCount_0f7a4_43 (by decide) ?_
  refine lv_iushr (v := nI ((y3 + y3 / 256) / 65536)) hx hb dJ6_bitCount_0f7a4_45 (pk_ushrN (by omega) 16 16 (by decide)) ?_
  refine lv_iadd hx hb dJ6_bitCount_0f7a4_46 ?_
  refine lv_topi (fun y9 ey9 => ?_)
  replace ey9 : y9 = nI ((y3 + y3 / 256) + (y3 + y3 / 256) / 65536) := ey9.trans (nI_add _ _)
  subst ey9
  refine lv_istore_n (lv' := [(0, .int (nI ((y3 + y3 / 256) + (y3 + y3 / 256) / 65536)))]) hx hb dJ6_bitCount_0f7a4_47 rfl hl (by decide) rfl (fun ls hl => ?_)
  refine lv_iload_n hx hb dJ6_bitCount_0f7a4_48 rfl (lv_at hl 0 rfl) ?_
  refine lv_bipush (v := 63) hx hb dJ6_bitCount_0f7a4_49 (by decide) ?_
  refine lv_iand hx hb dJ6_bitCount_0f7a4_51 ?_
  refine lv_topi (fun y10 ey10 => ?_)
  replace ey10 : y10 = nI (ctb n) := ey10.trans ((fa_and _ 63).trans (by rw [f5]))
  subst ey10
  exact W.iret (v := nI (ctb n)) hx hb hr (fun t ht hW => ⟨_, rfl, rfl, ht.trans hH.symm⟩) (fun _ h => by cases h) dJ6_bitCount_0f7a4_52
set_option maxHeartbeats 4000000 in
set_option maxRecDepth 100000 in
theorem c_isAccount (l : Launch) (D : va_G) (ad : Nat → Nat) (cI cB cO : ClassId) (acc lm rm : Nat) (N : LN) (x : Nat → Nat) (z ob : Nat → Int32) (hok : lOk ad acc lm) (p0 : Int32) : Met l yX2_isAccount wsX2_isAccount ({ frames := 0, cells := 0, slots := 0, locals := 0 }) (lPc [.ref (ad 0), .int (p0)] D (lW ad cI cB cO acc lm rm N x z ob) [(cI, .int), (cB, .byte), (cO, .object "BigLedger$Natural")]) (vp_Si (fun r => r = if isAcc acc p0 = true then 1 else 0)) 0 0 (fun _ => False) := by
  refine Met.ofW (cc := cX2_isAccount) (maxL := 2) (ret := (some .boolean)) (by decide) rfl ?_
  intro p e s m args below meth c s₁ B hml hv
  obtain ⟨rfl, hP, hK, hN⟩ := hv
  have hx := B.exec
  have hb := B.bytes
  have hr := B.returns
  have hts := atoms_spec (ws := wsX2_isAccount) B.pre
  have hown : s.vm.findClass RX2 = some m.cls := findClass_of_methodNamed B.named
  have hlocks := B.notSynchronized
  have hi2 : ∀ w ∈ wsX20, w ∈ wsX2_isAccount := by decide +kernel
  have hok1 := hok.2.1
  have hok2 := hok.2.2.1
  have hok3 := hok.2.2.2
  generalize hH : s.heap = H at hP ⊢
  have hl := lv_entry ([.ref (ad 0), .int (p0)]) (n := 2) (Nat.le_of_ble_eq_true rfl)
  rw [lg_entry_eq]
  generalize (lg_sl ([.ref (ad 0), .int (p0)]) ++ List.replicate (2 - (lg_sl ([.ref (ad 0), .int (p0)])).length) Slot.unset).toArray = ls at hl ⊢
  have hl : lv_has ls 2 [(0, .ref (ad 0)), (1, .int (p0))] := hl
  refine lv_iload_n hx hb dX2_isAccount_0 rfl (lv_at hl 1 rfl) ?_
  refine lv_if_lt (tgt := 16) hx hb dX2_isAccount_1 (by decide) (fun c1 => ?_) (fun c1 => ?_)
  · refine lv_iconst (v := 0) hx hb dX2_isAccount_16 (by decide) ?_
    exact W.zret (v := 0) (ty := .boolean) hx hb hr (rfl) (fun t ht hW => ⟨_, rfl, by rw [if_neg (by simp [isAcc, c1])], ht.trans hH.symm⟩) (fun _ h => by cases h) dX2_isAccount_17
  · refine lv_iload_n hx hb dX2_isAccount_4 rfl (lv_at hl 1 rfl) ?_
    refine lv_aload_n hx hb dX2_isAccount_5 rfl (lv_at hl 0 rfl) ?_
    refine va_get (D := D) (ci := 2) (v := .int (nI acc)) (C := RX2) (T := TX2) (N := 11) hx hb hts hi2 hown hK hP 0 (wl_at (by omega)) rfl 0 (by decide) (hts (.fieldLink RX2 13 "BigLedger" "accounts" "I") (by decide +kernel)) (fun _ h9 => h9) rfl dX2_isAccount_6 ?_
    refine lv_icmp_ge (tgt := 16) hx hb dX2_isAccount_9 (by decide) (fun c2 => ?_) (fun c2 => ?_)
    · refine lv_iconst (v := 0) hx hb dX2_isAccount_16 (by decide) ?_
      exact W.zret (v := 0) (ty := .boolean) hx hb hr (rfl) (fun t ht hW => ⟨_, rfl, by rw [if_neg (by simp [isAcc, c2])], ht.trans hH.symm⟩) (fun _ h => by cases h) dX2_isAccount_17
    · refine lv_iconst (v := 1) hx hb dX2_isAccount_12 (by decide) ?_
      refine lv_goto (tgt := 17) hx hb dX2_isAccount_13 (by decide) ?_
      exact W.zret (v := 1) (ty := .boolean) hx hb hr (rfl) (fun t ht hW => ⟨_, rfl, by rw [if_pos (by unfold isAcc; rw [Bool.and_eq_true, decide_eq_true_eq, decide_eq_true_eq]; exact ⟨c1, c2⟩)], ht.trans hH.symm⟩) (fun _ h => by cases h) dX2_isAccount_17
set_option maxHeartbeats 4000000 in
set_option maxRecDepth 100000 in
theorem c_totalBlock (l : Launch) (D : va_G) (ad : Nat → Nat) (cI cB cO : ClassId) (acc lm rm : Nat) (N : LN) (x : Nat → Nat) (z ob : Nat → Int32) (hok : lOk ad acc lm) : Met l yX2_totalBlock wsX2_totalBlock ({ frames := 0, cells := 0, slots := 0, locals := 0 }) (lPc [.ref (ad 0)] D (lW ad cI cB cO acc lm rm N x z ob) [(cI, .int), (cB, .byte), (cO, .object "BigLedger$Natural")]) (vp_Si (fun r => r = nI acc)) 0 0 (fun _ => False) := by
  refine Met.ofW (cc := cX2_totalBlock) (maxL := 1) (ret := (some .int)) (by decide) rfl ?_
  intro p e s m args below meth c s₁ B hml hv
  obtain ⟨rfl, hP, hK, hN⟩ := hv
  have hx := B.exec
  have hb := B.bytes
  have hr := B.returns
  have hts := atoms_spec (ws := wsX2_totalBlock) B.pre
  have hown : s.vm.findClass RX2 = some m.cls := findClass_of_methodNamed B.named
  have hlocks := B.notSynchronized
  have hi2 : ∀ w ∈ wsX20, w ∈ wsX2_totalBlock := by decide +kernel
  have hok1 := hok.2.1
  have hok2 := hok.2.2.1
  have hok3 := hok.2.2.2
  generalize hH : s.heap = H at hP ⊢
  have hl := lv_entry ([.ref (ad 0)]) (n := 1) (Nat.le_of_ble_eq_true rfl)
  rw [lg_entry_eq]
  generalize (lg_sl ([.ref (ad 0)]) ++ List.replicate (1 - (lg_sl ([.ref (ad 0)])).length) Slot.unset).toArray = ls at hl ⊢
  have hl : lv_has ls 1 [(0, .ref (ad 0))] := hl
  refine lv_aload_n hx hb dX2_totalBlock_0 rfl (lv_at hl 0 rfl) ?_
  refine va_get (D := D) (ci := 2) (v := .int (nI acc)) (C := RX2) (T := TX2) (N := 11) hx hb hts hi2 hown hK hP 0 (wl_at (by omega)) rfl 0 (by decide) (hts (.fieldLink RX2 13 "BigLedger" "accounts" "I") (by decide +kernel)) (fun _ h9 => h9) rfl dX2_totalBlock_1 ?_
  exact W.iret (v := nI acc) hx hb hr (fun t ht hW => ⟨_, rfl, rfl, ht.trans hH.symm⟩) (fun _ h => by cases h) dX2_totalBlock_4
set_option maxHeartbeats 4000000 in
set_option maxRecDepth 100000 in
theorem c_seen (l : Launch) (D : va_G) (ad : Nat → Nat) (cI cB cO : ClassId) (acc lm rm : Nat) (N : LN) (x : Nat → Nat) (z ob : Nat → Int32) (hok : lOk ad acc lm) (b : Nat) (hb0 : b ≤ acc) : Met l yX2_seen wsX2_seen ({ frames := 1, cells := 0, slots := 0, locals := 21 }) (lPc [.ref (ad 0), .int (nI b)] D (lW ad cI cB cO acc lm rm N x z ob) [(cI, .int), (cB, .byte), (cO, .object "BigLedger$Natural")]) (va_Sr (fun k => k = ad (6 * b + 2 * sk x b + 10)) (fun k => Value.ref k)) 0 0 (fun _ => False) := by
  refine Met.ofW (cc := cX2_seen) (maxL := 2) (ret := (some (.object "BigLedger$Natural"))) (by decide) rfl ?_
  intro p e s m args below meth c s₁ B hml hv
  obtain ⟨rfl, hP, hK, hN⟩ := hv
  have hx := B.exec
  have hb := B.bytes
  have hr := B.returns
  have hts := atoms_spec (ws := wsX2_seen) B.pre
  have hown : s.vm.findClass RX2 = some m.cls := findClass_of_methodNamed B.named
  have hlocks := B.notSynchronized
  have hi0 : ∀ w ∈ wsX00, w ∈ wsX2_seen := by decide +kernel
  have hi2 : ∀ w ∈ wsX20, w ∈ wsX2_seen := by decide +kernel
  have hok1 := hok.2.1
  have hok2 := hok.2.2.1
  have hok3 := hok.2.2.2
  generalize hH : s.heap = H at hP ⊢
  have hl := lv_entry ([.ref (ad 0), .int (nI b)]) (n := 2) (Nat.le_of_ble_eq_true rfl)
  rw [lg_entry_eq]
  generalize (lg_sl ([.ref (ad 0), .int (nI b)]) ++ List.replicate (2 - (lg_sl ([.ref (ad 0), .int (nI b)])).length) Slot.unset).toArray = ls at hl ⊢
  have hl : lv_has ls 2 [(0, .ref (ad 0)), (1, .int (nI b))] := hl
  refine lv_aload_n hx hb dX2_seen_0 rfl (lv_at hl 0 rfl) ?_
  refine va_get (D := D) (ci := 2) (v := .int (nI (x 2))) (C := RX2) (T := TX2) (N := 11) hx hb hts hi2 hown hK hP 0 (wl_at (by omega)) rfl 5 (by decide) (hts (.fieldLink RX2 126 "BigLedger" "touched" "I") (by decide +kernel)) (fun _ h9 => h9) rfl dX2_seen_1 ?_
  refine lv_iload_n hx hb dX2_seen_4 rfl (lv_at hl 1 rfl) ?_
  refine vp_callSi (W.runS (As := [.int (nI (x 2)), .int (nI b)]) (rest := []) ⟨hx, hb, hml, hown, hts⟩ (c_has l (x 2) b (by omega)) (va_cwS 2 hts gX2_seen_X2_has rfl rfl rfl (by decide +kernel) ⟨Nat.le_of_ble_eq_true rfl, Nat.le_of_ble_eq_true rfl⟩) preEq rfl rfl hl.1 rfl (lv_room (Nat.le_of_ble_eq_true rfl)) dX2_seen_5 ⟨Nat.le_of_ble_eq_true rfl, Nat.le_of_ble_eq_true rfl⟩) (fun rb hrb => ?_)
  refine lv_if_eq (tgt := 20) hx hb dX2_seen_8 (by decide) (fun c0 => ?_) (fun c0 => ?_)
  · replace c0 : sk x b = 1 := by
      unfold sk
      by_cases h9 : (x 2).testBit b = true
      · rw [hrb, if_pos h9] at c0; exact absurd c0 (by decide)
      · rw [if_neg h9]
    refine lv_aload_n hx hb dX2_seen_20 rfl (lv_at hl 0 rfl) ?_
    refine va_get (D := D) (ci := 2) (v := .ref (ad 1)) (C := RX2) (T := TX2) (N := 11) hx hb hts hi2 hown hK hP 0 (wl_at (by omega)) rfl 3 (by decide) (hts (.fieldLink RX2 28 "BigLedger" "disk" "LBigLedger$Disk;") (by decide +kernel)) (fun _ h9 => h9) rfl dX2_seen_21 ?_
    refine va_getN (D := D) (ci := 0) (host := RX2) (v := .ref (ad 3)) (C := RX0) (T := TX0) (N := 6) hx hb hts hi0 hown hK hP 1 (wl_at (by omega)) rfl 0 (by decide) (va_Nw.use rfl (hN.2.2.2.1)) (fun _ h9 => h9) rfl dX2_seen_24 ?_
    refine lv_iload_n hx hb dX2_seen_27 rfl (lv_at hl 1 rfl) ?_
    refine va_aldq hx hb hK hP 3 2 (wl_at (by omega)) rfl (vp_in_nI (by omega) (by omega)) dX2_seen_28 ?_
    refine lv_topv (y := .ref (ad (6 * b + 12))) (by rw [nI_clamp (by omega)]; rfl) ?_
    exact W.aret (rt := .object "BigLedger$Natural") (v := .ref (ad (6 * b + 12))) hx hb hr (Or.inl ⟨_, rfl⟩) (Or.inr ⟨_, rfl⟩) (fun t ht hW => ⟨_, rfl, by rw [c0], ht.trans hH.symm⟩) (fun _ h => by cases h) dX2_seen_29
  · replace c0 : sk x b = 0 := by
      unfold sk
      by_cases h9 : (x 2).testBit b = true
      · rw [if_pos h9]
      · exact absurd (by rw [hrb, if_neg h9]) c0
    refine lv_aload_n hx hb dX2_seen_11 rfl (lv_at hl 0 rfl) ?_
    refine va_get (D := D) (ci := 2) (v := .ref (ad 2)) (C := RX2) (T := TX2) (N := 11) hx hb hts hi2 hown hK hP 0 (wl_at (by omega)) rfl 4 (by decide) (hts (.fieldLink RX2 36 "BigLedger" "pending" "[LBigLedger$Natural;") (by decide +kernel)) (fun _ h9 => h9) rfl dX2_seen_12 ?_
    refine lv_iload_n hx hb dX2_seen_15 rfl (lv_at hl 1 rfl) ?_
    refine va_aldq hx hb hK hP 2 2 (wl_at (by omega)) rfl (vp_in_nI (by omega) (by omega)) dX2_seen_16 ?_
    refine lv_topv (y := .ref (ad (6 * b + 10))) (by rw [nI_clamp (by omega)]; rfl) ?_
    refine lv_goto (tgt := 29) hx hb dX2_seen_17 (by decide) ?_
    exact W.aret (rt := .object "BigLedger$Natural") (v := .ref (ad (6 * b + 10))) hx hb hr (Or.inl ⟨_, rfl⟩) (Or.inr ⟨_, rfl⟩) (fun t ht hW => ⟨_, rfl, by rw [c0], ht.trans hH.symm⟩) (fun _ h => by cases h) dX2_seen_29
set_option maxHeartbeats 4000000 in
set_option maxRecDepth 100000 in
theorem c_touch (l : Launch) (D : va_G) (ad : Nat → Nat) (cI cB cO : ClassId) (acc lm rm : Nat) (N : LN) (x : Nat → Nat) (z ob : Nat → Int32) (hok : lOk ad acc lm) (hNk : nOk lm N) (b : Nat) (hb0 : b ≤ acc) : Met l yX2_touch wsX2_touch ({ frames := 2, cells := 0, slots := 0, locals := 43 }) (lPc [.ref (ad 0), .int (nI b)] D (lW ad cI cB cO acc lm rm N x z ob) [(cI, .int), (cB, .byte), (cO, .object "BigLedger$Natural")]) (va_Qr (fun _ : Unit => True) (fun _ ra t => ra = ad (6 * b + 2 * 0 + 10) ∧ va_P D vwCl (lW ad cI cB cO acc lm rm (tN N x b) (tX x b) z ob) t.heap) (lA ad acc)) 0 0 (lA ad acc) := by
  refine Met.ofW (cc := cX2_touch) (maxL := 2) (ret := (some (.object "BigLedger$Natural"))) (by decide) rfl ?_
  intro p e s m args below meth c s₁ B hml hv
  obtain ⟨rfl, hP, hK, hN⟩ := hv
  have hx := B.exec
  have hb := B.bytes
  have hr := B.returns
  have hts := atoms_spec (ws := wsX2_touch) B.pre
  have hown : s.vm.findClass RX2 = some m.cls := findClass_of_methodNamed B.named
  have hlocks := B.notSynchronized
  have hi0 : ∀ w ∈ wsX00, w ∈ wsX2_touch := by decide +kernel
  have hi2 : ∀ w ∈ wsX20, w ∈ wsX2_touch := by decide +kernel
  have hok1 := hok.2.1
  have hok2 := hok.2.2.1
  have hok3 := hok.2.2.2
  have hS : va_S (lA ad acc) s.heap s.heap [] := va_S.rf
  have hD : va_D (lA ad acc) (lW ad cI cB cO acc lm rm N x z ob) := wlD hok
  have hl := lv_entry ([.ref (ad 0), .int (nI b)]) (n := 2) (Nat.le_of_ble_eq_true rfl)
  rw [lg_entry_eq]
  generalize (lg_sl ([.ref (ad 0), .int (nI b)]) ++ List.replicate (2 - (lg_sl ([.ref (ad 0), .int (nI b)])).length) Slot.unset).toArray = ls at hl ⊢
  have hl : lv_has ls 2 [(0, .ref (ad 0)), (1, .int (nI b))] := hl
  refine lv_aload_n hx hb dX2_touch_0 rfl (lv_at hl 0 rfl) ?_
  refine va_get (D := D) (ci := 2) (v := .int (nI (x 2))) (C := RX2) (T := TX2) (N := 11) hx hb hts hi2 hown hK hP 0 (wl_at (by omega)) rfl 5 (by decide) (hts (.fieldLink RX2 126 "BigLedger" "touched" "I") (by decide +kernel)) (fun _ h9 => h9) rfl dX2_touch_1 ?_
  refine lv_iload_n hx hb dX2_touch_4 rfl (lv_at hl 1 rfl) ?_
  refine vp_callSi (W.runS (As := [.int (nI (x 2)), .int (nI b)]) (rest := []) ⟨hx, hb, hml, hown, hts⟩ (c_has l (x 2) b (by omega)) (va_cwS 2 hts gX2_touch_X2_has rfl rfl rfl (by decide +kernel) ⟨Nat.le_of_ble_eq_true rfl, Nat.le_of_ble_eq_true rfl⟩) preEq rfl rfl hl.1 rfl (lv_room (Nat.le_of_ble_eq_true rfl)) dX2_touch_5 ⟨Nat.le_of_ble_eq_true rfl, Nat.le_of_ble_eq_true rfl⟩) (fun rb hrb => ?_)
  refine lv_if_ne (tgt := 41) hx hb dX2_touch_8 (by decide) (fun c0 => ?_) (fun c0 => ?_)
  · replace c0 : (x 2).testBit b = true := Classical.byContradiction (fun h9 => c0 (by rw [hrb, if_neg h9]))
    have e8 : tN N x b = N := if_pos c0
    have e9 : tX x b = x := if_pos c0
    refine lv_aload_n hx hb dX2_touch_41 rfl (lv_at hl 0 rfl) ?_
    refine va_get (D := D) (ci := 2) (v := .ref (ad 2)) (C := RX2) (T := TX2) (N := 11) hx hb hts hi2 hown hK hP 0 (wl_at (by omega)) rfl 4 (by decide) (hts (.fieldLink RX2 36 "BigLedger" "pending" "[LBigLedger$Natural;") (by decide +kernel)) (fun _ h9 => h9) rfl dX2_touch_42 ?_
    refine lv_iload_n hx hb dX2_touch_45 rfl (lv_at hl 1 rfl) ?_
    refine va_aldq hx hb hK hP 2 2 (wl_at (by omega)) rfl (vp_in_nI (by omega) (by omega)) dX2_touch_46 ?_
    refine lv_topv (y := .ref (ad (6 * b + 2 * 0 + 10))) (by rw [nI_clamp (by omega)]; rfl) ?_
    exact W.aret (rt := .object "BigLedger$Natural") (v := .ref (ad (6 * b + 2 * 0 + 10))) hx hb hr (Or.inl ⟨_, rfl⟩) (Or.inr ⟨_, rfl⟩) (fun t ht hW => ⟨⟨(), _, rfl, trivial, rfl, by rw [e8, e9]; exact hp_at ht hP⟩, hS.F ht⟩) hS.2.2 dX2_touch_47
  · replace c0 : ¬ (x 2).testBit b = true := fun h9 => absurd c0 (by rw [hrb, if_pos h9]; decide)
    have e8 : tN N x b = va_up N 0 (va_up (N 0) b (N 1 b)) := if_neg c0
    have e9 : tX x b = va_up x 2 (x 2 ||| 2 ^ b) := if_neg c0
    refine lv_aload_n hx hb dX2_touch_11 rfl (lv_at hl 0 rfl) ?_
    refine va_get (D := D) (ci := 2) (v := .ref (ad 2)) (C := RX2) (T := TX2) (N := 11) hx hb hts hi2 hown hK hP 0 (wl_at (by omega)) rfl 4 (by decide) (hts (.fieldLink RX2 36 "BigLedger" "pending" "[LBigLedger$Natural;") (by decide +kernel)) (fun _ h9 => h9) rfl dX2_touch_12 ?_
    refine lv_iload_n hx hb dX2_touch_15 rfl (lv_at hl 1 rfl) ?_
    refine va_aldq hx hb hK hP 2 2 (wl_at (by omega)) rfl (vp_in_nI (by omega) (by omega)) dX2_touch_16 ?_
    refine lv_topv (y := .ref (ad (6 * b + 2 * 0 + 10))) (by rw [nI_clamp (by omega)]; rfl) ?_
    refine lv_aload_n hx hb dX2_touch_17 rfl (lv_at hl 0 rfl) ?_
    refine va_get (D := D) (ci := 2) (v := .ref (ad 1)) (C := RX2) (T := TX2) (N := 11) hx hb hts hi2 hown hK hP 0 (wl_at (by omega)) rfl 3 (by decide) (hts (.fieldLink RX2 28 "BigLedger" "disk" "LBigLedger$Disk;") (by decide +kernel)) (fun _ h9 => h9) rfl dX2_touch_18 ?_
    refine va_getN (D := D) (ci := 0) (host := RX2) (v := .ref (ad 3)) (C := RX0) (T := TX0) (N := 6) hx hb hts hi0 hown hK hP 1 (wl_at (by omega)) rfl 0 (by decide) (va_Nw.use rfl (hN.2.2.2.1)) (fun _ h9 => h9) rfl dX2_touch_21 ?_
    refine lv_iload_n hx hb dX2_touch_24 rfl (lv_at hl 1 rfl) ?_
    refine va_aldq hx hb hK hP 3 2 (wl_at (by omega)) rfl (vp_in_nI (by omega) (by omega)) dX2_touch_25 ?_
    refine lv_topv (y := .ref (ad (6 * b + 2 * 1 + 10))) (by rw [nI_clamp (by omega)]; rfl) ?_
    have hn11 := ln_p hP 0 b (by decide) (by omega)
    have hn11u := va_P.app hn11 (ln_p hP 1 b (by decide) (by omega))
    refine va_callv (va_runV (As := [.ref (ad (6 * b + 2 * 1 + 10))]) (rest := []) ⟨hx, hb, hml, hown, hts⟩ (c_setTo l D cI (lm + 1) (ad (6 * b + 2 * 0 + 10)) (ad (6 * b + 2 * 0 + 11)) (N 0 b) (by omega) (ln_oa (i := 6 * b + 2 * 0 + 10) hok (by omega)) (hNk _ _) (ad (6 * b + 2 * 1 + 10)) (ad (6 * b + 2 * 1 + 11)) (N 1 b) (ln_ne (i := 6 * b + 2 * 0 + 10) hok (by omega) (by omega) (by omega) (by omega)) (ln_ne (i := 6 * b + 2 * 0 + 10) hok (by omega) (by omega) (by omega) (by omega)) (hNk _ _)) (cwV 1 hts gX2_touch_X1_setTo rfl rfl rfl (by decide +kernel) ⟨Nat.le_of_ble_eq_true rfl, Nat.le_of_ble_eq_true rfl⟩) ⟨nPc_blind, va_recv hK hn11 (ci := 1) (q0 := 0) rfl rfl, nPc_use (hn11u) (hK.sub [0] rfl)⟩ rfl rfl hl.1 rfl (lv_room (Nat.le_of_ble_eq_true rfl)) dX2_touch_26 ⟨Nat.le_of_ble_eq_true rfl, Nat.le_of_ble_eq_true rfl⟩) hS (fun q _ h => (fun q h => lA_n (i := 6 * b + 2 * 0 + 10) (by omega) h) q h) (fun q h => lA_n (i := 6 * b + 2 * 0 + 10) (by omega) h) (fun _u t H1 locs ht hvm hw hB hz1 hk9 hS => ?_)
    have hP9 := lk_p (k := 0) (b := b) hok (by decide) (by omega) hP hk9 (pB_at ht hB)
    generalize H1 = H at ht hz1 hk9 hS hP9 ⊢
    have hP : va_P D vwCl (lW ad cI cB cO acc lm rm (va_up N 0 (va_up (N 0) b (N 1 b))) x z ob) H := hP9
    have hD : va_D (lA ad acc) (lW ad cI cB cO acc lm rm (va_up N 0 (va_up (N 0) b (N 1 b))) x z ob) := wlD hok
    refine lv_aload_n hx hb dX2_touch_29 rfl (lv_at hl 0 rfl) ?_
    refine lv_dup hx hb dX2_touch_30 rfl ?_
    refine va_get (D := D) (ci := 2) (v := .int (nI (x 2))) (C := RX2) (T := TX2) (N := 11) hx hb hts hi2 hown hK hP 0 (wl_at (by omega)) rfl 5 (by decide) (hts (.fieldLink RX2 126 "BigLedger" "touched" "I") (by decide +kernel)) (fun _ h9 => h9) rfl dX2_touch_31 ?_
    refine lv_iconst (v := 1) hx hb dX2_touch_34 (by decide) ?_
    refine lv_iload_n hx hb dX2_touch_35 rfl (lv_at hl 1 rfl) ?_
    refine lv_ishl hx hb dX2_touch_36 ?_
    refine lv_topi (fun y12 ey12 => ?_)
    replace ey12 : y12 = nI (2 ^ b) := ey12.trans (i_sh b (by omega))
    subst ey12
    refine lv_ior hx hb dX2_touch_37 ?_
    refine lv_topi (fun y13 ey13 => ?_)
    replace ey13 : y13 = nI (x 2 ||| 2 ^ b) := ey13.trans (fa_or _ _)
    subst ey13
    refine va_put (D := D) (ci := 2) (v := .int (nI (x 2 ||| 2 ^ b))) (ty := .int) (C := RX2) (T := TX2) (N := 11) hx hb hts hi2 tyX2 tyX2_ok nmX2 hown hK hP hD hS 0 (wl_at (by omega)) rfl 5 (by decide) (hts (.fieldLink RX2 126 "BigLedger" "touched" "I") (by decide +kernel)) (fun _ h9 => h9) rfl (by decide +kernel) (rfl) (rfl) (Nat.le_of_ble_eq_true rfl) dX2_touch_38 (fun H locs hP hD hS => ?_)
    have hP : va_P D vwCl (lW ad cI cB cO acc lm rm (va_up N 0 (va_up (N 0) b (N 1 b))) (va_up x 2 ((x 2 ||| 2 ^ b))) z ob) H := cv (ls_touched ((x 2 ||| 2 ^ b))) hP
    have hD : va_D (lA ad acc) (lW ad cI cB cO acc lm rm (va_up N 0 (va_up (N 0) b (N 1 b))) (va_up x 2 ((x 2 ||| 2 ^ b))) z ob) := wlD hok
    refine lv_aload_n hx hb dX2_touch_41 rfl (lv_at hl 0 rfl) ?_
    refine va_get (D := D) (ci := 2) (v := .ref (ad 2)) (C := RX2) (T := TX2) (N := 11) hx hb hts hi2 hown hK hP 0 (wl_at (by omega)) rfl 4 (by decide) (hts (.fieldLink RX2 36 "BigLedger" "pending" "[LBigLedger$Natural;") (by decide +kernel)) (fun _ h9 => h9) rfl dX2_touch_42 ?_
    refine lv_iload_n hx hb dX2_touch_45 rfl (lv_at hl 1 rfl) ?_
    refine va_aldq hx hb hK hP 2 2 (wl_at (by omega)) rfl (vp_in_nI (by omega) (by omega)) dX2_touch_46 ?_
    refine lv_topv (y := .ref (ad (6 * b + 2 * 0 + 10))) (by rw [nI_clamp (by omega)]; rfl) ?_
    exact W.aret (rt := .object "BigLedger$Natural") (v := .ref (ad (6 * b + 2 * 0 + 10))) hx hb hr (Or.inl ⟨_, rfl⟩) (Or.inr ⟨_, rfl⟩) (fun t ht hW => ⟨⟨(), _, rfl, trivial, rfl, by rw [e8, e9]; exact hp_at ht hP⟩, hS.F ht⟩) hS.2.2 dX2_touch_47
set_option maxHeartbeats 4000000 in
set_option maxRecDepth 100000 in
theorem c_hasRoomFor (l : Launch) (D : va_G) (ad : Nat → Nat) (cI cB cO : ClassId) (acc lm rm : Nat) (N : LN) (x : Nat → Nat) (z ob : Nat → Int32) (hok : lOk ad acc lm) (b c0 : Nat) (hb0 : b ≤ acc) (hc0 : c0 ≤ acc) (hx2 : x 2 < 33554432) (hrm : rm ≤ 25) : Met l yX2_hasRoomFor wsX2_hasRoomFor ({ frames := 1, cells := 0, slots := 0, locals := 20 }) (lPc [.ref (ad 0), .int (nI b), .int (nI c0)] D (lW ad cI cB cO acc lm rm N x z ob) [(cI, .int), (cB, .byte), (cO, .object "BigLedger$Natural")]) (vp_Si (fun r => r = if ctb ((x 2 ||| 2 ^ b) ||| 2 ^ c0) ≤ rm then 1 else 0)) 0 0 (fun _ => False) := by
  refine Met.ofW (cc := cX2_hasRoomFor) (maxL := 3) (ret := (some .boolean)) (by decide) rfl ?_
  intro p e s m args below meth c s₁ B hml hv
  obtain ⟨rfl, hP, hK, hN⟩ := hv
  have hx := B.exec
  have hb := B.bytes
  have hr := B.returns
  have hts := atoms_spec (ws := wsX2_hasRoomFor) B.pre
  have hown : s.vm.findClass RX2 = some m.cls := findClass_of_methodNamed B.named
  have hlocks := B.notSynchronized
  have hi2 : ∀ w ∈ wsX20, w ∈ wsX2_hasRoomFor := by decide +kernel
  have hok1 := hok.2.1
  have hok2 := hok.2.2.1
  have hok3 := hok.2.2.2
  generalize hH : s.heap = H at hP ⊢
  have hl := lv_entry ([.ref (ad 0), .int (nI b), .int (nI c0)]) (n := 3) (Nat.le_of_ble_eq_true rfl)
  rw [lg_entry_eq]
  generalize (lg_sl ([.ref (ad 0), .int (nI b), .int (nI c0)]) ++ List.replicate (3 - (lg_sl ([.ref (ad 0), .int (nI b), .int (nI c0)])).length) Slot.unset).toArray = ls at hl ⊢
  have hl : lv_has ls 3 [(0, .ref (ad 0)), (1, .int (nI b)), (2, .int (nI c0))] := hl
  refine lv_aload_n hx hb dX2_hasRoomFor_0 rfl (lv_at hl 0 rfl) ?_
  refine va_get (D := D) (ci := 2) (v := .int (nI (x 2))) (C := RX2) (T := TX2) (N := 11) hx hb hts hi2 hown hK hP 0 (wl_at (by omega)) rfl 5 (by decide) (hts (.fieldLink RX2 126 "BigLedger" "touched" "I") (by decide +kernel)) (fun _ h9 => h9) rfl dX2_hasRoomFor_1 ?_
  refine lv_iconst (v := 1) hx hb dX2_hasRoomFor_4 (by decide) ?_
  refine lv_iload_n hx hb dX2_hasRoomFor_5 rfl (lv_at hl 1 rfl) ?_
  refine lv_ishl hx hb dX2_hasRoomFor_6 ?_
  refine lv_topi (fun y14 ey14 => ?_)
  replace ey14 : y14 = nI (2 ^ b) := ey14.trans (i_sh b (by omega))
  subst ey14
  refine lv_ior hx hb dX2_hasRoomFor_7 ?_
  refine lv_topi (fun y15 ey15 => ?_)
  replace ey15 : y15 = nI (x 2 ||| 2 ^ b) := ey15.trans (fa_or _ _)
  subst ey15
  refine lv_iconst (v := 1) hx hb dX2_hasRoomFor_8 (by decide) ?_
  refine lv_iload_n hx hb dX2_hasRoomFor_9 rfl (lv_at hl 2 rfl) ?_
  refine lv_ishl hx hb dX2_hasRoomFor_10 ?_
  refine lv_topi (fun y16 ey16 => ?_)
  replace ey16 : y16 = nI (2 ^ c0) := ey16.trans (i_sh c0 (by omega))
  subst ey16
  refine lv_ior hx hb dX2_hasRoomFor_11 ?_
  refine lv_topi (fun y17 ey17 => ?_)
  replace ey17 : y17 = nI (x 2 ||| 2 ^ b ||| 2 ^ c0) := ey17.trans (fa_or _ _)
  subst ey17
  have hlt : (x 2 ||| 2 ^ b ||| 2 ^ c0) < 33554432 := Nat.or_lt_two_pow (n := 25) (Nat.or_lt_two_pow (n := 25) hx2 (Nat.pow_lt_pow_right (by decide) (by omega))) (Nat.pow_lt_pow_right (by decide) (by omega))
  refine vp_callSi (W.runS (As := [.int (nI (x 2 ||| 2 ^ b ||| 2 ^ c0))]) (rest := []) ⟨hx, hb, hml, hown, hts⟩ (c_bitCount l (x 2 ||| 2 ^ b ||| 2 ^ c0) (by omega)) (va_cwS 1 hts gX2_hasRoomFor_J6_bitCount_0f7a4 rfl rfl rfl (by decide +kernel) ⟨Nat.le_of_ble_eq_true rfl, Nat.le_of_ble_eq_true rfl⟩) preEq rfl rfl hl.1 rfl (lv_room (Nat.le_of_ble_eq_true rfl)) dX2_hasRoomFor_12 ⟨Nat.le_of_ble_eq_true rfl, Nat.le_of_ble_eq_true rfl⟩) (fun rb hrb => ?_)
  have hle : ctb (x 2 ||| 2 ^ b ||| 2 ^ c0) ≤ 32 := fb_ct_le _ 32
  subst hrb
  refine lv_aload_n hx hb dX2_hasRoomFor_15 rfl (lv_at hl 0 rfl) ?_
  refine va_get (D := D) (ci := 2) (v := .int (nI rm)) (C := RX2) (T := TX2) (N := 11) hx hb hts hi2 hown hK hP 0 (wl_at (by omega)) rfl 2 (by decide) (hts (.fieldLink RX2 20 "BigLedger" "room" "I") (by decide +kernel)) (fun _ h9 => h9) rfl dX2_hasRoomFor_16 ?_
  refine lv_icmp_gt (tgt := 26) hx hb dX2_hasRoomFor_19 (by decide) (fun c1 => ?_) (fun c1 => ?_)
  · refine lv_iconst (v := 0) hx hb dX2_hasRoomFor_26 (by decide) ?_
    exact W.zret (v := 0) (ty := .boolean) hx hb hr (rfl) (fun t ht hW => ⟨_, rfl, by rw [if_neg (Nat.not_le.mpr ((nI_ltI (by omega) (by omega)).mp c1))], ht.trans hH.symm⟩) (fun _ h => by cases h) dX2_hasRoomFor_27
  · refine lv_iconst (v := 1) hx hb dX2_hasRoomFor_22 (by decide) ?_
    refine lv_goto (tgt := 27) hx hb dX2_hasRoomFor_23 (by decide) ?_
    exact W.zret (v := 1) (ty := .boolean) hx hb hr (rfl) (fun t ht hW => ⟨_, rfl, by rw [if_pos (Nat.le_of_not_lt (fun q => c1 ((nI_ltI (by omega) (by omega)).mpr q)))], ht.trans hH.symm⟩) (fun _ h => by cases h) dX2_hasRoomFor_27
set_option maxHeartbeats 4000000 in
set_option maxRecDepth 100000 in
theorem c_isAmountAbove (l : Launch) (D : va_G) (ad : Nat → Nat) (cI cB cO : ClassId) (acc lm rm : Nat) (N : LN) (x : Nat → Nat) (z ob : Nat → Int32) (hok : lOk ad acc lm) (hNk : nOk lm N) (hx0 : x 0 < 2147483648 ^ (lm + 1)) (b : Nat) (hb0 : b ≤ acc) : Met l yX2_isAmountAbove wsX2_isAmountAbove ({ frames := 2, cells := 0, slots := 0, locals := 44 }) (lPc [.ref (ad 0), .int (nI b)] D (lW ad cI cB cO acc lm rm N x z ob) [(cI, .int), (cB, .byte), (cO, .object "BigLedger$Natural")]) (vp_Si (fun r => r = if sv N x b < x 0 then 1 else 0)) 0 0 (fun _ => False) := by
  refine Met.ofW (cc := cX2_isAmountAbove) (maxL := 2) (ret := (some .boolean)) (by decide) rfl ?_
  intro p e s m args below meth c s₁ B hml hv
  obtain ⟨rfl, hP, hK, hN⟩ := hv
  have hx := B.exec
  have hb := B.bytes
  have hr := B.returns
  have hts := atoms_spec (ws := wsX2_isAmountAbove) B.pre
  have hown : s.vm.findClass RX2 = some m.cls := findClass_of_methodNamed B.named
  have hlocks := B.notSynchronized
  have hi2 : ∀ w ∈ wsX20, w ∈ wsX2_isAmountAbove := by decide +kernel
  have hok1 := hok.2.1
  have hok2 := hok.2.2.1
  have hok3 := hok.2.2.2
  generalize hH : s.heap = H at hP ⊢
  have hl := lv_entry ([.ref (ad 0), .int (nI b)]) (n := 2) (Nat.le_of_ble_eq_true rfl)
  rw [lg_entry_eq]
  generalize (lg_sl ([.ref (ad 0), .int (nI b)]) ++ List.replicate (2 - (lg_sl ([.ref (ad 0), .int (nI b)])).length) Slot.unset).toArray = ls at hl ⊢
  have hl : lv_has ls 2 [(0, .ref (ad 0)), (1, .int (nI b))] := hl
  refine lv_aload_n hx hb dX2_isAmountAbove_0 rfl (lv_at hl 0 rfl) ?_
  refine va_get (D := D) (ci := 2) (v := .ref (ad 6)) (C := RX2) (T := TX2) (N := 11) hx hb hts hi2 hown hK hP 0 (wl_at (by omega)) rfl 6 (by decide) (hts (.fieldLink RX2 45 "BigLedger" "amount" "LBigLedger$Natural;") (by decide +kernel)) (fun _ h9 => h9) rfl dX2_isAmountAbove_1 ?_
  refine lv_aload_n hx hb dX2_isAmountAbove_4 rfl (lv_at hl 0 rfl) ?_
  refine lv_iload_n hx hb dX2_isAmountAbove_5 rfl (lv_at hl 1 rfl) ?_
  refine va_csr (W.runV (As := [.int (nI b)]) (rest := [.ref (ad 6)]) ⟨hx, hb, hml, hown, hts⟩ (c_seen l D ad cI cB cO acc lm rm N x z ob hok b (by omega)) (cwV 1 hts gX2_isAmountAbove_X2_seen rfl rfl rfl (by decide +kernel) ⟨Nat.le_of_ble_eq_true rfl, Nat.le_of_ble_eq_true rfl⟩) ⟨lPc_blind, va_recv hK hP (ci := 2) (q0 := 0) rfl (wl_at (by omega)), lPc_use (hP) ⟨hK, hN⟩⟩ rfl rfl hl.1 rfl (lv_room (Nat.le_of_ble_eq_true rfl)) dX2_isAmountAbove_6 ⟨Nat.le_of_ble_eq_true rfl, Nat.le_of_ble_eq_true rfl⟩) (fun ks hks => ?_)
  subst hks
  have hsk := sk_lt x b
  have hn1 := ln_am hP
  have hn2 := va_P.app hn1 (ln_p hP (sk x b) b (by omega) hb0)
  refine vp_callSi (W.runV (As := [.ref (ad (6 * b + 2 * sk x b + 10))]) (rest := []) ⟨hx, hb, hml, hown, hts⟩ (c_standingTo l D cI (lm + 1) (ad 6) (ad 7) (x 0) (ad (6 * b + 2 * sk x b + 10)) (ad (6 * b + 2 * sk x b + 11)) (N (sk x b) b) (by omega) hx0 (hNk _ _)) (cwV 1 hts gX2_isAmountAbove_X1_standingTo rfl rfl rfl (by decide +kernel) ⟨Nat.le_of_ble_eq_true rfl, Nat.le_of_ble_eq_true rfl⟩) ⟨nPc_blind, va_recv hK hn1 (ci := 1) (q0 := 0) rfl rfl, nPc_use (hn2) (hK.sub [0] rfl)⟩ rfl rfl hl.1 rfl (lv_room (Nat.le_of_ble_eq_true rfl)) dX2_isAmountAbove_9 ⟨Nat.le_of_ble_eq_true rfl, Nat.le_of_ble_eq_true rfl⟩) (fun rb hrb => ?_)
  refine lv_if_le (tgt := 19) hx hb dX2_isAmountAbove_12 (by decide) (fun c1 => ?_) (fun c1 => ?_)
  · refine lv_iconst (v := 0) hx hb dX2_isAmountAbove_19 (by decide) ?_
    exact W.zret (v := 0) (ty := .boolean) hx hb hr (rfl) (fun t ht hW => ⟨_, rfl, by
      rw [hrb] at c1
      by_cases h1 : x 0 < N (sk x b) b
      · rw [if_neg (by unfold sv; omega)]
      · rw [if_neg h1] at c1
        by_cases h2 : x 0 = N (sk x b) b
        · rw [if_neg (by unfold sv; omega)]
        · rw [if_neg h2] at c1; exact absurd c1 (by decide), ht.trans hH.symm⟩) (fun _ h => by cases h) dX2_isAmountAbove_20
  · refine lv_iconst (v := 1) hx hb dX2_isAmountAbove_15 (by decide) ?_
    refine lv_goto (tgt := 20) hx hb dX2_isAmountAbove_16 (by decide) ?_
    exact W.zret (v := 1) (ty := .boolean) hx hb hr (rfl) (fun t ht hW => ⟨_, rfl, by
      rw [hrb] at c1
      by_cases h1 : x 0 < N (sk x b) b
      · rw [if_pos h1] at c1; exact absurd (by decide) c1
      · rw [if_neg h1] at c1
        by_cases h2 : x 0 = N (sk x b) b
        · rw [if_pos h2] at c1; exact absurd (by decide) c1
        · rw [if_pos (by unfold sv; omega)], ht.trans hH.symm⟩) (fun _ h => by cases h) dX2_isAmountAbove_20
set_option maxHeartbeats 4000000 in
set_option maxRecDepth 100000 in
theorem c_wouldBeTooGreat (l : Launch) (D : va_G) (ad : Nat → Nat) (cI cB cO : ClassId) (acc lm rm : Nat) (N : LN) (x : Nat → Nat) (z ob : Nat → Int32) (hok : lOk ad acc lm) (hNk : nOk lm N) (hx0 : x 0 < 2147483648 ^ (lm + 1)) (hx1 : x 1 < 2147483648 ^ (lm + 1)) (b : Nat) (hb0 : b ≤ acc) (hsum : sv N x b + x 0 < 2147483648 ^ (lm + 1)) : Met l yX2_wouldBeTooGreat wsX2_wouldBeTooGreat ({ frames := 2, cells := 0, slots := 0, locals := 47 }) (lPc [.ref (ad 0), .int (nI b)] D (lW ad cI cB cO acc lm rm N x z ob) [(cI, .int), (cB, .byte), (cO, .object "BigLedger$Natural")]) (va_Qi (fun (r : Int32) (_ : Unit) => r = if lm < szF (sv N x b + x 0) (lm + 1) then 1 else 0) (fun _ t => va_P D vwCl (lW ad cI cB cO acc lm rm N (va_up x 1 (sv N x b + x 0)) z ob) t.heap) (lA ad acc)) 0 0 (lA ad acc) := by
  refine Met.ofW (cc := cX2_wouldBeTooGreat) (maxL := 2) (ret := (some .boolean)) (by decide) rfl ?_
  intro p e s m args below meth c s₁ B hml hv
  obtain ⟨rfl, hP, hK, hN⟩ := hv
  have hx := B.exec
  have hb := B.bytes
  have hr := B.returns
  have hts := atoms_spec (ws := wsX2_wouldBeTooGreat) B.pre
  have hown : s.vm.findClass RX2 = some m.cls := findClass_of_methodNamed B.named
  have hlocks := B.notSynchronized
  have hi1 : ∀ w ∈ wsX10, w ∈ wsX2_wouldBeTooGreat := by decide +kernel
  have hi2 : ∀ w ∈ wsX20, w ∈ wsX2_wouldBeTooGreat := by decide +kernel
  have hok1 := hok.2.1
  have hok2 := hok.2.2.1
  have hok3 := hok.2.2.2
  have hS : va_S (lA ad acc) s.heap s.heap [] := va_S.rf
  have hD : va_D (lA ad acc) (lW ad cI cB cO acc lm rm N x z ob) := wlD hok
  have hl := lv_entry ([.ref (ad 0), .int (nI b)]) (n := 2) (Nat.le_of_ble_eq_true rfl)
  rw [lg_entry_eq]
  generalize (lg_sl ([.ref (ad 0), .int (nI b)]) ++ List.replicate (2 - (lg_sl ([.ref (ad 0), .int (nI b)])).length) Slot.unset).toArray = ls at hl ⊢
  have hl : lv_has ls 2 [(0, .ref (ad 0)), (1, .int (nI b))] := hl
  refine lv_aload_n hx hb dX2_wouldBeTooGreat_0 rfl (lv_at hl 0 rfl) ?_
  refine va_get (D := D) (ci := 2) (v := .ref (ad 8)) (C := RX2) (T := TX2) (N := 11) hx hb hts hi2 hown hK hP 0 (wl_at (by omega)) rfl 8 (by decide) (hts (.fieldLink RX2 49 "BigLedger" "scratch" "LBigLedger$Natural;") (by decide +kernel)) (fun _ h9 => h9) rfl dX2_wouldBeTooGreat_1 ?_
  refine lv_aload_n hx hb dX2_wouldBeTooGreat_4 rfl (lv_at hl 0 rfl) ?_
  refine lv_iload_n hx hb dX2_wouldBeTooGreat_5 rfl (lv_at hl 1 rfl) ?_
  refine va_csr (W.runV (As := [.int (nI b)]) (rest := [.ref (ad 8)]) ⟨hx, hb, hml, hown, hts⟩ (c_seen l D ad cI cB cO acc lm rm N x z ob hok b (by omega)) (cwV 1 hts gX2_wouldBeTooGreat_X2_seen rfl rfl rfl (by decide +kernel) ⟨Nat.le_of_ble_eq_true rfl, Nat.le_of_ble_eq_true rfl⟩) ⟨lPc_blind, va_recv hK hP (ci := 2) (q0 := 0) rfl (wl_at (by omega)), lPc_use (hP) ⟨hK, hN⟩⟩ rfl rfl hl.1 rfl (lv_room (Nat.le_of_ble_eq_true rfl)) dX2_wouldBeTooGreat_6 ⟨Nat.le_of_ble_eq_true rfl, Nat.le_of_ble_eq_true rfl⟩) (fun ks hks => ?_)
  subst hks
  have hsk := sk_lt x b
  have hn18 := ln_sc hP
  have hn18u := va_P.app hn18 (ln_p hP (sk x b) b (by omega) hb0)
  refine va_callv (va_runV (As := [.ref (ad (6 * b + 2 * sk x b + 10))]) (rest := []) ⟨hx, hb, hml, hown, hts⟩ (c_setTo l D cI (lm + 1) (ad 8) (ad 9) (x 1) (by omega) (ln_oa (i := 8) hok (by omega)) hx1 (ad (6 * b + 2 * sk x b + 10)) (ad (6 * b + 2 * sk x b + 11)) (N (sk x b) b) (ln_ne (i := 8) hok (by omega) (by omega) (by omega) (by omega)) (ln_ne (i := 8) hok (by omega) (by omega) (by omega) (by omega)) (hNk _ _)) (cwV 1 hts gX2_wouldBeTooGreat_X1_setTo rfl rfl rfl (by decide +kernel) ⟨Nat.le_of_ble_eq_true rfl, Nat.le_of_ble_eq_true rfl⟩) ⟨nPc_blind, va_recv hK hn18 (ci := 1) (q0 := 0) rfl rfl, nPc_use (hn18u) (hK.sub [0] rfl)⟩ rfl rfl hl.1 rfl (lv_room (Nat.le_of_ble_eq_true rfl)) dX2_wouldBeTooGreat_9 ⟨Nat.le_of_ble_eq_true rfl, Nat.le_of_ble_eq_true rfl⟩) hS (fun q _ h => (fun q h => lA_n (i := 8) (by omega) h) q h) (fun q h => lA_n (i := 8) (by omega) h) (fun _u t H1 locs ht hvm hw hB hz1 hk9 hS => ?_)
  have hP9 := lk_sc hok hP hk9 (pB_at ht hB)
  generalize H1 = H at ht hz1 hk9 hS hP9 ⊢
  have hP : va_P D vwCl (lW ad cI cB cO acc lm rm N (va_up x 1 (sv N x b)) z ob) H := hP9
  have hD : va_D (lA ad acc) (lW ad cI cB cO acc lm rm N (va_up x 1 (sv N x b)) z ob) := wlD hok
  refine lv_aload_n hx hb dX2_wouldBeTooGreat_12 rfl (lv_at hl 0 rfl) ?_
  refine va_get (D := D) (ci := 2) (v := .ref (ad 8)) (C := RX2) (T := TX2) (N := 11) hx hb hts hi2 hown hK hP 0 (wl_at (by omega)) rfl 8 (by decide) (hts (.fieldLink RX2 49 "BigLedger" "scratch" "LBigLedger$Natural;") (by decide +kernel)) (fun _ h9 => h9) rfl dX2_wouldBeTooGreat_13 ?_
  refine lv_aload_n hx hb dX2_wouldBeTooGreat_16 rfl (lv_at hl 0 rfl) ?_
  refine va_get (D := D) (ci := 2) (v := .ref (ad 6)) (C := RX2) (T := TX2) (N := 11) hx hb hts hi2 hown hK hP 0 (wl_at (by omega)) rfl 6 (by decide) (hts (.fieldLink RX2 45 "BigLedger" "amount" "LBigLedger$Natural;") (by decide +kernel)) (fun _ h9 => h9) rfl dX2_wouldBeTooGreat_17 ?_
  have hn19 := ln_sc hP
  have hn19u := va_P.app hn19 (ln_am hP)
  refine va_callv (va_runV (As := [.ref (ad 6)]) (rest := []) ⟨hx, hb, hml, hown, hts⟩ (c_increase l D cI (lm + 1) (ad 8) (ad 9) (sv N x b) (by omega) (ln_oa (i := 8) hok (by omega)) (hNk _ _) (ad 6) (ad 7) (x 0) (ln_ne (i := 8) hok (by omega) (by omega) (by omega) (by omega)) (ln_ne (i := 8) hok (by omega) (by omega) (by omega) (by omega)) hx0 hsum) (cwV 1 hts gX2_wouldBeTooGreat_X1_increase rfl rfl rfl (by decide +kernel) ⟨Nat.le_of_ble_eq_true rfl, Nat.le_of_ble_eq_true rfl⟩) ⟨nPc_blind, va_recv hK hn19 (ci := 1) (q0 := 0) rfl rfl, nPc_use (hn19u) (hK.sub [0] rfl)⟩ rfl rfl hl.1 rfl (lv_room (Nat.le_of_ble_eq_true rfl)) dX2_wouldBeTooGreat_20 ⟨Nat.le_of_ble_eq_true rfl, Nat.le_of_ble_eq_true rfl⟩) hS (fun q _ h => (fun q h => lA_n (i := 8) (by omega) h) q h) (fun q h => lA_n (i := 8) (by omega) h) (fun _u t H1 locs ht hvm hw hB hz1 hk9 hS => ?_)
  have hP9 := cv (by rw [bx_uu]) (lk_sc hok hP hk9 (pB_at ht hB))
  generalize H1 = H at ht hz1 hk9 hS hP9 ⊢
  have hP : va_P D vwCl (lW ad cI cB cO acc lm rm N (va_up x 1 (sv N x b + x 0)) z ob) H := hP9
  have hD : va_D (lA ad acc) (lW ad cI cB cO acc lm rm N (va_up x 1 (sv N x b + x 0)) z ob) := wlD hok
  have hsz := szF_le (sv N x b + x 0) (lm + 1)
  refine lv_aload_n hx hb dX2_wouldBeTooGreat_23 rfl (lv_at hl 0 rfl) ?_
  refine va_get (D := D) (ci := 2) (v := .ref (ad 8)) (C := RX2) (T := TX2) (N := 11) hx hb hts hi2 hown hK hP 0 (wl_at (by omega)) rfl 8 (by decide) (hts (.fieldLink RX2 49 "BigLedger" "scratch" "LBigLedger$Natural;") (by decide +kernel)) (fun _ h9 => h9) rfl dX2_wouldBeTooGreat_24 ?_
  refine va_getN (D := D) (ci := 1) (host := RX2) (v := .int (nI (szF ((va_up x 1 (sv N x b + x 0)) 1) (lm + 1)))) (C := RX1) (T := TX1) (N := 2) hx hb hts hi1 hown hK hP 8 (wl_at (by omega)) rfl 1 (by decide) (va_Nw.use rfl (hN.2.2.2.2.1)) (fun _ h9 => h9) rfl dX2_wouldBeTooGreat_27 ?_
  refine lv_topi (fun y20 ey20 => ?_)
  replace ey20 : y20 = nI (szF (sv N x b + x 0) (lm + 1)) := ey20.trans (rfl)
  subst ey20
  refine lv_aload_n hx hb dX2_wouldBeTooGreat_30 rfl (lv_at hl 0 rfl) ?_
  refine va_get (D := D) (ci := 2) (v := .int (nI lm)) (C := RX2) (T := TX2) (N := 11) hx hb hts hi2 hown hK hP 0 (wl_at (by omega)) rfl 1 (by decide) (hts (.fieldLink RX2 17 "BigLedger" "limbs" "I") (by decide +kernel)) (fun _ h9 => h9) rfl dX2_wouldBeTooGreat_31 ?_
  refine lv_icmp_le (tgt := 41) hx hb dX2_wouldBeTooGreat_34 (by decide) (fun c1 => ?_) (fun c1 => ?_)
  · refine lv_iconst (v := 0) hx hb dX2_wouldBeTooGreat_41 (by decide) ?_
    exact W.zret (v := 0) (ty := .boolean) hx hb hr (rfl) (fun t ht hW => ⟨⟨_, (), rfl, by rw [if_neg (Nat.not_lt.mpr ((nI_leI (by omega) (by omega)).mp c1))], hp_at ht hP⟩, hS.F ht⟩) hS.2.2 dX2_wouldBeTooGreat_42
  · refine lv_iconst (v := 1) hx hb dX2_wouldBeTooGreat_37 (by decide) ?_
    refine lv_goto (tgt := 42) hx hb dX2_wouldBeTooGreat_38 (by decide) ?_
    exact W.zret (v := 1) (ty := .boolean) hx hb hr (rfl) (fun t ht hW => ⟨⟨_, (), rfl, by rw [if_pos (Nat.lt_of_not_le (fun q => c1 ((nI_leI (by omega) (by omega)).mpr q)))], hp_at ht hP⟩, hS.F ht⟩) hS.2.2 dX2_wouldBeTooGreat_42
set_option maxHeartbeats 4000000 in
set_option maxRecDepth 100000 in
theorem c_dropPending (l : Launch) (D : va_G) (ad : Nat → Nat) (cI cB cO : ClassId) (acc lm rm : Nat) (N : LN) (x : Nat → Nat) (z ob : Nat → Int32) (hok : lOk ad acc lm) : Met l yX2_dropPending wsX2_dropPending ({ frames := 0, cells := 0, slots := 0, locals := 0 }) (lPc [.ref (ad 0)] D (lW ad cI cB cO acc lm rm N x z ob) [(cI, .int), (cB, .byte), (cO, .object "BigLedger$Natural")]) (va_Qv (fun _ : Unit => True) (fun _ t => va_P D vwCl (lW ad cI cB cO acc lm rm N (va_up x 2 0) z ob) t.heap) (lA ad acc)) 0 0 (lA ad acc) := by
  refine Met.ofW (cc := cX2_dropPending) (maxL := 1) (ret := none) (by decide) rfl ?_
  intro p e s m args below meth c s₁ B hml hv
  obtain ⟨rfl, hP, hK, hN⟩ := hv
  have hx := B.exec
  have hb := B.bytes
  have hr := B.returns
  have hts := atoms_spec (ws := wsX2_dropPending) B.pre
  have hown : s.vm.findClass RX2 = some m.cls := findClass_of_methodNamed B.named
  have hlocks := B.notSynchronized
  have hi2 : ∀ w ∈ wsX20, w ∈ wsX2_dropPending := by decide +kernel
  have hok1 := hok.2.1
  have hok2 := hok.2.2.1
  have hok3 := hok.2.2.2
  have hS : va_S (lA ad acc) s.heap s.heap [] := va_S.rf
  have hD : va_D (lA ad acc) (lW ad cI cB cO acc lm rm N x z ob) := wlD hok
  have hl := lv_entry ([.ref (ad 0)]) (n := 1) (Nat.le_of_ble_eq_true rfl)
  rw [lg_entry_eq]
  generalize (lg_sl ([.ref (ad 0)]) ++ List.replicate (1 - (lg_sl ([.ref (ad 0)])).length) Slot.unset).toArray = ls at hl ⊢
  have hl : lv_has ls 1 [(0, .ref (ad 0))] := hl
  refine lv_aload_n hx hb dX2_dropPending_0 rfl (lv_at hl 0 rfl) ?_
  refine lv_iconst (v := 0) hx hb dX2_dropPending_1 (by decide) ?_
  refine lv_topi (fun y21 ey21 => ?_)
  replace ey21 : y21 = nI 0 := ey21.trans (nI_0.symm)
  subst ey21
  refine va_put (D := D) (ci := 2) (v := .int (nI 0)) (ty := .int) (C := RX2) (T := TX2) (N := 11) hx hb hts hi2 tyX2 tyX2_ok nmX2 hown hK hP hD hS 0 (wl_at (by omega)) rfl 5 (by decide) (hts (.fieldLink RX2 126 "BigLedger" "touched" "I") (by decide +kernel)) (fun _ h9 => h9) rfl (by decide +kernel) (rfl) (rfl) (Nat.le_of_ble_eq_true rfl) dX2_dropPending_2 (fun H locs hP hD hS => ?_)
  have hP : va_P D vwCl (lW ad cI cB cO acc lm rm N (va_up x 2 0) z ob) H := cv (ls_touched 0) hP
  have hD : va_D (lA ad acc) (lW ad cI cB cO acc lm rm N (va_up x 2 0) z ob) := wlD hok
  exact W.vret hx hb hr (fun t ht hW => ⟨⟨(), rfl, trivial, hp_at ht hP⟩, hS.F ht⟩) hS.2.2 dX2_dropPending_5
set_option maxHeartbeats 4000000 in
set_option maxRecDepth 100000 in
theorem c_loseMemory (l : Launch) (D : va_G) (ad : Nat → Nat) (cI cB cO : ClassId) (acc lm rm : Nat) (N : LN) (x : Nat → Nat) (z ob : Nat → Int32) (hok : lOk ad acc lm) : Met l yX2_loseMemory wsX2_loseMemory ({ frames := 1, cells := 0, slots := 0, locals := 21 }) (lPc [.ref (ad 0)] D (lW ad cI cB cO acc lm rm N x z ob) [(cI, .int), (cB, .byte), (cO, .object "BigLedger$Natural")]) (va_Qv (fun _ : Unit => True) (fun _ t => va_P D vwCl (lW ad cI cB cO acc lm rm N (cLose x) z ob) t.heap) (lA ad acc)) 0 0 (lA ad acc) := by
  refine Met.ofW (cc := cX2_loseMemory) (maxL := 1) (ret := none) (by decide) rfl ?_
  intro p e s m args below meth c s₁ B hml hv
  obtain ⟨rfl, hP, hK, hN⟩ := hv
  have hx := B.exec
  have hb := B.bytes
  have hr := B.returns
  have hts := atoms_spec (ws := wsX2_loseMemory) B.pre
  have hown : s.vm.findClass RX2 = some m.cls := findClass_of_methodNamed B.named
  have hlocks := B.notSynchronized
  have hi2 : ∀ w ∈ wsX20, w ∈ wsX2_loseMemory := by decide +kernel
  have hok1 := hok.2.1
  have hok2 := hok.2.2.1
  have hok3 := hok.2.2.2
  have hS : va_S (lA ad acc) s.heap s.heap [] := va_S.rf
  have hD : va_D (lA ad acc) (lW ad cI cB cO acc lm rm N x z ob) := wlD hok
  have hl := lv_entry ([.ref (ad 0)]) (n := 1) (Nat.le_of_ble_eq_true rfl)
  rw [lg_entry_eq]
  generalize (lg_sl ([.ref (ad 0)]) ++ List.replicate (1 - (lg_sl ([.ref (ad 0)])).length) Slot.unset).toArray = ls at hl ⊢
  have hl : lv_has ls 1 [(0, .ref (ad 0))] := hl
  refine lv_aload_n hx hb dX2_loseMemory_0 rfl (lv_at hl 0 rfl) ?_
  refine va_callv (va_runV (As := []) (rest := []) ⟨hx, hb, hml, hown, hts⟩ (c_dropPending l D ad cI cB cO acc lm rm N x z ob hok) (cwV 0 hts gX2_loseMemory_X2_dropPending rfl rfl rfl (by decide +kernel) ⟨Nat.le_of_ble_eq_true rfl, Nat.le_of_ble_eq_true rfl⟩) ⟨lPc_blind, va_recv hK hP (ci := 2) (q0 := 0) rfl (wl_at (by omega)), lPc_use (hP) ⟨hK, hN⟩⟩ rfl rfl hl.1 rfl (lv_room (Nat.le_of_ble_eq_true rfl)) dX2_loseMemory_1 ⟨Nat.le_of_ble_eq_true rfl, Nat.le_of_ble_eq_true rfl⟩) hS (fun q _ h => (fun _ h => h) q h) (fun _ h => h) (fun _u t H1 locs ht hvm hw hB hz1 hk9 hS => ?_)
  generalize H1 = H at ht hz1 hk9 hS ⊢
  have hP : va_P D vwCl (lW ad cI cB cO acc lm rm N (va_up x 2 0) z ob) H := pB_at ht hB
  have hD : va_D (lA ad acc) (lW ad cI cB cO acc lm rm N (va_up x 2 0) z ob) := wlD hok
  refine lv_aload_n hx hb dX2_loseMemory_4 rfl (lv_at hl 0 rfl) ?_
  refine va_get (D := D) (ci := 2) (v := .ref (ad 6)) (C := RX2) (T := TX2) (N := 11) hx hb hts hi2 hown hK hP 0 (wl_at (by omega)) rfl 6 (by decide) (hts (.fieldLink RX2 45 "BigLedger" "amount" "LBigLedger$Natural;") (by decide +kernel)) (fun _ h9 => h9) rfl dX2_loseMemory_5 ?_
  have hn22 := ln_am hP
  refine va_callv (va_runV (As := []) (rest := []) ⟨hx, hb, hml, hown, hts⟩ (c_setZero l D cI (lm + 1) (ad 6) (ad 7) (x 0) (by omega) (ln_oa (i := 6) hok (by omega))) (cwV 0 hts gX2_loseMemory_X1_setZero rfl rfl rfl (by decide +kernel) ⟨Nat.le_of_ble_eq_true rfl, Nat.le_of_ble_eq_true rfl⟩) ⟨nPc_blind, va_recv hK hn22 (ci := 1) (q0 := 0) rfl rfl, nPc_use (hn22) (hK.sub [0] rfl)⟩ rfl rfl hl.1 rfl (lv_room (Nat.le_of_ble_eq_true rfl)) dX2_loseMemory_8 ⟨Nat.le_of_ble_eq_true rfl, Nat.le_of_ble_eq_true rfl⟩) hS (fun q _ h => (fun q h => lA_n (i := 6) (by omega) h) q h) (fun q h => lA_n (i := 6) (by omega) h) (fun _u t H1 locs ht hvm hw hB hz1 hk9 hS => ?_)
  have hP9 := lk_am hok hP hk9 (pB_at ht hB)
  generalize H1 = H at ht hz1 hk9 hS hP9 ⊢
  have hP : va_P D vwCl (lW ad cI cB cO acc lm rm N (cLose x) z ob) H := hP9
  have hD : va_D (lA ad acc) (lW ad cI cB cO acc lm rm N (cLose x) z ob) := wlD hok
  exact W.vret hx hb hr (fun t ht hW => ⟨⟨(), rfl, trivial, hp_at ht hP⟩, hS.F ht⟩) hS.2.2 dX2_loseMemory_11

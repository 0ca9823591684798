set_option maxHeartbeats 4000000 in
set_option maxRecDepth 100000 in
theorem c_balanceSize (l : Launch) (D : va_G) (ad : Nat → Nat) (cI cB cO : ClassId) (acc lm rm : Nat) (N : LN) (x : Nat → Nat) (z ob : Nat → Int32) (hok : lOk ad acc lm) (p0 : Int32) : Met l yX2_balanceSize wsX2_balanceSize ({ frames := 2, cells := 0, slots := 0, locals := 42 }) (lPc [.ref (ad 0), .int (p0)] D (lW ad cI cB cO acc lm rm N x z ob) [(cI, .int), (cB, .byte), (cO, .object "BigLedger$Natural")]) (vp_Si (fun r => r = if z 0 = 0 then -1 else if ¬ isAcc acc p0 = true then -1 else nI (szF (sv N x p0.toNatClampNeg) (lm + 1)))) 0 0 (fun _ => False) := by
  refine Met.ofW (cc := cX2_balanceSize) (maxL := 2) (ret := (some .int)) (by decide) rfl ?_
  intro p e s m args below meth c s₁ B hml hv
  obtain ⟨rfl, hP, hK, hN⟩ := hv
  have hx := B.exec
  have hb := B.bytes
  have hr := B.returns
  have hts := atoms_spec (ws := wsX2_balanceSize) B.pre
  have hown : s.vm.findClass RX2 = some m.cls := findClass_of_methodNamed B.named
  have hlocks := B.notSynchronized
  have hi1 : ∀ w ∈ wsX10, w ∈ wsX2_balanceSize := by decide +kernel
  have hi2 : ∀ w ∈ wsX20, w ∈ wsX2_balanceSize := by decide +kernel
  have hok1 := hok.2.1
  have hok2 := hok.2.2.1
  have hok3 := hok.2.2.2
  generalize hH : s.heap = H at hP ⊢
  have hl := lv_entry ([.ref (ad 0), .int (p0)]) (n := 2) (Nat.le_of_ble_eq_true rfl)
  rw [lg_entry_eq]
  generalize (lg_sl ([.ref (ad 0), .int (p0)]) ++ List.replicate (2 - (lg_sl ([.ref (ad 0), .int (p0)])).length) Slot.unset).toArray = ls at hl ⊢
  have hl : lv_has ls 2 [(0, .ref (ad 0)), (1, .int (p0))] := hl
  refine lv_aload_n hx hb dX2_balanceSize_0 rfl (lv_at hl 0 rfl) ?_
  refine va_get (D := D) (ci := 2) (v := .int (z 0)) (C := RX2) (T := TX2) (N := 11) hx hb hts hi2 hown hK hP 0 (wl_at (by omega)) rfl 7 (by decide) (hts (.fieldLink RX2 71 "BigLedger" "up" "Z") (by decide +kernel)) (fun _ h9 => h9) rfl dX2_balanceSize_1 ?_
  refine lv_if_eq (tgt := 15) hx hb dX2_balanceSize_4 (by decide) (fun c0 => ?_) (fun c0 => ?_)
  · refine lv_iconst (v := (-1)) hx hb dX2_balanceSize_15 (by decide) ?_
    exact W.iret (v := -1) hx hb hr (fun t ht hW => ⟨_, rfl, (if_pos (c0)).symm, ht.trans hH.symm⟩) (fun _ h => by cases h) dX2_balanceSize_16
  · refine lv_aload_n hx hb dX2_balanceSize_7 rfl (lv_at hl 0 rfl) ?_
    refine lv_iload_n hx hb dX2_balanceSize_8 rfl (lv_at hl 1 rfl) ?_
    refine vp_callSi (W.runV (As := [.int (p0)]) (rest := []) ⟨hx, hb, hml, hown, hts⟩ (c_isAccount l D ad cI cB cO acc lm rm N x z ob hok p0) (cwV 1 hts gX2_balanceSize_X2_isAccount rfl rfl rfl (by decide +kernel) ⟨Nat.le_of_ble_eq_true rfl, Nat.le_of_ble_eq_true rfl⟩) ⟨lPc_blind, va_recv hK hP (ci := 2) (q0 := 0) rfl (wl_at (by omega)), lPc_use (hP) ⟨hK, hN⟩⟩ rfl rfl hl.1 rfl (lv_room (Nat.le_of_ble_eq_true rfl)) dX2_balanceSize_9 ⟨Nat.le_of_ble_eq_true rfl, Nat.le_of_ble_eq_true rfl⟩) (fun ra hra => ?_)
    refine lv_if_ne (tgt := 17) hx hb dX2_balanceSize_12 (by decide) (fun c1 => ?_) (fun c1 => ?_)
    · have ha : isAcc acc p0 = true := Classical.byContradiction (fun q => c1 (by rw [hra, if_neg q]))
      obtain ⟨b, hqb, rfl⟩ := isAcc_t (by omega) ha
      have eb : (nI b).toNatClampNeg = b := nI_clamp (by omega)
      refine lv_aload_n hx hb dX2_balanceSize_17 rfl (lv_at hl 0 rfl) ?_
      refine lv_iload_n hx hb dX2_balanceSize_18 rfl (lv_at hl 1 rfl) ?_
      refine va_csr (W.runV (As := [.int (nI b)]) (rest := []) ⟨hx, hb, hml, hown, hts⟩ (c_seen l D ad cI cB cO acc lm rm N x z ob hok b (by omega)) (cwV 1 hts gX2_balanceSize_X2_seen rfl rfl rfl (by decide +kernel) ⟨Nat.le_of_ble_eq_true rfl, Nat.le_of_ble_eq_true rfl⟩) ⟨lPc_blind, va_recv hK hP (ci := 2) (q0 := 0) rfl (wl_at (by omega)), lPc_use (hP) ⟨hK, hN⟩⟩ rfl rfl hl.1 rfl (lv_room (Nat.le_of_ble_eq_true rfl)) dX2_balanceSize_19 ⟨Nat.le_of_ble_eq_true rfl, Nat.le_of_ble_eq_true rfl⟩) (fun ks hks => ?_)
      subst hks
      have hsk := sk_lt x b
      have hn1 := ln_p hP (sk x b) b (by omega) (by omega)
      refine va_getN (D := D) (ci := 1) (host := RX2) (v := .int (nI (szF (N (sk x b) b) (lm + 1)))) (C := RX1) (T := TX1) (N := 2) hx hb hts hi1 hown hK hn1 0 rfl rfl 1 (by decide) (va_Nw.use rfl (hN.2.2.2.2.1)) (fun _ h9 => h9) rfl dX2_balanceSize_22 ?_
      exact W.iret (v := nI (szF (N (sk x b) b) (lm + 1))) hx hb hr (fun t ht hW => ⟨_, rfl, by rw [eb]; exact ((if_neg (c0)).trans (if_neg ((fun q => q ha)))).symm, ht.trans hH.symm⟩) (fun _ h => by cases h) dX2_balanceSize_25
    · have han : ¬ isAcc acc p0 = true := fun q => absurd c1 (by rw [hra, if_pos q]; decide)
      refine lv_iconst (v := (-1)) hx hb dX2_balanceSize_15 (by decide) ?_
      exact W.iret (v := -1) hx hb hr (fun t ht hW => ⟨_, rfl, ((if_neg (c0)).trans (if_pos (han))).symm, ht.trans hH.symm⟩) (fun _ h => by cases h) dX2_balanceSize_16
set_option maxHeartbeats 4000000 in
set_option maxRecDepth 100000 in
theorem c_balanceLimb (l : Launch) (D : va_G) (ad : Nat → Nat) (cI cB cO : ClassId) (acc lm rm : Nat) (N : LN) (x : Nat → Nat) (z ob : Nat → Int32) (hok : lOk ad acc lm) (hNk : nOk lm N) (p0 p1 : Int32) : Met l yX2_balanceLimb wsX2_balanceLimb ({ frames := 2, cells := 0, slots := 0, locals := 42 }) (lPc [.ref (ad 0), .int (p0), .int (p1)] D (lW ad cI cB cO acc lm rm N x z ob) [(cI, .int), (cB, .byte), (cO, .object "BigLedger$Natural")]) (vp_Si (fun r => r = if z 0 = 0 then -1 else if ¬ isAcc acc p0 = true then -1 else if p1 < 0 then -1 else lb (sv N x p0.toNatClampNeg) p1.toNatClampNeg)) 0 0 (fun _ => False) := by
  refine Met.ofW (cc := cX2_balanceLimb) (maxL := 3) (ret := (some .int)) (by decide) rfl ?_
  intro p e s m args below meth c s₁ B hml hv
  obtain ⟨rfl, hP, hK, hN⟩ := hv
  have hx := B.exec
  have hb := B.bytes
  have hr := B.returns
  have hts := atoms_spec (ws := wsX2_balanceLimb) B.pre
  have hown : s.vm.findClass RX2 = some m.cls := findClass_of_methodNamed B.named
  have hlocks := B.notSynchronized
  have hi2 : ∀ w ∈ wsX20, w ∈ wsX2_balanceLimb := by decide +kernel
  have hok1 := hok.2.1
  have hok2 := hok.2.2.1
  have hok3 := hok.2.2.2
  generalize hH : s.heap = H at hP ⊢
  have hl := lv_entry ([.ref (ad 0), .int (p0), .int (p1)]) (n := 3) (Nat.le_of_ble_eq_true rfl)
  rw [lg_entry_eq]
  generalize (lg_sl ([.ref (ad 0), .int (p0), .int (p1)]) ++ List.replicate (3 - (lg_sl ([.ref (ad 0), .int (p0), .int (p1)])).length) Slot.unset).toArray = ls at hl ⊢
  have hl : lv_has ls 3 [(0, .ref (ad 0)), (1, .int (p0)), (2, .int (p1))] := hl
  refine lv_aload_n hx hb dX2_balanceLimb_0 rfl (lv_at hl 0 rfl) ?_
  refine va_get (D := D) (ci := 2) (v := .int (z 0)) (C := RX2) (T := TX2) (N := 11) hx hb hts hi2 hown hK hP 0 (wl_at (by omega)) rfl 7 (by decide) (hts (.fieldLink RX2 71 "BigLedger" "up" "Z") (by decide +kernel)) (fun _ h9 => h9) rfl dX2_balanceLimb_1 ?_
  refine lv_if_eq (tgt := 19) hx hb dX2_balanceLimb_4 (by decide) (fun c0 => ?_) (fun c0 => ?_)
  · refine lv_iconst (v := (-1)) hx hb dX2_balanceLimb_19 (by decide) ?_
    exact W.iret (v := -1) hx hb hr (fun t ht hW => ⟨_, rfl, (if_pos (c0)).symm, ht.trans hH.symm⟩) (fun _ h => by cases h) dX2_balanceLimb_20
  · refine lv_aload_n hx hb dX2_balanceLimb_7 rfl (lv_at hl 0 rfl) ?_
    refine lv_iload_n hx hb dX2_balanceLimb_8 rfl (lv_at hl 1 rfl) ?_
    refine vp_callSi (W.runV (As := [.int (p0)]) (rest := []) ⟨hx, hb, hml, hown, hts⟩ (c_isAccount l D ad cI cB cO acc lm rm N x z ob hok p0) (cwV 1 hts gX2_balanceLimb_X2_isAccount rfl rfl rfl (by decide +kernel) ⟨Nat.le_of_ble_eq_true rfl, Nat.le_of_ble_eq_true rfl⟩) ⟨lPc_blind, va_recv hK hP (ci := 2) (q0 := 0) rfl (wl_at (by omega)), lPc_use (hP) ⟨hK, hN⟩⟩ rfl rfl hl.1 rfl (lv_room (Nat.le_of_ble_eq_true rfl)) dX2_balanceLimb_9 ⟨Nat.le_of_ble_eq_true rfl, Nat.le_of_ble_eq_true rfl⟩) (fun ra hra => ?_)
    refine lv_if_eq (tgt := 19) hx hb dX2_balanceLimb_12 (by decide) (fun c1 => ?_) (fun c1 => ?_)
    · have han : ¬ isAcc acc p0 = true := fun q => absurd c1 (by rw [hra, if_pos q]; decide)
      refine lv_iconst (v := (-1)) hx hb dX2_balanceLimb_19 (by decide) ?_
      exact W.iret (v := -1) hx hb hr (fun t ht hW => ⟨_, rfl, ((if_neg (c0)).trans (if_pos (han))).symm, ht.trans hH.symm⟩) (fun _ h => by cases h) dX2_balanceLimb_20
    · have ha : isAcc acc p0 = true := Classical.byContradiction (fun q => c1 (by rw [hra, if_neg q]))
      obtain ⟨b, hqb, rfl⟩ := isAcc_t (by omega) ha
      have eb : (nI b).toNatClampNeg = b := nI_clamp (by omega)
      refine lv_iload_n hx hb dX2_balanceLimb_15 rfl (lv_at hl 2 rfl) ?_
      refine lv_if_ge (tgt := 21) hx hb dX2_balanceLimb_16 (by decide) (fun c2 => ?_) (fun c2 => ?_)
      · have c3 : ¬ p1 < 0 := fun q => (fa_of_lt q).2.1 c2
        refine lv_aload_n hx hb dX2_balanceLimb_21 rfl (lv_at hl 0 rfl) ?_
        refine lv_iload_n hx hb dX2_balanceLimb_22 rfl (lv_at hl 1 rfl) ?_
        refine va_csr (W.runV (As := [.int (nI b)]) (rest := []) ⟨hx, hb, hml, hown, hts⟩ (c_seen l D ad cI cB cO acc lm rm N x z ob hok b (by omega)) (cwV 1 hts gX2_balanceLimb_X2_seen rfl rfl rfl (by decide +kernel) ⟨Nat.le_of_ble_eq_true rfl, Nat.le_of_ble_eq_true rfl⟩) ⟨lPc_blind, va_recv hK hP (ci := 2) (q0 := 0) rfl (wl_at (by omega)), lPc_use (hP) ⟨hK, hN⟩⟩ rfl rfl hl.1 rfl (lv_room (Nat.le_of_ble_eq_true rfl)) dX2_balanceLimb_23 ⟨Nat.le_of_ble_eq_true rfl, Nat.le_of_ble_eq_true rfl⟩) (fun ks hks => ?_)
        subst hks
        have hsk := sk_lt x b
        have hn1 := ln_p hP (sk x b) b (by omega) (by omega)
        refine lv_iload_n hx hb dX2_balanceLimb_26 rfl (lv_at hl 2 rfl) ?_
        refine vp_callSi (W.runV (As := [.int (p1)]) (rest := []) ⟨hx, hb, hml, hown, hts⟩ (c_limbAt l D cI (lm + 1) (ad (6 * b + 2 * sk x b + 10)) (ad (6 * b + 2 * sk x b + 11)) (N (sk x b) b) p1 (by omega) (hNk _ _)) (cwV 1 hts gX2_balanceLimb_X1_limbAt rfl rfl rfl (by decide +kernel) ⟨Nat.le_of_ble_eq_true rfl, Nat.le_of_ble_eq_true rfl⟩) ⟨nPc_blind, va_recv hK hn1 (ci := 1) (q0 := 0) rfl rfl, nPc_use (hn1) (hK.sub [0] rfl)⟩ rfl rfl hl.1 rfl (lv_room (Nat.le_of_ble_eq_true rfl)) dX2_balanceLimb_27 ⟨Nat.le_of_ble_eq_true rfl, Nat.le_of_ble_eq_true rfl⟩) (fun rl hrl => ?_)
        replace hrl := hrl.trans (if_neg c3)
        exact W.iret (v := rl) hx hb hr (fun t ht hW => ⟨_, rfl, by rw [eb]; exact hrl.trans ((if_neg (c0)).trans ((if_neg ((fun q => q ha))).trans (if_neg (c3)))).symm, ht.trans hH.symm⟩) (fun _ h => by cases h) dX2_balanceLimb_30
      · refine lv_iconst (v := (-1)) hx hb dX2_balanceLimb_19 (by decide) ?_
        exact W.iret (v := -1) hx hb hr (fun t ht hW => ⟨_, rfl, ((if_neg (c0)).trans ((if_neg ((fun q => q ha))).trans (if_pos (fa_of_nle c2)))).symm, ht.trans hH.symm⟩) (fun _ h => by cases h) dX2_balanceLimb_20
set_option maxHeartbeats 4000000 in
set_option maxRecDepth 100000 in
theorem c_totalLimb (l : Launch) (D : va_G) (ad : Nat → Nat) (cI cB cO : ClassId) (acc lm rm : Nat) (N : LN) (x : Nat → Nat) (z ob : Nat → Int32) (hok : lOk ad acc lm) (hNk : nOk lm N) (p0 : Int32) : Met l yX2_totalLimb wsX2_totalLimb ({ frames := 2, cells := 0, slots := 0, locals := 42 }) (lPc [.ref (ad 0), .int (p0)] D (lW ad cI cB cO acc lm rm N x z ob) [(cI, .int), (cB, .byte), (cO, .object "BigLedger$Natural")]) (vp_Si (fun r => r = if z 0 = 0 then -1 else if p0 < 0 then -1 else lb (sv N x acc) p0.toNatClampNeg)) 0 0 (fun _ => False) := by
  refine Met.ofW (cc := cX2_totalLimb) (maxL := 2) (ret := (some .int)) (by decide) rfl ?_
  intro p e s m args below meth c s₁ B hml hv
  obtain ⟨rfl, hP, hK, hN⟩ := hv
  have hx := B.exec
  have hb := B.bytes
  have hr := B.returns
  have hts := atoms_spec (ws := wsX2_totalLimb) B.pre
  have hown : s.vm.findClass RX2 = some m.cls := findClass_of_methodNamed B.named
  have hlocks := B.notSynchronized
  have hi2 : ∀ w ∈ wsX20, w ∈ wsX2_totalLimb := by decide +kernel
  have hok1 := hok.2.1
  have hok2 := hok.2.2.1
  have hok3 := hok.2.2.2
  generalize hH : s.heap = H at hP ⊢
  have hl := lv_entry ([.ref (ad 0), .int (p0)]) (n := 2) (Nat.le_of_ble_eq_true rfl)
  rw [lg_entry_eq]
  generalize (lg_sl ([.ref (ad 0), .int (p0)]) ++ List.replicate (2 - (lg_sl ([.ref (ad 0), .int (p0)])).length) Slot.unset).toArray = ls at hl ⊢
  have hl : lv_has ls 2 [(0, .ref (ad 0)), (1, .int (p0))] := hl
  refine lv_aload_n hx hb dX2_totalLimb_0 rfl (lv_at hl 0 rfl) ?_
  refine va_get (D := D) (ci := 2) (v := .int (z 0)) (C := RX2) (T := TX2) (N := 11) hx hb hts hi2 hown hK hP 0 (wl_at (by omega)) rfl 7 (by decide) (hts (.fieldLink RX2 71 "BigLedger" "up" "Z") (by decide +kernel)) (fun _ h9 => h9) rfl dX2_totalLimb_1 ?_
  refine lv_if_eq (tgt := 11) hx hb dX2_totalLimb_4 (by decide) (fun c0 => ?_) (fun c0 => ?_)
  · refine lv_iconst (v := (-1)) hx hb dX2_totalLimb_11 (by decide) ?_
    exact W.iret (v := -1) hx hb hr (fun t ht hW => ⟨_, rfl, (if_pos (c0)).symm, ht.trans hH.symm⟩) (fun _ h => by cases h) dX2_totalLimb_12
  · refine lv_iload_n hx hb dX2_totalLimb_7 rfl (lv_at hl 1 rfl) ?_
    refine lv_if_ge (tgt := 13) hx hb dX2_totalLimb_8 (by decide) (fun c2 => ?_) (fun c2 => ?_)
    · have c3 : ¬ p0 < 0 := fun q => (fa_of_lt q).2.1 c2
      refine lv_aload_n hx hb dX2_totalLimb_13 rfl (lv_at hl 0 rfl) ?_
      refine lv_aload_n hx hb dX2_totalLimb_14 rfl (lv_at hl 0 rfl) ?_
      refine vp_callSi (W.runV (As := []) (rest := [.ref (ad 0)]) ⟨hx, hb, hml, hown, hts⟩ (c_totalBlock l D ad cI cB cO acc lm rm N x z ob hok) (cwV 0 hts gX2_totalLimb_X2_totalBlock rfl rfl rfl (by decide +kernel) ⟨Nat.le_of_ble_eq_true rfl, Nat.le_of_ble_eq_true rfl⟩) ⟨lPc_blind, va_recv hK hP (ci := 2) (q0 := 0) rfl (wl_at (by omega)), lPc_use (hP) ⟨hK, hN⟩⟩ rfl rfl hl.1 rfl (lv_room (Nat.le_of_ble_eq_true rfl)) dX2_totalLimb_15 ⟨Nat.le_of_ble_eq_true rfl, Nat.le_of_ble_eq_true rfl⟩) (fun rt hrt => ?_)
      subst hrt
      refine va_csr (W.runV (As := [.int (nI acc)]) (rest := []) ⟨hx, hb, hml, hown, hts⟩ (c_seen l D ad cI cB cO acc lm rm N x z ob hok acc (by omega)) (cwV 1 hts gX2_totalLimb_X2_seen rfl rfl rfl (by decide +kernel) ⟨Nat.le_of_ble_eq_true rfl, Nat.le_of_ble_eq_true rfl⟩) ⟨lPc_blind, va_recv hK hP (ci := 2) (q0 := 0) rfl (wl_at (by omega)), lPc_use (hP) ⟨hK, hN⟩⟩ rfl rfl hl.1 rfl (lv_room (Nat.le_of_ble_eq_true rfl)) dX2_totalLimb_18 ⟨Nat.le_of_ble_eq_true rfl, Nat.le_of_ble_eq_true rfl⟩) (fun ks hks => ?_)
      subst hks
      have hsk := sk_lt x acc
      have hn1 := ln_p hP (sk x acc) acc (by omega) (by omega)
      refine lv_iload_n hx hb dX2_totalLimb_21 rfl (lv_at hl 1 rfl) ?_
      refine vp_callSi (W.runV (As := [.int (p0)]) (rest := []) ⟨hx, hb, hml, hown, hts⟩ (c_limbAt l D cI (lm + 1) (ad (6 * acc + 2 * sk x acc + 10)) (ad (6 * acc + 2 * sk x acc + 11)) (N (sk x acc) acc) p0 (by omega) (hNk _ _)) (cwV 1 hts gX2_totalLimb_X1_limbAt rfl rfl rfl (by decide +kernel) ⟨Nat.le_of_ble_eq_true rfl, Nat.le_of_ble_eq_true rfl⟩) ⟨nPc_blind, va_recv hK hn1 (ci := 1) (q0 := 0) rfl rfl, nPc_use (hn1) (hK.sub [0] rfl)⟩ rfl rfl hl.1 rfl (lv_room (Nat.le_of_ble_eq_true rfl)) dX2_totalLimb_22 ⟨Nat.le_of_ble_eq_true rfl, Nat.le_of_ble_eq_true rfl⟩) (fun rl hrl => ?_)
      replace hrl := hrl.trans (if_neg c3)
      exact W.iret (v := rl) hx hb hr (fun t ht hW => ⟨_, rfl, hrl.trans ((if_neg (c0)).trans (if_neg (c3))).symm, ht.trans hH.symm⟩) (fun _ h => by cases h) dX2_totalLimb_25
    · refine lv_iconst (v := (-1)) hx hb dX2_totalLimb_11 (by decide) ?_
      exact W.iret (v := -1) hx hb hr (fun t ht hW => ⟨_, rfl, ((if_neg (c0)).trans (if_pos (fa_of_nle c2))).symm, ht.trans hH.symm⟩) (fun _ h => by cases h) dX2_totalLimb_12
set_option maxHeartbeats 4000000 in
set_option maxRecDepth 100000 in
theorem c_amount (l : Launch) (D : va_G) (ad : Nat → Nat) (cI cB cO : ClassId) (acc lm rm : Nat) (N : LN) (x : Nat → Nat) (z ob : Nat → Int32) (hok : lOk ad acc lm) (hx0 : x 0 < 2147483648 ^ (lm + 1)) (p0 : Int32) : Met l yX2_amount wsX2_amount ({ frames := 1, cells := 0, slots := 0, locals := 21 }) (lPc [.ref (ad 0), .int (p0)] D (lW ad cI cB cO acc lm rm N x z ob) [(cI, .int), (cB, .byte), (cO, .object "BigLedger$Natural")]) (vp_Si (fun r => r = if z 0 = 0 then -1 else if p0 < 0 then -1 else lb (x 0) p0.toNatClampNeg)) 0 0 (fun _ => False) := by
  refine Met.ofW (cc := cX2_amount) (maxL := 2) (ret := (some .int)) (by decide) rfl ?_
  intro p e s m args below meth c s₁ B hml hv
  obtain ⟨rfl, hP, hK, hN⟩ := hv
  have hx := B.exec
  have hb := B.bytes
  have hr := B.returns
  have hts := atoms_spec (ws := wsX2_amount) B.pre
  have hown : s.vm.findClass RX2 = some m.cls := findClass_of_methodNamed B.named
  have hlocks := B.notSynchronized
  have hi2 : ∀ w ∈ wsX20, w ∈ wsX2_amount := by decide +kernel
  have hok1 := hok.2.1
  have hok2 := hok.2.2.1
  have hok3 := hok.2.2.2
  generalize hH : s.heap = H at hP ⊢
  have hl := lv_entry ([.ref (ad 0), .int (p0)]) (n := 2) (Nat.le_of_ble_eq_true rfl)
  rw [lg_entry_eq]
  generalize (lg_sl ([.ref (ad 0), .int (p0)]) ++ List.replicate (2 - (lg_sl ([.ref (ad 0), .int (p0)])).length) Slot.unset).toArray = ls at hl ⊢
  have hl : lv_has ls 2 [(0, .ref (ad 0)), (1, .int (p0))] := hl
  refine lv_aload_n hx hb dX2_amount_0 rfl (lv_at hl 0 rfl) ?_
  refine va_get (D := D) (ci := 2) (v := .int (z 0)) (C := RX2) (T := TX2) (N := 11) hx hb hts hi2 hown hK hP 0 (wl_at (by omega)) rfl 7 (by decide) (hts (.fieldLink RX2 71 "BigLedger" "up" "Z") (by decide +kernel)) (fun _ h9 => h9) rfl dX2_amount_1 ?_
  refine lv_if_eq (tgt := 11) hx hb dX2_amount_4 (by decide) (fun c0 => ?_) (fun c0 => ?_)
  · refine lv_iconst (v := (-1)) hx hb dX2_amount_11 (by decide) ?_
    exact W.iret (v := -1) hx hb hr (fun t ht hW => ⟨_, rfl, (if_pos (c0)).symm, ht.trans hH.symm⟩) (fun _ h => by cases h) dX2_amount_12
  · refine lv_iload_n hx hb dX2_amount_7 rfl (lv_at hl 1 rfl) ?_
    refine lv_if_ge (tgt := 13) hx hb dX2_amount_8 (by decide) (fun c2 => ?_) (fun c2 => ?_)
    · have c3 : ¬ p0 < 0 := fun q => (fa_of_lt q).2.1 c2
      have hn1 := ln_am hP
      refine lv_aload_n hx hb dX2_amount_13 rfl (lv_at hl 0 rfl) ?_
      refine va_get (D := D) (ci := 2) (v := .ref (ad 6)) (C := RX2) (T := TX2) (N := 11) hx hb hts hi2 hown hK hP 0 (wl_at (by omega)) rfl 6 (by decide) (hts (.fieldLink RX2 45 "BigLedger" "amount" "LBigLedger$Natural;") (by decide +kernel)) (fun _ h9 => h9) rfl dX2_amount_14 ?_
      refine lv_iload_n hx hb dX2_amount_17 rfl (lv_at hl 1 rfl) ?_
      refine vp_callSi (W.runV (As := [.int (p0)]) (rest := []) ⟨hx, hb, hml, hown, hts⟩ (c_limbAt l D cI (lm + 1) (ad 6) (ad 7) (x 0) p0 (by omega) (hx0)) (cwV 1 hts gX2_amount_X1_limbAt rfl rfl rfl (by decide +kernel) ⟨Nat.le_of_ble_eq_true rfl, Nat.le_of_ble_eq_true rfl⟩) ⟨nPc_blind, va_recv hK hn1 (ci := 1) (q0 := 0) rfl rfl, nPc_use (hn1) (hK.sub [0] rfl)⟩ rfl rfl hl.1 rfl (lv_room (Nat.le_of_ble_eq_true rfl)) dX2_amount_18 ⟨Nat.le_of_ble_eq_true rfl, Nat.le_of_ble_eq_true rfl⟩) (fun rl hrl => ?_)
      replace hrl := hrl.trans (if_neg c3)
      exact W.iret (v := rl) hx hb hr (fun t ht hW => ⟨_, rfl, hrl.trans ((if_neg (c0)).trans (if_neg (c3))).symm, ht.trans hH.symm⟩) (fun _ h => by cases h) dX2_amount_21
    · refine lv_iconst (v := (-1)) hx hb dX2_amount_11 (by decide) ?_
      exact W.iret (v := -1) hx hb hr (fun t ht hW => ⟨_, rfl, ((if_neg (c0)).trans (if_pos (fa_of_nle c2))).symm, ht.trans hH.symm⟩) (fun _ h => by cases h) dX2_amount_12
set_option maxHeartbeats 4000000 in
set_option maxRecDepth 100000 in
theorem c_compare (l : Launch) (D : va_G) (ad : Nat → Nat) (cI cB cO : ClassId) (acc lm rm : Nat) (N : LN) (x : Nat → Nat) (z ob : Nat → Int32) (hok : lOk ad acc lm) (hNk : nOk lm N) (p0 p1 : Int32) : Met l yX2_compare wsX2_compare ({ frames := 2, cells := 0, slots := 0, locals := 44 }) (lPc [.ref (ad 0), .int (p0), .int (p1)] D (lW ad cI cB cO acc lm rm N x z ob) [(cI, .int), (cB, .byte), (cO, .object "BigLedger$Natural")]) (vp_Si (fun r => r = if z 0 = 0 then -2 else if ¬ (isAcc acc p0 = true ∧ isAcc acc p1 = true) then -2 else cmpI (sv N x p0.toNatClampNeg) (sv N x p1.toNatClampNeg))) 0 0 (fun _ => False) := by
  refine Met.ofW (cc := cX2_compare) (maxL := 3) (ret := (some .int)) (by decide) rfl ?_
  intro p e s m args below meth c s₁ B hml hv
  obtain ⟨rfl, hP, hK, hN⟩ := hv
  have hx := B.exec
  have hb := B.bytes
  have hr := B.returns
  have hts := atoms_spec (ws := wsX2_compare) B.pre
  have hown : s.vm.findClass RX2 = some m.cls := findClass_of_methodNamed B.named
  have hlocks := B.notSynchronized
  have hi2 : ∀ w ∈ wsX20, w ∈ wsX2_compare := by decide +kernel
  have hok1 := hok.2.1
  have hok2 := hok.2.2.1
  have hok3 := hok.2.2.2
  generalize hH : s.heap = H at hP ⊢
  have hl := lv_entry ([.ref (ad 0), .int (p0), .int (p1)]) (n := 3) (Nat.le_of_ble_eq_true rfl)
  rw [lg_entry_eq]
  generalize (lg_sl ([.ref (ad 0), .int (p0), .int (p1)]) ++ List.replicate (3 - (lg_sl ([.ref (ad 0), .int (p0), .int (p1)])).length) Slot.unset).toArray = ls at hl ⊢
  have hl : lv_has ls 3 [(0, .ref (ad 0)), (1, .int (p0)), (2, .int (p1))] := hl
  refine lv_aload_n hx hb dX2_compare_0 rfl (lv_at hl 0 rfl) ?_
  refine va_get (D := D) (ci := 2) (v := .int (z 0)) (C := RX2) (T := TX2) (N := 11) hx hb hts hi2 hown hK hP 0 (wl_at (by omega)) rfl 7 (by decide) (hts (.fieldLink RX2 71 "BigLedger" "up" "Z") (by decide +kernel)) (fun _ h9 => h9) rfl dX2_compare_1 ?_
  refine lv_if_eq (tgt := 23) hx hb dX2_compare_4 (by decide) (fun c0 => ?_) (fun c0 => ?_)
  · refine lv_bipush (v := (-2)) hx hb dX2_compare_23 (by decide) ?_
    exact W.iret (v := -2) hx hb hr (fun t ht hW => ⟨_, rfl, (if_pos (c0)).symm, ht.trans hH.symm⟩) (fun _ h => by cases h) dX2_compare_25
  · refine lv_aload_n hx hb dX2_compare_7 rfl (lv_at hl 0 rfl) ?_
    refine lv_iload_n hx hb dX2_compare_8 rfl (lv_at hl 1 rfl) ?_
    refine vp_callSi (W.runV (As := [.int (p0)]) (rest := []) ⟨hx, hb, hml, hown, hts⟩ (c_isAccount l D ad cI cB cO acc lm rm N x z ob hok p0) (cwV 1 hts gX2_compare_X2_isAccount rfl rfl rfl (by decide +kernel) ⟨Nat.le_of_ble_eq_true rfl, Nat.le_of_ble_eq_true rfl⟩) ⟨lPc_blind, va_recv hK hP (ci := 2) (q0 := 0) rfl (wl_at (by omega)), lPc_use (hP) ⟨hK, hN⟩⟩ rfl rfl hl.1 rfl (lv_room (Nat.le_of_ble_eq_true rfl)) dX2_compare_9 ⟨Nat.le_of_ble_eq_true rfl, Nat.le_of_ble_eq_true rfl⟩) (fun ra hra => ?_)
    refine lv_if_eq (tgt := 23) hx hb dX2_compare_12 (by decide) (fun c1 => ?_) (fun c1 => ?_)
    · have han : ¬ isAcc acc p0 = true := fun q => absurd c1 (by rw [hra, if_pos q]; decide)
      refine lv_bipush (v := (-2)) hx hb dX2_compare_23 (by decide) ?_
      exact W.iret (v := -2) hx hb hr (fun t ht hW => ⟨_, rfl, ((if_neg (c0)).trans (if_pos ((fun q => han q.1)))).symm, ht.trans hH.symm⟩) (fun _ h => by cases h) dX2_compare_25
    · have ha : isAcc acc p0 = true := Classical.byContradiction (fun q => c1 (by rw [hra, if_neg q]))
      obtain ⟨b, hqb, rfl⟩ := isAcc_t (by omega) ha
      have eb : (nI b).toNatClampNeg = b := nI_clamp (by omega)
      refine lv_aload_n hx hb dX2_compare_15 rfl (lv_at hl 0 rfl) ?_
      refine lv_iload_n hx hb dX2_compare_16 rfl (lv_at hl 2 rfl) ?_
      refine vp_callSi (W.runV (As := [.int (p1)]) (rest := []) ⟨hx, hb, hml, hown, hts⟩ (c_isAccount l D ad cI cB cO acc lm rm N x z ob hok p1) (cwV 1 hts gX2_compare_X2_isAccount rfl rfl rfl (by decide +kernel) ⟨Nat.le_of_ble_eq_true rfl, Nat.le_of_ble_eq_true rfl⟩) ⟨lPc_blind, va_recv hK hP (ci := 2) (q0 := 0) rfl (wl_at (by omega)), lPc_use (hP) ⟨hK, hN⟩⟩ rfl rfl hl.1 rfl (lv_room (Nat.le_of_ble_eq_true rfl)) dX2_compare_17 ⟨Nat.le_of_ble_eq_true rfl, Nat.le_of_ble_eq_true rfl⟩) (fun ra2 hra2 => ?_)
      refine lv_if_ne (tgt := 26) hx hb dX2_compare_20 (by decide) (fun c12 => ?_) (fun c12 => ?_)
      · have ha2 : isAcc acc p1 = true := Classical.byContradiction (fun q => c12 (by rw [hra2, if_neg q]))
        obtain ⟨d, hqd, rfl⟩ := isAcc_t (by omega) ha2
        have ed : (nI d).toNatClampNeg = d := nI_clamp (by omega)
        have hsk := sk_lt x b
        have hsk2 := sk_lt x d
        refine lv_aload_n hx hb dX2_compare_26 rfl (lv_at hl 0 rfl) ?_
        refine lv_iload_n hx hb dX2_compare_27 rfl (lv_at hl 1 rfl) ?_
        refine va_csr (W.runV (As := [.int (nI b)]) (rest := []) ⟨hx, hb, hml, hown, hts⟩ (c_seen l D ad cI cB cO acc lm rm N x z ob hok b (by omega)) (cwV 1 hts gX2_compare_X2_seen rfl rfl rfl (by decide +kernel) ⟨Nat.le_of_ble_eq_true rfl, Nat.le_of_ble_eq_true rfl⟩) ⟨lPc_blind, va_recv hK hP (ci := 2) (q0 := 0) rfl (wl_at (by omega)), lPc_use (hP) ⟨hK, hN⟩⟩ rfl rfl hl.1 rfl (lv_room (Nat.le_of_ble_eq_true rfl)) dX2_compare_28 ⟨Nat.le_of_ble_eq_true rfl, Nat.le_of_ble_eq_true rfl⟩) (fun ks hks => ?_)
        subst hks
        refine lv_aload_n hx hb dX2_compare_31 rfl (lv_at hl 0 rfl) ?_
        refine lv_iload_n hx hb dX2_compare_32 rfl (lv_at hl 2 rfl) ?_
        refine va_csr (W.runV (As := [.int (nI d)]) (rest := [.ref (ad (6 * b + 2 * sk x b + 10))]) ⟨hx, hb, hml, hown, hts⟩ (c_seen l D ad cI cB cO acc lm rm N x z ob hok d (by omega)) (cwV 1 hts gX2_compare_X2_seen rfl rfl rfl (by decide +kernel) ⟨Nat.le_of_ble_eq_true rfl, Nat.le_of_ble_eq_true rfl⟩) ⟨lPc_blind, va_recv hK hP (ci := 2) (q0 := 0) rfl (wl_at (by omega)), lPc_use (hP) ⟨hK, hN⟩⟩ rfl rfl hl.1 rfl (lv_room (Nat.le_of_ble_eq_true rfl)) dX2_compare_33 ⟨Nat.le_of_ble_eq_true rfl, Nat.le_of_ble_eq_true rfl⟩) (fun ks hks => ?_)
        subst hks
        have hn1 := ln_p hP (sk x b) b (by omega) (by omega)
        have hn2 := va_P.app hn1 (ln_p hP (sk x d) d (by omega) (by omega))
        refine vp_callSi (W.runV (As := [.ref (ad (6 * d + 2 * sk x d + 10))]) (rest := []) ⟨hx, hb, hml, hown, hts⟩ (c_standingTo l D cI (lm + 1) (ad (6 * b + 2 * sk x b + 10)) (ad (6 * b + 2 * sk x b + 11)) (N (sk x b) b) (ad (6 * d + 2 * sk x d + 10)) (ad (6 * d + 2 * sk x d + 11)) (N (sk x d) d) (by omega) (hNk _ _) (hNk _ _)) (cwV 1 hts gX2_compare_X1_standingTo rfl rfl rfl (by decide +kernel) ⟨Nat.le_of_ble_eq_true rfl, Nat.le_of_ble_eq_true rfl⟩) ⟨nPc_blind, va_recv hK hn1 (ci := 1) (q0 := 0) rfl rfl, nPc_use (hn2) (hK.sub [0] rfl)⟩ rfl rfl hl.1 rfl (lv_room (Nat.le_of_ble_eq_true rfl)) dX2_compare_36 ⟨Nat.le_of_ble_eq_true rfl, Nat.le_of_ble_eq_true rfl⟩) (fun rb hrb => ?_)
        exact W.iret (v := rb) hx hb hr (fun t ht hW => ⟨_, rfl, by rw [eb, ed]; exact hrb.trans ((if_neg (c0)).trans (if_neg ((fun q => q ⟨ha, ha2⟩)))).symm, ht.trans hH.symm⟩) (fun _ h => by cases h) dX2_compare_39
      · have ha2n : ¬ isAcc acc p1 = true := fun q => absurd c12 (by rw [hra2, if_pos q]; decide)
        refine lv_bipush (v := (-2)) hx hb dX2_compare_23 (by decide) ?_
        exact W.iret (v := -2) hx hb hr (fun t ht hW => ⟨_, rfl, ((if_neg (c0)).trans (if_pos ((fun q => ha2n q.2)))).symm, ht.trans hH.symm⟩) (fun _ h => by cases h) dX2_compare_25
set_option maxHeartbeats 4000000 in
set_option maxRecDepth 100000 in
theorem c_count (l : Launch) (D : va_G) (ad : Nat → Nat) (cI cB cO : ClassId) (acc lm rm : Nat) (N : LN) (x : Nat → Nat) (z ob : Nat → Int32) (hok : lOk ad acc lm) (hx2 : x 2 < 33554432) (p0 : Int32) : Met l yX2_count wsX2_count ({ frames := 2, cells := 0, slots := 0, locals := 42 }) (lPc [.ref (ad 0), .int (p0)] D (lW ad cI cB cO acc lm rm N x z ob) [(cI, .int), (cB, .byte), (cO, .object "BigLedger$Natural")]) (vp_Si (fun r => r = cCount acc lm rm p0 (N, x, z))) 0 0 (fun _ => False) := by
  refine Met.ofW (cc := cX2_count) (maxL := 2) (ret := (some .int)) (by decide) rfl ?_
  intro p e s m args below meth c s₁ B hml hv
  obtain ⟨rfl, hP, hK, hN⟩ := hv
  have hx := B.exec
  have hb := B.bytes
  have hr := B.returns
  have hts := atoms_spec (ws := wsX2_count) B.pre
  have hown : s.vm.findClass RX2 = some m.cls := findClass_of_methodNamed B.named
  have hlocks := B.notSynchronized
  have hi0 : ∀ w ∈ wsX00, w ∈ wsX2_count := by decide +kernel
  have hi1 : ∀ w ∈ wsX10, w ∈ wsX2_count := by decide +kernel
  have hi2 : ∀ w ∈ wsX20, w ∈ wsX2_count := by decide +kernel
  have hok1 := hok.2.1
  have hok2 := hok.2.2.1
  have hok3 := hok.2.2.2
  generalize hH : s.heap = H at hP ⊢
  have hl := lv_entry ([.ref (ad 0), .int (p0)]) (n := 2) (Nat.le_of_ble_eq_true rfl)
  rw [lg_entry_eq]
  generalize (lg_sl ([.ref (ad 0), .int (p0)]) ++ List.replicate (2 - (lg_sl ([.ref (ad 0), .int (p0)])).length) Slot.unset).toArray = ls at hl ⊢
  have hl : lv_has ls 2 [(0, .ref (ad 0)), (1, .int (p0))] := hl
  refine lv_iload_n hx hb dX2_count_0 rfl (lv_at hl 1 rfl) ?_
  by_cases q0 : p0 = 0
  · subst q0
    refine lv_tableIn (tgt := 52) hx hb dX2_count_1 (by decide) (by decide) rfl (by decide) ?_
    refine lv_aload_n hx hb dX2_count_52 rfl (lv_at hl 0 rfl) ?_
    refine va_get (D := D) (ci := 2) (v := .int (nI acc)) (C := RX2) (T := TX2) (N := 11) hx hb hts hi2 hown hK hP 0 (wl_at (by omega)) rfl 0 (by decide) (hts (.fieldLink RX2 13 "BigLedger" "accounts" "I") (by decide +kernel)) (fun _ h9 => h9) rfl dX2_count_53 ?_
    exact W.iret (v := nI acc) hx hb hr (fun t ht hW => ⟨_, rfl, rfl, ht.trans hH.symm⟩) (fun _ h => by cases h) dX2_count_56
  · by_cases q1 : p0 = 1
    · subst q1
      refine lv_tableIn (tgt := 57) hx hb dX2_count_1 (by decide) (by decide) rfl (by decide) ?_
      refine lv_aload_n hx hb dX2_count_57 rfl (lv_at hl 0 rfl) ?_
      refine va_get (D := D) (ci := 2) (v := .int (nI lm)) (C := RX2) (T := TX2) (N := 11) hx hb hts hi2 hown hK hP 0 (wl_at (by omega)) rfl 1 (by decide) (hts (.fieldLink RX2 17 "BigLedger" "limbs" "I") (by decide +kernel)) (fun _ h9 => h9) rfl dX2_count_58 ?_
      exact W.iret (v := nI lm) hx hb hr (fun t ht hW => ⟨_, rfl, rfl, ht.trans hH.symm⟩) (fun _ h => by cases h) dX2_count_61
    · by_cases q2 : p0 = 2
      · subst q2
        refine lv_tableIn (tgt := 62) hx hb dX2_count_1 (by decide) (by decide) rfl (by decide) ?_
        refine lv_aload_n hx hb dX2_count_62 rfl (lv_at hl 0 rfl) ?_
        refine va_get (D := D) (ci := 2) (v := .int (nI rm)) (C := RX2) (T := TX2) (N := 11) hx hb hts hi2 hown hK hP 0 (wl_at (by omega)) rfl 2 (by decide) (hts (.fieldLink RX2 20 "BigLedger" "room" "I") (by decide +kernel)) (fun _ h9 => h9) rfl dX2_count_63 ?_
        exact W.iret (v := nI rm) hx hb hr (fun t ht hW => ⟨_, rfl, rfl, ht.trans hH.symm⟩) (fun _ h => by cases h) dX2_count_66
      · by_cases q3 : p0 = 3
        · subst q3
          refine lv_tableIn (tgt := 67) hx hb dX2_count_1 (by decide) (by decide) rfl (by decide) ?_
          refine lv_aload_n hx hb dX2_count_67 rfl (lv_at hl 0 rfl) ?_
          refine va_get (D := D) (ci := 2) (v := .ref (ad 1)) (C := RX2) (T := TX2) (N := 11) hx hb hts hi2 hown hK hP 0 (wl_at (by omega)) rfl 3 (by decide) (hts (.fieldLink RX2 28 "BigLedger" "disk" "LBigLedger$Disk;") (by decide +kernel)) (fun _ h9 => h9) rfl dX2_count_68 ?_
          refine va_getN (D := D) (ci := 0) (host := RX2) (v := .int (z 2)) (C := RX0) (T := TX0) (N := 6) hx hb hts hi0 hown hK hP 1 (wl_at (by omega)) rfl 4 (by decide) (va_Nw.use rfl (hN.2.2.1)) (fun _ h9 => h9) rfl dX2_count_71 ?_
          exact W.iret (v := z 2) hx hb hr (fun t ht hW => ⟨_, rfl, rfl, ht.trans hH.symm⟩) (fun _ h => by cases h) dX2_count_74
        · by_cases q4 : p0 = 4
          · subst q4
            refine lv_tableIn (tgt := 75) hx hb dX2_count_1 (by decide) (by decide) rfl (by decide) ?_
            refine lv_aload_n hx hb dX2_count_75 rfl (lv_at hl 0 rfl) ?_
            refine va_get (D := D) (ci := 2) (v := .int (z 0)) (C := RX2) (T := TX2) (N := 11) hx hb hts hi2 hown hK hP 0 (wl_at (by omega)) rfl 7 (by decide) (hts (.fieldLink RX2 71 "BigLedger" "up" "Z") (by decide +kernel)) (fun _ h9 => h9) rfl dX2_count_76 ?_
            refine lv_if_eq (tgt := 86) hx hb dX2_count_79 (by decide) (fun c0 => ?_) (fun c0 => ?_)
            · refine lv_iconst (v := 0) hx hb dX2_count_86 (by decide) ?_
              exact W.iret (v := 0) hx hb hr (fun t ht hW => ⟨_, rfl, (if_pos c0).symm, ht.trans hH.symm⟩) (fun _ h => by cases h) dX2_count_87
            · refine lv_iconst (v := 1) hx hb dX2_count_82 (by decide) ?_
              refine lv_goto (tgt := 87) hx hb dX2_count_83 (by decide) ?_
              exact W.iret (v := 1) hx hb hr (fun t ht hW => ⟨_, rfl, (if_neg c0).symm, ht.trans hH.symm⟩) (fun _ h => by cases h) dX2_count_87
          · by_cases q5 : p0 = 5
            · subst q5
              refine lv_tableIn (tgt := 88) hx hb dX2_count_1 (by decide) (by decide) rfl (by decide) ?_
              refine lv_aload_n hx hb dX2_count_88 rfl (lv_at hl 0 rfl) ?_
              refine va_get (D := D) (ci := 2) (v := .int (nI (x 2))) (C := RX2) (T := TX2) (N := 11) hx hb hts hi2 hown hK hP 0 (wl_at (by omega)) rfl 5 (by decide) (hts (.fieldLink RX2 126 "BigLedger" "touched" "I") (by decide +kernel)) (fun _ h9 => h9) rfl dX2_count_89 ?_
              refine vp_callSi (W.runS (As := [.int (nI (x 2))]) (rest := []) ⟨hx, hb, hml, hown, hts⟩ (c_bitCount l (x 2) (by omega)) (va_cwS 1 hts gX2_count_J6_bitCount_0f7a4 rfl rfl rfl (by decide +kernel) ⟨Nat.le_of_ble_eq_true rfl, Nat.le_of_ble_eq_true rfl⟩) preEq rfl rfl hl.1 rfl (lv_room (Nat.le_of_ble_eq_true rfl)) dX2_count_92 ⟨Nat.le_of_ble_eq_true rfl, Nat.le_of_ble_eq_true rfl⟩) (fun rb hrb => ?_)
              exact W.iret (v := rb) hx hb hr (fun t ht hW => ⟨_, rfl, hrb, ht.trans hH.symm⟩) (fun _ h => by cases h) dX2_count_95
            · by_cases q6 : p0 = 6
              · subst q6
                refine lv_tableIn (tgt := 96) hx hb dX2_count_1 (by decide) (by decide) rfl (by decide) ?_
                refine lv_aload_n hx hb dX2_count_96 rfl (lv_at hl 0 rfl) ?_
                refine va_get (D := D) (ci := 2) (v := .ref (ad 1)) (C := RX2) (T := TX2) (N := 11) hx hb hts hi2 hown hK hP 0 (wl_at (by omega)) rfl 3 (by decide) (hts (.fieldLink RX2 28 "BigLedger" "disk" "LBigLedger$Disk;") (by decide +kernel)) (fun _ h9 => h9) rfl dX2_count_97 ?_
                refine va_getN (D := D) (ci := 0) (host := RX2) (v := .int (z 3)) (C := RX0) (T := TX0) (N := 6) hx hb hts hi0 hown hK hP 1 (wl_at (by omega)) rfl 5 (by decide) (va_Nw.use rfl (hN.1)) (fun _ h9 => h9) rfl dX2_count_100 ?_
                exact W.iret (v := z 3) hx hb hr (fun t ht hW => ⟨_, rfl, rfl, ht.trans hH.symm⟩) (fun _ h => by cases h) dX2_count_103
              · by_cases q7 : p0 = 7
                · subst q7
                  refine lv_tableIn (tgt := 104) hx hb dX2_count_1 (by decide) (by decide) rfl (by decide) ?_
                  refine lv_aload_n hx hb dX2_count_104 rfl (lv_at hl 0 rfl) ?_
                  refine va_get (D := D) (ci := 2) (v := .int (z 0)) (C := RX2) (T := TX2) (N := 11) hx hb hts hi2 hown hK hP 0 (wl_at (by omega)) rfl 7 (by decide) (hts (.fieldLink RX2 71 "BigLedger" "up" "Z") (by decide +kernel)) (fun _ h9 => h9) rfl dX2_count_105 ?_
                  refine lv_if_eq (tgt := 125) hx hb dX2_count_108 (by decide) (fun c0 => ?_) (fun c0 => ?_)
                  · refine lv_iconst (v := 0) hx hb dX2_count_125 (by decide) ?_
                    exact W.iret (v := 0) hx hb hr (fun t ht hW => ⟨_, rfl, (if_pos c0).symm, ht.trans hH.symm⟩) (fun _ h => by cases h) dX2_count_126
                  · refine lv_aload_n hx hb dX2_count_111 rfl (lv_at hl 0 rfl) ?_
                    refine lv_aload_n hx hb dX2_count_112 rfl (lv_at hl 0 rfl) ?_
                    refine vp_callSi (W.runV (As := []) (rest := [.ref (ad 0)]) ⟨hx, hb, hml, hown, hts⟩ (c_totalBlock l D ad cI cB cO acc lm rm N x z ob hok) (cwV 0 hts gX2_count_X2_totalBlock rfl rfl rfl (by decide +kernel) ⟨Nat.le_of_ble_eq_true rfl, Nat.le_of_ble_eq_true rfl⟩) ⟨lPc_blind, va_recv hK hP (ci := 2) (q0 := 0) rfl (wl_at (by omega)), lPc_use (hP) ⟨hK, hN⟩⟩ rfl rfl hl.1 rfl (lv_room (Nat.le_of_ble_eq_true rfl)) dX2_count_113 ⟨Nat.le_of_ble_eq_true rfl, Nat.le_of_ble_eq_true rfl⟩) (fun rt hrt => ?_)
                    subst hrt
                    refine va_csr (W.runV (As := [.int (nI acc)]) (rest := []) ⟨hx, hb, hml, hown, hts⟩ (c_seen l D ad cI cB cO acc lm rm N x z ob hok acc (by omega)) (cwV 1 hts gX2_count_X2_seen rfl rfl rfl (by decide +kernel) ⟨Nat.le_of_ble_eq_true rfl, Nat.le_of_ble_eq_true rfl⟩) ⟨lPc_blind, va_recv hK hP (ci := 2) (q0 := 0) rfl (wl_at (by omega)), lPc_use (hP) ⟨hK, hN⟩⟩ rfl rfl hl.1 rfl (lv_room (Nat.le_of_ble_eq_true rfl)) dX2_count_116 ⟨Nat.le_of_ble_eq_true rfl, Nat.le_of_ble_eq_true rfl⟩) (fun ks hks => ?_)
                    subst hks
                    have hsk := sk_lt x acc
                    have hn1 := ln_p hP (sk x acc) acc (by omega) (by omega)
                    refine va_getN (D := D) (ci := 1) (host := RX2) (v := .int (nI (szF (N (sk x acc) acc) (lm + 1)))) (C := RX1) (T := TX1) (N := 2) hx hb hts hi1 hown hK hn1 0 rfl rfl 1 (by decide) (va_Nw.use rfl (hN.2.2.2.2.1)) (fun _ h9 => h9) rfl dX2_count_119 ?_
                    refine lv_goto (tgt := 126) hx hb dX2_count_122 (by decide) ?_
                    exact W.iret (v := nI (szF (N (sk x acc) acc) (lm + 1))) hx hb hr (fun t ht hW => ⟨_, rfl, (if_neg c0).symm, ht.trans hH.symm⟩) (fun _ h => by cases h) dX2_count_126
                · by_cases q8 : p0 = 8
                  · subst q8
                    refine lv_tableIn (tgt := 127) hx hb dX2_count_1 (by decide) (by decide) rfl (by decide) ?_
                    refine lv_aload_n hx hb dX2_count_127 rfl (lv_at hl 0 rfl) ?_
                    refine va_get (D := D) (ci := 2) (v := .ref (ad 6)) (C := RX2) (T := TX2) (N := 11) hx hb hts hi2 hown hK hP 0 (wl_at (by omega)) rfl 6 (by decide) (hts (.fieldLink RX2 45 "BigLedger" "amount" "LBigLedger$Natural;") (by decide +kernel)) (fun _ h9 => h9) rfl dX2_count_128 ?_
                    refine va_getN (D := D) (ci := 1) (host := RX2) (v := .int (nI (szF (x 0) (lm + 1)))) (C := RX1) (T := TX1) (N := 2) hx hb hts hi1 hown hK hP 6 (wl_at (by omega)) rfl 1 (by decide) (va_Nw.use rfl (hN.2.2.2.2.1)) (fun _ h9 => h9) rfl dX2_count_131 ?_
                    exact W.iret (v := nI (szF (x 0) (lm + 1))) hx hb hr (fun t ht hW => ⟨_, rfl, rfl, ht.trans hH.symm⟩) (fun _ h => by cases h) dX2_count_134
                  · refine lv_tableOut (tgt := 135) hx hb dX2_count_1 (sw_out q0 q1 q2 q3 q4 q5 q6 q7 q8) (by decide) ?_
                    refine lv_iconst (v := (-1)) hx hb dX2_count_135 (by decide) ?_
                    exact W.iret (v := -1) hx hb hr (fun t ht hW => ⟨_, rfl, by unfold cCount; rw [if_neg q0, if_neg q1, if_neg q2, if_neg q3, if_neg q4, if_neg q5, if_neg q6, if_neg q7, if_neg q8], ht.trans hH.symm⟩) (fun _ h => by cases h) dX2_count_136
set_option maxHeartbeats 4000000 in
set_option maxRecDepth 100000 in
theorem c_write (l : Launch) (D : va_G) (ad : Nat → Nat) (cI cB cO : ClassId) (acc lm rm : Nat) (N : LN) (x : Nat → Nat) (z ob : Nat → Int32) (hok : lOk ad acc lm) (hNk : nOk lm N) (hx1 : x 1 < 2147483648 ^ (lm + 1)) (p0 : Int32) (hbal : ∀ b, b < acc → sv N x b < 2147483648 ^ lm) : Met l yX2_write wsX2_write ({ frames := 2, cells := 0, slots := 0, locals := 46 }) (lPc [.ref (ad 0), .int (p0)] D (lW ad cI cB cO acc lm rm N x z ob) [(cI, .int), (cB, .byte), (cO, .object "BigLedger$Natural")]) (va_Qi (fun (r : Int32) (u : WS) => cWr acc lm p0 N x z ob r u) (fun u t => va_P D vwCl (lW ad cI cB cO acc lm rm N u.1 u.2.1 u.2.2) t.heap) (lA ad acc)) 0 0 (lA ad acc) := by
  refine Met.ofW (cc := cX2_write) (maxL := 3) (ret := (some .int)) (by decide) rfl ?_
  intro p e s m args below meth c s₁ B hml hv
  obtain ⟨rfl, hP, hK, hN⟩ := hv
  have hx := B.exec
  have hb := B.bytes
  have hr := B.returns
  have hts := atoms_spec (ws := wsX2_write) B.pre
  have hown : s.vm.findClass RX2 = some m.cls := findClass_of_methodNamed B.named
  have hlocks := B.notSynchronized
  have hi1 : ∀ w ∈ wsX10, w ∈ wsX2_write := by decide +kernel
  have hi2 : ∀ w ∈ wsX20, w ∈ wsX2_write := by decide +kernel
  have hok1 := hok.2.1
  have hok2 := hok.2.2.1
  have hok3 := hok.2.2.2
  have hS : va_S (lA ad acc) s.heap s.heap [] := va_S.rf
  have hD : va_D (lA ad acc) (lW ad cI cB cO acc lm rm N x z ob) := wlD hok
  have hl := lv_entry ([.ref (ad 0), .int (p0)]) (n := 3) (Nat.le_of_ble_eq_true rfl)
  rw [lg_entry_eq]
  generalize (lg_sl ([.ref (ad 0), .int (p0)]) ++ List.replicate (3 - (lg_sl ([.ref (ad 0), .int (p0)])).length) Slot.unset).toArray = ls at hl ⊢
  have hl : lv_has ls 3 [(0, .ref (ad 0)), (1, .int (p0))] := hl
  refine lv_aload_n hx hb dX2_write_0 rfl (lv_at hl 0 rfl) ?_
  refine va_get (D := D) (ci := 2) (v := .int (z 0)) (C := RX2) (T := TX2) (N := 11) hx hb hts hi2 hown hK hP 0 (wl_at (by omega)) rfl 7 (by decide) (hts (.fieldLink RX2 71 "BigLedger" "up" "Z") (by decide +kernel)) (fun _ h9 => h9) rfl dX2_write_1 ?_
  refine lv_if_eq (tgt := 15) hx hb dX2_write_4 (by decide) (fun c0 => ?_) (fun c0 => ?_)
  · refine lv_iconst (v := (-1)) hx hb dX2_write_15 (by decide) ?_
    exact W.iret (v := -1) hx hb hr (fun t ht hW => ⟨⟨_, (x, z, ob), rfl, cWr_no (Or.inl c0), hp_at ht hP⟩, hS.F ht⟩) hS.2.2 dX2_write_16
  · refine lv_aload_n hx hb dX2_write_7 rfl (lv_at hl 0 rfl) ?_
    refine lv_iload_n hx hb dX2_write_8 rfl (lv_at hl 1 rfl) ?_
    refine vp_callSi (W.runV (As := [.int (p0)]) (rest := []) ⟨hx, hb, hml, hown, hts⟩ (c_isAccount l D ad cI cB cO acc lm rm N x z ob hok p0) (cwV 1 hts gX2_write_X2_isAccount rfl rfl rfl (by decide +kernel) ⟨Nat.le_of_ble_eq_true rfl, Nat.le_of_ble_eq_true rfl⟩) ⟨lPc_blind, va_recv hK hP (ci := 2) (q0 := 0) rfl (wl_at (by omega)), lPc_use (hP) ⟨hK, hN⟩⟩ rfl rfl hl.1 rfl (lv_room (Nat.le_of_ble_eq_true rfl)) dX2_write_9 ⟨Nat.le_of_ble_eq_true rfl, Nat.le_of_ble_eq_true rfl⟩) (fun ra hra => ?_)
    refine lv_if_ne (tgt := 17) hx hb dX2_write_12 (by decide) (fun c1 => ?_) (fun c1 => ?_)
    · have ha : isAcc acc p0 = true := Classical.byContradiction (fun q => c1 (by rw [hra, if_neg q]))
      obtain ⟨b, hqb, rfl⟩ := isAcc_t (by omega) ha
      have eb : (nI b).toNatClampNeg = b := nI_clamp (by omega)
      have hsk := sk_lt x b
      have hvb := hbal b hqb
      have hvw : sv N x b < 2147483648 ^ (lm + 1) := hNk _ _
      refine lv_aload_n hx hb dX2_write_17 rfl (lv_at hl 0 rfl) ?_
      refine va_get (D := D) (ci := 2) (v := .ref (ad 8)) (C := RX2) (T := TX2) (N := 11) hx hb hts hi2 hown hK hP 0 (wl_at (by omega)) rfl 8 (by decide) (hts (.fieldLink RX2 49 "BigLedger" "scratch" "LBigLedger$Natural;") (by decide +kernel)) (fun _ h9 => h9) rfl dX2_write_18 ?_
      refine lv_aload_n hx hb dX2_write_21 rfl (lv_at hl 0 rfl) ?_
      refine lv_iload_n hx hb dX2_write_22 rfl (lv_at hl 1 rfl) ?_
      refine va_csr (W.runV (As := [.int (nI b)]) (rest := [.ref (ad 8)]) ⟨hx, hb, hml, hown, hts⟩ (c_seen l D ad cI cB cO acc lm rm N x z ob hok b (by omega)) (cwV 1 hts gX2_write_X2_seen rfl rfl rfl (by decide +kernel) ⟨Nat.le_of_ble_eq_true rfl, Nat.le_of_ble_eq_true rfl⟩) ⟨lPc_blind, va_recv hK hP (ci := 2) (q0 := 0) rfl (wl_at (by omega)), lPc_use (hP) ⟨hK, hN⟩⟩ rfl rfl hl.1 rfl (lv_room (Nat.le_of_ble_eq_true rfl)) dX2_write_23 ⟨Nat.le_of_ble_eq_true rfl, Nat.le_of_ble_eq_true rfl⟩) (fun ks hks => ?_)
      subst hks
      have hn39 := ln_sc hP
      have hn39u := va_P.app hn39 (ln_p hP (sk x b) b (by omega) (by omega))
      refine va_callv (va_runV (As := [.ref (ad (6 * b + 2 * sk x b + 10))]) (rest := []) ⟨hx, hb, hml, hown, hts⟩ (c_setTo l D cI (lm + 1) (ad 8) (ad 9) (x 1) (by omega) (ln_oa (i := 8) hok (by omega)) hx1 (ad (6 * b + 2 * sk x b + 10)) (ad (6 * b + 2 * sk x b + 11)) (N (sk x b) b) (ln_ne (i := 8) hok (by omega) (by omega) (by omega) (by omega)) (ln_ne (i := 8) hok (by omega) (by omega) (by omega) (by omega)) (hNk _ _)) (cwV 1 hts gX2_write_X1_setTo rfl rfl rfl (by decide +kernel) ⟨Nat.le_of_ble_eq_true rfl, Nat.le_of_ble_eq_true rfl⟩) ⟨nPc_blind, va_recv hK hn39 (ci := 1) (q0 := 0) rfl rfl, nPc_use (hn39u) (hK.sub [0] rfl)⟩ rfl rfl hl.1 rfl (lv_room (Nat.le_of_ble_eq_true rfl)) dX2_write_26 ⟨Nat.le_of_ble_eq_true rfl, Nat.le_of_ble_eq_true rfl⟩) hS (fun q _ h => (fun q h => lA_n (i := 8) (by omega) h) q h) (fun q h => lA_n (i := 8) (by omega) h) (fun _u t H1 locs ht hvm hw hB hz1 hk9 hS => ?_)
      have hP9 := lk_sc hok hP hk9 (pB_at ht hB)
      generalize H1 = H at ht hz1 hk9 hS hP9 ⊢
      have hP : va_P D vwCl (lW ad cI cB cO acc lm rm N (va_up x 1 (sv N x b)) z ob) H := hP9
      have hD : va_D (lA ad acc) (lW ad cI cB cO acc lm rm N (va_up x 1 (sv N x b)) z ob) := wlD hok
      refine lv_iconst (v := 0) hx hb dX2_write_29 (by decide) ?_
      refine lv_istore_n (lv' := [(2, .int ((0 : Int32))), (0, .ref (ad 0)), (1, .int (nI b))]) hx hb dX2_write_30 rfl hl (by decide) rfl (fun ls hl => ?_)
      generalize hvv : sv N x b = v at hP hvb hvw
      have loop : ∀ (n i : Nat) (H : Heap) (locs : List Loc) (ls : Array Slot), i + n = lm * 10 → (∀ j, 1 ≤ j → j < i → v / 10 ^ j ≠ 0) → va_P D vwCl (lW ad cI cB cO acc lm rm N (va_up x 1 (v / 10 ^ i)) z (fl (dgI v) ob i)) H → va_S (lA ad acc) s.heap H locs → lv_has ls 3 [(2, .int (nI i)), (0, .ref (ad 0)), (1, .int (nI b))] → W p l e (headSpec wsX2_write ({ frames := 2, cells := 0, slots := 0, locals := 46 })).room s m ([.ref (ad 0), .int (nI b)]).toArray below meth c H locs 0 0 (MQ below (va_Qi (fun (r : Int32) (u : WS) => cWr acc lm (nI b) N x z ob r u) (fun u t => va_P D vwCl (lW ad cI cB cO acc lm rm N u.1 u.2.1 u.2.2) t.heap) (lA ad acc)) ([.ref (ad 0), .int (nI b)]).toArray s 0 0 (lA ad acc)) (F0 m 31 ls []) := by
        intro n
        induction n with
        | zero =>
          intro i H locs ls hin hpr hP hS hl
          have hD : va_D (lA ad acc) (lW ad cI cB cO acc lm rm N (va_up x 1 (v / 10 ^ i)) z (fl (dgI v) ob i)) := wlD hok
          have hii : 1 ≤ i := by omega
          have hv0 : v / 10 ^ i = 0 := by rw [show i = lm * 10 by omega]; exact dec_bound hvb
          refine lv_iload_n hx hb dX2_write_31 rfl (lv_at hl 0 rfl) ?_
          refine lv_aload_n hx hb dX2_write_32 rfl (lv_at hl 1 rfl) ?_
          refine va_get (D := D) (ci := 2) (v := .ref (ad 5)) (C := RX2) (T := TX2) (N := 11) hx hb hts hi2 hown hK hP 0 (wl_at (by omega)) rfl 9 (by decide) (hts (.fieldLink RX2 52 "BigLedger" "outBackwards" "[B") (by decide +kernel)) (fun _ h9 => h9) rfl dX2_write_33 ?_
          refine va_alen (v := nI (lm * 10)) hx hb hK hP 5 1 (wl_at (by omega)) rfl (rfl) dX2_write_36 ?_
          refine lv_icmp_ge (tgt := 79) hx hb dX2_write_37 (by decide) (fun _ => ?_) (fun c9 => absurd (nI_le (by omega) (by omega)) c9)
          have hnd : isNd v i := ⟨hii, hv0, hpr⟩
          refine lv_aload_n hx hb dX2_write_79 rfl (lv_at hl 1 rfl) ?_
          refine lv_iload_n hx hb dX2_write_80 rfl (lv_at hl 0 rfl) ?_
          refine va_put (D := D) (ci := 2) (v := .int (nI i)) (ty := .int) (C := RX2) (T := TX2) (N := 11) hx hb hts hi2 tyX2 tyX2_ok nmX2 hown hK hP hD hS 0 (wl_at (by omega)) rfl 10 (by decide) (hts (.fieldLink RX2 152 "BigLedger" "outLength" "I") (by decide +kernel)) (fun _ h9 => h9) rfl (by decide +kernel) (rfl) (rfl) (Nat.le_of_ble_eq_true rfl) dX2_write_81 (fun H locs hP hD hS => ?_)
          have hP : va_P D vwCl (lW ad cI cB cO acc lm rm N (va_up x 1 (v / 10 ^ i)) (va_up z 4 (nI i)) (fl (dgI v) ob i)) H := cv (ls_outLength (nI i)) hP
          have hD : va_D (lA ad acc) (lW ad cI cB cO acc lm rm N (va_up x 1 (v / 10 ^ i)) (va_up z 4 (nI i)) (fl (dgI v) ob i)) := wlD hok
          refine lv_aload_n hx hb dX2_write_84 rfl (lv_at hl 1 rfl) ?_
          refine va_get (D := D) (ci := 2) (v := .int ((va_up z 4 (nI i)) 4)) (C := RX2) (T := TX2) (N := 11) hx hb hts hi2 hown hK hP 0 (wl_at (by omega)) rfl 10 (by decide) (hts (.fieldLink RX2 152 "BigLedger" "outLength" "I") (by decide +kernel)) (fun _ h9 => h9) rfl dX2_write_85 ?_
          refine lv_topi (fun y40 ey40 => ?_)
          replace ey40 : y40 = nI i := ey40.trans (va_up_self _ _ _)
          subst ey40
          exact W.iret (v := nI i) hx hb hr (fun t ht hW => ⟨⟨_, (va_up x 1 (v / 10 ^ i), va_up z 4 (nI i), fl (dgI v) ob i), rfl, cWr_yes c0 ha eb hvv hnd (by omega), hp_at ht hP⟩, hS.F ht⟩) hS.2.2 dX2_write_88
        | succ n ih =>
          intro i H locs ls hin hpr hP hS hl
          have hD : va_D (lA ad acc) (lW ad cI cB cO acc lm rm N (va_up x 1 (v / 10 ^ i)) z (fl (dgI v) ob i)) := wlD hok
          have hvi : v / 10 ^ i < 2147483648 ^ (lm + 1) := Nat.lt_of_le_of_lt (Nat.div_le_self _ _) hvw
          refine lv_iload_n hx hb dX2_write_31 rfl (lv_at hl 0 rfl) ?_
          refine lv_aload_n hx hb dX2_write_32 rfl (lv_at hl 1 rfl) ?_
          refine va_get (D := D) (ci := 2) (v := .ref (ad 5)) (C := RX2) (T := TX2) (N := 11) hx hb hts hi2 hown hK hP 0 (wl_at (by omega)) rfl 9 (by decide) (hts (.fieldLink RX2 52 "BigLedger" "outBackwards" "[B") (by decide +kernel)) (fun _ h9 => h9) rfl dX2_write_33 ?_
          refine va_alen (v := nI (lm * 10)) hx hb hK hP 5 1 (wl_at (by omega)) rfl (rfl) dX2_write_36 ?_
          refine lv_icmp_ge (tgt := 79) hx hb dX2_write_37 (by decide) (fun c9 => absurd c9 (nI_ge (by omega) (by omega))) (fun _ => ?_)
          refine lv_iload_n hx hb dX2_write_40 rfl (lv_at hl 0 rfl) ?_
          refine lv_if_eq (tgt := 54) hx hb dX2_write_41 (by decide) (fun c2 => ?_) (fun c2 => ?_)
          · have hi0 : i = 0 := (nI_eq0 (by omega)).mp c2
            have hpr2 : ∀ j, 1 ≤ j → j < i + 1 → v / 10 ^ j ≠ 0 := fun j h1 h2 => absurd h2 (by omega)
            have hD : va_D (lA ad acc) (lW ad cI cB cO acc lm rm N (va_up x 1 (v / 10 ^ i)) z (fl (dgI v) ob i)) := wlD hok
            have hvi : v / 10 ^ i < 2147483648 ^ (lm + 1) := Nat.lt_of_le_of_lt (Nat.div_le_self _ _) hvw
            refine lv_aload_n hx hb dX2_write_54 rfl (lv_at hl 1 rfl) ?_
            refine va_get (D := D) (ci := 2) (v := .ref (ad 5)) (C := RX2) (T := TX2) (N := 11) hx hb hts hi2 hown hK hP 0 (wl_at (by omega)) rfl 9 (by decide) (hts (.fieldLink RX2 52 "BigLedger" "outBackwards" "[B") (by decide +kernel)) (fun _ h9 => h9) rfl dX2_write_55 ?_
            refine lv_iload_n hx hb dX2_write_58 rfl (lv_at hl 0 rfl) ?_
            refine lv_bipush (v := 48) hx hb dX2_write_59 (by decide) ?_
            refine lv_aload_n hx hb dX2_write_61 rfl (lv_at hl 1 rfl) ?_
            refine va_get (D := D) (ci := 2) (v := .ref (ad 8)) (C := RX2) (T := TX2) (N := 11) hx hb hts hi2 hown hK hP 0 (wl_at (by omega)) rfl 8 (by decide) (hts (.fieldLink RX2 49 "BigLedger" "scratch" "LBigLedger$Natural;") (by decide +kernel)) (fun _ h9 => h9) rfl dX2_write_62 ?_
            refine lv_bipush (v := 10) hx hb dX2_write_65 (by decide) ?_
            have hn41 := ln_sc hP
            refine va_calli (va_runV (As := [.int ((10 : Int32))]) (rest := [.int ((48 : Int32)), .int (nI i), .ref (ad 5)]) ⟨hx, hb, hml, hown, hts⟩ (c_divide l D cI (lm + 1) (ad 8) (ad 9) (v / 10 ^ i) (by omega) (ln_oa (i := 8) hok (by omega)) hvi 10 (by decide) (by decide)) (cwV 1 hts gX2_write_X1_divide rfl rfl rfl (by decide +kernel) ⟨Nat.le_of_ble_eq_true rfl, Nat.le_of_ble_eq_true rfl⟩) ⟨nPc_blind, va_recv hK hn41 (ci := 1) (q0 := 0) rfl rfl, nPc_use (hn41) (hK.sub [0] rfl)⟩ rfl rfl hl.1 rfl (lv_room (Nat.le_of_ble_eq_true rfl)) dX2_write_67 ⟨Nat.le_of_ble_eq_true rfl, Nat.le_of_ble_eq_true rfl⟩) hS (fun q _ h => (fun q h => lA_n (i := 8) (by omega) h) q h) (fun q h => lA_n (i := 8) (by omega) h) (fun r _u t H1 locs ht hvm hw hB hz1 hk9 hS => ?_)
            have hP9 := cv (by rw [bx_uu, dec_step]) (lk_sc hok hP hk9 (pB_at ht hB))
            generalize H1 = H at ht hz1 hk9 hS hP9 ⊢
            have hP : va_P D vwCl (lW ad cI cB cO acc lm rm N (va_up x 1 (v / 10 ^ (i + 1))) z (fl (dgI v) ob i)) H := hP9
            have hD : va_D (lA ad acc) (lW ad cI cB cO acc lm rm N (va_up x 1 (v / 10 ^ (i + 1))) z (fl (dgI v) ob i)) := wlD hok
            refine lv_iadd hx hb dX2_write_70 ?_
            refine lv_topi (fun y42 ey42 => ?_)
            replace ey42 : y42 = nI (48 + v / 10 ^ i % 10) := ey42.trans (by rw [hw]; exact nI_add 48 _)
            subst ey42
            refine lv_i2b (v := nI (48 + v / 10 ^ i % 10)) hx hb dX2_write_71 (dg_byte v i) ?_
            refine va_bast hx hb hK hP hD hS 5 1 (wl_at (by omega)) rfl (vp_in_nI (by omega) (by omega)) dX2_write_72 (fun H locs hP hD hS => ?_)
            rw [show upd (fl (dgI v) ob i) (nI i).toNatClampNeg (vp_nar .byte (nI (48 + v / 10 ^ i % 10))) = fl (dgI v) ob (i + 1) from by rw [nI_clamp (by omega), dg_nar]; exact fl_s rfl] at hP
            have hP : va_P D vwCl (lW ad cI cB cO acc lm rm N (va_up x 1 (v / 10 ^ (i + 1))) z (fl (dgI v) ob (i + 1))) H := cv (ls_out (fl (dgI v) ob (i + 1))) hP
            have hD : va_D (lA ad acc) (lW ad cI cB cO acc lm rm N (va_up x 1 (v / 10 ^ (i + 1))) z (fl (dgI v) ob (i + 1))) := wlD hok
            refine lv_iinc (v := nI (i + 1)) (lv' := [(2, .int (nI (i + 1))), (0, .ref (ad 0)), (1, .int (nI b))]) hx hb dX2_write_73 hl (k := 0) rfl (nI_1 i) (by decide) rfl (fun ls hl => ?_)
            refine lv_goto (tgt := 31) hx hb dX2_write_76 (by decide) ?_
            exact ih (i + 1) H locs ls (by omega) hpr2 hP hS hl
          · have hii : 1 ≤ i := Nat.pos_of_ne_zero (fun q => c2 ((nI_eq0 (by omega)).mpr q))
            refine lv_aload_n hx hb dX2_write_44 rfl (lv_at hl 1 rfl) ?_
            refine va_get (D := D) (ci := 2) (v := .ref (ad 8)) (C := RX2) (T := TX2) (N := 11) hx hb hts hi2 hown hK hP 0 (wl_at (by omega)) rfl 8 (by decide) (hts (.fieldLink RX2 49 "BigLedger" "scratch" "LBigLedger$Natural;") (by decide +kernel)) (fun _ h9 => h9) rfl dX2_write_45 ?_
            refine va_getN (D := D) (ci := 1) (host := RX2) (v := .int (nI (szF ((va_up x 1 (v / 10 ^ i)) 1) (lm + 1)))) (C := RX1) (T := TX1) (N := 2) hx hb hts hi1 hown hK hP 8 (wl_at (by omega)) rfl 1 (by decide) (va_Nw.use rfl (hN.2.2.2.2.1)) (fun _ h9 => h9) rfl dX2_write_48 ?_
            refine lv_topi (fun y43 ey43 => ?_)
            replace ey43 : y43 = nI (szF (v / 10 ^ i) (lm + 1)) := ey43.trans (rfl)
            subst ey43
            refine lv_if_le (tgt := 79) hx hb dX2_write_51 (by decide) (fun c3 => ?_) (fun c3 => ?_)
            · have hv0 : v / 10 ^ i = 0 := (szF_pos hvi (by omega)).mp c3
              have hnd : isNd v i := ⟨hii, hv0, hpr⟩
              refine lv_aload_n hx hb dX2_write_79 rfl (lv_at hl 1 rfl) ?_
              refine lv_iload_n hx hb dX2_write_80 rfl (lv_at hl 0 rfl) ?_
              refine va_put (D := D) (ci := 2) (v := .int (nI i)) (ty := .int) (C := RX2) (T := TX2) (N := 11) hx hb hts hi2 tyX2 tyX2_ok nmX2 hown hK hP hD hS 0 (wl_at (by omega)) rfl 10 (by decide) (hts (.fieldLink RX2 152 "BigLedger" "outLength" "I") (by decide +kernel)) (fun _ h9 => h9) rfl (by decide +kernel) (rfl) (rfl) (Nat.le_of_ble_eq_true rfl) dX2_write_81 (fun H locs hP hD hS => ?_)
              have hP : va_P D vwCl (lW ad cI cB cO acc lm rm N (va_up x 1 (v / 10 ^ i)) (va_up z 4 (nI i)) (fl (dgI v) ob i)) H := cv (ls_outLength (nI i)) hP
              have hD : va_D (lA ad acc) (lW ad cI cB cO acc lm rm N (va_up x 1 (v / 10 ^ i)) (va_up z 4 (nI i)) (fl (dgI v) ob i)) := wlD hok
              refine lv_aload_n hx hb dX2_write_84 rfl (lv_at hl 1 rfl) ?_
              refine va_get (D := D) (ci := 2) (v := .int ((va_up z 4 (nI i)) 4)) (C := RX2) (T := TX2) (N := 11) hx hb hts hi2 hown hK hP 0 (wl_at (by omega)) rfl 10 (by decide) (hts (.fieldLink RX2 152 "BigLedger" "outLength" "I") (by decide +kernel)) (fun _ h9 => h9) rfl dX2_write_85 ?_
              refine lv_topi (fun y44 ey44 => ?_)
              replace ey44 : y44 = nI i := ey44.trans (va_up_self _ _ _)
              subst ey44
              exact W.iret (v := nI i) hx hb hr (fun t ht hW => ⟨⟨_, (va_up x 1 (v / 10 ^ i), va_up z 4 (nI i), fl (dgI v) ob i), rfl, cWr_yes c0 ha eb hvv hnd (by omega), hp_at ht hP⟩, hS.F ht⟩) hS.2.2 dX2_write_88
            · have hpr2 : ∀ j, 1 ≤ j → j < i + 1 → v / 10 ^ j ≠ 0 := fun j h1 h2 => by
                rcases Nat.lt_or_ge j i with q | q
                · exact hpr j h1 q
                · rw [show j = i by omega]; exact fun q2 => c3 ((szF_pos hvi (by omega)).mpr q2)
              have hD : va_D (lA ad acc) (lW ad cI cB cO acc lm rm N (va_up x 1 (v / 10 ^ i)) z (fl (dgI v) ob i)) := wlD hok
              have hvi : v / 10 ^ i < 2147483648 ^ (lm + 1) := Nat.lt_of_le_of_lt (Nat.div_le_self _ _) hvw
              refine lv_aload_n hx hb dX2_write_54 rfl (lv_at hl 1 rfl) ?_
              refine va_get (D := D) (ci := 2) (v := .ref (ad 5)) (C := RX2) (T := TX2) (N := 11) hx hb hts hi2 hown hK hP 0 (wl_at (by omega)) rfl 9 (by decide) (hts (.fieldLink RX2 52 "BigLedger" "outBackwards" "[B") (by decide +kernel)) (fun _ h9 => h9) rfl dX2_write_55 ?_
              refine lv_iload_n hx hb dX2_write_58 rfl (lv_at hl 0 rfl) ?_
              refine lv_bipush (v := 48) hx hb dX2_write_59 (by decide) ?_
              refine lv_aload_n hx hb dX2_write_61 rfl (lv_at hl 1 rfl) ?_
              refine va_get (D := D) (ci := 2) (v := .ref (ad 8)) (C := RX2) (T := TX2) (N := 11) hx hb hts hi2 hown hK hP 0 (wl_at (by omega)) rfl 8 (by decide) (hts (.fieldLink RX2 49 "BigLedger" "scratch" "LBigLedger$Natural;") (by decide +kernel)) (fun _ h9 => h9) rfl dX2_write_62 ?_
              refine lv_bipush (v := 10) hx hb dX2_write_65 (by decide) ?_
              have hn45 := ln_sc hP
              refine va_calli (va_runV (As := [.int ((10 : Int32))]) (rest := [.int ((48 : Int32)), .int (nI i), .ref (ad 5)]) ⟨hx, hb, hml, hown, hts⟩ (c_divide l D cI (lm + 1) (ad 8) (ad 9) (v / 10 ^ i) (by omega) (ln_oa (i := 8) hok (by omega)) hvi 10 (by decide) (by decide)) (cwV 1 hts gX2_write_X1_divide rfl rfl rfl (by decide +kernel) ⟨Nat.le_of_ble_eq_true rfl, Nat.le_of_ble_eq_true rfl⟩) ⟨nPc_blind, va_recv hK hn45 (ci := 1) (q0 := 0) rfl rfl, nPc_use (hn45) (hK.sub [0] rfl)⟩ rfl rfl hl.1 rfl (lv_room (Nat.le_of_ble_eq_true rfl)) dX2_write_67 ⟨Nat.le_of_ble_eq_true rfl, Nat.le_of_ble_eq_true rfl⟩) hS (fun q _ h => (fun q h => lA_n (i := 8) (by omega) h) q h) (fun q h => lA_n (i := 8) (by omega) h) (fun r _u t H1 locs ht hvm hw hB hz1 hk9 hS => ?_)
              have hP9 := cv (by rw [bx_uu, dec_step]) (lk_sc hok hP hk9 (pB_at ht hB))
              generalize H1 = H at ht hz1 hk9 hS hP9 ⊢
              have hP : va_P D vwCl (lW ad cI cB cO acc lm rm N (va_up x 1 (v / 10 ^ (i + 1))) z (fl (dgI v) ob i)) H := hP9
              have hD : va_D (lA ad acc) (lW ad cI cB cO acc lm rm N (va_up x 1 (v / 10 ^ (i + 1))) z (fl (dgI v) ob i)) := wlD hok
              refine lv_iadd hx hb dX2_write_70 ?_
              refine lv_topi (fun y46 ey46 => ?_)
              replace ey46 : y46 = nI (48 + v / 10 ^ i % 10) := ey46.trans (by rw [hw]; exact nI_add 48 _)
              subst ey46
              refine lv_i2b (v := nI (48 + v / 10 ^ i % 10)) hx hb dX2_write_71 (dg_byte v i) ?_
              refine va_bast hx hb hK hP hD hS 5 1 (wl_at (by omega)) rfl (vp_in_nI (by omega) (by omega)) dX2_write_72 (fun H locs hP hD hS => ?_)
              rw [show upd (fl (dgI v) ob i) (nI i).toNatClampNeg (vp_nar .byte (nI (48 + v / 10 ^ i % 10))) = fl (dgI v) ob (i + 1) from by rw [nI_clamp (by omega), dg_nar]; exact fl_s rfl] at hP
              have hP : va_P D vwCl (lW ad cI cB cO acc lm rm N (va_up x 1 (v / 10 ^ (i + 1))) z (fl (dgI v) ob (i + 1))) H := cv (ls_out (fl (dgI v) ob (i + 1))) hP
              have hD : va_D (lA ad acc) (lW ad cI cB cO acc lm rm N (va_up x 1 (v / 10 ^ (i + 1))) z (fl (dgI v) ob (i + 1))) := wlD hok
              refine lv_iinc (v := nI (i + 1)) (lv' := [(2, .int (nI (i + 1))), (0, .ref (ad 0)), (1, .int (nI b))]) hx hb dX2_write_73 hl (k := 0) rfl (nI_1 i) (by decide) rfl (fun ls hl => ?_)
              refine lv_goto (tgt := 31) hx hb dX2_write_76 (by decide) ?_
              exact ih (i + 1) H locs ls (by omega) hpr2 hP hS hl
      exact loop (lm * 10) 0 H locs ls (by omega) (fun j h1 h2 => absurd h2 (by omega)) (by rw [fl_0, Nat.pow_zero, Nat.div_one]; exact hP) hS (lv_sub hl [0, 1, 2] rfl)
    · have han : ¬ isAcc acc p0 = true := fun q => absurd c1 (by rw [hra, if_pos q]; decide)
      refine lv_iconst (v := (-1)) hx hb dX2_write_15 (by decide) ?_
      exact W.iret (v := -1) hx hb hr (fun t ht hW => ⟨⟨_, (x, z, ob), rfl, cWr_no (Or.inr han), hp_at ht hP⟩, hS.F ht⟩) hS.2.2 dX2_write_16

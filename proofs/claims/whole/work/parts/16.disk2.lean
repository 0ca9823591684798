set_option maxHeartbeats 4000000 in
set_option maxRecDepth 100000 in
theorem c_bringLogHome (l : Launch) (D : va_G) (ad : Nat → Nat) (cI cB cO : ClassId) (acc lm rm : Nat) (N : LN) (x : Nat → Nat) (z ob : Nat → Int32) (hok : lOk ad acc lm) (hNk : nOk lm N) (hx3 : x 3 < 33554432) : Met l yX0_bringLogHome wsX0_bringLogHome ({ frames := 3, cells := 0, slots := 0, locals := 67 }) (lPc [.ref (ad 1)] D (lW ad cI cB cO acc lm rm N x z ob) [(cI, .int), (cB, .byte), (cO, .object "BigLedger$Natural")]) (va_Qi (fun (r : Int32) (u : DS) => (r, u) = dHome acc (N, x, z)) (fun u t => va_P D vwCl (lW ad cI cB cO acc lm rm u.1 u.2.1 u.2.2 ob) t.heap) (lA ad acc)) 0 0 (lA ad acc) := by
  refine Met.ofW (cc := cX0_bringLogHome) (maxL := 1) (ret := (some .boolean)) (by decide) rfl ?_
  intro p e s m args below meth c s₁ B hml hv
  obtain ⟨rfl, hP, hK, hN⟩ := hv
  have hx := B.exec
  have hb := B.bytes
  have hr := B.returns
  have hts := atoms_spec (ws := wsX0_bringLogHome) B.pre
  have hown : s.vm.findClass RX0 = some m.cls := findClass_of_methodNamed B.named
  have hlocks := B.notSynchronized
  have hi0 : ∀ w ∈ wsX00, w ∈ wsX0_bringLogHome := by decide +kernel
  have hok1 := hok.2.1
  have hok2 := hok.2.2.1
  have hok3 := hok.2.2.2
  have hS : va_S (lA ad acc) s.heap s.heap [] := va_S.rf
  have hD : va_D (lA ad acc) (lW ad cI cB cO acc lm rm N x z ob) := wlD hok
  have hl := lv_entry ([.ref (ad 1)]) (n := 1) (Nat.le_of_ble_eq_true rfl)
  rw [lg_entry_eq]
  generalize (lg_sl ([.ref (ad 1)]) ++ List.replicate (1 - (lg_sl ([.ref (ad 1)])).length) Slot.unset).toArray = ls at hl ⊢
  have hl : lv_has ls 1 [(0, .ref (ad 1))] := hl
  refine lv_aload_n hx hb dX0_bringLogHome_0 rfl (lv_at hl 0 rfl) ?_
  refine va_get (D := D) (ci := 0) (v := .int (nI (x 3))) (C := RX0) (T := TX0) (N := 6) hx hb hts hi0 hown hK hP 1 (wl_at (by omega)) rfl 2 (by decide) (hts (.fieldLink RX0 45 "BigLedger$Disk" "committed" "I") (by decide +kernel)) (fun _ h9 => h9) rfl dX0_bringLogHome_1 ?_
  refine lv_if_ne (tgt := 9) hx hb dX0_bringLogHome_4 (by decide) (fun c0 => ?_) (fun c0 => ?_)
  · replace c0 : ¬ x 3 = 0 := fun q => c0 ((nI_eq0 (by omega)).mpr q)
    refine lv_aload_n hx hb dX0_bringLogHome_9 rfl (lv_at hl 0 rfl) ?_
    refine lv_aload_n hx hb dX0_bringLogHome_10 rfl (lv_at hl 0 rfl) ?_
    refine va_get (D := D) (ci := 0) (v := .ref (ad 3)) (C := RX0) (T := TX0) (N := 6) hx hb hts hi0 hown hK hP 1 (wl_at (by omega)) rfl 0 (by decide) (hts (.fieldLink RX0 13 "BigLedger$Disk" "home" "[LBigLedger$Natural;") (by decide +kernel)) (fun _ h9 => h9) rfl dX0_bringLogHome_11 ?_
    refine lv_aload_n hx hb dX0_bringLogHome_14 rfl (lv_at hl 0 rfl) ?_
    refine va_get (D := D) (ci := 0) (v := .int (nI (x 3))) (C := RX0) (T := TX0) (N := 6) hx hb hts hi0 hown hK hP 1 (wl_at (by omega)) rfl 2 (by decide) (hts (.fieldLink RX0 45 "BigLedger$Disk" "committed" "I") (by decide +kernel)) (fun _ h9 => h9) rfl dX0_bringLogHome_15 ?_
    refine lv_aload_n hx hb dX0_bringLogHome_18 rfl (lv_at hl 0 rfl) ?_
    refine va_get (D := D) (ci := 0) (v := .ref (ad 4)) (C := RX0) (T := TX0) (N := 6) hx hb hts hi0 hown hK hP 1 (wl_at (by omega)) rfl 1 (by decide) (hts (.fieldLink RX0 19 "BigLedger$Disk" "log" "[LBigLedger$Natural;") (by decide +kernel)) (fun _ h9 => h9) rfl dX0_bringLogHome_19 ?_
    refine va_calli (va_runV (As := [.ref (ad 3), .int (nI (x 3)), .ref (ad 4)]) (rest := []) ⟨hx, hb, hml, hown, hts⟩ (c_writeBlocks l D ad cI cB cO acc lm rm N x z ob hok 1 2 (x 3) (by decide) (by decide) (by decide) hNk) (cwV 3 hts gX0_bringLogHome_X0_writeBlocks rfl rfl rfl (by decide +kernel) ⟨Nat.le_of_ble_eq_true rfl, Nat.le_of_ble_eq_true rfl⟩) ⟨lPc_blind, va_recv hK hP (ci := 0) (q0 := 1) rfl (wl_at (by omega)), lPc_use (hP) ⟨hK, hN⟩⟩ rfl rfl hl.1 rfl (lv_room (Nat.le_of_ble_eq_true rfl)) dX0_bringLogHome_22 ⟨Nat.le_of_ble_eq_true rfl, Nat.le_of_ble_eq_true rfl⟩) hS (fun q _ h => (fun _ h => h) q h) (fun _ h => h) (fun r1 u1 t H1 locs ht hvm hw1 hB hz1 hk9 hS => ?_)
    generalize H1 = H at ht hz1 hk9 hS ⊢
    have hP : va_P D vwCl (lW ad cI cB cO acc lm rm u1.1 u1.2.1 u1.2.2 ob) H := pB_at ht hB
    have hD : va_D (lA ad acc) (lW ad cI cB cO acc lm rm u1.1 u1.2.1 u1.2.2 ob) := wlD hok
    refine lv_if_eq (tgt := 40) hx hb dX0_bringLogHome_25 (by decide) (fun c1 => ?_) (fun c1 => ?_)
    · refine lv_iconst (v := 0) hx hb dX0_bringLogHome_40 (by decide) ?_
      exact W.zret (v := 0) (ty := .boolean) hx hb hr (rfl) (fun t ht hW => ⟨⟨_, u1, rfl, by rw [dHome]; exact (if_neg c0).symm ▸ (by rw [andD, ← hw1]; exact (if_pos c1).symm), hp_at ht hP⟩, hS.F ht⟩) hS.2.2 dX0_bringLogHome_41
    · refine lv_aload_n hx hb dX0_bringLogHome_28 rfl (lv_at hl 0 rfl) ?_
      refine lv_iconst (v := 0) hx hb dX0_bringLogHome_29 (by decide) ?_
      refine lv_topi (fun y3 ey3 => ?_)
      replace ey3 : y3 = nI 0 := ey3.trans (nI_0.symm)
      subst ey3
      refine va_calli (va_runV (As := [.int (nI 0)]) (rest := []) ⟨hx, hb, hml, hown, hts⟩ (c_writeLogState l D ad cI cB cO acc lm rm u1.1 u1.2.1 u1.2.2 ob hok 0) (cwV 1 hts gX0_bringLogHome_X0_writeLogState rfl rfl rfl (by decide +kernel) ⟨Nat.le_of_ble_eq_true rfl, Nat.le_of_ble_eq_true rfl⟩) ⟨lPc_blind, va_recv hK hP (ci := 0) (q0 := 1) rfl (wl_at (by omega)), lPc_use (hP) ⟨hK, hN⟩⟩ rfl rfl hl.1 rfl (lv_room (Nat.le_of_ble_eq_true rfl)) dX0_bringLogHome_30 ⟨Nat.le_of_ble_eq_true rfl, Nat.le_of_ble_eq_true rfl⟩) hS (fun q _ h => (fun _ h => h) q h) (fun _ h => h) (fun r2 u2 t H1 locs ht hvm hw2 hB hz1 hk9 hS => ?_)
      generalize H1 = H at ht hz1 hk9 hS ⊢
      have hP : va_P D vwCl (lW ad cI cB cO acc lm rm u2.1 u2.2.1 u2.2.2 ob) H := pB_at ht hB
      have hD : va_D (lA ad acc) (lW ad cI cB cO acc lm rm u2.1 u2.2.1 u2.2.2 ob) := wlD hok
      have e9 : dHome acc (N, x, z) = (r2, u2) := by
        rw [hw2, dHome]
        refine (if_neg c0).trans ?_
        rw [andD, ← hw1]
        exact if_neg c1
      have hb2 : r2 = 0 ∨ r2 = 1 := by have h9 := dWL_b 0 (u1.1, u1.2.1, u1.2.2); rw [← hw2] at h9; exact h9
      refine lv_if_eq (tgt := 40) hx hb dX0_bringLogHome_33 (by decide) (fun c2 => ?_) (fun c2 => ?_)
      · refine lv_iconst (v := 0) hx hb dX0_bringLogHome_40 (by decide) ?_
        exact W.zret (v := 0) (ty := .boolean) hx hb hr (rfl) (fun t ht hW => ⟨⟨_, u2, rfl, by rw [e9, c2], hp_at ht hP⟩, hS.F ht⟩) hS.2.2 dX0_bringLogHome_41
      · refine lv_iconst (v := 1) hx hb dX0_bringLogHome_36 (by decide) ?_
        refine lv_goto (tgt := 41) hx hb dX0_bringLogHome_37 (by decide) ?_
        exact W.zret (v := 1) (ty := .boolean) hx hb hr (rfl) (fun t ht hW => ⟨⟨_, u2, rfl, by rw [e9, bo_1 hb2 c2], hp_at ht hP⟩, hS.F ht⟩) hS.2.2 dX0_bringLogHome_41
  · replace c0 : x 3 = 0 := (nI_eq0 (by omega)).mp c0
    refine lv_iconst (v := 1) hx hb dX0_bringLogHome_7 (by decide) ?_
    exact W.zret (v := 1) (ty := .boolean) hx hb hr (rfl) (fun t ht hW => ⟨⟨_, (N, x, z), rfl, by rw [dHome]; exact (if_pos c0).symm, hp_at ht hP⟩, hS.F ht⟩) hS.2.2 dX0_bringLogHome_8
set_option maxHeartbeats 4000000 in
set_option maxRecDepth 100000 in
theorem c_bringThroughLog (l : Launch) (D : va_G) (ad : Nat → Nat) (cI cB cO : ClassId) (acc lm rm : Nat) (N : LN) (x : Nat → Nat) (z ob : Nat → Int32) (hok : lOk ad acc lm) (T : Nat) (hT : T < 33554432) (hNk : nOk lm N) : Met l yX0_bringThroughLog wsX0_bringThroughLog ({ frames := 4, cells := 0, slots := 0, locals := 87 }) (lPc [.ref (ad 1), .int (nI T), .ref (ad 2)] D (lW ad cI cB cO acc lm rm N x z ob) [(cI, .int), (cB, .byte), (cO, .object "BigLedger$Natural")]) (va_Qi (fun (r : Int32) (u : DS) => (r, u) = dLog T acc (N, x, z)) (fun u t => va_P D vwCl (lW ad cI cB cO acc lm rm u.1 u.2.1 u.2.2 ob) t.heap) (lA ad acc)) 0 0 (lA ad acc) := by
  refine Met.ofW (cc := cX0_bringThroughLog) (maxL := 3) (ret := (some .boolean)) (by decide) rfl ?_
  intro p e s m args below meth c s₁ B hml hv
  obtain ⟨rfl, hP, hK, hN⟩ := hv
  have hx := B.exec
  have hb := B.bytes
  have hr := B.returns
  have hts := atoms_spec (ws := wsX0_bringThroughLog) B.pre
  have hown : s.vm.findClass RX0 = some m.cls := findClass_of_methodNamed B.named
  have hlocks := B.notSynchronized
  have hi0 : ∀ w ∈ wsX00, w ∈ wsX0_bringThroughLog := by decide +kernel
  have hok1 := hok.2.1
  have hok2 := hok.2.2.1
  have hok3 := hok.2.2.2
  have hS : va_S (lA ad acc) s.heap s.heap [] := va_S.rf
  have hD : va_D (lA ad acc) (lW ad cI cB cO acc lm rm N x z ob) := wlD hok
  have hl := lv_entry ([.ref (ad 1), .int (nI T), .ref (ad 2)]) (n := 3) (Nat.le_of_ble_eq_true rfl)
  rw [lg_entry_eq]
  generalize (lg_sl ([.ref (ad 1), .int (nI T), .ref (ad 2)]) ++ List.replicate (3 - (lg_sl ([.ref (ad 1), .int (nI T), .ref (ad 2)])).length) Slot.unset).toArray = ls at hl ⊢
  have hl : lv_has ls 3 [(0, .ref (ad 1)), (1, .int (nI T)), (2, .ref (ad 2))] := hl
  refine lv_iload_n hx hb dX0_bringThroughLog_0 rfl (lv_at hl 1 rfl) ?_
  refine lv_if_ne (tgt := 6) hx hb dX0_bringThroughLog_1 (by decide) (fun c0 => ?_) (fun c0 => ?_)
  · replace c0 : ¬ T = 0 := fun q => c0 ((nI_eq0 (by omega)).mpr q)
    refine lv_aload_n hx hb dX0_bringThroughLog_6 rfl (lv_at hl 0 rfl) ?_
    refine lv_aload_n hx hb dX0_bringThroughLog_7 rfl (lv_at hl 0 rfl) ?_
    refine va_get (D := D) (ci := 0) (v := .ref (ad 4)) (C := RX0) (T := TX0) (N := 6) hx hb hts hi0 hown hK hP 1 (wl_at (by omega)) rfl 1 (by decide) (hts (.fieldLink RX0 19 "BigLedger$Disk" "log" "[LBigLedger$Natural;") (by decide +kernel)) (fun _ h9 => h9) rfl dX0_bringThroughLog_8 ?_
    refine lv_iload_n hx hb dX0_bringThroughLog_11 rfl (lv_at hl 1 rfl) ?_
    refine lv_aload_n hx hb dX0_bringThroughLog_12 rfl (lv_at hl 2 rfl) ?_
    refine va_calli (va_runV (As := [.ref (ad 4), .int (nI T), .ref (ad 2)]) (rest := []) ⟨hx, hb, hml, hown, hts⟩ (c_writeBlocks l D ad cI cB cO acc lm rm N x z ob hok 2 0 T (by decide) (by decide) (by decide) hNk) (cwV 3 hts gX0_bringThroughLog_X0_writeBlocks rfl rfl rfl (by decide +kernel) ⟨Nat.le_of_ble_eq_true rfl, Nat.le_of_ble_eq_true rfl⟩) ⟨lPc_blind, va_recv hK hP (ci := 0) (q0 := 1) rfl (wl_at (by omega)), lPc_use (hP) ⟨hK, hN⟩⟩ rfl rfl hl.1 rfl (lv_room (Nat.le_of_ble_eq_true rfl)) dX0_bringThroughLog_13 ⟨Nat.le_of_ble_eq_true rfl, Nat.le_of_ble_eq_true rfl⟩) hS (fun q _ h => (fun _ h => h) q h) (fun _ h => h) (fun r1 u1 t H1 locs ht hvm hw1 hB hz1 hk9 hS => ?_)
    generalize H1 = H at ht hz1 hk9 hS ⊢
    have hP : va_P D vwCl (lW ad cI cB cO acc lm rm u1.1 u1.2.1 u1.2.2 ob) H := pB_at ht hB
    have hD : va_D (lA ad acc) (lW ad cI cB cO acc lm rm u1.1 u1.2.1 u1.2.2 ob) := wlD hok
    have hN1 : nOk lm u1.1 := by have h9 := wBl_ok 2 0 T (acc + 1) 0 N z hNk; have h8 : u1 = (dWB 2 0 T acc (N, x, z)).2 := congrArg Prod.snd hw1; rw [h8]; exact h9
    refine lv_if_eq (tgt := 38) hx hb dX0_bringThroughLog_16 (by decide) (fun c1 => ?_) (fun c1 => ?_)
    · refine lv_iconst (v := 0) hx hb dX0_bringThroughLog_38 (by decide) ?_
      exact W.zret (v := 0) (ty := .boolean) hx hb hr (rfl) (fun t ht hW => ⟨⟨_, u1, rfl, by rw [dLog]; exact (if_neg c0).symm ▸ (by rw [andD, ← hw1]; exact (if_pos c1).symm), hp_at ht hP⟩, hS.F ht⟩) hS.2.2 dX0_bringThroughLog_39
    · refine lv_aload_n hx hb dX0_bringThroughLog_19 rfl (lv_at hl 0 rfl) ?_
      refine lv_iload_n hx hb dX0_bringThroughLog_20 rfl (lv_at hl 1 rfl) ?_
      refine va_calli (va_runV (As := [.int (nI T)]) (rest := []) ⟨hx, hb, hml, hown, hts⟩ (c_writeLogState l D ad cI cB cO acc lm rm u1.1 u1.2.1 u1.2.2 ob hok T) (cwV 1 hts gX0_bringThroughLog_X0_writeLogState rfl rfl rfl (by decide +kernel) ⟨Nat.le_of_ble_eq_true rfl, Nat.le_of_ble_eq_true rfl⟩) ⟨lPc_blind, va_recv hK hP (ci := 0) (q0 := 1) rfl (wl_at (by omega)), lPc_use (hP) ⟨hK, hN⟩⟩ rfl rfl hl.1 rfl (lv_room (Nat.le_of_ble_eq_true rfl)) dX0_bringThroughLog_21 ⟨Nat.le_of_ble_eq_true rfl, Nat.le_of_ble_eq_true rfl⟩) hS (fun q _ h => (fun _ h => h) q h) (fun _ h => h) (fun r2 u2 t H1 locs ht hvm hw2 hB hz1 hk9 hS => ?_)
      generalize H1 = H at ht hz1 hk9 hS ⊢
      have hP : va_P D vwCl (lW ad cI cB cO acc lm rm u2.1 u2.2.1 u2.2.2 ob) H := pB_at ht hB
      have hD : va_D (lA ad acc) (lW ad cI cB cO acc lm rm u2.1 u2.2.1 u2.2.2 ob) := wlD hok
      have e9 : dLog T acc (N, x, z) = andD (dWL T) (dHome acc) u1 := by
        rw [dLog]
        refine (if_neg c0).trans ?_
        rw [andD, ← hw1]
        exact if_neg c1
      replace hw2 : (r2, u2) = dWL T u1 := hw2
      refine lv_if_eq (tgt := 38) hx hb dX0_bringThroughLog_24 (by decide) (fun c2 => ?_) (fun c2 => ?_)
      · refine lv_iconst (v := 0) hx hb dX0_bringThroughLog_38 (by decide) ?_
        exact W.zret (v := 0) (ty := .boolean) hx hb hr (rfl) (fun t ht hW => ⟨⟨_, u2, rfl, by rw [e9, andD, ← hw2]; exact (if_pos c2).symm, hp_at ht hP⟩, hS.F ht⟩) hS.2.2 dX0_bringThroughLog_39
      · have hN2 : nOk lm u2.1 ∧ u2.2.1 3 < 33554432 := by
          have h9 : ¬ u1.2.2 3 = 0 := fun q => by rw [dWL, if_pos q] at hw2; exact c2 (congrArg Prod.fst hw2)
          rw [dWL, if_neg h9] at hw2
          have h8 := congrArg Prod.snd hw2
          dsimp only at h8
          rw [h8]
          exact ⟨hN1, hT⟩
        refine lv_aload_n hx hb dX0_bringThroughLog_27 rfl (lv_at hl 0 rfl) ?_
        refine va_calli (va_runV (As := []) (rest := []) ⟨hx, hb, hml, hown, hts⟩ (c_bringLogHome l D ad cI cB cO acc lm rm u2.1 u2.2.1 u2.2.2 ob hok hN2.1 hN2.2) (cwV 0 hts gX0_bringThroughLog_X0_bringLogHome rfl rfl rfl (by decide +kernel) ⟨Nat.le_of_ble_eq_true rfl, Nat.le_of_ble_eq_true rfl⟩) ⟨lPc_blind, va_recv hK hP (ci := 0) (q0 := 1) rfl (wl_at (by omega)), lPc_use (hP) ⟨hK, hN⟩⟩ rfl rfl hl.1 rfl (lv_room (Nat.le_of_ble_eq_true rfl)) dX0_bringThroughLog_28 ⟨Nat.le_of_ble_eq_true rfl, Nat.le_of_ble_eq_true rfl⟩) hS (fun q _ h => (fun _ h => h) q h) (fun _ h => h) (fun r3 u3 t H1 locs ht hvm hw3 hB hz1 hk9 hS => ?_)
        generalize H1 = H at ht hz1 hk9 hS ⊢
        have hP : va_P D vwCl (lW ad cI cB cO acc lm rm u3.1 u3.2.1 u3.2.2 ob) H := pB_at ht hB
        have hD : va_D (lA ad acc) (lW ad cI cB cO acc lm rm u3.1 u3.2.1 u3.2.2 ob) := wlD hok
        replace hw3 : (r3, u3) = dHome acc u2 := hw3
        have e8 : dLog T acc (N, x, z) = (r3, u3) := by
          rw [hw3, e9, andD, ← hw2]
          exact if_neg c2
        have hb3 : r3 = 0 ∨ r3 = 1 := by have h9 := dHome_b acc u2; rw [← hw3] at h9; exact h9
        refine lv_if_eq (tgt := 38) hx hb dX0_bringThroughLog_31 (by decide) (fun c3 => ?_) (fun c3 => ?_)
        · refine lv_iconst (v := 0) hx hb dX0_bringThroughLog_38 (by decide) ?_
          exact W.zret (v := 0) (ty := .boolean) hx hb hr (rfl) (fun t ht hW => ⟨⟨_, u3, rfl, by rw [e8, c3], hp_at ht hP⟩, hS.F ht⟩) hS.2.2 dX0_bringThroughLog_39
        · refine lv_iconst (v := 1) hx hb dX0_bringThroughLog_34 (by decide) ?_
          refine lv_goto (tgt := 39) hx hb dX0_bringThroughLog_35 (by decide) ?_
          exact W.zret (v := 1) (ty := .boolean) hx hb hr (rfl) (fun t ht hW => ⟨⟨_, u3, rfl, by rw [e8, bo_1 hb3 c3], hp_at ht hP⟩, hS.F ht⟩) hS.2.2 dX0_bringThroughLog_39
  · replace c0 : T = 0 := (nI_eq0 (by omega)).mp c0
    refine lv_iconst (v := 1) hx hb dX0_bringThroughLog_4 (by decide) ?_
    exact W.zret (v := 1) (ty := .boolean) hx hb hr (rfl) (fun t ht hW => ⟨⟨_, (N, x, z), rfl, by rw [dLog]; exact (if_pos c0).symm, hp_at ht hP⟩, hS.F ht⟩) hS.2.2 dX0_bringThroughLog_5
set_option maxHeartbeats 4000000 in
set_option maxRecDepth 100000 in
theorem c_layOut (l : Launch) (D : va_G) (ad : Nat → Nat) (cI cB cO : ClassId) (acc lm rm : Nat) (N : LN) (x : Nat → Nat) (z ob : Nat → Int32) (hok : lOk ad acc lm) (hNk : nOk lm N) : Met l yX0_layOut wsX0_layOut ({ frames := 2, cells := 0, slots := 0, locals := 42 }) (lPc [.ref (ad 1)] D (lW ad cI cB cO acc lm rm N x z ob) [(cI, .int), (cB, .byte), (cO, .object "BigLedger$Natural")]) (va_Qi (fun (r : Int32) (u : DS) => (r, u) = dLay acc (N, x, z)) (fun u t => va_P D vwCl (lW ad cI cB cO acc lm rm u.1 u.2.1 u.2.2 ob) t.heap) (lA ad acc)) 0 0 (lA ad acc) := by
  refine Met.ofW (cc := cX0_layOut) (maxL := 1) (ret := (some .boolean)) (by decide) rfl ?_
  intro p e s m args below meth c s₁ B hml hv
  obtain ⟨rfl, hP, hK, hN⟩ := hv
  have hx := B.exec
  have hb := B.bytes
  have hr := B.returns
  have hts := atoms_spec (ws := wsX0_layOut) B.pre
  have hown : s.vm.findClass RX0 = some m.cls := findClass_of_methodNamed B.named
  have hlocks := B.notSynchronized
  have hi0 : ∀ w ∈ wsX00, w ∈ wsX0_layOut := by decide +kernel
  have hok1 := hok.2.1
  have hok2 := hok.2.2.1
  have hok3 := hok.2.2.2
  have hS : va_S (lA ad acc) s.heap s.heap [] := va_S.rf
  have hD : va_D (lA ad acc) (lW ad cI cB cO acc lm rm N x z ob) := wlD hok
  have hl := lv_entry ([.ref (ad 1)]) (n := 1) (Nat.le_of_ble_eq_true rfl)
  rw [lg_entry_eq]
  generalize (lg_sl ([.ref (ad 1)]) ++ List.replicate (1 - (lg_sl ([.ref (ad 1)])).length) Slot.unset).toArray = ls at hl ⊢
  have hl : lv_has ls 1 [(0, .ref (ad 1))] := hl
  refine lv_aload_n hx hb dX0_layOut_0 rfl (lv_at hl 0 rfl) ?_
  refine lv_iconst (v := 0) hx hb dX0_layOut_1 (by decide) ?_
  refine va_calli (va_runV (As := [.int ((0 : Int32))]) (rest := []) ⟨hx, hb, hml, hown, hts⟩ (c_writeFormatted l D ad cI cB cO acc lm rm N x z ob hok 0 (Or.inl rfl)) (cwV 1 hts gX0_layOut_X0_writeFormatted rfl rfl rfl (by decide +kernel) ⟨Nat.le_of_ble_eq_true rfl, Nat.le_of_ble_eq_true rfl⟩) ⟨lPc_blind, va_recv hK hP (ci := 0) (q0 := 1) rfl (wl_at (by omega)), lPc_use (hP) ⟨hK, hN⟩⟩ rfl rfl hl.1 rfl (lv_room (Nat.le_of_ble_eq_true rfl)) dX0_layOut_2 ⟨Nat.le_of_ble_eq_true rfl, Nat.le_of_ble_eq_true rfl⟩) hS (fun q _ h => (fun _ h => h) q h) (fun _ h => h) (fun r1 u1 t H1 locs ht hvm hw1 hB hz1 hk9 hS => ?_)
  generalize H1 = H at ht hz1 hk9 hS ⊢
  have hP : va_P D vwCl (lW ad cI cB cO acc lm rm u1.1 u1.2.1 u1.2.2 ob) H := pB_at ht hB
  have hD : va_D (lA ad acc) (lW ad cI cB cO acc lm rm u1.1 u1.2.1 u1.2.2 ob) := wlD hok
  have hN1 : nOk lm u1.1 := by
    have h8 : u1 = (dWF 0 (N, x, z)).2 := congrArg Prod.snd hw1
    rw [h8, dWF]
    split <;> exact hNk
  refine lv_if_eq (tgt := 35) hx hb dX0_layOut_5 (by decide) (fun c1 => ?_) (fun c1 => ?_)
  · refine lv_iconst (v := 0) hx hb dX0_layOut_35 (by decide) ?_
    exact W.zret (v := 0) (ty := .boolean) hx hb hr (rfl) (fun t ht hW => ⟨⟨_, u1, rfl, by rw [dLay, andD, ← hw1]; exact (if_pos c1).symm, hp_at ht hP⟩, hS.F ht⟩) hS.2.2 dX0_layOut_36
  · refine lv_aload_n hx hb dX0_layOut_8 rfl (lv_at hl 0 rfl) ?_
    refine lv_iconst (v := 0) hx hb dX0_layOut_9 (by decide) ?_
    refine lv_topi (fun y4 ey4 => ?_)
    replace ey4 : y4 = nI 0 := ey4.trans (nI_0.symm)
    subst ey4
    refine va_calli (va_runV (As := [.int (nI 0)]) (rest := []) ⟨hx, hb, hml, hown, hts⟩ (c_writeLogState l D ad cI cB cO acc lm rm u1.1 u1.2.1 u1.2.2 ob hok 0) (cwV 1 hts gX0_layOut_X0_writeLogState rfl rfl rfl (by decide +kernel) ⟨Nat.le_of_ble_eq_true rfl, Nat.le_of_ble_eq_true rfl⟩) ⟨lPc_blind, va_recv hK hP (ci := 0) (q0 := 1) rfl (wl_at (by omega)), lPc_use (hP) ⟨hK, hN⟩⟩ rfl rfl hl.1 rfl (lv_room (Nat.le_of_ble_eq_true rfl)) dX0_layOut_10 ⟨Nat.le_of_ble_eq_true rfl, Nat.le_of_ble_eq_true rfl⟩) hS (fun q _ h => (fun _ h => h) q h) (fun _ h => h) (fun r2 u2 t H1 locs ht hvm hw2 hB hz1 hk9 hS => ?_)
    generalize H1 = H at ht hz1 hk9 hS ⊢
    have hP : va_P D vwCl (lW ad cI cB cO acc lm rm u2.1 u2.2.1 u2.2.2 ob) H := pB_at ht hB
    have hD : va_D (lA ad acc) (lW ad cI cB cO acc lm rm u2.1 u2.2.1 u2.2.2 ob) := wlD hok
    replace hw2 : (r2, u2) = dWL 0 u1 := hw2
    have hN2 : nOk lm u2.1 := by
      have h8 : u2 = (dWL 0 u1).2 := congrArg Prod.snd hw2
      rw [h8, dWL]
      split <;> exact hN1
    have e1 : dLay acc (N, x, z) = andD (dWL 0) (andD (dCl acc) (dWF 1)) u1 := by
      rw [dLay, andD, ← hw1]
      exact if_neg c1
    refine lv_if_eq (tgt := 35) hx hb dX0_layOut_13 (by decide) (fun c2 => ?_) (fun c2 => ?_)
    · refine lv_iconst (v := 0) hx hb dX0_layOut_35 (by decide) ?_
      exact W.zret (v := 0) (ty := .boolean) hx hb hr (rfl) (fun t ht hW => ⟨⟨_, u2, rfl, by rw [e1, andD, ← hw2]; exact (if_pos c2).symm, hp_at ht hP⟩, hS.F ht⟩) hS.2.2 dX0_layOut_36
    · refine lv_aload_n hx hb dX0_layOut_16 rfl (lv_at hl 0 rfl) ?_
      refine va_calli (va_runV (As := []) (rest := []) ⟨hx, hb, hml, hown, hts⟩ (c_clearHomes l D ad cI cB cO acc lm rm u2.1 u2.2.1 u2.2.2 ob hok hN2) (cwV 0 hts gX0_layOut_X0_clearHomes rfl rfl rfl (by decide +kernel) ⟨Nat.le_of_ble_eq_true rfl, Nat.le_of_ble_eq_true rfl⟩) ⟨lPc_blind, va_recv hK hP (ci := 0) (q0 := 1) rfl (wl_at (by omega)), lPc_use (hP) ⟨hK, hN⟩⟩ rfl rfl hl.1 rfl (lv_room (Nat.le_of_ble_eq_true rfl)) dX0_layOut_17 ⟨Nat.le_of_ble_eq_true rfl, Nat.le_of_ble_eq_true rfl⟩) hS (fun q _ h => (fun _ h => h) q h) (fun _ h => h) (fun r3 u3 t H1 locs ht hvm hw3 hB hz1 hk9 hS => ?_)
      generalize H1 = H at ht hz1 hk9 hS ⊢
      have hP : va_P D vwCl (lW ad cI cB cO acc lm rm u3.1 u3.2.1 u3.2.2 ob) H := pB_at ht hB
      have hD : va_D (lA ad acc) (lW ad cI cB cO acc lm rm u3.1 u3.2.1 u3.2.2 ob) := wlD hok
      replace hw3 : (r3, u3) = dCl acc u2 := hw3
      have e2 : dLay acc (N, x, z) = andD (dCl acc) (dWF 1) u2 := by
        rw [e1, andD, ← hw2]
        exact if_neg c2
      refine lv_if_eq (tgt := 35) hx hb dX0_layOut_20 (by decide) (fun c3 => ?_) (fun c3 => ?_)
      · refine lv_iconst (v := 0) hx hb dX0_layOut_35 (by decide) ?_
        exact W.zret (v := 0) (ty := .boolean) hx hb hr (rfl) (fun t ht hW => ⟨⟨_, u3, rfl, by rw [e2, andD, ← hw3]; exact (if_pos c3).symm, hp_at ht hP⟩, hS.F ht⟩) hS.2.2 dX0_layOut_36
      · refine lv_aload_n hx hb dX0_layOut_23 rfl (lv_at hl 0 rfl) ?_
        refine lv_iconst (v := 1) hx hb dX0_layOut_24 (by decide) ?_
        refine va_calli (va_runV (As := [.int ((1 : Int32))]) (rest := []) ⟨hx, hb, hml, hown, hts⟩ (c_writeFormatted l D ad cI cB cO acc lm rm u3.1 u3.2.1 u3.2.2 ob hok 1 (Or.inr rfl)) (cwV 1 hts gX0_layOut_X0_writeFormatted rfl rfl rfl (by decide +kernel) ⟨Nat.le_of_ble_eq_true rfl, Nat.le_of_ble_eq_true rfl⟩) ⟨lPc_blind, va_recv hK hP (ci := 0) (q0 := 1) rfl (wl_at (by omega)), lPc_use (hP) ⟨hK, hN⟩⟩ rfl rfl hl.1 rfl (lv_room (Nat.le_of_ble_eq_true rfl)) dX0_layOut_25 ⟨Nat.le_of_ble_eq_true rfl, Nat.le_of_ble_eq_true rfl⟩) hS (fun q _ h => (fun _ h => h) q h) (fun _ h => h) (fun r4 u4 t H1 locs ht hvm hw4 hB hz1 hk9 hS => ?_)
        generalize H1 = H at ht hz1 hk9 hS ⊢
        have hP : va_P D vwCl (lW ad cI cB cO acc lm rm u4.1 u4.2.1 u4.2.2 ob) H := pB_at ht hB
        have hD : va_D (lA ad acc) (lW ad cI cB cO acc lm rm u4.1 u4.2.1 u4.2.2 ob) := wlD hok
        replace hw4 : (r4, u4) = dWF 1 u3 := hw4
        have e3 : dLay acc (N, x, z) = (r4, u4) := by
          rw [hw4, e2, andD, ← hw3]
          exact if_neg c3
        have hb4 : r4 = 0 ∨ r4 = 1 := by have h9 := dWF_b 1 u3; rw [← hw4] at h9; exact h9
        refine lv_if_eq (tgt := 35) hx hb dX0_layOut_28 (by decide) (fun c4 => ?_) (fun c4 => ?_)
        · refine lv_iconst (v := 0) hx hb dX0_layOut_35 (by decide) ?_
          exact W.zret (v := 0) (ty := .boolean) hx hb hr (rfl) (fun t ht hW => ⟨⟨_, u4, rfl, by rw [e3, c4], hp_at ht hP⟩, hS.F ht⟩) hS.2.2 dX0_layOut_36
        · refine lv_iconst (v := 1) hx hb dX0_layOut_31 (by decide) ?_
          refine lv_goto (tgt := 36) hx hb dX0_layOut_32 (by decide) ?_
          exact W.zret (v := 1) (ty := .boolean) hx hb hr (rfl) (fun t ht hW => ⟨⟨_, u4, rfl, by rw [e3, bo_1 hb4 c4], hp_at ht hP⟩, hS.F ht⟩) hS.2.2 dX0_layOut_36

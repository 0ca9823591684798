set_option maxHeartbeats 4000000 in
set_option maxRecDepth 100000 in
theorem c_has (l : Launch) (T b : Nat) (hb0 : b < 31) : Met l yX2_has wsX2_has ({ frames := 0, cells := 0, slots := 0, locals := 0 }) (fun v _ => v = ([.int (nI T), .int (nI b)] : List Value).toArray) (vp_Si (fun r => r = if T.testBit b = true then 1 else 0)) 0 0 (fun _ => False) := by
  refine Met.ofW (cc := cX2_has) (maxL := 2) (ret := (some .boolean)) (by decide) rfl ?_
  intro p e s m args below meth c s₁ B hml hv
  subst hv
  have hx := B.exec
  have hb := B.bytes
  have hr := B.returns
  have hts := atoms_spec (ws := wsX2_has) B.pre
  have hown : s.vm.findClass RX2 = some m.cls := findClass_of_methodNamed B.named
  have hlocks := B.notSynchronized
  generalize hH : s.heap = H
  have hl := lv_entry ([.int (nI T), .int (nI b)]) (n := 2) (Nat.le_of_ble_eq_true rfl)
  rw [lg_entry_eq]
  generalize (lg_sl ([.int (nI T), .int (nI b)]) ++ List.replicate (2 - (lg_sl ([.int (nI T), .int (nI b)])).length) Slot.unset).toArray = ls at hl ⊢
  have hl : lv_has ls 2 [(0, .int (nI T)), (1, .int (nI b))] := hl
  refine lv_iload_n hx hb dX2_has_0 rfl (lv_at hl 0 rfl) ?_
  refine lv_iconst (v := 1) hx hb dX2_has_1 (by decide) ?_
  refine lv_iload_n hx hb dX2_has_2 rfl (lv_at hl 1 rfl) ?_
  refine lv_ishl hx hb dX2_has_3 ?_
  refine lv_iand hx hb dX2_has_4 ?_
  refine lv_if_eq (tgt := 12) hx hb dX2_has_5 (by decide) (fun c1 => ?_) (fun c1 => ?_)
  · refine lv_iconst (v := 0) hx hb dX2_has_12 (by decide) ?_
    exact W.zret (v := 0) (ty := .boolean) hx hb hr (rfl) (fun t ht hW => ⟨_, rfl, by rw [if_neg ((has_bit hb0).mp c1)], ht.trans hH.symm⟩) (fun _ h => by cases h) dX2_has_13
  · refine lv_iconst (v := 1) hx hb dX2_has_8 (by decide) ?_
    refine lv_goto (tgt := 13) hx hb dX2_has_9 (by decide) ?_
    exact W.zret (v := 1) (ty := .boolean) hx hb hr (rfl) (fun t ht hW => ⟨_, rfl, by rw [if_pos (Classical.byContradiction (fun q => c1 ((has_bit hb0).mpr q)))], ht.trans hH.symm⟩) (fun _ h => by cases h) dX2_has_13
set_option maxHeartbeats 4000000 in
set_option maxRecDepth 100000 in
theorem c_passStop (l : Launch) (D : va_G) (ad : Nat → Nat) (cI cB cO : ClassId) (acc lm rm : Nat) (N : LN) (x : Nat → Nat) (z ob : Nat → Int32) (hok : lOk ad acc lm) : Met l yX0_passStop wsX0_passStop ({ frames := 0, cells := 0, slots := 0, locals := 0 }) (lPc [.ref (ad 1)] D (lW ad cI cB cO acc lm rm N x z ob) [(cI, .int), (cB, .byte), (cO, .object "BigLedger$Natural")]) (va_Qi (fun (r : Int32) (u : DS) => (r, u) = (psB z, N, x, psZ z)) (fun u t => va_P D vwCl (lW ad cI cB cO acc lm rm u.1 u.2.1 u.2.2 ob) t.heap) (lA ad acc)) 0 0 (lA ad acc) := by
  refine Met.ofW (cc := cX0_passStop) (maxL := 1) (ret := (some .boolean)) (by decide) rfl ?_
  intro p e s m args below meth c s₁ B hml hv
  obtain ⟨rfl, hP, hK, hN⟩ := hv
  have hx := B.exec
  have hb := B.bytes
  have hr := B.returns
  have hts := atoms_spec (ws := wsX0_passStop) B.pre
  have hown : s.vm.findClass RX0 = some m.cls := findClass_of_methodNamed B.named
  have hlocks := B.notSynchronized
  have hi0 : ∀ w ∈ wsX00, w ∈ wsX0_passStop := by decide +kernel
  have hok1 := hok.2.1
  have hok2 := hok.2.2.1
  have hok3 := hok.2.2.2
  have hS : va_S (lA ad acc) s.heap s.heap [] := va_S.rf
  have hD : va_D (lA ad acc) (lW ad cI cB cO acc lm rm N x z ob) := wlD hok
  have hl := lv_entry ([.ref (ad 1)]) (n := 1) (Nat.le_of_ble_eq_true rfl)
  rw [lg_entry_eq]
  generalize (lg_sl ([.ref (ad 1)]) ++ List.replicate (1 - (lg_sl ([.ref (ad 1)])).length) Slot.unset).toArray = ls at hl ⊢
  have hl : lv_has ls 1 [(0, .ref (ad 1))] := hl
  refine lv_aload_n hx hb dX0_passStop_0 rfl (lv_at hl 0 rfl) ?_
  refine va_get (D := D) (ci := 0) (v := .int (z 3)) (C := RX0) (T := TX0) (N := 6) hx hb hts hi0 hown hK hP 1 (wl_at (by omega)) rfl 5 (by decide) (hts (.fieldLink RX0 22 "BigLedger$Disk" "writesUntilStop" "I") (by decide +kernel)) (fun _ h9 => h9) rfl dX0_passStop_1 ?_
  refine lv_if_ne (tgt := 14) hx hb dX0_passStop_4 (by decide) (fun c1 => ?_) (fun c1 => ?_)
  · refine lv_aload_n hx hb dX0_passStop_14 rfl (lv_at hl 0 rfl) ?_
    refine va_get (D := D) (ci := 0) (v := .int (z 3)) (C := RX0) (T := TX0) (N := 6) hx hb hts hi0 hown hK hP 1 (wl_at (by omega)) rfl 5 (by decide) (hts (.fieldLink RX0 22 "BigLedger$Disk" "writesUntilStop" "I") (by decide +kernel)) (fun _ h9 => h9) rfl dX0_passStop_15 ?_
    refine lv_if_le (tgt := 31) hx hb dX0_passStop_18 (by decide) (fun c2 => ?_) (fun c2 => ?_)
    · have e9 : psZ z = va_up z 2 (z 2 + 1) := by rw [psZ, if_neg c1, if_pos c2]
      refine lv_aload_n hx hb dX0_passStop_31 rfl (lv_at hl 0 rfl) ?_
      refine lv_dup hx hb dX0_passStop_32 rfl ?_
      refine va_get (D := D) (ci := 0) (v := .int (z 2)) (C := RX0) (T := TX0) (N := 6) hx hb hts hi0 hown hK hP 1 (wl_at (by omega)) rfl 4 (by decide) (hts (.fieldLink RX0 48 "BigLedger$Disk" "writesDone" "I") (by decide +kernel)) (fun _ h9 => h9) rfl dX0_passStop_33 ?_
      refine lv_iconst (v := 1) hx hb dX0_passStop_36 (by decide) ?_
      refine lv_iadd hx hb dX0_passStop_37 ?_
      refine va_put (D := D) (ci := 0) (v := .int ((z 2) + (1 : Int32))) (ty := .int) (C := RX0) (T := TX0) (N := 6) hx hb hts hi0 tyX0 tyX0_ok nmX0 hown hK hP hD hS 1 (wl_at (by omega)) rfl 4 (by decide) (hts (.fieldLink RX0 48 "BigLedger$Disk" "writesDone" "I") (by decide +kernel)) (fun _ h9 => h9) rfl (by decide +kernel) (rfl) (rfl) (Nat.le_of_ble_eq_true rfl) dX0_passStop_38 (fun H locs hP hD hS => ?_)
      have hP : va_P D vwCl (lW ad cI cB cO acc lm rm N x (va_up z 2 ((z 2) + (1 : Int32))) ob) H := cv (ls_writesDone ((z 2) + (1 : Int32))) hP
      have hD : va_D (lA ad acc) (lW ad cI cB cO acc lm rm N x (va_up z 2 ((z 2) + (1 : Int32))) ob) := wlD hok
      refine lv_iconst (v := 1) hx hb dX0_passStop_41 (by decide) ?_
      exact W.zret (v := 1) (ty := .boolean) hx hb hr (rfl) (fun t ht hW => ⟨⟨_, (N, x, va_up z 2 ((z 2) + (1 : Int32))), rfl, by rw [psB, if_neg c1, e9], hp_at ht hP⟩, hS.F ht⟩) hS.2.2 dX0_passStop_42
    · have e9 : psZ z = va_up (va_up z 3 (z 3 - 1)) 2 (z 2 + 1) := by rw [psZ, if_neg c1, if_neg c2]
      refine lv_aload_n hx hb dX0_passStop_21 rfl (lv_at hl 0 rfl) ?_
      refine lv_dup hx hb dX0_passStop_22 rfl ?_
      refine va_get (D := D) (ci := 0) (v := .int (z 3)) (C := RX0) (T := TX0) (N := 6) hx hb hts hi0 hown hK hP 1 (wl_at (by omega)) rfl 5 (by decide) (hts (.fieldLink RX0 22 "BigLedger$Disk" "writesUntilStop" "I") (by decide +kernel)) (fun _ h9 => h9) rfl dX0_passStop_23 ?_
      refine lv_iconst (v := 1) hx hb dX0_passStop_26 (by decide) ?_
      refine lv_isub hx hb dX0_passStop_27 ?_
      refine va_put (D := D) (ci := 0) (v := .int ((z 3) - (1 : Int32))) (ty := .int) (C := RX0) (T := TX0) (N := 6) hx hb hts hi0 tyX0 tyX0_ok nmX0 hown hK hP hD hS 1 (wl_at (by omega)) rfl 5 (by decide) (hts (.fieldLink RX0 22 "BigLedger$Disk" "writesUntilStop" "I") (by decide +kernel)) (fun _ h9 => h9) rfl (by decide +kernel) (rfl) (rfl) (Nat.le_of_ble_eq_true rfl) dX0_passStop_28 (fun H locs hP hD hS => ?_)
      have hP : va_P D vwCl (lW ad cI cB cO acc lm rm N x (va_up z 3 ((z 3) - (1 : Int32))) ob) H := cv (ls_writesUntilStop ((z 3) - (1 : Int32))) hP
      have hD : va_D (lA ad acc) (lW ad cI cB cO acc lm rm N x (va_up z 3 ((z 3) - (1 : Int32))) ob) := wlD hok
      refine lv_aload_n hx hb dX0_passStop_31 rfl (lv_at hl 0 rfl) ?_
      refine lv_dup hx hb dX0_passStop_32 rfl ?_
      refine va_get (D := D) (ci := 0) (v := .int ((va_up z 3 ((z 3) - (1 : Int32))) 2)) (C := RX0) (T := TX0) (N := 6) hx hb hts hi0 hown hK hP 1 (wl_at (by omega)) rfl 4 (by decide) (hts (.fieldLink RX0 48 "BigLedger$Disk" "writesDone" "I") (by decide +kernel)) (fun _ h9 => h9) rfl dX0_passStop_33 ?_
      refine lv_iconst (v := 1) hx hb dX0_passStop_36 (by decide) ?_
      refine lv_iadd hx hb dX0_passStop_37 ?_
      refine va_put (D := D) (ci := 0) (v := .int (((va_up z 3 ((z 3) - (1 : Int32))) 2) + (1 : Int32))) (ty := .int) (C := RX0) (T := TX0) (N := 6) hx hb hts hi0 tyX0 tyX0_ok nmX0 hown hK hP hD hS 1 (wl_at (by omega)) rfl 4 (by decide) (hts (.fieldLink RX0 48 "BigLedger$Disk" "writesDone" "I") (by decide +kernel)) (fun _ h9 => h9) rfl (by decide +kernel) (rfl) (rfl) (Nat.le_of_ble_eq_true rfl) dX0_passStop_38 (fun H locs hP hD hS => ?_)
      have hP : va_P D vwCl (lW ad cI cB cO acc lm rm N x (va_up (va_up z 3 ((z 3) - (1 : Int32))) 2 (((va_up z 3 ((z 3) - (1 : Int32))) 2) + (1 : Int32))) ob) H := cv (ls_writesDone (((va_up z 3 ((z 3) - (1 : Int32))) 2) + (1 : Int32))) hP
      have hD : va_D (lA ad acc) (lW ad cI cB cO acc lm rm N x (va_up (va_up z 3 ((z 3) - (1 : Int32))) 2 (((va_up z 3 ((z 3) - (1 : Int32))) 2) + (1 : Int32))) ob) := wlD hok
      refine lv_iconst (v := 1) hx hb dX0_passStop_41 (by decide) ?_
      exact W.zret (v := 1) (ty := .boolean) hx hb hr (rfl) (fun t ht hW => ⟨⟨_, (N, x, va_up (va_up z 3 ((z 3) - (1 : Int32))) 2 (((va_up z 3 ((z 3) - (1 : Int32))) 2) + (1 : Int32))), rfl, by rw [psB, if_neg c1, e9]; rfl, hp_at ht hP⟩, hS.F ht⟩) hS.2.2 dX0_passStop_42
  · refine lv_aload_n hx hb dX0_passStop_7 rfl (lv_at hl 0 rfl) ?_
    refine lv_iconst (v := (-1)) hx hb dX0_passStop_8 (by decide) ?_
    refine va_put (D := D) (ci := 0) (v := .int ((-1 : Int32))) (ty := .int) (C := RX0) (T := TX0) (N := 6) hx hb hts hi0 tyX0 tyX0_ok nmX0 hown hK hP hD hS 1 (wl_at (by omega)) rfl 5 (by decide) (hts (.fieldLink RX0 22 "BigLedger$Disk" "writesUntilStop" "I") (by decide +kernel)) (fun _ h9 => h9) rfl (by decide +kernel) (rfl) (rfl) (Nat.le_of_ble_eq_true rfl) dX0_passStop_9 (fun H locs hP hD hS => ?_)
    have hP : va_P D vwCl (lW ad cI cB cO acc lm rm N x (va_up z 3 (-1 : Int32)) ob) H := cv (ls_writesUntilStop (-1 : Int32)) hP
    have hD : va_D (lA ad acc) (lW ad cI cB cO acc lm rm N x (va_up z 3 (-1 : Int32)) ob) := wlD hok
    refine lv_iconst (v := 0) hx hb dX0_passStop_12 (by decide) ?_
    exact W.zret (v := 0) (ty := .boolean) hx hb hr (rfl) (fun t ht hW => ⟨⟨_, (N, x, va_up z 3 (-1 : Int32)), rfl, by rw [psB, if_pos c1, psZ, if_pos c1], hp_at ht hP⟩, hS.F ht⟩) hS.2.2 dX0_passStop_13
set_option maxHeartbeats 4000000 in
set_option maxRecDepth 100000 in
theorem c_writeFormatted (l : Launch) (D : va_G) (ad : Nat → Nat) (cI cB cO : ClassId) (acc lm rm : Nat) (N : LN) (x : Nat → Nat) (z ob : Nat → Int32) (hok : lOk ad acc lm) (v : Int32) (hv1 : v = 0 ∨ v = 1) : Met l yX0_writeFormatted wsX0_writeFormatted ({ frames := 1, cells := 0, slots := 0, locals := 20 }) (lPc [.ref (ad 1), .int (v)] D (lW ad cI cB cO acc lm rm N x z ob) [(cI, .int), (cB, .byte), (cO, .object "BigLedger$Natural")]) (va_Qi (fun (r : Int32) (u : DS) => (r, u) = dWF v (N, x, z)) (fun u t => va_P D vwCl (lW ad cI cB cO acc lm rm u.1 u.2.1 u.2.2 ob) t.heap) (lA ad acc)) 0 0 (lA ad acc) := by
  refine Met.ofW (cc := cX0_writeFormatted) (maxL := 2) (ret := (some .boolean)) (by decide) rfl ?_
  intro p e s m args below meth c s₁ B hml hv
  obtain ⟨rfl, hP, hK, hN⟩ := hv
  have hx := B.exec
  have hb := B.bytes
  have hr := B.returns
  have hts := atoms_spec (ws := wsX0_writeFormatted) B.pre
  have hown : s.vm.findClass RX0 = some m.cls := findClass_of_methodNamed B.named
  have hlocks := B.notSynchronized
  have hi0 : ∀ w ∈ wsX00, w ∈ wsX0_writeFormatted := by decide +kernel
  have hok1 := hok.2.1
  have hok2 := hok.2.2.1
  have hok3 := hok.2.2.2
  have hS : va_S (lA ad acc) s.heap s.heap [] := va_S.rf
  have hD : va_D (lA ad acc) (lW ad cI cB cO acc lm rm N x z ob) := wlD hok
  have hl := lv_entry ([.ref (ad 1), .int (v)]) (n := 2) (Nat.le_of_ble_eq_true rfl)
  rw [lg_entry_eq]
  generalize (lg_sl ([.ref (ad 1), .int (v)]) ++ List.replicate (2 - (lg_sl ([.ref (ad 1), .int (v)])).length) Slot.unset).toArray = ls at hl ⊢
  have hl : lv_has ls 2 [(0, .ref (ad 1)), (1, .int (v))] := hl
  refine lv_aload_n hx hb dX0_writeFormatted_0 rfl (lv_at hl 0 rfl) ?_
  refine va_calli (va_runV (As := []) (rest := []) ⟨hx, hb, hml, hown, hts⟩ (c_passStop l D ad cI cB cO acc lm rm N x z ob hok) (cwV 0 hts gX0_writeFormatted_X0_passStop rfl rfl rfl (by decide +kernel) ⟨Nat.le_of_ble_eq_true rfl, Nat.le_of_ble_eq_true rfl⟩) ⟨lPc_blind, va_recv hK hP (ci := 0) (q0 := 1) rfl (wl_at (by omega)), lPc_use (hP) ⟨hK, hN⟩⟩ rfl rfl hl.1 rfl (lv_room (Nat.le_of_ble_eq_true rfl)) dX0_writeFormatted_1 ⟨Nat.le_of_ble_eq_true rfl, Nat.le_of_ble_eq_true rfl⟩) hS (fun q _ h => (fun _ h => h) q h) (fun _ h => h) (fun r _u t H1 locs ht hvm hw hB hz1 hk9 hS => ?_)
  generalize H1 = H at ht hz1 hk9 hS ⊢
  cases hw
  have hP : va_P D vwCl (lW ad cI cB cO acc lm rm N x (psZ z) ob) H := pB_at ht hB
  have hD : va_D (lA ad acc) (lW ad cI cB cO acc lm rm N x (psZ z) ob) := wlD hok
  refine lv_if_ne (tgt := 9) hx hb dX0_writeFormatted_4 (by decide) (fun c1 => ?_) (fun c1 => ?_)
  · replace c1 : ¬ z 3 = 0 := fun q => c1 (by rw [psB, if_pos q])
    refine lv_aload_n hx hb dX0_writeFormatted_9 rfl (lv_at hl 0 rfl) ?_
    refine lv_iload_n hx hb dX0_writeFormatted_10 rfl (lv_at hl 1 rfl) ?_
    refine va_put (D := D) (ci := 0) (v := .int (v)) (ty := .boolean) (C := RX0) (T := TX0) (N := 6) hx hb hts hi0 tyX0 tyX0_ok nmX0 hown hK hP hD hS 1 (wl_at (by omega)) rfl 3 (by decide) (hts (.fieldLink RX0 54 "BigLedger$Disk" "formatted" "Z") (by decide +kernel)) (fun _ h9 => h9) rfl (by decide +kernel) ((bo hv1).1) ((bo hv1).2) (Nat.le_of_ble_eq_true rfl) dX0_writeFormatted_11 (fun H locs hP hD hS => ?_)
    have hP : va_P D vwCl (lW ad cI cB cO acc lm rm N x (va_up (psZ z) 1 v) ob) H := cv (ls_formatted v) hP
    have hD : va_D (lA ad acc) (lW ad cI cB cO acc lm rm N x (va_up (psZ z) 1 v) ob) := wlD hok
    refine lv_iconst (v := 1) hx hb dX0_writeFormatted_14 (by decide) ?_
    exact W.zret (v := 1) (ty := .boolean) hx hb hr (rfl) (fun t ht hW => ⟨⟨_, (N, x, va_up (psZ z) 1 v), rfl, by rw [dWF, if_neg c1], hp_at ht hP⟩, hS.F ht⟩) hS.2.2 dX0_writeFormatted_15
  · replace c1 : z 3 = 0 := Classical.byContradiction (fun q => absurd c1 (by rw [psB, if_neg q]; decide))
    refine lv_iconst (v := 0) hx hb dX0_writeFormatted_7 (by decide) ?_
    exact W.zret (v := 0) (ty := .boolean) hx hb hr (rfl) (fun t ht hW => ⟨⟨_, (N, x, psZ z), rfl, by rw [dWF, if_pos c1], hp_at ht hP⟩, hS.F ht⟩) hS.2.2 dX0_writeFormatted_8
set_option maxHeartbeats 4000000 in
set_option maxRecDepth 100000 in
theorem c_writeLogState (l : Launch) (D : va_G) (ad : Nat → Nat) (cI cB cO : ClassId) (acc lm rm : Nat) (N : LN) (x : Nat → Nat) (z ob : Nat → Int32) (hok : lOk ad acc lm) (T : Nat) : Met l yX0_writeLogState wsX0_writeLogState ({ frames := 1, cells := 0, slots := 0, locals := 20 }) (lPc [.ref (ad 1), .int (nI T)] D (lW ad cI cB cO acc lm rm N x z ob) [(cI, .int), (cB, .byte), (cO, .object "BigLedger$Natural")]) (va_Qi (fun (r : Int32) (u : DS) => (r, u) = dWL T (N, x, z)) (fun u t => va_P D vwCl (lW ad cI cB cO acc lm rm u.1 u.2.1 u.2.2 ob) t.heap) (lA ad acc)) 0 0 (lA ad acc) := by
  refine Met.ofW (cc := cX0_writeLogState) (maxL := 2) (ret := (some .boolean)) (by decide) rfl ?_
  intro p e s m args below meth c s₁ B hml hv
  obtain ⟨rfl, hP, hK, hN⟩ := hv
  have hx := B.exec
  have hb := B.bytes
  have hr := B.returns
  have hts := atoms_spec (ws := wsX0_writeLogState) B.pre
  have hown : s.vm.findClass RX0 = some m.cls := findClass_of_methodNamed B.named
  have hlocks := B.notSynchronized
  have hi0 : ∀ w ∈ wsX00, w ∈ wsX0_writeLogState := by decide +kernel
  have hok1 := hok.2.1
  have hok2 := hok.2.2.1
  have hok3 := hok.2.2.2
  have hS : va_S (lA ad acc) s.heap s.heap [] := va_S.rf
  have hD : va_D (lA ad acc) (lW ad cI cB cO acc lm rm N x z ob) := wlD hok
  have hl := lv_entry ([.ref (ad 1), .int (nI T)]) (n := 2) (Nat.le_of_ble_eq_true rfl)
  rw [lg_entry_eq]
  generalize (lg_sl ([.ref (ad 1), .int (nI T)]) ++ List.replicate (2 - (lg_sl ([.ref (ad 1), .int (nI T)])).length) Slot.unset).toArray = ls at hl ⊢
  have hl : lv_has ls 2 [(0, .ref (ad 1)), (1, .int (nI T))] := hl
  refine lv_aload_n hx hb dX0_writeLogState_0 rfl (lv_at hl 0 rfl) ?_
  refine va_calli (va_runV (As := []) (rest := []) ⟨hx, hb, hml, hown, hts⟩ (c_passStop l D ad cI cB cO acc lm rm N x z ob hok) (cwV 0 hts gX0_writeLogState_X0_passStop rfl rfl rfl (by decide +kernel) ⟨Nat.le_of_ble_eq_true rfl, Nat.le_of_ble_eq_true rfl⟩) ⟨lPc_blind, va_recv hK hP (ci := 0) (q0 := 1) rfl (wl_at (by omega)), lPc_use (hP) ⟨hK, hN⟩⟩ rfl rfl hl.1 rfl (lv_room (Nat.le_of_ble_eq_true rfl)) dX0_writeLogState_1 ⟨Nat.le_of_ble_eq_true rfl, Nat.le_of_ble_eq_true rfl⟩) hS (fun q _ h => (fun _ h => h) q h) (fun _ h => h) (fun r _u t H1 locs ht hvm hw hB hz1 hk9 hS => ?_)
  generalize H1 = H at ht hz1 hk9 hS ⊢
  cases hw
  have hP : va_P D vwCl (lW ad cI cB cO acc lm rm N x (psZ z) ob) H := pB_at ht hB
  have hD : va_D (lA ad acc) (lW ad cI cB cO acc lm rm N x (psZ z) ob) := wlD hok
  refine lv_if_ne (tgt := 9) hx hb dX0_writeLogState_4 (by decide) (fun c1 => ?_) (fun c1 => ?_)
  · replace c1 : ¬ z 3 = 0 := fun q => c1 (by rw [psB, if_pos q])
    refine lv_aload_n hx hb dX0_writeLogState_9 rfl (lv_at hl 0 rfl) ?_
    refine lv_iload_n hx hb dX0_writeLogState_10 rfl (lv_at hl 1 rfl) ?_
    refine va_put (D := D) (ci := 0) (v := .int (nI T)) (ty := .int) (C := RX0) (T := TX0) (N := 6) hx hb hts hi0 tyX0 tyX0_ok nmX0 hown hK hP hD hS 1 (wl_at (by omega)) rfl 2 (by decide) (hts (.fieldLink RX0 45 "BigLedger$Disk" "committed" "I") (by decide +kernel)) (fun _ h9 => h9) rfl (by decide +kernel) (rfl) (rfl) (Nat.le_of_ble_eq_true rfl) dX0_writeLogState_11 (fun H locs hP hD hS => ?_)
    have hP : va_P D vwCl (lW ad cI cB cO acc lm rm N (va_up x 3 T) (psZ z) ob) H := cv (ls_committed T) hP
    have hD : va_D (lA ad acc) (lW ad cI cB cO acc lm rm N (va_up x 3 T) (psZ z) ob) := wlD hok
    refine lv_iconst (v := 1) hx hb dX0_writeLogState_14 (by decide) ?_
    exact W.zret (v := 1) (ty := .boolean) hx hb hr (rfl) (fun t ht hW => ⟨⟨_, (N, va_up x 3 T, psZ z), rfl, by rw [dWL, if_neg c1], hp_at ht hP⟩, hS.F ht⟩) hS.2.2 dX0_writeLogState_15
  · replace c1 : z 3 = 0 := Classical.byContradiction (fun q => absurd c1 (by rw [psB, if_neg q]; decide))
    refine lv_iconst (v := 0) hx hb dX0_writeLogState_7 (by decide) ?_
    exact W.zret (v := 0) (ty := .boolean) hx hb hr (rfl) (fun t ht hW => ⟨⟨_, (N, x, psZ z), rfl, by rw [dWL, if_pos c1], hp_at ht hP⟩, hS.F ht⟩) hS.2.2 dX0_writeLogState_8
set_option maxHeartbeats 4000000 in
set_option maxRecDepth 100000 in
theorem c_clearHomes (l : Launch) (D : va_G) (ad : Nat → Nat) (cI cB cO : ClassId) (acc lm rm : Nat) (N : LN) (x : Nat → Nat) (z ob : Nat → Int32) (hok : lOk ad acc lm) (hNk : nOk lm N) : Met l yX0_clearHomes wsX0_clearHomes ({ frames := 1, cells := 0, slots := 0, locals := 21 }) (lPc [.ref (ad 1)] D (lW ad cI cB cO acc lm rm N x z ob) [(cI, .int), (cB, .byte), (cO, .object "BigLedger$Natural")]) (va_Qi (fun (r : Int32) (u : DS) => (r, u) = dCl acc (N, x, z)) (fun u t => va_P D vwCl (lW ad cI cB cO acc lm rm u.1 u.2.1 u.2.2 ob) t.heap) (lA ad acc)) 0 0 (lA ad acc) := by
  refine Met.ofW (cc := cX0_clearHomes) (maxL := 2) (ret := (some .boolean)) (by decide) rfl ?_
  intro p e s m args below meth c s₁ B hml hv
  obtain ⟨rfl, hP, hK, hN⟩ := hv
  have hx := B.exec
  have hb := B.bytes
  have hr := B.returns
  have hts := atoms_spec (ws := wsX0_clearHomes) B.pre
  have hown : s.vm.findClass RX0 = some m.cls := findClass_of_methodNamed B.named
  have hlocks := B.notSynchronized
  have hi0 : ∀ w ∈ wsX00, w ∈ wsX0_clearHomes := by decide +kernel
  have hok1 := hok.2.1
  have hok2 := hok.2.2.1
  have hok3 := hok.2.2.2
  have hS : va_S (lA ad acc) s.heap s.heap [] := va_S.rf
  have hD : va_D (lA ad acc) (lW ad cI cB cO acc lm rm N x z ob) := wlD hok
  have hl := lv_entry ([.ref (ad 1)]) (n := 2) (Nat.le_of_ble_eq_true rfl)
  rw [lg_entry_eq]
  generalize (lg_sl ([.ref (ad 1)]) ++ List.replicate (2 - (lg_sl ([.ref (ad 1)])).length) Slot.unset).toArray = ls at hl ⊢
  have hl : lv_has ls 2 [(0, .ref (ad 1))] := hl
  refine lv_iconst (v := 0) hx hb dX0_clearHomes_0 (by decide) ?_
  refine lv_istore_n (lv' := [(1, .int ((0 : Int32))), (0, .ref (ad 1))]) hx hb dX0_clearHomes_1 rfl hl (by decide) rfl (fun ls hl => ?_)
  have loop : ∀ (n i : Nat) (M : LN) (y : Nat → Int32) (H : Heap) (locs : List Loc) (ls : Array Slot), i + n = acc + 1 → clH n i M y = clH (acc + 1) 0 N z → va_P D vwCl (lW ad cI cB cO acc lm rm M x y ob) H → va_S (lA ad acc) s.heap H locs → lv_has ls 2 [(1, .int (nI i)), (0, .ref (ad 1))] → W p l e (headSpec wsX0_clearHomes ({ frames := 1, cells := 0, slots := 0, locals := 21 })).room s m ([.ref (ad 1)]).toArray below meth c H locs 0 0 (MQ below (va_Qi (fun (r : Int32) (u : DS) => (r, u) = dCl acc (N, x, z)) (fun u t => va_P D vwCl (lW ad cI cB cO acc lm rm u.1 u.2.1 u.2.2 ob) t.heap) (lA ad acc)) ([.ref (ad 1)]).toArray s 0 0 (lA ad acc)) (F0 m 2 ls []) := by
    intro n
    induction n with
    | zero =>
      intro i M y H locs ls hin heq hP hS hl
      refine lv_iload_n hx hb dX0_clearHomes_2 rfl (lv_at hl 0 rfl) ?_
      refine lv_aload_n hx hb dX0_clearHomes_3 rfl (lv_at hl 1 rfl) ?_
      refine va_get (D := D) (ci := 0) (v := .ref (ad 3)) (C := RX0) (T := TX0) (N := 6) hx hb hts hi0 hown hK hP 1 (wl_at (by omega)) rfl 0 (by decide) (hts (.fieldLink RX0 13 "BigLedger$Disk" "home" "[LBigLedger$Natural;") (by decide +kernel)) (fun _ h9 => h9) rfl dX0_clearHomes_4 ?_
      refine va_alen (v := nI (acc + 1)) hx hb hK hP 3 2 (wl_at (by omega)) rfl (rfl) dX0_clearHomes_7 ?_
      refine lv_icmp_ge (tgt := 35) hx hb dX0_clearHomes_8 (by decide) (fun _ => ?_) (fun c9 => absurd (nI_le (by omega) (by omega)) c9)
      refine lv_iconst (v := 1) hx hb dX0_clearHomes_35 (by decide) ?_
      exact W.zret (v := 1) (ty := .boolean) hx hb hr (rfl) (fun t ht hW => ⟨⟨_, (M, x, y), rfl, by rw [dCl, ← heq]; rfl, hp_at ht hP⟩, hS.F ht⟩) hS.2.2 dX0_clearHomes_36
    | succ n ih =>
      intro i M y H locs ls hin heq hP hS hl
      have hD : va_D (lA ad acc) (lW ad cI cB cO acc lm rm M x y ob) := wlD hok
      refine lv_iload_n hx hb dX0_clearHomes_2 rfl (lv_at hl 0 rfl) ?_
      refine lv_aload_n hx hb dX0_clearHomes_3 rfl (lv_at hl 1 rfl) ?_
      refine va_get (D := D) (ci := 0) (v := .ref (ad 3)) (C := RX0) (T := TX0) (N := 6) hx hb hts hi0 hown hK hP 1 (wl_at (by omega)) rfl 0 (by decide) (hts (.fieldLink RX0 13 "BigLedger$Disk" "home" "[LBigLedger$Natural;") (by decide +kernel)) (fun _ h9 => h9) rfl dX0_clearHomes_4 ?_
      refine va_alen (v := nI (acc + 1)) hx hb hK hP 3 2 (wl_at (by omega)) rfl (rfl) dX0_clearHomes_7 ?_
      refine lv_icmp_ge (tgt := 35) hx hb dX0_clearHomes_8 (by decide) (fun c9 => absurd c9 (nI_ge (by omega) (by omega))) (fun _ => ?_)
      refine lv_aload_n hx hb dX0_clearHomes_11 rfl (lv_at hl 1 rfl) ?_
      refine va_calli (va_runV (As := []) (rest := []) ⟨hx, hb, hml, hown, hts⟩ (c_passStop l D ad cI cB cO acc lm rm M x y ob hok) (cwV 0 hts gX0_clearHomes_X0_passStop rfl rfl rfl (by decide +kernel) ⟨Nat.le_of_ble_eq_true rfl, Nat.le_of_ble_eq_true rfl⟩) ⟨lPc_blind, va_recv hK hP (ci := 0) (q0 := 1) rfl (wl_at (by omega)), lPc_use (hP) ⟨hK, hN⟩⟩ rfl rfl hl.1 rfl (lv_room (Nat.le_of_ble_eq_true rfl)) dX0_clearHomes_12 ⟨Nat.le_of_ble_eq_true rfl, Nat.le_of_ble_eq_true rfl⟩) hS (fun q _ h => (fun _ h => h) q h) (fun _ h => h) (fun r _u t H1 locs ht hvm hw hB hz1 hk9 hS => ?_)
      generalize H1 = H at ht hz1 hk9 hS ⊢
      cases hw
      have hP : va_P D vwCl (lW ad cI cB cO acc lm rm M x (psZ y) ob) H := pB_at ht hB
      have hD : va_D (lA ad acc) (lW ad cI cB cO acc lm rm M x (psZ y) ob) := wlD hok
      refine lv_if_ne (tgt := 20) hx hb dX0_clearHomes_15 (by decide) (fun c1 => ?_) (fun c1 => ?_)
      · replace c1 : ¬ y 3 = 0 := fun q => c1 (by rw [psB, if_pos q])
        rw [clH, if_neg c1] at heq
        refine lv_aload_n hx hb dX0_clearHomes_20 rfl (lv_at hl 1 rfl) ?_
        refine va_get (D := D) (ci := 0) (v := .ref (ad 3)) (C := RX0) (T := TX0) (N := 6) hx hb hts hi0 hown hK hP 1 (wl_at (by omega)) rfl 0 (by decide) (hts (.fieldLink RX0 13 "BigLedger$Disk" "home" "[LBigLedger$Natural;") (by decide +kernel)) (fun _ h9 => h9) rfl dX0_clearHomes_21 ?_
        refine lv_iload_n hx hb dX0_clearHomes_24 rfl (lv_at hl 0 rfl) ?_
        refine va_aldq hx hb hK hP 3 2 (wl_at (by omega)) rfl (vp_in_nI (by omega) (by omega)) dX0_clearHomes_25 ?_
        refine lv_topv (y := .ref (ad (6 * i + 2 * 1 + 10))) (by rw [nI_clamp (by omega)]; rfl) ?_
        have hn1 := ln_p hP 1 i (by decide) (by omega)
        refine va_callv (va_runV (As := []) (rest := []) ⟨hx, hb, hml, hown, hts⟩ (c_setZero l D cI (lm + 1) (ad (6 * i + 2 * 1 + 10)) (ad (6 * i + 2 * 1 + 11)) (M 1 i) (by omega) (ln_oa (i := 6 * i + 2 * 1 + 10) hok (by omega))) (cwV 0 hts gX0_clearHomes_X1_setZero rfl rfl rfl (by decide +kernel) ⟨Nat.le_of_ble_eq_true rfl, Nat.le_of_ble_eq_true rfl⟩) ⟨nPc_blind, va_recv hK hn1 (ci := 1) (q0 := 0) rfl rfl, nPc_use (hn1) (hK.sub [0] rfl)⟩ rfl rfl hl.1 rfl (lv_room (Nat.le_of_ble_eq_true rfl)) dX0_clearHomes_26 ⟨Nat.le_of_ble_eq_true rfl, Nat.le_of_ble_eq_true rfl⟩) hS (fun q _ h => (fun q h => lA_n (i := 6 * i + 2 * 1 + 10) (by omega) h) q h) (fun q h => lA_n (i := 6 * i + 2 * 1 + 10) (by omega) h) (fun _u t H1 locs ht hvm hw hB hz1 hk9 hS => ?_)
        have hP9 := lk_p (k := 1) (b := i) hok (by decide) (by omega) hP hk9 (pB_at ht hB)
        generalize H1 = H at ht hz1 hk9 hS hP9 ⊢
        have hP : va_P D vwCl (lW ad cI cB cO acc lm rm (va_up M 1 (va_up (M 1) i 0)) x (psZ y) ob) H := hP9
        have hD : va_D (lA ad acc) (lW ad cI cB cO acc lm rm (va_up M 1 (va_up (M 1) i 0)) x (psZ y) ob) := wlD hok
        refine lv_iinc (v := nI (i + 1)) (lv' := [(1, .int (nI (i + 1))), (0, .ref (ad 1))]) hx hb dX0_clearHomes_29 hl (k := 0) rfl (nI_1 i) (by decide) rfl (fun ls hl => ?_)
        refine lv_goto (tgt := 2) hx hb dX0_clearHomes_32 (by decide) ?_
        exact ih (i + 1) _ _ H locs ls (by omega) heq hP hS hl
      · replace c1 : y 3 = 0 := Classical.byContradiction (fun q => absurd c1 (by rw [psB, if_neg q]; decide))
        refine lv_iconst (v := 0) hx hb dX0_clearHomes_18 (by decide) ?_
        exact W.zret (v := 0) (ty := .boolean) hx hb hr (rfl) (fun t ht hW => ⟨⟨_, (M, x, psZ y), rfl, by rw [dCl, ← heq, clH, if_pos c1], hp_at ht hP⟩, hS.F ht⟩) hS.2.2 dX0_clearHomes_19
  exact loop (acc + 1) 0 N z s.heap [] ls (by omega) rfl hP hS hl
set_option maxHeartbeats 4000000 in
set_option maxRecDepth 100000 in
theorem c_writeBlocks (l : Launch) (D : va_G) (ad : Nat → Nat) (cI cB cO : ClassId) (acc lm rm : Nat) (N : LN) (x : Nat → Nat) (z ob : Nat → Int32) (hok : lOk ad acc lm) (k1 k2 T : Nat) (hk1 : k1 < 3) (hk2 : k2 < 3) (hk12 : k1 ≠ k2) (hNk : nOk lm N) : Met l yX0_writeBlocks wsX0_writeBlocks ({ frames := 2, cells := 0, slots := 0, locals := 43 }) (lPc [.ref (ad 1), .ref (ad (k1 + 2)), .int (nI T), .ref (ad (k2 + 2))] D (lW ad cI cB cO acc lm rm N x z ob) [(cI, .int), (cB, .byte), (cO, .object "BigLedger$Natural")]) (va_Qi (fun (r : Int32) (u : DS) => (r, u) = dWB k1 k2 T acc (N, x, z)) (fun u t => va_P D vwCl (lW ad cI cB cO acc lm rm u.1 u.2.1 u.2.2 ob) t.heap) (lA ad acc)) 0 0 (lA ad acc) := by
  refine Met.ofW (cc := cX0_writeBlocks) (maxL := 5) (ret := (some .boolean)) (by decide) rfl ?_
  intro p e s m args below meth c s₁ B hml hv
  obtain ⟨rfl, hP, hK, hN⟩ := hv
  have hx := B.exec
  have hb := B.bytes
  have hr := B.returns
  have hts := atoms_spec (ws := wsX0_writeBlocks) B.pre
  have hown : s.vm.findClass RX0 = some m.cls := findClass_of_methodNamed B.named
  have hlocks := B.notSynchronized
  have hi0 : ∀ w ∈ wsX00, w ∈ wsX0_writeBlocks := by decide +kernel
  have hok1 := hok.2.1
  have hok2 := hok.2.2.1
  have hok3 := hok.2.2.2
  have hS : va_S (lA ad acc) s.heap s.heap [] := va_S.rf
  have hD : va_D (lA ad acc) (lW ad cI cB cO acc lm rm N x z ob) := wlD hok
  have hl := lv_entry ([.ref (ad 1), .ref (ad (k1 + 2)), .int (nI T), .ref (ad (k2 + 2))]) (n := 5) (Nat.le_of_ble_eq_true rfl)
  rw [lg_entry_eq]
  generalize (lg_sl ([.ref (ad 1), .ref (ad (k1 + 2)), .int (nI T), .ref (ad (k2 + 2))]) ++ List.replicate (5 - (lg_sl ([.ref (ad 1), .ref (ad (k1 + 2)), .int (nI T), .ref (ad (k2 + 2))])).length) Slot.unset).toArray = ls at hl ⊢
  have hl : lv_has ls 5 [(0, .ref (ad 1)), (1, .ref (ad (k1 + 2))), (2, .int (nI T)), (3, .ref (ad (k2 + 2)))] := hl
  have hN58 := hN.2.2.2.2.2
  refine lv_iconst (v := 0) hx hb dX0_writeBlocks_0 (by decide) ?_
  refine lv_istore (lv' := [(4, .int ((0 : Int32))), (0, .ref (ad 1)), (1, .ref (ad (k1 + 2))), (2, .int (nI T)), (3, .ref (ad (k2 + 2)))]) hx hb dX0_writeBlocks_1 hl (by decide) rfl (fun ls hl => ?_)
  have loop : ∀ (n i : Nat) (M : LN) (y : Nat → Int32) (H : Heap) (locs : List Loc) (ls : Array Slot), i + n = acc + 1 → wBl k1 k2 T n i M y = wBl k1 k2 T (acc + 1) 0 N z → nOk lm M → va_P D vwCl (lW ad cI cB cO acc lm rm M x y ob) H → va_S (lA ad acc) s.heap H locs → lv_has ls 5 [(4, .int (nI i)), (0, .ref (ad 1)), (1, .ref (ad (k1 + 2))), (2, .int (nI T)), (3, .ref (ad (k2 + 2)))] → W p l e (headSpec wsX0_writeBlocks ({ frames := 2, cells := 0, slots := 0, locals := 43 })).room s m ([.ref (ad 1), .ref (ad (k1 + 2)), .int (nI T), .ref (ad (k2 + 2))]).toArray below meth c H locs 0 0 (MQ below (va_Qi (fun (r : Int32) (u : DS) => (r, u) = dWB k1 k2 T acc (N, x, z)) (fun u t => va_P D vwCl (lW ad cI cB cO acc lm rm u.1 u.2.1 u.2.2 ob) t.heap) (lA ad acc)) ([.ref (ad 1), .ref (ad (k1 + 2)), .int (nI T), .ref (ad (k2 + 2))]).toArray s 0 0 (lA ad acc)) (F0 m 3 ls []) := by
    intro n
    induction n with
    | zero =>
      intro i M y H locs ls hin heq hM hP hS hl
      refine lv_iload hx hb dX0_writeBlocks_3 (lv_at hl 0 rfl) ?_
      refine lv_aload_n hx hb dX0_writeBlocks_5 rfl (lv_at hl 2 rfl) ?_
      refine va_alen (v := nI (acc + 1)) hx hb hK hP (k1 + 2) 2 (l_arr k1 hk1) rfl (rfl) dX0_writeBlocks_6 ?_
      refine lv_icmp_ge (tgt := 52) hx hb dX0_writeBlocks_7 (by decide) (fun _ => ?_) (fun c9 => absurd (nI_le (by omega) (by omega)) c9)
      refine lv_iconst (v := 1) hx hb dX0_writeBlocks_52 (by decide) ?_
      exact W.zret (v := 1) (ty := .boolean) hx hb hr (rfl) (fun t ht hW => ⟨⟨_, (M, x, y), rfl, by rw [dWB, ← heq]; rfl, hp_at ht hP⟩, hS.F ht⟩) hS.2.2 dX0_writeBlocks_53
    | succ n ih =>
      intro i M y H locs ls hin heq hM hP hS hl
      have hD : va_D (lA ad acc) (lW ad cI cB cO acc lm rm M x y ob) := wlD hok
      refine lv_iload hx hb dX0_writeBlocks_3 (lv_at hl 0 rfl) ?_
      refine lv_aload_n hx hb dX0_writeBlocks_5 rfl (lv_at hl 2 rfl) ?_
      refine va_alen (v := nI (acc + 1)) hx hb hK hP (k1 + 2) 2 (l_arr k1 hk1) rfl (rfl) dX0_writeBlocks_6 ?_
      refine lv_icmp_ge (tgt := 52) hx hb dX0_writeBlocks_7 (by decide) (fun c9 => absurd c9 (nI_ge (by omega) (by omega))) (fun _ => ?_)
      refine lv_iload hx hb dX0_writeBlocks_10 (lv_at hl 0 rfl) ?_
      refine lv_aload_n hx hb dX0_writeBlocks_12 rfl (lv_at hl 4 rfl) ?_
      refine va_alen (v := nI (acc + 1)) hx hb hK hP (k2 + 2) 2 (l_arr k2 hk2) rfl (rfl) dX0_writeBlocks_13 ?_
      refine lv_icmp_ge (tgt := 52) hx hb dX0_writeBlocks_14 (by decide) (fun c9 => absurd c9 (nI_ge (by omega) (by omega))) (fun _ => ?_)
      refine lv_iload_n hx hb dX0_writeBlocks_17 rfl (lv_at hl 3 rfl) ?_
      refine lv_iload hx hb dX0_writeBlocks_18 (lv_at hl 0 rfl) ?_
      refine vp_callSi (va_Run.run (va_runSN (host := RX2) (As := [.int (nI T), .int (nI i)]) (rest := []) ⟨hx, hb, hml, hown, hts⟩ (c_has l T i (by omega)) ⟨va_cnB 2 hts gX0_writeBlocks_X2_has_n58 rfl rfl rfl hN58 (hts (.initialized RX2) (by decide +kernel)) (by decide +kernel) ⟨Nat.le_of_ble_eq_true rfl, Nat.le_of_ble_eq_true rfl⟩, hts (.static yX2_has) (by decide +kernel), trivial⟩ preEq rfl rfl hl.1 rfl (lv_room (Nat.le_of_ble_eq_true rfl)) dX0_writeBlocks_20 ⟨Nat.le_of_ble_eq_true rfl, Nat.le_of_ble_eq_true rfl⟩)) (fun rb hrb => ?_)
      refine lv_if_eq (tgt := 46) hx hb dX0_writeBlocks_23 (by decide) (fun c0 => ?_) (fun c0 => ?_)
      · replace c0 : ¬ T.testBit i = true := fun q => by rw [hrb, if_pos q] at c0; exact absurd c0 (by decide)
        rw [wBl, if_neg c0] at heq
        refine lv_iinc (v := nI (i + 1)) (lv' := [(4, .int (nI (i + 1))), (0, .ref (ad 1)), (1, .ref (ad (k1 + 2))), (2, .int (nI T)), (3, .ref (ad (k2 + 2)))]) hx hb dX0_writeBlocks_46 hl (k := 0) rfl (nI_1 i) (by decide) rfl (fun ls hl => ?_)
        refine lv_goto (tgt := 3) hx hb dX0_writeBlocks_49 (by decide) ?_
        exact ih (i + 1) _ _ H locs ls (by omega) heq hM hP hS hl
      · replace c0 : T.testBit i = true := Classical.byContradiction (fun q => c0 (by rw [hrb, if_neg q]))
        rw [wBl, if_pos c0] at heq
        refine lv_aload_n hx hb dX0_writeBlocks_26 rfl (lv_at hl 1 rfl) ?_
        refine va_calli (va_runV (As := []) (rest := []) ⟨hx, hb, hml, hown, hts⟩ (c_passStop l D ad cI cB cO acc lm rm M x y ob hok) (cwV 0 hts gX0_writeBlocks_X0_passStop rfl rfl rfl (by decide +kernel) ⟨Nat.le_of_ble_eq_true rfl, Nat.le_of_ble_eq_true rfl⟩) ⟨lPc_blind, va_recv hK hP (ci := 0) (q0 := 1) rfl (wl_at (by omega)), lPc_use (hP) ⟨hK, hN⟩⟩ rfl rfl hl.1 rfl (lv_room (Nat.le_of_ble_eq_true rfl)) dX0_writeBlocks_27 ⟨Nat.le_of_ble_eq_true rfl, Nat.le_of_ble_eq_true rfl⟩) hS (fun q _ h => (fun _ h => h) q h) (fun _ h => h) (fun r _u t H1 locs ht hvm hw hB hz1 hk9 hS => ?_)
        generalize H1 = H at ht hz1 hk9 hS ⊢
        cases hw
        have hP : va_P D vwCl (lW ad cI cB cO acc lm rm M x (psZ y) ob) H := pB_at ht hB
        have hD : va_D (lA ad acc) (lW ad cI cB cO acc lm rm M x (psZ y) ob) := wlD hok
        refine lv_if_ne (tgt := 35) hx hb dX0_writeBlocks_30 (by decide) (fun c1 => ?_) (fun c1 => ?_)
        · replace c1 : ¬ y 3 = 0 := fun q => c1 (by rw [psB, if_pos q])
          rw [if_neg c1] at heq
          refine lv_aload_n hx hb dX0_writeBlocks_35 rfl (lv_at hl 2 rfl) ?_
          refine lv_iload hx hb dX0_writeBlocks_36 (lv_at hl 0 rfl) ?_
          refine va_aldq hx hb hK hP (k1 + 2) 2 (l_arr k1 hk1) rfl (vp_in_nI (by omega) (by omega)) dX0_writeBlocks_38 ?_
          refine lv_topv (y := .ref (ad (6 * i + 2 * k1 + 10))) (by rw [nI_clamp (by omega)]; rfl) ?_
          refine lv_aload_n hx hb dX0_writeBlocks_39 rfl (lv_at hl 4 rfl) ?_
          refine lv_iload hx hb dX0_writeBlocks_40 (lv_at hl 0 rfl) ?_
          refine va_aldq hx hb hK hP (k2 + 2) 2 (l_arr k2 hk2) rfl (vp_in_nI (by omega) (by omega)) dX0_writeBlocks_42 ?_
          refine lv_topv (y := .ref (ad (6 * i + 2 * k2 + 10))) (by rw [nI_clamp (by omega)]; rfl) ?_
          have hn2 := ln_p hP k1 i hk1 (by omega)
          have hn2u := va_P.app hn2 (ln_p hP k2 i hk2 (by omega))
          refine va_callv (va_runV (As := [.ref (ad (6 * i + 2 * k2 + 10))]) (rest := []) ⟨hx, hb, hml, hown, hts⟩ (c_setTo l D cI (lm + 1) (ad (6 * i + 2 * k1 + 10)) (ad (6 * i + 2 * k1 + 11)) (M k1 i) (by omega) (ln_oa (i := 6 * i + 2 * k1 + 10) hok (by omega)) (hM _ _) (ad (6 * i + 2 * k2 + 10)) (ad (6 * i + 2 * k2 + 11)) (M k2 i) (ln_ne (i := 6 * i + 2 * k1 + 10) hok (by omega) (by omega) (by omega) (by omega)) (ln_ne (i := 6 * i + 2 * k1 + 10) hok (by omega) (by omega) (by omega) (by omega)) (hM _ _)) (cwV 1 hts gX0_writeBlocks_X1_setTo rfl rfl rfl (by decide +kernel) ⟨Nat.le_of_ble_eq_true rfl, Nat.le_of_ble_eq_true rfl⟩) ⟨nPc_blind, va_recv hK hn2 (ci := 1) (q0 := 0) rfl rfl, nPc_use (hn2u) (hK.sub [0] rfl)⟩ rfl rfl hl.1 rfl (lv_room (Nat.le_of_ble_eq_true rfl)) dX0_writeBlocks_43 ⟨Nat.le_of_ble_eq_true rfl, Nat.le_of_ble_eq_true rfl⟩) hS (fun q _ h => (fun q h => lA_n (i := 6 * i + 2 * k1 + 10) (by omega) h) q h) (fun q h => lA_n (i := 6 * i + 2 * k1 + 10) (by omega) h) (fun _u t H1 locs ht hvm hw hB hz1 hk9 hS => ?_)
          have hP9 := lk_p (k := k1) (b := i) hok hk1 (by omega) hP hk9 (pB_at ht hB)
          generalize H1 = H at ht hz1 hk9 hS hP9 ⊢
          have hP : va_P D vwCl (lW ad cI cB cO acc lm rm (va_up M k1 (va_up (M k1) i (M k2 i))) x (psZ y) ob) H := hP9
          have hD : va_D (lA ad acc) (lW ad cI cB cO acc lm rm (va_up M k1 (va_up (M k1) i (M k2 i))) x (psZ y) ob) := wlD hok
          refine lv_iinc (v := nI (i + 1)) (lv' := [(4, .int (nI (i + 1))), (0, .ref (ad 1)), (1, .ref (ad (k1 + 2))), (2, .int (nI T)), (3, .ref (ad (k2 + 2)))]) hx hb dX0_writeBlocks_46 hl (k := 0) rfl (nI_1 i) (by decide) rfl (fun ls hl => ?_)
          refine lv_goto (tgt := 3) hx hb dX0_writeBlocks_49 (by decide) ?_
          exact ih (i + 1) _ _ H locs ls (by omega) heq (nOk_up hM (hM _ _)) hP hS hl
        · replace c1 : y 3 = 0 := Classical.byContradiction (fun q => absurd c1 (by rw [psB, if_neg q]; decide))
          refine lv_iconst (v := 0) hx hb dX0_writeBlocks_33 (by decide) ?_
          exact W.zret (v := 0) (ty := .boolean) hx hb hr (rfl) (fun t ht hW => ⟨⟨_, (M, x, psZ y), rfl, by rw [dWB, ← heq, if_pos c1], hp_at ht hP⟩, hS.F ht⟩) hS.2.2 dX0_writeBlocks_34
  exact loop (acc + 1) 0 N z s.heap [] ls (by omega) rfl hNk hP hS hl

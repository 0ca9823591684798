set_option maxHeartbeats 4000000 in
set_option maxRecDepth 100000 in
theorem m_octet (l : Launch) (D : va_G) (g : Nat → Nat) (cI cZ cB : ClassId) (acc lm rm : Nat) (N : LN) (am : Nat) (T : BN) (wk ou y : Nat → Int32) (hok : mOk g) (hacc : acc ≤ 24) (p0 : Int32) (n0 : Nat) (hn0 : y 6 = nI n0) (hn1 : n0 ≤ 300) : Met l yX3_octet wsX3_octet ({ frames := 0, cells := 0, slots := 0, locals := 0 }) (nPc [.ref (g 0), .int (p0)] D (rW g cI cZ cB acc lm rm (mF N am T wk ou) y) [(cI, .int), (cZ, .boolean), (cB, .byte)]) (va_Qi (fun (r : Int32) (_ : Unit) => r = if p0 < 0 ∨ ¬ p0 < y 6 then 0 else ou p0.toNatClampNeg) (fun _ t => va_P D vwCl (rW g cI cZ cB acc lm rm (mF N am T wk ou) (va_up y 0 (if p0 < 0 ∨ ¬ p0 < y 6 then 1 else 0))) t.heap) (mA g)) 0 0 (mA g) := by
  refine Met.ofW (cc := cX3_octet) (maxL := 2) (ret := (some .int)) (by decide) rfl ?_
  intro p e s m args below meth c s₁ B hml hv
  obtain ⟨rfl, hP, hK⟩ := hv
  have hx := B.exec
  have hb := B.bytes
  have hr := B.returns
  have hts := atoms_spec (ws := wsX3_octet) B.pre
  have hown : s.vm.findClass RX3 = some m.cls := findClass_of_methodNamed B.named
  have hlocks := B.notSynchronized
  have hi3 : ∀ w ∈ wsX30, w ∈ wsX3_octet := by decide +kernel
  have hS : va_S (mA g) s.heap s.heap [] := va_S.rf
  have hD : va_D (mA g) (rW g cI cZ cB acc lm rm (mF N am T wk ou) y) := mlD hok
  have hl := lv_entry ([.ref (g 0), .int (p0)]) (n := 2) (Nat.le_of_ble_eq_true rfl)
  rw [lg_entry_eq]
  generalize (lg_sl ([.ref (g 0), .int (p0)]) ++ List.replicate (2 - (lg_sl ([.ref (g 0), .int (p0)])).length) Slot.unset).toArray = ls at hl ⊢
  have hl : lv_has ls 2 [(0, .ref (g 0)), (1, .int (p0))] := hl
  refine lv_aload_n hx hb dX3_octet_0 rfl (lv_at hl 0 rfl) ?_
  refine lv_iload_n hx hb dX3_octet_1 rfl (lv_at hl 1 rfl) ?_
  refine lv_if_lt (tgt := 13) hx hb dX3_octet_2 (by decide) (fun c1 => ?_) (fun c1 => ?_)
  · have c9 : p0 < 0 ∨ ¬ p0 < y 6 := Or.inl c1
    refine lv_iconst (v := 1) hx hb dX3_octet_13 (by decide) ?_
    refine lv_goto (tgt := 18) hx hb dX3_octet_14 (by decide) ?_
    refine va_put (D := D) (ci := 3) (v := .int ((1 : Int32))) (ty := .int) (C := RX3) (T := TX3) (N := 18) hx hb hts hi3 tyX3 tyX3_ok nmX3 hown hK hP hD hS 0 (wl_at (by omega)) rfl 0 (by decide) (hts (.fieldLink RX3 1 "BigLedgerModel" "thrown" "I") (by decide +kernel)) (fun _ h9 => h9) rfl (by decide +kernel) (rfl) (rfl) (Nat.le_of_ble_eq_true rfl) dX3_octet_18 (fun H locs hP hD hS => ?_)
    have hP : va_P D vwCl (rW g cI cZ cB acc lm rm (mF N am T wk ou) (va_up y 0 (1 : Int32))) H := cv (ms_f 0 (1 : Int32) (by decide)) hP
    have hD : va_D (mA g) (rW g cI cZ cB acc lm rm (mF N am T wk ou) (va_up y 0 (1 : Int32))) := mlD hok
    refine lv_aload_n hx hb dX3_octet_21 rfl (lv_at hl 0 rfl) ?_
    refine va_get (D := D) (ci := 3) (v := .int ((va_up y 0 (1 : Int32)) 0)) (C := RX3) (T := TX3) (N := 18) hx hb hts hi3 hown hK hP 0 (wl_at (by omega)) rfl 0 (by decide) (hts (.fieldLink RX3 1 "BigLedgerModel" "thrown" "I") (by decide +kernel)) (fun _ h9 => h9) rfl dX3_octet_22 ?_
    refine lv_iconst (v := 1) hx hb dX3_octet_25 (by decide) ?_
    refine lv_icmp_ne (tgt := 33) hx hb dX3_octet_26 (by decide) (fun c9 => absurd c9 (fun q => q (va_up_self _ _ _))) (fun _ => ?_)
    refine lv_iconst (v := 0) hx hb dX3_octet_29 (by decide) ?_
    refine lv_goto (tgt := 39) hx hb dX3_octet_30 (by decide) ?_
    rw [show va_up y 0 1 = va_up y 0 (if p0 < 0 ∨ ¬ p0 < y 6 then 1 else 0) by rw [if_pos c9]] at hP
    exact W.iret (v := 0) hx hb hr (fun t ht hW => ⟨⟨_, (), rfl, (if_pos c9).symm, hp_at ht hP⟩, hS.F ht⟩) hS.2.2 dX3_octet_39
  · refine lv_iload_n hx hb dX3_octet_5 rfl (lv_at hl 1 rfl) ?_
    refine lv_aload_n hx hb dX3_octet_6 rfl (lv_at hl 0 rfl) ?_
    refine va_get (D := D) (ci := 3) (v := .int (y 6)) (C := RX3) (T := TX3) (N := 18) hx hb hts hi3 hown hK hP 0 (wl_at (by omega)) rfl 17 (by decide) (hts (.fieldLink RX3 115 "BigLedgerModel" "outMany" "I") (by decide +kernel)) (fun _ h9 => h9) rfl dX3_octet_7 ?_
    refine lv_icmp_lt (tgt := 17) hx hb dX3_octet_10 (by decide) (fun c2 => ?_) (fun c2 => ?_)
    · have c9 : ¬ (p0 < 0 ∨ ¬ p0 < y 6) := by
        rintro (q | q)
        · exact c1 q
        · exact q c2
      refine lv_iconst (v := 0) hx hb dX3_octet_17 (by decide) ?_
      refine va_put (D := D) (ci := 3) (v := .int ((0 : Int32))) (ty := .int) (C := RX3) (T := TX3) (N := 18) hx hb hts hi3 tyX3 tyX3_ok nmX3 hown hK hP hD hS 0 (wl_at (by omega)) rfl 0 (by decide) (hts (.fieldLink RX3 1 "BigLedgerModel" "thrown" "I") (by decide +kernel)) (fun _ h9 => h9) rfl (by decide +kernel) (rfl) (rfl) (Nat.le_of_ble_eq_true rfl) dX3_octet_18 (fun H locs hP hD hS => ?_)
      have hP : va_P D vwCl (rW g cI cZ cB acc lm rm (mF N am T wk ou) (va_up y 0 (0 : Int32))) H := cv (ms_f 0 (0 : Int32) (by decide)) hP
      have hD : va_D (mA g) (rW g cI cZ cB acc lm rm (mF N am T wk ou) (va_up y 0 (0 : Int32))) := mlD hok
      refine lv_aload_n hx hb dX3_octet_21 rfl (lv_at hl 0 rfl) ?_
      refine va_get (D := D) (ci := 3) (v := .int ((va_up y 0 (0 : Int32)) 0)) (C := RX3) (T := TX3) (N := 18) hx hb hts hi3 hown hK hP 0 (wl_at (by omega)) rfl 0 (by decide) (hts (.fieldLink RX3 1 "BigLedgerModel" "thrown" "I") (by decide +kernel)) (fun _ h9 => h9) rfl dX3_octet_22 ?_
      refine lv_iconst (v := 1) hx hb dX3_octet_25 (by decide) ?_
      refine lv_icmp_ne (tgt := 33) hx hb dX3_octet_26 (by decide) (fun _ => ?_) (fun c8 => absurd (show (0 : Int32) = 1 from c8) (by decide))
      obtain ⟨k, hk, rfl⟩ := nI_of c1
      have ek : (nI k).toNatClampNeg = k := nI_clamp hk
      have hkn : k < n0 := by rw [hn0] at c2; exact (nI_ltI hk (by omega)).mp c2
      refine lv_aload_n hx hb dX3_octet_33 rfl (lv_at hl 0 rfl) ?_
      refine va_get (D := D) (ci := 3) (v := .ref (g 8)) (C := RX3) (T := TX3) (N := 18) hx hb hts hi3 hown hK hP 0 (wl_at (by omega)) rfl 16 (by decide) (hts (.fieldLink RX3 39 "BigLedgerModel" "out" "[B") (by decide +kernel)) (fun _ h9 => h9) rfl dX3_octet_34 ?_
      refine lv_iload_n hx hb dX3_octet_37 rfl (lv_at hl 1 rfl) ?_
      refine va_bald hx hb hK hP 8 2 (wl_at (by omega)) rfl (vp_in_nI (by omega) (by omega)) dX3_octet_38 ?_
      refine lv_topi (fun y101 ey101 => ?_)
      replace ey101 : y101 = ou k := ey101.trans (by rw [nI_clamp (by omega)]; rfl)
      subst ey101
      rw [show va_up y 0 0 = va_up y 0 (if nI k < 0 ∨ ¬ nI k < y 6 then 1 else 0) by rw [if_neg c9]] at hP
      exact W.iret (v := ou k) hx hb hr (fun t ht hW => ⟨⟨_, (), rfl, by rw [if_neg c9, ek], hp_at ht hP⟩, hS.F ht⟩) hS.2.2 dX3_octet_39
    · have c9 : p0 < 0 ∨ ¬ p0 < y 6 := Or.inr c2
      refine lv_iconst (v := 1) hx hb dX3_octet_13 (by decide) ?_
      refine lv_goto (tgt := 18) hx hb dX3_octet_14 (by decide) ?_
      refine va_put (D := D) (ci := 3) (v := .int ((1 : Int32))) (ty := .int) (C := RX3) (T := TX3) (N := 18) hx hb hts hi3 tyX3 tyX3_ok nmX3 hown hK hP hD hS 0 (wl_at (by omega)) rfl 0 (by decide) (hts (.fieldLink RX3 1 "BigLedgerModel" "thrown" "I") (by decide +kernel)) (fun _ h9 => h9) rfl (by decide +kernel) (rfl) (rfl) (Nat.le_of_ble_eq_true rfl) dX3_octet_18 (fun H locs hP hD hS => ?_)
      have hP : va_P D vwCl (rW g cI cZ cB acc lm rm (mF N am T wk ou) (va_up y 0 (1 : Int32))) H := cv (ms_f 0 (1 : Int32) (by decide)) hP
      have hD : va_D (mA g) (rW g cI cZ cB acc lm rm (mF N am T wk ou) (va_up y 0 (1 : Int32))) := mlD hok
      refine lv_aload_n hx hb dX3_octet_21 rfl (lv_at hl 0 rfl) ?_
      refine va_get (D := D) (ci := 3) (v := .int ((va_up y 0 (1 : Int32)) 0)) (C := RX3) (T := TX3) (N := 18) hx hb hts hi3 hown hK hP 0 (wl_at (by omega)) rfl 0 (by decide) (hts (.fieldLink RX3 1 "BigLedgerModel" "thrown" "I") (by decide +kernel)) (fun _ h9 => h9) rfl dX3_octet_22 ?_
      refine lv_iconst (v := 1) hx hb dX3_octet_25 (by decide) ?_
      refine lv_icmp_ne (tgt := 33) hx hb dX3_octet_26 (by decide) (fun c9 => absurd c9 (fun q => q (va_up_self _ _ _))) (fun _ => ?_)
      refine lv_iconst (v := 0) hx hb dX3_octet_29 (by decide) ?_
      refine lv_goto (tgt := 39) hx hb dX3_octet_30 (by decide) ?_
      rw [show va_up y 0 1 = va_up y 0 (if p0 < 0 ∨ ¬ p0 < y 6 then 1 else 0) by rw [if_pos c9]] at hP
      exact W.iret (v := 0) hx hb hr (fun t ht hW => ⟨⟨_, (), rfl, (if_pos c9).symm, hp_at ht hP⟩, hS.F ht⟩) hS.2.2 dX3_octet_39
set_option maxHeartbeats 4000000 in
set_option maxRecDepth 100000 in
theorem m_count (l : Launch) (D : va_G) (g : Nat → Nat) (cI cZ cB : ClassId) (acc lm rm : Nat) (N : LN) (am : Nat) (T : BN) (wk ou y : Nat → Int32) (hok : mOk g) (hacc : acc ≤ 24) (p0 : Int32) : Met l yX3_count wsX3_count ({ frames := 1, cells := 0, slots := 0, locals := 22 }) (nPc [.ref (g 0), .int (p0)] D (rW g cI cZ cB acc lm rm (mF N am T wk ou) y) [(cI, .int), (cZ, .boolean), (cB, .byte)]) (va_Qi (fun (r : Int32) (_ : Unit) => r = mCount acc lm rm p0 (N, am, T, y)) (fun _ t => va_P D vwCl (rW g cI cZ cB acc lm rm (mF N am T wk ou) (va_up y 0 0)) t.heap) (mA g)) 0 0 (mA g) := by
  refine Met.ofW (cc := cX3_count) (maxL := 2) (ret := (some .int)) (by decide) rfl ?_
  intro p e s m args below meth c s₁ B hml hv
  obtain ⟨rfl, hP, hK⟩ := hv
  have hx := B.exec
  have hb := B.bytes
  have hr := B.returns
  have hts := atoms_spec (ws := wsX3_count) B.pre
  have hown : s.vm.findClass RX3 = some m.cls := findClass_of_methodNamed B.named
  have hlocks := B.notSynchronized
  have hi3 : ∀ w ∈ wsX30, w ∈ wsX3_count := by decide +kernel
  have hS : va_S (mA g) s.heap s.heap [] := va_S.rf
  have hD : va_D (mA g) (rW g cI cZ cB acc lm rm (mF N am T wk ou) y) := mlD hok
  have hl := lv_entry ([.ref (g 0), .int (p0)]) (n := 2) (Nat.le_of_ble_eq_true rfl)
  rw [lg_entry_eq]
  generalize (lg_sl ([.ref (g 0), .int (p0)]) ++ List.replicate (2 - (lg_sl ([.ref (g 0), .int (p0)])).length) Slot.unset).toArray = ls at hl ⊢
  have hl : lv_has ls 2 [(0, .ref (g 0)), (1, .int (p0))] := hl
  refine lv_aload_n hx hb dX3_count_0 rfl (lv_at hl 0 rfl) ?_
  refine lv_iconst (v := 0) hx hb dX3_count_1 (by decide) ?_
  refine va_put (D := D) (ci := 3) (v := .int ((0 : Int32))) (ty := .int) (C := RX3) (T := TX3) (N := 18) hx hb hts hi3 tyX3 tyX3_ok nmX3 hown hK hP hD hS 0 (wl_at (by omega)) rfl 0 (by decide) (hts (.fieldLink RX3 1 "BigLedgerModel" "thrown" "I") (by decide +kernel)) (fun _ h9 => h9) rfl (by decide +kernel) (rfl) (rfl) (Nat.le_of_ble_eq_true rfl) dX3_count_2 (fun H locs hP hD hS => ?_)
  have hP : va_P D vwCl (rW g cI cZ cB acc lm rm (mF N am T wk ou) (va_up y 0 (0 : Int32))) H := cv (ms_f 0 (0 : Int32) (by decide)) hP
  have hD : va_D (mA g) (rW g cI cZ cB acc lm rm (mF N am T wk ou) (va_up y 0 (0 : Int32))) := mlD hok
  refine lv_iload_n hx hb dX3_count_5 rfl (lv_at hl 1 rfl) ?_
  by_cases q0 : p0 = 0
  · subst q0
    refine lv_tableIn (tgt := 56) hx hb dX3_count_6 (by decide) (by decide) rfl (by decide) ?_
    refine lv_aload_n hx hb dX3_count_56 rfl (lv_at hl 0 rfl) ?_
    refine va_get (D := D) (ci := 3) (v := .int (nI acc)) (C := RX3) (T := TX3) (N := 18) hx hb hts hi3 hown hK hP 0 (wl_at (by omega)) rfl 1 (by decide) (hts (.fieldLink RX3 43 "BigLedgerModel" "accounts" "I") (by decide +kernel)) (fun _ h9 => h9) rfl dX3_count_57 ?_
    exact W.iret (v := nI acc) hx hb hr (fun t ht hW => ⟨⟨_, (), rfl, rfl, hp_at ht hP⟩, hS.F ht⟩) hS.2.2 dX3_count_60
  · by_cases q1 : p0 = 1
    · subst q1
      refine lv_tableIn (tgt := 61) hx hb dX3_count_6 (by decide) (by decide) rfl (by decide) ?_
      refine lv_aload_n hx hb dX3_count_61 rfl (lv_at hl 0 rfl) ?_
      refine va_get (D := D) (ci := 3) (v := .int (nI lm)) (C := RX3) (T := TX3) (N := 18) hx hb hts hi3 hown hK hP 0 (wl_at (by omega)) rfl 2 (by decide) (hts (.fieldLink RX3 46 "BigLedgerModel" "limbs" "I") (by decide +kernel)) (fun _ h9 => h9) rfl dX3_count_62 ?_
      exact W.iret (v := nI lm) hx hb hr (fun t ht hW => ⟨⟨_, (), rfl, rfl, hp_at ht hP⟩, hS.F ht⟩) hS.2.2 dX3_count_65
    · by_cases q2 : p0 = 2
      · subst q2
        refine lv_tableIn (tgt := 66) hx hb dX3_count_6 (by decide) (by decide) rfl (by decide) ?_
        refine lv_aload_n hx hb dX3_count_66 rfl (lv_at hl 0 rfl) ?_
        refine va_get (D := D) (ci := 3) (v := .int (nI rm)) (C := RX3) (T := TX3) (N := 18) hx hb hts hi3 hown hK hP 0 (wl_at (by omega)) rfl 3 (by decide) (hts (.fieldLink RX3 49 "BigLedgerModel" "room" "I") (by decide +kernel)) (fun _ h9 => h9) rfl dX3_count_67 ?_
        exact W.iret (v := nI rm) hx hb hr (fun t ht hW => ⟨⟨_, (), rfl, rfl, hp_at ht hP⟩, hS.F ht⟩) hS.2.2 dX3_count_70
      · by_cases q3 : p0 = 3
        · subst q3
          refine lv_tableIn (tgt := 71) hx hb dX3_count_6 (by decide) (by decide) rfl (by decide) ?_
          refine lv_aload_n hx hb dX3_count_71 rfl (lv_at hl 0 rfl) ?_
          refine va_get (D := D) (ci := 3) (v := .int ((va_up y 0 (0 : Int32)) 4)) (C := RX3) (T := TX3) (N := 18) hx hb hts hi3 hown hK hP 0 (wl_at (by omega)) rfl 14 (by decide) (hts (.fieldLink RX3 62 "BigLedgerModel" "writes" "I") (by decide +kernel)) (fun _ h9 => h9) rfl dX3_count_72 ?_
          exact W.iret (v := y 4) hx hb hr (fun t ht hW => ⟨⟨_, (), rfl, rfl, hp_at ht hP⟩, hS.F ht⟩) hS.2.2 dX3_count_75
        · by_cases q4 : p0 = 4
          · subst q4
            refine lv_tableIn (tgt := 76) hx hb dX3_count_6 (by decide) (by decide) rfl (by decide) ?_
            refine lv_aload_n hx hb dX3_count_76 rfl (lv_at hl 0 rfl) ?_
            refine va_get (D := D) (ci := 3) (v := .int ((va_up y 0 (0 : Int32)) 1)) (C := RX3) (T := TX3) (N := 18) hx hb hts hi3 hown hK hP 0 (wl_at (by omega)) rfl 11 (by decide) (hts (.fieldLink RX3 52 "BigLedgerModel" "up" "Z") (by decide +kernel)) (fun _ h9 => h9) rfl dX3_count_77 ?_
            refine lv_if_eq (tgt := 87) hx hb dX3_count_80 (by decide) (fun c0 => ?_) (fun c0 => ?_)
            · refine lv_iconst (v := 0) hx hb dX3_count_87 (by decide) ?_
              exact W.iret (v := 0) hx hb hr (fun t ht hW => ⟨⟨_, (), rfl, (if_pos c0).symm, hp_at ht hP⟩, hS.F ht⟩) hS.2.2 dX3_count_88
            · refine lv_iconst (v := 1) hx hb dX3_count_83 (by decide) ?_
              refine lv_goto (tgt := 88) hx hb dX3_count_84 (by decide) ?_
              exact W.iret (v := 1) hx hb hr (fun t ht hW => ⟨⟨_, (), rfl, (if_neg c0).symm, hp_at ht hP⟩, hS.F ht⟩) hS.2.2 dX3_count_88
          · by_cases q5 : p0 = 5
            · subst q5
              refine lv_tableIn (tgt := 89) hx hb dX3_count_6 (by decide) (by decide) rfl (by decide) ?_
              refine lv_aload_n hx hb dX3_count_89 rfl (lv_at hl 0 rfl) ?_
              refine vp_callSi (W.runV (As := []) (rest := []) ⟨hx, hb, hml, hown, hts⟩ (m_touches l D g cI cZ cB acc lm rm N am T wk ou (va_up y 0 0) hok hacc) (cwV 0 hts gX3_count_X3_touches rfl rfl rfl (by decide +kernel) ⟨Nat.le_of_ble_eq_true rfl, Nat.le_of_ble_eq_true rfl⟩) ⟨nPc_blind, va_recv hK hP (ci := 3) (q0 := 0) rfl (wl_at (by omega)), nPc_use (hP) hK⟩ rfl rfl hl.1 rfl (lv_room (Nat.le_of_ble_eq_true rfl)) dX3_count_90 ⟨Nat.le_of_ble_eq_true rfl, Nat.le_of_ble_eq_true rfl⟩) (fun rt hrt => ?_)
              exact W.iret (v := rt) hx hb hr (fun t ht hW => ⟨⟨_, (), rfl, hrt, hp_at ht hP⟩, hS.F ht⟩) hS.2.2 dX3_count_93
            · by_cases q6 : p0 = 6
              · subst q6
                refine lv_tableIn (tgt := 94) hx hb dX3_count_6 (by decide) (by decide) rfl (by decide) ?_
                refine lv_aload_n hx hb dX3_count_94 rfl (lv_at hl 0 rfl) ?_
                refine va_get (D := D) (ci := 3) (v := .int ((va_up y 0 (0 : Int32)) 5)) (C := RX3) (T := TX3) (N := 18) hx hb hts hi3 hown hK hP 0 (wl_at (by omega)) rfl 15 (by decide) (hts (.fieldLink RX3 36 "BigLedgerModel" "left" "I") (by decide +kernel)) (fun _ h9 => h9) rfl dX3_count_95 ?_
                exact W.iret (v := y 5) hx hb hr (fun t ht hW => ⟨⟨_, (), rfl, rfl, hp_at ht hP⟩, hS.F ht⟩) hS.2.2 dX3_count_98
              · by_cases q7 : p0 = 7
                · subst q7
                  refine lv_tableIn (tgt := 99) hx hb dX3_count_6 (by decide) (by decide) rfl (by decide) ?_
                  refine lv_aload_n hx hb dX3_count_99 rfl (lv_at hl 0 rfl) ?_
                  refine va_get (D := D) (ci := 3) (v := .int ((va_up y 0 (0 : Int32)) 1)) (C := RX3) (T := TX3) (N := 18) hx hb hts hi3 hown hK hP 0 (wl_at (by omega)) rfl 11 (by decide) (hts (.fieldLink RX3 52 "BigLedgerModel" "up" "Z") (by decide +kernel)) (fun _ h9 => h9) rfl dX3_count_100 ?_
                  refine lv_if_eq (tgt := 119) hx hb dX3_count_103 (by decide) (fun c0 => ?_) (fun c0 => ?_)
                  · refine lv_iconst (v := 0) hx hb dX3_count_119 (by decide) ?_
                    exact W.iret (v := 0) hx hb hr (fun t ht hW => ⟨⟨_, (), rfl, (if_pos c0).symm, hp_at ht hP⟩, hS.F ht⟩) hS.2.2 dX3_count_120
                  · refine lv_aload_n hx hb dX3_count_106 rfl (lv_at hl 0 rfl) ?_
                    refine va_get (D := D) (ci := 3) (v := .ref (g 1)) (C := RX3) (T := TX3) (N := 18) hx hb hts hi3 hown hK hP 0 (wl_at (by omega)) rfl 4 (by decide) (hts (.fieldLink RX3 13 "BigLedgerModel" "now" "[I") (by decide +kernel)) (fun _ h9 => h9) rfl dX3_count_107 ?_
                    refine lv_sipush (v := 528) hx hb dX3_count_110 (by decide) ?_
                    have hn1 := vp_cons (hP _ _ (wl_at (i := 1) (by omega))) vp_nil
                    refine vp_callSi (W.runS (As := [.ref (g 1), .int ((528 : Int32))]) (rest := []) ⟨hx, hb, hml, hown, hts⟩ (m_size l D cI (g 1) 550 (22 * 24) (N 0 24) (rowF (N 0)) (by omega) (by omega) (fun k hk => rowF_at (N 0) hk)) (va_cwS 2 hts gX3_count_X3_size rfl rfl rfl (by decide +kernel) ⟨Nat.le_of_ble_eq_true rfl, Nat.le_of_ble_eq_true rfl⟩) ⟨nPc_blind, nPc_use (hn1) (hK.sub [0] rfl)⟩ rfl rfl hl.1 rfl (lv_room (Nat.le_of_ble_eq_true rfl)) dX3_count_113 ⟨Nat.le_of_ble_eq_true rfl, Nat.le_of_ble_eq_true rfl⟩) (fun rz hrz => ?_)
                    refine lv_goto (tgt := 120) hx hb dX3_count_116 (by decide) ?_
                    exact W.iret (v := rz) hx hb hr (fun t ht hW => ⟨⟨_, (), rfl, hrz.trans (if_neg c0).symm, hp_at ht hP⟩, hS.F ht⟩) hS.2.2 dX3_count_120
                · by_cases q8 : p0 = 8
                  · subst q8
                    refine lv_tableIn (tgt := 121) hx hb dX3_count_6 (by decide) (by decide) rfl (by decide) ?_
                    refine lv_aload_n hx hb dX3_count_121 rfl (lv_at hl 0 rfl) ?_
                    refine va_get (D := D) (ci := 3) (v := .ref (g 4)) (C := RX3) (T := TX3) (N := 18) hx hb hts hi3 hown hK hP 0 (wl_at (by omega)) rfl 7 (by decide) (hts (.fieldLink RX3 23 "BigLedgerModel" "amount" "[I") (by decide +kernel)) (fun _ h9 => h9) rfl dX3_count_122 ?_
                    refine lv_iconst (v := 0) hx hb dX3_count_125 (by decide) ?_
                    have hn1 := vp_cons (hP _ _ (wl_at (i := 4) (by omega))) vp_nil
                    refine vp_callSi (W.runS (As := [.ref (g 4), .int ((0 : Int32))]) (rest := []) ⟨hx, hb, hml, hown, hts⟩ (m_size l D cI (g 4) 22 0 (am) (lb am) (by omega) (by omega) (fun k _ => by rw [Nat.zero_add])) (va_cwS 2 hts gX3_count_X3_size rfl rfl rfl (by decide +kernel) ⟨Nat.le_of_ble_eq_true rfl, Nat.le_of_ble_eq_true rfl⟩) ⟨nPc_blind, nPc_use (hn1) (hK.sub [0] rfl)⟩ rfl rfl hl.1 rfl (lv_room (Nat.le_of_ble_eq_true rfl)) dX3_count_126 ⟨Nat.le_of_ble_eq_true rfl, Nat.le_of_ble_eq_true rfl⟩) (fun rz hrz => ?_)
                    exact W.iret (v := rz) hx hb hr (fun t ht hW => ⟨⟨_, (), rfl, hrz, hp_at ht hP⟩, hS.F ht⟩) hS.2.2 dX3_count_129
                  · refine lv_tableOut (tgt := 130) hx hb dX3_count_6 (sw_out q0 q1 q2 q3 q4 q5 q6 q7 q8) (by decide) ?_
                    refine lv_iconst (v := (-1)) hx hb dX3_count_130 (by decide) ?_
                    exact W.iret (v := -1) hx hb hr (fun t ht hW => ⟨⟨_, (), rfl, by unfold mCount; rw [if_neg q0, if_neg q1, if_neg q2, if_neg q3, if_neg q4, if_neg q5, if_neg q6, if_neg q7, if_neg q8], hp_at ht hP⟩, hS.F ht⟩) hS.2.2 dX3_count_131
set_option maxHeartbeats 4000000 in
set_option maxRecDepth 100000 in
theorem m_write (l : Launch) (D : va_G) (g : Nat → Nat) (cI cZ cB : ClassId) (acc lm rm : Nat) (N : LN) (am : Nat) (T : BN) (wk ou y : Nat → Int32) (hok : mOk g) (hacc : acc ≤ 24) (hlm2 : lm ≤ 20) (p0 : Int32) (hbal : ∀ b, b < acc → N 0 b < 2147483648 ^ lm) : Met l yX3_write wsX3_write ({ frames := 1, cells := 0, slots := 0, locals := 22 }) (nPc [.ref (g 0), .int (p0)] D (rW g cI cZ cB acc lm rm (mF N am T wk ou) y) [(cI, .int), (cZ, .boolean), (cB, .byte)]) (va_Qi (fun (r : Int32) (u : MX) => mWt acc p0 (N, am, T, y) wk ou r u) (fun u t => va_P D vwCl (rW g cI cZ cB acc lm rm (mF u.1.1 u.1.2.1 u.1.2.2.1 u.2.1 u.2.2) u.1.2.2.2) t.heap) (mA g)) 0 0 (mA g) := by
  refine Met.ofW (cc := cX3_write) (maxL := 6) (ret := (some .int)) (by decide) rfl ?_
  intro p e s m args below meth c s₁ B hml hv
  obtain ⟨rfl, hP, hK⟩ := hv
  have hx := B.exec
  have hb := B.bytes
  have hr := B.returns
  have hts := atoms_spec (ws := wsX3_write) B.pre
  have hown : s.vm.findClass RX3 = some m.cls := findClass_of_methodNamed B.named
  have hlocks := B.notSynchronized
  have hi3 : ∀ w ∈ wsX30, w ∈ wsX3_write := by decide +kernel
  have hS : va_S (mA g) s.heap s.heap [] := va_S.rf
  have hD : va_D (mA g) (rW g cI cZ cB acc lm rm (mF N am T wk ou) y) := mlD hok
  have hl := lv_entry ([.ref (g 0), .int (p0)]) (n := 6) (Nat.le_of_ble_eq_true rfl)
  rw [lg_entry_eq]
  generalize (lg_sl ([.ref (g 0), .int (p0)]) ++ List.replicate (6 - (lg_sl ([.ref (g 0), .int (p0)])).length) Slot.unset).toArray = ls at hl ⊢
  have hl : lv_has ls 6 [(0, .ref (g 0)), (1, .int (p0))] := hl
  refine lv_aload_n hx hb dX3_write_0 rfl (lv_at hl 0 rfl) ?_
  refine lv_iconst (v := 0) hx hb dX3_write_1 (by decide) ?_
  refine va_put (D := D) (ci := 3) (v := .int ((0 : Int32))) (ty := .int) (C := RX3) (T := TX3) (N := 18) hx hb hts hi3 tyX3 tyX3_ok nmX3 hown hK hP hD hS 0 (wl_at (by omega)) rfl 0 (by decide) (hts (.fieldLink RX3 1 "BigLedgerModel" "thrown" "I") (by decide +kernel)) (fun _ h9 => h9) rfl (by decide +kernel) (rfl) (rfl) (Nat.le_of_ble_eq_true rfl) dX3_write_2 (fun H locs hP hD hS => ?_)
  have hP : va_P D vwCl (rW g cI cZ cB acc lm rm (mF N am T wk ou) (va_up y 0 (0 : Int32))) H := cv (ms_f 0 (0 : Int32) (by decide)) hP
  have hD : va_D (mA g) (rW g cI cZ cB acc lm rm (mF N am T wk ou) (va_up y 0 (0 : Int32))) := mlD hok
  refine lv_aload_n hx hb dX3_write_5 rfl (lv_at hl 0 rfl) ?_
  refine va_get (D := D) (ci := 3) (v := .int ((va_up y 0 (0 : Int32)) 1)) (C := RX3) (T := TX3) (N := 18) hx hb hts hi3 hown hK hP 0 (wl_at (by omega)) rfl 11 (by decide) (hts (.fieldLink RX3 52 "BigLedgerModel" "up" "Z") (by decide +kernel)) (fun _ h9 => h9) rfl dX3_write_6 ?_
  refine lv_if_eq (tgt := 20) hx hb dX3_write_9 (by decide) (fun c0 => ?_) (fun c0 => ?_)
  · refine lv_iconst (v := (-1)) hx hb dX3_write_20 (by decide) ?_
    exact W.iret (v := -1) hx hb hr (fun t ht hW => ⟨⟨_, ((setY (N, am, T, y) 0 0), wk, ou), rfl, mWt_no (Or.inl c0), hp_at ht hP⟩, hS.F ht⟩) hS.2.2 dX3_write_21
  · refine lv_aload_n hx hb dX3_write_12 rfl (lv_at hl 0 rfl) ?_
    refine lv_iload_n hx hb dX3_write_13 rfl (lv_at hl 1 rfl) ?_
    refine vp_callSi (W.runV (As := [.int (p0)]) (rest := []) ⟨hx, hb, hml, hown, hts⟩ (m_no l D g cI cZ cB acc lm rm N am T wk ou (va_up y 0 0) hok hacc p0) (cwV 1 hts gX3_write_X3_no rfl rfl rfl (by decide +kernel) ⟨Nat.le_of_ble_eq_true rfl, Nat.le_of_ble_eq_true rfl⟩) ⟨nPc_blind, va_recv hK hP (ci := 3) (q0 := 0) rfl (wl_at (by omega)), nPc_use (hP) hK⟩ rfl rfl hl.1 rfl (lv_room (Nat.le_of_ble_eq_true rfl)) dX3_write_14 ⟨Nat.le_of_ble_eq_true rfl, Nat.le_of_ble_eq_true rfl⟩) (fun ra hra => ?_)
    refine lv_if_eq (tgt := 22) hx hb dX3_write_17 (by decide) (fun c1 => ?_) (fun c1 => ?_)
    · have ha : isAcc acc p0 = true := Classical.byContradiction (fun q => absurd (c1.symm.trans (hra.trans (if_neg q))) (by decide))
      obtain ⟨b, hqb, rfl⟩ := isAcc_t (by omega) ha
      have eb : (nI b).toNatClampNeg = b := nI_clamp (by omega)
      obtain ⟨v, hv⟩ : ∃ v, v = N 0 b := ⟨_, rfl⟩
      have hvb : v < 2147483648 ^ lm := by rw [hv]; exact hbal b hqb
      have hv22 : v < 2147483648 ^ 22 := Nat.lt_of_lt_of_le hvb (Nat.pow_le_pow_right (by decide) (by omega))
      have lpr : ∀ (m0 i nn : Nat) (wv : Nat → Int32) (H : Heap) (locs : List Loc) (ls : Array Slot), nn ≤ i + m0 → i ≤ nn - 1 → isNd v nn → nn ≤ 300 → va_P D vwCl (rW g cI cZ cB acc lm rm (mF N am T wv (rvF v nn ou i)) (va_up y 0 0)) H → va_S (mA g) s.heap H locs → lv_has ls 6 [(3, .int (nI i)), (4, .int (nI (nn - 1 - i))), (0, .ref (g 0)), (2, .int (nI nn))] → W p l e (headSpec wsX3_write ({ frames := 1, cells := 0, slots := 0, locals := 22 })).room s m ([.ref (g 0), .int (nI b)]).toArray below meth c H locs 0 0 (MQ below (va_Qi (fun (r : Int32) (u : MX) => mWt acc (nI b) (N, am, T, y) wk ou r u) (fun u t => va_P D vwCl (rW g cI cZ cB acc lm rm (mF u.1.1 u.1.2.1 u.1.2.2.1 u.2.1 u.2.2) u.1.2.2.2) t.heap) (mA g)) ([.ref (g 0), .int (nI b)]).toArray s 0 0 (mA g)) (F0 m 140 ls []) := by
        intro m0
        induction m0 with
        | zero => intro i nn wv H locs ls h1 h2 h3; exact absurd h3.1 (by omega)
        | succ m0 ih =>
          intro i nn wv H locs ls h1 h2 hnd h4 hP hS hl
          have hD : va_D (mA g) (rW g cI cZ cB acc lm rm (mF N am T wv (rvF v nn ou i)) (va_up y 0 0)) := mlD hok
          have hnn := hnd.1
          refine lv_iload_n hx hb dX3_write_140 rfl (lv_at hl 0 rfl) ?_
          refine lv_iload hx hb dX3_write_141 (lv_at hl 1 rfl) ?_
          refine lv_icmp_ge (tgt := 185) hx hb dX3_write_143 (by decide) (fun c2 => ?_) (fun c2 => ?_)
          · have c3 : nn - 1 - i ≤ i := (nI_leI (by omega) (by omega)).mp c2
            rw [rvF_end c3] at hP
            have hD : va_D (mA g) (rW g cI cZ cB acc lm rm (mF N am T wv (rvO v nn ou)) (va_up y 0 0)) := mlD hok
            refine lv_aload_n hx hb dX3_write_185 rfl (lv_at hl 2 rfl) ?_
            refine lv_iload_n hx hb dX3_write_186 rfl (lv_at hl 3 rfl) ?_
            refine va_put (D := D) (ci := 3) (v := .int (nI nn)) (ty := .int) (C := RX3) (T := TX3) (N := 18) hx hb hts hi3 tyX3 tyX3_ok nmX3 hown hK hP hD hS 0 (wl_at (by omega)) rfl 17 (by decide) (hts (.fieldLink RX3 115 "BigLedgerModel" "outMany" "I") (by decide +kernel)) (fun _ h9 => h9) rfl (by decide +kernel) (rfl) (rfl) (Nat.le_of_ble_eq_true rfl) dX3_write_187 (fun H locs hP hD hS => ?_)
            have hP : va_P D vwCl (rW g cI cZ cB acc lm rm (mF N am T wv (rvO v nn ou)) (va_up (va_up y 0 0) 6 (nI nn))) H := cv (ms_f 6 (nI nn) (by decide)) hP
            have hD : va_D (mA g) (rW g cI cZ cB acc lm rm (mF N am T wv (rvO v nn ou)) (va_up (va_up y 0 0) 6 (nI nn))) := mlD hok
            refine lv_iload_n hx hb dX3_write_190 rfl (lv_at hl 3 rfl) ?_
            exact W.iret (v := nI nn) hx hb hr (fun t ht hW => ⟨⟨_, (setY (setY (N, am, T, y) 0 0) 6 (nI nn), wv, rvO v nn ou), rfl, by subst hv; exact mWt_yes c0 ha eb hnd, hp_at ht hP⟩, hS.F ht⟩) hS.2.2 dX3_write_191
          · have c3 : i < nn - 1 - i := Nat.lt_of_not_le (fun q => c2 ((nI_leI (by omega) (by omega)).mpr q))
            refine lv_aload_n hx hb dX3_write_146 rfl (lv_at hl 2 rfl) ?_
            refine va_get (D := D) (ci := 3) (v := .ref (g 8)) (C := RX3) (T := TX3) (N := 18) hx hb hts hi3 hown hK hP 0 (wl_at (by omega)) rfl 16 (by decide) (hts (.fieldLink RX3 39 "BigLedgerModel" "out" "[B") (by decide +kernel)) (fun _ h9 => h9) rfl dX3_write_147 ?_
            refine lv_iload_n hx hb dX3_write_150 rfl (lv_at hl 0 rfl) ?_
            refine va_bald hx hb hK hP 8 2 (wl_at (by omega)) rfl (vp_in_nI (by omega) (by omega)) dX3_write_151 ?_
            refine lv_topi (fun y102 ey102 => ?_)
            replace ey102 : y102 = dgI v i := ey102.trans (by rw [nI_clamp (by omega)]; exact rvF_mid (by omega) (by omega) (by omega))
            subst ey102
            refine lv_istore (lv' := [(5, .int (dgI v i)), (3, .int (nI i)), (4, .int (nI (nn - 1 - i))), (0, .ref (g 0)), (2, .int (nI nn))]) hx hb dX3_write_152 hl (by decide) rfl (fun ls hl => ?_)
            refine lv_aload_n hx hb dX3_write_154 rfl (lv_at hl 3 rfl) ?_
            refine va_get (D := D) (ci := 3) (v := .ref (g 8)) (C := RX3) (T := TX3) (N := 18) hx hb hts hi3 hown hK hP 0 (wl_at (by omega)) rfl 16 (by decide) (hts (.fieldLink RX3 39 "BigLedgerModel" "out" "[B") (by decide +kernel)) (fun _ h9 => h9) rfl dX3_write_155 ?_
            refine lv_iload_n hx hb dX3_write_158 rfl (lv_at hl 1 rfl) ?_
            refine lv_aload_n hx hb dX3_write_159 rfl (lv_at hl 3 rfl) ?_
            refine va_get (D := D) (ci := 3) (v := .ref (g 8)) (C := RX3) (T := TX3) (N := 18) hx hb hts hi3 hown hK hP 0 (wl_at (by omega)) rfl 16 (by decide) (hts (.fieldLink RX3 39 "BigLedgerModel" "out" "[B") (by decide +kernel)) (fun _ h9 => h9) rfl dX3_write_160 ?_
            refine lv_iload hx hb dX3_write_163 (lv_at hl 2 rfl) ?_
            refine va_bald hx hb hK hP 8 2 (wl_at (by omega)) rfl (vp_in_nI (by omega) (by omega)) dX3_write_165 ?_
            refine lv_topi (fun y103 ey103 => ?_)
            replace ey103 : y103 = dgI v (nn - 1 - i) := ey103.trans (by rw [nI_clamp (by omega)]; exact rvF_mid (by omega) (by omega) (by omega))
            subst ey103
            refine va_bast hx hb hK hP hD hS 8 2 (wl_at (by omega)) rfl (vp_in_nI (by omega) (by omega)) dX3_write_166 (fun H locs hP hD hS => ?_)
            have hP : va_P D vwCl (rW g cI cZ cB acc lm rm (va_up (mF N am T wv (rvF v nn ou i)) 8 (upd ((mF N am T wv (rvF v nn ou i)) 8) (nI i).toNatClampNeg (vp_nar .byte (dgI v (nn - 1 - i))))) (va_up y 0 0)) H := cv (ms_a8 (upd ((mF N am T wv (rvF v nn ou i)) 8) (nI i).toNatClampNeg (vp_nar .byte (dgI v (nn - 1 - i))))) hP
            have hD : va_D (mA g) (rW g cI cZ cB acc lm rm (va_up (mF N am T wv (rvF v nn ou i)) 8 (upd ((mF N am T wv (rvF v nn ou i)) 8) (nI i).toNatClampNeg (vp_nar .byte (dgI v (nn - 1 - i))))) (va_up y 0 0)) := mlD hok
            refine lv_aload_n hx hb dX3_write_167 rfl (lv_at hl 3 rfl) ?_
            refine va_get (D := D) (ci := 3) (v := .ref (g 8)) (C := RX3) (T := TX3) (N := 18) hx hb hts hi3 hown hK hP 0 (wl_at (by omega)) rfl 16 (by decide) (hts (.fieldLink RX3 39 "BigLedgerModel" "out" "[B") (by decide +kernel)) (fun _ h9 => h9) rfl dX3_write_168 ?_
            refine lv_iload hx hb dX3_write_171 (lv_at hl 2 rfl) ?_
            refine lv_iload hx hb dX3_write_173 (lv_at hl 0 rfl) ?_
            refine va_bast hx hb hK hP hD hS 8 2 (wl_at (by omega)) rfl (vp_in_nI (by omega) (by omega)) dX3_write_175 (fun H locs hP hD hS => ?_)
            have hP : va_P D vwCl (rW g cI cZ cB acc lm rm (va_up (va_up (mF N am T wv (rvF v nn ou i)) 8 (upd ((mF N am T wv (rvF v nn ou i)) 8) (nI i).toNatClampNeg (vp_nar .byte (dgI v (nn - 1 - i))))) 8 (upd ((va_up (mF N am T wv (rvF v nn ou i)) 8 (upd ((mF N am T wv (rvF v nn ou i)) 8) (nI i).toNatClampNeg (vp_nar .byte (dgI v (nn - 1 - i))))) 8) (nI (nn - 1 - i)).toNatClampNeg (vp_nar .byte (dgI v i)))) (va_up y 0 0)) H := cv (ms_a8 (upd ((va_up (mF N am T wv (rvF v nn ou i)) 8 (upd ((mF N am T wv (rvF v nn ou i)) 8) (nI i).toNatClampNeg (vp_nar .byte (dgI v (nn - 1 - i))))) 8) (nI (nn - 1 - i)).toNatClampNeg (vp_nar .byte (dgI v i)))) hP
            have hD : va_D (mA g) (rW g cI cZ cB acc lm rm (va_up (va_up (mF N am T wv (rvF v nn ou i)) 8 (upd ((mF N am T wv (rvF v nn ou i)) 8) (nI i).toNatClampNeg (vp_nar .byte (dgI v (nn - 1 - i))))) 8 (upd ((va_up (mF N am T wv (rvF v nn ou i)) 8 (upd ((mF N am T wv (rvF v nn ou i)) 8) (nI i).toNatClampNeg (vp_nar .byte (dgI v (nn - 1 - i))))) 8) (nI (nn - 1 - i)).toNatClampNeg (vp_nar .byte (dgI v i)))) (va_up y 0 0)) := mlD hok
            have hP : va_P D vwCl (rW g cI cZ cB acc lm rm (mF N am T wv (rvF v nn ou (i + 1))) (va_up y 0 0)) H := rW_congr hP (fun q9 h1 h2 j hj => by
              match q9 with
              | 1 => rfl
              | 2 => rfl
              | 3 => rfl
              | 4 => rfl
              | 5 => rfl
              | 6 => rfl
              | 7 => rfl
              | 8 =>
                show upd (upd (rvF v nn ou i) (nI i).toNatClampNeg (vp_nar .byte (dgI v (nn - 1 - i)))) (nI (nn - 1 - i)).toNatClampNeg (vp_nar .byte (dgI v i)) j = rvF v nn ou (i + 1) j
                rw [nI_clamp (by omega), nI_clamp (by omega), nar_dg, nar_dg, rvF_s c3]
              | 0 => omega
              | q9 + 9 => omega)
            have hD : va_D (mA g) (rW g cI cZ cB acc lm rm (mF N am T wv (rvF v nn ou (i + 1))) (va_up y 0 0)) := mlD hok
            refine lv_iinc (v := nI (i + 1)) (lv' := [(3, .int (nI (i + 1))), (5, .int (dgI v i)), (4, .int (nI (nn - 1 - i))), (0, .ref (g 0)), (2, .int (nI nn))]) hx hb dX3_write_176 hl (k := 1) rfl (nI_1 i) (by decide) rfl (fun ls hl => ?_)
            refine lv_iinc (v := nI (nn - 1 - (i + 1))) (lv' := [(4, .int (nI (nn - 1 - (i + 1)))), (3, .int (nI (i + 1))), (5, .int (dgI v i)), (0, .ref (g 0)), (2, .int (nI nn))]) hx hb dX3_write_179 hl (k := 2) rfl ((i_m1 _).trans ((pk_sub (a := nn - 1 - i) (b := 1) (by omega)).trans (congrArg nI (by omega)))) (by decide) rfl (fun ls hl => ?_)
            refine lv_goto (tgt := 140) hx hb dX3_write_182 (by decide) ?_
            exact ih (i + 1) nn wv H locs ls (by omega) (by omega) hnd h4 hP hS (lv_sub hl [1, 0, 3, 4] rfl)
      have lpd : ∀ (m0 i : Nat) (wv : Nat → Int32) (H : Heap) (locs : List Loc) (ls : Array Slot), i + m0 = 200 → (∀ k, k < 22 → wv k = lb (v / 10 ^ i) k) → (∀ j, 1 ≤ j → j ≤ i → v / 10 ^ j ≠ 0) → va_P D vwCl (rW g cI cZ cB acc lm rm (mF N am T wv (fl (dgI v) ou i)) (va_up y 0 0)) H → va_S (mA g) s.heap H locs → lv_has ls 6 [(2, .int (nI i)), (0, .ref (g 0))] → W p l e (headSpec wsX3_write ({ frames := 1, cells := 0, slots := 0, locals := 22 })).room s m ([.ref (g 0), .int (nI b)]).toArray below meth c H locs 0 0 (MQ below (va_Qi (fun (r : Int32) (u : MX) => mWt acc (nI b) (N, am, T, y) wk ou r u) (fun u t => va_P D vwCl (rW g cI cZ cB acc lm rm (mF u.1.1 u.1.2.1 u.1.2.2.1 u.2.1 u.2.2) u.1.2.2.2) t.heap) (mA g)) ([.ref (g 0), .int (nI b)]).toArray s 0 0 (mA g)) (F0 m 55 ls []) := by
        intro m0
        induction m0 with
        | zero =>
          intro i wv H locs ls hin hwv hnz
          exact absurd (show v / 10 ^ 200 = 0 from dec200 hvb hlm2) (by have := hnz i (by omega) (Nat.le_refl _); rwa [show i = 200 by omega] at this)
        | succ m0 ih =>
          intro i wv H locs ls hin hwv hnz hP hS hl
          have hD : va_D (mA g) (rW g cI cZ cB acc lm rm (mF N am T wv (fl (dgI v) ou i)) (va_up y 0 0)) := mlD hok
          obtain ⟨q, hq⟩ : ∃ q, q = v / 10 ^ i := ⟨_, rfl⟩
          rw [← hq] at hwv
          have hq22 : q < 2147483648 ^ 22 := by rw [hq]; exact Nat.lt_of_le_of_lt (Nat.div_le_self _ _) hv22
          have hq10 : q / 10 = v / 10 ^ (i + 1) := by rw [hq]; exact dec_step v i
          refine lv_lconst (v := 0) hx hb dX3_write_55 (by decide) ?_
          refine lv_lstore_n (lv' := [(3, .long ((0 : Int64))), (2, .int (nI i)), (0, .ref (g 0))]) hx hb dX3_write_56 rfl hl (by decide) rfl (fun ls hl => ?_)
          refine lv_bipush (v := 21) hx hb dX3_write_57 (by decide) ?_
          refine lv_istore (lv' := [(5, .int ((21 : Int32))), (3, .long ((0 : Int64))), (2, .int (nI i)), (0, .ref (g 0))]) hx hb dX3_write_59 hl (by decide) rfl (fun ls hl => ?_)
          have lpi : ∀ (k : Nat) (H : Heap) (locs : List Loc) (ls : Array Slot), k ≤ 22 → va_P D vwCl (rW g cI cZ cB acc lm rm (mF N am T (fm (lb (q / 10)) wv 22 k) (fl (dgI v) ou i)) (va_up y 0 0)) H → va_S (mA g) s.heap H locs → lv_has ls 6 [(5, .int (nI k - 1)), (3, .long (lN (rmD q 10 k))), (2, .int (nI i)), (0, .ref (g 0))] → W p l e (headSpec wsX3_write ({ frames := 1, cells := 0, slots := 0, locals := 22 })).room s m ([.ref (g 0), .int (nI b)]).toArray below meth c H locs 0 0 (MQ below (va_Qi (fun (r : Int32) (u : MX) => mWt acc (nI b) (N, am, T, y) wk ou r u) (fun u t => va_P D vwCl (rW g cI cZ cB acc lm rm (mF u.1.1 u.1.2.1 u.1.2.2.1 u.2.1 u.2.2) u.1.2.2.2) t.heap) (mA g)) ([.ref (g 0), .int (nI b)]).toArray s 0 0 (mA g)) (F0 m 61 ls []) := by
            intro k
            induction k with
            | zero =>
              intro H locs ls hkw hP hS hl
              have hD : va_D (mA g) (rW g cI cZ cB acc lm rm (mF N am T (fm (lb (q / 10)) wv 22 0) (fl (dgI v) ou i)) (va_up y 0 0)) := mlD hok
              refine lv_iload hx hb dX3_write_61 (lv_at hl 0 rfl) ?_
              refine lv_if_lt (tgt := 106) hx hb dX3_write_63 (by decide) (fun _ => ?_) (fun c9 => absurd (by decide) c9)
              refine lv_aload_n hx hb dX3_write_106 rfl (lv_at hl 3 rfl) ?_
              refine va_get (D := D) (ci := 3) (v := .ref (g 8)) (C := RX3) (T := TX3) (N := 18) hx hb hts hi3 hown hK hP 0 (wl_at (by omega)) rfl 16 (by decide) (hts (.fieldLink RX3 39 "BigLedgerModel" "out" "[B") (by decide +kernel)) (fun _ h9 => h9) rfl dX3_write_107 ?_
              refine lv_iload_n hx hb dX3_write_110 rfl (lv_at hl 2 rfl) ?_
              refine lv_ldc2 (v := 48) hx hb hown (hts (.constantLong RX3 113 (48)) (by decide +kernel)) dX3_write_111 ?_
              refine lv_lload_n hx hb dX3_write_114 rfl (lv_at hl 1 rfl) ?_
              refine lv_ladd hx hb dX3_write_115 ?_
              refine lv_topl (fun y104 ey104 => ?_)
              replace ey104 : y104 = lN (48 + v / 10 ^ i % 10) := ey104.trans (by rw [rmD_0, hq]; exact lN_add 48 _)
              subst ey104
              refine lv_l2i (v := nI (48 + v / 10 ^ i % 10)) hx hb dX3_write_116 (lN_i _) ?_
              refine lv_i2b (v := nI (48 + v / 10 ^ i % 10)) hx hb dX3_write_117 (dg_byte v i) ?_
              refine va_bast hx hb hK hP hD hS 8 2 (wl_at (by omega)) rfl (vp_in_nI (by omega) (by omega)) dX3_write_118 (fun H locs hP hD hS => ?_)
              have hP : va_P D vwCl (rW g cI cZ cB acc lm rm (va_up (mF N am T (fm (lb (q / 10)) wv 22 0) (fl (dgI v) ou i)) 8 (upd ((mF N am T (fm (lb (q / 10)) wv 22 0) (fl (dgI v) ou i)) 8) (nI i).toNatClampNeg (vp_nar .byte (nI (48 + v / 10 ^ i % 10))))) (va_up y 0 0)) H := cv (ms_a8 (upd ((mF N am T (fm (lb (q / 10)) wv 22 0) (fl (dgI v) ou i)) 8) (nI i).toNatClampNeg (vp_nar .byte (nI (48 + v / 10 ^ i % 10))))) hP
              have hD : va_D (mA g) (rW g cI cZ cB acc lm rm (va_up (mF N am T (fm (lb (q / 10)) wv 22 0) (fl (dgI v) ou i)) 8 (upd ((mF N am T (fm (lb (q / 10)) wv 22 0) (fl (dgI v) ou i)) 8) (nI i).toNatClampNeg (vp_nar .byte (nI (48 + v / 10 ^ i % 10))))) (va_up y 0 0)) := mlD hok
              have hP : va_P D vwCl (rW g cI cZ cB acc lm rm (mF N am T (fm (lb (q / 10)) wv 22 0) (fl (dgI v) ou (i + 1))) (va_up y 0 0)) H := rW_congr hP (fun q9 h1 h2 j hj => by
                match q9 with
                | 1 => rfl
                | 2 => rfl
                | 3 => rfl
                | 4 => rfl
                | 5 => rfl
                | 6 => rfl
                | 7 => rfl
                | 8 =>
                  show upd (fl (dgI v) ou i) (nI i).toNatClampNeg (vp_nar .byte (nI (48 + v / 10 ^ i % 10))) j = fl (dgI v) ou (i + 1) j
                  rw [nI_clamp (by omega), dg_nar, fl_s rfl]
                | 0 => omega
                | q9 + 9 => omega)
              have hD : va_D (mA g) (rW g cI cZ cB acc lm rm (mF N am T (fm (lb (q / 10)) wv 22 0) (fl (dgI v) ou (i + 1))) (va_up y 0 0)) := mlD hok
              refine lv_iinc (v := nI (i + 1)) (lv' := [(2, .int (nI (i + 1))), (5, .int (nI 0 - 1)), (3, .long (lN (rmD q 10 0))), (0, .ref (g 0))]) hx hb dX3_write_119 hl (k := 2) rfl (nI_1 i) (by decide) rfl (fun ls hl => ?_)
              refine lv_aload_n hx hb dX3_write_122 rfl (lv_at hl 3 rfl) ?_
              refine va_get (D := D) (ci := 3) (v := .ref (g 5)) (C := RX3) (T := TX3) (N := 18) hx hb hts hi3 hown hK hP 0 (wl_at (by omega)) rfl 8 (by decide) (hts (.fieldLink RX3 26 "BigLedgerModel" "work" "[I") (by decide +kernel)) (fun _ h9 => h9) rfl dX3_write_123 ?_
              refine lv_iconst (v := 0) hx hb dX3_write_126 (by decide) ?_
              have hn1 := vp_cons (hP _ _ (wl_at (i := 5) (by omega))) vp_nil
              refine vp_callSi (W.runS (As := [.ref (g 5), .int ((0 : Int32))]) (rest := []) ⟨hx, hb, hml, hown, hts⟩ (m_size l D cI (g 5) 44 0 (q / 10) (fm (lb (q / 10)) wv 22 0) (by omega) (by omega) (fun k hk => by rw [Nat.zero_add]; exact fm_in hk)) (va_cwS 2 hts gX3_write_X3_size rfl rfl rfl (by decide +kernel) ⟨Nat.le_of_ble_eq_true rfl, Nat.le_of_ble_eq_true rfl⟩) ⟨nPc_blind, nPc_use (hn1) (hK.sub [0] rfl)⟩ rfl rfl hl.1 rfl (lv_room (Nat.le_of_ble_eq_true rfl)) dX3_write_127 ⟨Nat.le_of_ble_eq_true rfl, Nat.le_of_ble_eq_true rfl⟩) (fun rz hrz => ?_)
              have hqq : q / 10 < 2147483648 ^ 22 := Nat.lt_of_le_of_lt (Nat.div_le_self _ _) hq22
              have hrz2 : rz ≤ 0 ↔ q / 10 = 0 := by rw [hrz]; exact szF_pos hqq (by decide)
              refine lv_if_gt (tgt := 55) hx hb dX3_write_130 (by decide) (fun c3 => ?_) (fun c3 => ?_)
              · have hne : ¬ q / 10 = 0 := fun q9 => (fa_of_lt c3).2.1 (hrz2.mpr q9)
                exact ih (i + 1) (fm (lb (q / 10)) wv 22 0) H locs ls (by omega) (fun k hk => by rw [← hq10]; exact fm_in hk) (fun j h1 h2 => by
                  rcases Nat.lt_or_ge j (i + 1) with q9 | q9
                  · exact hnz j h1 (by omega)
                  · rw [show j = i + 1 by omega, ← hq10]; exact hne) hP hS (lv_sub hl [0, 3] rfl)
              · have hz9 : q / 10 = 0 := hrz2.mp (fa_of_nlt c3)
                have hnd : isNd v (i + 1) := ⟨by omega, by rw [← hq10]; exact hz9, fun j h1 h2 => hnz j h1 (by omega)⟩
                refine lv_iconst (v := 0) hx hb dX3_write_133 (by decide) ?_
                refine lv_istore_n (lv' := [(3, .int ((0 : Int32))), (2, .int (nI (i + 1))), (5, .int (nI 0 - 1)), (0, .ref (g 0))]) hx hb dX3_write_134 rfl hl (by decide) rfl (fun ls hl => ?_)
                refine lv_iload_n hx hb dX3_write_135 rfl (lv_at hl 1 rfl) ?_
                refine lv_iconst (v := 1) hx hb dX3_write_136 (by decide) ?_
                refine lv_isub hx hb dX3_write_137 ?_
                refine lv_topi (fun y105 ey105 => ?_)
                replace ey105 : y105 = nI (i + 1 - 1 - 0) := ey105.trans ((pk_sub (a := i + 1) (b := 1) (by omega)).trans rfl)
                subst ey105
                refine lv_istore (lv' := [(4, .int (nI (i + 1 - 1 - 0))), (3, .int ((0 : Int32))), (2, .int (nI (i + 1))), (5, .int (nI 0 - 1)), (0, .ref (g 0))]) hx hb dX3_write_138 hl (by decide) rfl (fun ls hl => ?_)
                exact lpr (i + 2) 0 (i + 1) (fm (lb (q / 10)) wv 22 0) H locs ls (by omega) (by omega) hnd (by omega) (by rw [rvF_0]; exact hP) hS (lv_sub hl [1, 0, 4, 2] rfl)
            | succ k ihk =>
              intro H locs ls hkw hP hS hl
              rw [nI_pred] at hl
              have hD : va_D (mA g) (rW g cI cZ cB acc lm rm (mF N am T (fm (lb (q / 10)) wv 22 (k + 1)) (fl (dgI v) ou i)) (va_up y 0 0)) := mlD hok
              have hs1 := rmD_lt q (k + 1) (q := 10) (by decide)
              have hs2 := lbN_lt q k
              have hs3 : rmD q 10 (k + 1) * 2147483648 + lbN q k < 2 ^ 63 := by omega
              refine lv_iload hx hb dX3_write_61 (lv_at hl 0 rfl) ?_
              refine lv_if_lt (tgt := 106) hx hb dX3_write_63 (by decide) (fun c9 => absurd c9 (nI_pos (by omega))) (fun _ => ?_)
              refine lv_lload_n hx hb dX3_write_66 rfl (lv_at hl 1 rfl) ?_
              refine lv_ldc2 (v := (lN 2147483648)) hx hb hown (hts (.constantLong RX3 86 ((lN 2147483648))) (by decide +kernel)) dX3_write_67 ?_
              refine lv_lmul hx hb dX3_write_70 ?_
              refine lv_topl (fun y106 ey106 => ?_)
              replace ey106 : y106 = lN (rmD q 10 (k + 1) * 2147483648) := ey106.trans (lN_mul _ _)
              subst ey106
              refine lv_aload_n hx hb dX3_write_71 rfl (lv_at hl 3 rfl) ?_
              refine va_get (D := D) (ci := 3) (v := .ref (g 5)) (C := RX3) (T := TX3) (N := 18) hx hb hts hi3 hown hK hP 0 (wl_at (by omega)) rfl 8 (by decide) (hts (.fieldLink RX3 26 "BigLedgerModel" "work" "[I") (by decide +kernel)) (fun _ h9 => h9) rfl dX3_write_72 ?_
              refine lv_iload hx hb dX3_write_75 (lv_at hl 0 rfl) ?_
              refine va_iald hx hb hK hP 5 0 (wl_at (by omega)) rfl (vp_in_nI (by omega) (by omega)) dX3_write_77 ?_
              refine lv_topi (fun y107 ey107 => ?_)
              replace ey107 : y107 = lb q k := ey107.trans (by rw [nI_clamp (by omega)]; exact (fm_lo (g := lb (q / 10)) (f := wv) (n := 22) (i := k + 1) (k := k) (by omega)).trans (hwv k (by omega)))
              subst ey107
              refine lv_i2l (v := lN (lbN q k)) hx hb dX3_write_78 (lb_l q k) ?_
              refine lv_ladd hx hb dX3_write_79 ?_
              refine lv_topl (fun y108 ey108 => ?_)
              replace ey108 : y108 = lN (rmD q 10 (k + 1) * 2147483648 + lbN q k) := ey108.trans (lN_add _ _)
              subst ey108
              refine lv_lstore_n (lv' := [(3, .long (lN (rmD q 10 (k + 1) * 2147483648 + lbN q k))), (5, .int (nI k)), (2, .int (nI i)), (0, .ref (g 0))]) hx hb dX3_write_80 rfl hl (by decide) rfl (fun ls hl => ?_)
              refine lv_aload_n hx hb dX3_write_81 rfl (lv_at hl 3 rfl) ?_
              refine va_get (D := D) (ci := 3) (v := .ref (g 5)) (C := RX3) (T := TX3) (N := 18) hx hb hts hi3 hown hK hP 0 (wl_at (by omega)) rfl 8 (by decide) (hts (.fieldLink RX3 26 "BigLedgerModel" "work" "[I") (by decide +kernel)) (fun _ h9 => h9) rfl dX3_write_82 ?_
              refine lv_iload hx hb dX3_write_85 (lv_at hl 1 rfl) ?_
              refine lv_lload_n hx hb dX3_write_87 rfl (lv_at hl 0 rfl) ?_
              refine lv_ldc2 (v := (lN 10)) hx hb hown (hts (.constantLong RX3 111 ((lN 10))) (by decide +kernel)) dX3_write_88 ?_
              refine lv_ldiv hx hb dX3_write_91 (by decide) ?_
              refine lv_topl (fun y109 ey109 => ?_)
              replace ey109 : y109 = lN (lbN (q / 10) k) := ey109.trans ((pk_lDiv hs3 (by decide) (by decide)).trans (congrArg lN (div_limb q k (by decide))))
              subst ey109
              refine lv_l2i (v := lb (q / 10) k) hx hb dX3_write_92 (lN_i _) ?_
              refine va_iast hx hb hK hP hD hS 5 0 (wl_at (by omega)) rfl (vp_in_nI (by omega) (by omega)) dX3_write_93 (fun H locs hP hD hS => ?_)
              have hP : va_P D vwCl (rW g cI cZ cB acc lm rm (va_up (mF N am T (fm (lb (q / 10)) wv 22 (k + 1)) (fl (dgI v) ou i)) 5 (upd ((mF N am T (fm (lb (q / 10)) wv 22 (k + 1)) (fl (dgI v) ou i)) 5) (nI k).toNatClampNeg (lb (q / 10) k))) (va_up y 0 0)) H := cv (ms_a5 (upd ((mF N am T (fm (lb (q / 10)) wv 22 (k + 1)) (fl (dgI v) ou i)) 5) (nI k).toNatClampNeg (lb (q / 10) k))) hP
              have hD : va_D (mA g) (rW g cI cZ cB acc lm rm (va_up (mF N am T (fm (lb (q / 10)) wv 22 (k + 1)) (fl (dgI v) ou i)) 5 (upd ((mF N am T (fm (lb (q / 10)) wv 22 (k + 1)) (fl (dgI v) ou i)) 5) (nI k).toNatClampNeg (lb (q / 10) k))) (va_up y 0 0)) := mlD hok
              have hP : va_P D vwCl (rW g cI cZ cB acc lm rm (mF N am T (fm (lb (q / 10)) wv 22 k) (fl (dgI v) ou i)) (va_up y 0 0)) H := rW_congr hP (fun q9 h1 h2 j hj => by
                match q9 with
                | 1 => rfl
                | 2 => rfl
                | 3 => rfl
                | 4 => rfl
                | 5 =>
                  show upd (fm (lb (q / 10)) wv 22 (k + 1)) (nI k).toNatClampNeg (lb (q / 10) k) j = fm (lb (q / 10)) wv 22 k j
                  rw [nI_clamp (by omega), fm_s rfl (by omega)]
                | 6 => rfl
                | 7 => rfl
                | 8 => rfl
                | 0 => omega
                | q9 + 9 => omega)
              have hD : va_D (mA g) (rW g cI cZ cB acc lm rm (mF N am T (fm (lb (q / 10)) wv 22 k) (fl (dgI v) ou i)) (va_up y 0 0)) := mlD hok
              refine lv_lload_n hx hb dX3_write_94 rfl (lv_at hl 0 rfl) ?_
              refine lv_ldc2 (v := (lN 10)) hx hb hown (hts (.constantLong RX3 111 ((lN 10))) (by decide +kernel)) dX3_write_95 ?_
              refine lv_lrem hx hb dX3_write_98 (by decide) ?_
              refine lv_topl (fun y110 ey110 => ?_)
              replace ey110 : y110 = lN (rmD q 10 k) := ey110.trans ((pk_lRem hs3 (by decide) (by decide)).trans (congrArg lN (div_rem q 10 k)))
              subst ey110
              refine lv_lstore_n (lv' := [(3, .long (lN (rmD q 10 k))), (5, .int (nI k)), (2, .int (nI i)), (0, .ref (g 0))]) hx hb dX3_write_99 rfl hl (by decide) rfl (fun ls hl => ?_)
              refine lv_iinc (v := nI k - 1) (lv' := [(5, .int (nI k - 1)), (3, .long (lN (rmD q 10 k))), (2, .int (nI i)), (0, .ref (g 0))]) hx hb dX3_write_100 hl (k := 1) rfl (i_m1 _) (by decide) rfl (fun ls hl => ?_)
              refine lv_goto (tgt := 61) hx hb dX3_write_103 (by decide) ?_
              exact ihk H locs ls (by omega) hP hS (lv_sub hl [0, 1, 2, 3] rfl)
          have hP22 : va_P D vwCl (rW g cI cZ cB acc lm rm (mF N am T (fm (lb (q / 10)) wv 22 22) (fl (dgI v) ou i)) (va_up y 0 0)) H := by rw [fm_top]; exact hP
          exact lpi 22 H locs ls (Nat.le_refl _) hP22 hS (by rw [rmD_top hq22]; exact (lv_sub hl [0, 1, 2, 3] rfl))
      refine lv_iconst (v := 0) hx hb dX3_write_22 (by decide) ?_
      refine lv_istore_n (lv' := [(2, .int ((0 : Int32))), (0, .ref (g 0)), (1, .int (nI b))]) hx hb dX3_write_23 rfl hl (by decide) rfl (fun ls hl => ?_)
      have lpw : ∀ (nlpw i : Nat) (H : Heap) (locs : List Loc) (ls : Array Slot), i + nlpw = 22 → va_P D vwCl (rW g cI cZ cB acc lm rm (mF N am T (fl (lb v) wk i) ou) (va_up y 0 0)) H → va_S (mA g) s.heap H locs → lv_has ls 6 [(2, .int (nI i)), (0, .ref (g 0)), (1, .int (nI b))] → W p l e (headSpec wsX3_write ({ frames := 1, cells := 0, slots := 0, locals := 22 })).room s m ([.ref (g 0), .int (nI b)]).toArray below meth c H locs 0 0 (MQ below (va_Qi (fun (r : Int32) (u : MX) => mWt acc (nI b) (N, am, T, y) wk ou r u) (fun u t => va_P D vwCl (rW g cI cZ cB acc lm rm (mF u.1.1 u.1.2.1 u.1.2.2.1 u.2.1 u.2.2) u.1.2.2.2) t.heap) (mA g)) ([.ref (g 0), .int (nI b)]).toArray s 0 0 (mA g)) (F0 m 24 ls []) := by
        intro nlpw
        induction nlpw with
        | zero =>
          intro i H locs ls hinlpw hP hS hl
          have hD : va_D (mA g) (rW g cI cZ cB acc lm rm (mF N am T (fl (lb v) wk i) ou) (va_up y 0 0)) := mlD hok
          refine lv_iload_n hx hb dX3_write_24 rfl (lv_at hl 0 rfl) ?_
          refine lv_bipush (v := 22) hx hb dX3_write_25 (by decide) ?_
          refine lv_icmp_ge (tgt := 53) hx hb dX3_write_27 (by decide) (fun _ => ?_) (fun c9 => absurd (nI_le (a := 22) (by omega) (by omega)) c9)
          refine lv_iconst (v := 0) hx hb dX3_write_53 (by decide) ?_
          refine lv_istore_n (lv' := [(2, .int ((0 : Int32))), (0, .ref (g 0)), (1, .int (nI b))]) hx hb dX3_write_54 rfl hl (by decide) rfl (fun ls hl => ?_)
          exact lpd 200 0 (fl (lb v) wk i) H locs ls rfl (fun k hk => by rw [Nat.pow_zero, Nat.div_one]; exact fl_lo (by omega)) (fun j h1 h2 => absurd h2 (by omega)) (by rw [fl_0 (dgI v) ou]; exact hP) hS (lv_sub hl [0, 1] rfl)
        | succ nlpw ihlpw =>
          intro i H locs ls hinlpw hP hS hl
          have hD : va_D (mA g) (rW g cI cZ cB acc lm rm (mF N am T (fl (lb v) wk i) ou) (va_up y 0 0)) := mlD hok
          have hiwlpw : i < 22 := by omega
          refine lv_iload_n hx hb dX3_write_24 rfl (lv_at hl 0 rfl) ?_
          refine lv_bipush (v := 22) hx hb dX3_write_25 (by decide) ?_
          refine lv_icmp_ge (tgt := 53) hx hb dX3_write_27 (by decide) (fun c9 => absurd c9 (nI_ge (b := 22) hiwlpw (by omega))) (fun _ => ?_)
          refine lv_aload_n hx hb dX3_write_30 rfl (lv_at hl 1 rfl) ?_
          refine va_get (D := D) (ci := 3) (v := .ref (g 5)) (C := RX3) (T := TX3) (N := 18) hx hb hts hi3 hown hK hP 0 (wl_at (by omega)) rfl 8 (by decide) (hts (.fieldLink RX3 26 "BigLedgerModel" "work" "[I") (by decide +kernel)) (fun _ h9 => h9) rfl dX3_write_31 ?_
          refine lv_iload_n hx hb dX3_write_34 rfl (lv_at hl 0 rfl) ?_
          refine lv_aload_n hx hb dX3_write_35 rfl (lv_at hl 1 rfl) ?_
          refine va_get (D := D) (ci := 3) (v := .ref (g 1)) (C := RX3) (T := TX3) (N := 18) hx hb hts hi3 hown hK hP 0 (wl_at (by omega)) rfl 4 (by decide) (hts (.fieldLink RX3 13 "BigLedgerModel" "now" "[I") (by decide +kernel)) (fun _ h9 => h9) rfl dX3_write_36 ?_
          refine lv_bipush (v := 22) hx hb dX3_write_39 (by decide) ?_
          refine lv_iload_n hx hb dX3_write_41 rfl (lv_at hl 2 rfl) ?_
          refine lv_imul hx hb dX3_write_42 ?_
          refine lv_topi (fun y111 ey111 => ?_)
          replace ey111 : y111 = nI (22 * b) := ey111.trans (pk_mul 22 b)
          subst ey111
          refine lv_iload_n hx hb dX3_write_43 rfl (lv_at hl 0 rfl) ?_
          refine lv_iadd hx hb dX3_write_44 ?_
          refine lv_topi (fun y112 ey112 => ?_)
          replace ey112 : y112 = nI (22 * b + i) := ey112.trans (nI_add _ _)
          subst ey112
          refine va_iald hx hb hK hP 1 0 (wl_at (by omega)) rfl (vp_in_nI (by omega) (by omega)) dX3_write_45 ?_
          refine lv_topi (fun y113 ey113 => ?_)
          replace ey113 : y113 = lb v i := ey113.trans (by rw [nI_clamp (by omega), hv]; exact rowF_at (N 0) hiwlpw)
          subst ey113
          refine va_iast hx hb hK hP hD hS 5 0 (wl_at (by omega)) rfl (vp_in_nI (by omega) (by omega)) dX3_write_46 (fun H locs hP hD hS => ?_)
          have hP : va_P D vwCl (rW g cI cZ cB acc lm rm (va_up (mF N am T (fl (lb v) wk i) ou) 5 (upd ((mF N am T (fl (lb v) wk i) ou) 5) (nI i).toNatClampNeg (lb v i))) (va_up y 0 0)) H := cv (ms_a5 (upd ((mF N am T (fl (lb v) wk i) ou) 5) (nI i).toNatClampNeg (lb v i))) hP
          have hD : va_D (mA g) (rW g cI cZ cB acc lm rm (va_up (mF N am T (fl (lb v) wk i) ou) 5 (upd ((mF N am T (fl (lb v) wk i) ou) 5) (nI i).toNatClampNeg (lb v i))) (va_up y 0 0)) := mlD hok
          have hP : va_P D vwCl (rW g cI cZ cB acc lm rm (mF N am T (fl (lb v) wk (i + 1)) ou) (va_up y 0 0)) H := rW_congr hP (fun q9 h1 h2 j hj => by
            match q9 with
            | 1 => rfl
            | 2 => rfl
            | 3 => rfl
            | 4 => rfl
            | 5 =>
              show upd (fl (lb v) wk i) (nI i).toNatClampNeg (lb v i) j = fl (lb v) wk (i + 1) j
              rw [nI_clamp (by omega), fl_s rfl]
            | 6 => rfl
            | 7 => rfl
            | 8 => rfl
            | 0 => omega
            | q9 + 9 => omega)
          have hD : va_D (mA g) (rW g cI cZ cB acc lm rm (mF N am T (fl (lb v) wk (i + 1)) ou) (va_up y 0 0)) := mlD hok
          refine lv_iinc (v := nI (i + 1)) (lv' := [(2, .int (nI (i + 1))), (0, .ref (g 0)), (1, .int (nI b))]) hx hb dX3_write_47 hl (k := 0) rfl (nI_1 i) (by decide) rfl (fun ls hl => ?_)
          refine lv_goto (tgt := 24) hx hb dX3_write_50 (by decide) ?_
          exact ihlpw (i + 1) H locs ls (by omega) hP hS hl
      have hP : va_P D vwCl (rW g cI cZ cB acc lm rm (mF N am T (fl (lb v) wk 0) ou) (va_up y 0 (0 : Int32))) H := rW_congr hP (fun q9 h1 h2 j hj => by
        match q9 with
        | 1 => rfl
        | 2 => rfl
        | 3 => rfl
        | 4 => rfl
        | 5 =>
          exact (congrFun (fl_0 (lb v) wk) j).symm
        | 6 => rfl
        | 7 => rfl
        | 8 => rfl
        | 0 => omega
        | q9 + 9 => omega)
      have hD : va_D (mA g) (rW g cI cZ cB acc lm rm (mF N am T (fl (lb v) wk 0) ou) (va_up y 0 (0 : Int32))) := mlD hok
      exact lpw 22 0 H locs ls rfl hP hS hl
    · have ha : ¬ isAcc acc p0 = true := fun q => c1 (hra.trans (if_pos q))
      refine lv_iconst (v := (-1)) hx hb dX3_write_20 (by decide) ?_
      exact W.iret (v := -1) hx hb hr (fun t ht hW => ⟨⟨_, ((setY (N, am, T, y) 0 0), wk, ou), rfl, mWt_no (Or.inr ha), hp_at ht hP⟩, hS.F ht⟩) hS.2.2 dX3_write_21

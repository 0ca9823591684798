set_option maxHeartbeats 4000000 in
set_option maxRecDepth 100000 in
theorem m_isGreat (l : Launch) (D : va_G) (g : Nat → Nat) (cI cZ cB : ClassId) (acc lm rm : Nat) (N : LN) (am : Nat) (T : BN) (wk ou y : Nat → Int32) (hok : mOk g) (hacc : acc ≤ 24) (hlm2 : lm ≤ 20) (a : Nat) (ha : a < 25) : Met l yX3_isGreat wsX3_isGreat ({ frames := 0, cells := 0, slots := 0, locals := 0 }) (nPc [.ref (g 0), .int (nI a)] D (rW g cI cZ cB acc lm rm (mF N am T wk ou) y) [(cI, .int), (cZ, .boolean), (cB, .byte)]) (vp_Si (fun r => r = if cyA (N 0 a) am lm = 0 then 0 else 1)) 0 0 (fun _ => False) := by
  refine Met.ofW (cc := cX3_isGreat) (maxL := 5) (ret := (some .boolean)) (by decide) rfl ?_
  intro p e s m args below meth c s₁ B hml hv
  obtain ⟨rfl, hP, hK⟩ := hv
  have hx := B.exec
  have hb := B.bytes
  have hr := B.returns
  have hts := atoms_spec (ws := wsX3_isGreat) B.pre
  have hown : s.vm.findClass RX3 = some m.cls := findClass_of_methodNamed B.named
  have hlocks := B.notSynchronized
  have hi3 : ∀ w ∈ wsX30, w ∈ wsX3_isGreat := by decide +kernel
  generalize hH : s.heap = H at hP ⊢
  have hl := lv_entry ([.ref (g 0), .int (nI a)]) (n := 5) (Nat.le_of_ble_eq_true rfl)
  rw [lg_entry_eq]
  generalize (lg_sl ([.ref (g 0), .int (nI a)]) ++ List.replicate (5 - (lg_sl ([.ref (g 0), .int (nI a)])).length) Slot.unset).toArray = ls at hl ⊢
  have hl : lv_has ls 5 [(0, .ref (g 0)), (1, .int (nI a))] := hl
  refine lv_lconst (v := 0) hx hb dX3_isGreat_0 (by decide) ?_
  refine lv_lstore_n (lv' := [(2, .long ((0 : Int64))), (0, .ref (g 0)), (1, .int (nI a))]) hx hb dX3_isGreat_1 rfl hl (by decide) rfl (fun ls hl => ?_)
  refine lv_iconst (v := 0) hx hb dX3_isGreat_2 (by decide) ?_
  refine lv_istore (lv' := [(4, .int ((0 : Int32))), (2, .long ((0 : Int64))), (0, .ref (g 0)), (1, .int (nI a))]) hx hb dX3_isGreat_3 hl (by decide) rfl (fun ls hl => ?_)
  have lpg : ∀ (n k : Nat) (ls : Array Slot), k + n = lm → lv_has ls 5 [(4, .int (nI k)), (2, .long (lN (cyA (N 0 a) am k))), (0, .ref (g 0)), (1, .int (nI a))] → W p l e (headSpec wsX3_isGreat ({ frames := 0, cells := 0, slots := 0, locals := 0 })).room s m ([.ref (g 0), .int (nI a)]).toArray below meth c H [] 0 0 (MQ below (vp_Si (fun r => r = if cyA (N 0 a) am lm = 0 then 0 else 1)) ([.ref (g 0), .int (nI a)]).toArray s 0 0 (fun _ => False)) (F0 m 5 ls []) := by
    intro n
    induction n with
    | zero =>
      intro k ls hin hl
      have e9 : k = lm := by omega
      have hs3 := cyA_lt (N 0 a) am k
      refine lv_iload hx hb dX3_isGreat_5 (lv_at hl 0 rfl) ?_
      refine lv_aload_n hx hb dX3_isGreat_7 rfl (lv_at hl 2 rfl) ?_
      refine va_get (D := D) (ci := 3) (v := .int (nI lm)) (C := RX3) (T := TX3) (N := 18) hx hb hts hi3 hown hK hP 0 (wl_at (by omega)) rfl 2 (by decide) (hts (.fieldLink RX3 46 "BigLedgerModel" "limbs" "I") (by decide +kernel)) (fun _ h9 => h9) rfl dX3_isGreat_8 ?_
      refine lv_icmp_ge (tgt := 49) hx hb dX3_isGreat_11 (by decide) (fun _ => ?_) (fun c9 => absurd (nI_le (by omega) (by omega)) c9)
      refine lv_lload_n hx hb dX3_isGreat_49 rfl (lv_at hl 1 rfl) ?_
      refine lv_lconst (v := 0) hx hb dX3_isGreat_50 (by decide) ?_
      refine W.lcmp hx hb dX3_isGreat_51 ?_
      refine lv_if_le (tgt := 59) hx hb dX3_isGreat_52 (by decide) (fun c1 => ?_) (fun c1 => ?_)
      · refine lv_iconst (v := 0) hx hb dX3_isGreat_59 (by decide) ?_
        exact W.zret (v := 0) (ty := .boolean) hx hb hr (rfl) (fun t ht hW => ⟨_, rfl, by rw [← e9, if_pos ((lg_le0_iff (by omega)).mp c1)], ht.trans hH.symm⟩) (fun _ h => by cases h) dX3_isGreat_60
      · refine lv_iconst (v := 1) hx hb dX3_isGreat_55 (by decide) ?_
        refine lv_goto (tgt := 60) hx hb dX3_isGreat_56 (by decide) ?_
        exact W.zret (v := 1) (ty := .boolean) hx hb hr (rfl) (fun t ht hW => ⟨_, rfl, by rw [← e9, if_neg (fun q => c1 ((lg_le0_iff (by omega)).mpr q))], ht.trans hH.symm⟩) (fun _ h => by cases h) dX3_isGreat_60
    | succ n ih =>
      intro k ls hin hl
      have hkw : k < 22 := by omega
      refine lv_iload hx hb dX3_isGreat_5 (lv_at hl 0 rfl) ?_
      refine lv_aload_n hx hb dX3_isGreat_7 rfl (lv_at hl 2 rfl) ?_
      refine va_get (D := D) (ci := 3) (v := .int (nI lm)) (C := RX3) (T := TX3) (N := 18) hx hb hts hi3 hown hK hP 0 (wl_at (by omega)) rfl 2 (by decide) (hts (.fieldLink RX3 46 "BigLedgerModel" "limbs" "I") (by decide +kernel)) (fun _ h9 => h9) rfl dX3_isGreat_8 ?_
      refine lv_icmp_ge (tgt := 49) hx hb dX3_isGreat_11 (by decide) (fun c9 => absurd c9 (nI_ge (by omega) (by omega))) (fun _ => ?_)
      refine lv_aload_n hx hb dX3_isGreat_14 rfl (lv_at hl 2 rfl) ?_
      refine va_get (D := D) (ci := 3) (v := .ref (g 1)) (C := RX3) (T := TX3) (N := 18) hx hb hts hi3 hown hK hP 0 (wl_at (by omega)) rfl 4 (by decide) (hts (.fieldLink RX3 13 "BigLedgerModel" "now" "[I") (by decide +kernel)) (fun _ h9 => h9) rfl dX3_isGreat_15 ?_
      refine lv_bipush (v := 22) hx hb dX3_isGreat_18 (by decide) ?_
      refine lv_iload_n hx hb dX3_isGreat_20 rfl (lv_at hl 3 rfl) ?_
      refine lv_imul hx hb dX3_isGreat_21 ?_
      refine lv_topi (fun y71 ey71 => ?_)
      replace ey71 : y71 = nI (22 * a) := ey71.trans (pk_mul 22 a)
      subst ey71
      refine lv_iload hx hb dX3_isGreat_22 (lv_at hl 0 rfl) ?_
      refine lv_iadd hx hb dX3_isGreat_24 ?_
      refine lv_topi (fun y72 ey72 => ?_)
      replace ey72 : y72 = nI (22 * a + k) := ey72.trans (nI_add _ _)
      subst ey72
      refine va_iald hx hb hK hP 1 0 (wl_at (by omega)) rfl (vp_in_nI (by omega) (by omega)) dX3_isGreat_25 ?_
      refine lv_topi (fun y73 ey73 => ?_)
      replace ey73 : y73 = lb (N 0 a) k := ey73.trans (by rw [nI_clamp (by omega)]; exact rowF_at (N 0) hkw)
      subst ey73
      refine lv_i2l (v := lN (lbN (N 0 a) k)) hx hb dX3_isGreat_26 (lb_l _ k) ?_
      refine lv_aload_n hx hb dX3_isGreat_27 rfl (lv_at hl 2 rfl) ?_
      refine va_get (D := D) (ci := 3) (v := .ref (g 4)) (C := RX3) (T := TX3) (N := 18) hx hb hts hi3 hown hK hP 0 (wl_at (by omega)) rfl 7 (by decide) (hts (.fieldLink RX3 23 "BigLedgerModel" "amount" "[I") (by decide +kernel)) (fun _ h9 => h9) rfl dX3_isGreat_28 ?_
      refine lv_iload hx hb dX3_isGreat_31 (lv_at hl 0 rfl) ?_
      refine va_iald hx hb hK hP 4 0 (wl_at (by omega)) rfl (vp_in_nI (by omega) (by omega)) dX3_isGreat_33 ?_
      refine lv_topi (fun y74 ey74 => ?_)
      replace ey74 : y74 = lb am k := ey74.trans (by rw [nI_clamp (by omega)]; rfl)
      subst ey74
      refine lv_i2l (v := lN (lbN am k)) hx hb dX3_isGreat_34 (lb_l am k) ?_
      refine lv_ladd hx hb dX3_isGreat_35 ?_
      refine lv_topl (fun y75 ey75 => ?_)
      replace ey75 : y75 = lN (lbN (N 0 a) k + lbN am k) := ey75.trans (lN_add _ _)
      subst ey75
      refine lv_lload_n hx hb dX3_isGreat_36 rfl (lv_at hl 1 rfl) ?_
      refine lv_ladd hx hb dX3_isGreat_37 ?_
      refine lv_topl (fun y76 ey76 => ?_)
      replace ey76 : y76 = lN (lbN (N 0 a) k + lbN am k + cyA (N 0 a) am k) := ey76.trans (lN_add _ _)
      subst ey76
      have hs1 := lbN_lt (N 0 a) k
      have hs2 := lbN_lt am k
      have hs3 := cyA_lt (N 0 a) am k
      refine lv_ldc2 (v := (lN 2147483648)) hx hb hown (hts (.constantLong RX3 86 ((lN 2147483648))) (by decide +kernel)) dX3_isGreat_38 ?_
      refine lv_ldiv hx hb dX3_isGreat_41 (ne_base) ?_
      refine lv_topl (fun y77 ey77 => ?_)
      replace ey77 : y77 = lN (cyA (N 0 a) am (k + 1)) := ey77.trans ((pk_lDiv (by omega) (by decide) (by decide)).trans (congrArg lN (by rw [← add_carry]; congr 1; omega)))
      subst ey77
      refine lv_lstore_n (lv' := [(2, .long (lN (cyA (N 0 a) am (k + 1)))), (4, .int (nI k)), (0, .ref (g 0)), (1, .int (nI a))]) hx hb dX3_isGreat_42 rfl hl (by decide) rfl (fun ls hl => ?_)
      refine lv_iinc (v := nI (k + 1)) (lv' := [(4, .int (nI (k + 1))), (2, .long (lN (cyA (N 0 a) am (k + 1)))), (0, .ref (g 0)), (1, .int (nI a))]) hx hb dX3_isGreat_43 hl (k := 1) rfl (nI_1 k) (by decide) rfl (fun ls hl => ?_)
      refine lv_goto (tgt := 5) hx hb dX3_isGreat_46 (by decide) ?_
      exact ih (k + 1) ls (by omega) (lv_sub hl [0, 1, 2, 3] rfl)
  exact lpg lm 0 ls (by omega) (by rw [cyA_0]; exact hl)
set_option maxHeartbeats 4000000 in
set_option maxRecDepth 100000 in
theorem m_deposit (l : Launch) (D : va_G) (g : Nat → Nat) (cI cZ cB : ClassId) (acc lm rm : Nat) (N : LN) (am : Nat) (T : BN) (wk ou y : Nat → Int32) (hok : mOk g) (hacc : acc ≤ 24) (hlm2 : lm ≤ 20) (hrm : rm ≤ 25) (ham : am < 2147483648 ^ 22) (p0 : Int32) (hadd : ∀ b, b < 25 → N 0 b + am < 2147483648 ^ 22) : Met l yX3_deposit wsX3_deposit ({ frames := 2, cells := 0, slots := 0, locals := 45 }) (nPc [.ref (g 0), .int (p0)] D (rW g cI cZ cB acc lm rm (mF N am T wk ou) y) [(cI, .int), (cZ, .boolean), (cB, .byte)]) (va_Qi (fun (r : Int32) (u : MS) => (r, u) = mDep acc lm rm p0 (N, am, T, y)) (fun u t => va_P D vwCl (rW g cI cZ cB acc lm rm (mF u.1 u.2.1 u.2.2.1 wk ou) u.2.2.2) t.heap) (mA g)) 0 0 (mA g) := by
  refine Met.ofW (cc := cX3_deposit) (maxL := 2) (ret := (some .int)) (by decide) rfl ?_
  intro p e s m args below meth c s₁ B hml hv
  obtain ⟨rfl, hP, hK⟩ := hv
  have hx := B.exec
  have hb := B.bytes
  have hr := B.returns
  have hts := atoms_spec (ws := wsX3_deposit) B.pre
  have hown : s.vm.findClass RX3 = some m.cls := findClass_of_methodNamed B.named
  have hlocks := B.notSynchronized
  have hi3 : ∀ w ∈ wsX30, w ∈ wsX3_deposit := by decide +kernel
  have hS : va_S (mA g) s.heap s.heap [] := va_S.rf
  have hD : va_D (mA g) (rW g cI cZ cB acc lm rm (mF N am T wk ou) y) := mlD hok
  have hl := lv_entry ([.ref (g 0), .int (p0)]) (n := 2) (Nat.le_of_ble_eq_true rfl)
  rw [lg_entry_eq]
  generalize (lg_sl ([.ref (g 0), .int (p0)]) ++ List.replicate (2 - (lg_sl ([.ref (g 0), .int (p0)])).length) Slot.unset).toArray = ls at hl ⊢
  have hl : lv_has ls 2 [(0, .ref (g 0)), (1, .int (p0))] := hl
  refine lv_aload_n hx hb dX3_deposit_0 rfl (lv_at hl 0 rfl) ?_
  refine lv_iconst (v := 0) hx hb dX3_deposit_1 (by decide) ?_
  refine va_put (D := D) (ci := 3) (v := .int ((0 : Int32))) (ty := .int) (C := RX3) (T := TX3) (N := 18) hx hb hts hi3 tyX3 tyX3_ok nmX3 hown hK hP hD hS 0 (wl_at (by omega)) rfl 0 (by decide) (hts (.fieldLink RX3 1 "BigLedgerModel" "thrown" "I") (by decide +kernel)) (fun _ h9 => h9) rfl (by decide +kernel) (rfl) (rfl) (Nat.le_of_ble_eq_true rfl) dX3_deposit_2 (fun H locs hP hD hS => ?_)
  have hP : va_P D vwCl (rW g cI cZ cB acc lm rm (mF N am T wk ou) (va_up y 0 (0 : Int32))) H := cv (ms_f 0 (0 : Int32) (by decide)) hP
  have hD : va_D (mA g) (rW g cI cZ cB acc lm rm (mF N am T wk ou) (va_up y 0 (0 : Int32))) := mlD hok
  refine lv_aload_n hx hb dX3_deposit_5 rfl (lv_at hl 0 rfl) ?_
  refine va_get (D := D) (ci := 3) (v := .int ((va_up y 0 (0 : Int32)) 1)) (C := RX3) (T := TX3) (N := 18) hx hb hts hi3 hown hK hP 0 (wl_at (by omega)) rfl 11 (by decide) (hts (.fieldLink RX3 52 "BigLedgerModel" "up" "Z") (by decide +kernel)) (fun _ h9 => h9) rfl dX3_deposit_6 ?_
  refine lv_if_ne (tgt := 15) hx hb dX3_deposit_9 (by decide) (fun c0 => ?_) (fun c0 => ?_)
  · refine lv_aload_n hx hb dX3_deposit_15 rfl (lv_at hl 0 rfl) ?_
    refine lv_iload_n hx hb dX3_deposit_16 rfl (lv_at hl 1 rfl) ?_
    refine vp_callSi (W.runV (As := [.int (p0)]) (rest := []) ⟨hx, hb, hml, hown, hts⟩ (m_no l D g cI cZ cB acc lm rm N am T wk ou (va_up y 0 0) hok hacc p0) (cwV 1 hts gX3_deposit_X3_no rfl rfl rfl (by decide +kernel) ⟨Nat.le_of_ble_eq_true rfl, Nat.le_of_ble_eq_true rfl⟩) ⟨nPc_blind, va_recv hK hP (ci := 3) (q0 := 0) rfl (wl_at (by omega)), nPc_use (hP) hK⟩ rfl rfl hl.1 rfl (lv_room (Nat.le_of_ble_eq_true rfl)) dX3_deposit_17 ⟨Nat.le_of_ble_eq_true rfl, Nat.le_of_ble_eq_true rfl⟩) (fun ra hra => ?_)
    refine lv_if_eq (tgt := 25) hx hb dX3_deposit_20 (by decide) (fun c1 => ?_) (fun c1 => ?_)
    · have ha : isAcc acc p0 = true := Classical.byContradiction (fun q => absurd (c1.symm.trans (hra.trans (if_neg q))) (by decide))
      obtain ⟨b, hqb, rfl⟩ := isAcc_t (by omega) ha
      have eb : (nI b).toNatClampNeg = b := nI_clamp (by omega)
      refine lv_aload_n hx hb dX3_deposit_25 rfl (lv_at hl 0 rfl) ?_
      refine lv_iload_n hx hb dX3_deposit_26 rfl (lv_at hl 1 rfl) ?_
      refine vp_callSi (W.runV (As := [.int (nI b)]) (rest := []) ⟨hx, hb, hml, hown, hts⟩ (m_isGreat l D g cI cZ cB acc lm rm N am T wk ou (va_up y 0 0) hok hacc hlm2 b (by omega)) (cwV 1 hts gX3_deposit_X3_isGreat rfl rfl rfl (by decide +kernel) ⟨Nat.le_of_ble_eq_true rfl, Nat.le_of_ble_eq_true rfl⟩) ⟨nPc_blind, va_recv hK hP (ci := 3) (q0 := 0) rfl (wl_at (by omega)), nPc_use (hP) hK⟩ rfl rfl hl.1 rfl (lv_room (Nat.le_of_ble_eq_true rfl)) dX3_deposit_27 ⟨Nat.le_of_ble_eq_true rfl, Nat.le_of_ble_eq_true rfl⟩) (fun rg hrg => ?_)
      refine lv_if_eq (tgt := 35) hx hb dX3_deposit_30 (by decide) (fun c2 => ?_) (fun c2 => ?_)
      · replace c2 : cyA (N 0 b) am lm = 0 := Classical.byContradiction (fun q => absurd (c2.symm.trans (hrg.trans (if_neg q))) (by decide))
        refine lv_aload_n hx hb dX3_deposit_35 rfl (lv_at hl 0 rfl) ?_
        refine lv_iload_n hx hb dX3_deposit_36 rfl (lv_at hl 1 rfl) ?_
        refine lv_bipush (v := 24) hx hb dX3_deposit_37 (by decide) ?_
        refine vp_callSi (W.runV (As := [.int (nI b), .int ((24 : Int32))]) (rest := []) ⟨hx, hb, hml, hown, hts⟩ (m_isFull l D g cI cZ cB acc lm rm N am T wk ou (va_up y 0 0) hok hacc hrm b 24 (by omega) (by omega)) (cwV 2 hts gX3_deposit_X3_isFull rfl rfl rfl (by decide +kernel) ⟨Nat.le_of_ble_eq_true rfl, Nat.le_of_ble_eq_true rfl⟩) ⟨nPc_blind, va_recv hK hP (ci := 3) (q0 := 0) rfl (wl_at (by omega)), nPc_use (hP) hK⟩ rfl rfl hl.1 rfl (lv_room (Nat.le_of_ble_eq_true rfl)) dX3_deposit_39 ⟨Nat.le_of_ble_eq_true rfl, Nat.le_of_ble_eq_true rfl⟩) (fun rf hrf => ?_)
        refine lv_if_eq (tgt := 47) hx hb dX3_deposit_42 (by decide) (fun c3 => ?_) (fun c3 => ?_)
        · replace c3 : ¬ rm < fb_ct (T 0) 25 + mMore (T 0) b 24 := fun q => absurd (c3.symm.trans (hrf.trans (if_pos q))) (by decide)
          refine lv_aload_n hx hb dX3_deposit_47 rfl (lv_at hl 0 rfl) ?_
          refine lv_iload_n hx hb dX3_deposit_48 rfl (lv_at hl 1 rfl) ?_
          refine lv_iconst (v := 1) hx hb dX3_deposit_49 (by decide) ?_
          refine va_callv (va_runV (As := [.int (nI b), .int ((1 : Int32))]) (rest := []) ⟨hx, hb, hml, hown, hts⟩ (m_chgA l D g cI cZ cB acc lm rm N am T wk ou (va_up y 0 0) hok hacc b (by omega) (hadd b (by omega))) (cwV 2 hts gX3_deposit_X3_change rfl rfl rfl (by decide +kernel) ⟨Nat.le_of_ble_eq_true rfl, Nat.le_of_ble_eq_true rfl⟩) ⟨nPc_blind, va_recv hK hP (ci := 3) (q0 := 0) rfl (wl_at (by omega)), nPc_use (hP) hK⟩ rfl rfl hl.1 rfl (lv_room (Nat.le_of_ble_eq_true rfl)) dX3_deposit_50 ⟨Nat.le_of_ble_eq_true rfl, Nat.le_of_ble_eq_true rfl⟩) hS (fun q _ h => (fun _ h => h) q h) (fun _ h => h) (fun _u t H1 locs ht hvm hw hB hz1 hk9 hS => ?_)
          generalize H1 = H at ht hz1 hk9 hS ⊢
          have hP : va_P D vwCl (rW g cI cZ cB acc lm rm (mF (va_up N 0 (va_up (N 0) b (N 0 b + am))) am T wk ou) (va_up y 0 (0 : Int32))) H := pB_at ht hB
          have hD : va_D (mA g) (rW g cI cZ cB acc lm rm (mF (va_up N 0 (va_up (N 0) b (N 0 b + am))) am T wk ou) (va_up y 0 (0 : Int32))) := mlD hok
          refine lv_aload_n hx hb dX3_deposit_53 rfl (lv_at hl 0 rfl) ?_
          refine lv_bipush (v := 24) hx hb dX3_deposit_54 (by decide) ?_
          refine lv_iconst (v := 1) hx hb dX3_deposit_56 (by decide) ?_
          refine va_callv (va_runV (As := [.int ((24 : Int32)), .int ((1 : Int32))]) (rest := []) ⟨hx, hb, hml, hown, hts⟩ (m_chgA l D g cI cZ cB acc lm rm (va_up N 0 (va_up (N 0) b (N 0 b + am))) am T wk ou (va_up y 0 0) hok hacc 24 (by omega) (by
            show (va_up N 0 (va_up (N 0) b (N 0 b + am))) 0 24 + am < _
            rw [va_up_self, va_up_ne _ _ (by omega)]
            exact hadd 24 (by omega))) (cwV 2 hts gX3_deposit_X3_change rfl rfl rfl (by decide +kernel) ⟨Nat.le_of_ble_eq_true rfl, Nat.le_of_ble_eq_true rfl⟩) ⟨nPc_blind, va_recv hK hP (ci := 3) (q0 := 0) rfl (wl_at (by omega)), nPc_use (hP) hK⟩ rfl rfl hl.1 rfl (lv_room (Nat.le_of_ble_eq_true rfl)) dX3_deposit_57 ⟨Nat.le_of_ble_eq_true rfl, Nat.le_of_ble_eq_true rfl⟩) hS (fun q _ h => (fun _ h => h) q h) (fun _ h => h) (fun _u t H1 locs ht hvm hw hB hz1 hk9 hS => ?_)
          generalize H1 = H at ht hz1 hk9 hS ⊢
          have hP : va_P D vwCl (rW g cI cZ cB acc lm rm (mF (va_up (va_up N 0 (va_up (N 0) b (N 0 b + am))) 0 (va_up ((va_up N 0 (va_up (N 0) b (N 0 b + am))) 0) 24 ((va_up N 0 (va_up (N 0) b (N 0 b + am))) 0 24 + am))) am T wk ou) (va_up y 0 (0 : Int32))) H := pB_at ht hB
          have hD : va_D (mA g) (rW g cI cZ cB acc lm rm (mF (va_up (va_up N 0 (va_up (N 0) b (N 0 b + am))) 0 (va_up ((va_up N 0 (va_up (N 0) b (N 0 b + am))) 0) 24 ((va_up N 0 (va_up (N 0) b (N 0 b + am))) 0 24 + am))) am T wk ou) (va_up y 0 (0 : Int32))) := mlD hok
          refine lv_aload_n hx hb dX3_deposit_60 rfl (lv_at hl 0 rfl) ?_
          refine va_get (D := D) (ci := 3) (v := .ref (g 6)) (C := RX3) (T := TX3) (N := 18) hx hb hts hi3 hown hK hP 0 (wl_at (by omega)) rfl 9 (by decide) (hts (.fieldLink RX3 29 "BigLedgerModel" "touched" "[Z") (by decide +kernel)) (fun _ h9 => h9) rfl dX3_deposit_61 ?_
          refine lv_iload_n hx hb dX3_deposit_64 rfl (lv_at hl 1 rfl) ?_
          refine lv_iconst (v := 1) hx hb dX3_deposit_65 (by decide) ?_
          refine va_zast hx hb hK hP hD hS 6 1 (wl_at (by omega)) rfl (vp_in_nI (n := b) (by omega) (by omega)) dX3_deposit_66 (fun H locs hP hD hS => ?_)
          have hP : va_P D vwCl (rW g cI cZ cB acc lm rm (va_up (mF (va_up (va_up N 0 (va_up (N 0) b (N 0 b + am))) 0 (va_up ((va_up N 0 (va_up (N 0) b (N 0 b + am))) 0) 24 ((va_up N 0 (va_up (N 0) b (N 0 b + am))) 0 24 + am))) am T wk ou) 6 (upd ((mF (va_up (va_up N 0 (va_up (N 0) b (N 0 b + am))) 0 (va_up ((va_up N 0 (va_up (N 0) b (N 0 b + am))) 0) 24 ((va_up N 0 (va_up (N 0) b (N 0 b + am))) 0 24 + am))) am T wk ou) 6) (nI b).toNatClampNeg (vp_nar .boolean ((1 : Int32))))) (va_up y 0 (0 : Int32))) H := cv (ms_a6 (upd ((mF (va_up (va_up N 0 (va_up (N 0) b (N 0 b + am))) 0 (va_up ((va_up N 0 (va_up (N 0) b (N 0 b + am))) 0) 24 ((va_up N 0 (va_up (N 0) b (N 0 b + am))) 0 24 + am))) am T wk ou) 6) (nI b).toNatClampNeg (vp_nar .boolean ((1 : Int32))))) hP
          have hD : va_D (mA g) (rW g cI cZ cB acc lm rm (va_up (mF (va_up (va_up N 0 (va_up (N 0) b (N 0 b + am))) 0 (va_up ((va_up N 0 (va_up (N 0) b (N 0 b + am))) 0) 24 ((va_up N 0 (va_up (N 0) b (N 0 b + am))) 0 24 + am))) am T wk ou) 6 (upd ((mF (va_up (va_up N 0 (va_up (N 0) b (N 0 b + am))) 0 (va_up ((va_up N 0 (va_up (N 0) b (N 0 b + am))) 0) 24 ((va_up N 0 (va_up (N 0) b (N 0 b + am))) 0 24 + am))) am T wk ou) 6) (nI b).toNatClampNeg (vp_nar .boolean ((1 : Int32))))) (va_up y 0 (0 : Int32))) := mlD hok
          have hP : va_P D vwCl (rW g cI cZ cB acc lm rm (mF (va_up (va_up N 0 (va_up (N 0) b (N 0 b + am))) 0 (va_up ((va_up N 0 (va_up (N 0) b (N 0 b + am))) 0) 24 ((va_up N 0 (va_up (N 0) b (N 0 b + am))) 0 24 + am))) am (va_up T 0 (va_up (T 0) b true)) wk ou) (va_up y 0 (0 : Int32))) H := rW_congr hP (fun q9 h1 h2 j hj => by
            match q9 with
            | 1 => rfl
            | 2 => rfl
            | 3 => rfl
            | 4 => rfl
            | 5 => rfl
            | 6 =>
              show upd (tb (T 0)) (nI b).toNatClampNeg (vp_nar .boolean 1) j = tb (va_up (T 0) b true) j
              rw [show (nI b).toNatClampNeg = b from nI_clamp (n := b) (by omega), tb_up (v := vp_nar .boolean 1) (T 0) b true rfl]
            | 7 => rfl
            | 8 => rfl
            | 0 => omega
            | q9 + 9 => omega)
          have hD : va_D (mA g) (rW g cI cZ cB acc lm rm (mF (va_up (va_up N 0 (va_up (N 0) b (N 0 b + am))) 0 (va_up ((va_up N 0 (va_up (N 0) b (N 0 b + am))) 0) 24 ((va_up N 0 (va_up (N 0) b (N 0 b + am))) 0 24 + am))) am (va_up T 0 (va_up (T 0) b true)) wk ou) (va_up y 0 (0 : Int32))) := mlD hok
          refine lv_aload_n hx hb dX3_deposit_67 rfl (lv_at hl 0 rfl) ?_
          refine va_get (D := D) (ci := 3) (v := .ref (g 6)) (C := RX3) (T := TX3) (N := 18) hx hb hts hi3 hown hK hP 0 (wl_at (by omega)) rfl 9 (by decide) (hts (.fieldLink RX3 29 "BigLedgerModel" "touched" "[Z") (by decide +kernel)) (fun _ h9 => h9) rfl dX3_deposit_68 ?_
          refine lv_bipush (v := 24) hx hb dX3_deposit_71 (by decide) ?_
          refine lv_iconst (v := 1) hx hb dX3_deposit_73 (by decide) ?_
          refine va_zast hx hb hK hP hD hS 6 1 (wl_at (by omega)) rfl (vp_in_nI (n := 24) (by omega) (by omega)) dX3_deposit_74 (fun H locs hP hD hS => ?_)
          have hP : va_P D vwCl (rW g cI cZ cB acc lm rm (va_up (mF (va_up (va_up N 0 (va_up (N 0) b (N 0 b + am))) 0 (va_up ((va_up N 0 (va_up (N 0) b (N 0 b + am))) 0) 24 ((va_up N 0 (va_up (N 0) b (N 0 b + am))) 0 24 + am))) am (va_up T 0 (va_up (T 0) b true)) wk ou) 6 (upd ((mF (va_up (va_up N 0 (va_up (N 0) b (N 0 b + am))) 0 (va_up ((va_up N 0 (va_up (N 0) b (N 0 b + am))) 0) 24 ((va_up N 0 (va_up (N 0) b (N 0 b + am))) 0 24 + am))) am (va_up T 0 (va_up (T 0) b true)) wk ou) 6) ((24 : Int32)).toNatClampNeg (vp_nar .boolean ((1 : Int32))))) (va_up y 0 (0 : Int32))) H := cv (ms_a6 (upd ((mF (va_up (va_up N 0 (va_up (N 0) b (N 0 b + am))) 0 (va_up ((va_up N 0 (va_up (N 0) b (N 0 b + am))) 0) 24 ((va_up N 0 (va_up (N 0) b (N 0 b + am))) 0 24 + am))) am (va_up T 0 (va_up (T 0) b true)) wk ou) 6) ((24 : Int32)).toNatClampNeg (vp_nar .boolean ((1 : Int32))))) hP
          have hD : va_D (mA g) (rW g cI cZ cB acc lm rm (va_up (mF (va_up (va_up N 0 (va_up (N 0) b (N 0 b + am))) 0 (va_up ((va_up N 0 (va_up (N 0) b (N 0 b + am))) 0) 24 ((va_up N 0 (va_up (N 0) b (N 0 b + am))) 0 24 + am))) am (va_up T 0 (va_up (T 0) b true)) wk ou) 6 (upd ((mF (va_up (va_up N 0 (va_up (N 0) b (N 0 b + am))) 0 (va_up ((va_up N 0 (va_up (N 0) b (N 0 b + am))) 0) 24 ((va_up N 0 (va_up (N 0) b (N 0 b + am))) 0 24 + am))) am (va_up T 0 (va_up (T 0) b true)) wk ou) 6) ((24 : Int32)).toNatClampNeg (vp_nar .boolean ((1 : Int32))))) (va_up y 0 (0 : Int32))) := mlD hok
          have hP : va_P D vwCl (rW g cI cZ cB acc lm rm (mF (va_up (va_up N 0 (va_up (N 0) b (N 0 b + am))) 0 (va_up ((va_up N 0 (va_up (N 0) b (N 0 b + am))) 0) 24 ((va_up N 0 (va_up (N 0) b (N 0 b + am))) 0 24 + am))) am (va_up (va_up T 0 (va_up (T 0) b true)) 0 (va_up ((va_up T 0 (va_up (T 0) b true)) 0) 24 true)) wk ou) (va_up y 0 (0 : Int32))) H := rW_congr hP (fun q9 h1 h2 j hj => by
            match q9 with
            | 1 => rfl
            | 2 => rfl
            | 3 => rfl
            | 4 => rfl
            | 5 => rfl
            | 6 =>
              show upd (tb ((va_up T 0 (va_up (T 0) b true)) 0)) ((24 : Int32)).toNatClampNeg (vp_nar .boolean 1) j = tb (va_up ((va_up T 0 (va_up (T 0) b true)) 0) 24 true) j
              rw [show ((24 : Int32)).toNatClampNeg = 24 from nI_clamp (n := 24) (by omega), tb_up (v := vp_nar .boolean 1) ((va_up T 0 (va_up (T 0) b true)) 0) 24 true rfl]
            | 7 => rfl
            | 8 => rfl
            | 0 => omega
            | q9 + 9 => omega)
          have hD : va_D (mA g) (rW g cI cZ cB acc lm rm (mF (va_up (va_up N 0 (va_up (N 0) b (N 0 b + am))) 0 (va_up ((va_up N 0 (va_up (N 0) b (N 0 b + am))) 0) 24 ((va_up N 0 (va_up (N 0) b (N 0 b + am))) 0 24 + am))) am (va_up (va_up T 0 (va_up (T 0) b true)) 0 (va_up ((va_up T 0 (va_up (T 0) b true)) 0) 24 true)) wk ou) (va_up y 0 (0 : Int32))) := mlD hok
          refine lv_iconst (v := 0) hx hb dX3_deposit_75 (by decide) ?_
          exact W.iret (v := 0) hx hb hr (fun t ht hW => ⟨⟨_, mTou (mTou (mInc (mInc (setY (N, am, T, y) 0 0) b) 24) b) 24, rfl, by rw [mDep, eb]; exact ((if_neg (c0)).trans ((if_neg ((fun q => q ha))).trans ((if_neg ((fun q => q c2))).trans (if_neg (c3))))).symm, hp_at ht hP⟩, hS.F ht⟩) hS.2.2 dX3_deposit_76
        · replace c3 : rm < fb_ct (T 0) 25 + mMore (T 0) b 24 := Classical.byContradiction (fun q => c3 (hrf.trans (if_neg q)))
          refine lv_iconst (v := 4) hx hb dX3_deposit_45 (by decide) ?_
          exact W.iret (v := 4) hx hb hr (fun t ht hW => ⟨⟨_, (setY (N, am, T, y) 0 0), rfl, by rw [mDep, eb]; exact ((if_neg (c0)).trans ((if_neg ((fun q => q ha))).trans ((if_neg ((fun q => q c2))).trans (if_pos (c3))))).symm, hp_at ht hP⟩, hS.F ht⟩) hS.2.2 dX3_deposit_46
      · replace c2 : ¬ cyA (N 0 b) am lm = 0 := fun q => c2 (hrg.trans (if_pos q))
        refine lv_iconst (v := 3) hx hb dX3_deposit_33 (by decide) ?_
        exact W.iret (v := 3) hx hb hr (fun t ht hW => ⟨⟨_, (setY (N, am, T, y) 0 0), rfl, by rw [mDep, eb]; exact ((if_neg (c0)).trans ((if_neg ((fun q => q ha))).trans (if_pos (c2)))).symm, hp_at ht hP⟩, hS.F ht⟩) hS.2.2 dX3_deposit_34
    · have ha : ¬ isAcc acc p0 = true := fun q => c1 (hra.trans (if_pos q))
      refine lv_iconst (v := 1) hx hb dX3_deposit_23 (by decide) ?_
      exact W.iret (v := 1) hx hb hr (fun t ht hW => ⟨⟨_, (setY (N, am, T, y) 0 0), rfl, by rw [mDep]; exact ((if_neg (c0)).trans (if_pos (ha))).symm, hp_at ht hP⟩, hS.F ht⟩) hS.2.2 dX3_deposit_24
  · refine lv_bipush (v := 6) hx hb dX3_deposit_12 (by decide) ?_
    exact W.iret (v := 6) hx hb hr (fun t ht hW => ⟨⟨_, (setY (N, am, T, y) 0 0), rfl, by rw [mDep]; exact (if_pos (c0)).symm, hp_at ht hP⟩, hS.F ht⟩) hS.2.2 dX3_deposit_14
set_option maxHeartbeats 4000000 in
set_option maxRecDepth 100000 in
theorem m_withdraw (l : Launch) (D : va_G) (g : Nat → Nat) (cI cZ cB : ClassId) (acc lm rm : Nat) (N : LN) (am : Nat) (T : BN) (wk ou y : Nat → Int32) (hok : mOk g) (hacc : acc ≤ 24) (hlm2 : lm ≤ 20) (hrm : rm ≤ 25) (ham : am < 2147483648 ^ 22) (p0 : Int32) (hnow : ∀ b, b < 25 → N 0 b < 2147483648 ^ 22) (hsub : ∀ b, b < acc → am ≤ N 0 b → am ≤ N 0 24) : Met l yX3_withdraw wsX3_withdraw ({ frames := 2, cells := 0, slots := 0, locals := 45 }) (nPc [.ref (g 0), .int (p0)] D (rW g cI cZ cB acc lm rm (mF N am T wk ou) y) [(cI, .int), (cZ, .boolean), (cB, .byte)]) (va_Qi (fun (r : Int32) (u : MS) => (r, u) = mWd acc rm p0 (N, am, T, y)) (fun u t => va_P D vwCl (rW g cI cZ cB acc lm rm (mF u.1 u.2.1 u.2.2.1 wk ou) u.2.2.2) t.heap) (mA g)) 0 0 (mA g) := by
  refine Met.ofW (cc := cX3_withdraw) (maxL := 2) (ret := (some .int)) (by decide) rfl ?_
  intro p e s m args below meth c s₁ B hml hv
  obtain ⟨rfl, hP, hK⟩ := hv
  have hx := B.exec
  have hb := B.bytes
  have hr := B.returns
  have hts := atoms_spec (ws := wsX3_withdraw) B.pre
  have hown : s.vm.findClass RX3 = some m.cls := findClass_of_methodNamed B.named
  have hlocks := B.notSynchronized
  have hi3 : ∀ w ∈ wsX30, w ∈ wsX3_withdraw := by decide +kernel
  have hS : va_S (mA g) s.heap s.heap [] := va_S.rf
  have hD : va_D (mA g) (rW g cI cZ cB acc lm rm (mF N am T wk ou) y) := mlD hok
  have hl := lv_entry ([.ref (g 0), .int (p0)]) (n := 2) (Nat.le_of_ble_eq_true rfl)
  rw [lg_entry_eq]
  generalize (lg_sl ([.ref (g 0), .int (p0)]) ++ List.replicate (2 - (lg_sl ([.ref (g 0), .int (p0)])).length) Slot.unset).toArray = ls at hl ⊢
  have hl : lv_has ls 2 [(0, .ref (g 0)), (1, .int (p0))] := hl
  refine lv_aload_n hx hb dX3_withdraw_0 rfl (lv_at hl 0 rfl) ?_
  refine lv_iconst (v := 0) hx hb dX3_withdraw_1 (by decide) ?_
  refine va_put (D := D) (ci := 3) (v := .int ((0 : Int32))) (ty := .int) (C := RX3) (T := TX3) (N := 18) hx hb hts hi3 tyX3 tyX3_ok nmX3 hown hK hP hD hS 0 (wl_at (by omega)) rfl 0 (by decide) (hts (.fieldLink RX3 1 "BigLedgerModel" "thrown" "I") (by decide +kernel)) (fun _ h9 => h9) rfl (by decide +kernel) (rfl) (rfl) (Nat.le_of_ble_eq_true rfl) dX3_withdraw_2 (fun H locs hP hD hS => ?_)
  have hP : va_P D vwCl (rW g cI cZ cB acc lm rm (mF N am T wk ou) (va_up y 0 (0 : Int32))) H := cv (ms_f 0 (0 : Int32) (by decide)) hP
  have hD : va_D (mA g) (rW g cI cZ cB acc lm rm (mF N am T wk ou) (va_up y 0 (0 : Int32))) := mlD hok
  refine lv_aload_n hx hb dX3_withdraw_5 rfl (lv_at hl 0 rfl) ?_
  refine va_get (D := D) (ci := 3) (v := .int ((va_up y 0 (0 : Int32)) 1)) (C := RX3) (T := TX3) (N := 18) hx hb hts hi3 hown hK hP 0 (wl_at (by omega)) rfl 11 (by decide) (hts (.fieldLink RX3 52 "BigLedgerModel" "up" "Z") (by decide +kernel)) (fun _ h9 => h9) rfl dX3_withdraw_6 ?_
  refine lv_if_ne (tgt := 15) hx hb dX3_withdraw_9 (by decide) (fun c0 => ?_) (fun c0 => ?_)
  · refine lv_aload_n hx hb dX3_withdraw_15 rfl (lv_at hl 0 rfl) ?_
    refine lv_iload_n hx hb dX3_withdraw_16 rfl (lv_at hl 1 rfl) ?_
    refine vp_callSi (W.runV (As := [.int (p0)]) (rest := []) ⟨hx, hb, hml, hown, hts⟩ (m_no l D g cI cZ cB acc lm rm N am T wk ou (va_up y 0 0) hok hacc p0) (cwV 1 hts gX3_withdraw_X3_no rfl rfl rfl (by decide +kernel) ⟨Nat.le_of_ble_eq_true rfl, Nat.le_of_ble_eq_true rfl⟩) ⟨nPc_blind, va_recv hK hP (ci := 3) (q0 := 0) rfl (wl_at (by omega)), nPc_use (hP) hK⟩ rfl rfl hl.1 rfl (lv_room (Nat.le_of_ble_eq_true rfl)) dX3_withdraw_17 ⟨Nat.le_of_ble_eq_true rfl, Nat.le_of_ble_eq_true rfl⟩) (fun ra hra => ?_)
    refine lv_if_eq (tgt := 25) hx hb dX3_withdraw_20 (by decide) (fun c1 => ?_) (fun c1 => ?_)
    · have ha : isAcc acc p0 = true := Classical.byContradiction (fun q => absurd (c1.symm.trans (hra.trans (if_neg q))) (by decide))
      obtain ⟨b, hqb, rfl⟩ := isAcc_t (by omega) ha
      have eb : (nI b).toNatClampNeg = b := nI_clamp (by omega)
      refine lv_aload_n hx hb dX3_withdraw_25 rfl (lv_at hl 0 rfl) ?_
      refine va_get (D := D) (ci := 3) (v := .ref (g 4)) (C := RX3) (T := TX3) (N := 18) hx hb hts hi3 hown hK hP 0 (wl_at (by omega)) rfl 7 (by decide) (hts (.fieldLink RX3 23 "BigLedgerModel" "amount" "[I") (by decide +kernel)) (fun _ h9 => h9) rfl dX3_withdraw_26 ?_
      refine lv_iconst (v := 0) hx hb dX3_withdraw_29 (by decide) ?_
      refine lv_aload_n hx hb dX3_withdraw_30 rfl (lv_at hl 0 rfl) ?_
      refine va_get (D := D) (ci := 3) (v := .ref (g 1)) (C := RX3) (T := TX3) (N := 18) hx hb hts hi3 hown hK hP 0 (wl_at (by omega)) rfl 4 (by decide) (hts (.fieldLink RX3 13 "BigLedgerModel" "now" "[I") (by decide +kernel)) (fun _ h9 => h9) rfl dX3_withdraw_31 ?_
      refine lv_bipush (v := 22) hx hb dX3_withdraw_34 (by decide) ?_
      refine lv_iload_n hx hb dX3_withdraw_36 rfl (lv_at hl 1 rfl) ?_
      refine lv_imul hx hb dX3_withdraw_37 ?_
      refine lv_topi (fun y78 ey78 => ?_)
      replace ey78 : y78 = nI (22 * b) := ey78.trans (pk_mul 22 b)
      subst ey78
      have hn1 := vp_cons (hP _ _ (wl_at (i := 4) (by omega))) (vp_cons (hP _ _ (wl_at (i := 1) (by omega))) vp_nil)
      refine vp_callSi (W.runS (As := [.ref (g 4), .int ((0 : Int32)), .ref (g 1), .int (nI (22 * b))]) (rest := []) ⟨hx, hb, hml, hown, hts⟩ (m_compared l D cI (g 4) 22 0 am (g 1) 550 (22 * b) (N 0 b) (lb am) (rowF (N 0)) (by omega) (by omega) (fun k _ => by rw [Nat.zero_add]) (by omega) (by omega) (fun k hk => rowF_at (N 0) hk) ham (hnow b (by omega))) (va_cwS 4 hts gX3_withdraw_X3_compared rfl rfl rfl (by decide +kernel) ⟨Nat.le_of_ble_eq_true rfl, Nat.le_of_ble_eq_true rfl⟩) ⟨nPc_blind, nPc_use (hn1) (hK.sub [0] rfl)⟩ rfl rfl hl.1 rfl (lv_room (Nat.le_of_ble_eq_true rfl)) dX3_withdraw_38 ⟨Nat.le_of_ble_eq_true rfl, Nat.le_of_ble_eq_true rfl⟩) (fun rg hrg => ?_)
      refine lv_if_le (tgt := 46) hx hb dX3_withdraw_41 (by decide) (fun c2 => ?_) (fun c2 => ?_)
      · replace c2 : ¬ N 0 b < am := by rw [hrg] at c2; exact cmpI_le0.mp c2
        refine lv_aload_n hx hb dX3_withdraw_46 rfl (lv_at hl 0 rfl) ?_
        refine lv_iload_n hx hb dX3_withdraw_47 rfl (lv_at hl 1 rfl) ?_
        refine lv_bipush (v := 24) hx hb dX3_withdraw_48 (by decide) ?_
        refine vp_callSi (W.runV (As := [.int (nI b), .int ((24 : Int32))]) (rest := []) ⟨hx, hb, hml, hown, hts⟩ (m_isFull l D g cI cZ cB acc lm rm N am T wk ou (va_up y 0 0) hok hacc hrm b 24 (by omega) (by omega)) (cwV 2 hts gX3_withdraw_X3_isFull rfl rfl rfl (by decide +kernel) ⟨Nat.le_of_ble_eq_true rfl, Nat.le_of_ble_eq_true rfl⟩) ⟨nPc_blind, va_recv hK hP (ci := 3) (q0 := 0) rfl (wl_at (by omega)), nPc_use (hP) hK⟩ rfl rfl hl.1 rfl (lv_room (Nat.le_of_ble_eq_true rfl)) dX3_withdraw_50 ⟨Nat.le_of_ble_eq_true rfl, Nat.le_of_ble_eq_true rfl⟩) (fun rf hrf => ?_)
        refine lv_if_eq (tgt := 58) hx hb dX3_withdraw_53 (by decide) (fun c3 => ?_) (fun c3 => ?_)
        · replace c3 : ¬ rm < fb_ct (T 0) 25 + mMore (T 0) b 24 := fun q => absurd (c3.symm.trans (hrf.trans (if_pos q))) (by decide)
          refine lv_aload_n hx hb dX3_withdraw_58 rfl (lv_at hl 0 rfl) ?_
          refine lv_iload_n hx hb dX3_withdraw_59 rfl (lv_at hl 1 rfl) ?_
          refine lv_iconst (v := 0) hx hb dX3_withdraw_60 (by decide) ?_
          refine va_callv (va_runV (As := [.int (nI b), .int ((0 : Int32))]) (rest := []) ⟨hx, hb, hml, hown, hts⟩ (m_chgS l D g cI cZ cB acc lm rm N am T wk ou (va_up y 0 0) hok hacc b (by omega) (by omega)) (cwV 2 hts gX3_withdraw_X3_change rfl rfl rfl (by decide +kernel) ⟨Nat.le_of_ble_eq_true rfl, Nat.le_of_ble_eq_true rfl⟩) ⟨nPc_blind, va_recv hK hP (ci := 3) (q0 := 0) rfl (wl_at (by omega)), nPc_use (hP) hK⟩ rfl rfl hl.1 rfl (lv_room (Nat.le_of_ble_eq_true rfl)) dX3_withdraw_61 ⟨Nat.le_of_ble_eq_true rfl, Nat.le_of_ble_eq_true rfl⟩) hS (fun q _ h => (fun _ h => h) q h) (fun _ h => h) (fun _u t H1 locs ht hvm hw hB hz1 hk9 hS => ?_)
          generalize H1 = H at ht hz1 hk9 hS ⊢
          have hP : va_P D vwCl (rW g cI cZ cB acc lm rm (mF (va_up N 0 (va_up (N 0) b (N 0 b - am))) am T wk ou) (va_up y 0 (0 : Int32))) H := pB_at ht hB
          have hD : va_D (mA g) (rW g cI cZ cB acc lm rm (mF (va_up N 0 (va_up (N 0) b (N 0 b - am))) am T wk ou) (va_up y 0 (0 : Int32))) := mlD hok
          refine lv_aload_n hx hb dX3_withdraw_64 rfl (lv_at hl 0 rfl) ?_
          refine lv_bipush (v := 24) hx hb dX3_withdraw_65 (by decide) ?_
          refine lv_iconst (v := 0) hx hb dX3_withdraw_67 (by decide) ?_
          refine va_callv (va_runV (As := [.int ((24 : Int32)), .int ((0 : Int32))]) (rest := []) ⟨hx, hb, hml, hown, hts⟩ (m_chgS l D g cI cZ cB acc lm rm (va_up N 0 (va_up (N 0) b (N 0 b - am))) am T wk ou (va_up y 0 0) hok hacc 24 (by omega) (by
            show am ≤ (va_up N 0 (va_up (N 0) b (N 0 b - am))) 0 24
            rw [va_up_self, va_up_ne _ _ (by omega)]
            exact hsub b (by omega) (by omega))) (cwV 2 hts gX3_withdraw_X3_change rfl rfl rfl (by decide +kernel) ⟨Nat.le_of_ble_eq_true rfl, Nat.le_of_ble_eq_true rfl⟩) ⟨nPc_blind, va_recv hK hP (ci := 3) (q0 := 0) rfl (wl_at (by omega)), nPc_use (hP) hK⟩ rfl rfl hl.1 rfl (lv_room (Nat.le_of_ble_eq_true rfl)) dX3_withdraw_68 ⟨Nat.le_of_ble_eq_true rfl, Nat.le_of_ble_eq_true rfl⟩) hS (fun q _ h => (fun _ h => h) q h) (fun _ h => h) (fun _u t H1 locs ht hvm hw hB hz1 hk9 hS => ?_)
          generalize H1 = H at ht hz1 hk9 hS ⊢
          have hP : va_P D vwCl (rW g cI cZ cB acc lm rm (mF (va_up (va_up N 0 (va_up (N 0) b (N 0 b - am))) 0 (va_up ((va_up N 0 (va_up (N 0) b (N 0 b - am))) 0) 24 ((va_up N 0 (va_up (N 0) b (N 0 b - am))) 0 24 - am))) am T wk ou) (va_up y 0 (0 : Int32))) H := pB_at ht hB
          have hD : va_D (mA g) (rW g cI cZ cB acc lm rm (mF (va_up (va_up N 0 (va_up (N 0) b (N 0 b - am))) 0 (va_up ((va_up N 0 (va_up (N 0) b (N 0 b - am))) 0) 24 ((va_up N 0 (va_up (N 0) b (N 0 b - am))) 0 24 - am))) am T wk ou) (va_up y 0 (0 : Int32))) := mlD hok
          refine lv_aload_n hx hb dX3_withdraw_71 rfl (lv_at hl 0 rfl) ?_
          refine va_get (D := D) (ci := 3) (v := .ref (g 6)) (C := RX3) (T := TX3) (N := 18) hx hb hts hi3 hown hK hP 0 (wl_at (by omega)) rfl 9 (by decide) (hts (.fieldLink RX3 29 "BigLedgerModel" "touched" "[Z") (by decide +kernel)) (fun _ h9 => h9) rfl dX3_withdraw_72 ?_
          refine lv_iload_n hx hb dX3_withdraw_75 rfl (lv_at hl 1 rfl) ?_
          refine lv_iconst (v := 1) hx hb dX3_withdraw_76 (by decide) ?_
          refine va_zast hx hb hK hP hD hS 6 1 (wl_at (by omega)) rfl (vp_in_nI (n := b) (by omega) (by omega)) dX3_withdraw_77 (fun H locs hP hD hS => ?_)
          have hP : va_P D vwCl (rW g cI cZ cB acc lm rm (va_up (mF (va_up (va_up N 0 (va_up (N 0) b (N 0 b - am))) 0 (va_up ((va_up N 0 (va_up (N 0) b (N 0 b - am))) 0) 24 ((va_up N 0 (va_up (N 0) b (N 0 b - am))) 0 24 - am))) am T wk ou) 6 (upd ((mF (va_up (va_up N 0 (va_up (N 0) b (N 0 b - am))) 0 (va_up ((va_up N 0 (va_up (N 0) b (N 0 b - am))) 0) 24 ((va_up N 0 (va_up (N 0) b (N 0 b - am))) 0 24 - am))) am T wk ou) 6) (nI b).toNatClampNeg (vp_nar .boolean ((1 : Int32))))) (va_up y 0 (0 : Int32))) H := cv (ms_a6 (upd ((mF (va_up (va_up N 0 (va_up (N 0) b (N 0 b - am))) 0 (va_up ((va_up N 0 (va_up (N 0) b (N 0 b - am))) 0) 24 ((va_up N 0 (va_up (N 0) b (N 0 b - am))) 0 24 - am))) am T wk ou) 6) (nI b).toNatClampNeg (vp_nar .boolean ((1 : Int32))))) hP
          have hD : va_D (mA g) (rW g cI cZ cB acc lm rm (va_up (mF (va_up (va_up N 0 (va_up (N 0) b (N 0 b - am))) 0 (va_up ((va_up N 0 (va_up (N 0) b (N 0 b - am))) 0) 24 ((va_up N 0 (va_up (N 0) b (N 0 b - am))) 0 24 - am))) am T wk ou) 6 (upd ((mF (va_up (va_up N 0 (va_up (N 0) b (N 0 b - am))) 0 (va_up ((va_up N 0 (va_up (N 0) b (N 0 b - am))) 0) 24 ((va_up N 0 (va_up (N 0) b (N 0 b - am))) 0 24 - am))) am T wk ou) 6) (nI b).toNatClampNeg (vp_nar .boolean ((1 : Int32))))) (va_up y 0 (0 : Int32))) := mlD hok
          have hP : va_P D vwCl (rW g cI cZ cB acc lm rm (mF (va_up (va_up N 0 (va_up (N 0) b (N 0 b - am))) 0 (va_up ((va_up N 0 (va_up (N 0) b (N 0 b - am))) 0) 24 ((va_up N 0 (va_up (N 0) b (N 0 b - am))) 0 24 - am))) am (va_up T 0 (va_up (T 0) b true)) wk ou) (va_up y 0 (0 : Int32))) H := rW_congr hP (fun q9 h1 h2 j hj => by
            match q9 with
            | 1 => rfl
            | 2 => rfl
            | 3 => rfl
            | 4 => rfl
            | 5 => rfl
            | 6 =>
              show upd (tb (T 0)) (nI b).toNatClampNeg (vp_nar .boolean 1) j = tb (va_up (T 0) b true) j
              rw [show (nI b).toNatClampNeg = b from nI_clamp (n := b) (by omega), tb_up (v := vp_nar .boolean 1) (T 0) b true rfl]
            | 7 => rfl
            | 8 => rfl
            | 0 => omega
            | q9 + 9 => omega)
          have hD : va_D (mA g) (rW g cI cZ cB acc lm rm (mF (va_up (va_up N 0 (va_up (N 0) b (N 0 b - am))) 0 (va_up ((va_up N 0 (va_up (N 0) b (N 0 b - am))) 0) 24 ((va_up N 0 (va_up (N 0) b (N 0 b - am))) 0 24 - am))) am (va_up T 0 (va_up (T 0) b true)) wk ou) (va_up y 0 (0 : Int32))) := mlD hok
          refine lv_aload_n hx hb dX3_withdraw_78 rfl (lv_at hl 0 rfl) ?_
          refine va_get (D := D) (ci := 3) (v := .ref (g 6)) (C := RX3) (T := TX3) (N := 18) hx hb hts hi3 hown hK hP 0 (wl_at (by omega)) rfl 9 (by decide) (hts (.fieldLink RX3 29 "BigLedgerModel" "touched" "[Z") (by decide +kernel)) (fun _ h9 => h9) rfl dX3_withdraw_79 ?_
          refine lv_bipush (v := 24) hx hb dX3_withdraw_82 (by decide) ?_
          refine lv_iconst (v := 1) hx hb dX3_withdraw_84 (by decide) ?_
          refine va_zast hx hb hK hP hD hS 6 1 (wl_at (by omega)) rfl (vp_in_nI (n := 24) (by omega) (by omega)) dX3_withdraw_85 (fun H locs hP hD hS => ?_)
          have hP : va_P D vwCl (rW g cI cZ cB acc lm rm (va_up (mF (va_up (va_up N 0 (va_up (N 0) b (N 0 b - am))) 0 (va_up ((va_up N 0 (va_up (N 0) b (N 0 b - am))) 0) 24 ((va_up N 0 (va_up (N 0) b (N 0 b - am))) 0 24 - am))) am (va_up T 0 (va_up (T 0) b true)) wk ou) 6 (upd ((mF (va_up (va_up N 0 (va_up (N 0) b (N 0 b - am))) 0 (va_up ((va_up N 0 (va_up (N 0) b (N 0 b - am))) 0) 24 ((va_up N 0 (va_up (N 0) b (N 0 b - am))) 0 24 - am))) am (va_up T 0 (va_up (T 0) b true)) wk ou) 6) ((24 : Int32)).toNatClampNeg (vp_nar .boolean ((1 : Int32))))) (va_up y 0 (0 : Int32))) H := cv (ms_a6 (upd ((mF (va_up (va_up N 0 (va_up (N 0) b (N 0 b - am))) 0 (va_up ((va_up N 0 (va_up (N 0) b (N 0 b - am))) 0) 24 ((va_up N 0 (va_up (N 0) b (N 0 b - am))) 0 24 - am))) am (va_up T 0 (va_up (T 0) b true)) wk ou) 6) ((24 : Int32)).toNatClampNeg (vp_nar .boolean ((1 : Int32))))) hP
          have hD : va_D (mA g) (rW g cI cZ cB acc lm rm (va_up (mF (va_up (va_up N 0 (va_up (N 0) b (N 0 b - am))) 0 (va_up ((va_up N 0 (va_up (N 0) b (N 0 b - am))) 0) 24 ((va_up N 0 (va_up (N 0) b (N 0 b - am))) 0 24 - am))) am (va_up T 0 (va_up (T 0) b true)) wk ou) 6 (upd ((mF (va_up (va_up N 0 (va_up (N 0) b (N 0 b - am))) 0 (va_up ((va_up N 0 (va_up (N 0) b (N 0 b - am))) 0) 24 ((va_up N 0 (va_up (N 0) b (N 0 b - am))) 0 24 - am))) am (va_up T 0 (va_up (T 0) b true)) wk ou) 6) ((24 : Int32)).toNatClampNeg (vp_nar .boolean ((1 : Int32))))) (va_up y 0 (0 : Int32))) := mlD hok
          have hP : va_P D vwCl (rW g cI cZ cB acc lm rm (mF (va_up (va_up N 0 (va_up (N 0) b (N 0 b - am))) 0 (va_up ((va_up N 0 (va_up (N 0) b (N 0 b - am))) 0) 24 ((va_up N 0 (va_up (N 0) b (N 0 b - am))) 0 24 - am))) am (va_up (va_up T 0 (va_up (T 0) b true)) 0 (va_up ((va_up T 0 (va_up (T 0) b true)) 0) 24 true)) wk ou) (va_up y 0 (0 : Int32))) H := rW_congr hP (fun q9 h1 h2 j hj => by
            match q9 with
            | 1 => rfl
            | 2 => rfl
            | 3 => rfl
            | 4 => rfl
            | 5 => rfl
            | 6 =>
              show upd (tb ((va_up T 0 (va_up (T 0) b true)) 0)) ((24 : Int32)).toNatClampNeg (vp_nar .boolean 1) j = tb (va_up ((va_up T 0 (va_up (T 0) b true)) 0) 24 true) j
              rw [show ((24 : Int32)).toNatClampNeg = 24 from nI_clamp (n := 24) (by omega), tb_up (v := vp_nar .boolean 1) ((va_up T 0 (va_up (T 0) b true)) 0) 24 true rfl]
            | 7 => rfl
            | 8 => rfl
            | 0 => omega
            | q9 + 9 => omega)
          have hD : va_D (mA g) (rW g cI cZ cB acc lm rm (mF (va_up (va_up N 0 (va_up (N 0) b (N 0 b - am))) 0 (va_up ((va_up N 0 (va_up (N 0) b (N 0 b - am))) 0) 24 ((va_up N 0 (va_up (N 0) b (N 0 b - am))) 0 24 - am))) am (va_up (va_up T 0 (va_up (T 0) b true)) 0 (va_up ((va_up T 0 (va_up (T 0) b true)) 0) 24 true)) wk ou) (va_up y 0 (0 : Int32))) := mlD hok
          refine lv_iconst (v := 0) hx hb dX3_withdraw_86 (by decide) ?_
          exact W.iret (v := 0) hx hb hr (fun t ht hW => ⟨⟨_, mTou (mTou (mDec (mDec (setY (N, am, T, y) 0 0) b) 24) b) 24, rfl, by rw [mWd, eb]; exact ((if_neg (c0)).trans ((if_neg ((fun q => q ha))).trans ((if_neg (c2)).trans (if_neg (c3))))).symm, hp_at ht hP⟩, hS.F ht⟩) hS.2.2 dX3_withdraw_87
        · replace c3 : rm < fb_ct (T 0) 25 + mMore (T 0) b 24 := Classical.byContradiction (fun q => c3 (hrf.trans (if_neg q)))
          refine lv_iconst (v := 4) hx hb dX3_withdraw_56 (by decide) ?_
          exact W.iret (v := 4) hx hb hr (fun t ht hW => ⟨⟨_, (setY (N, am, T, y) 0 0), rfl, by rw [mWd, eb]; exact ((if_neg (c0)).trans ((if_neg ((fun q => q ha))).trans ((if_neg (c2)).trans (if_pos (c3))))).symm, hp_at ht hP⟩, hS.F ht⟩) hS.2.2 dX3_withdraw_57
      · replace c2 : N 0 b < am := Classical.byContradiction (fun q => c2 (by rw [hrg]; exact cmpI_le0.mpr q))
        refine lv_iconst (v := 2) hx hb dX3_withdraw_44 (by decide) ?_
        exact W.iret (v := 2) hx hb hr (fun t ht hW => ⟨⟨_, (setY (N, am, T, y) 0 0), rfl, by rw [mWd, eb]; exact ((if_neg (c0)).trans ((if_neg ((fun q => q ha))).trans (if_pos (c2)))).symm, hp_at ht hP⟩, hS.F ht⟩) hS.2.2 dX3_withdraw_45
    · have ha : ¬ isAcc acc p0 = true := fun q => c1 (hra.trans (if_pos q))
      refine lv_iconst (v := 1) hx hb dX3_withdraw_23 (by decide) ?_
      exact W.iret (v := 1) hx hb hr (fun t ht hW => ⟨⟨_, (setY (N, am, T, y) 0 0), rfl, by rw [mWd]; exact ((if_neg (c0)).trans (if_pos (ha))).symm, hp_at ht hP⟩, hS.F ht⟩) hS.2.2 dX3_withdraw_24
  · refine lv_bipush (v := 6) hx hb dX3_withdraw_12 (by decide) ?_
    exact W.iret (v := 6) hx hb hr (fun t ht hW => ⟨⟨_, (setY (N, am, T, y) 0 0), rfl, by rw [mWd]; exact (if_pos (c0)).symm, hp_at ht hP⟩, hS.F ht⟩) hS.2.2 dX3_withdraw_14
set_option maxHeartbeats 4000000 in
set_option maxRecDepth 100000 in
theorem m_transfer (l : Launch) (D : va_G) (g : Nat → Nat) (cI cZ cB : ClassId) (acc lm rm : Nat) (N : LN) (am : Nat) (T : BN) (wk ou y : Nat → Int32) (hok : mOk g) (hacc : acc ≤ 24) (hlm2 : lm ≤ 20) (hrm : rm ≤ 25) (ham : am < 2147483648 ^ 22) (p0 p1 : Int32) (hnow : ∀ b, b < 25 → N 0 b < 2147483648 ^ 22) (hadd : ∀ b, b < 25 → N 0 b + am < 2147483648 ^ 22) : Met l yX3_transfer wsX3_transfer ({ frames := 2, cells := 0, slots := 0, locals := 45 }) (nPc [.ref (g 0), .int (p0), .int (p1)] D (rW g cI cZ cB acc lm rm (mF N am T wk ou) y) [(cI, .int), (cZ, .boolean), (cB, .byte)]) (va_Qi (fun (r : Int32) (u : MS) => (r, u) = mTr acc lm rm p0 p1 (N, am, T, y)) (fun u t => va_P D vwCl (rW g cI cZ cB acc lm rm (mF u.1 u.2.1 u.2.2.1 wk ou) u.2.2.2) t.heap) (mA g)) 0 0 (mA g) := by
  refine Met.ofW (cc := cX3_transfer) (maxL := 3) (ret := (some .int)) (by decide) rfl ?_
  intro p e s m args below meth c s₁ B hml hv
  obtain ⟨rfl, hP, hK⟩ := hv
  have hx := B.exec
  have hb := B.bytes
  have hr := B.returns
  have hts := atoms_spec (ws := wsX3_transfer) B.pre
  have hown : s.vm.findClass RX3 = some m.cls := findClass_of_methodNamed B.named
  have hlocks := B.notSynchronized
  have hi3 : ∀ w ∈ wsX30, w ∈ wsX3_transfer := by decide +kernel
  have hS : va_S (mA g) s.heap s.heap [] := va_S.rf
  have hD : va_D (mA g) (rW g cI cZ cB acc lm rm (mF N am T wk ou) y) := mlD hok
  have hl := lv_entry ([.ref (g 0), .int (p0), .int (p1)]) (n := 3) (Nat.le_of_ble_eq_true rfl)
  rw [lg_entry_eq]
  generalize (lg_sl ([.ref (g 0), .int (p0), .int (p1)]) ++ List.replicate (3 - (lg_sl ([.ref (g 0), .int (p0), .int (p1)])).length) Slot.unset).toArray = ls at hl ⊢
  have hl : lv_has ls 3 [(0, .ref (g 0)), (1, .int (p0)), (2, .int (p1))] := hl
  refine lv_aload_n hx hb dX3_transfer_0 rfl (lv_at hl 0 rfl) ?_
  refine lv_iconst (v := 0) hx hb dX3_transfer_1 (by decide) ?_
  refine va_put (D := D) (ci := 3) (v := .int ((0 : Int32))) (ty := .int) (C := RX3) (T := TX3) (N := 18) hx hb hts hi3 tyX3 tyX3_ok nmX3 hown hK hP hD hS 0 (wl_at (by omega)) rfl 0 (by decide) (hts (.fieldLink RX3 1 "BigLedgerModel" "thrown" "I") (by decide +kernel)) (fun _ h9 => h9) rfl (by decide +kernel) (rfl) (rfl) (Nat.le_of_ble_eq_true rfl) dX3_transfer_2 (fun H locs hP hD hS => ?_)
  have hP : va_P D vwCl (rW g cI cZ cB acc lm rm (mF N am T wk ou) (va_up y 0 (0 : Int32))) H := cv (ms_f 0 (0 : Int32) (by decide)) hP
  have hD : va_D (mA g) (rW g cI cZ cB acc lm rm (mF N am T wk ou) (va_up y 0 (0 : Int32))) := mlD hok
  refine lv_aload_n hx hb dX3_transfer_5 rfl (lv_at hl 0 rfl) ?_
  refine va_get (D := D) (ci := 3) (v := .int ((va_up y 0 (0 : Int32)) 1)) (C := RX3) (T := TX3) (N := 18) hx hb hts hi3 hown hK hP 0 (wl_at (by omega)) rfl 11 (by decide) (hts (.fieldLink RX3 52 "BigLedgerModel" "up" "Z") (by decide +kernel)) (fun _ h9 => h9) rfl dX3_transfer_6 ?_
  refine lv_if_ne (tgt := 15) hx hb dX3_transfer_9 (by decide) (fun c0 => ?_) (fun c0 => ?_)
  · refine lv_aload_n hx hb dX3_transfer_15 rfl (lv_at hl 0 rfl) ?_
    refine lv_iload_n hx hb dX3_transfer_16 rfl (lv_at hl 1 rfl) ?_
    refine vp_callSi (W.runV (As := [.int (p0)]) (rest := []) ⟨hx, hb, hml, hown, hts⟩ (m_no l D g cI cZ cB acc lm rm N am T wk ou (va_up y 0 0) hok hacc p0) (cwV 1 hts gX3_transfer_X3_no rfl rfl rfl (by decide +kernel) ⟨Nat.le_of_ble_eq_true rfl, Nat.le_of_ble_eq_true rfl⟩) ⟨nPc_blind, va_recv hK hP (ci := 3) (q0 := 0) rfl (wl_at (by omega)), nPc_use (hP) hK⟩ rfl rfl hl.1 rfl (lv_room (Nat.le_of_ble_eq_true rfl)) dX3_transfer_17 ⟨Nat.le_of_ble_eq_true rfl, Nat.le_of_ble_eq_true rfl⟩) (fun ra hra => ?_)
    refine lv_if_ne (tgt := 31) hx hb dX3_transfer_20 (by decide) (fun c1 => ?_) (fun c1 => ?_)
    · have ha : ¬ isAcc acc p0 = true := fun q => c1 (hra.trans (if_pos q))
      refine lv_iconst (v := 1) hx hb dX3_transfer_31 (by decide) ?_
      exact W.iret (v := 1) hx hb hr (fun t ht hW => ⟨⟨_, (setY (N, am, T, y) 0 0), rfl, by rw [mTr]; exact ((if_neg (c0)).trans (if_pos ((fun q => ha q.1)))).symm, hp_at ht hP⟩, hS.F ht⟩) hS.2.2 dX3_transfer_32
    · have ha : isAcc acc p0 = true := Classical.byContradiction (fun q => absurd (c1.symm.trans (hra.trans (if_neg q))) (by decide))
      obtain ⟨b, hqb, rfl⟩ := isAcc_t (by omega) ha
      have eb : (nI b).toNatClampNeg = b := nI_clamp (by omega)
      refine lv_aload_n hx hb dX3_transfer_23 rfl (lv_at hl 0 rfl) ?_
      refine lv_iload_n hx hb dX3_transfer_24 rfl (lv_at hl 2 rfl) ?_
      refine vp_callSi (W.runV (As := [.int (p1)]) (rest := []) ⟨hx, hb, hml, hown, hts⟩ (m_no l D g cI cZ cB acc lm rm N am T wk ou (va_up y 0 0) hok hacc p1) (cwV 1 hts gX3_transfer_X3_no rfl rfl rfl (by decide +kernel) ⟨Nat.le_of_ble_eq_true rfl, Nat.le_of_ble_eq_true rfl⟩) ⟨nPc_blind, va_recv hK hP (ci := 3) (q0 := 0) rfl (wl_at (by omega)), nPc_use (hP) hK⟩ rfl rfl hl.1 rfl (lv_room (Nat.le_of_ble_eq_true rfl)) dX3_transfer_25 ⟨Nat.le_of_ble_eq_true rfl, Nat.le_of_ble_eq_true rfl⟩) (fun rb hrb => ?_)
      refine lv_if_eq (tgt := 33) hx hb dX3_transfer_28 (by decide) (fun c12 => ?_) (fun c12 => ?_)
      · have ha2 : isAcc acc p1 = true := Classical.byContradiction (fun q => absurd (c12.symm.trans (hrb.trans (if_neg q))) (by decide))
        obtain ⟨d, hqd, rfl⟩ := isAcc_t (by omega) ha2
        have ed : (nI d).toNatClampNeg = d := nI_clamp (by omega)
        refine lv_aload_n hx hb dX3_transfer_33 rfl (lv_at hl 0 rfl) ?_
        refine va_get (D := D) (ci := 3) (v := .ref (g 4)) (C := RX3) (T := TX3) (N := 18) hx hb hts hi3 hown hK hP 0 (wl_at (by omega)) rfl 7 (by decide) (hts (.fieldLink RX3 23 "BigLedgerModel" "amount" "[I") (by decide +kernel)) (fun _ h9 => h9) rfl dX3_transfer_34 ?_
        refine lv_iconst (v := 0) hx hb dX3_transfer_37 (by decide) ?_
        refine lv_aload_n hx hb dX3_transfer_38 rfl (lv_at hl 0 rfl) ?_
        refine va_get (D := D) (ci := 3) (v := .ref (g 1)) (C := RX3) (T := TX3) (N := 18) hx hb hts hi3 hown hK hP 0 (wl_at (by omega)) rfl 4 (by decide) (hts (.fieldLink RX3 13 "BigLedgerModel" "now" "[I") (by decide +kernel)) (fun _ h9 => h9) rfl dX3_transfer_39 ?_
        refine lv_bipush (v := 22) hx hb dX3_transfer_42 (by decide) ?_
        refine lv_iload_n hx hb dX3_transfer_44 rfl (lv_at hl 1 rfl) ?_
        refine lv_imul hx hb dX3_transfer_45 ?_
        refine lv_topi (fun y79 ey79 => ?_)
        replace ey79 : y79 = nI (22 * b) := ey79.trans (pk_mul 22 b)
        subst ey79
        have hn1 := vp_cons (hP _ _ (wl_at (i := 4) (by omega))) (vp_cons (hP _ _ (wl_at (i := 1) (by omega))) vp_nil)
        refine vp_callSi (W.runS (As := [.ref (g 4), .int ((0 : Int32)), .ref (g 1), .int (nI (22 * b))]) (rest := []) ⟨hx, hb, hml, hown, hts⟩ (m_compared l D cI (g 4) 22 0 am (g 1) 550 (22 * b) (N 0 b) (lb am) (rowF (N 0)) (by omega) (by omega) (fun k _ => by rw [Nat.zero_add]) (by omega) (by omega) (fun k hk => rowF_at (N 0) hk) ham (hnow b (by omega))) (va_cwS 4 hts gX3_transfer_X3_compared rfl rfl rfl (by decide +kernel) ⟨Nat.le_of_ble_eq_true rfl, Nat.le_of_ble_eq_true rfl⟩) ⟨nPc_blind, nPc_use (hn1) (hK.sub [0] rfl)⟩ rfl rfl hl.1 rfl (lv_room (Nat.le_of_ble_eq_true rfl)) dX3_transfer_46 ⟨Nat.le_of_ble_eq_true rfl, Nat.le_of_ble_eq_true rfl⟩) (fun rg hrg => ?_)
        refine lv_if_le (tgt := 54) hx hb dX3_transfer_49 (by decide) (fun c2 => ?_) (fun c2 => ?_)
        · replace c2 : ¬ N 0 b < am := by rw [hrg] at c2; exact cmpI_le0.mp c2
          refine lv_iload_n hx hb dX3_transfer_54 rfl (lv_at hl 1 rfl) ?_
          refine lv_iload_n hx hb dX3_transfer_55 rfl (lv_at hl 2 rfl) ?_
          refine lv_icmp_eq (tgt := 69) hx hb dX3_transfer_56 (by decide) (fun c22 => ?_) (fun c22 => ?_)
          · refine lv_aload_n hx hb dX3_transfer_69 rfl (lv_at hl 0 rfl) ?_
            refine lv_iload_n hx hb dX3_transfer_70 rfl (lv_at hl 1 rfl) ?_
            refine lv_iload_n hx hb dX3_transfer_71 rfl (lv_at hl 2 rfl) ?_
            refine vp_callSi (W.runV (As := [.int (nI b), .int (nI d)]) (rest := []) ⟨hx, hb, hml, hown, hts⟩ (m_isFull l D g cI cZ cB acc lm rm N am T wk ou (va_up y 0 0) hok hacc hrm b d (by omega) (by omega)) (cwV 2 hts gX3_transfer_X3_isFull rfl rfl rfl (by decide +kernel) ⟨Nat.le_of_ble_eq_true rfl, Nat.le_of_ble_eq_true rfl⟩) ⟨nPc_blind, va_recv hK hP (ci := 3) (q0 := 0) rfl (wl_at (by omega)), nPc_use (hP) hK⟩ rfl rfl hl.1 rfl (lv_room (Nat.le_of_ble_eq_true rfl)) dX3_transfer_72 ⟨Nat.le_of_ble_eq_true rfl, Nat.le_of_ble_eq_true rfl⟩) (fun rf hrf => ?_)
            refine lv_if_eq (tgt := 80) hx hb dX3_transfer_75 (by decide) (fun c3 => ?_) (fun c3 => ?_)
            · replace c3 : ¬ rm < fb_ct (T 0) 25 + mMore (T 0) b d := fun q => absurd (c3.symm.trans (hrf.trans (if_pos q))) (by decide)
              refine lv_aload_n hx hb dX3_transfer_80 rfl (lv_at hl 0 rfl) ?_
              refine lv_iload_n hx hb dX3_transfer_81 rfl (lv_at hl 1 rfl) ?_
              refine lv_iconst (v := 0) hx hb dX3_transfer_82 (by decide) ?_
              refine va_callv (va_runV (As := [.int (nI b), .int ((0 : Int32))]) (rest := []) ⟨hx, hb, hml, hown, hts⟩ (m_chgS l D g cI cZ cB acc lm rm N am T wk ou (va_up y 0 0) hok hacc b (by omega) (by omega)) (cwV 2 hts gX3_transfer_X3_change rfl rfl rfl (by decide +kernel) ⟨Nat.le_of_ble_eq_true rfl, Nat.le_of_ble_eq_true rfl⟩) ⟨nPc_blind, va_recv hK hP (ci := 3) (q0 := 0) rfl (wl_at (by omega)), nPc_use (hP) hK⟩ rfl rfl hl.1 rfl (lv_room (Nat.le_of_ble_eq_true rfl)) dX3_transfer_83 ⟨Nat.le_of_ble_eq_true rfl, Nat.le_of_ble_eq_true rfl⟩) hS (fun q _ h => (fun _ h => h) q h) (fun _ h => h) (fun _u t H1 locs ht hvm hw hB hz1 hk9 hS => ?_)
              generalize H1 = H at ht hz1 hk9 hS ⊢
              have hP : va_P D vwCl (rW g cI cZ cB acc lm rm (mF (va_up N 0 (va_up (N 0) b (N 0 b - am))) am T wk ou) (va_up y 0 (0 : Int32))) H := pB_at ht hB
              have hD : va_D (mA g) (rW g cI cZ cB acc lm rm (mF (va_up N 0 (va_up (N 0) b (N 0 b - am))) am T wk ou) (va_up y 0 (0 : Int32))) := mlD hok
              refine lv_aload_n hx hb dX3_transfer_86 rfl (lv_at hl 0 rfl) ?_
              refine lv_iload_n hx hb dX3_transfer_87 rfl (lv_at hl 2 rfl) ?_
              refine lv_iconst (v := 1) hx hb dX3_transfer_88 (by decide) ?_
              refine va_callv (va_runV (As := [.int (nI d), .int ((1 : Int32))]) (rest := []) ⟨hx, hb, hml, hown, hts⟩ (m_chgA l D g cI cZ cB acc lm rm (va_up N 0 (va_up (N 0) b (N 0 b - am))) am T wk ou (va_up y 0 0) hok hacc d (by omega) (by
                show (va_up N 0 (va_up (N 0) b (N 0 b - am))) 0 d + am < _
                rw [va_up_self]
                by_cases hbd : d = b
                · subst hbd; rw [va_up_self]; have := hadd d (by omega); omega
                · rw [va_up_ne _ _ hbd]; exact hadd d (by omega))) (cwV 2 hts gX3_transfer_X3_change rfl rfl rfl (by decide +kernel) ⟨Nat.le_of_ble_eq_true rfl, Nat.le_of_ble_eq_true rfl⟩) ⟨nPc_blind, va_recv hK hP (ci := 3) (q0 := 0) rfl (wl_at (by omega)), nPc_use (hP) hK⟩ rfl rfl hl.1 rfl (lv_room (Nat.le_of_ble_eq_true rfl)) dX3_transfer_89 ⟨Nat.le_of_ble_eq_true rfl, Nat.le_of_ble_eq_true rfl⟩) hS (fun q _ h => (fun _ h => h) q h) (fun _ h => h) (fun _u t H1 locs ht hvm hw hB hz1 hk9 hS => ?_)
              generalize H1 = H at ht hz1 hk9 hS ⊢
              have hP : va_P D vwCl (rW g cI cZ cB acc lm rm (mF (va_up (va_up N 0 (va_up (N 0) b (N 0 b - am))) 0 (va_up ((va_up N 0 (va_up (N 0) b (N 0 b - am))) 0) d ((va_up N 0 (va_up (N 0) b (N 0 b - am))) 0 d + am))) am T wk ou) (va_up y 0 (0 : Int32))) H := pB_at ht hB
              have hD : va_D (mA g) (rW g cI cZ cB acc lm rm (mF (va_up (va_up N 0 (va_up (N 0) b (N 0 b - am))) 0 (va_up ((va_up N 0 (va_up (N 0) b (N 0 b - am))) 0) d ((va_up N 0 (va_up (N 0) b (N 0 b - am))) 0 d + am))) am T wk ou) (va_up y 0 (0 : Int32))) := mlD hok
              refine lv_aload_n hx hb dX3_transfer_92 rfl (lv_at hl 0 rfl) ?_
              refine va_get (D := D) (ci := 3) (v := .ref (g 6)) (C := RX3) (T := TX3) (N := 18) hx hb hts hi3 hown hK hP 0 (wl_at (by omega)) rfl 9 (by decide) (hts (.fieldLink RX3 29 "BigLedgerModel" "touched" "[Z") (by decide +kernel)) (fun _ h9 => h9) rfl dX3_transfer_93 ?_
              refine lv_iload_n hx hb dX3_transfer_96 rfl (lv_at hl 1 rfl) ?_
              refine lv_iconst (v := 1) hx hb dX3_transfer_97 (by decide) ?_
              refine va_zast hx hb hK hP hD hS 6 1 (wl_at (by omega)) rfl (vp_in_nI (n := b) (by omega) (by omega)) dX3_transfer_98 (fun H locs hP hD hS => ?_)
              have hP : va_P D vwCl (rW g cI cZ cB acc lm rm (va_up (mF (va_up (va_up N 0 (va_up (N 0) b (N 0 b - am))) 0 (va_up ((va_up N 0 (va_up (N 0) b (N 0 b - am))) 0) d ((va_up N 0 (va_up (N 0) b (N 0 b - am))) 0 d + am))) am T wk ou) 6 (upd ((mF (va_up (va_up N 0 (va_up (N 0) b (N 0 b - am))) 0 (va_up ((va_up N 0 (va_up (N 0) b (N 0 b - am))) 0) d ((va_up N 0 (va_up (N 0) b (N 0 b - am))) 0 d + am))) am T wk ou) 6) (nI b).toNatClampNeg (vp_nar .boolean ((1 : Int32))))) (va_up y 0 (0 : Int32))) H := cv (ms_a6 (upd ((mF (va_up (va_up N 0 (va_up (N 0) b (N 0 b - am))) 0 (va_up ((va_up N 0 (va_up (N 0) b (N 0 b - am))) 0) d ((va_up N 0 (va_up (N 0) b (N 0 b - am))) 0 d + am))) am T wk ou) 6) (nI b).toNatClampNeg (vp_nar .boolean ((1 : Int32))))) hP
              have hD : va_D (mA g) (rW g cI cZ cB acc lm rm (va_up (mF (va_up (va_up N 0 (va_up (N 0) b (N 0 b - am))) 0 (va_up ((va_up N 0 (va_up (N 0) b (N 0 b - am))) 0) d ((va_up N 0 (va_up (N 0) b (N 0 b - am))) 0 d + am))) am T wk ou) 6 (upd ((mF (va_up (va_up N 0 (va_up (N 0) b (N 0 b - am))) 0 (va_up ((va_up N 0 (va_up (N 0) b (N 0 b - am))) 0) d ((va_up N 0 (va_up (N 0) b (N 0 b - am))) 0 d + am))) am T wk ou) 6) (nI b).toNatClampNeg (vp_nar .boolean ((1 : Int32))))) (va_up y 0 (0 : Int32))) := mlD hok
              have hP : va_P D vwCl (rW g cI cZ cB acc lm rm (mF (va_up (va_up N 0 (va_up (N 0) b (N 0 b - am))) 0 (va_up ((va_up N 0 (va_up (N 0) b (N 0 b - am))) 0) d ((va_up N 0 (va_up (N 0) b (N 0 b - am))) 0 d + am))) am (va_up T 0 (va_up (T 0) b true)) wk ou) (va_up y 0 (0 : Int32))) H := rW_congr hP (fun q9 h1 h2 j hj => by
                match q9 with
                | 1 => rfl
                | 2 => rfl
                | 3 => rfl
                | 4 => rfl
                | 5 => rfl
                | 6 =>
                  show upd (tb (T 0)) (nI b).toNatClampNeg (vp_nar .boolean 1) j = tb (va_up (T 0) b true) j
                  rw [show (nI b).toNatClampNeg = b from nI_clamp (n := b) (by omega), tb_up (v := vp_nar .boolean 1) (T 0) b true rfl]
                | 7 => rfl
                | 8 => rfl
                | 0 => omega
                | q9 + 9 => omega)
              have hD : va_D (mA g) (rW g cI cZ cB acc lm rm (mF (va_up (va_up N 0 (va_up (N 0) b (N 0 b - am))) 0 (va_up ((va_up N 0 (va_up (N 0) b (N 0 b - am))) 0) d ((va_up N 0 (va_up (N 0) b (N 0 b - am))) 0 d + am))) am (va_up T 0 (va_up (T 0) b true)) wk ou) (va_up y 0 (0 : Int32))) := mlD hok
              refine lv_aload_n hx hb dX3_transfer_99 rfl (lv_at hl 0 rfl) ?_
              refine va_get (D := D) (ci := 3) (v := .ref (g 6)) (C := RX3) (T := TX3) (N := 18) hx hb hts hi3 hown hK hP 0 (wl_at (by omega)) rfl 9 (by decide) (hts (.fieldLink RX3 29 "BigLedgerModel" "touched" "[Z") (by decide +kernel)) (fun _ h9 => h9) rfl dX3_transfer_100 ?_
              refine lv_iload_n hx hb dX3_transfer_103 rfl (lv_at hl 2 rfl) ?_
              refine lv_iconst (v := 1) hx hb dX3_transfer_104 (by decide) ?_
              refine va_zast hx hb hK hP hD hS 6 1 (wl_at (by omega)) rfl (vp_in_nI (n := d) (by omega) (by omega)) dX3_transfer_105 (fun H locs hP hD hS => ?_)
              have hP : va_P D vwCl (rW g cI cZ cB acc lm rm (va_up (mF (va_up (va_up N 0 (va_up (N 0) b (N 0 b - am))) 0 (va_up ((va_up N 0 (va_up (N 0) b (N 0 b - am))) 0) d ((va_up N 0 (va_up (N 0) b (N 0 b - am))) 0 d + am))) am (va_up T 0 (va_up (T 0) b true)) wk ou) 6 (upd ((mF (va_up (va_up N 0 (va_up (N 0) b (N 0 b - am))) 0 (va_up ((va_up N 0 (va_up (N 0) b (N 0 b - am))) 0) d ((va_up N 0 (va_up (N 0) b (N 0 b - am))) 0 d + am))) am (va_up T 0 (va_up (T 0) b true)) wk ou) 6) (nI d).toNatClampNeg (vp_nar .boolean ((1 : Int32))))) (va_up y 0 (0 : Int32))) H := cv (ms_a6 (upd ((mF (va_up (va_up N 0 (va_up (N 0) b (N 0 b - am))) 0 (va_up ((va_up N 0 (va_up (N 0) b (N 0 b - am))) 0) d ((va_up N 0 (va_up (N 0) b (N 0 b - am))) 0 d + am))) am (va_up T 0 (va_up (T 0) b true)) wk ou) 6) (nI d).toNatClampNeg (vp_nar .boolean ((1 : Int32))))) hP
              have hD : va_D (mA g) (rW g cI cZ cB acc lm rm (va_up (mF (va_up (va_up N 0 (va_up (N 0) b (N 0 b - am))) 0 (va_up ((va_up N 0 (va_up (N 0) b (N 0 b - am))) 0) d ((va_up N 0 (va_up (N 0) b (N 0 b - am))) 0 d + am))) am (va_up T 0 (va_up (T 0) b true)) wk ou) 6 (upd ((mF (va_up (va_up N 0 (va_up (N 0) b (N 0 b - am))) 0 (va_up ((va_up N 0 (va_up (N 0) b (N 0 b - am))) 0) d ((va_up N 0 (va_up (N 0) b (N 0 b - am))) 0 d + am))) am (va_up T 0 (va_up (T 0) b true)) wk ou) 6) (nI d).toNatClampNeg (vp_nar .boolean ((1 : Int32))))) (va_up y 0 (0 : Int32))) := mlD hok
              have hP : va_P D vwCl (rW g cI cZ cB acc lm rm (mF (va_up (va_up N 0 (va_up (N 0) b (N 0 b - am))) 0 (va_up ((va_up N 0 (va_up (N 0) b (N 0 b - am))) 0) d ((va_up N 0 (va_up (N 0) b (N 0 b - am))) 0 d + am))) am (va_up (va_up T 0 (va_up (T 0) b true)) 0 (va_up ((va_up T 0 (va_up (T 0) b true)) 0) d true)) wk ou) (va_up y 0 (0 : Int32))) H := rW_congr hP (fun q9 h1 h2 j hj => by
                match q9 with
                | 1 => rfl
                | 2 => rfl
                | 3 => rfl
                | 4 => rfl
                | 5 => rfl
                | 6 =>
                  show upd (tb ((va_up T 0 (va_up (T 0) b true)) 0)) (nI d).toNatClampNeg (vp_nar .boolean 1) j = tb (va_up ((va_up T 0 (va_up (T 0) b true)) 0) d true) j
                  rw [show (nI d).toNatClampNeg = d from nI_clamp (n := d) (by omega), tb_up (v := vp_nar .boolean 1) ((va_up T 0 (va_up (T 0) b true)) 0) d true rfl]
                | 7 => rfl
                | 8 => rfl
                | 0 => omega
                | q9 + 9 => omega)
              have hD : va_D (mA g) (rW g cI cZ cB acc lm rm (mF (va_up (va_up N 0 (va_up (N 0) b (N 0 b - am))) 0 (va_up ((va_up N 0 (va_up (N 0) b (N 0 b - am))) 0) d ((va_up N 0 (va_up (N 0) b (N 0 b - am))) 0 d + am))) am (va_up (va_up T 0 (va_up (T 0) b true)) 0 (va_up ((va_up T 0 (va_up (T 0) b true)) 0) d true)) wk ou) (va_up y 0 (0 : Int32))) := mlD hok
              refine lv_iconst (v := 0) hx hb dX3_transfer_106 (by decide) ?_
              exact W.iret (v := 0) hx hb hr (fun t ht hW => ⟨⟨_, mTou (mTou (mInc (mDec (setY (N, am, T, y) 0 0) b) d) b) d, rfl, by rw [mTr, eb, ed]; exact ((if_neg (c0)).trans ((if_neg ((fun q => q ⟨ha, ha2⟩))).trans ((if_neg (c2)).trans ((if_neg ((fun q => q.1 c22))).trans (if_neg (c3)))))).symm, hp_at ht hP⟩, hS.F ht⟩) hS.2.2 dX3_transfer_107
            · replace c3 : rm < fb_ct (T 0) 25 + mMore (T 0) b d := Classical.byContradiction (fun q => c3 (hrf.trans (if_neg q)))
              refine lv_iconst (v := 4) hx hb dX3_transfer_78 (by decide) ?_
              exact W.iret (v := 4) hx hb hr (fun t ht hW => ⟨⟨_, (setY (N, am, T, y) 0 0), rfl, by rw [mTr, eb, ed]; exact ((if_neg (c0)).trans ((if_neg ((fun q => q ⟨ha, ha2⟩))).trans ((if_neg (c2)).trans ((if_neg ((fun q => q.1 c22))).trans (if_pos (c3)))))).symm, hp_at ht hP⟩, hS.F ht⟩) hS.2.2 dX3_transfer_79
          · refine lv_aload_n hx hb dX3_transfer_59 rfl (lv_at hl 0 rfl) ?_
            refine lv_iload_n hx hb dX3_transfer_60 rfl (lv_at hl 2 rfl) ?_
            refine vp_callSi (W.runV (As := [.int (nI d)]) (rest := []) ⟨hx, hb, hml, hown, hts⟩ (m_isGreat l D g cI cZ cB acc lm rm N am T wk ou (va_up y 0 0) hok hacc hlm2 d (by omega)) (cwV 1 hts gX3_transfer_X3_isGreat rfl rfl rfl (by decide +kernel) ⟨Nat.le_of_ble_eq_true rfl, Nat.le_of_ble_eq_true rfl⟩) ⟨nPc_blind, va_recv hK hP (ci := 3) (q0 := 0) rfl (wl_at (by omega)), nPc_use (hP) hK⟩ rfl rfl hl.1 rfl (lv_room (Nat.le_of_ble_eq_true rfl)) dX3_transfer_61 ⟨Nat.le_of_ble_eq_true rfl, Nat.le_of_ble_eq_true rfl⟩) (fun rg2 hrg2 => ?_)
            refine lv_if_eq (tgt := 69) hx hb dX3_transfer_64 (by decide) (fun c23 => ?_) (fun c23 => ?_)
            · replace c23 : cyA (N 0 d) am lm = 0 := Classical.byContradiction (fun q => absurd (c23.symm.trans (hrg2.trans (if_neg q))) (by decide))
              refine lv_aload_n hx hb dX3_transfer_69 rfl (lv_at hl 0 rfl) ?_
              refine lv_iload_n hx hb dX3_transfer_70 rfl (lv_at hl 1 rfl) ?_
              refine lv_iload_n hx hb dX3_transfer_71 rfl (lv_at hl 2 rfl) ?_
              refine vp_callSi (W.runV (As := [.int (nI b), .int (nI d)]) (rest := []) ⟨hx, hb, hml, hown, hts⟩ (m_isFull l D g cI cZ cB acc lm rm N am T wk ou (va_up y 0 0) hok hacc hrm b d (by omega) (by omega)) (cwV 2 hts gX3_transfer_X3_isFull rfl rfl rfl (by decide +kernel) ⟨Nat.le_of_ble_eq_true rfl, Nat.le_of_ble_eq_true rfl⟩) ⟨nPc_blind, va_recv hK hP (ci := 3) (q0 := 0) rfl (wl_at (by omega)), nPc_use (hP) hK⟩ rfl rfl hl.1 rfl (lv_room (Nat.le_of_ble_eq_true rfl)) dX3_transfer_72 ⟨Nat.le_of_ble_eq_true rfl, Nat.le_of_ble_eq_true rfl⟩) (fun rf hrf => ?_)
              refine lv_if_eq (tgt := 80) hx hb dX3_transfer_75 (by decide) (fun c3 => ?_) (fun c3 => ?_)
              · replace c3 : ¬ rm < fb_ct (T 0) 25 + mMore (T 0) b d := fun q => absurd (c3.symm.trans (hrf.trans (if_pos q))) (by decide)
                refine lv_aload_n hx hb dX3_transfer_80 rfl (lv_at hl 0 rfl) ?_
                refine lv_iload_n hx hb dX3_transfer_81 rfl (lv_at hl 1 rfl) ?_
                refine lv_iconst (v := 0) hx hb dX3_transfer_82 (by decide) ?_
                refine va_callv (va_runV (As := [.int (nI b), .int ((0 : Int32))]) (rest := []) ⟨hx, hb, hml, hown, hts⟩ (m_chgS l D g cI cZ cB acc lm rm N am T wk ou (va_up y 0 0) hok hacc b (by omega) (by omega)) (cwV 2 hts gX3_transfer_X3_change rfl rfl rfl (by decide +kernel) ⟨Nat.le_of_ble_eq_true rfl, Nat.le_of_ble_eq_true rfl⟩) ⟨nPc_blind, va_recv hK hP (ci := 3) (q0 := 0) rfl (wl_at (by omega)), nPc_use (hP) hK⟩ rfl rfl hl.1 rfl (lv_room (Nat.le_of_ble_eq_true rfl)) dX3_transfer_83 ⟨Nat.le_of_ble_eq_true rfl, Nat.le_of_ble_eq_true rfl⟩) hS (fun q _ h => (fun _ h => h) q h) (fun _ h => h) (fun _u t H1 locs ht hvm hw hB hz1 hk9 hS => ?_)
                generalize H1 = H at ht hz1 hk9 hS ⊢
                have hP : va_P D vwCl (rW g cI cZ cB acc lm rm (mF (va_up N 0 (va_up (N 0) b (N 0 b - am))) am T wk ou) (va_up y 0 (0 : Int32))) H := pB_at ht hB
                have hD : va_D (mA g) (rW g cI cZ cB acc lm rm (mF (va_up N 0 (va_up (N 0) b (N 0 b - am))) am T wk ou) (va_up y 0 (0 : Int32))) := mlD hok
                refine lv_aload_n hx hb dX3_transfer_86 rfl (lv_at hl 0 rfl) ?_
                refine lv_iload_n hx hb dX3_transfer_87 rfl (lv_at hl 2 rfl) ?_
                refine lv_iconst (v := 1) hx hb dX3_transfer_88 (by decide) ?_
                refine va_callv (va_runV (As := [.int (nI d), .int ((1 : Int32))]) (rest := []) ⟨hx, hb, hml, hown, hts⟩ (m_chgA l D g cI cZ cB acc lm rm (va_up N 0 (va_up (N 0) b (N 0 b - am))) am T wk ou (va_up y 0 0) hok hacc d (by omega) (by
                  show (va_up N 0 (va_up (N 0) b (N 0 b - am))) 0 d + am < _
                  rw [va_up_self]
                  by_cases hbd : d = b
                  · subst hbd; rw [va_up_self]; have := hadd d (by omega); omega
                  · rw [va_up_ne _ _ hbd]; exact hadd d (by omega))) (cwV 2 hts gX3_transfer_X3_change rfl rfl rfl (by decide +kernel) ⟨Nat.le_of_ble_eq_true rfl, Nat.le_of_ble_eq_true rfl⟩) ⟨nPc_blind, va_recv hK hP (ci := 3) (q0 := 0) rfl (wl_at (by omega)), nPc_use (hP) hK⟩ rfl rfl hl.1 rfl (lv_room (Nat.le_of_ble_eq_true rfl)) dX3_transfer_89 ⟨Nat.le_of_ble_eq_true rfl, Nat.le_of_ble_eq_true rfl⟩) hS (fun q _ h => (fun _ h => h) q h) (fun _ h => h) (fun _u t H1 locs ht hvm hw hB hz1 hk9 hS => ?_)
                generalize H1 = H at ht hz1 hk9 hS ⊢
                have hP : va_P D vwCl (rW g cI cZ cB acc lm rm (mF (va_up (va_up N 0 (va_up (N 0) b (N 0 b - am))) 0 (va_up ((va_up N 0 (va_up (N 0) b (N 0 b - am))) 0) d ((va_up N 0 (va_up (N 0) b (N 0 b - am))) 0 d + am))) am T wk ou) (va_up y 0 (0 : Int32))) H := pB_at ht hB
                have hD : va_D (mA g) (rW g cI cZ cB acc lm rm (mF (va_up (va_up N 0 (va_up (N 0) b (N 0 b - am))) 0 (va_up ((va_up N 0 (va_up (N 0) b (N 0 b - am))) 0) d ((va_up N 0 (va_up (N 0) b (N 0 b - am))) 0 d + am))) am T wk ou) (va_up y 0 (0 : Int32))) := mlD hok
                refine lv_aload_n hx hb dX3_transfer_92 rfl (lv_at hl 0 rfl) ?_
                refine va_get (D := D) (ci := 3) (v := .ref (g 6)) (C := RX3) (T := TX3) (N := 18) hx hb hts hi3 hown hK hP 0 (wl_at (by omega)) rfl 9 (by decide) (hts (.fieldLink RX3 29 "BigLedgerModel" "touched" "[Z") (by decide +kernel)) (fun _ h9 => h9) rfl dX3_transfer_93 ?_
                refine lv_iload_n hx hb dX3_transfer_96 rfl (lv_at hl 1 rfl) ?_
                refine lv_iconst (v := 1) hx hb dX3_transfer_97 (by decide) ?_
                refine va_zast hx hb hK hP hD hS 6 1 (wl_at (by omega)) rfl (vp_in_nI (n := b) (by omega) (by omega)) dX3_transfer_98 (fun H locs hP hD hS => ?_)
                have hP : va_P D vwCl (rW g cI cZ cB acc lm rm (va_up (mF (va_up (va_up N 0 (va_up (N 0) b (N 0 b - am))) 0 (va_up ((va_up N 0 (va_up (N 0) b (N 0 b - am))) 0) d ((va_up N 0 (va_up (N 0) b (N 0 b - am))) 0 d + am))) am T wk ou) 6 (upd ((mF (va_up (va_up N 0 (va_up (N 0) b (N 0 b - am))) 0 (va_up ((va_up N 0 (va_up (N 0) b (N 0 b - am))) 0) d ((va_up N 0 (va_up (N 0) b (N 0 b - am))) 0 d + am))) am T wk ou) 6) (nI b).toNatClampNeg (vp_nar .boolean ((1 : Int32))))) (va_up y 0 (0 : Int32))) H := cv (ms_a6 (upd ((mF (va_up (va_up N 0 (va_up (N 0) b (N 0 b - am))) 0 (va_up ((va_up N 0 (va_up (N 0) b (N 0 b - am))) 0) d ((va_up N 0 (va_up (N 0) b (N 0 b - am))) 0 d + am))) am T wk ou) 6) (nI b).toNatClampNeg (vp_nar .boolean ((1 : Int32))))) hP
                have hD : va_D (mA g) (rW g cI cZ cB acc lm rm (va_up (mF (va_up (va_up N 0 (va_up (N 0) b (N 0 b - am))) 0 (va_up ((va_up N 0 (va_up (N 0) b (N 0 b - am))) 0) d ((va_up N 0 (va_up (N 0) b (N 0 b - am))) 0 d + am))) am T wk ou) 6 (upd ((mF (va_up (va_up N 0 (va_up (N 0) b (N 0 b - am))) 0 (va_up ((va_up N 0 (va_up (N 0) b (N 0 b - am))) 0) d ((va_up N 0 (va_up (N 0) b (N 0 b - am))) 0 d + am))) am T wk ou) 6) (nI b).toNatClampNeg (vp_nar .boolean ((1 : Int32))))) (va_up y 0 (0 : Int32))) := mlD hok
                have hP : va_P D vwCl (rW g cI cZ cB acc lm rm (mF (va_up (va_up N 0 (va_up (N 0) b (N 0 b - am))) 0 (va_up ((va_up N 0 (va_up (N 0) b (N 0 b - am))) 0) d ((va_up N 0 (va_up (N 0) b (N 0 b - am))) 0 d + am))) am (va_up T 0 (va_up (T 0) b true)) wk ou) (va_up y 0 (0 : Int32))) H := rW_congr hP (fun q9 h1 h2 j hj => by
                  match q9 with
                  | 1 => rfl
                  | 2 => rfl
                  | 3 => rfl
                  | 4 => rfl
                  | 5 => rfl
                  | 6 =>
                    show upd (tb (T 0)) (nI b).toNatClampNeg (vp_nar .boolean 1) j = tb (va_up (T 0) b true) j
                    rw [show (nI b).toNatClampNeg = b from nI_clamp (n := b) (by omega), tb_up (v := vp_nar .boolean 1) (T 0) b true rfl]
                  | 7 => rfl
                  | 8 => rfl
                  | 0 => omega
                  | q9 + 9 => omega)
                have hD : va_D (mA g) (rW g cI cZ cB acc lm rm (mF (va_up (va_up N 0 (va_up (N 0) b (N 0 b - am))) 0 (va_up ((va_up N 0 (va_up (N 0) b (N 0 b - am))) 0) d ((va_up N 0 (va_up (N 0) b (N 0 b - am))) 0 d + am))) am (va_up T 0 (va_up (T 0) b true)) wk ou) (va_up y 0 (0 : Int32))) := mlD hok
                refine lv_aload_n hx hb dX3_transfer_99 rfl (lv_at hl 0 rfl) ?_
                refine va_get (D := D) (ci := 3) (v := .ref (g 6)) (C := RX3) (T := TX3) (N := 18) hx hb hts hi3 hown hK hP 0 (wl_at (by omega)) rfl 9 (by decide) (hts (.fieldLink RX3 29 "BigLedgerModel" "touched" "[Z") (by decide +kernel)) (fun _ h9 => h9) rfl dX3_transfer_100 ?_
                refine lv_iload_n hx hb dX3_transfer_103 rfl (lv_at hl 2 rfl) ?_
                refine lv_iconst (v := 1) hx hb dX3_transfer_104 (by decide) ?_
                refine va_zast hx hb hK hP hD hS 6 1 (wl_at (by omega)) rfl (vp_in_nI (n := d) (by omega) (by omega)) dX3_transfer_105 (fun H locs hP hD hS => ?_)
                have hP : va_P D vwCl (rW g cI cZ cB acc lm rm (va_up (mF (va_up (va_up N 0 (va_up (N 0) b (N 0 b - am))) 0 (va_up ((va_up N 0 (va_up (N 0) b (N 0 b - am))) 0) d ((va_up N 0 (va_up (N 0) b (N 0 b - am))) 0 d + am))) am (va_up T 0 (va_up (T 0) b true)) wk ou) 6 (upd ((mF (va_up (va_up N 0 (va_up (N 0) b (N 0 b - am))) 0 (va_up ((va_up N 0 (va_up (N 0) b (N 0 b - am))) 0) d ((va_up N 0 (va_up (N 0) b (N 0 b - am))) 0 d + am))) am (va_up T 0 (va_up (T 0) b true)) wk ou) 6) (nI d).toNatClampNeg (vp_nar .boolean ((1 : Int32))))) (va_up y 0 (0 : Int32))) H := cv (ms_a6 (upd ((mF (va_up (va_up N 0 (va_up (N 0) b (N 0 b - am))) 0 (va_up ((va_up N 0 (va_up (N 0) b (N 0 b - am))) 0) d ((va_up N 0 (va_up (N 0) b (N 0 b - am))) 0 d + am))) am (va_up T 0 (va_up (T 0) b true)) wk ou) 6) (nI d).toNatClampNeg (vp_nar .boolean ((1 : Int32))))) hP
                have hD : va_D (mA g) (rW g cI cZ cB acc lm rm (va_up (mF (va_up (va_up N 0 (va_up (N 0) b (N 0 b - am))) 0 (va_up ((va_up N 0 (va_up (N 0) b (N 0 b - am))) 0) d ((va_up N 0 (va_up (N 0) b (N 0 b - am))) 0 d + am))) am (va_up T 0 (va_up (T 0) b true)) wk ou) 6 (upd ((mF (va_up (va_up N 0 (va_up (N 0) b (N 0 b - am))) 0 (va_up ((va_up N 0 (va_up (N 0) b (N 0 b - am))) 0) d ((va_up N 0 (va_up (N 0) b (N 0 b - am))) 0 d + am))) am (va_up T 0 (va_up (T 0) b true)) wk ou) 6) (nI d).toNatClampNeg (vp_nar .boolean ((1 : Int32))))) (va_up y 0 (0 : Int32))) := mlD hok
                have hP : va_P D vwCl (rW g cI cZ cB acc lm rm (mF (va_up (va_up N 0 (va_up (N 0) b (N 0 b - am))) 0 (va_up ((va_up N 0 (va_up (N 0) b (N 0 b - am))) 0) d ((va_up N 0 (va_up (N 0) b (N 0 b - am))) 0 d + am))) am (va_up (va_up T 0 (va_up (T 0) b true)) 0 (va_up ((va_up T 0 (va_up (T 0) b true)) 0) d true)) wk ou) (va_up y 0 (0 : Int32))) H := rW_congr hP (fun q9 h1 h2 j hj => by
                  match q9 with
                  | 1 => rfl
                  | 2 => rfl
                  | 3 => rfl
                  | 4 => rfl
                  | 5 => rfl
                  | 6 =>
                    show upd (tb ((va_up T 0 (va_up (T 0) b true)) 0)) (nI d).toNatClampNeg (vp_nar .boolean 1) j = tb (va_up ((va_up T 0 (va_up (T 0) b true)) 0) d true) j
                    rw [show (nI d).toNatClampNeg = d from nI_clamp (n := d) (by omega), tb_up (v := vp_nar .boolean 1) ((va_up T 0 (va_up (T 0) b true)) 0) d true rfl]
                  | 7 => rfl
                  | 8 => rfl
                  | 0 => omega
                  | q9 + 9 => omega)
                have hD : va_D (mA g) (rW g cI cZ cB acc lm rm (mF (va_up (va_up N 0 (va_up (N 0) b (N 0 b - am))) 0 (va_up ((va_up N 0 (va_up (N 0) b (N 0 b - am))) 0) d ((va_up N 0 (va_up (N 0) b (N 0 b - am))) 0 d + am))) am (va_up (va_up T 0 (va_up (T 0) b true)) 0 (va_up ((va_up T 0 (va_up (T 0) b true)) 0) d true)) wk ou) (va_up y 0 (0 : Int32))) := mlD hok
                refine lv_iconst (v := 0) hx hb dX3_transfer_106 (by decide) ?_
                exact W.iret (v := 0) hx hb hr (fun t ht hW => ⟨⟨_, mTou (mTou (mInc (mDec (setY (N, am, T, y) 0 0) b) d) b) d, rfl, by rw [mTr, eb, ed]; exact ((if_neg (c0)).trans ((if_neg ((fun q => q ⟨ha, ha2⟩))).trans ((if_neg (c2)).trans ((if_neg ((fun q => q.2 c23))).trans (if_neg (c3)))))).symm, hp_at ht hP⟩, hS.F ht⟩) hS.2.2 dX3_transfer_107
              · replace c3 : rm < fb_ct (T 0) 25 + mMore (T 0) b d := Classical.byContradiction (fun q => c3 (hrf.trans (if_neg q)))
                refine lv_iconst (v := 4) hx hb dX3_transfer_78 (by decide) ?_
                exact W.iret (v := 4) hx hb hr (fun t ht hW => ⟨⟨_, (setY (N, am, T, y) 0 0), rfl, by rw [mTr, eb, ed]; exact ((if_neg (c0)).trans ((if_neg ((fun q => q ⟨ha, ha2⟩))).trans ((if_neg (c2)).trans ((if_neg ((fun q => q.2 c23))).trans (if_pos (c3)))))).symm, hp_at ht hP⟩, hS.F ht⟩) hS.2.2 dX3_transfer_79
            · replace c23 : ¬ cyA (N 0 d) am lm = 0 := fun q => c23 (hrg2.trans (if_pos q))
              refine lv_iconst (v := 3) hx hb dX3_transfer_67 (by decide) ?_
              exact W.iret (v := 3) hx hb hr (fun t ht hW => ⟨⟨_, (setY (N, am, T, y) 0 0), rfl, by rw [mTr, eb, ed]; exact ((if_neg (c0)).trans ((if_neg ((fun q => q ⟨ha, ha2⟩))).trans ((if_neg (c2)).trans (if_pos (⟨c22, c23⟩))))).symm, hp_at ht hP⟩, hS.F ht⟩) hS.2.2 dX3_transfer_68
        · replace c2 : N 0 b < am := Classical.byContradiction (fun q => c2 (by rw [hrg]; exact cmpI_le0.mpr q))
          refine lv_iconst (v := 2) hx hb dX3_transfer_52 (by decide) ?_
          exact W.iret (v := 2) hx hb hr (fun t ht hW => ⟨⟨_, (setY (N, am, T, y) 0 0), rfl, by rw [mTr, eb]; exact ((if_neg (c0)).trans ((if_neg ((fun q => q ⟨ha, ha2⟩))).trans (if_pos (c2)))).symm, hp_at ht hP⟩, hS.F ht⟩) hS.2.2 dX3_transfer_53
      · have ha2 : ¬ isAcc acc p1 = true := fun q => c12 (hrb.trans (if_pos q))
        refine lv_iconst (v := 1) hx hb dX3_transfer_31 (by decide) ?_
        exact W.iret (v := 1) hx hb hr (fun t ht hW => ⟨⟨_, (setY (N, am, T, y) 0 0), rfl, by rw [mTr]; exact ((if_neg (c0)).trans (if_pos ((fun q => ha2 q.2)))).symm, hp_at ht hP⟩, hS.F ht⟩) hS.2.2 dX3_transfer_32
  · refine lv_bipush (v := 6) hx hb dX3_transfer_12 (by decide) ?_
    exact W.iret (v := 6) hx hb hr (fun t ht hW => ⟨⟨_, (setY (N, am, T, y) 0 0), rfl, by rw [mTr]; exact (if_pos (c0)).symm, hp_at ht hP⟩, hS.F ht⟩) hS.2.2 dX3_transfer_14

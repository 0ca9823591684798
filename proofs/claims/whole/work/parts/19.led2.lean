set_option maxHeartbeats 4000000 in
set_option maxRecDepth 100000 in
theorem c_deposit (l : Launch) (D : va_G) (ad : Nat → Nat) (cI cB cO : ClassId) (acc lm rm : Nat) (N : LN) (x : Nat → Nat) (z ob : Nat → Int32) (hok : lOk ad acc lm) (hNk : nOk lm N) (hx0 : x 0 < 2147483648 ^ (lm + 1)) (hx1 : x 1 < 2147483648 ^ (lm + 1)) (hx2 : x 2 < 33554432) (hrm : rm ≤ 25) (p0 : Int32) (hadd : ∀ b, b ≤ acc → sv N x b + x 0 < 2147483648 ^ (lm + 1)) : Met l yX2_deposit wsX2_deposit ({ frames := 3, cells := 0, slots := 0, locals := 68 }) (lPc [.ref (ad 0), .int (p0)] D (lW ad cI cB cO acc lm rm N x z ob) [(cI, .int), (cB, .byte), (cO, .object "BigLedger$Natural")]) (va_Qi (fun (r : Int32) (u : DS) => (r, u) = cDep acc lm rm p0 (N, x, z)) (fun u t => va_P D vwCl (lW ad cI cB cO acc lm rm u.1 u.2.1 u.2.2 ob) t.heap) (lA ad acc)) 0 0 (lA ad acc) := by
  refine Met.ofW (cc := cX2_deposit) (maxL := 2) (ret := (some .int)) (by decide) rfl ?_
  intro p e s m args below meth c s₁ B hml hv
  obtain ⟨rfl, hP, hK, hN⟩ := hv
  have hx := B.exec
  have hb := B.bytes
  have hr := B.returns
  have hts := atoms_spec (ws := wsX2_deposit) B.pre
  have hown : s.vm.findClass RX2 = some m.cls := findClass_of_methodNamed B.named
  have hlocks := B.notSynchronized
  have hi2 : ∀ w ∈ wsX20, w ∈ wsX2_deposit := by decide +kernel
  have hok1 := hok.2.1
  have hok2 := hok.2.2.1
  have hok3 := hok.2.2.2
  have hS : va_S (lA ad acc) s.heap s.heap [] := va_S.rf
  have hD : va_D (lA ad acc) (lW ad cI cB cO acc lm rm N x z ob) := wlD hok
  have hl := lv_entry ([.ref (ad 0), .int (p0)]) (n := 2) (Nat.le_of_ble_eq_true rfl)
  rw [lg_entry_eq]
  generalize (lg_sl ([.ref (ad 0), .int (p0)]) ++ List.replicate (2 - (lg_sl ([.ref (ad 0), .int (p0)])).length) Slot.unset).toArray = ls at hl ⊢
  have hl : lv_has ls 2 [(0, .ref (ad 0)), (1, .int (p0))] := hl
  refine lv_aload_n hx hb dX2_deposit_0 rfl (lv_at hl 0 rfl) ?_
  refine va_get (D := D) (ci := 2) (v := .int (z 0)) (C := RX2) (T := TX2) (N := 11) hx hb hts hi2 hown hK hP 0 (wl_at (by omega)) rfl 7 (by decide) (hts (.fieldLink RX2 71 "BigLedger" "up" "Z") (by decide +kernel)) (fun _ h9 => h9) rfl dX2_deposit_1 ?_
  refine lv_if_ne (tgt := 10) hx hb dX2_deposit_4 (by decide) (fun c0 => ?_) (fun c0 => ?_)
  · refine lv_aload_n hx hb dX2_deposit_10 rfl (lv_at hl 0 rfl) ?_
    refine lv_iload_n hx hb dX2_deposit_11 rfl (lv_at hl 1 rfl) ?_
    refine vp_callSi (W.runV (As := [.int (p0)]) (rest := []) ⟨hx, hb, hml, hown, hts⟩ (c_isAccount l D ad cI cB cO acc lm rm N x z ob hok p0) (cwV 1 hts gX2_deposit_X2_isAccount rfl rfl rfl (by decide +kernel) ⟨Nat.le_of_ble_eq_true rfl, Nat.le_of_ble_eq_true rfl⟩) ⟨lPc_blind, va_recv hK hP (ci := 2) (q0 := 0) rfl (wl_at (by omega)), lPc_use (hP) ⟨hK, hN⟩⟩ rfl rfl hl.1 rfl (lv_room (Nat.le_of_ble_eq_true rfl)) dX2_deposit_12 ⟨Nat.le_of_ble_eq_true rfl, Nat.le_of_ble_eq_true rfl⟩) (fun ra hra => ?_)
    refine lv_if_ne (tgt := 20) hx hb dX2_deposit_15 (by decide) (fun c1 => ?_) (fun c1 => ?_)
    · have ha : isAcc acc p0 = true := Classical.byContradiction (fun q => c1 (by rw [hra, if_neg q]))
      obtain ⟨b, hqb, rfl⟩ := isAcc_t (by omega) ha
      have eb : (nI b).toNatClampNeg = b := nI_clamp (by omega)
      refine lv_aload_n hx hb dX2_deposit_20 rfl (lv_at hl 0 rfl) ?_
      refine lv_iload_n hx hb dX2_deposit_21 rfl (lv_at hl 1 rfl) ?_
      refine va_calli (va_runV (As := [.int (nI b)]) (rest := []) ⟨hx, hb, hml, hown, hts⟩ (c_wouldBeTooGreat l D ad cI cB cO acc lm rm N x z ob hok hNk hx0 hx1 b (by omega) (hadd b (by omega))) (cwV 1 hts gX2_deposit_X2_wouldBeTooGreat rfl rfl rfl (by decide +kernel) ⟨Nat.le_of_ble_eq_true rfl, Nat.le_of_ble_eq_true rfl⟩) ⟨lPc_blind, va_recv hK hP (ci := 2) (q0 := 0) rfl (wl_at (by omega)), lPc_use (hP) ⟨hK, hN⟩⟩ rfl rfl hl.1 rfl (lv_room (Nat.le_of_ble_eq_true rfl)) dX2_deposit_22 ⟨Nat.le_of_ble_eq_true rfl, Nat.le_of_ble_eq_true rfl⟩) hS (fun q _ h => (fun _ h => h) q h) (fun _ h => h) (fun rg _u t H1 locs ht hvm hwg hB hz1 hk9 hS => ?_)
      generalize H1 = H at ht hz1 hk9 hS ⊢
      have hP : va_P D vwCl (lW ad cI cB cO acc lm rm N (va_up x 1 (sv N x b + x 0)) z ob) H := pB_at ht hB
      have hD : va_D (lA ad acc) (lW ad cI cB cO acc lm rm N (va_up x 1 (sv N x b + x 0)) z ob) := wlD hok
      refine lv_if_eq (tgt := 30) hx hb dX2_deposit_25 (by decide) (fun c2 => ?_) (fun c2 => ?_)
      · replace c2 : ¬ lm < szF (sv N x b + x 0) (lm + 1) := fun q => absurd c2 (by rw [hwg, if_pos q]; decide)
        refine lv_aload_n hx hb dX2_deposit_30 rfl (lv_at hl 0 rfl) ?_
        refine lv_iload_n hx hb dX2_deposit_31 rfl (lv_at hl 1 rfl) ?_
        refine lv_aload_n hx hb dX2_deposit_32 rfl (lv_at hl 0 rfl) ?_
        refine vp_callSi (W.runV (As := []) (rest := [.int (nI b), .ref (ad 0)]) ⟨hx, hb, hml, hown, hts⟩ (c_totalBlock l D ad cI cB cO acc lm rm N (va_up x 1 (sv N x b + x 0)) z ob hok) (cwV 0 hts gX2_deposit_X2_totalBlock rfl rfl rfl (by decide +kernel) ⟨Nat.le_of_ble_eq_true rfl, Nat.le_of_ble_eq_true rfl⟩) ⟨lPc_blind, va_recv hK hP (ci := 2) (q0 := 0) rfl (wl_at (by omega)), lPc_use (hP) ⟨hK, hN⟩⟩ rfl rfl hl.1 rfl (lv_room (Nat.le_of_ble_eq_true rfl)) dX2_deposit_33 ⟨Nat.le_of_ble_eq_true rfl, Nat.le_of_ble_eq_true rfl⟩) (fun rt hrt => ?_)
        subst hrt
        refine vp_callSi (W.runV (As := [.int (nI b), .int (nI acc)]) (rest := []) ⟨hx, hb, hml, hown, hts⟩ (c_hasRoomFor l D ad cI cB cO acc lm rm N (va_up x 1 (sv N x b + x 0)) z ob hok b acc (by omega) (by omega) hx2 hrm) (cwV 2 hts gX2_deposit_X2_hasRoomFor rfl rfl rfl (by decide +kernel) ⟨Nat.le_of_ble_eq_true rfl, Nat.le_of_ble_eq_true rfl⟩) ⟨lPc_blind, va_recv hK hP (ci := 2) (q0 := 0) rfl (wl_at (by omega)), lPc_use (hP) ⟨hK, hN⟩⟩ rfl rfl hl.1 rfl (lv_room (Nat.le_of_ble_eq_true rfl)) dX2_deposit_36 ⟨Nat.le_of_ble_eq_true rfl, Nat.le_of_ble_eq_true rfl⟩) (fun rr hrr => ?_)
        refine lv_if_ne (tgt := 44) hx hb dX2_deposit_39 (by decide) (fun c3 => ?_) (fun c3 => ?_)
        · replace c3 : ctb (x 2 ||| 2 ^ b ||| 2 ^ acc) ≤ rm := Classical.byContradiction (fun q => c3 (hrr.trans (if_neg q)))
          refine lv_aload_n hx hb dX2_deposit_44 rfl (lv_at hl 0 rfl) ?_
          refine lv_iload_n hx hb dX2_deposit_45 rfl (lv_at hl 1 rfl) ?_
          refine va_callr (va_runV (As := [.int (nI b)]) (rest := []) ⟨hx, hb, hml, hown, hts⟩ (c_touch l D ad cI cB cO acc lm rm N (va_up x 1 (sv N x b + x 0)) z ob hok hNk b (by omega)) (cwV 1 hts gX2_deposit_X2_touch rfl rfl rfl (by decide +kernel) ⟨Nat.le_of_ble_eq_true rfl, Nat.le_of_ble_eq_true rfl⟩) ⟨lPc_blind, va_recv hK hP (ci := 2) (q0 := 0) rfl (wl_at (by omega)), lPc_use (hP) ⟨hK, hN⟩⟩ rfl rfl hl.1 rfl (lv_room (Nat.le_of_ble_eq_true rfl)) dX2_deposit_46 ⟨Nat.le_of_ble_eq_true rfl, Nat.le_of_ble_eq_true rfl⟩) hS (fun q _ h => (fun _ h => h) q h) (fun _ h => h) (fun _u ra t H1 locs ht hvm hw hB hz1 hk9 hS => ?_)
          obtain ⟨hra, hB⟩ := hB
          subst hra
          generalize H1 = H at ht hz1 hk9 hS ⊢
          have hP : va_P D vwCl (lW ad cI cB cO acc lm rm (tN N (va_up x 1 (sv N x b + x 0)) b) (tX (va_up x 1 (sv N x b + x 0)) b) z ob) H := pB_at ht hB
          have hD : va_D (lA ad acc) (lW ad cI cB cO acc lm rm (tN N (va_up x 1 (sv N x b + x 0)) b) (tX (va_up x 1 (sv N x b + x 0)) b) z ob) := wlD hok
          refine lv_aload_n hx hb dX2_deposit_49 rfl (lv_at hl 0 rfl) ?_
          refine va_get (D := D) (ci := 2) (v := .ref (ad 6)) (C := RX2) (T := TX2) (N := 11) hx hb hts hi2 hown hK hP 0 (wl_at (by omega)) rfl 6 (by decide) (hts (.fieldLink RX2 45 "BigLedger" "amount" "LBigLedger$Natural;") (by decide +kernel)) (fun _ h9 => h9) rfl dX2_deposit_50 ?_
          have hs1 : tN N (va_up x 1 (sv N x b + x 0)) b 0 b + tX (va_up x 1 (sv N x b + x 0)) b 0 < 2147483648 ^ (lm + 1) := by rw [tN_at, tX_ne _ _ (by decide)]; exact hadd b (by omega)
          have hs2 : tX (va_up x 1 (sv N x b + x 0)) b 0 < 2147483648 ^ (lm + 1) := by rw [tX_ne _ _ (by decide)]; exact hx0
          have hk1 := nOk_tN hNk (va_up x 1 (sv N x b + x 0)) b
          have hn23 := ln_p hP 0 b (by decide) (by omega)
          have hn23u := va_P.app hn23 (ln_am hP)
          refine va_callv (va_runV (As := [.ref (ad 6)]) (rest := []) ⟨hx, hb, hml, hown, hts⟩ (c_increase l D cI (lm + 1) (ad (6 * b + 2 * 0 + 10)) (ad (6 * b + 2 * 0 + 11)) ((tN N (va_up x 1 (sv N x b + x 0)) b) 0 b) (by omega) (ln_oa (i := 6 * b + 2 * 0 + 10) hok (by omega)) (hk1 _ _) (ad 6) (ad 7) ((tX (va_up x 1 (sv N x b + x 0)) b) 0) (ln_ne (i := 6 * b + 2 * 0 + 10) hok (by omega) (by omega) (by omega) (by omega)) (ln_ne (i := 6 * b + 2 * 0 + 10) hok (by omega) (by omega) (by omega) (by omega)) (hs2) (hs1)) (cwV 1 hts gX2_deposit_X1_increase rfl rfl rfl (by decide +kernel) ⟨Nat.le_of_ble_eq_true rfl, Nat.le_of_ble_eq_true rfl⟩) ⟨nPc_blind, va_recv hK hn23 (ci := 1) (q0 := 0) rfl rfl, nPc_use (hn23u) (hK.sub [0] rfl)⟩ rfl rfl hl.1 rfl (lv_room (Nat.le_of_ble_eq_true rfl)) dX2_deposit_53 ⟨Nat.le_of_ble_eq_true rfl, Nat.le_of_ble_eq_true rfl⟩) hS (fun q _ h => (fun q h => lA_n (i := 6 * b + 2 * 0 + 10) (by omega) h) q h) (fun q h => lA_n (i := 6 * b + 2 * 0 + 10) (by omega) h) (fun _u t H1 locs ht hvm hw hB hz1 hk9 hS => ?_)
          have hP9 := lk_p (k := 0) (b := b) hok (by decide) (by omega) hP hk9 (pB_at ht hB)
          generalize H1 = H at ht hz1 hk9 hS hP9 ⊢
          have hP : va_P D vwCl (lW ad cI cB cO acc lm rm (iN N (va_up x 1 (sv N x b + x 0)) b) (tX (va_up x 1 (sv N x b + x 0)) b) z ob) H := hP9
          have hD : va_D (lA ad acc) (lW ad cI cB cO acc lm rm (iN N (va_up x 1 (sv N x b + x 0)) b) (tX (va_up x 1 (sv N x b + x 0)) b) z ob) := wlD hok
          have hk2 : nOk lm (iN N (va_up x 1 (sv N x b + x 0)) b) := nOk_up hk1 hs1
          have hs3 : tX (tX (va_up x 1 (sv N x b + x 0)) b) acc 0 < 2147483648 ^ (lm + 1) := by rw [tX_ne _ _ (by decide)]; exact hs2
          have hs4 : tN (iN N (va_up x 1 (sv N x b + x 0)) b) (tX (va_up x 1 (sv N x b + x 0)) b) acc 0 acc + tX (tX (va_up x 1 (sv N x b + x 0)) b) acc 0 < 2147483648 ^ (lm + 1) := by
            rw [tN_at, sv_iN_ne _ _ (by omega), tX_ne _ _ (by decide), tX_ne _ _ (by decide)]
            exact hadd acc (Nat.le_refl _)
          refine lv_aload_n hx hb dX2_deposit_56 rfl (lv_at hl 0 rfl) ?_
          refine lv_aload_n hx hb dX2_deposit_57 rfl (lv_at hl 0 rfl) ?_
          refine vp_callSi (W.runV (As := []) (rest := [.ref (ad 0)]) ⟨hx, hb, hml, hown, hts⟩ (c_totalBlock l D ad cI cB cO acc lm rm (iN N (va_up x 1 (sv N x b + x 0)) b) (tX (va_up x 1 (sv N x b + x 0)) b) z ob hok) (cwV 0 hts gX2_deposit_X2_totalBlock rfl rfl rfl (by decide +kernel) ⟨Nat.le_of_ble_eq_true rfl, Nat.le_of_ble_eq_true rfl⟩) ⟨lPc_blind, va_recv hK hP (ci := 2) (q0 := 0) rfl (wl_at (by omega)), lPc_use (hP) ⟨hK, hN⟩⟩ rfl rfl hl.1 rfl (lv_room (Nat.le_of_ble_eq_true rfl)) dX2_deposit_58 ⟨Nat.le_of_ble_eq_true rfl, Nat.le_of_ble_eq_true rfl⟩) (fun rt hrt => ?_)
          subst hrt
          refine va_callr (va_runV (As := [.int (nI acc)]) (rest := []) ⟨hx, hb, hml, hown, hts⟩ (c_touch l D ad cI cB cO acc lm rm (iN N (va_up x 1 (sv N x b + x 0)) b) (tX (va_up x 1 (sv N x b + x 0)) b) z ob hok hk2 acc (by omega)) (cwV 1 hts gX2_deposit_X2_touch rfl rfl rfl (by decide +kernel) ⟨Nat.le_of_ble_eq_true rfl, Nat.le_of_ble_eq_true rfl⟩) ⟨lPc_blind, va_recv hK hP (ci := 2) (q0 := 0) rfl (wl_at (by omega)), lPc_use (hP) ⟨hK, hN⟩⟩ rfl rfl hl.1 rfl (lv_room (Nat.le_of_ble_eq_true rfl)) dX2_deposit_61 ⟨Nat.le_of_ble_eq_true rfl, Nat.le_of_ble_eq_true rfl⟩) hS (fun q _ h => (fun _ h => h) q h) (fun _ h => h) (fun _u ra t H1 locs ht hvm hw hB hz1 hk9 hS => ?_)
          obtain ⟨hra, hB⟩ := hB
          subst hra
          generalize H1 = H at ht hz1 hk9 hS ⊢
          have hP : va_P D vwCl (lW ad cI cB cO acc lm rm (tN (iN N (va_up x 1 (sv N x b + x 0)) b) (tX (va_up x 1 (sv N x b + x 0)) b) acc) (tX (tX (va_up x 1 (sv N x b + x 0)) b) acc) z ob) H := pB_at ht hB
          have hD : va_D (lA ad acc) (lW ad cI cB cO acc lm rm (tN (iN N (va_up x 1 (sv N x b + x 0)) b) (tX (va_up x 1 (sv N x b + x 0)) b) acc) (tX (tX (va_up x 1 (sv N x b + x 0)) b) acc) z ob) := wlD hok
          refine lv_aload_n hx hb dX2_deposit_64 rfl (lv_at hl 0 rfl) ?_
          refine va_get (D := D) (ci := 2) (v := .ref (ad 6)) (C := RX2) (T := TX2) (N := 11) hx hb hts hi2 hown hK hP 0 (wl_at (by omega)) rfl 6 (by decide) (hts (.fieldLink RX2 45 "BigLedger" "amount" "LBigLedger$Natural;") (by decide +kernel)) (fun _ h9 => h9) rfl dX2_deposit_65 ?_
          have hk3 := nOk_tN hk2 (tX (va_up x 1 (sv N x b + x 0)) b) acc
          have hn24 := ln_p hP 0 acc (by decide) (by omega)
          have hn24u := va_P.app hn24 (ln_am hP)
          refine va_callv (va_runV (As := [.ref (ad 6)]) (rest := []) ⟨hx, hb, hml, hown, hts⟩ (c_increase l D cI (lm + 1) (ad (6 * acc + 2 * 0 + 10)) (ad (6 * acc + 2 * 0 + 11)) ((tN (iN N (va_up x 1 (sv N x b + x 0)) b) (tX (va_up x 1 (sv N x b + x 0)) b) acc) 0 acc) (by omega) (ln_oa (i := 6 * acc + 2 * 0 + 10) hok (by omega)) (hk3 _ _) (ad 6) (ad 7) ((tX (tX (va_up x 1 (sv N x b + x 0)) b) acc) 0) (ln_ne (i := 6 * acc + 2 * 0 + 10) hok (by omega) (by omega) (by omega) (by omega)) (ln_ne (i := 6 * acc + 2 * 0 + 10) hok (by omega) (by omega) (by omega) (by omega)) (hs3) (hs4)) (cwV 1 hts gX2_deposit_X1_increase rfl rfl rfl (by decide +kernel) ⟨Nat.le_of_ble_eq_true rfl, Nat.le_of_ble_eq_true rfl⟩) ⟨nPc_blind, va_recv hK hn24 (ci := 1) (q0 := 0) rfl rfl, nPc_use (hn24u) (hK.sub [0] rfl)⟩ rfl rfl hl.1 rfl (lv_room (Nat.le_of_ble_eq_true rfl)) dX2_deposit_68 ⟨Nat.le_of_ble_eq_true rfl, Nat.le_of_ble_eq_true rfl⟩) hS (fun q _ h => (fun q h => lA_n (i := 6 * acc + 2 * 0 + 10) (by omega) h) q h) (fun q h => lA_n (i := 6 * acc + 2 * 0 + 10) (by omega) h) (fun _u t H1 locs ht hvm hw hB hz1 hk9 hS => ?_)
          have hP9 := lk_p (k := 0) (b := acc) hok (by decide) (by omega) hP hk9 (pB_at ht hB)
          generalize H1 = H at ht hz1 hk9 hS hP9 ⊢
          have hP : va_P D vwCl (lW ad cI cB cO acc lm rm (iN (iN N (va_up x 1 (sv N x b + x 0)) b) (tX (va_up x 1 (sv N x b + x 0)) b) acc) (tX (tX (va_up x 1 (sv N x b + x 0)) b) acc) z ob) H := hP9
          have hD : va_D (lA ad acc) (lW ad cI cB cO acc lm rm (iN (iN N (va_up x 1 (sv N x b + x 0)) b) (tX (va_up x 1 (sv N x b + x 0)) b) acc) (tX (tX (va_up x 1 (sv N x b + x 0)) b) acc) z ob) := wlD hok
          refine lv_iconst (v := 0) hx hb dX2_deposit_71 (by decide) ?_
          exact W.iret (v := 0) hx hb hr (fun t ht hW => ⟨⟨_, (iN (iN N (va_up x 1 (sv N x b + x 0)) b) (tX (va_up x 1 (sv N x b + x 0)) b) acc, tX (tX (va_up x 1 (sv N x b + x 0)) b) acc, z), rfl, by rw [cDep, eb]; exact ((if_neg (c0)).trans ((if_neg ((fun q => q ha))).trans ((if_neg (c2)).trans (if_neg ((fun q => q c3)))))).symm, hp_at ht hP⟩, hS.F ht⟩) hS.2.2 dX2_deposit_72
        · replace c3 : ¬ ctb (x 2 ||| 2 ^ b ||| 2 ^ acc) ≤ rm := fun q => absurd c3 (by rw [hrr]; exact fun q2 => absurd (q2.symm.trans (if_pos q)) (by decide))
          refine lv_iconst (v := 4) hx hb dX2_deposit_42 (by decide) ?_
          exact W.iret (v := 4) hx hb hr (fun t ht hW => ⟨⟨_, (N, va_up x 1 (sv N x b + x 0), z), rfl, by rw [cDep, eb]; exact ((if_neg (c0)).trans ((if_neg ((fun q => q ha))).trans ((if_neg (c2)).trans (if_pos (c3))))).symm, hp_at ht hP⟩, hS.F ht⟩) hS.2.2 dX2_deposit_43
      · replace c2 : lm < szF (sv N x b + x 0) (lm + 1) := Classical.byContradiction (fun q => c2 (by rw [hwg, if_neg q]))
        refine lv_iconst (v := 3) hx hb dX2_deposit_28 (by decide) ?_
        exact W.iret (v := 3) hx hb hr (fun t ht hW => ⟨⟨_, (N, va_up x 1 (sv N x b + x 0), z), rfl, by rw [cDep, eb]; exact ((if_neg (c0)).trans ((if_neg ((fun q => q ha))).trans (if_pos (c2)))).symm, hp_at ht hP⟩, hS.F ht⟩) hS.2.2 dX2_deposit_29
    · have ha : ¬ isAcc acc p0 = true := fun q => absurd c1 (by rw [hra, if_pos q]; decide)
      refine lv_iconst (v := 1) hx hb dX2_deposit_18 (by decide) ?_
      exact W.iret (v := 1) hx hb hr (fun t ht hW => ⟨⟨_, (N, x, z), rfl, by rw [cDep]; exact ((if_neg (c0)).trans (if_pos (ha))).symm, hp_at ht hP⟩, hS.F ht⟩) hS.2.2 dX2_deposit_19
  · refine lv_bipush (v := 6) hx hb dX2_deposit_7 (by decide) ?_
    exact W.iret (v := 6) hx hb hr (fun t ht hW => ⟨⟨_, (N, x, z), rfl, by rw [cDep]; exact (if_pos (c0)).symm, hp_at ht hP⟩, hS.F ht⟩) hS.2.2 dX2_deposit_9
set_option maxHeartbeats 4000000 in
set_option maxRecDepth 100000 in
theorem c_withdraw (l : Launch) (D : va_G) (ad : Nat → Nat) (cI cB cO : ClassId) (acc lm rm : Nat) (N : LN) (x : Nat → Nat) (z ob : Nat → Int32) (hok : lOk ad acc lm) (hNk : nOk lm N) (hx0 : x 0 < 2147483648 ^ (lm + 1)) (hx1 : x 1 < 2147483648 ^ (lm + 1)) (hx2 : x 2 < 33554432) (hrm : rm ≤ 25) (p0 : Int32) (hsub : ∀ b, b < acc → x 0 ≤ sv N x b → x 0 ≤ sv N x acc) : Met l yX2_withdraw wsX2_withdraw ({ frames := 3, cells := 0, slots := 0, locals := 65 }) (lPc [.ref (ad 0), .int (p0)] D (lW ad cI cB cO acc lm rm N x z ob) [(cI, .int), (cB, .byte), (cO, .object "BigLedger$Natural")]) (va_Qi (fun (r : Int32) (u : DS) => (r, u) = cWd acc rm p0 (N, x, z)) (fun u t => va_P D vwCl (lW ad cI cB cO acc lm rm u.1 u.2.1 u.2.2 ob) t.heap) (lA ad acc)) 0 0 (lA ad acc) := by
  refine Met.ofW (cc := cX2_withdraw) (maxL := 2) (ret := (some .int)) (by decide) rfl ?_
  intro p e s m args below meth c s₁ B hml hv
  obtain ⟨rfl, hP, hK, hN⟩ := hv
  have hx := B.exec
  have hb := B.bytes
  have hr := B.returns
  have hts := atoms_spec (ws := wsX2_withdraw) B.pre
  have hown : s.vm.findClass RX2 = some m.cls := findClass_of_methodNamed B.named
  have hlocks := B.notSynchronized
  have hi2 : ∀ w ∈ wsX20, w ∈ wsX2_withdraw := by decide +kernel
  have hok1 := hok.2.1
  have hok2 := hok.2.2.1
  have hok3 := hok.2.2.2
  have hS : va_S (lA ad acc) s.heap s.heap [] := va_S.rf
  have hD : va_D (lA ad acc) (lW ad cI cB cO acc lm rm N x z ob) := wlD hok
  have hl := lv_entry ([.ref (ad 0), .int (p0)]) (n := 2) (Nat.le_of_ble_eq_true rfl)
  rw [lg_entry_eq]
  generalize (lg_sl ([.ref (ad 0), .int (p0)]) ++ List.replicate (2 - (lg_sl ([.ref (ad 0), .int (p0)])).length) Slot.unset).toArray = ls at hl ⊢
  have hl : lv_has ls 2 [(0, .ref (ad 0)), (1, .int (p0))] := hl
  refine lv_aload_n hx hb dX2_withdraw_0 rfl (lv_at hl 0 rfl) ?_
  refine va_get (D := D) (ci := 2) (v := .int (z 0)) (C := RX2) (T := TX2) (N := 11) hx hb hts hi2 hown hK hP 0 (wl_at (by omega)) rfl 7 (by decide) (hts (.fieldLink RX2 71 "BigLedger" "up" "Z") (by decide +kernel)) (fun _ h9 => h9) rfl dX2_withdraw_1 ?_
  refine lv_if_ne (tgt := 10) hx hb dX2_withdraw_4 (by decide) (fun c0 => ?_) (fun c0 => ?_)
  · refine lv_aload_n hx hb dX2_withdraw_10 rfl (lv_at hl 0 rfl) ?_
    refine lv_iload_n hx hb dX2_withdraw_11 rfl (lv_at hl 1 rfl) ?_
    refine vp_callSi (W.runV (As := [.int (p0)]) (rest := []) ⟨hx, hb, hml, hown, hts⟩ (c_isAccount l D ad cI cB cO acc lm rm N x z ob hok p0) (cwV 1 hts gX2_withdraw_X2_isAccount rfl rfl rfl (by decide +kernel) ⟨Nat.le_of_ble_eq_true rfl, Nat.le_of_ble_eq_true rfl⟩) ⟨lPc_blind, va_recv hK hP (ci := 2) (q0 := 0) rfl (wl_at (by omega)), lPc_use (hP) ⟨hK, hN⟩⟩ rfl rfl hl.1 rfl (lv_room (Nat.le_of_ble_eq_true rfl)) dX2_withdraw_12 ⟨Nat.le_of_ble_eq_true rfl, Nat.le_of_ble_eq_true rfl⟩) (fun ra hra => ?_)
    refine lv_if_ne (tgt := 20) hx hb dX2_withdraw_15 (by decide) (fun c1 => ?_) (fun c1 => ?_)
    · have ha : isAcc acc p0 = true := Classical.byContradiction (fun q => c1 (by rw [hra, if_neg q]))
      obtain ⟨b, hqb, rfl⟩ := isAcc_t (by omega) ha
      have eb : (nI b).toNatClampNeg = b := nI_clamp (by omega)
      refine lv_aload_n hx hb dX2_withdraw_20 rfl (lv_at hl 0 rfl) ?_
      refine lv_iload_n hx hb dX2_withdraw_21 rfl (lv_at hl 1 rfl) ?_
      refine vp_callSi (W.runV (As := [.int (nI b)]) (rest := []) ⟨hx, hb, hml, hown, hts⟩ (c_isAmountAbove l D ad cI cB cO acc lm rm N x z ob hok hNk hx0 b (by omega)) (cwV 1 hts gX2_withdraw_X2_isAmountAbove rfl rfl rfl (by decide +kernel) ⟨Nat.le_of_ble_eq_true rfl, Nat.le_of_ble_eq_true rfl⟩) ⟨lPc_blind, va_recv hK hP (ci := 2) (q0 := 0) rfl (wl_at (by omega)), lPc_use (hP) ⟨hK, hN⟩⟩ rfl rfl hl.1 rfl (lv_room (Nat.le_of_ble_eq_true rfl)) dX2_withdraw_22 ⟨Nat.le_of_ble_eq_true rfl, Nat.le_of_ble_eq_true rfl⟩) (fun rg hrg => ?_)
      refine lv_if_eq (tgt := 30) hx hb dX2_withdraw_25 (by decide) (fun c2 => ?_) (fun c2 => ?_)
      · replace c2 : ¬ sv N x b < x 0 := fun q => absurd (c2.symm.trans (hrg.trans (if_pos q))) (by decide)
        refine lv_aload_n hx hb dX2_withdraw_30 rfl (lv_at hl 0 rfl) ?_
        refine lv_iload_n hx hb dX2_withdraw_31 rfl (lv_at hl 1 rfl) ?_
        refine lv_aload_n hx hb dX2_withdraw_32 rfl (lv_at hl 0 rfl) ?_
        refine vp_callSi (W.runV (As := []) (rest := [.int (nI b), .ref (ad 0)]) ⟨hx, hb, hml, hown, hts⟩ (c_totalBlock l D ad cI cB cO acc lm rm N x z ob hok) (cwV 0 hts gX2_withdraw_X2_totalBlock rfl rfl rfl (by decide +kernel) ⟨Nat.le_of_ble_eq_true rfl, Nat.le_of_ble_eq_true rfl⟩) ⟨lPc_blind, va_recv hK hP (ci := 2) (q0 := 0) rfl (wl_at (by omega)), lPc_use (hP) ⟨hK, hN⟩⟩ rfl rfl hl.1 rfl (lv_room (Nat.le_of_ble_eq_true rfl)) dX2_withdraw_33 ⟨Nat.le_of_ble_eq_true rfl, Nat.le_of_ble_eq_true rfl⟩) (fun rt hrt => ?_)
        subst hrt
        refine vp_callSi (W.runV (As := [.int (nI b), .int (nI acc)]) (rest := []) ⟨hx, hb, hml, hown, hts⟩ (c_hasRoomFor l D ad cI cB cO acc lm rm N x z ob hok b acc (by omega) (by omega) hx2 hrm) (cwV 2 hts gX2_withdraw_X2_hasRoomFor rfl rfl rfl (by decide +kernel) ⟨Nat.le_of_ble_eq_true rfl, Nat.le_of_ble_eq_true rfl⟩) ⟨lPc_blind, va_recv hK hP (ci := 2) (q0 := 0) rfl (wl_at (by omega)), lPc_use (hP) ⟨hK, hN⟩⟩ rfl rfl hl.1 rfl (lv_room (Nat.le_of_ble_eq_true rfl)) dX2_withdraw_36 ⟨Nat.le_of_ble_eq_true rfl, Nat.le_of_ble_eq_true rfl⟩) (fun rr hrr => ?_)
        refine lv_if_ne (tgt := 44) hx hb dX2_withdraw_39 (by decide) (fun c3 => ?_) (fun c3 => ?_)
        · replace c3 : ctb (x 2 ||| 2 ^ b ||| 2 ^ acc) ≤ rm := Classical.byContradiction (fun q => c3 (hrr.trans (if_neg q)))
          refine lv_aload_n hx hb dX2_withdraw_44 rfl (lv_at hl 0 rfl) ?_
          refine lv_iload_n hx hb dX2_withdraw_45 rfl (lv_at hl 1 rfl) ?_
          refine va_callr (va_runV (As := [.int (nI b)]) (rest := []) ⟨hx, hb, hml, hown, hts⟩ (c_touch l D ad cI cB cO acc lm rm N x z ob hok hNk b (by omega)) (cwV 1 hts gX2_withdraw_X2_touch rfl rfl rfl (by decide +kernel) ⟨Nat.le_of_ble_eq_true rfl, Nat.le_of_ble_eq_true rfl⟩) ⟨lPc_blind, va_recv hK hP (ci := 2) (q0 := 0) rfl (wl_at (by omega)), lPc_use (hP) ⟨hK, hN⟩⟩ rfl rfl hl.1 rfl (lv_room (Nat.le_of_ble_eq_true rfl)) dX2_withdraw_46 ⟨Nat.le_of_ble_eq_true rfl, Nat.le_of_ble_eq_true rfl⟩) hS (fun q _ h => (fun _ h => h) q h) (fun _ h => h) (fun _u ra t H1 locs ht hvm hw hB hz1 hk9 hS => ?_)
          obtain ⟨hra, hB⟩ := hB
          subst hra
          generalize H1 = H at ht hz1 hk9 hS ⊢
          have hP : va_P D vwCl (lW ad cI cB cO acc lm rm (tN N x b) (tX x b) z ob) H := pB_at ht hB
          have hD : va_D (lA ad acc) (lW ad cI cB cO acc lm rm (tN N x b) (tX x b) z ob) := wlD hok
          refine lv_aload_n hx hb dX2_withdraw_49 rfl (lv_at hl 0 rfl) ?_
          refine va_get (D := D) (ci := 2) (v := .ref (ad 6)) (C := RX2) (T := TX2) (N := 11) hx hb hts hi2 hown hK hP 0 (wl_at (by omega)) rfl 6 (by decide) (hts (.fieldLink RX2 45 "BigLedger" "amount" "LBigLedger$Natural;") (by decide +kernel)) (fun _ h9 => h9) rfl dX2_withdraw_50 ?_
          have hs1 : tX x b 0 ≤ tN N x b 0 b := by rw [tN_at, tX_ne _ _ (by decide)]; omega
          have hs2 : tX x b 0 < 2147483648 ^ (lm + 1) := by rw [tX_ne _ _ (by decide)]; exact hx0
          have hk1 := nOk_tN hNk x b
          have hn25 := ln_p hP 0 b (by decide) (by omega)
          have hn25u := va_P.app hn25 (ln_am hP)
          refine va_callv (va_runV (As := [.ref (ad 6)]) (rest := []) ⟨hx, hb, hml, hown, hts⟩ (c_decrease l D cI (lm + 1) (ad (6 * b + 2 * 0 + 10)) (ad (6 * b + 2 * 0 + 11)) ((tN N x b) 0 b) (by omega) (ln_oa (i := 6 * b + 2 * 0 + 10) hok (by omega)) (hk1 _ _) (ad 6) (ad 7) ((tX x b) 0) (ln_ne (i := 6 * b + 2 * 0 + 10) hok (by omega) (by omega) (by omega) (by omega)) (ln_ne (i := 6 * b + 2 * 0 + 10) hok (by omega) (by omega) (by omega) (by omega)) (hs2) (hs1)) (cwV 1 hts gX2_withdraw_X1_decrease rfl rfl rfl (by decide +kernel) ⟨Nat.le_of_ble_eq_true rfl, Nat.le_of_ble_eq_true rfl⟩) ⟨nPc_blind, va_recv hK hn25 (ci := 1) (q0 := 0) rfl rfl, nPc_use (hn25u) (hK.sub [0] rfl)⟩ rfl rfl hl.1 rfl (lv_room (Nat.le_of_ble_eq_true rfl)) dX2_withdraw_53 ⟨Nat.le_of_ble_eq_true rfl, Nat.le_of_ble_eq_true rfl⟩) hS (fun q _ h => (fun q h => lA_n (i := 6 * b + 2 * 0 + 10) (by omega) h) q h) (fun q h => lA_n (i := 6 * b + 2 * 0 + 10) (by omega) h) (fun _u t H1 locs ht hvm hw hB hz1 hk9 hS => ?_)
          have hP9 := lk_p (k := 0) (b := b) hok (by decide) (by omega) hP hk9 (pB_at ht hB)
          generalize H1 = H at ht hz1 hk9 hS hP9 ⊢
          have hP : va_P D vwCl (lW ad cI cB cO acc lm rm (eN N x b) (tX x b) z ob) H := hP9
          have hD : va_D (lA ad acc) (lW ad cI cB cO acc lm rm (eN N x b) (tX x b) z ob) := wlD hok
          have hk2 : nOk lm (eN N x b) := nOk_up hk1 (Nat.lt_of_le_of_lt (Nat.sub_le _ _) (hk1 _ _))
          have hs3 : tX (tX x b) acc 0 < 2147483648 ^ (lm + 1) := by rw [tX_ne _ _ (by decide)]; exact hs2
          have hs4 : tX (tX x b) acc 0 ≤ tN (eN N x b) (tX x b) acc 0 acc := by
            rw [tN_at, sv_eN_ne _ _ (by omega), tX_ne _ _ (by decide), tX_ne _ _ (by decide)]
            exact hsub b (by omega) (by omega)
          refine lv_aload_n hx hb dX2_withdraw_56 rfl (lv_at hl 0 rfl) ?_
          refine lv_aload_n hx hb dX2_withdraw_57 rfl (lv_at hl 0 rfl) ?_
          refine vp_callSi (W.runV (As := []) (rest := [.ref (ad 0)]) ⟨hx, hb, hml, hown, hts⟩ (c_totalBlock l D ad cI cB cO acc lm rm (eN N x b) (tX x b) z ob hok) (cwV 0 hts gX2_withdraw_X2_totalBlock rfl rfl rfl (by decide +kernel) ⟨Nat.le_of_ble_eq_true rfl, Nat.le_of_ble_eq_true rfl⟩) ⟨lPc_blind, va_recv hK hP (ci := 2) (q0 := 0) rfl (wl_at (by omega)), lPc_use (hP) ⟨hK, hN⟩⟩ rfl rfl hl.1 rfl (lv_room (Nat.le_of_ble_eq_true rfl)) dX2_withdraw_58 ⟨Nat.le_of_ble_eq_true rfl, Nat.le_of_ble_eq_true rfl⟩) (fun rt hrt => ?_)
          subst hrt
          refine va_callr (va_runV (As := [.int (nI acc)]) (rest := []) ⟨hx, hb, hml, hown, hts⟩ (c_touch l D ad cI cB cO acc lm rm (eN N x b) (tX x b) z ob hok hk2 acc (by omega)) (cwV 1 hts gX2_withdraw_X2_touch rfl rfl rfl (by decide +kernel) ⟨Nat.le_of_ble_eq_true rfl, Nat.le_of_ble_eq_true rfl⟩) ⟨lPc_blind, va_recv hK hP (ci := 2) (q0 := 0) rfl (wl_at (by omega)), lPc_use (hP) ⟨hK, hN⟩⟩ rfl rfl hl.1 rfl (lv_room (Nat.le_of_ble_eq_true rfl)) dX2_withdraw_61 ⟨Nat.le_of_ble_eq_true rfl, Nat.le_of_ble_eq_true rfl⟩) hS (fun q _ h => (fun _ h => h) q h) (fun _ h => h) (fun _u ra t H1 locs ht hvm hw hB hz1 hk9 hS => ?_)
          obtain ⟨hra, hB⟩ := hB
          subst hra
          generalize H1 = H at ht hz1 hk9 hS ⊢
          have hP : va_P D vwCl (lW ad cI cB cO acc lm rm (tN (eN N x b) (tX x b) acc) (tX (tX x b) acc) z ob) H := pB_at ht hB
          have hD : va_D (lA ad acc) (lW ad cI cB cO acc lm rm (tN (eN N x b) (tX x b) acc) (tX (tX x b) acc) z ob) := wlD hok
          refine lv_aload_n hx hb dX2_withdraw_64 rfl (lv_at hl 0 rfl) ?_
          refine va_get (D := D) (ci := 2) (v := .ref (ad 6)) (C := RX2) (T := TX2) (N := 11) hx hb hts hi2 hown hK hP 0 (wl_at (by omega)) rfl 6 (by decide) (hts (.fieldLink RX2 45 "BigLedger" "amount" "LBigLedger$Natural;") (by decide +kernel)) (fun _ h9 => h9) rfl dX2_withdraw_65 ?_
          have hk3 := nOk_tN hk2 (tX x b) acc
          have hn26 := ln_p hP 0 acc (by decide) (by omega)
          have hn26u := va_P.app hn26 (ln_am hP)
          refine va_callv (va_runV (As := [.ref (ad 6)]) (rest := []) ⟨hx, hb, hml, hown, hts⟩ (c_decrease l D cI (lm + 1) (ad (6 * acc + 2 * 0 + 10)) (ad (6 * acc + 2 * 0 + 11)) ((tN (eN N x b) (tX x b) acc) 0 acc) (by omega) (ln_oa (i := 6 * acc + 2 * 0 + 10) hok (by omega)) (hk3 _ _) (ad 6) (ad 7) ((tX (tX x b) acc) 0) (ln_ne (i := 6 * acc + 2 * 0 + 10) hok (by omega) (by omega) (by omega) (by omega)) (ln_ne (i := 6 * acc + 2 * 0 + 10) hok (by omega) (by omega) (by omega) (by omega)) (hs3) (hs4)) (cwV 1 hts gX2_withdraw_X1_decrease rfl rfl rfl (by decide +kernel) ⟨Nat.le_of_ble_eq_true rfl, Nat.le_of_ble_eq_true rfl⟩) ⟨nPc_blind, va_recv hK hn26 (ci := 1) (q0 := 0) rfl rfl, nPc_use (hn26u) (hK.sub [0] rfl)⟩ rfl rfl hl.1 rfl (lv_room (Nat.le_of_ble_eq_true rfl)) dX2_withdraw_68 ⟨Nat.le_of_ble_eq_true rfl, Nat.le_of_ble_eq_true rfl⟩) hS (fun q _ h => (fun q h => lA_n (i := 6 * acc + 2 * 0 + 10) (by omega) h) q h) (fun q h => lA_n (i := 6 * acc + 2 * 0 + 10) (by omega) h) (fun _u t H1 locs ht hvm hw hB hz1 hk9 hS => ?_)
          have hP9 := lk_p (k := 0) (b := acc) hok (by decide) (by omega) hP hk9 (pB_at ht hB)
          generalize H1 = H at ht hz1 hk9 hS hP9 ⊢
          have hP : va_P D vwCl (lW ad cI cB cO acc lm rm (eN (eN N x b) (tX x b) acc) (tX (tX x b) acc) z ob) H := hP9
          have hD : va_D (lA ad acc) (lW ad cI cB cO acc lm rm (eN (eN N x b) (tX x b) acc) (tX (tX x b) acc) z ob) := wlD hok
          refine lv_iconst (v := 0) hx hb dX2_withdraw_71 (by decide) ?_
          exact W.iret (v := 0) hx hb hr (fun t ht hW => ⟨⟨_, (eN (eN N x b) (tX x b) acc, tX (tX x b) acc, z), rfl, by rw [cWd, eb]; exact ((if_neg (c0)).trans ((if_neg ((fun q => q ha))).trans ((if_neg (c2)).trans (if_neg ((fun q => q c3)))))).symm, hp_at ht hP⟩, hS.F ht⟩) hS.2.2 dX2_withdraw_72
        · replace c3 : ¬ ctb (x 2 ||| 2 ^ b ||| 2 ^ acc) ≤ rm := fun q => absurd (c3.symm.trans (hrr.trans (if_pos q))) (by decide)
          refine lv_iconst (v := 4) hx hb dX2_withdraw_42 (by decide) ?_
          exact W.iret (v := 4) hx hb hr (fun t ht hW => ⟨⟨_, (N, x, z), rfl, by rw [cWd, eb]; exact ((if_neg (c0)).trans ((if_neg ((fun q => q ha))).trans ((if_neg (c2)).trans (if_pos (c3))))).symm, hp_at ht hP⟩, hS.F ht⟩) hS.2.2 dX2_withdraw_43
      · replace c2 : sv N x b < x 0 := Classical.byContradiction (fun q => c2 (hrg.trans (if_neg q)))
        refine lv_iconst (v := 2) hx hb dX2_withdraw_28 (by decide) ?_
        exact W.iret (v := 2) hx hb hr (fun t ht hW => ⟨⟨_, (N, x, z), rfl, by rw [cWd, eb]; exact ((if_neg (c0)).trans ((if_neg ((fun q => q ha))).trans (if_pos (c2)))).symm, hp_at ht hP⟩, hS.F ht⟩) hS.2.2 dX2_withdraw_29
    · have ha : ¬ isAcc acc p0 = true := fun q => absurd c1 (by rw [hra, if_pos q]; decide)
      refine lv_iconst (v := 1) hx hb dX2_withdraw_18 (by decide) ?_
      exact W.iret (v := 1) hx hb hr (fun t ht hW => ⟨⟨_, (N, x, z), rfl, by rw [cWd]; exact ((if_neg (c0)).trans (if_pos (ha))).symm, hp_at ht hP⟩, hS.F ht⟩) hS.2.2 dX2_withdraw_19
  · refine lv_bipush (v := 6) hx hb dX2_withdraw_7 (by decide) ?_
    exact W.iret (v := 6) hx hb hr (fun t ht hW => ⟨⟨_, (N, x, z), rfl, by rw [cWd]; exact (if_pos (c0)).symm, hp_at ht hP⟩, hS.F ht⟩) hS.2.2 dX2_withdraw_9
set_option maxHeartbeats 4000000 in
set_option maxRecDepth 100000 in
theorem c_transfer (l : Launch) (D : va_G) (ad : Nat → Nat) (cI cB cO : ClassId) (acc lm rm : Nat) (N : LN) (x : Nat → Nat) (z ob : Nat → Int32) (hok : lOk ad acc lm) (hNk : nOk lm N) (hx0 : x 0 < 2147483648 ^ (lm + 1)) (hx1 : x 1 < 2147483648 ^ (lm + 1)) (hx2 : x 2 < 33554432) (hrm : rm ≤ 25) (p0 p1 : Int32) (hadd : ∀ b, b ≤ acc → sv N x b + x 0 < 2147483648 ^ (lm + 1)) : Met l yX2_transfer wsX2_transfer ({ frames := 3, cells := 0, slots := 0, locals := 68 }) (lPc [.ref (ad 0), .int (p0), .int (p1)] D (lW ad cI cB cO acc lm rm N x z ob) [(cI, .int), (cB, .byte), (cO, .object "BigLedger$Natural")]) (va_Qi (fun (r : Int32) (u : DS) => (r, u) = cTr acc lm rm p0 p1 (N, x, z)) (fun u t => va_P D vwCl (lW ad cI cB cO acc lm rm u.1 u.2.1 u.2.2 ob) t.heap) (lA ad acc)) 0 0 (lA ad acc) := by
  refine Met.ofW (cc := cX2_transfer) (maxL := 3) (ret := (some .int)) (by decide) rfl ?_
  intro p e s m args below meth c s₁ B hml hv
  obtain ⟨rfl, hP, hK, hN⟩ := hv
  have hx := B.exec
  have hb := B.bytes
  have hr := B.returns
  have hts := atoms_spec (ws := wsX2_transfer) B.pre
  have hown : s.vm.findClass RX2 = some m.cls := findClass_of_methodNamed B.named
  have hlocks := B.notSynchronized
  have hi2 : ∀ w ∈ wsX20, w ∈ wsX2_transfer := by decide +kernel
  have hok1 := hok.2.1
  have hok2 := hok.2.2.1
  have hok3 := hok.2.2.2
  have hS : va_S (lA ad acc) s.heap s.heap [] := va_S.rf
  have hD : va_D (lA ad acc) (lW ad cI cB cO acc lm rm N x z ob) := wlD hok
  have hl := lv_entry ([.ref (ad 0), .int (p0), .int (p1)]) (n := 3) (Nat.le_of_ble_eq_true rfl)
  rw [lg_entry_eq]
  generalize (lg_sl ([.ref (ad 0), .int (p0), .int (p1)]) ++ List.replicate (3 - (lg_sl ([.ref (ad 0), .int (p0), .int (p1)])).length) Slot.unset).toArray = ls at hl ⊢
  have hl : lv_has ls 3 [(0, .ref (ad 0)), (1, .int (p0)), (2, .int (p1))] := hl
  refine lv_aload_n hx hb dX2_transfer_0 rfl (lv_at hl 0 rfl) ?_
  refine va_get (D := D) (ci := 2) (v := .int (z 0)) (C := RX2) (T := TX2) (N := 11) hx hb hts hi2 hown hK hP 0 (wl_at (by omega)) rfl 7 (by decide) (hts (.fieldLink RX2 71 "BigLedger" "up" "Z") (by decide +kernel)) (fun _ h9 => h9) rfl dX2_transfer_1 ?_
  refine lv_if_ne (tgt := 10) hx hb dX2_transfer_4 (by decide) (fun c0 => ?_) (fun c0 => ?_)
  · refine lv_aload_n hx hb dX2_transfer_10 rfl (lv_at hl 0 rfl) ?_
    refine lv_iload_n hx hb dX2_transfer_11 rfl (lv_at hl 1 rfl) ?_
    refine vp_callSi (W.runV (As := [.int (p0)]) (rest := []) ⟨hx, hb, hml, hown, hts⟩ (c_isAccount l D ad cI cB cO acc lm rm N x z ob hok p0) (cwV 1 hts gX2_transfer_X2_isAccount rfl rfl rfl (by decide +kernel) ⟨Nat.le_of_ble_eq_true rfl, Nat.le_of_ble_eq_true rfl⟩) ⟨lPc_blind, va_recv hK hP (ci := 2) (q0 := 0) rfl (wl_at (by omega)), lPc_use (hP) ⟨hK, hN⟩⟩ rfl rfl hl.1 rfl (lv_room (Nat.le_of_ble_eq_true rfl)) dX2_transfer_12 ⟨Nat.le_of_ble_eq_true rfl, Nat.le_of_ble_eq_true rfl⟩) (fun ra hra => ?_)
    refine lv_if_eq (tgt := 26) hx hb dX2_transfer_15 (by decide) (fun c1 => ?_) (fun c1 => ?_)
    · have ha : ¬ isAcc acc p0 = true := fun q => absurd c1 (by rw [hra, if_pos q]; decide)
      refine lv_iconst (v := 1) hx hb dX2_transfer_26 (by decide) ?_
      exact W.iret (v := 1) hx hb hr (fun t ht hW => ⟨⟨_, (N, x, z), rfl, by rw [cTr]; exact ((if_neg (c0)).trans (if_pos ((fun q => ha q.1)))).symm, hp_at ht hP⟩, hS.F ht⟩) hS.2.2 dX2_transfer_27
    · have ha : isAcc acc p0 = true := Classical.byContradiction (fun q => c1 (by rw [hra, if_neg q]))
      obtain ⟨b, hqb, rfl⟩ := isAcc_t (by omega) ha
      have eb : (nI b).toNatClampNeg = b := nI_clamp (by omega)
      refine lv_aload_n hx hb dX2_transfer_18 rfl (lv_at hl 0 rfl) ?_
      refine lv_iload_n hx hb dX2_transfer_19 rfl (lv_at hl 2 rfl) ?_
      refine vp_callSi (W.runV (As := [.int (p1)]) (rest := []) ⟨hx, hb, hml, hown, hts⟩ (c_isAccount l D ad cI cB cO acc lm rm N x z ob hok p1) (cwV 1 hts gX2_transfer_X2_isAccount rfl rfl rfl (by decide +kernel) ⟨Nat.le_of_ble_eq_true rfl, Nat.le_of_ble_eq_true rfl⟩) ⟨lPc_blind, va_recv hK hP (ci := 2) (q0 := 0) rfl (wl_at (by omega)), lPc_use (hP) ⟨hK, hN⟩⟩ rfl rfl hl.1 rfl (lv_room (Nat.le_of_ble_eq_true rfl)) dX2_transfer_20 ⟨Nat.le_of_ble_eq_true rfl, Nat.le_of_ble_eq_true rfl⟩) (fun ra2 hra2 => ?_)
      refine lv_if_ne (tgt := 28) hx hb dX2_transfer_23 (by decide) (fun c12 => ?_) (fun c12 => ?_)
      · have ha2 : isAcc acc p1 = true := Classical.byContradiction (fun q => c12 (by rw [hra2, if_neg q]))
        obtain ⟨d, hqd, rfl⟩ := isAcc_t (by omega) ha2
        have ed : (nI d).toNatClampNeg = d := nI_clamp (by omega)
        refine lv_aload_n hx hb dX2_transfer_28 rfl (lv_at hl 0 rfl) ?_
        refine lv_iload_n hx hb dX2_transfer_29 rfl (lv_at hl 1 rfl) ?_
        refine vp_callSi (W.runV (As := [.int (nI b)]) (rest := []) ⟨hx, hb, hml, hown, hts⟩ (c_isAmountAbove l D ad cI cB cO acc lm rm N x z ob hok hNk hx0 b (by omega)) (cwV 1 hts gX2_transfer_X2_isAmountAbove rfl rfl rfl (by decide +kernel) ⟨Nat.le_of_ble_eq_true rfl, Nat.le_of_ble_eq_true rfl⟩) ⟨lPc_blind, va_recv hK hP (ci := 2) (q0 := 0) rfl (wl_at (by omega)), lPc_use (hP) ⟨hK, hN⟩⟩ rfl rfl hl.1 rfl (lv_room (Nat.le_of_ble_eq_true rfl)) dX2_transfer_30 ⟨Nat.le_of_ble_eq_true rfl, Nat.le_of_ble_eq_true rfl⟩) (fun rg hrg => ?_)
        refine lv_if_eq (tgt := 38) hx hb dX2_transfer_33 (by decide) (fun c2 => ?_) (fun c2 => ?_)
        · replace c2 : ¬ sv N x b < x 0 := fun q => absurd (c2.symm.trans (hrg.trans (if_pos q))) (by decide)
          refine lv_iload_n hx hb dX2_transfer_38 rfl (lv_at hl 1 rfl) ?_
          refine lv_iload_n hx hb dX2_transfer_39 rfl (lv_at hl 2 rfl) ?_
          refine lv_icmp_eq (tgt := 53) hx hb dX2_transfer_40 (by decide) (fun c22 => ?_) (fun c22 => ?_)
          · have hX : cTrX (nI b) (nI d) (N, x, z) = x := if_pos c22
            have hX0 : x 0 = x 0 := rfl
            have hX2 : x 2 = x 2 := rfl
            have hsvX : ∀ i, sv N x i = sv N x i := fun _ => rfl
            refine lv_aload_n hx hb dX2_transfer_53 rfl (lv_at hl 0 rfl) ?_
            refine lv_iload_n hx hb dX2_transfer_54 rfl (lv_at hl 1 rfl) ?_
            refine lv_iload_n hx hb dX2_transfer_55 rfl (lv_at hl 2 rfl) ?_
            refine vp_callSi (W.runV (As := [.int (nI b), .int (nI d)]) (rest := []) ⟨hx, hb, hml, hown, hts⟩ (c_hasRoomFor l D ad cI cB cO acc lm rm N x z ob hok b d (by omega) (by omega) hx2 hrm) (cwV 2 hts gX2_transfer_X2_hasRoomFor rfl rfl rfl (by decide +kernel) ⟨Nat.le_of_ble_eq_true rfl, Nat.le_of_ble_eq_true rfl⟩) ⟨lPc_blind, va_recv hK hP (ci := 2) (q0 := 0) rfl (wl_at (by omega)), lPc_use (hP) ⟨hK, hN⟩⟩ rfl rfl hl.1 rfl (lv_room (Nat.le_of_ble_eq_true rfl)) dX2_transfer_56 ⟨Nat.le_of_ble_eq_true rfl, Nat.le_of_ble_eq_true rfl⟩) (fun rr hrr => ?_)
            refine lv_if_ne (tgt := 64) hx hb dX2_transfer_59 (by decide) (fun c3 => ?_) (fun c3 => ?_)
            · replace c3 : ctb (x 2 ||| 2 ^ b ||| 2 ^ d) ≤ rm := Classical.byContradiction (fun q => c3 (hrr.trans (if_neg q)))
              refine lv_aload_n hx hb dX2_transfer_64 rfl (lv_at hl 0 rfl) ?_
              refine lv_iload_n hx hb dX2_transfer_65 rfl (lv_at hl 1 rfl) ?_
              refine va_callr (va_runV (As := [.int (nI b)]) (rest := []) ⟨hx, hb, hml, hown, hts⟩ (c_touch l D ad cI cB cO acc lm rm N x z ob hok hNk b (by omega)) (cwV 1 hts gX2_transfer_X2_touch rfl rfl rfl (by decide +kernel) ⟨Nat.le_of_ble_eq_true rfl, Nat.le_of_ble_eq_true rfl⟩) ⟨lPc_blind, va_recv hK hP (ci := 2) (q0 := 0) rfl (wl_at (by omega)), lPc_use (hP) ⟨hK, hN⟩⟩ rfl rfl hl.1 rfl (lv_room (Nat.le_of_ble_eq_true rfl)) dX2_transfer_66 ⟨Nat.le_of_ble_eq_true rfl, Nat.le_of_ble_eq_true rfl⟩) hS (fun q _ h => (fun _ h => h) q h) (fun _ h => h) (fun _u ra t H1 locs ht hvm hw hB hz1 hk9 hS => ?_)
              obtain ⟨hra, hB⟩ := hB
              subst hra
              generalize H1 = H at ht hz1 hk9 hS ⊢
              have hP : va_P D vwCl (lW ad cI cB cO acc lm rm (tN N x b) (tX x b) z ob) H := pB_at ht hB
              have hD : va_D (lA ad acc) (lW ad cI cB cO acc lm rm (tN N x b) (tX x b) z ob) := wlD hok
              refine lv_aload_n hx hb dX2_transfer_69 rfl (lv_at hl 0 rfl) ?_
              refine va_get (D := D) (ci := 2) (v := .ref (ad 6)) (C := RX2) (T := TX2) (N := 11) hx hb hts hi2 hown hK hP 0 (wl_at (by omega)) rfl 6 (by decide) (hts (.fieldLink RX2 45 "BigLedger" "amount" "LBigLedger$Natural;") (by decide +kernel)) (fun _ h9 => h9) rfl dX2_transfer_70 ?_
              have hs1 : tX x b 0 ≤ tN N x b 0 b := by rw [tN_at, tX_ne _ _ (by decide), hsvX, hX0]; omega
              have hs2 : tX x b 0 < 2147483648 ^ (lm + 1) := by rw [tX_ne _ _ (by decide)]; exact hx0
              have hk1 := nOk_tN hNk x b
              have hn27 := ln_p hP 0 b (by decide) (by omega)
              have hn27u := va_P.app hn27 (ln_am hP)
              refine va_callv (va_runV (As := [.ref (ad 6)]) (rest := []) ⟨hx, hb, hml, hown, hts⟩ (c_decrease l D cI (lm + 1) (ad (6 * b + 2 * 0 + 10)) (ad (6 * b + 2 * 0 + 11)) ((tN N x b) 0 b) (by omega) (ln_oa (i := 6 * b + 2 * 0 + 10) hok (by omega)) (hk1 _ _) (ad 6) (ad 7) ((tX x b) 0) (ln_ne (i := 6 * b + 2 * 0 + 10) hok (by omega) (by omega) (by omega) (by omega)) (ln_ne (i := 6 * b + 2 * 0 + 10) hok (by omega) (by omega) (by omega) (by omega)) (hs2) (hs1)) (cwV 1 hts gX2_transfer_X1_decrease rfl rfl rfl (by decide +kernel) ⟨Nat.le_of_ble_eq_true rfl, Nat.le_of_ble_eq_true rfl⟩) ⟨nPc_blind, va_recv hK hn27 (ci := 1) (q0 := 0) rfl rfl, nPc_use (hn27u) (hK.sub [0] rfl)⟩ rfl rfl hl.1 rfl (lv_room (Nat.le_of_ble_eq_true rfl)) dX2_transfer_73 ⟨Nat.le_of_ble_eq_true rfl, Nat.le_of_ble_eq_true rfl⟩) hS (fun q _ h => (fun q h => lA_n (i := 6 * b + 2 * 0 + 10) (by omega) h) q h) (fun q h => lA_n (i := 6 * b + 2 * 0 + 10) (by omega) h) (fun _u t H1 locs ht hvm hw hB hz1 hk9 hS => ?_)
              have hP9 := lk_p (k := 0) (b := b) hok (by decide) (by omega) hP hk9 (pB_at ht hB)
              generalize H1 = H at ht hz1 hk9 hS hP9 ⊢
              have hP : va_P D vwCl (lW ad cI cB cO acc lm rm (eN N x b) (tX x b) z ob) H := hP9
              have hD : va_D (lA ad acc) (lW ad cI cB cO acc lm rm (eN N x b) (tX x b) z ob) := wlD hok
              have hk2 : nOk lm (eN N x b) := nOk_up hk1 (Nat.lt_of_le_of_lt (Nat.sub_le _ _) (hk1 _ _))
              have hs3 : tX (tX x b) d 0 < 2147483648 ^ (lm + 1) := by rw [tX_ne _ _ (by decide)]; exact hs2
              have hs4 : tN (eN N x b) (tX x b) d 0 d + tX (tX x b) d 0 < 2147483648 ^ (lm + 1) := by
                rw [tN_at, tX_ne _ _ (by decide), tX_ne _ _ (by decide)]
                by_cases hbd : d = b
                · subst hbd; rw [sv_eN, hsvX, hX0]; have := hadd d (by omega); omega
                · rw [sv_eN_ne _ _ hbd]; exact hadd d (by omega)
              refine lv_aload_n hx hb dX2_transfer_76 rfl (lv_at hl 0 rfl) ?_
              refine lv_iload_n hx hb dX2_transfer_77 rfl (lv_at hl 2 rfl) ?_
              refine va_callr (va_runV (As := [.int (nI d)]) (rest := []) ⟨hx, hb, hml, hown, hts⟩ (c_touch l D ad cI cB cO acc lm rm (eN N x b) (tX x b) z ob hok hk2 d (by omega)) (cwV 1 hts gX2_transfer_X2_touch rfl rfl rfl (by decide +kernel) ⟨Nat.le_of_ble_eq_true rfl, Nat.le_of_ble_eq_true rfl⟩) ⟨lPc_blind, va_recv hK hP (ci := 2) (q0 := 0) rfl (wl_at (by omega)), lPc_use (hP) ⟨hK, hN⟩⟩ rfl rfl hl.1 rfl (lv_room (Nat.le_of_ble_eq_true rfl)) dX2_transfer_78 ⟨Nat.le_of_ble_eq_true rfl, Nat.le_of_ble_eq_true rfl⟩) hS (fun q _ h => (fun _ h => h) q h) (fun _ h => h) (fun _u ra t H1 locs ht hvm hw hB hz1 hk9 hS => ?_)
              obtain ⟨hra, hB⟩ := hB
              subst hra
              generalize H1 = H at ht hz1 hk9 hS ⊢
              have hP : va_P D vwCl (lW ad cI cB cO acc lm rm (tN (eN N x b) (tX x b) d) (tX (tX x b) d) z ob) H := pB_at ht hB
              have hD : va_D (lA ad acc) (lW ad cI cB cO acc lm rm (tN (eN N x b) (tX x b) d) (tX (tX x b) d) z ob) := wlD hok
              refine lv_aload_n hx hb dX2_transfer_81 rfl (lv_at hl 0 rfl) ?_
              refine va_get (D := D) (ci := 2) (v := .ref (ad 6)) (C := RX2) (T := TX2) (N := 11) hx hb hts hi2 hown hK hP 0 (wl_at (by omega)) rfl 6 (by decide) (hts (.fieldLink RX2 45 "BigLedger" "amount" "LBigLedger$Natural;") (by decide +kernel)) (fun _ h9 => h9) rfl dX2_transfer_82 ?_
              have hk3 := nOk_tN hk2 (tX x b) d
              have hn28 := ln_p hP 0 d (by decide) (by omega)
              have hn28u := va_P.app hn28 (ln_am hP)
              refine va_callv (va_runV (As := [.ref (ad 6)]) (rest := []) ⟨hx, hb, hml, hown, hts⟩ (c_increase l D cI (lm + 1) (ad (6 * d + 2 * 0 + 10)) (ad (6 * d + 2 * 0 + 11)) ((tN (eN N x b) (tX x b) d) 0 d) (by omega) (ln_oa (i := 6 * d + 2 * 0 + 10) hok (by omega)) (hk3 _ _) (ad 6) (ad 7) ((tX (tX x b) d) 0) (ln_ne (i := 6 * d + 2 * 0 + 10) hok (by omega) (by omega) (by omega) (by omega)) (ln_ne (i := 6 * d + 2 * 0 + 10) hok (by omega) (by omega) (by omega) (by omega)) (hs3) (hs4)) (cwV 1 hts gX2_transfer_X1_increase rfl rfl rfl (by decide +kernel) ⟨Nat.le_of_ble_eq_true rfl, Nat.le_of_ble_eq_true rfl⟩) ⟨nPc_blind, va_recv hK hn28 (ci := 1) (q0 := 0) rfl rfl, nPc_use (hn28u) (hK.sub [0] rfl)⟩ rfl rfl hl.1 rfl (lv_room (Nat.le_of_ble_eq_true rfl)) dX2_transfer_85 ⟨Nat.le_of_ble_eq_true rfl, Nat.le_of_ble_eq_true rfl⟩) hS (fun q _ h => (fun q h => lA_n (i := 6 * d + 2 * 0 + 10) (by omega) h) q h) (fun q h => lA_n (i := 6 * d + 2 * 0 + 10) (by omega) h) (fun _u t H1 locs ht hvm hw hB hz1 hk9 hS => ?_)
              have hP9 := lk_p (k := 0) (b := d) hok (by decide) (by omega) hP hk9 (pB_at ht hB)
              generalize H1 = H at ht hz1 hk9 hS hP9 ⊢
              have hP : va_P D vwCl (lW ad cI cB cO acc lm rm (iN (eN N x b) (tX x b) d) (tX (tX x b) d) z ob) H := hP9
              have hD : va_D (lA ad acc) (lW ad cI cB cO acc lm rm (iN (eN N x b) (tX x b) d) (tX (tX x b) d) z ob) := wlD hok
              refine lv_iconst (v := 0) hx hb dX2_transfer_88 (by decide) ?_
              exact W.iret (v := 0) hx hb hr (fun t ht hW => ⟨⟨_, (iN (eN N x b) (tX x b) d, tX (tX x b) d, z), rfl, by rw [cTr, hX, eb, ed]; exact ((if_neg (c0)).trans ((if_neg ((fun q => q ⟨ha, ha2⟩))).trans ((if_neg (c2)).trans ((if_neg ((fun q => q.1 c22))).trans (if_neg ((fun q => q c3))))))).symm, hp_at ht hP⟩, hS.F ht⟩) hS.2.2 dX2_transfer_89
            · replace c3 : ¬ ctb (x 2 ||| 2 ^ b ||| 2 ^ d) ≤ rm := fun q => absurd (c3.symm.trans (hrr.trans (if_pos q))) (by decide)
              refine lv_iconst (v := 4) hx hb dX2_transfer_62 (by decide) ?_
              exact W.iret (v := 4) hx hb hr (fun t ht hW => ⟨⟨_, (N, x, z), rfl, by rw [cTr, hX, eb, ed]; exact ((if_neg (c0)).trans ((if_neg ((fun q => q ⟨ha, ha2⟩))).trans ((if_neg (c2)).trans ((if_neg ((fun q => q.1 c22))).trans (if_pos (c3)))))).symm, hp_at ht hP⟩, hS.F ht⟩) hS.2.2 dX2_transfer_63
          · refine lv_aload_n hx hb dX2_transfer_43 rfl (lv_at hl 0 rfl) ?_
            refine lv_iload_n hx hb dX2_transfer_44 rfl (lv_at hl 2 rfl) ?_
            refine va_calli (va_runV (As := [.int (nI d)]) (rest := []) ⟨hx, hb, hml, hown, hts⟩ (c_wouldBeTooGreat l D ad cI cB cO acc lm rm N x z ob hok hNk hx0 hx1 d (by omega) (hadd d (by omega))) (cwV 1 hts gX2_transfer_X2_wouldBeTooGreat rfl rfl rfl (by decide +kernel) ⟨Nat.le_of_ble_eq_true rfl, Nat.le_of_ble_eq_true rfl⟩) ⟨lPc_blind, va_recv hK hP (ci := 2) (q0 := 0) rfl (wl_at (by omega)), lPc_use (hP) ⟨hK, hN⟩⟩ rfl rfl hl.1 rfl (lv_room (Nat.le_of_ble_eq_true rfl)) dX2_transfer_45 ⟨Nat.le_of_ble_eq_true rfl, Nat.le_of_ble_eq_true rfl⟩) hS (fun q _ h => (fun _ h => h) q h) (fun _ h => h) (fun rg2 _u t H1 locs ht hvm hwg hB hz1 hk9 hS => ?_)
            generalize H1 = H at ht hz1 hk9 hS ⊢
            have hP : va_P D vwCl (lW ad cI cB cO acc lm rm N (va_up x 1 (sv N x d + x 0)) z ob) H := pB_at ht hB
            have hD : va_D (lA ad acc) (lW ad cI cB cO acc lm rm N (va_up x 1 (sv N x d + x 0)) z ob) := wlD hok
            refine lv_if_eq (tgt := 53) hx hb dX2_transfer_48 (by decide) (fun c23 => ?_) (fun c23 => ?_)
            · replace c23 : ¬ lm < szF (sv N x d + x 0) (lm + 1) := fun q => absurd (c23.symm.trans (hwg.trans (if_pos q))) (by decide)
              have hX : cTrX (nI b) (nI d) (N, x, z) = (va_up x 1 (sv N x d + x 0)) := (if_neg c22).trans (by rw [ed])
              have hX0 : (va_up x 1 (sv N x d + x 0)) 0 = x 0 := rfl
              have hX2 : (va_up x 1 (sv N x d + x 0)) 2 = x 2 := rfl
              have hsvX : ∀ i, sv N (va_up x 1 (sv N x d + x 0)) i = sv N x i := fun _ => rfl
              refine lv_aload_n hx hb dX2_transfer_53 rfl (lv_at hl 0 rfl) ?_
              refine lv_iload_n hx hb dX2_transfer_54 rfl (lv_at hl 1 rfl) ?_
              refine lv_iload_n hx hb dX2_transfer_55 rfl (lv_at hl 2 rfl) ?_
              refine vp_callSi (W.runV (As := [.int (nI b), .int (nI d)]) (rest := []) ⟨hx, hb, hml, hown, hts⟩ (c_hasRoomFor l D ad cI cB cO acc lm rm N (va_up x 1 (sv N x d + x 0)) z ob hok b d (by omega) (by omega) hx2 hrm) (cwV 2 hts gX2_transfer_X2_hasRoomFor rfl rfl rfl (by decide +kernel) ⟨Nat.le_of_ble_eq_true rfl, Nat.le_of_ble_eq_true rfl⟩) ⟨lPc_blind, va_recv hK hP (ci := 2) (q0 := 0) rfl (wl_at (by omega)), lPc_use (hP) ⟨hK, hN⟩⟩ rfl rfl hl.1 rfl (lv_room (Nat.le_of_ble_eq_true rfl)) dX2_transfer_56 ⟨Nat.le_of_ble_eq_true rfl, Nat.le_of_ble_eq_true rfl⟩) (fun rr hrr => ?_)
              refine lv_if_ne (tgt := 64) hx hb dX2_transfer_59 (by decide) (fun c3 => ?_) (fun c3 => ?_)
              · replace c3 : ctb (x 2 ||| 2 ^ b ||| 2 ^ d) ≤ rm := Classical.byContradiction (fun q => c3 (hrr.trans (if_neg q)))
                refine lv_aload_n hx hb dX2_transfer_64 rfl (lv_at hl 0 rfl) ?_
                refine lv_iload_n hx hb dX2_transfer_65 rfl (lv_at hl 1 rfl) ?_
                refine va_callr (va_runV (As := [.int (nI b)]) (rest := []) ⟨hx, hb, hml, hown, hts⟩ (c_touch l D ad cI cB cO acc lm rm N (va_up x 1 (sv N x d + x 0)) z ob hok hNk b (by omega)) (cwV 1 hts gX2_transfer_X2_touch rfl rfl rfl (by decide +kernel) ⟨Nat.le_of_ble_eq_true rfl, Nat.le_of_ble_eq_true rfl⟩) ⟨lPc_blind, va_recv hK hP (ci := 2) (q0 := 0) rfl (wl_at (by omega)), lPc_use (hP) ⟨hK, hN⟩⟩ rfl rfl hl.1 rfl (lv_room (Nat.le_of_ble_eq_true rfl)) dX2_transfer_66 ⟨Nat.le_of_ble_eq_true rfl, Nat.le_of_ble_eq_true rfl⟩) hS (fun q _ h => (fun _ h => h) q h) (fun _ h => h) (fun _u ra t H1 locs ht hvm hw hB hz1 hk9 hS => ?_)
                obtain ⟨hra, hB⟩ := hB
                subst hra
                generalize H1 = H at ht hz1 hk9 hS ⊢
                have hP : va_P D vwCl (lW ad cI cB cO acc lm rm (tN N (va_up x 1 (sv N x d + x 0)) b) (tX (va_up x 1 (sv N x d + x 0)) b) z ob) H := pB_at ht hB
                have hD : va_D (lA ad acc) (lW ad cI cB cO acc lm rm (tN N (va_up x 1 (sv N x d + x 0)) b) (tX (va_up x 1 (sv N x d + x 0)) b) z ob) := wlD hok
                refine lv_aload_n hx hb dX2_transfer_69 rfl (lv_at hl 0 rfl) ?_
                refine va_get (D := D) (ci := 2) (v := .ref (ad 6)) (C := RX2) (T := TX2) (N := 11) hx hb hts hi2 hown hK hP 0 (wl_at (by omega)) rfl 6 (by decide) (hts (.fieldLink RX2 45 "BigLedger" "amount" "LBigLedger$Natural;") (by decide +kernel)) (fun _ h9 => h9) rfl dX2_transfer_70 ?_
                have hs1 : tX (va_up x 1 (sv N x d + x 0)) b 0 ≤ tN N (va_up x 1 (sv N x d + x 0)) b 0 b := by rw [tN_at, tX_ne _ _ (by decide), hsvX, hX0]; omega
                have hs2 : tX (va_up x 1 (sv N x d + x 0)) b 0 < 2147483648 ^ (lm + 1) := by rw [tX_ne _ _ (by decide)]; exact hx0
                have hk1 := nOk_tN hNk (va_up x 1 (sv N x d + x 0)) b
                have hn29 := ln_p hP 0 b (by decide) (by omega)
                have hn29u := va_P.app hn29 (ln_am hP)
                refine va_callv (va_runV (As := [.ref (ad 6)]) (rest := []) ⟨hx, hb, hml, hown, hts⟩ (c_decrease l D cI (lm + 1) (ad (6 * b + 2 * 0 + 10)) (ad (6 * b + 2 * 0 + 11)) ((tN N (va_up x 1 (sv N x d + x 0)) b) 0 b) (by omega) (ln_oa (i := 6 * b + 2 * 0 + 10) hok (by omega)) (hk1 _ _) (ad 6) (ad 7) ((tX (va_up x 1 (sv N x d + x 0)) b) 0) (ln_ne (i := 6 * b + 2 * 0 + 10) hok (by omega) (by omega) (by omega) (by omega)) (ln_ne (i := 6 * b + 2 * 0 + 10) hok (by omega) (by omega) (by omega) (by omega)) (hs2) (hs1)) (cwV 1 hts gX2_transfer_X1_decrease rfl rfl rfl (by decide +kernel) ⟨Nat.le_of_ble_eq_true rfl, Nat.le_of_ble_eq_true rfl⟩) ⟨nPc_blind, va_recv hK hn29 (ci := 1) (q0 := 0) rfl rfl, nPc_use (hn29u) (hK.sub [0] rfl)⟩ rfl rfl hl.1 rfl (lv_room (Nat.le_of_ble_eq_true rfl)) dX2_transfer_73 ⟨Nat.le_of_ble_eq_true rfl, Nat.le_of_ble_eq_true rfl⟩) hS (fun q _ h => (fun q h => lA_n (i := 6 * b + 2 * 0 + 10) (by omega) h) q h) (fun q h => lA_n (i := 6 * b + 2 * 0 + 10) (by omega) h) (fun _u t H1 locs ht hvm hw hB hz1 hk9 hS => ?_)
                have hP9 := lk_p (k := 0) (b := b) hok (by decide) (by omega) hP hk9 (pB_at ht hB)
                generalize H1 = H at ht hz1 hk9 hS hP9 ⊢
                have hP : va_P D vwCl (lW ad cI cB cO acc lm rm (eN N (va_up x 1 (sv N x d + x 0)) b) (tX (va_up x 1 (sv N x d + x 0)) b) z ob) H := hP9
                have hD : va_D (lA ad acc) (lW ad cI cB cO acc lm rm (eN N (va_up x 1 (sv N x d + x 0)) b) (tX (va_up x 1 (sv N x d + x 0)) b) z ob) := wlD hok
                have hk2 : nOk lm (eN N (va_up x 1 (sv N x d + x 0)) b) := nOk_up hk1 (Nat.lt_of_le_of_lt (Nat.sub_le _ _) (hk1 _ _))
                have hs3 : tX (tX (va_up x 1 (sv N x d + x 0)) b) d 0 < 2147483648 ^ (lm + 1) := by rw [tX_ne _ _ (by decide)]; exact hs2
                have hs4 : tN (eN N (va_up x 1 (sv N x d + x 0)) b) (tX (va_up x 1 (sv N x d + x 0)) b) d 0 d + tX (tX (va_up x 1 (sv N x d + x 0)) b) d 0 < 2147483648 ^ (lm + 1) := by
                  rw [tN_at, tX_ne _ _ (by decide), tX_ne _ _ (by decide)]
                  by_cases hbd : d = b
                  · subst hbd; rw [sv_eN, hsvX, hX0]; have := hadd d (by omega); omega
                  · rw [sv_eN_ne _ _ hbd]; exact hadd d (by omega)
                refine lv_aload_n hx hb dX2_transfer_76 rfl (lv_at hl 0 rfl) ?_
                refine lv_iload_n hx hb dX2_transfer_77 rfl (lv_at hl 2 rfl) ?_
                refine va_callr (va_runV (As := [.int (nI d)]) (rest := []) ⟨hx, hb, hml, hown, hts⟩ (c_touch l D ad cI cB cO acc lm rm (eN N (va_up x 1 (sv N x d + x 0)) b) (tX (va_up x 1 (sv N x d + x 0)) b) z ob hok hk2 d (by omega)) (cwV 1 hts gX2_transfer_X2_touch rfl rfl rfl (by decide +kernel) ⟨Nat.le_of_ble_eq_true rfl, Nat.le_of_ble_eq_true rfl⟩) ⟨lPc_blind, va_recv hK hP (ci := 2) (q0 := 0) rfl (wl_at (by omega)), lPc_use (hP) ⟨hK, hN⟩⟩ rfl rfl hl.1 rfl (lv_room (Nat.le_of_ble_eq_true rfl)) dX2_transfer_78 ⟨Nat.le_of_ble_eq_true rfl, Nat.le_of_ble_eq_true rfl⟩) hS (fun q _ h => (fun _ h => h) q h) (fun _ h => h) (fun _u ra t H1 locs ht hvm hw hB hz1 hk9 hS => ?_)
                obtain ⟨hra, hB⟩ := hB
                subst hra
                generalize H1 = H at ht hz1 hk9 hS ⊢
                have hP : va_P D vwCl (lW ad cI cB cO acc lm rm (tN (eN N (va_up x 1 (sv N x d + x 0)) b) (tX (va_up x 1 (sv N x d + x 0)) b) d) (tX (tX (va_up x 1 (sv N x d + x 0)) b) d) z ob) H := pB_at ht hB
                have hD : va_D (lA ad acc) (lW ad cI cB cO acc lm rm (tN (eN N (va_up x 1 (sv N x d + x 0)) b) (tX (va_up x 1 (sv N x d + x 0)) b) d) (tX (tX (va_up x 1 (sv N x d + x 0)) b) d) z ob) := wlD hok
                refine lv_aload_n hx hb dX2_transfer_81 rfl (lv_at hl 0 rfl) ?_
                refine va_get (D := D) (ci := 2) (v := .ref (ad 6)) (C := RX2) (T := TX2) (N := 11) hx hb hts hi2 hown hK hP 0 (wl_at (by omega)) rfl 6 (by decide) (hts (.fieldLink RX2 45 "BigLedger" "amount" "LBigLedger$Natural;") (by decide +kernel)) (fun _ h9 => h9) rfl dX2_transfer_82 ?_
                have hk3 := nOk_tN hk2 (tX (va_up x 1 (sv N x d + x 0)) b) d
                have hn30 := ln_p hP 0 d (by decide) (by omega)
                have hn30u := va_P.app hn30 (ln_am hP)
                refine va_callv (va_runV (As := [.ref (ad 6)]) (rest := []) ⟨hx, hb, hml, hown, hts⟩ (c_increase l D cI (lm + 1) (ad (6 * d + 2 * 0 + 10)) (ad (6 * d + 2 * 0 + 11)) ((tN (eN N (va_up x 1 (sv N x d + x 0)) b) (tX (va_up x 1 (sv N x d + x 0)) b) d) 0 d) (by omega) (ln_oa (i := 6 * d + 2 * 0 + 10) hok (by omega)) (hk3 _ _) (ad 6) (ad 7) ((tX (tX (va_up x 1 (sv N x d + x 0)) b) d) 0) (ln_ne (i := 6 * d + 2 * 0 + 10) hok (by omega) (by omega) (by omega) (by omega)) (ln_ne (i := 6 * d + 2 * 0 + 10) hok (by omega) (by omega) (by omega) (by omega)) (hs3) (hs4)) (cwV 1 hts gX2_transfer_X1_increase rfl rfl rfl (by decide +kernel) ⟨Nat.le_of_ble_eq_true rfl, Nat.le_of_ble_eq_true rfl⟩) ⟨nPc_blind, va_recv hK hn30 (ci := 1) (q0 := 0) rfl rfl, nPc_use (hn30u) (hK.sub [0] rfl)⟩ rfl rfl hl.1 rfl (lv_room (Nat.le_of_ble_eq_true rfl)) dX2_transfer_85 ⟨Nat.le_of_ble_eq_true rfl, Nat.le_of_ble_eq_true rfl⟩) hS (fun q _ h => (fun q h => lA_n (i := 6 * d + 2 * 0 + 10) (by omega) h) q h) (fun q h => lA_n (i := 6 * d + 2 * 0 + 10) (by omega) h) (fun _u t H1 locs ht hvm hw hB hz1 hk9 hS => ?_)
                have hP9 := lk_p (k := 0) (b := d) hok (by decide) (by omega) hP hk9 (pB_at ht hB)
                generalize H1 = H at ht hz1 hk9 hS hP9 ⊢
                have hP : va_P D vwCl (lW ad cI cB cO acc lm rm (iN (eN N (va_up x 1 (sv N x d + x 0)) b) (tX (va_up x 1 (sv N x d + x 0)) b) d) (tX (tX (va_up x 1 (sv N x d + x 0)) b) d) z ob) H := hP9
                have hD : va_D (lA ad acc) (lW ad cI cB cO acc lm rm (iN (eN N (va_up x 1 (sv N x d + x 0)) b) (tX (va_up x 1 (sv N x d + x 0)) b) d) (tX (tX (va_up x 1 (sv N x d + x 0)) b) d) z ob) := wlD hok
                refine lv_iconst (v := 0) hx hb dX2_transfer_88 (by decide) ?_
                exact W.iret (v := 0) hx hb hr (fun t ht hW => ⟨⟨_, (iN (eN N (va_up x 1 (sv N x d + x 0)) b) (tX (va_up x 1 (sv N x d + x 0)) b) d, tX (tX (va_up x 1 (sv N x d + x 0)) b) d, z), rfl, by rw [cTr, hX, eb, ed]; exact ((if_neg (c0)).trans ((if_neg ((fun q => q ⟨ha, ha2⟩))).trans ((if_neg (c2)).trans ((if_neg ((fun q => c23 q.2))).trans (if_neg ((fun q => q c3))))))).symm, hp_at ht hP⟩, hS.F ht⟩) hS.2.2 dX2_transfer_89
              · replace c3 : ¬ ctb (x 2 ||| 2 ^ b ||| 2 ^ d) ≤ rm := fun q => absurd (c3.symm.trans (hrr.trans (if_pos q))) (by decide)
                refine lv_iconst (v := 4) hx hb dX2_transfer_62 (by decide) ?_
                exact W.iret (v := 4) hx hb hr (fun t ht hW => ⟨⟨_, (N, va_up x 1 (sv N x d + x 0), z), rfl, by rw [cTr, hX, eb, ed]; exact ((if_neg (c0)).trans ((if_neg ((fun q => q ⟨ha, ha2⟩))).trans ((if_neg (c2)).trans ((if_neg ((fun q => c23 q.2))).trans (if_pos (c3)))))).symm, hp_at ht hP⟩, hS.F ht⟩) hS.2.2 dX2_transfer_63
            · replace c23 : lm < szF (sv N x d + x 0) (lm + 1) := Classical.byContradiction (fun q => c23 (hwg.trans (if_neg q)))
              refine lv_iconst (v := 3) hx hb dX2_transfer_51 (by decide) ?_
              have hX : cTrX (nI b) (nI d) (N, x, z) = (va_up x 1 (sv N x d + x 0)) := (if_neg c22).trans (by rw [ed])
              exact W.iret (v := 3) hx hb hr (fun t ht hW => ⟨⟨_, (N, va_up x 1 (sv N x d + x 0), z), rfl, by rw [cTr, hX, eb, ed]; exact ((if_neg (c0)).trans ((if_neg ((fun q => q ⟨ha, ha2⟩))).trans ((if_neg (c2)).trans (if_pos (⟨c22, c23⟩))))).symm, hp_at ht hP⟩, hS.F ht⟩) hS.2.2 dX2_transfer_52
        · replace c2 : sv N x b < x 0 := Classical.byContradiction (fun q => c2 (hrg.trans (if_neg q)))
          refine lv_iconst (v := 2) hx hb dX2_transfer_36 (by decide) ?_
          exact W.iret (v := 2) hx hb hr (fun t ht hW => ⟨⟨_, (N, x, z), rfl, by rw [cTr, eb]; exact ((if_neg (c0)).trans ((if_neg ((fun q => q ⟨ha, ha2⟩))).trans (if_pos (c2)))).symm, hp_at ht hP⟩, hS.F ht⟩) hS.2.2 dX2_transfer_37
      · have ha2 : ¬ isAcc acc p1 = true := fun q => absurd c12 (by rw [hra2, if_pos q]; decide)
        refine lv_iconst (v := 1) hx hb dX2_transfer_26 (by decide) ?_
        exact W.iret (v := 1) hx hb hr (fun t ht hW => ⟨⟨_, (N, x, z), rfl, by rw [cTr]; exact ((if_neg (c0)).trans (if_pos ((fun q => ha2 q.2)))).symm, hp_at ht hP⟩, hS.F ht⟩) hS.2.2 dX2_transfer_27
  · refine lv_bipush (v := 6) hx hb dX2_transfer_7 (by decide) ?_
    exact W.iret (v := 6) hx hb hr (fun t ht hW => ⟨⟨_, (N, x, z), rfl, by rw [cTr]; exact (if_pos (c0)).symm, hp_at ht hP⟩, hS.F ht⟩) hS.2.2 dX2_transfer_9

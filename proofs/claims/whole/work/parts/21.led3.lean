set_option maxHeartbeats 4000000 in
set_option maxRecDepth 100000 in
theorem c_part (l : Launch) (D : va_G) (ad : Nat → Nat) (cI cB cO : ClassId) (acc lm rm : Nat) (N : LN) (x : Nat → Nat) (z ob : Nat → Int32) (hok : lOk ad acc lm) (hNk : nOk lm N) (hx0 : x 0 < 2147483648 ^ (lm + 1)) (p0 p1 p2 : Int32) (hbal : ∀ b, b < acc → sv N x b < 2147483648 ^ lm) : Met l yX2_part wsX2_part ({ frames := 2, cells := 0, slots := 0, locals := 46 }) (lPc [.ref (ad 0), .int (p0), .int (p1), .int (p2)] D (lW ad cI cB cO acc lm rm N x z ob) [(cI, .int), (cB, .byte), (cO, .object "BigLedger$Natural")]) (va_Qi (fun (r : Int32) (u : DS) => (r, u) = cPart acc p0 p1 p2 (N, x, z)) (fun u t => va_P D vwCl (lW ad cI cB cO acc lm rm u.1 u.2.1 u.2.2 ob) t.heap) (lA ad acc)) 0 0 (lA ad acc) := by
  refine Met.ofW (cc := cX2_part) (maxL := 4) (ret := (some .int)) (by decide) rfl ?_
  intro p e s m args below meth c s₁ B hml hv
  obtain ⟨rfl, hP, hK, hN⟩ := hv
  have hx := B.exec
  have hb := B.bytes
  have hr := B.returns
  have hts := atoms_spec (ws := wsX2_part) B.pre
  have hown : s.vm.findClass RX2 = some m.cls := findClass_of_methodNamed B.named
  have hlocks := B.notSynchronized
  have hi2 : ∀ w ∈ wsX20, w ∈ wsX2_part := by decide +kernel
  have hok1 := hok.2.1
  have hok2 := hok.2.2.1
  have hok3 := hok.2.2.2
  have hS : va_S (lA ad acc) s.heap s.heap [] := va_S.rf
  have hD : va_D (lA ad acc) (lW ad cI cB cO acc lm rm N x z ob) := wlD hok
  have hl := lv_entry ([.ref (ad 0), .int (p0), .int (p1), .int (p2)]) (n := 4) (Nat.le_of_ble_eq_true rfl)
  rw [lg_entry_eq]
  generalize (lg_sl ([.ref (ad 0), .int (p0), .int (p1), .int (p2)]) ++ List.replicate (4 - (lg_sl ([.ref (ad 0), .int (p0), .int (p1), .int (p2)])).length) Slot.unset).toArray = ls at hl ⊢
  have hl : lv_has ls 4 [(0, .ref (ad 0)), (1, .int (p0)), (2, .int (p1)), (3, .int (p2))] := hl
  refine lv_aload_n hx hb dX2_part_0 rfl (lv_at hl 0 rfl) ?_
  refine va_get (D := D) (ci := 2) (v := .int (z 0)) (C := RX2) (T := TX2) (N := 11) hx hb hts hi2 hown hK hP 0 (wl_at (by omega)) rfl 7 (by decide) (hts (.fieldLink RX2 71 "BigLedger" "up" "Z") (by decide +kernel)) (fun _ h9 => h9) rfl dX2_part_1 ?_
  refine lv_if_ne (tgt := 10) hx hb dX2_part_4 (by decide) (fun c0 => ?_) (fun c0 => ?_)
  · refine lv_aload_n hx hb dX2_part_10 rfl (lv_at hl 0 rfl) ?_
    refine lv_iload_n hx hb dX2_part_11 rfl (lv_at hl 1 rfl) ?_
    refine vp_callSi (W.runV (As := [.int (p0)]) (rest := []) ⟨hx, hb, hml, hown, hts⟩ (c_isAccount l D ad cI cB cO acc lm rm N x z ob hok p0) (cwV 1 hts gX2_part_X2_isAccount rfl rfl rfl (by decide +kernel) ⟨Nat.le_of_ble_eq_true rfl, Nat.le_of_ble_eq_true rfl⟩) ⟨lPc_blind, va_recv hK hP (ci := 2) (q0 := 0) rfl (wl_at (by omega)), lPc_use (hP) ⟨hK, hN⟩⟩ rfl rfl hl.1 rfl (lv_room (Nat.le_of_ble_eq_true rfl)) dX2_part_12 ⟨Nat.le_of_ble_eq_true rfl, Nat.le_of_ble_eq_true rfl⟩) (fun ra hra => ?_)
    refine lv_if_ne (tgt := 20) hx hb dX2_part_15 (by decide) (fun c1 => ?_) (fun c1 => ?_)
    · have ha : isAcc acc p0 = true := Classical.byContradiction (fun q => c1 (by rw [hra, if_neg q]))
      obtain ⟨b, hqb, rfl⟩ := isAcc_t (by omega) ha
      have eb : (nI b).toNatClampNeg = b := nI_clamp (by omega)
      refine lv_iload_n hx hb dX2_part_20 rfl (lv_at hl 2 rfl) ?_
      refine lv_if_lt (tgt := 34) hx hb dX2_part_21 (by decide) (fun c2 => ?_) (fun c2 => ?_)
      · refine lv_iconst (v := 5) hx hb dX2_part_34 (by decide) ?_
        exact W.iret (v := 5) hx hb hr (fun t ht hW => ⟨⟨_, (N, x, z), rfl, by rw [cPart]; exact ((if_neg (c0)).trans ((if_neg ((fun q => q ha))).trans (if_pos (Or.inl c2)))).symm, hp_at ht hP⟩, hS.F ht⟩) hS.2.2 dX2_part_35
      · refine lv_iload_n hx hb dX2_part_24 rfl (lv_at hl 2 rfl) ?_
        refine lv_iload_n hx hb dX2_part_25 rfl (lv_at hl 3 rfl) ?_
        refine lv_icmp_gt (tgt := 34) hx hb dX2_part_26 (by decide) (fun c3 => ?_) (fun c3 => ?_)
        · refine lv_iconst (v := 5) hx hb dX2_part_34 (by decide) ?_
          exact W.iret (v := 5) hx hb hr (fun t ht hW => ⟨⟨_, (N, x, z), rfl, by rw [cPart]; exact ((if_neg (c0)).trans ((if_neg ((fun q => q ha))).trans (if_pos (Or.inr (Or.inl c3))))).symm, hp_at ht hP⟩, hS.F ht⟩) hS.2.2 dX2_part_35
        · refine lv_iload_n hx hb dX2_part_29 rfl (lv_at hl 3 rfl) ?_
          refine lv_iconst (v := 1) hx hb dX2_part_30 (by decide) ?_
          refine lv_icmp_ge (tgt := 36) hx hb dX2_part_31 (by decide) (fun c4 => ?_) (fun c4 => ?_)
          · obtain ⟨k, hk, rfl⟩ := nI_of c2
            obtain ⟨j, hj, rfl⟩ := nI_of (x := p2) (fun q => (fa_of_lt (fa_trans q (show (0 : Int32) ≤ 1 by decide))).2.1 c4)
            have hj1 : 1 ≤ j := (nI_leI (a := 1) (by omega) hj).mp c4
            have ek : (nI k).toNatClampNeg = k := nI_clamp hk
            have ej : (nI j).toNatClampNeg = j := nI_clamp hj
            have hsk := sk_lt x b
            refine lv_aload_n hx hb dX2_part_36 rfl (lv_at hl 0 rfl) ?_
            refine va_get (D := D) (ci := 2) (v := .ref (ad 6)) (C := RX2) (T := TX2) (N := 11) hx hb hts hi2 hown hK hP 0 (wl_at (by omega)) rfl 6 (by decide) (hts (.fieldLink RX2 45 "BigLedger" "amount" "LBigLedger$Natural;") (by decide +kernel)) (fun _ h9 => h9) rfl dX2_part_37 ?_
            refine lv_aload_n hx hb dX2_part_40 rfl (lv_at hl 0 rfl) ?_
            refine lv_iload_n hx hb dX2_part_41 rfl (lv_at hl 1 rfl) ?_
            refine va_csr (W.runV (As := [.int (nI b)]) (rest := [.ref (ad 6)]) ⟨hx, hb, hml, hown, hts⟩ (c_seen l D ad cI cB cO acc lm rm N x z ob hok b (by omega)) (cwV 1 hts gX2_part_X2_seen rfl rfl rfl (by decide +kernel) ⟨Nat.le_of_ble_eq_true rfl, Nat.le_of_ble_eq_true rfl⟩) ⟨lPc_blind, va_recv hK hP (ci := 2) (q0 := 0) rfl (wl_at (by omega)), lPc_use (hP) ⟨hK, hN⟩⟩ rfl rfl hl.1 rfl (lv_room (Nat.le_of_ble_eq_true rfl)) dX2_part_42 ⟨Nat.le_of_ble_eq_true rfl, Nat.le_of_ble_eq_true rfl⟩) (fun ks hks => ?_)
            subst hks
            have hn31 := ln_am hP
            have hn31u := va_P.app hn31 (ln_p hP (sk x b) b (by omega) (by omega))
            refine va_callv (va_runV (As := [.ref (ad (6 * b + 2 * sk x b + 10))]) (rest := []) ⟨hx, hb, hml, hown, hts⟩ (c_setTo l D cI (lm + 1) (ad 6) (ad 7) (x 0) (by omega) (ln_oa (i := 6) hok (by omega)) hx0 (ad (6 * b + 2 * sk x b + 10)) (ad (6 * b + 2 * sk x b + 11)) (N (sk x b) b) (ln_ne (i := 6) hok (by omega) (by omega) (by omega) (by omega)) (ln_ne (i := 6) hok (by omega) (by omega) (by omega) (by omega)) (hNk _ _)) (cwV 1 hts gX2_part_X1_setTo rfl rfl rfl (by decide +kernel) ⟨Nat.le_of_ble_eq_true rfl, Nat.le_of_ble_eq_true rfl⟩) ⟨nPc_blind, va_recv hK hn31 (ci := 1) (q0 := 0) rfl rfl, nPc_use (hn31u) (hK.sub [0] rfl)⟩ rfl rfl hl.1 rfl (lv_room (Nat.le_of_ble_eq_true rfl)) dX2_part_45 ⟨Nat.le_of_ble_eq_true rfl, Nat.le_of_ble_eq_true rfl⟩) hS (fun q _ h => (fun q h => lA_n (i := 6) (by omega) h) q h) (fun q h => lA_n (i := 6) (by omega) h) (fun _u t H1 locs ht hvm hw hB hz1 hk9 hS => ?_)
            have hP9 := lk_am hok hP hk9 (pB_at ht hB)
            generalize H1 = H at ht hz1 hk9 hS hP9 ⊢
            have hP : va_P D vwCl (lW ad cI cB cO acc lm rm N (va_up x 0 (sv N x b)) z ob) H := hP9
            have hD : va_D (lA ad acc) (lW ad cI cB cO acc lm rm N (va_up x 0 (sv N x b)) z ob) := wlD hok
            have hm1 : sv N x b * k < 2147483648 ^ (lm + 1) := by
              rw [Nat.pow_succ]
              exact Nat.mul_lt_mul_of_lt_of_lt (hbal b hqb) hk
            refine lv_aload_n hx hb dX2_part_48 rfl (lv_at hl 0 rfl) ?_
            refine va_get (D := D) (ci := 2) (v := .ref (ad 6)) (C := RX2) (T := TX2) (N := 11) hx hb hts hi2 hown hK hP 0 (wl_at (by omega)) rfl 6 (by decide) (hts (.fieldLink RX2 45 "BigLedger" "amount" "LBigLedger$Natural;") (by decide +kernel)) (fun _ h9 => h9) rfl dX2_part_49 ?_
            refine lv_iload_n hx hb dX2_part_52 rfl (lv_at hl 2 rfl) ?_
            have hn32 := ln_am hP
            refine va_callv (va_runV (As := [.int (nI k)]) (rest := []) ⟨hx, hb, hml, hown, hts⟩ (c_multiply l D cI (lm + 1) (ad 6) (ad 7) (sv N x b) (by omega) (ln_oa (i := 6) hok (by omega)) (hNk _ _) k hk hm1) (cwV 1 hts gX2_part_X1_multiply rfl rfl rfl (by decide +kernel) ⟨Nat.le_of_ble_eq_true rfl, Nat.le_of_ble_eq_true rfl⟩) ⟨nPc_blind, va_recv hK hn32 (ci := 1) (q0 := 0) rfl rfl, nPc_use (hn32) (hK.sub [0] rfl)⟩ rfl rfl hl.1 rfl (lv_room (Nat.le_of_ble_eq_true rfl)) dX2_part_53 ⟨Nat.le_of_ble_eq_true rfl, Nat.le_of_ble_eq_true rfl⟩) hS (fun q _ h => (fun q h => lA_n (i := 6) (by omega) h) q h) (fun q h => lA_n (i := 6) (by omega) h) (fun _u t H1 locs ht hvm hw hB hz1 hk9 hS => ?_)
            have hP9 := cv (by rw [bx_uu]) (lk_am hok hP hk9 (pB_at ht hB))
            generalize H1 = H at ht hz1 hk9 hS hP9 ⊢
            have hP : va_P D vwCl (lW ad cI cB cO acc lm rm N (va_up x 0 (sv N x b * k)) z ob) H := hP9
            have hD : va_D (lA ad acc) (lW ad cI cB cO acc lm rm N (va_up x 0 (sv N x b * k)) z ob) := wlD hok
            refine lv_aload_n hx hb dX2_part_56 rfl (lv_at hl 0 rfl) ?_
            refine va_get (D := D) (ci := 2) (v := .ref (ad 6)) (C := RX2) (T := TX2) (N := 11) hx hb hts hi2 hown hK hP 0 (wl_at (by omega)) rfl 6 (by decide) (hts (.fieldLink RX2 45 "BigLedger" "amount" "LBigLedger$Natural;") (by decide +kernel)) (fun _ h9 => h9) rfl dX2_part_57 ?_
            refine lv_iload_n hx hb dX2_part_60 rfl (lv_at hl 3 rfl) ?_
            have hn33 := ln_am hP
            refine va_calli (va_runV (As := [.int (nI j)]) (rest := []) ⟨hx, hb, hml, hown, hts⟩ (c_divide l D cI (lm + 1) (ad 6) (ad 7) (sv N x b * k) (by omega) (ln_oa (i := 6) hok (by omega)) hm1 j hj1 hj) (cwV 1 hts gX2_part_X1_divide rfl rfl rfl (by decide +kernel) ⟨Nat.le_of_ble_eq_true rfl, Nat.le_of_ble_eq_true rfl⟩) ⟨nPc_blind, va_recv hK hn33 (ci := 1) (q0 := 0) rfl rfl, nPc_use (hn33) (hK.sub [0] rfl)⟩ rfl rfl hl.1 rfl (lv_room (Nat.le_of_ble_eq_true rfl)) dX2_part_61 ⟨Nat.le_of_ble_eq_true rfl, Nat.le_of_ble_eq_true rfl⟩) hS (fun q _ h => (fun q h => lA_n (i := 6) (by omega) h) q h) (fun q h => lA_n (i := 6) (by omega) h) (fun r _u t H1 locs ht hvm hw hB hz1 hk9 hS => ?_)
            have hP9 := cv (by rw [bx_uu]) (lk_am hok hP hk9 (pB_at ht hB))
            generalize H1 = H at ht hz1 hk9 hS hP9 ⊢
            have hP : va_P D vwCl (lW ad cI cB cO acc lm rm N (va_up x 0 (sv N x b * k / j)) z ob) H := hP9
            have hD : va_D (lA ad acc) (lW ad cI cB cO acc lm rm N (va_up x 0 (sv N x b * k / j)) z ob) := wlD hok
            refine lv_pop hx hb dX2_part_64 rfl ?_
            refine lv_iconst (v := 0) hx hb dX2_part_65 (by decide) ?_
            have hc9 : ¬ (nI k < 0 ∨ nI j < nI k ∨ nI j < 1) := by
              rintro (q | q | q)
              · exact c2 q
              · exact c3 q
              · exact (fa_of_lt q).2.1 c4
            exact W.iret (v := 0) hx hb hr (fun t ht hW => ⟨⟨_, (N, va_up x 0 (sv N x b * k / j), z), rfl, by rw [cPart, eb, ek, ej]; exact ((if_neg (c0)).trans ((if_neg ((fun q => q ha))).trans (if_neg (hc9)))).symm, hp_at ht hP⟩, hS.F ht⟩) hS.2.2 dX2_part_66
          · refine lv_iconst (v := 5) hx hb dX2_part_34 (by decide) ?_
            exact W.iret (v := 5) hx hb hr (fun t ht hW => ⟨⟨_, (N, x, z), rfl, by rw [cPart]; exact ((if_neg (c0)).trans ((if_neg ((fun q => q ha))).trans (if_pos (Or.inr (Or.inr (fa_of_nle c4)))))).symm, hp_at ht hP⟩, hS.F ht⟩) hS.2.2 dX2_part_35
    · have ha : ¬ isAcc acc p0 = true := fun q => absurd c1 (by rw [hra, if_pos q]; decide)
      refine lv_iconst (v := 1) hx hb dX2_part_18 (by decide) ?_
      exact W.iret (v := 1) hx hb hr (fun t ht hW => ⟨⟨_, (N, x, z), rfl, by rw [cPart]; exact ((if_neg (c0)).trans (if_pos (ha))).symm, hp_at ht hP⟩, hS.F ht⟩) hS.2.2 dX2_part_19
  · refine lv_bipush (v := 6) hx hb dX2_part_7 (by decide) ?_
    exact W.iret (v := 6) hx hb hr (fun t ht hW => ⟨⟨_, (N, x, z), rfl, by rw [cPart]; exact (if_pos (c0)).symm, hp_at ht hP⟩, hS.F ht⟩) hS.2.2 dX2_part_9
set_option maxHeartbeats 4000000 in
set_option maxRecDepth 100000 in
theorem c_commit (l : Launch) (D : va_G) (ad : Nat → Nat) (cI cB cO : ClassId) (acc lm rm : Nat) (N : LN) (x : Nat → Nat) (z ob : Nat → Int32) (hok : lOk ad acc lm) (hNk : nOk lm N) (hx2 : x 2 < 33554432) : Met l yX2_commit wsX2_commit ({ frames := 5, cells := 0, slots := 0, locals := 109 }) (lPc [.ref (ad 0)] D (lW ad cI cB cO acc lm rm N x z ob) [(cI, .int), (cB, .byte), (cO, .object "BigLedger$Natural")]) (va_Qi (fun (r : Int32) (u : DS) => (r, u) = cCommit acc (N, x, z)) (fun u t => va_P D vwCl (lW ad cI cB cO acc lm rm u.1 u.2.1 u.2.2 ob) t.heap) (lA ad acc)) 0 0 (lA ad acc) := by
  refine Met.ofW (cc := cX2_commit) (maxL := 1) (ret := (some .int)) (by decide) rfl ?_
  intro p e s m args below meth c s₁ B hml hv
  obtain ⟨rfl, hP, hK, hN⟩ := hv
  have hx := B.exec
  have hb := B.bytes
  have hr := B.returns
  have hts := atoms_spec (ws := wsX2_commit) B.pre
  have hown : s.vm.findClass RX2 = some m.cls := findClass_of_methodNamed B.named
  have hlocks := B.notSynchronized
  have hi2 : ∀ w ∈ wsX20, w ∈ wsX2_commit := by decide +kernel
  have hok1 := hok.2.1
  have hok2 := hok.2.2.1
  have hok3 := hok.2.2.2
  have hS : va_S (lA ad acc) s.heap s.heap [] := va_S.rf
  have hD : va_D (lA ad acc) (lW ad cI cB cO acc lm rm N x z ob) := wlD hok
  have hl := lv_entry ([.ref (ad 0)]) (n := 1) (Nat.le_of_ble_eq_true rfl)
  rw [lg_entry_eq]
  generalize (lg_sl ([.ref (ad 0)]) ++ List.replicate (1 - (lg_sl ([.ref (ad 0)])).length) Slot.unset).toArray = ls at hl ⊢
  have hl : lv_has ls 1 [(0, .ref (ad 0))] := hl
  refine lv_aload_n hx hb dX2_commit_0 rfl (lv_at hl 0 rfl) ?_
  refine va_get (D := D) (ci := 2) (v := .int (z 0)) (C := RX2) (T := TX2) (N := 11) hx hb hts hi2 hown hK hP 0 (wl_at (by omega)) rfl 7 (by decide) (hts (.fieldLink RX2 71 "BigLedger" "up" "Z") (by decide +kernel)) (fun _ h9 => h9) rfl dX2_commit_1 ?_
  refine lv_if_ne (tgt := 10) hx hb dX2_commit_4 (by decide) (fun c0 => ?_) (fun c0 => ?_)
  · refine lv_aload_n hx hb dX2_commit_10 rfl (lv_at hl 0 rfl) ?_
    refine va_get (D := D) (ci := 2) (v := .ref (ad 1)) (C := RX2) (T := TX2) (N := 11) hx hb hts hi2 hown hK hP 0 (wl_at (by omega)) rfl 3 (by decide) (hts (.fieldLink RX2 28 "BigLedger" "disk" "LBigLedger$Disk;") (by decide +kernel)) (fun _ h9 => h9) rfl dX2_commit_11 ?_
    refine lv_aload_n hx hb dX2_commit_14 rfl (lv_at hl 0 rfl) ?_
    refine va_get (D := D) (ci := 2) (v := .int (nI (x 2))) (C := RX2) (T := TX2) (N := 11) hx hb hts hi2 hown hK hP 0 (wl_at (by omega)) rfl 5 (by decide) (hts (.fieldLink RX2 126 "BigLedger" "touched" "I") (by decide +kernel)) (fun _ h9 => h9) rfl dX2_commit_15 ?_
    refine lv_aload_n hx hb dX2_commit_18 rfl (lv_at hl 0 rfl) ?_
    refine va_get (D := D) (ci := 2) (v := .ref (ad 2)) (C := RX2) (T := TX2) (N := 11) hx hb hts hi2 hown hK hP 0 (wl_at (by omega)) rfl 4 (by decide) (hts (.fieldLink RX2 36 "BigLedger" "pending" "[LBigLedger$Natural;") (by decide +kernel)) (fun _ h9 => h9) rfl dX2_commit_19 ?_
    refine va_calli (va_runV (As := [.int (nI (x 2)), .ref (ad 2)]) (rest := []) ⟨hx, hb, hml, hown, hts⟩ (c_bringThroughLog l D ad cI cB cO acc lm rm N x z ob hok (x 2) hx2 hNk) (cwV 2 hts gX2_commit_X0_bringThroughLog rfl rfl rfl (by decide +kernel) ⟨Nat.le_of_ble_eq_true rfl, Nat.le_of_ble_eq_true rfl⟩) ⟨lPc_blind, va_recv hK hP (ci := 0) (q0 := 1) rfl (wl_at (by omega)), lPc_use (hP) ⟨hK, hN⟩⟩ rfl rfl hl.1 rfl (lv_room (Nat.le_of_ble_eq_true rfl)) dX2_commit_22 ⟨Nat.le_of_ble_eq_true rfl, Nat.le_of_ble_eq_true rfl⟩) hS (fun q _ h => (fun _ h => h) q h) (fun _ h => h) (fun r1 u1 t H1 locs ht hvm hw1 hB hz1 hk9 hS => ?_)
    generalize H1 = H at ht hz1 hk9 hS ⊢
    have hP : va_P D vwCl (lW ad cI cB cO acc lm rm u1.1 u1.2.1 u1.2.2 ob) H := pB_at ht hB
    have hD : va_D (lA ad acc) (lW ad cI cB cO acc lm rm u1.1 u1.2.1 u1.2.2 ob) := wlD hok
    refine lv_if_ne (tgt := 40) hx hb dX2_commit_25 (by decide) (fun c1 => ?_) (fun c1 => ?_)
    · refine lv_aload_n hx hb dX2_commit_40 rfl (lv_at hl 0 rfl) ?_
      refine va_callv (va_runV (As := []) (rest := []) ⟨hx, hb, hml, hown, hts⟩ (c_dropPending l D ad cI cB cO acc lm rm u1.1 u1.2.1 u1.2.2 ob hok) (cwV 0 hts gX2_commit_X2_dropPending rfl rfl rfl (by decide +kernel) ⟨Nat.le_of_ble_eq_true rfl, Nat.le_of_ble_eq_true rfl⟩) ⟨lPc_blind, va_recv hK hP (ci := 2) (q0 := 0) rfl (wl_at (by omega)), lPc_use (hP) ⟨hK, hN⟩⟩ rfl rfl hl.1 rfl (lv_room (Nat.le_of_ble_eq_true rfl)) dX2_commit_41 ⟨Nat.le_of_ble_eq_true rfl, Nat.le_of_ble_eq_true rfl⟩) hS (fun q _ h => (fun _ h => h) q h) (fun _ h => h) (fun _u t H1 locs ht hvm hw hB hz1 hk9 hS => ?_)
      generalize H1 = H at ht hz1 hk9 hS ⊢
      have hP : va_P D vwCl (lW ad cI cB cO acc lm rm u1.1 (va_up u1.2.1 2 0) u1.2.2 ob) H := pB_at ht hB
      have hD : va_D (lA ad acc) (lW ad cI cB cO acc lm rm u1.1 (va_up u1.2.1 2 0) u1.2.2 ob) := wlD hok
      refine lv_iconst (v := 0) hx hb dX2_commit_44 (by decide) ?_
      exact W.iret (v := 0) hx hb hr (fun t ht hW => ⟨⟨_, (u1.1, va_up u1.2.1 2 0, u1.2.2), rfl, by
        rw [cCommit]
        refine Eq.symm ((if_neg c0).trans ?_)
        rw [← hw1]
        exact if_neg c1, hp_at ht hP⟩, hS.F ht⟩) hS.2.2 dX2_commit_45
    · refine lv_aload_n hx hb dX2_commit_28 rfl (lv_at hl 0 rfl) ?_
      refine lv_iconst (v := 0) hx hb dX2_commit_29 (by decide) ?_
      refine va_put (D := D) (ci := 2) (v := .int ((0 : Int32))) (ty := .boolean) (C := RX2) (T := TX2) (N := 11) hx hb hts hi2 tyX2 tyX2_ok nmX2 hown hK hP hD hS 0 (wl_at (by omega)) rfl 7 (by decide) (hts (.fieldLink RX2 71 "BigLedger" "up" "Z") (by decide +kernel)) (fun _ h9 => h9) rfl (by decide +kernel) (rfl) (rfl) (Nat.le_of_ble_eq_true rfl) dX2_commit_30 (fun H locs hP hD hS => ?_)
      have hP : va_P D vwCl (lW ad cI cB cO acc lm rm u1.1 u1.2.1 (va_up u1.2.2 0 (0 : Int32)) ob) H := cv (ls_up (0 : Int32)) hP
      have hD : va_D (lA ad acc) (lW ad cI cB cO acc lm rm u1.1 u1.2.1 (va_up u1.2.2 0 (0 : Int32)) ob) := wlD hok
      refine lv_aload_n hx hb dX2_commit_33 rfl (lv_at hl 0 rfl) ?_
      refine va_callv (va_runV (As := []) (rest := []) ⟨hx, hb, hml, hown, hts⟩ (c_loseMemory l D ad cI cB cO acc lm rm u1.1 u1.2.1 (va_up u1.2.2 0 (0 : Int32)) ob hok) (cwV 0 hts gX2_commit_X2_loseMemory rfl rfl rfl (by decide +kernel) ⟨Nat.le_of_ble_eq_true rfl, Nat.le_of_ble_eq_true rfl⟩) ⟨lPc_blind, va_recv hK hP (ci := 2) (q0 := 0) rfl (wl_at (by omega)), lPc_use (hP) ⟨hK, hN⟩⟩ rfl rfl hl.1 rfl (lv_room (Nat.le_of_ble_eq_true rfl)) dX2_commit_34 ⟨Nat.le_of_ble_eq_true rfl, Nat.le_of_ble_eq_true rfl⟩) hS (fun q _ h => (fun _ h => h) q h) (fun _ h => h) (fun _u t H1 locs ht hvm hw hB hz1 hk9 hS => ?_)
      generalize H1 = H at ht hz1 hk9 hS ⊢
      have hP : va_P D vwCl (lW ad cI cB cO acc lm rm u1.1 (cLose u1.2.1) (va_up u1.2.2 0 (0 : Int32)) ob) H := pB_at ht hB
      have hD : va_D (lA ad acc) (lW ad cI cB cO acc lm rm u1.1 (cLose u1.2.1) (va_up u1.2.2 0 (0 : Int32)) ob) := wlD hok
      refine lv_bipush (v := 6) hx hb dX2_commit_37 (by decide) ?_
      exact W.iret (v := 6) hx hb hr (fun t ht hW => ⟨⟨_, (u1.1, cLose u1.2.1, va_up u1.2.2 0 (0 : Int32)), rfl, by
        rw [cCommit]
        refine Eq.symm ((if_neg c0).trans ?_)
        rw [← hw1]
        exact if_pos c1, hp_at ht hP⟩, hS.F ht⟩) hS.2.2 dX2_commit_39
  · refine lv_bipush (v := 6) hx hb dX2_commit_7 (by decide) ?_
    exact W.iret (v := 6) hx hb hr (fun t ht hW => ⟨⟨_, (N, x, z), rfl, by rw [cCommit]; exact (if_pos (c0)).symm, hp_at ht hP⟩, hS.F ht⟩) hS.2.2 dX2_commit_9
set_option maxHeartbeats 4000000 in
set_option maxRecDepth 100000 in
theorem c_abort (l : Launch) (D : va_G) (ad : Nat → Nat) (cI cB cO : ClassId) (acc lm rm : Nat) (N : LN) (x : Nat → Nat) (z ob : Nat → Int32) (hok : lOk ad acc lm) : Met l yX2_abort wsX2_abort ({ frames := 1, cells := 0, slots := 0, locals := 20 }) (lPc [.ref (ad 0)] D (lW ad cI cB cO acc lm rm N x z ob) [(cI, .int), (cB, .byte), (cO, .object "BigLedger$Natural")]) (va_Qi (fun (r : Int32) (u : DS) => (r, u) = cAbort (N, x, z)) (fun u t => va_P D vwCl (lW ad cI cB cO acc lm rm u.1 u.2.1 u.2.2 ob) t.heap) (lA ad acc)) 0 0 (lA ad acc) := by
  refine Met.ofW (cc := cX2_abort) (maxL := 1) (ret := (some .boolean)) (by decide) rfl ?_
  intro p e s m args below meth c s₁ B hml hv
  obtain ⟨rfl, hP, hK, hN⟩ := hv
  have hx := B.exec
  have hb := B.bytes
  have hr := B.returns
  have hts := atoms_spec (ws := wsX2_abort) B.pre
  have hown : s.vm.findClass RX2 = some m.cls := findClass_of_methodNamed B.named
  have hlocks := B.notSynchronized
  have hi2 : ∀ w ∈ wsX20, w ∈ wsX2_abort := by decide +kernel
  have hok1 := hok.2.1
  have hok2 := hok.2.2.1
  have hok3 := hok.2.2.2
  have hS : va_S (lA ad acc) s.heap s.heap [] := va_S.rf
  have hD : va_D (lA ad acc) (lW ad cI cB cO acc lm rm N x z ob) := wlD hok
  have hl := lv_entry ([.ref (ad 0)]) (n := 1) (Nat.le_of_ble_eq_true rfl)
  rw [lg_entry_eq]
  generalize (lg_sl ([.ref (ad 0)]) ++ List.replicate (1 - (lg_sl ([.ref (ad 0)])).length) Slot.unset).toArray = ls at hl ⊢
  have hl : lv_has ls 1 [(0, .ref (ad 0))] := hl
  refine lv_aload_n hx hb dX2_abort_0 rfl (lv_at hl 0 rfl) ?_
  refine va_get (D := D) (ci := 2) (v := .int (z 0)) (C := RX2) (T := TX2) (N := 11) hx hb hts hi2 hown hK hP 0 (wl_at (by omega)) rfl 7 (by decide) (hts (.fieldLink RX2 71 "BigLedger" "up" "Z") (by decide +kernel)) (fun _ h9 => h9) rfl dX2_abort_1 ?_
  refine lv_if_ne (tgt := 9) hx hb dX2_abort_4 (by decide) (fun c0 => ?_) (fun c0 => ?_)
  · refine lv_aload_n hx hb dX2_abort_9 rfl (lv_at hl 0 rfl) ?_
    refine va_callv (va_runV (As := []) (rest := []) ⟨hx, hb, hml, hown, hts⟩ (c_dropPending l D ad cI cB cO acc lm rm N x z ob hok) (cwV 0 hts gX2_abort_X2_dropPending rfl rfl rfl (by decide +kernel) ⟨Nat.le_of_ble_eq_true rfl, Nat.le_of_ble_eq_true rfl⟩) ⟨lPc_blind, va_recv hK hP (ci := 2) (q0 := 0) rfl (wl_at (by omega)), lPc_use (hP) ⟨hK, hN⟩⟩ rfl rfl hl.1 rfl (lv_room (Nat.le_of_ble_eq_true rfl)) dX2_abort_10 ⟨Nat.le_of_ble_eq_true rfl, Nat.le_of_ble_eq_true rfl⟩) hS (fun q _ h => (fun _ h => h) q h) (fun _ h => h) (fun _u t H1 locs ht hvm hw hB hz1 hk9 hS => ?_)
    generalize H1 = H at ht hz1 hk9 hS ⊢
    have hP : va_P D vwCl (lW ad cI cB cO acc lm rm N (va_up x 2 0) z ob) H := pB_at ht hB
    have hD : va_D (lA ad acc) (lW ad cI cB cO acc lm rm N (va_up x 2 0) z ob) := wlD hok
    refine lv_iconst (v := 1) hx hb dX2_abort_13 (by decide) ?_
    exact W.zret (v := 1) (ty := .boolean) hx hb hr (rfl) (fun t ht hW => ⟨⟨_, (N, va_up x 2 0, z), rfl, by rw [cAbort]; exact (if_neg (c0)).symm, hp_at ht hP⟩, hS.F ht⟩) hS.2.2 dX2_abort_14
  · refine lv_iconst (v := 0) hx hb dX2_abort_7 (by decide) ?_
    exact W.zret (v := 0) (ty := .boolean) hx hb hr (rfl) (fun t ht hW => ⟨⟨_, (N, x, z), rfl, by rw [cAbort]; exact (if_pos (c0)).symm, hp_at ht hP⟩, hS.F ht⟩) hS.2.2 dX2_abort_8
set_option maxHeartbeats 4000000 in
set_option maxRecDepth 100000 in
theorem c_clearAmount (l : Launch) (D : va_G) (ad : Nat → Nat) (cI cB cO : ClassId) (acc lm rm : Nat) (N : LN) (x : Nat → Nat) (z ob : Nat → Int32) (hok : lOk ad acc lm) : Met l yX2_clearAmount wsX2_clearAmount ({ frames := 1, cells := 0, slots := 0, locals := 21 }) (lPc [.ref (ad 0)] D (lW ad cI cB cO acc lm rm N x z ob) [(cI, .int), (cB, .byte), (cO, .object "BigLedger$Natural")]) (va_Qi (fun (r : Int32) (u : DS) => (r, u) = cClear (N, x, z)) (fun u t => va_P D vwCl (lW ad cI cB cO acc lm rm u.1 u.2.1 u.2.2 ob) t.heap) (lA ad acc)) 0 0 (lA ad acc) := by
  refine Met.ofW (cc := cX2_clearAmount) (maxL := 1) (ret := (some .boolean)) (by decide) rfl ?_
  intro p e s m args below meth c s₁ B hml hv
  obtain ⟨rfl, hP, hK, hN⟩ := hv
  have hx := B.exec
  have hb := B.bytes
  have hr := B.returns
  have hts := atoms_spec (ws := wsX2_clearAmount) B.pre
  have hown : s.vm.findClass RX2 = some m.cls := findClass_of_methodNamed B.named
  have hlocks := B.notSynchronized
  have hi2 : ∀ w ∈ wsX20, w ∈ wsX2_clearAmount := by decide +kernel
  have hok1 := hok.2.1
  have hok2 := hok.2.2.1
  have hok3 := hok.2.2.2
  have hS : va_S (lA ad acc) s.heap s.heap [] := va_S.rf
  have hD : va_D (lA ad acc) (lW ad cI cB cO acc lm rm N x z ob) := wlD hok
  have hl := lv_entry ([.ref (ad 0)]) (n := 1) (Nat.le_of_ble_eq_true rfl)
  rw [lg_entry_eq]
  generalize (lg_sl ([.ref (ad 0)]) ++ List.replicate (1 - (lg_sl ([.ref (ad 0)])).length) Slot.unset).toArray = ls at hl ⊢
  have hl : lv_has ls 1 [(0, .ref (ad 0))] := hl
  refine lv_aload_n hx hb dX2_clearAmount_0 rfl (lv_at hl 0 rfl) ?_
  refine va_get (D := D) (ci := 2) (v := .int (z 0)) (C := RX2) (T := TX2) (N := 11) hx hb hts hi2 hown hK hP 0 (wl_at (by omega)) rfl 7 (by decide) (hts (.fieldLink RX2 71 "BigLedger" "up" "Z") (by decide +kernel)) (fun _ h9 => h9) rfl dX2_clearAmount_1 ?_
  refine lv_if_ne (tgt := 9) hx hb dX2_clearAmount_4 (by decide) (fun c0 => ?_) (fun c0 => ?_)
  · refine lv_aload_n hx hb dX2_clearAmount_9 rfl (lv_at hl 0 rfl) ?_
    refine va_get (D := D) (ci := 2) (v := .ref (ad 6)) (C := RX2) (T := TX2) (N := 11) hx hb hts hi2 hown hK hP 0 (wl_at (by omega)) rfl 6 (by decide) (hts (.fieldLink RX2 45 "BigLedger" "amount" "LBigLedger$Natural;") (by decide +kernel)) (fun _ h9 => h9) rfl dX2_clearAmount_10 ?_
    have hn34 := ln_am hP
    refine va_callv (va_runV (As := []) (rest := []) ⟨hx, hb, hml, hown, hts⟩ (c_setZero l D cI (lm + 1) (ad 6) (ad 7) (x 0) (by omega) (ln_oa (i := 6) hok (by omega))) (cwV 0 hts gX2_clearAmount_X1_setZero rfl rfl rfl (by decide +kernel) ⟨Nat.le_of_ble_eq_true rfl, Nat.le_of_ble_eq_true rfl⟩) ⟨nPc_blind, va_recv hK hn34 (ci := 1) (q0 := 0) rfl rfl, nPc_use (hn34) (hK.sub [0] rfl)⟩ rfl rfl hl.1 rfl (lv_room (Nat.le_of_ble_eq_true rfl)) dX2_clearAmount_13 ⟨Nat.le_of_ble_eq_true rfl, Nat.le_of_ble_eq_true rfl⟩) hS (fun q _ h => (fun q h => lA_n (i := 6) (by omega) h) q h) (fun q h => lA_n (i := 6) (by omega) h) (fun _u t H1 locs ht hvm hw hB hz1 hk9 hS => ?_)
    have hP9 := lk_am hok hP hk9 (pB_at ht hB)
    generalize H1 = H at ht hz1 hk9 hS hP9 ⊢
    have hP : va_P D vwCl (lW ad cI cB cO acc lm rm N (va_up x 0 0) z ob) H := hP9
    have hD : va_D (lA ad acc) (lW ad cI cB cO acc lm rm N (va_up x 0 0) z ob) := wlD hok
    refine lv_iconst (v := 1) hx hb dX2_clearAmount_16 (by decide) ?_
    exact W.zret (v := 1) (ty := .boolean) hx hb hr (rfl) (fun t ht hW => ⟨⟨_, (N, va_up x 0 0, z), rfl, by rw [cClear]; exact (if_neg (c0)).symm, hp_at ht hP⟩, hS.F ht⟩) hS.2.2 dX2_clearAmount_17
  · refine lv_iconst (v := 0) hx hb dX2_clearAmount_7 (by decide) ?_
    exact W.zret (v := 0) (ty := .boolean) hx hb hr (rfl) (fun t ht hW => ⟨⟨_, (N, x, z), rfl, by rw [cClear]; exact (if_pos (c0)).symm, hp_at ht hP⟩, hS.F ht⟩) hS.2.2 dX2_clearAmount_8
set_option maxHeartbeats 4000000 in
set_option maxRecDepth 100000 in
theorem c_amountLimb (l : Launch) (D : va_G) (ad : Nat → Nat) (cI cB cO : ClassId) (acc lm rm : Nat) (N : LN) (x : Nat → Nat) (z ob : Nat → Int32) (hok : lOk ad acc lm) (hx0 : x 0 < 2147483648 ^ (lm + 1)) (p0 : Int32) : Met l yX2_amountLimb wsX2_amountLimb ({ frames := 2, cells := 0, slots := 0, locals := 42 }) (lPc [.ref (ad 0), .int (p0)] D (lW ad cI cB cO acc lm rm N x z ob) [(cI, .int), (cB, .byte), (cO, .object "BigLedger$Natural")]) (va_Qi (fun (r : Int32) (u : DS) => (r, u) = cAmLimb lm p0 (N, x, z)) (fun u t => va_P D vwCl (lW ad cI cB cO acc lm rm u.1 u.2.1 u.2.2 ob) t.heap) (lA ad acc)) 0 0 (lA ad acc) := by
  refine Met.ofW (cc := cX2_amountLimb) (maxL := 2) (ret := (some .boolean)) (by decide) rfl ?_
  intro p e s m args below meth c s₁ B hml hv
  obtain ⟨rfl, hP, hK, hN⟩ := hv
  have hx := B.exec
  have hb := B.bytes
  have hr := B.returns
  have hts := atoms_spec (ws := wsX2_amountLimb) B.pre
  have hown : s.vm.findClass RX2 = some m.cls := findClass_of_methodNamed B.named
  have hlocks := B.notSynchronized
  have hi1 : ∀ w ∈ wsX10, w ∈ wsX2_amountLimb := by decide +kernel
  have hi2 : ∀ w ∈ wsX20, w ∈ wsX2_amountLimb := by decide +kernel
  have hok1 := hok.2.1
  have hok2 := hok.2.2.1
  have hok3 := hok.2.2.2
  have hS : va_S (lA ad acc) s.heap s.heap [] := va_S.rf
  have hD : va_D (lA ad acc) (lW ad cI cB cO acc lm rm N x z ob) := wlD hok
  have hl := lv_entry ([.ref (ad 0), .int (p0)]) (n := 2) (Nat.le_of_ble_eq_true rfl)
  rw [lg_entry_eq]
  generalize (lg_sl ([.ref (ad 0), .int (p0)]) ++ List.replicate (2 - (lg_sl ([.ref (ad 0), .int (p0)])).length) Slot.unset).toArray = ls at hl ⊢
  have hl : lv_has ls 2 [(0, .ref (ad 0)), (1, .int (p0))] := hl
  refine lv_aload_n hx hb dX2_amountLimb_0 rfl (lv_at hl 0 rfl) ?_
  refine va_get (D := D) (ci := 2) (v := .int (z 0)) (C := RX2) (T := TX2) (N := 11) hx hb hts hi2 hown hK hP 0 (wl_at (by omega)) rfl 7 (by decide) (hts (.fieldLink RX2 71 "BigLedger" "up" "Z") (by decide +kernel)) (fun _ h9 => h9) rfl dX2_amountLimb_1 ?_
  refine lv_if_eq (tgt := 25) hx hb dX2_amountLimb_4 (by decide) (fun c0 => ?_) (fun c0 => ?_)
  · refine lv_iconst (v := 0) hx hb dX2_amountLimb_25 (by decide) ?_
    exact W.zret (v := 0) (ty := .boolean) hx hb hr (rfl) (fun t ht hW => ⟨⟨_, (N, x, z), rfl, by rw [cAmLimb]; exact (if_pos (c0)).symm, hp_at ht hP⟩, hS.F ht⟩) hS.2.2 dX2_amountLimb_26
  · refine lv_iload_n hx hb dX2_amountLimb_7 rfl (lv_at hl 1 rfl) ?_
    refine lv_if_lt (tgt := 25) hx hb dX2_amountLimb_8 (by decide) (fun c1 => ?_) (fun c1 => ?_)
    · refine lv_iconst (v := 0) hx hb dX2_amountLimb_25 (by decide) ?_
      exact W.zret (v := 0) (ty := .boolean) hx hb hr (rfl) (fun t ht hW => ⟨⟨_, (N, x, z), rfl, by rw [cAmLimb]; exact ((if_neg (c0)).trans (if_pos (c1))).symm, hp_at ht hP⟩, hS.F ht⟩) hS.2.2 dX2_amountLimb_26
    · have hsz := szF_le (x 0) (lm + 1)
      refine lv_aload_n hx hb dX2_amountLimb_11 rfl (lv_at hl 0 rfl) ?_
      refine va_get (D := D) (ci := 2) (v := .ref (ad 6)) (C := RX2) (T := TX2) (N := 11) hx hb hts hi2 hown hK hP 0 (wl_at (by omega)) rfl 6 (by decide) (hts (.fieldLink RX2 45 "BigLedger" "amount" "LBigLedger$Natural;") (by decide +kernel)) (fun _ h9 => h9) rfl dX2_amountLimb_12 ?_
      refine va_getN (D := D) (ci := 1) (host := RX2) (v := .int (nI (szF (x 0) (lm + 1)))) (C := RX1) (T := TX1) (N := 2) hx hb hts hi1 hown hK hP 6 (wl_at (by omega)) rfl 1 (by decide) (va_Nw.use rfl (hN.2.2.2.2.1)) (fun _ h9 => h9) rfl dX2_amountLimb_15 ?_
      refine lv_aload_n hx hb dX2_amountLimb_18 rfl (lv_at hl 0 rfl) ?_
      refine va_get (D := D) (ci := 2) (v := .int (nI lm)) (C := RX2) (T := TX2) (N := 11) hx hb hts hi2 hown hK hP 0 (wl_at (by omega)) rfl 1 (by decide) (hts (.fieldLink RX2 17 "BigLedger" "limbs" "I") (by decide +kernel)) (fun _ h9 => h9) rfl dX2_amountLimb_19 ?_
      refine lv_icmp_lt (tgt := 27) hx hb dX2_amountLimb_22 (by decide) (fun c2 => ?_) (fun c2 => ?_)
      · replace c2 : szF (x 0) (lm + 1) < lm := (nI_ltI (by omega) (by omega)).mp c2
        obtain ⟨k, hk, rfl⟩ := nI_of c1
        have ek : (nI k).toNatClampNeg = k := nI_clamp hk
        refine lv_aload_n hx hb dX2_amountLimb_27 rfl (lv_at hl 0 rfl) ?_
        refine va_get (D := D) (ci := 2) (v := .ref (ad 6)) (C := RX2) (T := TX2) (N := 11) hx hb hts hi2 hown hK hP 0 (wl_at (by omega)) rfl 6 (by decide) (hts (.fieldLink RX2 45 "BigLedger" "amount" "LBigLedger$Natural;") (by decide +kernel)) (fun _ h9 => h9) rfl dX2_amountLimb_28 ?_
        refine lv_iload_n hx hb dX2_amountLimb_31 rfl (lv_at hl 1 rfl) ?_
        have hn35 := ln_am hP
        refine va_callv (va_runV (As := [.int (nI k)]) (rest := []) ⟨hx, hb, hml, hown, hts⟩ (c_append l D cI (lm + 1) (ad 6) (ad 7) (x 0) k hk (by omega) (by omega) (ln_oa (i := 6) hok (by omega)) hx0) (cwV 1 hts gX2_amountLimb_X1_append rfl rfl rfl (by decide +kernel) ⟨Nat.le_of_ble_eq_true rfl, Nat.le_of_ble_eq_true rfl⟩) ⟨nPc_blind, va_recv hK hn35 (ci := 1) (q0 := 0) rfl rfl, nPc_use (hn35) (hK.sub [0] rfl)⟩ rfl rfl hl.1 rfl (lv_room (Nat.le_of_ble_eq_true rfl)) dX2_amountLimb_32 ⟨Nat.le_of_ble_eq_true rfl, Nat.le_of_ble_eq_true rfl⟩) hS (fun q _ h => (fun q h => lA_n (i := 6) (by omega) h) q h) (fun q h => lA_n (i := 6) (by omega) h) (fun _u t H1 locs ht hvm hw hB hz1 hk9 hS => ?_)
        have hP9 := lk_am hok hP hk9 (pB_at ht hB)
        generalize H1 = H at ht hz1 hk9 hS hP9 ⊢
        have hP : va_P D vwCl (lW ad cI cB cO acc lm rm N (va_up x 0 (x 0 * 2147483648 + k)) z ob) H := hP9
        have hD : va_D (lA ad acc) (lW ad cI cB cO acc lm rm N (va_up x 0 (x 0 * 2147483648 + k)) z ob) := wlD hok
        refine lv_iconst (v := 1) hx hb dX2_amountLimb_35 (by decide) ?_
        exact W.zret (v := 1) (ty := .boolean) hx hb hr (rfl) (fun t ht hW => ⟨⟨_, (N, va_up x 0 (x 0 * 2147483648 + k), z), rfl, by rw [cAmLimb, ek]; exact ((if_neg (c0)).trans ((if_neg (c1)).trans (if_pos (c2)))).symm, hp_at ht hP⟩, hS.F ht⟩) hS.2.2 dX2_amountLimb_36
      · refine lv_iconst (v := 0) hx hb dX2_amountLimb_25 (by decide) ?_
        exact W.zret (v := 0) (ty := .boolean) hx hb hr (rfl) (fun t ht hW => ⟨⟨_, (N, x, z), rfl, by rw [cAmLimb]; exact ((if_neg (c0)).trans ((if_neg (c1)).trans (if_neg ((fun q => c2 ((nI_ltI (by omega) (by omega)).mpr q)))))).symm, hp_at ht hP⟩, hS.F ht⟩) hS.2.2 dX2_amountLimb_26
set_option maxHeartbeats 4000000 in
set_option maxRecDepth 100000 in
theorem c_format (l : Launch) (D : va_G) (ad : Nat → Nat) (cI cB cO : ClassId) (acc lm rm : Nat) (N : LN) (x : Nat → Nat) (z ob : Nat → Int32) (hok : lOk ad acc lm) (hNk : nOk lm N) : Met l yX2_format wsX2_format ({ frames := 3, cells := 0, slots := 0, locals := 62 }) (lPc [.ref (ad 0)] D (lW ad cI cB cO acc lm rm N x z ob) [(cI, .int), (cB, .byte), (cO, .object "BigLedger$Natural")]) (va_Qi (fun (r : Int32) (u : DS) => (r, u) = cFormat acc (N, x, z)) (fun u t => va_P D vwCl (lW ad cI cB cO acc lm rm u.1 u.2.1 u.2.2 ob) t.heap) (lA ad acc)) 0 0 (lA ad acc) := by
  refine Met.ofW (cc := cX2_format) (maxL := 1) (ret := (some .boolean)) (by decide) rfl ?_
  intro p e s m args below meth c s₁ B hml hv
  obtain ⟨rfl, hP, hK, hN⟩ := hv
  have hx := B.exec
  have hb := B.bytes
  have hr := B.returns
  have hts := atoms_spec (ws := wsX2_format) B.pre
  have hown : s.vm.findClass RX2 = some m.cls := findClass_of_methodNamed B.named
  have hlocks := B.notSynchronized
  have hi2 : ∀ w ∈ wsX20, w ∈ wsX2_format := by decide +kernel
  have hok1 := hok.2.1
  have hok2 := hok.2.2.1
  have hok3 := hok.2.2.2
  have hS : va_S (lA ad acc) s.heap s.heap [] := va_S.rf
  have hD : va_D (lA ad acc) (lW ad cI cB cO acc lm rm N x z ob) := wlD hok
  have hl := lv_entry ([.ref (ad 0)]) (n := 1) (Nat.le_of_ble_eq_true rfl)
  rw [lg_entry_eq]
  generalize (lg_sl ([.ref (ad 0)]) ++ List.replicate (1 - (lg_sl ([.ref (ad 0)])).length) Slot.unset).toArray = ls at hl ⊢
  have hl : lv_has ls 1 [(0, .ref (ad 0))] := hl
  refine lv_aload_n hx hb dX2_format_0 rfl (lv_at hl 0 rfl) ?_
  refine va_callv (va_runV (As := []) (rest := []) ⟨hx, hb, hml, hown, hts⟩ (c_loseMemory l D ad cI cB cO acc lm rm N x z ob hok) (cwV 0 hts gX2_format_X2_loseMemory rfl rfl rfl (by decide +kernel) ⟨Nat.le_of_ble_eq_true rfl, Nat.le_of_ble_eq_true rfl⟩) ⟨lPc_blind, va_recv hK hP (ci := 2) (q0 := 0) rfl (wl_at (by omega)), lPc_use (hP) ⟨hK, hN⟩⟩ rfl rfl hl.1 rfl (lv_room (Nat.le_of_ble_eq_true rfl)) dX2_format_1 ⟨Nat.le_of_ble_eq_true rfl, Nat.le_of_ble_eq_true rfl⟩) hS (fun q _ h => (fun _ h => h) q h) (fun _ h => h) (fun _u t H1 locs ht hvm hw hB hz1 hk9 hS => ?_)
  generalize H1 = H at ht hz1 hk9 hS ⊢
  have hP : va_P D vwCl (lW ad cI cB cO acc lm rm N (cLose x) z ob) H := pB_at ht hB
  have hD : va_D (lA ad acc) (lW ad cI cB cO acc lm rm N (cLose x) z ob) := wlD hok
  refine lv_aload_n hx hb dX2_format_4 rfl (lv_at hl 0 rfl) ?_
  refine lv_aload_n hx hb dX2_format_5 rfl (lv_at hl 0 rfl) ?_
  refine va_get (D := D) (ci := 2) (v := .ref (ad 1)) (C := RX2) (T := TX2) (N := 11) hx hb hts hi2 hown hK hP 0 (wl_at (by omega)) rfl 3 (by decide) (hts (.fieldLink RX2 28 "BigLedger" "disk" "LBigLedger$Disk;") (by decide +kernel)) (fun _ h9 => h9) rfl dX2_format_6 ?_
  refine va_calli (va_runV (As := []) (rest := [.ref (ad 0)]) ⟨hx, hb, hml, hown, hts⟩ (c_layOut l D ad cI cB cO acc lm rm N (cLose x) z ob hok hNk) (cwV 0 hts gX2_format_X0_layOut rfl rfl rfl (by decide +kernel) ⟨Nat.le_of_ble_eq_true rfl, Nat.le_of_ble_eq_true rfl⟩) ⟨lPc_blind, va_recv hK hP (ci := 0) (q0 := 1) rfl (wl_at (by omega)), lPc_use (hP) ⟨hK, hN⟩⟩ rfl rfl hl.1 rfl (lv_room (Nat.le_of_ble_eq_true rfl)) dX2_format_9 ⟨Nat.le_of_ble_eq_true rfl, Nat.le_of_ble_eq_true rfl⟩) hS (fun q _ h => (fun _ h => h) q h) (fun _ h => h) (fun r1 u1 t H1 locs ht hvm hw1 hB hz1 hk9 hS => ?_)
  generalize H1 = H at ht hz1 hk9 hS ⊢
  have hP : va_P D vwCl (lW ad cI cB cO acc lm rm u1.1 u1.2.1 u1.2.2 ob) H := pB_at ht hB
  have hD : va_D (lA ad acc) (lW ad cI cB cO acc lm rm u1.1 u1.2.1 u1.2.2 ob) := wlD hok
  have hb1 : r1 = 0 ∨ r1 = 1 := by have h9 := dLay_b acc (N, cLose x, z); rw [← hw1] at h9; exact h9
  refine va_put (D := D) (ci := 2) (v := .int (r1)) (ty := .boolean) (C := RX2) (T := TX2) (N := 11) hx hb hts hi2 tyX2 tyX2_ok nmX2 hown hK hP hD hS 0 (wl_at (by omega)) rfl 7 (by decide) (hts (.fieldLink RX2 71 "BigLedger" "up" "Z") (by decide +kernel)) (fun _ h9 => h9) rfl (by decide +kernel) ((bo hb1).1) ((bo hb1).2) (Nat.le_of_ble_eq_true rfl) dX2_format_12 (fun H locs hP hD hS => ?_)
  have hP : va_P D vwCl (lW ad cI cB cO acc lm rm u1.1 u1.2.1 (va_up u1.2.2 0 r1) ob) H := cv (ls_up r1) hP
  have hD : va_D (lA ad acc) (lW ad cI cB cO acc lm rm u1.1 u1.2.1 (va_up u1.2.2 0 r1) ob) := wlD hok
  refine lv_aload_n hx hb dX2_format_15 rfl (lv_at hl 0 rfl) ?_
  refine va_get (D := D) (ci := 2) (v := .int ((va_up u1.2.2 0 r1) 0)) (C := RX2) (T := TX2) (N := 11) hx hb hts hi2 hown hK hP 0 (wl_at (by omega)) rfl 7 (by decide) (hts (.fieldLink RX2 71 "BigLedger" "up" "Z") (by decide +kernel)) (fun _ h9 => h9) rfl dX2_format_16 ?_
  refine lv_topv (y := .int (r1)) (congrArg Value.int (va_up_self _ _ _)) ?_
  exact W.zret (v := r1) (ty := .boolean) hx hb hr ((bo hb1).1) (fun t ht hW => ⟨⟨_, (u1.1, u1.2.1, va_up u1.2.2 0 r1), rfl, by rw [cFormat]; dsimp only; rw [← hw1], hp_at ht hP⟩, hS.F ht⟩) hS.2.2 dX2_format_19
set_option maxHeartbeats 4000000 in
set_option maxRecDepth 100000 in
theorem c_recover (l : Launch) (D : va_G) (ad : Nat → Nat) (cI cB cO : ClassId) (acc lm rm : Nat) (N : LN) (x : Nat → Nat) (z ob : Nat → Int32) (hok : lOk ad acc lm) (hNk : nOk lm N) (hx3 : x 3 < 33554432) : Met l yX2_recover wsX2_recover ({ frames := 4, cells := 0, slots := 0, locals := 87 }) (lPc [.ref (ad 0)] D (lW ad cI cB cO acc lm rm N x z ob) [(cI, .int), (cB, .byte), (cO, .object "BigLedger$Natural")]) (va_Qi (fun (r : Int32) (u : DS) => (r, u) = cRecover acc (N, x, z)) (fun u t => va_P D vwCl (lW ad cI cB cO acc lm rm u.1 u.2.1 u.2.2 ob) t.heap) (lA ad acc)) 0 0 (lA ad acc) := by
  refine Met.ofW (cc := cX2_recover) (maxL := 1) (ret := (some .boolean)) (by decide) rfl ?_
  intro p e s m args below meth c s₁ B hml hv
  obtain ⟨rfl, hP, hK, hN⟩ := hv
  have hx := B.exec
  have hb := B.bytes
  have hr := B.returns
  have hts := atoms_spec (ws := wsX2_recover) B.pre
  have hown : s.vm.findClass RX2 = some m.cls := findClass_of_methodNamed B.named
  have hlocks := B.notSynchronized
  have hi0 : ∀ w ∈ wsX00, w ∈ wsX2_recover := by decide +kernel
  have hi2 : ∀ w ∈ wsX20, w ∈ wsX2_recover := by decide +kernel
  have hok1 := hok.2.1
  have hok2 := hok.2.2.1
  have hok3 := hok.2.2.2
  have hS : va_S (lA ad acc) s.heap s.heap [] := va_S.rf
  have hD : va_D (lA ad acc) (lW ad cI cB cO acc lm rm N x z ob) := wlD hok
  have hl := lv_entry ([.ref (ad 0)]) (n := 1) (Nat.le_of_ble_eq_true rfl)
  rw [lg_entry_eq]
  generalize (lg_sl ([.ref (ad 0)]) ++ List.replicate (1 - (lg_sl ([.ref (ad 0)])).length) Slot.unset).toArray = ls at hl ⊢
  have hl : lv_has ls 1 [(0, .ref (ad 0))] := hl
  refine lv_aload_n hx hb dX2_recover_0 rfl (lv_at hl 0 rfl) ?_
  refine va_callv (va_runV (As := []) (rest := []) ⟨hx, hb, hml, hown, hts⟩ (c_loseMemory l D ad cI cB cO acc lm rm N x z ob hok) (cwV 0 hts gX2_recover_X2_loseMemory rfl rfl rfl (by decide +kernel) ⟨Nat.le_of_ble_eq_true rfl, Nat.le_of_ble_eq_true rfl⟩) ⟨lPc_blind, va_recv hK hP (ci := 2) (q0 := 0) rfl (wl_at (by omega)), lPc_use (hP) ⟨hK, hN⟩⟩ rfl rfl hl.1 rfl (lv_room (Nat.le_of_ble_eq_true rfl)) dX2_recover_1 ⟨Nat.le_of_ble_eq_true rfl, Nat.le_of_ble_eq_true rfl⟩) hS (fun q _ h => (fun _ h => h) q h) (fun _ h => h) (fun _u t H1 locs ht hvm hw hB hz1 hk9 hS => ?_)
  generalize H1 = H at ht hz1 hk9 hS ⊢
  have hP : va_P D vwCl (lW ad cI cB cO acc lm rm N (cLose x) z ob) H := pB_at ht hB
  have hD : va_D (lA ad acc) (lW ad cI cB cO acc lm rm N (cLose x) z ob) := wlD hok
  refine lv_aload_n hx hb dX2_recover_4 rfl (lv_at hl 0 rfl) ?_
  refine lv_aload_n hx hb dX2_recover_5 rfl (lv_at hl 0 rfl) ?_
  refine va_get (D := D) (ci := 2) (v := .ref (ad 1)) (C := RX2) (T := TX2) (N := 11) hx hb hts hi2 hown hK hP 0 (wl_at (by omega)) rfl 3 (by decide) (hts (.fieldLink RX2 28 "BigLedger" "disk" "LBigLedger$Disk;") (by decide +kernel)) (fun _ h9 => h9) rfl dX2_recover_6 ?_
  refine va_getN (D := D) (ci := 0) (host := RX2) (v := .int (z 1)) (C := RX0) (T := TX0) (N := 6) hx hb hts hi0 hown hK hP 1 (wl_at (by omega)) rfl 3 (by decide) (va_Nw.use rfl (hN.2.1)) (fun _ h9 => h9) rfl dX2_recover_9 ?_
  refine lv_if_eq (tgt := 29) hx hb dX2_recover_12 (by decide) (fun c0 => ?_) (fun c0 => ?_)
  · refine lv_iconst (v := 0) hx hb dX2_recover_29 (by decide) ?_
    refine va_put (D := D) (ci := 2) (v := .int ((0 : Int32))) (ty := .boolean) (C := RX2) (T := TX2) (N := 11) hx hb hts hi2 tyX2 tyX2_ok nmX2 hown hK hP hD hS 0 (wl_at (by omega)) rfl 7 (by decide) (hts (.fieldLink RX2 71 "BigLedger" "up" "Z") (by decide +kernel)) (fun _ h9 => h9) rfl (by decide +kernel) (rfl) (rfl) (Nat.le_of_ble_eq_true rfl) dX2_recover_30 (fun H locs hP hD hS => ?_)
    have hP : va_P D vwCl (lW ad cI cB cO acc lm rm N (cLose x) (va_up z 0 (0 : Int32)) ob) H := cv (ls_up (0 : Int32)) hP
    have hD : va_D (lA ad acc) (lW ad cI cB cO acc lm rm N (cLose x) (va_up z 0 (0 : Int32)) ob) := wlD hok
    refine lv_aload_n hx hb dX2_recover_33 rfl (lv_at hl 0 rfl) ?_
    refine va_get (D := D) (ci := 2) (v := .int ((va_up z 0 (0 : Int32)) 0)) (C := RX2) (T := TX2) (N := 11) hx hb hts hi2 hown hK hP 0 (wl_at (by omega)) rfl 7 (by decide) (hts (.fieldLink RX2 71 "BigLedger" "up" "Z") (by decide +kernel)) (fun _ h9 => h9) rfl dX2_recover_34 ?_
    refine lv_topi (fun y36 ey36 => ?_)
    replace ey36 : y36 = 0 := ey36.trans (va_up_self _ _ _)
    subst ey36
    exact W.zret (v := 0) (ty := .boolean) hx hb hr (rfl) (fun t ht hW => ⟨⟨_, (N, cLose x, va_up z 0 (0 : Int32)), rfl, by rw [cRecover]; exact (if_pos (c0)).symm, hp_at ht hP⟩, hS.F ht⟩) hS.2.2 dX2_recover_37
  · refine lv_aload_n hx hb dX2_recover_15 rfl (lv_at hl 0 rfl) ?_
    refine va_get (D := D) (ci := 2) (v := .ref (ad 1)) (C := RX2) (T := TX2) (N := 11) hx hb hts hi2 hown hK hP 0 (wl_at (by omega)) rfl 3 (by decide) (hts (.fieldLink RX2 28 "BigLedger" "disk" "LBigLedger$Disk;") (by decide +kernel)) (fun _ h9 => h9) rfl dX2_recover_16 ?_
    refine va_calli (va_runV (As := []) (rest := [.ref (ad 0)]) ⟨hx, hb, hml, hown, hts⟩ (c_bringLogHome l D ad cI cB cO acc lm rm N (cLose x) z ob hok hNk hx3) (cwV 0 hts gX2_recover_X0_bringLogHome rfl rfl rfl (by decide +kernel) ⟨Nat.le_of_ble_eq_true rfl, Nat.le_of_ble_eq_true rfl⟩) ⟨lPc_blind, va_recv hK hP (ci := 0) (q0 := 1) rfl (wl_at (by omega)), lPc_use (hP) ⟨hK, hN⟩⟩ rfl rfl hl.1 rfl (lv_room (Nat.le_of_ble_eq_true rfl)) dX2_recover_19 ⟨Nat.le_of_ble_eq_true rfl, Nat.le_of_ble_eq_true rfl⟩) hS (fun q _ h => (fun _ h => h) q h) (fun _ h => h) (fun r1 u1 t H1 locs ht hvm hw1 hB hz1 hk9 hS => ?_)
    generalize H1 = H at ht hz1 hk9 hS ⊢
    have hP : va_P D vwCl (lW ad cI cB cO acc lm rm u1.1 u1.2.1 u1.2.2 ob) H := pB_at ht hB
    have hD : va_D (lA ad acc) (lW ad cI cB cO acc lm rm u1.1 u1.2.1 u1.2.2 ob) := wlD hok
    have hb1 : r1 = 0 ∨ r1 = 1 := by have h9 := dHome_b acc (N, cLose x, z); rw [← hw1] at h9; exact h9
    refine lv_if_eq (tgt := 29) hx hb dX2_recover_22 (by decide) (fun c1 => ?_) (fun c1 => ?_)
    · refine lv_iconst (v := 0) hx hb dX2_recover_29 (by decide) ?_
      refine va_put (D := D) (ci := 2) (v := .int ((0 : Int32))) (ty := .boolean) (C := RX2) (T := TX2) (N := 11) hx hb hts hi2 tyX2 tyX2_ok nmX2 hown hK hP hD hS 0 (wl_at (by omega)) rfl 7 (by decide) (hts (.fieldLink RX2 71 "BigLedger" "up" "Z") (by decide +kernel)) (fun _ h9 => h9) rfl (by decide +kernel) (rfl) (rfl) (Nat.le_of_ble_eq_true rfl) dX2_recover_30 (fun H locs hP hD hS => ?_)
      have hP : va_P D vwCl (lW ad cI cB cO acc lm rm u1.1 u1.2.1 (va_up u1.2.2 0 (0 : Int32)) ob) H := cv (ls_up (0 : Int32)) hP
      have hD : va_D (lA ad acc) (lW ad cI cB cO acc lm rm u1.1 u1.2.1 (va_up u1.2.2 0 (0 : Int32)) ob) := wlD hok
      refine lv_aload_n hx hb dX2_recover_33 rfl (lv_at hl 0 rfl) ?_
      refine va_get (D := D) (ci := 2) (v := .int ((va_up u1.2.2 0 (0 : Int32)) 0)) (C := RX2) (T := TX2) (N := 11) hx hb hts hi2 hown hK hP 0 (wl_at (by omega)) rfl 7 (by decide) (hts (.fieldLink RX2 71 "BigLedger" "up" "Z") (by decide +kernel)) (fun _ h9 => h9) rfl dX2_recover_34 ?_
      refine lv_topi (fun y37 ey37 => ?_)
      replace ey37 : y37 = 0 := ey37.trans (va_up_self _ _ _)
      subst ey37
      exact W.zret (v := 0) (ty := .boolean) hx hb hr (rfl) (fun t ht hW => ⟨⟨_, (u1.1, u1.2.1, va_up u1.2.2 0 (0 : Int32)), rfl, by
        rw [cRecover]
        refine Eq.symm ((if_neg c0).trans ?_)
        dsimp only
        rw [← hw1, c1], hp_at ht hP⟩, hS.F ht⟩) hS.2.2 dX2_recover_37
    · refine lv_iconst (v := 1) hx hb dX2_recover_25 (by decide) ?_
      refine lv_goto (tgt := 30) hx hb dX2_recover_26 (by decide) ?_
      refine va_put (D := D) (ci := 2) (v := .int ((1 : Int32))) (ty := .boolean) (C := RX2) (T := TX2) (N := 11) hx hb hts hi2 tyX2 tyX2_ok nmX2 hown hK hP hD hS 0 (wl_at (by omega)) rfl 7 (by decide) (hts (.fieldLink RX2 71 "BigLedger" "up" "Z") (by decide +kernel)) (fun _ h9 => h9) rfl (by decide +kernel) (rfl) (rfl) (Nat.le_of_ble_eq_true rfl) dX2_recover_30 (fun H locs hP hD hS => ?_)
      have hP : va_P D vwCl (lW ad cI cB cO acc lm rm u1.1 u1.2.1 (va_up u1.2.2 0 (1 : Int32)) ob) H := cv (ls_up (1 : Int32)) hP
      have hD : va_D (lA ad acc) (lW ad cI cB cO acc lm rm u1.1 u1.2.1 (va_up u1.2.2 0 (1 : Int32)) ob) := wlD hok
      refine lv_aload_n hx hb dX2_recover_33 rfl (lv_at hl 0 rfl) ?_
      refine va_get (D := D) (ci := 2) (v := .int ((va_up u1.2.2 0 (1 : Int32)) 0)) (C := RX2) (T := TX2) (N := 11) hx hb hts hi2 hown hK hP 0 (wl_at (by omega)) rfl 7 (by decide) (hts (.fieldLink RX2 71 "BigLedger" "up" "Z") (by decide +kernel)) (fun _ h9 => h9) rfl dX2_recover_34 ?_
      refine lv_topi (fun y38 ey38 => ?_)
      replace ey38 : y38 = 1 := ey38.trans (va_up_self _ _ _)
      subst ey38
      exact W.zret (v := 1) (ty := .boolean) hx hb hr (rfl) (fun t ht hW => ⟨⟨_, (u1.1, u1.2.1, va_up u1.2.2 0 (1 : Int32)), rfl, by
        rw [cRecover]
        refine Eq.symm ((if_neg c0).trans ?_)
        dsimp only
        rw [← hw1, bo_1 hb1 c1], hp_at ht hP⟩, hS.F ht⟩) hS.2.2 dX2_recover_37
set_option maxHeartbeats 4000000 in
set_option maxRecDepth 100000 in
theorem c_stopAfter (l : Launch) (D : va_G) (ad : Nat → Nat) (cI cB cO : ClassId) (acc lm rm : Nat) (N : LN) (x : Nat → Nat) (z ob : Nat → Int32) (hok : lOk ad acc lm) (p0 : Int32) : Met l yX2_stopAfter wsX2_stopAfter ({ frames := 0, cells := 0, slots := 0, locals := 0 }) (lPc [.ref (ad 0), .int (p0)] D (lW ad cI cB cO acc lm rm N x z ob) [(cI, .int), (cB, .byte), (cO, .object "BigLedger$Natural")]) (va_Qv (fun _ : Unit => True) (fun _ t => va_P D vwCl (lW ad cI cB cO acc lm rm N x (va_up z 3 (if p0 < 0 then -1 else p0)) ob) t.heap) (lA ad acc)) 0 0 (lA ad acc) := by
  refine Met.ofW (cc := cX2_stopAfter) (maxL := 2) (ret := none) (by decide) rfl ?_
  intro p e s m args below meth c s₁ B hml hv
  obtain ⟨rfl, hP, hK, hN⟩ := hv
  have hx := B.exec
  have hb := B.bytes
  have hr := B.returns
  have hts := atoms_spec (ws := wsX2_stopAfter) B.pre
  have hown : s.vm.findClass RX2 = some m.cls := findClass_of_methodNamed B.named
  have hlocks := B.notSynchronized
  have hi0 : ∀ w ∈ wsX00, w ∈ wsX2_stopAfter := by decide +kernel
  have hi2 : ∀ w ∈ wsX20, w ∈ wsX2_stopAfter := by decide +kernel
  have hok1 := hok.2.1
  have hok2 := hok.2.2.1
  have hok3 := hok.2.2.2
  have hS : va_S (lA ad acc) s.heap s.heap [] := va_S.rf
  have hD : va_D (lA ad acc) (lW ad cI cB cO acc lm rm N x z ob) := wlD hok
  have hl := lv_entry ([.ref (ad 0), .int (p0)]) (n := 2) (Nat.le_of_ble_eq_true rfl)
  rw [lg_entry_eq]
  generalize (lg_sl ([.ref (ad 0), .int (p0)]) ++ List.replicate (2 - (lg_sl ([.ref (ad 0), .int (p0)])).length) Slot.unset).toArray = ls at hl ⊢
  have hl : lv_has ls 2 [(0, .ref (ad 0)), (1, .int (p0))] := hl
  refine lv_aload_n hx hb dX2_stopAfter_0 rfl (lv_at hl 0 rfl) ?_
  refine va_get (D := D) (ci := 2) (v := .ref (ad 1)) (C := RX2) (T := TX2) (N := 11) hx hb hts hi2 hown hK hP 0 (wl_at (by omega)) rfl 3 (by decide) (hts (.fieldLink RX2 28 "BigLedger" "disk" "LBigLedger$Disk;") (by decide +kernel)) (fun _ h9 => h9) rfl dX2_stopAfter_1 ?_
  refine lv_iload_n hx hb dX2_stopAfter_4 rfl (lv_at hl 1 rfl) ?_
  refine lv_if_ge (tgt := 12) hx hb dX2_stopAfter_5 (by decide) (fun c1 => ?_) (fun c1 => ?_)
  · refine lv_iload_n hx hb dX2_stopAfter_12 rfl (lv_at hl 1 rfl) ?_
    refine va_putN (D := D) (ci := 0) (host := RX2) (v := .int (p0)) (ty := .int) (C := RX0) (T := TX0) (N := 6) hx hb hts hi0 tyX0 tyX0_ok nmX0 hown hK hP hD hS 1 (wl_at (by omega)) rfl 5 (by decide) (va_Nw.use rfl (hN.1)) (fun _ h9 => h9) rfl (by decide +kernel) (rfl) (rfl) (Nat.le_of_ble_eq_true rfl) dX2_stopAfter_13 (fun H locs hP hD hS => ?_)
    have hP : va_P D vwCl (lW ad cI cB cO acc lm rm N x (va_up z 3 p0) ob) H := cv (ls_writesUntilStop p0) hP
    have hD : va_D (lA ad acc) (lW ad cI cB cO acc lm rm N x (va_up z 3 p0) ob) := wlD hok
    rw [show va_up z 3 p0 = va_up z 3 (if p0 < 0 then -1 else p0) by rw [if_neg (fun q => (fa_of_lt q).2.1 c1)]] at hP
    exact W.vret hx hb hr (fun t ht hW => ⟨⟨(), rfl, trivial, hp_at ht hP⟩, hS.F ht⟩) hS.2.2 dX2_stopAfter_16
  · refine lv_iconst (v := (-1)) hx hb dX2_stopAfter_8 (by decide) ?_
    refine lv_goto (tgt := 13) hx hb dX2_stopAfter_9 (by decide) ?_
    refine va_putN (D := D) (ci := 0) (host := RX2) (v := .int ((-1 : Int32))) (ty := .int) (C := RX0) (T := TX0) (N := 6) hx hb hts hi0 tyX0 tyX0_ok nmX0 hown hK hP hD hS 1 (wl_at (by omega)) rfl 5 (by decide) (va_Nw.use rfl (hN.1)) (fun _ h9 => h9) rfl (by decide +kernel) (rfl) (rfl) (Nat.le_of_ble_eq_true rfl) dX2_stopAfter_13 (fun H locs hP hD hS => ?_)
    have hP : va_P D vwCl (lW ad cI cB cO acc lm rm N x (va_up z 3 (-1 : Int32)) ob) H := cv (ls_writesUntilStop (-1 : Int32)) hP
    have hD : va_D (lA ad acc) (lW ad cI cB cO acc lm rm N x (va_up z 3 (-1 : Int32)) ob) := wlD hok
    rw [show va_up z 3 (-1) = va_up z 3 (if p0 < 0 then -1 else p0) by rw [if_pos (fa_of_nle c1)]] at hP
    exact W.vret hx hb hr (fun t ht hW => ⟨⟨(), rfl, trivial, hp_at ht hP⟩, hS.F ht⟩) hS.2.2 dX2_stopAfter_16

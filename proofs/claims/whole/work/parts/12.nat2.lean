set_option maxHeartbeats 4000000 in
set_option maxRecDepth 100000 in
theorem c_increase (l : Launch) (D : va_G) (cI : ClassId) (w o a v : Nat)(hw : w ≤ 64) (hoa : o ≠ a) (hv0 : v < 2147483648 ^ w)(oo oa u : Nat) (hn1 : ¬ nAd o a oo) (hn2 : ¬ nAd o a oa) (hu0 : u < 2147483648 ^ w) (hr0 : v + u < 2147483648 ^ w) : Met l yX1_increase wsX1_increase ({ frames := 1, cells := 0, slots := 0, locals := 21 }) (nPc [.ref o, .ref oo] D (nW cI w o a v ++ nW cI w oo oa u) [(cI, .int)]) (va_Qv (fun _ : Unit => True) (fun _ t => va_P D vwCl (nW cI w o a (v + u)) t.heap) (nAd o a)) 0 0 (nAd o a) := by
  refine Met.ofW (cc := cX1_increase) (maxL := 7) (ret := none) (by decide) rfl ?_
  intro p e s m args below meth c s₁ B hml hv
  obtain ⟨rfl, hP0, hK⟩ := hv
  have hx := B.exec
  have hb := B.bytes
  have hr := B.returns
  have hts := atoms_spec (ws := wsX1_increase) B.pre
  have hown : s.vm.findClass RX1 = some m.cls := findClass_of_methodNamed B.named
  have hlocks := B.notSynchronized
  have hi1 : ∀ w ∈ wsX10, w ∈ wsX1_increase := by decide +kernel
  have hP : va_P D vwCl (nW cI w o a v) s.heap := hP0.sub [0, 1] rfl
  have hR0 : va_P D vwCl (nW cI w oo oa u) s.heap := hP0.sub [2, 3] rfl
  have hro : ∀ q ∈ nW cI w oo oa u, ¬ nAd o a q.1 := ro2 hn1 hn2
  have hD : va_D (nAd o a) (nW cI w o a v) := vd_two (Or.inl rfl) (Or.inr rfl) hoa
  have hS : va_S (nAd o a) s.heap s.heap [] := va_S.rf
  have hl := lv_entry ([.ref (o), .ref (oo)]) (n := 7) (Nat.le_of_ble_eq_true rfl)
  rw [lg_entry_eq]
  generalize (lg_sl ([.ref (o), .ref (oo)]) ++ List.replicate (7 - (lg_sl ([.ref (o), .ref (oo)])).length) Slot.unset).toArray = ls at hl ⊢
  have hl : lv_has ls 7 [(0, .ref (o)), (1, .ref (oo))] := hl
  refine lv_lconst (v := 0) hx hb dX1_increase_0 (by decide) ?_
  refine lv_lstore_n (lv' := [(2, .long ((0 : Int64))), (0, .ref (o)), (1, .ref (oo))]) hx hb dX1_increase_1 rfl hl (by decide) rfl (fun ls hl => ?_)
  refine lv_iconst (v := 0) hx hb dX1_increase_2 (by decide) ?_
  refine lv_istore (lv' := [(4, .int ((0 : Int32))), (2, .long ((0 : Int64))), (0, .ref (o)), (1, .ref (oo))]) hx hb dX1_increase_3 hl (by decide) rfl (fun ls hl => ?_)
  have loop : ∀ (n i : Nat) (H : Heap) (locs : List Loc) (ls : Array Slot), i + n = w → va_P D vwCl [(o, .inr (1, [.ref (a), .int (nI (szF v w))])), (a, .inl (cI, w, .inl (fl (lb (v + u)) (lb v) i)))] H → va_D (nAd o a) [(o, .inr (1, [.ref (a), .int (nI (szF v w))])), (a, .inl (cI, w, .inl (fl (lb (v + u)) (lb v) i)))] → va_S (nAd o a) s.heap H locs → lv_has ls 7 [(4, .int (nI i)), (2, .long (lN (cyA v u i))), (0, .ref (o)), (1, .ref (oo))] → W p l e (headSpec wsX1_increase ({ frames := 1, cells := 0, slots := 0, locals := 21 })).room s m ([.ref (o), .ref (oo)]).toArray below meth c H locs 0 0 (MQ below (va_Qv (fun _ : Unit => True) (fun _ t => va_P D vwCl (nW cI w o a (v + u)) t.heap) (nAd o a)) ([.ref (o), .ref (oo)]).toArray s 0 0 (nAd o a)) (F0 m 5 ls []) := by
    intro n
    induction n with
    | zero =>
      intro i H locs ls hin hP hD hS hl
      have hiw : i = w := by omega
      refine lv_iload hx hb dX1_increase_5 (lv_at hl 0 rfl) ?_
      refine lv_aload_n hx hb dX1_increase_7 rfl (lv_at hl 2 rfl) ?_
      refine va_get (D := D) (ci := 1) (v := .ref (a)) (C := RX1) (T := TX1) (N := 2) hx hb hts hi1 hown hK hP 0 rfl rfl 0 (by decide) (hts (.fieldLink RX1 9 "BigLedger$Natural" "limbs" "[I") (by decide +kernel)) (fun _ h9 => h9) rfl dX1_increase_8 ?_
      refine va_alen (v := nI (w)) hx hb hK hP 1 0 rfl rfl (rfl) dX1_increase_11 ?_
      refine lv_icmp_ge (tgt := 61) hx hb dX1_increase_12 (by decide) (fun _ => ?_) (fun c9 => absurd (nI_le (by omega) (by omega)) c9)
      refine lv_aload_n hx hb dX1_increase_61 rfl (lv_at hl 2 rfl) ?_
      refine va_callv (va_runV (As := []) (rest := []) ⟨hx, hb, hml, hown, hts⟩ (c_measure l D cI w o a (v + u) (nI (szF v w)) (fl (lb (v + u)) (lb v) i) hw hoa (fun k hk => fl_lo (by omega))) (cwV 0 hts gX1_increase_X1_measure rfl rfl rfl (by decide +kernel) ⟨Nat.le_of_ble_eq_true rfl, Nat.le_of_ble_eq_true rfl⟩) ⟨nPc_blind, va_recv hK hP (ci := 1) (q0 := 0) rfl rfl, nPc_use (hP) hK⟩ rfl rfl hl.1 rfl (lv_room (Nat.le_of_ble_eq_true rfl)) dX1_increase_62 ⟨Nat.le_of_ble_eq_true rfl, Nat.le_of_ble_eq_true rfl⟩) hS (fun q _ h => (fun _ h => h) q h) (fun _ h => h) (fun _u t H1 locs ht hvm hw hB hz1 hk9 hS => ?_)
      have hP9 : va_P D vwCl (nW cI w o a (v + u)) H1 := pB_at ht hB
      exact W.vret hx hb hr (fun t ht hW => ⟨⟨(), rfl, trivial, hp_at ht hP9⟩, hS.F ht⟩) hS.2.2 dX1_increase_65
    | succ n ih =>
      intro i H locs ls hin hP hD hS hl
      have hiw : i < w := by omega
      have hR : va_P D vwCl (nW cI w oo oa u) H := ro_keep hS hR0 hro
      refine lv_iload hx hb dX1_increase_5 (lv_at hl 0 rfl) ?_
      refine lv_aload_n hx hb dX1_increase_7 rfl (lv_at hl 2 rfl) ?_
      refine va_get (D := D) (ci := 1) (v := .ref (a)) (C := RX1) (T := TX1) (N := 2) hx hb hts hi1 hown hK hP 0 rfl rfl 0 (by decide) (hts (.fieldLink RX1 9 "BigLedger$Natural" "limbs" "[I") (by decide +kernel)) (fun _ h9 => h9) rfl dX1_increase_8 ?_
      refine va_alen (v := nI (w)) hx hb hK hP 1 0 rfl rfl (rfl) dX1_increase_11 ?_
      refine lv_icmp_ge (tgt := 61) hx hb dX1_increase_12 (by decide) (fun c9 => absurd c9 (nI_ge hiw (by omega))) (fun _ => ?_)
      refine lv_lload_n hx hb dX1_increase_15 rfl (lv_at hl 1 rfl) ?_
      refine lv_aload_n hx hb dX1_increase_16 rfl (lv_at hl 2 rfl) ?_
      refine va_get (D := D) (ci := 1) (v := .ref (a)) (C := RX1) (T := TX1) (N := 2) hx hb hts hi1 hown hK hP 0 rfl rfl 0 (by decide) (hts (.fieldLink RX1 9 "BigLedger$Natural" "limbs" "[I") (by decide +kernel)) (fun _ h9 => h9) rfl dX1_increase_17 ?_
      refine lv_iload hx hb dX1_increase_20 (lv_at hl 0 rfl) ?_
      refine va_iald hx hb hK hP 1 0 rfl rfl (vp_in_nI (by omega) (by omega)) dX1_increase_22 ?_
      refine lv_topi (fun y5 ey5 => ?_)
      replace ey5 : y5 = lb v i := ey5.trans (by rw [nI_clamp (by omega), fl_hi (Nat.le_refl i)])
      subst ey5
      refine lv_i2l (v := lN (lbN v i)) hx hb dX1_increase_23 (lb_l v i) ?_
      refine lv_ladd hx hb dX1_increase_24 ?_
      refine lv_topl (fun y6 ey6 => ?_)
      replace ey6 : y6 = lN (cyA v u i + lbN v i) := ey6.trans (lN_add _ _)
      subst ey6
      refine lv_aload_n hx hb dX1_increase_25 rfl (lv_at hl 3 rfl) ?_
      refine lv_iload hx hb dX1_increase_26 (lv_at hl 0 rfl) ?_
      refine vp_callSi (W.runV (As := [.int (nI i)]) (rest := [.long (lN (cyA v u i + lbN v i))]) ⟨hx, hb, hml, hown, hts⟩ (c_limbAt l D cI w oo oa u (nI i) hw hu0) (cwV 1 hts gX1_increase_X1_limbAt rfl rfl rfl (by decide +kernel) ⟨Nat.le_of_ble_eq_true rfl, Nat.le_of_ble_eq_true rfl⟩) ⟨nPc_blind, va_recv hK hR (ci := 1) (q0 := 0) rfl rfl, nPc_use (hR) hK⟩ rfl rfl hl.1 rfl (lv_room (Nat.le_of_ble_eq_true rfl)) dX1_increase_28 ⟨Nat.le_of_ble_eq_true rfl, Nat.le_of_ble_eq_true rfl⟩) (fun rr7 hrr7 => ?_)
      replace hrr7 : rr7 = lb u i := hrr7.trans (if_nI (by omega))
      subst hrr7
      refine lv_i2l (v := lN (lbN u i)) hx hb dX1_increase_31 (lb_l u i) ?_
      refine lv_ladd hx hb dX1_increase_32 ?_
      refine lv_topl (fun y8 ey8 => ?_)
      replace ey8 : y8 = lN (cyA v u i + lbN v i + lbN u i) := ey8.trans (lN_add _ _)
      subst ey8
      have hs1 := cyA_lt v u i
      have hs2 := lbN_lt v i
      have hs3 := lbN_lt u i
      refine lv_lstore (lv' := [(5, .long (lN (cyA v u i + lbN v i + lbN u i))), (4, .int (nI i)), (2, .long (lN (cyA v u i))), (0, .ref (o)), (1, .ref (oo))]) hx hb dX1_increase_33 hl (by decide) rfl (fun ls hl => ?_)
      refine lv_aload_n hx hb dX1_increase_35 rfl (lv_at hl 3 rfl) ?_
      refine va_get (D := D) (ci := 1) (v := .ref (a)) (C := RX1) (T := TX1) (N := 2) hx hb hts hi1 hown hK hP 0 rfl rfl 0 (by decide) (hts (.fieldLink RX1 9 "BigLedger$Natural" "limbs" "[I") (by decide +kernel)) (fun _ h9 => h9) rfl dX1_increase_36 ?_
      refine lv_iload hx hb dX1_increase_39 (lv_at hl 1 rfl) ?_
      refine lv_lload hx hb dX1_increase_41 (lv_at hl 0 rfl) ?_
      refine lv_ldc2 (v := 2147483647) hx hb hown (hts (.constantLong RX1 26 (2147483647)) (by decide +kernel)) dX1_increase_43 ?_
      refine lv_land hx hb dX1_increase_46 ?_
      refine lv_topl (fun y9 ey9 => ?_)
      replace ey9 : y9 = lN (lbN (v + u) i) := ey9.trans ((l_mask _).trans (congrArg lN (add_limb v u i)))
      subst ey9
      refine lv_l2i (v := lb (v + u) i) hx hb dX1_increase_47 (lN_i _) ?_
      refine va_iast hx hb hK hP hD hS 1 0 rfl rfl (vp_in_nI (by omega) (by omega)) dX1_increase_48 (fun H locs hP hD hS => ?_)
      have hP : va_P D vwCl [(o, .inr (1, [.ref (a), .int (nI (szF v w))])), (a, .inl (cI, w, .inl (upd (fl (lb (v + u)) (lb v) i) (nI i).toNatClampNeg (lb (v + u) i))))] H := hP
      have hD : va_D (nAd o a) [(o, .inr (1, [.ref (a), .int (nI (szF v w))])), (a, .inl (cI, w, .inl (upd (fl (lb (v + u)) (lb v) i) (nI i).toNatClampNeg (lb (v + u) i))))] := hD
      rw [show upd (fl (lb (v + u)) (lb v) i) (nI i).toNatClampNeg (lb (v + u) i) = fl (lb (v + u)) (lb v) (i + 1) from by rw [nI_clamp (by omega)]; exact fl_s rfl] at hP hD
      refine lv_lload hx hb dX1_increase_49 (lv_at hl 0 rfl) ?_
      refine lv_bipush (v := 31) hx hb dX1_increase_51 (by decide) ?_
      refine lv_lushr (v := lN (cyA v u (i + 1))) hx hb dX1_increase_53 ((l_ushr31 (by omega)).trans (congrArg lN (add_carry v u i))) ?_
      refine lv_lstore_n (lv' := [(2, .long (lN (cyA v u (i + 1)))), (5, .long (lN (cyA v u i + lbN v i + lbN u i))), (4, .int (nI i)), (0, .ref (o)), (1, .ref (oo))]) hx hb dX1_increase_54 rfl hl (by decide) rfl (fun ls hl => ?_)
      refine lv_iinc (v := nI (i + 1)) (lv' := [(4, .int (nI (i + 1))), (2, .long (lN (cyA v u (i + 1)))), (5, .long (lN (cyA v u i + lbN v i + lbN u i))), (0, .ref (o)), (1, .ref (oo))]) hx hb dX1_increase_55 hl (k := 2) rfl (nI_1 i) (by decide) rfl (fun ls hl => ?_)
      refine lv_goto (tgt := 5) hx hb dX1_increase_58 (by decide) ?_
      exact ih (i + 1) H locs ls (by omega) hP hD hS (lv_sub hl [0, 1, 3, 4] rfl)
  exact loop w 0 s.heap [] ls (by omega) (by rw [fl_0]; exact hP) (by rw [fl_0]; exact hD) hS (by rw [cyA_0]; exact hl)
set_option maxHeartbeats 4000000 in
set_option maxRecDepth 100000 in
theorem c_decrease (l : Launch) (D : va_G) (cI : ClassId) (w o a v : Nat)(hw : w ≤ 64) (hoa : o ≠ a) (hv0 : v < 2147483648 ^ w)(oo oa u : Nat) (hn1 : ¬ nAd o a oo) (hn2 : ¬ nAd o a oa) (hu0 : u < 2147483648 ^ w) (hr0 : u ≤ v) : Met l yX1_decrease wsX1_decrease ({ frames := 1, cells := 0, slots := 0, locals := 21 }) (nPc [.ref o, .ref oo] D (nW cI w o a v ++ nW cI w oo oa u) [(cI, .int)]) (va_Qv (fun _ : Unit => True) (fun _ t => va_P D vwCl (nW cI w o a (v - u)) t.heap) (nAd o a)) 0 0 (nAd o a) := by
  refine Met.ofW (cc := cX1_decrease) (maxL := 7) (ret := none) (by decide) rfl ?_
  intro p e s m args below meth c s₁ B hml hv
  obtain ⟨rfl, hP0, hK⟩ := hv
  have hx := B.exec
  have hb := B.bytes
  have hr := B.returns
  have hts := atoms_spec (ws := wsX1_decrease) B.pre
  have hown : s.vm.findClass RX1 = some m.cls := findClass_of_methodNamed B.named
  have hlocks := B.notSynchronized
  have hi1 : ∀ w ∈ wsX10, w ∈ wsX1_decrease := by decide +kernel
  have hP : va_P D vwCl (nW cI w o a v) s.heap := hP0.sub [0, 1] rfl
  have hR0 : va_P D vwCl (nW cI w oo oa u) s.heap := hP0.sub [2, 3] rfl
  have hro : ∀ q ∈ nW cI w oo oa u, ¬ nAd o a q.1 := ro2 hn1 hn2
  have hD : va_D (nAd o a) (nW cI w o a v) := vd_two (Or.inl rfl) (Or.inr rfl) hoa
  have hS : va_S (nAd o a) s.heap s.heap [] := va_S.rf
  have hl := lv_entry ([.ref (o), .ref (oo)]) (n := 7) (Nat.le_of_ble_eq_true rfl)
  rw [lg_entry_eq]
  generalize (lg_sl ([.ref (o), .ref (oo)]) ++ List.replicate (7 - (lg_sl ([.ref (o), .ref (oo)])).length) Slot.unset).toArray = ls at hl ⊢
  have hl : lv_has ls 7 [(0, .ref (o)), (1, .ref (oo))] := hl
  refine lv_lconst (v := 0) hx hb dX1_decrease_0 (by decide) ?_
  refine lv_lstore_n (lv' := [(2, .long ((0 : Int64))), (0, .ref (o)), (1, .ref (oo))]) hx hb dX1_decrease_1 rfl hl (by decide) rfl (fun ls hl => ?_)
  refine lv_iconst (v := 0) hx hb dX1_decrease_2 (by decide) ?_
  refine lv_istore (lv' := [(4, .int ((0 : Int32))), (2, .long ((0 : Int64))), (0, .ref (o)), (1, .ref (oo))]) hx hb dX1_decrease_3 hl (by decide) rfl (fun ls hl => ?_)
  have loop : ∀ (n i : Nat) (H : Heap) (locs : List Loc) (ls : Array Slot), i + n = w → va_P D vwCl [(o, .inr (1, [.ref (a), .int (nI (szF v w))])), (a, .inl (cI, w, .inl (fl (lb (v - u)) (lb v) i)))] H → va_D (nAd o a) [(o, .inr (1, [.ref (a), .int (nI (szF v w))])), (a, .inl (cI, w, .inl (fl (lb (v - u)) (lb v) i)))] → va_S (nAd o a) s.heap H locs → lv_has ls 7 [(4, .int (nI i)), (2, .long (lN (cyS v u i))), (0, .ref (o)), (1, .ref (oo))] → W p l e (headSpec wsX1_decrease ({ frames := 1, cells := 0, slots := 0, locals := 21 })).room s m ([.ref (o), .ref (oo)]).toArray below meth c H locs 0 0 (MQ below (va_Qv (fun _ : Unit => True) (fun _ t => va_P D vwCl (nW cI w o a (v - u)) t.heap) (nAd o a)) ([.ref (o), .ref (oo)]).toArray s 0 0 (nAd o a)) (F0 m 5 ls []) := by
    intro n
    induction n with
    | zero =>
      intro i H locs ls hin hP hD hS hl
      have hiw : i = w := by omega
      refine lv_iload hx hb dX1_decrease_5 (lv_at hl 0 rfl) ?_
      refine lv_aload_n hx hb dX1_decrease_7 rfl (lv_at hl 2 rfl) ?_
      refine va_get (D := D) (ci := 1) (v := .ref (a)) (C := RX1) (T := TX1) (N := 2) hx hb hts hi1 hown hK hP 0 rfl rfl 0 (by decide) (hts (.fieldLink RX1 9 "BigLedger$Natural" "limbs" "[I") (by decide +kernel)) (fun _ h9 => h9) rfl dX1_decrease_8 ?_
      refine va_alen (v := nI (w)) hx hb hK hP 1 0 rfl rfl (rfl) dX1_decrease_11 ?_
      refine lv_icmp_ge (tgt := 68) hx hb dX1_decrease_12 (by decide) (fun _ => ?_) (fun c9 => absurd (nI_le (by omega) (by omega)) c9)
      refine lv_aload_n hx hb dX1_decrease_68 rfl (lv_at hl 2 rfl) ?_
      refine va_callv (va_runV (As := []) (rest := []) ⟨hx, hb, hml, hown, hts⟩ (c_measure l D cI w o a (v - u) (nI (szF v w)) (fl (lb (v - u)) (lb v) i) hw hoa (fun k hk => fl_lo (by omega))) (cwV 0 hts gX1_decrease_X1_measure rfl rfl rfl (by decide +kernel) ⟨Nat.le_of_ble_eq_true rfl, Nat.le_of_ble_eq_true rfl⟩) ⟨nPc_blind, va_recv hK hP (ci := 1) (q0 := 0) rfl rfl, nPc_use (hP) hK⟩ rfl rfl hl.1 rfl (lv_room (Nat.le_of_ble_eq_true rfl)) dX1_decrease_69 ⟨Nat.le_of_ble_eq_true rfl, Nat.le_of_ble_eq_true rfl⟩) hS (fun q _ h => (fun _ h => h) q h) (fun _ h => h) (fun _u t H1 locs ht hvm hw hB hz1 hk9 hS => ?_)
      have hP9 : va_P D vwCl (nW cI w o a (v - u)) H1 := pB_at ht hB
      exact W.vret hx hb hr (fun t ht hW => ⟨⟨(), rfl, trivial, hp_at ht hP9⟩, hS.F ht⟩) hS.2.2 dX1_decrease_72
    | succ n ih =>
      intro i H locs ls hin hP hD hS hl
      have hiw : i < w := by omega
      have hR : va_P D vwCl (nW cI w oo oa u) H := ro_keep hS hR0 hro
      refine lv_iload hx hb dX1_decrease_5 (lv_at hl 0 rfl) ?_
      refine lv_aload_n hx hb dX1_decrease_7 rfl (lv_at hl 2 rfl) ?_
      refine va_get (D := D) (ci := 1) (v := .ref (a)) (C := RX1) (T := TX1) (N := 2) hx hb hts hi1 hown hK hP 0 rfl rfl 0 (by decide) (hts (.fieldLink RX1 9 "BigLedger$Natural" "limbs" "[I") (by decide +kernel)) (fun _ h9 => h9) rfl dX1_decrease_8 ?_
      refine va_alen (v := nI (w)) hx hb hK hP 1 0 rfl rfl (rfl) dX1_decrease_11 ?_
      refine lv_icmp_ge (tgt := 68) hx hb dX1_decrease_12 (by decide) (fun c9 => absurd c9 (nI_ge hiw (by omega))) (fun _ => ?_)
      refine lv_aload_n hx hb dX1_decrease_15 rfl (lv_at hl 2 rfl) ?_
      refine va_get (D := D) (ci := 1) (v := .ref (a)) (C := RX1) (T := TX1) (N := 2) hx hb hts hi1 hown hK hP 0 rfl rfl 0 (by decide) (hts (.fieldLink RX1 9 "BigLedger$Natural" "limbs" "[I") (by decide +kernel)) (fun _ h9 => h9) rfl dX1_decrease_16 ?_
      refine lv_iload hx hb dX1_decrease_19 (lv_at hl 0 rfl) ?_
      refine va_iald hx hb hK hP 1 0 rfl rfl (vp_in_nI (by omega) (by omega)) dX1_decrease_21 ?_
      refine lv_topi (fun y10 ey10 => ?_)
      replace ey10 : y10 = lb v i := ey10.trans (by rw [nI_clamp (by omega), fl_hi (Nat.le_refl i)])
      subst ey10
      refine lv_i2l (v := lN (lbN v i)) hx hb dX1_decrease_22 (lb_l v i) ?_
      refine lv_aload_n hx hb dX1_decrease_23 rfl (lv_at hl 3 rfl) ?_
      refine lv_iload hx hb dX1_decrease_24 (lv_at hl 0 rfl) ?_
      refine vp_callSi (W.runV (As := [.int (nI i)]) (rest := [.long (lN (lbN v i))]) ⟨hx, hb, hml, hown, hts⟩ (c_limbAt l D cI w oo oa u (nI i) hw hu0) (cwV 1 hts gX1_decrease_X1_limbAt rfl rfl rfl (by decide +kernel) ⟨Nat.le_of_ble_eq_true rfl, Nat.le_of_ble_eq_true rfl⟩) ⟨nPc_blind, va_recv hK hR (ci := 1) (q0 := 0) rfl rfl, nPc_use (hR) hK⟩ rfl rfl hl.1 rfl (lv_room (Nat.le_of_ble_eq_true rfl)) dX1_decrease_26 ⟨Nat.le_of_ble_eq_true rfl, Nat.le_of_ble_eq_true rfl⟩) (fun rr11 hrr11 => ?_)
      replace hrr11 : rr11 = lb u i := hrr11.trans (if_nI (by omega))
      subst hrr11
      refine lv_i2l (v := lN (lbN u i)) hx hb dX1_decrease_29 (lb_l u i) ?_
      refine lv_lsub hx hb dX1_decrease_30 ?_
      refine lv_lload_n hx hb dX1_decrease_31 rfl (lv_at hl 1 rfl) ?_
      refine lv_lsub hx hb dX1_decrease_32 ?_
      have hs1 := cyS_lt v u i
      have hs2 := lbN_lt v i
      have hs3 := lbN_lt u i
      have hdi : (lN (lbN v i) - lN (lbN u i) - lN (cyS v u i)).toInt = (lbN v i : Int) - lbN u i - cyS v u i := l_dif hs2 hs3 hs1
      refine lv_lstore (lv' := [(5, .long (((lN (lbN v i)) - (lN (lbN u i))) - (lN (cyS v u i)))), (4, .int (nI i)), (2, .long (lN (cyS v u i))), (0, .ref (o)), (1, .ref (oo))]) hx hb dX1_decrease_33 hl (by decide) rfl (fun ls hl => ?_)
      refine lv_aload_n hx hb dX1_decrease_35 rfl (lv_at hl 3 rfl) ?_
      refine va_get (D := D) (ci := 1) (v := .ref (a)) (C := RX1) (T := TX1) (N := 2) hx hb hts hi1 hown hK hP 0 rfl rfl 0 (by decide) (hts (.fieldLink RX1 9 "BigLedger$Natural" "limbs" "[I") (by decide +kernel)) (fun _ h9 => h9) rfl dX1_decrease_36 ?_
      refine lv_iload hx hb dX1_decrease_39 (lv_at hl 1 rfl) ?_
      refine lv_lload hx hb dX1_decrease_41 (lv_at hl 0 rfl) ?_
      refine lv_ldc2 (v := 2147483647) hx hb hown (hts (.constantLong RX1 26 (2147483647)) (by decide +kernel)) dX1_decrease_43 ?_
      refine lv_land hx hb dX1_decrease_46 ?_
      refine lv_l2i (v := lb (v - u) i) hx hb dX1_decrease_47 ((l_mask_neg hdi (by omega) (by omega)).trans (by rw [sub_limb hr0 i]; rfl)) ?_
      refine va_iast hx hb hK hP hD hS 1 0 rfl rfl (vp_in_nI (by omega) (by omega)) dX1_decrease_48 (fun H locs hP hD hS => ?_)
      have hP : va_P D vwCl [(o, .inr (1, [.ref (a), .int (nI (szF v w))])), (a, .inl (cI, w, .inl (upd (fl (lb (v - u)) (lb v) i) (nI i).toNatClampNeg (lb (v - u) i))))] H := hP
      have hD : va_D (nAd o a) [(o, .inr (1, [.ref (a), .int (nI (szF v w))])), (a, .inl (cI, w, .inl (upd (fl (lb (v - u)) (lb v) i) (nI i).toNatClampNeg (lb (v - u) i))))] := hD
      rw [show upd (fl (lb (v - u)) (lb v) i) (nI i).toNatClampNeg (lb (v - u) i) = fl (lb (v - u)) (lb v) (i + 1) from by rw [nI_clamp (by omega)]; exact fl_s rfl] at hP hD
      refine lv_lload hx hb dX1_decrease_49 (lv_at hl 0 rfl) ?_
      refine lv_lconst (v := 0) hx hb dX1_decrease_51 (by decide) ?_
      refine W.lcmp hx hb dX1_decrease_52 ?_
      refine lv_if_ge (tgt := 60) hx hb dX1_decrease_53 (by decide) (fun c1 => ?_) (fun c1 => ?_)
      · have hc9 : cyS v u (i + 1) = 0 := (cyS_z (fun q => absurd ((sub_borrow v u i).mpr q) (l_cmp_ge hdi c1)))
        refine lv_lconst (v := 0) hx hb dX1_decrease_60 (by decide) ?_
        refine lv_topl (fun y12 ey12 => ?_)
        replace ey12 : y12 = lN (cyS v u (i + 1)) := ey12.trans (by rw [hc9]; rfl)
        subst ey12
        refine lv_lstore_n (lv' := [(2, .long (lN (cyS v u (i + 1)))), (5, .long (((lN (lbN v i)) - (lN (lbN u i))) - (lN (cyS v u i)))), (4, .int (nI i)), (0, .ref (o)), (1, .ref (oo))]) hx hb dX1_decrease_61 rfl hl (by decide) rfl (fun ls hl => ?_)
        refine lv_iinc (v := nI (i + 1)) (lv' := [(4, .int (nI (i + 1))), (2, .long (lN (cyS v u (i + 1)))), (5, .long (((lN (lbN v i)) - (lN (lbN u i))) - (lN (cyS v u i)))), (0, .ref (o)), (1, .ref (oo))]) hx hb dX1_decrease_62 hl (k := 2) rfl (nI_1 i) (by decide) rfl (fun ls hl => ?_)
        refine lv_goto (tgt := 5) hx hb dX1_decrease_65 (by decide) ?_
        exact ih (i + 1) H locs ls (by omega) hP hD hS (lv_sub hl [0, 1, 3, 4] rfl)
      · have hc9 : cyS v u (i + 1) = 1 := ((sub_borrow v u i).mp (l_cmp_lt hdi c1))
        refine lv_lconst (v := 1) hx hb dX1_decrease_56 (by decide) ?_
        refine lv_goto (tgt := 61) hx hb dX1_decrease_57 (by decide) ?_
        refine lv_topl (fun y13 ey13 => ?_)
        replace ey13 : y13 = lN (cyS v u (i + 1)) := ey13.trans (by rw [hc9]; rfl)
        subst ey13
        refine lv_lstore_n (lv' := [(2, .long (lN (cyS v u (i + 1)))), (5, .long (((lN (lbN v i)) - (lN (lbN u i))) - (lN (cyS v u i)))), (4, .int (nI i)), (0, .ref (o)), (1, .ref (oo))]) hx hb dX1_decrease_61 rfl hl (by decide) rfl (fun ls hl => ?_)
        refine lv_iinc (v := nI (i + 1)) (lv' := [(4, .int (nI (i + 1))), (2, .long (lN (cyS v u (i + 1)))), (5, .long (((lN (lbN v i)) - (lN (lbN u i))) - (lN (cyS v u i)))), (0, .ref (o)), (1, .ref (oo))]) hx hb dX1_decrease_62 hl (k := 2) rfl (nI_1 i) (by decide) rfl (fun ls hl => ?_)
        refine lv_goto (tgt := 5) hx hb dX1_decrease_65 (by decide) ?_
        exact ih (i + 1) H locs ls (by omega) hP hD hS (lv_sub hl [0, 1, 3, 4] rfl)
  exact loop w 0 s.heap [] ls (by omega) (by rw [fl_0]; exact hP) (by rw [fl_0]; exact hD) hS (by rw [cyS_0]; exact hl)
set_option maxHeartbeats 4000000 in
set_option maxRecDepth 100000 in
theorem c_multiply (l : Launch) (D : va_G) (cI : ClassId) (w o a v : Nat)(hw : w ≤ 64) (hoa : o ≠ a) (hv0 : v < 2147483648 ^ w) (k : Nat) (hk0 : k < 2147483648) (hr0 : v * k < 2147483648 ^ w) : Met l yX1_multiply wsX1_multiply ({ frames := 1, cells := 0, slots := 0, locals := 20 }) (nPc [.ref o, .int (nI k)] D (nW cI w o a v) [(cI, .int)]) (va_Qv (fun _ : Unit => True) (fun _ t => va_P D vwCl (nW cI w o a (v * k)) t.heap) (nAd o a)) 0 0 (nAd o a) := by
  refine Met.ofW (cc := cX1_multiply) (maxL := 7) (ret := none) (by decide) rfl ?_
  intro p e s m args below meth c s₁ B hml hv
  obtain ⟨rfl, hP0, hK⟩ := hv
  have hx := B.exec
  have hb := B.bytes
  have hr := B.returns
  have hts := atoms_spec (ws := wsX1_multiply) B.pre
  have hown : s.vm.findClass RX1 = some m.cls := findClass_of_methodNamed B.named
  have hlocks := B.notSynchronized
  have hi1 : ∀ w ∈ wsX10, w ∈ wsX1_multiply := by decide +kernel
  have hP : va_P D vwCl (nW cI w o a v) s.heap := hP0.sub [0, 1] rfl
  have hD : va_D (nAd o a) (nW cI w o a v) := vd_two (Or.inl rfl) (Or.inr rfl) hoa
  have hS : va_S (nAd o a) s.heap s.heap [] := va_S.rf
  have hl := lv_entry ([.ref (o), .int (nI k)]) (n := 7) (Nat.le_of_ble_eq_true rfl)
  rw [lg_entry_eq]
  generalize (lg_sl ([.ref (o), .int (nI k)]) ++ List.replicate (7 - (lg_sl ([.ref (o), .int (nI k)])).length) Slot.unset).toArray = ls at hl ⊢
  have hl : lv_has ls 7 [(0, .ref (o)), (1, .int (nI k))] := hl
  refine lv_lconst (v := 0) hx hb dX1_multiply_0 (by decide) ?_
  refine lv_lstore_n (lv' := [(2, .long ((0 : Int64))), (0, .ref (o)), (1, .int (nI k))]) hx hb dX1_multiply_1 rfl hl (by decide) rfl (fun ls hl => ?_)
  refine lv_iconst (v := 0) hx hb dX1_multiply_2 (by decide) ?_
  refine lv_istore (lv' := [(4, .int ((0 : Int32))), (2, .long ((0 : Int64))), (0, .ref (o)), (1, .int (nI k))]) hx hb dX1_multiply_3 hl (by decide) rfl (fun ls hl => ?_)
  have loop : ∀ (n i : Nat) (H : Heap) (locs : List Loc) (ls : Array Slot), i + n = w → va_P D vwCl [(o, .inr (1, [.ref (a), .int (nI (szF v w))])), (a, .inl (cI, w, .inl (fl (lb (v * k)) (lb v) i)))] H → va_D (nAd o a) [(o, .inr (1, [.ref (a), .int (nI (szF v w))])), (a, .inl (cI, w, .inl (fl (lb (v * k)) (lb v) i)))] → va_S (nAd o a) s.heap H locs → lv_has ls 7 [(4, .int (nI i)), (2, .long (lN (cyM v k i))), (0, .ref (o)), (1, .int (nI k))] → W p l e (headSpec wsX1_multiply ({ frames := 1, cells := 0, slots := 0, locals := 20 })).room s m ([.ref (o), .int (nI k)]).toArray below meth c H locs 0 0 (MQ below (va_Qv (fun _ : Unit => True) (fun _ t => va_P D vwCl (nW cI w o a (v * k)) t.heap) (nAd o a)) ([.ref (o), .int (nI k)]).toArray s 0 0 (nAd o a)) (F0 m 5 ls []) := by
    intro n
    induction n with
    | zero =>
      intro i H locs ls hin hP hD hS hl
      have hiw : i = w := by omega
      refine lv_iload hx hb dX1_multiply_5 (lv_at hl 0 rfl) ?_
      refine lv_aload_n hx hb dX1_multiply_7 rfl (lv_at hl 2 rfl) ?_
      refine va_get (D := D) (ci := 1) (v := .ref (a)) (C := RX1) (T := TX1) (N := 2) hx hb hts hi1 hown hK hP 0 rfl rfl 0 (by decide) (hts (.fieldLink RX1 9 "BigLedger$Natural" "limbs" "[I") (by decide +kernel)) (fun _ h9 => h9) rfl dX1_multiply_8 ?_
      refine va_alen (v := nI (w)) hx hb hK hP 1 0 rfl rfl (rfl) dX1_multiply_11 ?_
      refine lv_icmp_ge (tgt := 56) hx hb dX1_multiply_12 (by decide) (fun _ => ?_) (fun c9 => absurd (nI_le (by omega) (by omega)) c9)
      refine lv_aload_n hx hb dX1_multiply_56 rfl (lv_at hl 2 rfl) ?_
      refine va_callv (va_runV (As := []) (rest := []) ⟨hx, hb, hml, hown, hts⟩ (c_measure l D cI w o a (v * k) (nI (szF v w)) (fl (lb (v * k)) (lb v) i) hw hoa (fun k hk => fl_lo (by omega))) (cwV 0 hts gX1_multiply_X1_measure rfl rfl rfl (by decide +kernel) ⟨Nat.le_of_ble_eq_true rfl, Nat.le_of_ble_eq_true rfl⟩) ⟨nPc_blind, va_recv hK hP (ci := 1) (q0 := 0) rfl rfl, nPc_use (hP) hK⟩ rfl rfl hl.1 rfl (lv_room (Nat.le_of_ble_eq_true rfl)) dX1_multiply_57 ⟨Nat.le_of_ble_eq_true rfl, Nat.le_of_ble_eq_true rfl⟩) hS (fun q _ h => (fun _ h => h) q h) (fun _ h => h) (fun _u t H1 locs ht hvm hw hB hz1 hk9 hS => ?_)
      have hP9 : va_P D vwCl (nW cI w o a (v * k)) H1 := pB_at ht hB
      exact W.vret hx hb hr (fun t ht hW => ⟨⟨(), rfl, trivial, hp_at ht hP9⟩, hS.F ht⟩) hS.2.2 dX1_multiply_60
    | succ n ih =>
      intro i H locs ls hin hP hD hS hl
      have hiw : i < w := by omega
      refine lv_iload hx hb dX1_multiply_5 (lv_at hl 0 rfl) ?_
      refine lv_aload_n hx hb dX1_multiply_7 rfl (lv_at hl 2 rfl) ?_
      refine va_get (D := D) (ci := 1) (v := .ref (a)) (C := RX1) (T := TX1) (N := 2) hx hb hts hi1 hown hK hP 0 rfl rfl 0 (by decide) (hts (.fieldLink RX1 9 "BigLedger$Natural" "limbs" "[I") (by decide +kernel)) (fun _ h9 => h9) rfl dX1_multiply_8 ?_
      refine va_alen (v := nI (w)) hx hb hK hP 1 0 rfl rfl (rfl) dX1_multiply_11 ?_
      refine lv_icmp_ge (tgt := 56) hx hb dX1_multiply_12 (by decide) (fun c9 => absurd c9 (nI_ge hiw (by omega))) (fun _ => ?_)
      refine lv_aload_n hx hb dX1_multiply_15 rfl (lv_at hl 2 rfl) ?_
      refine va_get (D := D) (ci := 1) (v := .ref (a)) (C := RX1) (T := TX1) (N := 2) hx hb hts hi1 hown hK hP 0 rfl rfl 0 (by decide) (hts (.fieldLink RX1 9 "BigLedger$Natural" "limbs" "[I") (by decide +kernel)) (fun _ h9 => h9) rfl dX1_multiply_16 ?_
      refine lv_iload hx hb dX1_multiply_19 (lv_at hl 0 rfl) ?_
      refine va_iald hx hb hK hP 1 0 rfl rfl (vp_in_nI (by omega) (by omega)) dX1_multiply_21 ?_
      refine lv_topi (fun y14 ey14 => ?_)
      replace ey14 : y14 = lb v i := ey14.trans (by rw [nI_clamp (by omega), fl_hi (Nat.le_refl i)])
      subst ey14
      refine lv_i2l (v := lN (lbN v i)) hx hb dX1_multiply_22 (lb_l v i) ?_
      refine lv_iload_n hx hb dX1_multiply_23 rfl (lv_at hl 3 rfl) ?_
      refine lv_i2l (v := lN k) hx hb dX1_multiply_24 (nI_l (by omega)) ?_
      refine lv_lmul hx hb dX1_multiply_25 ?_
      refine lv_topl (fun y15 ey15 => ?_)
      replace ey15 : y15 = lN (lbN v i * k) := ey15.trans (lN_mul _ _)
      subst ey15
      refine lv_lload_n hx hb dX1_multiply_26 rfl (lv_at hl 1 rfl) ?_
      refine lv_ladd hx hb dX1_multiply_27 ?_
      refine lv_topl (fun y16 ey16 => ?_)
      replace ey16 : y16 = lN (lbN v i * k + cyM v k i) := ey16.trans (lN_add _ _)
      subst ey16
      have hs1 := cyM_le v k i
      have hs2 := lbN_lt v i
      have hs3 : lbN v i * k ≤ 2147483647 * 2147483647 := Nat.mul_le_mul (by omega) (by omega)
      refine lv_lstore (lv' := [(5, .long (lN (lbN v i * k + cyM v k i))), (4, .int (nI i)), (2, .long (lN (cyM v k i))), (0, .ref (o)), (1, .int (nI k))]) hx hb dX1_multiply_28 hl (by decide) rfl (fun ls hl => ?_)
      refine lv_aload_n hx hb dX1_multiply_30 rfl (lv_at hl 3 rfl) ?_
      refine va_get (D := D) (ci := 1) (v := .ref (a)) (C := RX1) (T := TX1) (N := 2) hx hb hts hi1 hown hK hP 0 rfl rfl 0 (by decide) (hts (.fieldLink RX1 9 "BigLedger$Natural" "limbs" "[I") (by decide +kernel)) (fun _ h9 => h9) rfl dX1_multiply_31 ?_
      refine lv_iload hx hb dX1_multiply_34 (lv_at hl 1 rfl) ?_
      refine lv_lload hx hb dX1_multiply_36 (lv_at hl 0 rfl) ?_
      refine lv_ldc2 (v := 2147483647) hx hb hown (hts (.constantLong RX1 26 (2147483647)) (by decide +kernel)) dX1_multiply_38 ?_
      refine lv_land hx hb dX1_multiply_41 ?_
      refine lv_topl (fun y17 ey17 => ?_)
      replace ey17 : y17 = lN (lbN (v * k) i) := ey17.trans ((l_mask _).trans (congrArg lN (mul_limb v k i)))
      subst ey17
      refine lv_l2i (v := lb (v * k) i) hx hb dX1_multiply_42 (lN_i _) ?_
      refine va_iast hx hb hK hP hD hS 1 0 rfl rfl (vp_in_nI (by omega) (by omega)) dX1_multiply_43 (fun H locs hP hD hS => ?_)
      have hP : va_P D vwCl [(o, .inr (1, [.ref (a), .int (nI (szF v w))])), (a, .inl (cI, w, .inl (upd (fl (lb (v * k)) (lb v) i) (nI i).toNatClampNeg (lb (v * k) i))))] H := hP
      have hD : va_D (nAd o a) [(o, .inr (1, [.ref (a), .int (nI (szF v w))])), (a, .inl (cI, w, .inl (upd (fl (lb (v * k)) (lb v) i) (nI i).toNatClampNeg (lb (v * k) i))))] := hD
      rw [show upd (fl (lb (v * k)) (lb v) i) (nI i).toNatClampNeg (lb (v * k) i) = fl (lb (v * k)) (lb v) (i + 1) from by rw [nI_clamp (by omega)]; exact fl_s rfl] at hP hD
      refine lv_lload hx hb dX1_multiply_44 (lv_at hl 0 rfl) ?_
      refine lv_bipush (v := 31) hx hb dX1_multiply_46 (by decide) ?_
      refine lv_lushr (v := lN (cyM v k (i + 1))) hx hb dX1_multiply_48 ((l_ushr31 (by omega)).trans (congrArg lN (mul_carry v k i))) ?_
      refine lv_lstore_n (lv' := [(2, .long (lN (cyM v k (i + 1)))), (5, .long (lN (lbN v i * k + cyM v k i))), (4, .int (nI i)), (0, .ref (o)), (1, .int (nI k))]) hx hb dX1_multiply_49 rfl hl (by decide) rfl (fun ls hl => ?_)
      refine lv_iinc (v := nI (i + 1)) (lv' := [(4, .int (nI (i + 1))), (2, .long (lN (cyM v k (i + 1)))), (5, .long (lN (lbN v i * k + cyM v k i))), (0, .ref (o)), (1, .int (nI k))]) hx hb dX1_multiply_50 hl (k := 2) rfl (nI_1 i) (by decide) rfl (fun ls hl => ?_)
      refine lv_goto (tgt := 5) hx hb dX1_multiply_53 (by decide) ?_
      exact ih (i + 1) H locs ls (by omega) hP hD hS (lv_sub hl [0, 1, 3, 4] rfl)
  exact loop w 0 s.heap [] ls (by omega) (by rw [fl_0]; exact hP) (by rw [fl_0]; exact hD) hS (by rw [cyM_0]; exact hl)
set_option maxHeartbeats 4000000 in
set_option maxRecDepth 100000 in
theorem c_divide (l : Launch) (D : va_G) (cI : ClassId) (w o a v : Nat)(hw : w ≤ 64) (hoa : o ≠ a) (hv0 : v < 2147483648 ^ w) (k : Nat) (hk1 : 0 < k) (hk0 : k < 2147483648) : Met l yX1_divide wsX1_divide ({ frames := 1, cells := 0, slots := 0, locals := 20 }) (nPc [.ref o, .int (nI k)] D (nW cI w o a v) [(cI, .int)]) (va_Qi (fun (r : Int32) (_ : Unit) => r = nI (v % k)) (fun _ t => va_P D vwCl (nW cI w o a (v / k)) t.heap) (nAd o a)) 0 0 (nAd o a) := by
  refine Met.ofW (cc := cX1_divide) (maxL := 7) (ret := (some .int)) (by decide) rfl ?_
  intro p e s m args below meth c s₁ B hml hv
  obtain ⟨rfl, hP0, hK⟩ := hv
  have hx := B.exec
  have hb := B.bytes
  have hr := B.returns
  have hts := atoms_spec (ws := wsX1_divide) B.pre
  have hown : s.vm.findClass RX1 = some m.cls := findClass_of_methodNamed B.named
  have hlocks := B.notSynchronized
  have hi1 : ∀ w ∈ wsX10, w ∈ wsX1_divide := by decide +kernel
  have hP : va_P D vwCl (nW cI w o a v) s.heap := hP0.sub [0, 1] rfl
  have hD : va_D (nAd o a) (nW cI w o a v) := vd_two (Or.inl rfl) (Or.inr rfl) hoa
  have hS : va_S (nAd o a) s.heap s.heap [] := va_S.rf
  have hl := lv_entry ([.ref (o), .int (nI k)]) (n := 7) (Nat.le_of_ble_eq_true rfl)
  rw [lg_entry_eq]
  generalize (lg_sl ([.ref (o), .int (nI k)]) ++ List.replicate (7 - (lg_sl ([.ref (o), .int (nI k)])).length) Slot.unset).toArray = ls at hl ⊢
  have hl : lv_has ls 7 [(0, .ref (o)), (1, .int (nI k))] := hl
  have loop : ∀ (i : Nat) (H : Heap) (locs : List Loc) (ls : Array Slot), i ≤ w → va_P D vwCl [(o, .inr (1, [.ref (a), .int (nI (szF v w))])), (a, .inl (cI, w, .inl (fd (lb (v / k)) (lb v) i)))] H → va_D (nAd o a) [(o, .inr (1, [.ref (a), .int (nI (szF v w))])), (a, .inl (cI, w, .inl (fd (lb (v / k)) (lb v) i)))] → va_S (nAd o a) s.heap H locs → lv_has ls 7 [(4, .int (nI i - 1)), (2, .long (lN (rmD v k i))), (0, .ref (o)), (1, .int (nI k))] → W p l e (headSpec wsX1_divide ({ frames := 1, cells := 0, slots := 0, locals := 20 })).room s m ([.ref (o), .int (nI k)]).toArray below meth c H locs 0 0 (MQ below (va_Qi (fun (r : Int32) (_ : Unit) => r = nI (v % k)) (fun _ t => va_P D vwCl (nW cI w o a (v / k)) t.heap) (nAd o a)) ([.ref (o), .int (nI k)]).toArray s 0 0 (nAd o a)) (F0 m 18 ls []) := by
    intro i
    induction i with
    | zero =>
      intro H locs ls hiw hP hD hS hl
      refine lv_iload hx hb dX1_divide_18 (lv_at hl 0 rfl) ?_
      refine lv_if_lt (tgt := 63) hx hb dX1_divide_20 (by decide) (fun _ => ?_) (fun c9 => absurd (by decide) c9)
      refine lv_aload_n hx hb dX1_divide_63 rfl (lv_at hl 2 rfl) ?_
      refine va_callv (va_runV (As := []) (rest := []) ⟨hx, hb, hml, hown, hts⟩ (c_measure l D cI w o a (v / k) (nI (szF v w)) (fd (lb (v / k)) (lb v) 0) hw hoa (fun k hk => by rw [fd_0])) (cwV 0 hts gX1_divide_X1_measure rfl rfl rfl (by decide +kernel) ⟨Nat.le_of_ble_eq_true rfl, Nat.le_of_ble_eq_true rfl⟩) ⟨nPc_blind, va_recv hK hP (ci := 1) (q0 := 0) rfl rfl, nPc_use (hP) hK⟩ rfl rfl hl.1 rfl (lv_room (Nat.le_of_ble_eq_true rfl)) dX1_divide_64 ⟨Nat.le_of_ble_eq_true rfl, Nat.le_of_ble_eq_true rfl⟩) hS (fun q _ h => (fun _ h => h) q h) (fun _ h => h) (fun _u t H1 locs ht hvm hw hB hz1 hk9 hS => ?_)
      have hP9 : va_P D vwCl (nW cI w o a (v / k)) H1 := pB_at ht hB
      refine lv_lload_n hx hb dX1_divide_67 rfl (lv_at hl 1 rfl) ?_
      refine lv_l2i (v := nI (v % k)) hx hb dX1_divide_68 (by rw [rmD_0]; exact lN_i _) ?_
      exact W.iret (v := nI (v % k)) hx hb hr (fun t ht hW => ⟨⟨_, (), rfl, rfl, hp_at ht hP9⟩, hS.F ht⟩) hS.2.2 dX1_divide_69
    | succ i ih =>
      intro H locs ls hiw hP hD hS hl
      rw [nI_pred] at hl
      refine lv_iload hx hb dX1_divide_18 (lv_at hl 0 rfl) ?_
      refine lv_if_lt (tgt := 63) hx hb dX1_divide_20 (by decide) (fun c9 => absurd c9 (nI_pos (by omega))) (fun _ => ?_)
      have hs1 := rmD_lt v (i + 1) hk1
      have hs2 := lbN_lt v i
      refine lv_lload_n hx hb dX1_divide_23 rfl (lv_at hl 1 rfl) ?_
      refine lv_bipush (v := 31) hx hb dX1_divide_24 (by decide) ?_
      refine lv_lshl (v := lN (rmD v k (i + 1) * 2147483648)) hx hb dX1_divide_26 (l_shl31 (by omega)) ?_
      refine lv_aload_n hx hb dX1_divide_27 rfl (lv_at hl 2 rfl) ?_
      refine va_get (D := D) (ci := 1) (v := .ref (a)) (C := RX1) (T := TX1) (N := 2) hx hb hts hi1 hown hK hP 0 rfl rfl 0 (by decide) (hts (.fieldLink RX1 9 "BigLedger$Natural" "limbs" "[I") (by decide +kernel)) (fun _ h9 => h9) rfl dX1_divide_28 ?_
      refine lv_iload hx hb dX1_divide_31 (lv_at hl 0 rfl) ?_
      refine va_iald hx hb hK hP 1 0 rfl rfl (vp_in_nI (by omega) (by omega)) dX1_divide_33 ?_
      refine lv_topi (fun y18 ey18 => ?_)
      replace ey18 : y18 = lb v i := ey18.trans (by rw [nI_clamp (by omega), fd_lo (by omega)])
      subst ey18
      refine lv_i2l (v := lN (lbN v i)) hx hb dX1_divide_34 (lb_l v i) ?_
      refine lv_ladd hx hb dX1_divide_35 ?_
      refine lv_topl (fun y19 ey19 => ?_)
      replace ey19 : y19 = lN (rmD v k (i + 1) * 2147483648 + lbN v i) := ey19.trans (lN_add _ _)
      subst ey19
      have hs3 : rmD v k (i + 1) * 2147483648 + lbN v i < 2 ^ 63 := by omega
      have hne : ¬ lN k = 0 := fun q => absurd ((pk_lEQ (b := 0) (by omega) (by decide)).mp q) (by omega)
      refine lv_lstore (lv' := [(5, .long (lN (rmD v k (i + 1) * 2147483648 + lbN v i))), (4, .int (nI i)), (2, .long (lN (rmD v k (i + 1)))), (0, .ref (o)), (1, .int (nI k))]) hx hb dX1_divide_36 hl (by decide) rfl (fun ls hl => ?_)
      refine lv_aload_n hx hb dX1_divide_38 rfl (lv_at hl 3 rfl) ?_
      refine va_get (D := D) (ci := 1) (v := .ref (a)) (C := RX1) (T := TX1) (N := 2) hx hb hts hi1 hown hK hP 0 rfl rfl 0 (by decide) (hts (.fieldLink RX1 9 "BigLedger$Natural" "limbs" "[I") (by decide +kernel)) (fun _ h9 => h9) rfl dX1_divide_39 ?_
      refine lv_iload hx hb dX1_divide_42 (lv_at hl 1 rfl) ?_
      refine lv_lload hx hb dX1_divide_44 (lv_at hl 0 rfl) ?_
      refine lv_iload_n hx hb dX1_divide_46 rfl (lv_at hl 4 rfl) ?_
      refine lv_i2l (v := lN k) hx hb dX1_divide_47 (nI_l (by omega)) ?_
      refine lv_ldiv hx hb dX1_divide_48 (hne) ?_
      refine lv_topl (fun y20 ey20 => ?_)
      replace ey20 : y20 = lN (lbN (v / k) i) := ey20.trans ((pk_lDiv hs3 hk1 (by omega)).trans (congrArg lN (div_limb v i hk1)))
      subst ey20
      refine lv_l2i (v := lb (v / k) i) hx hb dX1_divide_49 (lN_i _) ?_
      refine va_iast hx hb hK hP hD hS 1 0 rfl rfl (vp_in_nI (by omega) (by omega)) dX1_divide_50 (fun H locs hP hD hS => ?_)
      have hP : va_P D vwCl [(o, .inr (1, [.ref (a), .int (nI (szF v w))])), (a, .inl (cI, w, .inl (upd (fd (lb (v / k)) (lb v) (i + 1)) (nI i).toNatClampNeg (lb (v / k) i))))] H := hP
      have hD : va_D (nAd o a) [(o, .inr (1, [.ref (a), .int (nI (szF v w))])), (a, .inl (cI, w, .inl (upd (fd (lb (v / k)) (lb v) (i + 1)) (nI i).toNatClampNeg (lb (v / k) i))))] := hD
      rw [show upd (fd (lb (v / k)) (lb v) (i + 1)) (nI i).toNatClampNeg (lb (v / k) i) = fd (lb (v / k)) (lb v) i from by rw [nI_clamp (by omega)]; exact fd_s rfl] at hP hD
      refine lv_lload hx hb dX1_divide_51 (lv_at hl 0 rfl) ?_
      refine lv_iload_n hx hb dX1_divide_53 rfl (lv_at hl 4 rfl) ?_
      refine lv_i2l (v := lN k) hx hb dX1_divide_54 (nI_l (by omega)) ?_
      refine lv_lrem hx hb dX1_divide_55 (hne) ?_
      refine lv_topl (fun y21 ey21 => ?_)
      replace ey21 : y21 = lN (rmD v k i) := ey21.trans ((pk_lRem hs3 hk1 (by omega)).trans (congrArg lN (div_rem v k i)))
      subst ey21
      refine lv_lstore_n (lv' := [(2, .long (lN (rmD v k i))), (5, .long (lN (rmD v k (i + 1) * 2147483648 + lbN v i))), (4, .int (nI i)), (0, .ref (o)), (1, .int (nI k))]) hx hb dX1_divide_56 rfl hl (by decide) rfl (fun ls hl => ?_)
      refine lv_iinc (v := nI i - 1) (lv' := [(4, .int (nI i - 1)), (2, .long (lN (rmD v k i))), (5, .long (lN (rmD v k (i + 1) * 2147483648 + lbN v i))), (0, .ref (o)), (1, .int (nI k))]) hx hb dX1_divide_57 hl (k := 2) rfl (i_m1 _) (by decide) rfl (fun ls hl => ?_)
      refine lv_goto (tgt := 18) hx hb dX1_divide_60 (by decide) ?_
      exact ih H locs ls (by omega) hP hD hS (lv_sub hl [0, 1, 3, 4] rfl)
  refine lv_iload_n hx hb dX1_divide_0 rfl (lv_at hl 1 rfl) ?_
  refine lv_iconst (v := 1) hx hb dX1_divide_1 (by decide) ?_
  refine lv_icmp_ge (tgt := 7) hx hb dX1_divide_2 (by decide) (fun _ => ?_) (fun c9 => absurd ((nI_leI (a := 1) (by omega) (by omega)).mpr (by omega)) c9)
  refine lv_lconst (v := 0) hx hb dX1_divide_7 (by decide) ?_
  refine lv_lstore_n (lv' := [(2, .long ((0 : Int64))), (0, .ref (o)), (1, .int (nI k))]) hx hb dX1_divide_8 rfl hl (by decide) rfl (fun ls hl => ?_)
  refine lv_aload_n hx hb dX1_divide_9 rfl (lv_at hl 1 rfl) ?_
  refine va_get (D := D) (ci := 1) (v := .ref (a)) (C := RX1) (T := TX1) (N := 2) hx hb hts hi1 hown hK hP 0 rfl rfl 0 (by decide) (hts (.fieldLink RX1 9 "BigLedger$Natural" "limbs" "[I") (by decide +kernel)) (fun _ h9 => h9) rfl dX1_divide_10 ?_
  refine va_alen (v := nI (w)) hx hb hK hP 1 0 rfl rfl (rfl) dX1_divide_13 ?_
  refine lv_iconst (v := 1) hx hb dX1_divide_14 (by decide) ?_
  refine lv_isub hx hb dX1_divide_15 ?_
  refine lv_istore (lv' := [(4, .int ((nI (w)) - (1 : Int32))), (2, .long ((0 : Int64))), (0, .ref (o)), (1, .int (nI k))]) hx hb dX1_divide_16 hl (by decide) rfl (fun ls hl => ?_)
  have e1 : va_P D vwCl [(o, .inr (1, [.ref (a), .int (nI (szF v w))])), (a, .inl (cI, w, .inl (fd (lb (v / k)) (lb v) w)))] s.heap := vp_cons (hP 0 _ rfl) (vp_cons (at_congr (hP 1 _ rfl) (fun k hk => (fd_lo hk).symm)) vp_nil)
  exact loop w s.heap [] ls (Nat.le_refl w) e1 (vd_two (Or.inl rfl) (Or.inr rfl) hoa) hS (by rw [rmD_top hv0]; exact (lv_sub hl [0, 1, 2, 3] rfl))
set_option maxHeartbeats 4000000 in
set_option maxRecDepth 100000 in
theorem c_standingTo (l : Launch) (D : va_G) (cI : ClassId) (w o a v : Nat) (oo oa u : Nat) (hw : w ≤ 64) (hv0 : v < 2147483648 ^ w) (hu0 : u < 2147483648 ^ w) : Met l yX1_standingTo wsX1_standingTo ({ frames := 1, cells := 0, slots := 0, locals := 21 }) (nPc [.ref o, .ref oo] D (nW cI w o a v ++ nW cI w oo oa u) [(cI, .int)]) (vp_Si (fun r => r = if v < u then -1 else if v = u then 0 else 1)) 0 0 (fun _ => False) := by
  refine Met.ofW (cc := cX1_standingTo) (maxL := 4) (ret := (some .int)) (by decide) rfl ?_
  intro p e s m args below meth c s₁ B hml hv
  obtain ⟨rfl, hP0, hK⟩ := hv
  have hx := B.exec
  have hb := B.bytes
  have hr := B.returns
  have hts := atoms_spec (ws := wsX1_standingTo) B.pre
  have hown : s.vm.findClass RX1 = some m.cls := findClass_of_methodNamed B.named
  have hlocks := B.notSynchronized
  have hi1 : ∀ w ∈ wsX10, w ∈ wsX1_standingTo := by decide +kernel
  generalize hH : s.heap = H at hP0 ⊢
  have hP : va_P D vwCl (nW cI w o a v) H := hP0.sub [0, 1] rfl
  have hR : va_P D vwCl (nW cI w oo oa u) H := hP0.sub [2, 3] rfl
  have hl := lv_entry ([.ref (o), .ref (oo)]) (n := 4) (Nat.le_of_ble_eq_true rfl)
  rw [lg_entry_eq]
  generalize (lg_sl ([.ref (o), .ref (oo)]) ++ List.replicate (4 - (lg_sl ([.ref (o), .ref (oo)])).length) Slot.unset).toArray = ls at hl ⊢
  have hl : lv_has ls 4 [(0, .ref (o)), (1, .ref (oo))] := hl
  have loop : ∀ (i : Nat) (ls : Array Slot), i ≤ w → v / 2147483648 ^ i = u / 2147483648 ^ i → lv_has ls 4 [(2, .int (nI i - 1)), (0, .ref (o)), (1, .ref (oo))] → W p l e (headSpec wsX1_standingTo ({ frames := 1, cells := 0, slots := 0, locals := 21 })).room s m ([.ref (o), .ref (oo)]).toArray below meth c H [] 0 0 (MQ below (vp_Si (fun r => r = if v < u then -1 else if v = u then 0 else 1)) ([.ref (o), .ref (oo)]).toArray s 0 0 (fun _ => False)) (F0 m 8 ls []) := by
    intro i
    induction i with
    | zero =>
      intro ls hiw heq hl
      refine lv_iload_n hx hb dX1_standingTo_8 rfl (lv_at hl 0 rfl) ?_
      refine lv_if_lt (tgt := 39) hx hb dX1_standingTo_9 (by decide) (fun _ => ?_) (fun c9 => absurd (by decide) c9)
      refine lv_iconst (v := 0) hx hb dX1_standingTo_39 (by decide) ?_
      exact W.iret (v := 0) hx hb hr (fun t ht hW => ⟨_, rfl, by rw [cmp_0 heq, if_neg (Nat.lt_irrefl u), if_pos rfl], ht.trans hH.symm⟩) (fun _ h => by cases h) dX1_standingTo_40
    | succ i ih =>
      intro ls hiw heq hl
      rw [nI_pred] at hl
      refine lv_iload_n hx hb dX1_standingTo_8 rfl (lv_at hl 0 rfl) ?_
      refine lv_if_lt (tgt := 39) hx hb dX1_standingTo_9 (by decide) (fun c9 => absurd c9 (nI_pos (by omega))) (fun _ => ?_)
      refine lv_aload_n hx hb dX1_standingTo_12 rfl (lv_at hl 1 rfl) ?_
      refine va_get (D := D) (ci := 1) (v := .ref (a)) (C := RX1) (T := TX1) (N := 2) hx hb hts hi1 hown hK hP 0 rfl rfl 0 (by decide) (hts (.fieldLink RX1 9 "BigLedger$Natural" "limbs" "[I") (by decide +kernel)) (fun _ h9 => h9) rfl dX1_standingTo_13 ?_
      refine lv_iload_n hx hb dX1_standingTo_16 rfl (lv_at hl 0 rfl) ?_
      refine va_iald hx hb hK hP 1 0 rfl rfl (vp_in_nI (by omega) (by omega)) dX1_standingTo_17 ?_
      refine lv_topi (fun y22 ey22 => ?_)
      replace ey22 : y22 = lb v i := ey22.trans (lb_clamp (by omega))
      subst ey22
      refine lv_aload_n hx hb dX1_standingTo_18 rfl (lv_at hl 2 rfl) ?_
      refine lv_iload_n hx hb dX1_standingTo_19 rfl (lv_at hl 0 rfl) ?_
      refine vp_callSi (W.runV (As := [.int (nI i)]) (rest := [.int (lb v i)]) ⟨hx, hb, hml, hown, hts⟩ (c_limbAt l D cI w oo oa u (nI i) hw hu0) (cwV 1 hts gX1_standingTo_X1_limbAt rfl rfl rfl (by decide +kernel) ⟨Nat.le_of_ble_eq_true rfl, Nat.le_of_ble_eq_true rfl⟩) ⟨nPc_blind, va_recv hK hR (ci := 1) (q0 := 0) rfl rfl, nPc_use (hR) hK⟩ rfl rfl hl.1 rfl (lv_room (Nat.le_of_ble_eq_true rfl)) dX1_standingTo_20 ⟨Nat.le_of_ble_eq_true rfl, Nat.le_of_ble_eq_true rfl⟩) (fun rr23 hrr23 => ?_)
      replace hrr23 : rr23 = lb u i := hrr23.trans (if_nI (by omega))
      subst hrr23
      have hlv := lbN_lt' v i
      have hlu := lbN_lt' u i
      refine vp_callSi (W.runS (As := [.int (lb v i), .int (lb u i)]) (rest := []) ⟨hx, hb, hml, hown, hts⟩ (c_cmp l (lb v i) (lb u i)) (va_cwS 2 hts gX1_standingTo_J6_compare_7cf53 rfl rfl rfl (by decide +kernel) ⟨Nat.le_of_ble_eq_true rfl, Nat.le_of_ble_eq_true rfl⟩) preEq rfl rfl hl.1 rfl (lv_room (Nat.le_of_ble_eq_true rfl)) dX1_standingTo_23 ⟨Nat.le_of_ble_eq_true rfl, Nat.le_of_ble_eq_true rfl⟩) (fun rc hrc => ?_)
      have e1 : lb v i < lb u i ↔ lbN v i < lbN u i := nI_ltI hlv hlu
      have e2 : lb v i = lb u i ↔ lbN v i = lbN u i := nI_eq hlv hlu
      refine lv_istore_n (lv' := [(3, .int (rc)), (2, .int (nI i)), (0, .ref (o)), (1, .ref (oo))]) hx hb dX1_standingTo_26 rfl hl (by decide) rfl (fun ls hl => ?_)
      refine lv_iload_n hx hb dX1_standingTo_27 rfl (lv_at hl 0 rfl) ?_
      refine lv_if_eq (tgt := 33) hx hb dX1_standingTo_28 (by decide) (fun c1 => ?_) (fun c1 => ?_)
      · have hq : lbN v i = lbN u i := by
          rw [hrc] at c1
          by_cases h1 : lb v i < lb u i
          · rw [if_pos h1] at c1; exact absurd c1 (by decide)
          · rw [if_neg h1] at c1
            by_cases h2 : lb v i = lb u i
            · exact e2.mp h2
            · rw [if_neg h2] at c1; exact absurd c1 (by decide)
        refine lv_iinc (v := nI i - 1) (lv' := [(2, .int (nI i - 1)), (3, .int (rc)), (0, .ref (o)), (1, .ref (oo))]) hx hb dX1_standingTo_33 hl (k := 1) rfl (i_m1 _) (by decide) rfl (fun ls hl => ?_)
        refine lv_goto (tgt := 8) hx hb dX1_standingTo_36 (by decide) ?_
        exact ih ls (by omega) (cmp_eq heq hq) (lv_sub hl [0, 2, 3] rfl)
      · refine lv_iload_n hx hb dX1_standingTo_31 rfl (lv_at hl 0 rfl) ?_
        exact W.iret (v := rc) hx hb hr (fun t ht hW => ⟨_, rfl, by
          rw [hrc] at c1 ⊢
          by_cases h1 : lb v i < lb u i
          · rw [if_pos h1, if_pos (cmp_lt heq (e1.mp h1))]
          · rw [if_neg h1] at c1 ⊢
            by_cases h2 : lb v i = lb u i
            · rw [if_pos h2] at c1; exact absurd rfl c1
            · have h3 : u < v := cmp_lt heq.symm (by
                have h4 : ¬ lbN v i < lbN u i := fun q => h1 (e1.mpr q)
                have h5 : ¬ lbN v i = lbN u i := fun q => h2 (e2.mpr q)
                omega)
              rw [if_neg h2, if_neg (by omega), if_neg (by omega)], ht.trans hH.symm⟩) (fun _ h => by cases h) dX1_standingTo_32
  refine lv_aload_n hx hb dX1_standingTo_0 rfl (lv_at hl 0 rfl) ?_
  refine va_get (D := D) (ci := 1) (v := .ref (a)) (C := RX1) (T := TX1) (N := 2) hx hb hts hi1 hown hK hP 0 rfl rfl 0 (by decide) (hts (.fieldLink RX1 9 "BigLedger$Natural" "limbs" "[I") (by decide +kernel)) (fun _ h9 => h9) rfl dX1_standingTo_1 ?_
  refine va_alen (v := nI (w)) hx hb hK hP 1 0 rfl rfl (rfl) dX1_standingTo_4 ?_
  refine lv_iconst (v := 1) hx hb dX1_standingTo_5 (by decide) ?_
  refine lv_isub hx hb dX1_standingTo_6 ?_
  refine lv_istore_n (lv' := [(2, .int ((nI (w)) - (1 : Int32))), (0, .ref (o)), (1, .ref (oo))]) hx hb dX1_standingTo_7 rfl hl (by decide) rfl (fun ls hl => ?_)
  exact loop w ls (Nat.le_refl w) (cmp_top hv0 hu0) hl

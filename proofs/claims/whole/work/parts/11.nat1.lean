set_option maxHeartbeats 4000000 in
set_option maxRecDepth 100000 in
theorem c_cmp (l : Launch) (x y : Int32) : Met l yJ6_compare_7cf53 wsJ6_compare_7cf53 ({ frames := 0, cells := 0, slots := 0, locals := 0 }) (fun v _ => v = ([.int x, .int y] : List Value).toArray) (vp_Si (fun r => r = if x < y then -1 else if x = y then 0 else 1)) 0 0 (fun _ => False) := by
  refine Met.ofW (cc := cJ6_compare_7cf53) (maxL := 2) (ret := (some .int)) (by decide) rfl ?_
  intro p e s m args below meth c s₁ B hml hv
  subst hv
  have hx := B.exec
  have hb := B.bytes
  have hr := B.returns
  have hts := atoms_spec (ws := wsJ6_compare_7cf53) B.pre
  have hown : s.vm.findClass RJ6 = some m.cls := findClass_of_methodNamed B.named
  have hlocks := B.notSynchronized
  generalize hH : s.heap = H
  have hl := lv_entry ([.int (x), .int (y)]) (n := 2) (Nat.le_of_ble_eq_true rfl)
  rw [lg_entry_eq]
  generalize (lg_sl ([.int (x), .int (y)]) ++ List.replicate (2 - (lg_sl ([.int (x), .int (y)])).length) Slot.unset).toArray = ls at hl ⊢
  have hl : lv_has ls 2 [(0, .int (x)), (1, .int (y))] := hl
  refine lv_iload_n hx hb dJ6_compare_7cf53_0 rfl (lv_at hl 0 rfl) ?_
  refine lv_iload_n hx hb dJ6_compare_7cf53_1 rfl (lv_at hl 1 rfl) ?_
  refine lv_icmp_ge (tgt := 9) hx hb dJ6_compare_7cf53_2 (by decide) (fun c1 => ?_) (fun c1 => ?_)
  · refine lv_iload_n hx hb dJ6_compare_7cf53_9 rfl (lv_at hl 0 rfl) ?_
    refine lv_iload_n hx hb dJ6_compare_7cf53_10 rfl (lv_at hl 1 rfl) ?_
    refine lv_icmp_ne (tgt := 18) hx hb dJ6_compare_7cf53_11 (by decide) (fun c2 => ?_) (fun c2 => ?_)
    · refine lv_iconst (v := 1) hx hb dJ6_compare_7cf53_18 (by decide) ?_
      exact W.iret (v := 1) hx hb hr (fun t ht hW => ⟨1, rfl, by rw [if_neg (fun q => (fa_of_lt q).2.1 c1), if_neg c2], ht.trans hH.symm⟩) (fun _ h => by cases h) dJ6_compare_7cf53_19
    · refine lv_iconst (v := 0) hx hb dJ6_compare_7cf53_14 (by decide) ?_
      refine lv_goto (tgt := 19) hx hb dJ6_compare_7cf53_15 (by decide) ?_
      exact W.iret (v := 0) hx hb hr (fun t ht hW => ⟨0, rfl, by rw [if_neg (fun q => (fa_of_lt q).2.1 c1), if_pos c2], ht.trans hH.symm⟩) (fun _ h => by cases h) dJ6_compare_7cf53_19
  · refine lv_iconst (v := (-1)) hx hb dJ6_compare_7cf53_5 (by decide) ?_
    refine lv_goto (tgt := 19) hx hb dJ6_compare_7cf53_6 (by decide) ?_
    exact W.iret (v := -1) hx hb hr (fun t ht hW => ⟨-1, rfl, by rw [if_pos (fa_of_nle c1)], ht.trans hH.symm⟩) (fun _ h => by cases h) dJ6_compare_7cf53_19
set_option maxHeartbeats 4000000 in
set_option maxRecDepth 100000 in
theorem c_setZero (l : Launch) (D : va_G) (cI : ClassId) (w o a v : Nat) (hw : w ≤ 64) (hoa : o ≠ a) : Met l yX1_setZero wsX1_setZero ({ frames := 0, cells := 0, slots := 0, locals := 0 }) (nPc [.ref o] D (nW cI w o a v) [(cI, .int)]) (va_Qv (fun _ : Unit => True) (fun _ t => va_P D vwCl (nW cI w o a (0)) t.heap) (nAd o a)) 0 0 (nAd o a) := by
  refine Met.ofW (cc := cX1_setZero) (maxL := 2) (ret := none) (by decide) rfl ?_
  intro p e s m args below meth c s₁ B hml hv
  obtain ⟨rfl, hP0, hK⟩ := hv
  have hx := B.exec
  have hb := B.bytes
  have hr := B.returns
  have hts := atoms_spec (ws := wsX1_setZero) B.pre
  have hown : s.vm.findClass RX1 = some m.cls := findClass_of_methodNamed B.named
  have hlocks := B.notSynchronized
  have hi1 : ∀ w ∈ wsX10, w ∈ wsX1_setZero := by decide +kernel
  have hP : va_P D vwCl (nW cI w o a v) s.heap := hP0.sub [0, 1] rfl
  have hD : va_D (nAd o a) (nW cI w o a v) := vd_two (Or.inl rfl) (Or.inr rfl) hoa
  have hS : va_S (nAd o a) s.heap s.heap [] := va_S.rf
  have hl := lv_entry ([.ref (o)]) (n := 2) (Nat.le_of_ble_eq_true rfl)
  rw [lg_entry_eq]
  generalize (lg_sl ([.ref (o)]) ++ List.replicate (2 - (lg_sl ([.ref (o)])).length) Slot.unset).toArray = ls at hl ⊢
  have hl : lv_has ls 2 [(0, .ref (o))] := hl
  refine lv_iconst (v := 0) hx hb dX1_setZero_0 (by decide) ?_
  refine lv_istore_n (lv' := [(1, .int ((0 : Int32))), (0, .ref (o))]) hx hb dX1_setZero_1 rfl hl (by decide) rfl (fun ls hl => ?_)
  have loop : ∀ (n i : Nat) (H : Heap) (locs : List Loc) (ls : Array Slot), i + n = w → va_P D vwCl [(o, .inr (1, [.ref (a), .int (nI (szF v w))])), (a, .inl (cI, w, .inl (fl (lb 0) (lb v) i)))] H → va_D (nAd o a) [(o, .inr (1, [.ref (a), .int (nI (szF v w))])), (a, .inl (cI, w, .inl (fl (lb 0) (lb v) i)))] → va_S (nAd o a) s.heap H locs → lv_has ls 2 [(1, .int (nI i)), (0, .ref (o))] → W p l e (headSpec wsX1_setZero ({ frames := 0, cells := 0, slots := 0, locals := 0 })).room s m ([.ref (o)]).toArray below meth c H locs 0 0 (MQ below (va_Qv (fun _ : Unit => True) (fun _ t => va_P D vwCl (nW cI w o a (0)) t.heap) (nAd o a)) ([.ref (o)]).toArray s 0 0 (nAd o a)) (F0 m 2 ls []) := by
    intro n
    induction n with
    | zero =>
      intro i H locs ls hin hP hD hS hl
      have hiw : i = w := by omega
      refine lv_iload_n hx hb dX1_setZero_2 rfl (lv_at hl 0 rfl) ?_
      refine lv_aload_n hx hb dX1_setZero_3 rfl (lv_at hl 1 rfl) ?_
      refine va_get (D := D) (ci := 1) (v := .ref (a)) (C := RX1) (T := TX1) (N := 2) hx hb hts hi1 hown hK hP 0 rfl rfl 0 (by decide) (hts (.fieldLink RX1 9 "BigLedger$Natural" "limbs" "[I") (by decide +kernel)) (fun _ h9 => h9) rfl dX1_setZero_4 ?_
      refine va_alen (v := nI (w)) hx hb hK hP 1 0 rfl rfl (rfl) dX1_setZero_7 ?_
      refine lv_icmp_ge (tgt := 24) hx hb dX1_setZero_8 (by decide) (fun _ => ?_) (fun c9 => absurd (nI_le (by omega) (by omega)) c9)
      refine lv_aload_n hx hb dX1_setZero_24 rfl (lv_at hl 1 rfl) ?_
      refine lv_iconst (v := 0) hx hb dX1_setZero_25 (by decide) ?_
      refine va_put (D := D) (ci := 1) (v := .int ((0 : Int32))) (ty := .int) (C := RX1) (T := TX1) (N := 2) hx hb hts hi1 tyX1 tyX1_ok nmX1 hown hK hP hD hS 0 rfl rfl 1 (by decide) (hts (.fieldLink RX1 15 "BigLedger$Natural" "size" "I") (by decide +kernel)) (fun _ h9 => h9) rfl (by decide +kernel) (rfl) (rfl) (Nat.le_of_ble_eq_true rfl) dX1_setZero_26 (fun H locs hP hD hS => ?_)
      have hP : va_P D vwCl [(o, .inr (1, [.ref (a), .int ((0 : Int32))])), (a, .inl (cI, w, .inl (fl (lb 0) (lb v) i)))] H := hP
      have hD : va_D (nAd o a) [(o, .inr (1, [.ref (a), .int ((0 : Int32))])), (a, .inl (cI, w, .inl (fl (lb 0) (lb v) i)))] := hD
      have hP9 : va_P D vwCl (nW cI w o a 0) H := vp_cons (by rw [szF_zero, nI_0]; exact hP 0 _ rfl) (vp_cons (at_congr (hP 1 _ rfl) (fun k hk => fl_lo (by omega))) vp_nil)
      exact W.vret hx hb hr (fun t ht hW => ⟨⟨(), rfl, trivial, hp_at ht hP9⟩, hS.F ht⟩) hS.2.2 dX1_setZero_29
    | succ n ih =>
      intro i H locs ls hin hP hD hS hl
      have hiw : i < w := by omega
      refine lv_iload_n hx hb dX1_setZero_2 rfl (lv_at hl 0 rfl) ?_
      refine lv_aload_n hx hb dX1_setZero_3 rfl (lv_at hl 1 rfl) ?_
      refine va_get (D := D) (ci := 1) (v := .ref (a)) (C := RX1) (T := TX1) (N := 2) hx hb hts hi1 hown hK hP 0 rfl rfl 0 (by decide) (hts (.fieldLink RX1 9 "BigLedger$Natural" "limbs" "[I") (by decide +kernel)) (fun _ h9 => h9) rfl dX1_setZero_4 ?_
      refine va_alen (v := nI (w)) hx hb hK hP 1 0 rfl rfl (rfl) dX1_setZero_7 ?_
      refine lv_icmp_ge (tgt := 24) hx hb dX1_setZero_8 (by decide) (fun c9 => absurd c9 (nI_ge hiw (by omega))) (fun _ => ?_)
      refine lv_aload_n hx hb dX1_setZero_11 rfl (lv_at hl 1 rfl) ?_
      refine va_get (D := D) (ci := 1) (v := .ref (a)) (C := RX1) (T := TX1) (N := 2) hx hb hts hi1 hown hK hP 0 rfl rfl 0 (by decide) (hts (.fieldLink RX1 9 "BigLedger$Natural" "limbs" "[I") (by decide +kernel)) (fun _ h9 => h9) rfl dX1_setZero_12 ?_
      refine lv_iload_n hx hb dX1_setZero_15 rfl (lv_at hl 0 rfl) ?_
      refine lv_iconst (v := 0) hx hb dX1_setZero_16 (by decide) ?_
      refine va_iast hx hb hK hP hD hS 1 0 rfl rfl (vp_in_nI (by omega) (by omega)) dX1_setZero_17 (fun H locs hP hD hS => ?_)
      have hP : va_P D vwCl [(o, .inr (1, [.ref (a), .int (nI (szF v w))])), (a, .inl (cI, w, .inl (upd (fl (lb 0) (lb v) i) (nI i).toNatClampNeg ((0 : Int32)))))] H := hP
      have hD : va_D (nAd o a) [(o, .inr (1, [.ref (a), .int (nI (szF v w))])), (a, .inl (cI, w, .inl (upd (fl (lb 0) (lb v) i) (nI i).toNatClampNeg ((0 : Int32)))))] := hD
      rw [show upd (fl (lb 0) (lb v) i) (nI i).toNatClampNeg ((0 : Int32)) = fl (lb 0) (lb v) (i + 1) from by rw [nI_clamp (by omega)]; exact fl_s (by show (0 : Int32) = nI (lbN 0 i); rw [lbN_of_zero, nI_0])] at hP hD
      refine lv_iinc (v := nI (i + 1)) (lv' := [(1, .int (nI (i + 1))), (0, .ref (o))]) hx hb dX1_setZero_18 hl (k := 0) rfl (nI_1 i) (by decide) rfl (fun ls hl => ?_)
      refine lv_goto (tgt := 2) hx hb dX1_setZero_21 (by decide) ?_
      exact ih (i + 1) H locs ls (by omega) hP hD hS hl
  exact loop w 0 s.heap [] ls (by omega) (by rw [fl_0]; exact hP) (by rw [fl_0]; exact hD) hS hl
set_option maxHeartbeats 4000000 in
set_option maxRecDepth 100000 in
theorem c_setTo (l : Launch) (D : va_G) (cI : ClassId) (w o a v : Nat)(hw : w ≤ 64) (hoa : o ≠ a) (hv0 : v < 2147483648 ^ w)(oo oa u : Nat) (hn1 : ¬ nAd o a oo) (hn2 : ¬ nAd o a oa) (hu0 : u < 2147483648 ^ w) : Met l yX1_setTo wsX1_setTo ({ frames := 1, cells := 0, slots := 0, locals := 21 }) (nPc [.ref o, .ref oo] D (nW cI w o a v ++ nW cI w oo oa u) [(cI, .int)]) (va_Qv (fun _ : Unit => True) (fun _ t => va_P D vwCl (nW cI w o a (u)) t.heap) (nAd o a)) 0 0 (nAd o a) := by
  refine Met.ofW (cc := cX1_setTo) (maxL := 3) (ret := none) (by decide) rfl ?_
  intro p e s m args below meth c s₁ B hml hv
  obtain ⟨rfl, hP0, hK⟩ := hv
  have hx := B.exec
  have hb := B.bytes
  have hr := B.returns
  have hts := atoms_spec (ws := wsX1_setTo) B.pre
  have hown : s.vm.findClass RX1 = some m.cls := findClass_of_methodNamed B.named
  have hlocks := B.notSynchronized
  have hi1 : ∀ w ∈ wsX10, w ∈ wsX1_setTo := by decide +kernel
  have hP : va_P D vwCl (nW cI w o a v) s.heap := hP0.sub [0, 1] rfl
  have hR0 : va_P D vwCl (nW cI w oo oa u) s.heap := hP0.sub [2, 3] rfl
  have hro : ∀ q ∈ nW cI w oo oa u, ¬ nAd o a q.1 := ro2 hn1 hn2
  have hD : va_D (nAd o a) (nW cI w o a v) := vd_two (Or.inl rfl) (Or.inr rfl) hoa
  have hS : va_S (nAd o a) s.heap s.heap [] := va_S.rf
  have hl := lv_entry ([.ref (o), .ref (oo)]) (n := 3) (Nat.le_of_ble_eq_true rfl)
  rw [lg_entry_eq]
  generalize (lg_sl ([.ref (o), .ref (oo)]) ++ List.replicate (3 - (lg_sl ([.ref (o), .ref (oo)])).length) Slot.unset).toArray = ls at hl ⊢
  have hl : lv_has ls 3 [(0, .ref (o)), (1, .ref (oo))] := hl
  refine lv_iconst (v := 0) hx hb dX1_setTo_0 (by decide) ?_
  refine lv_istore_n (lv' := [(2, .int ((0 : Int32))), (0, .ref (o)), (1, .ref (oo))]) hx hb dX1_setTo_1 rfl hl (by decide) rfl (fun ls hl => ?_)
  have loop : ∀ (n i : Nat) (H : Heap) (locs : List Loc) (ls : Array Slot), i + n = w → va_P D vwCl [(o, .inr (1, [.ref (a), .int (nI (szF v w))])), (a, .inl (cI, w, .inl (fl (lb u) (lb v) i)))] H → va_D (nAd o a) [(o, .inr (1, [.ref (a), .int (nI (szF v w))])), (a, .inl (cI, w, .inl (fl (lb u) (lb v) i)))] → va_S (nAd o a) s.heap H locs → lv_has ls 3 [(2, .int (nI i)), (0, .ref (o)), (1, .ref (oo))] → W p l e (headSpec wsX1_setTo ({ frames := 1, cells := 0, slots := 0, locals := 21 })).room s m ([.ref (o), .ref (oo)]).toArray below meth c H locs 0 0 (MQ below (va_Qv (fun _ : Unit => True) (fun _ t => va_P D vwCl (nW cI w o a (u)) t.heap) (nAd o a)) ([.ref (o), .ref (oo)]).toArray s 0 0 (nAd o a)) (F0 m 2 ls []) := by
    intro n
    induction n with
    | zero =>
      intro i H locs ls hin hP hD hS hl
      have hiw : i = w := by omega
      refine lv_iload_n hx hb dX1_setTo_2 rfl (lv_at hl 0 rfl) ?_
      refine lv_aload_n hx hb dX1_setTo_3 rfl (lv_at hl 1 rfl) ?_
      refine va_get (D := D) (ci := 1) (v := .ref (a)) (C := RX1) (T := TX1) (N := 2) hx hb hts hi1 hown hK hP 0 rfl rfl 0 (by decide) (hts (.fieldLink RX1 9 "BigLedger$Natural" "limbs" "[I") (by decide +kernel)) (fun _ h9 => h9) rfl dX1_setTo_4 ?_
      refine va_alen (v := nI (w)) hx hb hK hP 1 0 rfl rfl (rfl) dX1_setTo_7 ?_
      refine lv_icmp_ge (tgt := 28) hx hb dX1_setTo_8 (by decide) (fun _ => ?_) (fun c9 => absurd (nI_le (by omega) (by omega)) c9)
      refine lv_aload_n hx hb dX1_setTo_28 rfl (lv_at hl 1 rfl) ?_
      refine va_callv (va_runV (As := []) (rest := []) ⟨hx, hb, hml, hown, hts⟩ (c_measure l D cI w o a (u) (nI (szF v w)) (fl (lb u) (lb v) i) hw hoa (fun k hk => fl_lo (by omega))) (cwV 0 hts gX1_setTo_X1_measure rfl rfl rfl (by decide +kernel) ⟨Nat.le_of_ble_eq_true rfl, Nat.le_of_ble_eq_true rfl⟩) ⟨nPc_blind, va_recv hK hP (ci := 1) (q0 := 0) rfl rfl, nPc_use (hP) hK⟩ rfl rfl hl.1 rfl (lv_room (Nat.le_of_ble_eq_true rfl)) dX1_setTo_29 ⟨Nat.le_of_ble_eq_true rfl, Nat.le_of_ble_eq_true rfl⟩) hS (fun q _ h => (fun _ h => h) q h) (fun _ h => h) (fun _u t H1 locs ht hvm hw hB hz1 hk9 hS => ?_)
      have hP9 : va_P D vwCl (nW cI w o a (u)) H1 := pB_at ht hB
      exact W.vret hx hb hr (fun t ht hW => ⟨⟨(), rfl, trivial, hp_at ht hP9⟩, hS.F ht⟩) hS.2.2 dX1_setTo_32
    | succ n ih =>
      intro i H locs ls hin hP hD hS hl
      have hiw : i < w := by omega
      have hR : va_P D vwCl (nW cI w oo oa u) H := ro_keep hS hR0 hro
      refine lv_iload_n hx hb dX1_setTo_2 rfl (lv_at hl 0 rfl) ?_
      refine lv_aload_n hx hb dX1_setTo_3 rfl (lv_at hl 1 rfl) ?_
      refine va_get (D := D) (ci := 1) (v := .ref (a)) (C := RX1) (T := TX1) (N := 2) hx hb hts hi1 hown hK hP 0 rfl rfl 0 (by decide) (hts (.fieldLink RX1 9 "BigLedger$Natural" "limbs" "[I") (by decide +kernel)) (fun _ h9 => h9) rfl dX1_setTo_4 ?_
      refine va_alen (v := nI (w)) hx hb hK hP 1 0 rfl rfl (rfl) dX1_setTo_7 ?_
      refine lv_icmp_ge (tgt := 28) hx hb dX1_setTo_8 (by decide) (fun c9 => absurd c9 (nI_ge hiw (by omega))) (fun _ => ?_)
      refine lv_aload_n hx hb dX1_setTo_11 rfl (lv_at hl 1 rfl) ?_
      refine va_get (D := D) (ci := 1) (v := .ref (a)) (C := RX1) (T := TX1) (N := 2) hx hb hts hi1 hown hK hP 0 rfl rfl 0 (by decide) (hts (.fieldLink RX1 9 "BigLedger$Natural" "limbs" "[I") (by decide +kernel)) (fun _ h9 => h9) rfl dX1_setTo_12 ?_
      refine lv_iload_n hx hb dX1_setTo_15 rfl (lv_at hl 0 rfl) ?_
      refine lv_aload_n hx hb dX1_setTo_16 rfl (lv_at hl 2 rfl) ?_
      refine lv_iload_n hx hb dX1_setTo_17 rfl (lv_at hl 0 rfl) ?_
      refine vp_callSi (W.runV (As := [.int (nI i)]) (rest := [.int (nI i), .ref (a)]) ⟨hx, hb, hml, hown, hts⟩ (c_limbAt l D cI w oo oa u (nI i) hw hu0) (cwV 1 hts gX1_setTo_X1_limbAt rfl rfl rfl (by decide +kernel) ⟨Nat.le_of_ble_eq_true rfl, Nat.le_of_ble_eq_true rfl⟩) ⟨nPc_blind, va_recv hK hR (ci := 1) (q0 := 0) rfl rfl, nPc_use (hR) hK⟩ rfl rfl hl.1 rfl (lv_room (Nat.le_of_ble_eq_true rfl)) dX1_setTo_18 ⟨Nat.le_of_ble_eq_true rfl, Nat.le_of_ble_eq_true rfl⟩) (fun rr1 hrr1 => ?_)
      replace hrr1 : rr1 = lb u i := hrr1.trans (if_nI (by omega))
      subst hrr1
      refine va_iast hx hb hK hP hD hS 1 0 rfl rfl (vp_in_nI (by omega) (by omega)) dX1_setTo_21 (fun H locs hP hD hS => ?_)
      have hP : va_P D vwCl [(o, .inr (1, [.ref (a), .int (nI (szF v w))])), (a, .inl (cI, w, .inl (upd (fl (lb u) (lb v) i) (nI i).toNatClampNeg (lb u i))))] H := hP
      have hD : va_D (nAd o a) [(o, .inr (1, [.ref (a), .int (nI (szF v w))])), (a, .inl (cI, w, .inl (upd (fl (lb u) (lb v) i) (nI i).toNatClampNeg (lb u i))))] := hD
      rw [show upd (fl (lb u) (lb v) i) (nI i).toNatClampNeg (lb u i) = fl (lb u) (lb v) (i + 1) from by rw [nI_clamp (by omega)]; exact fl_s rfl] at hP hD
      refine lv_iinc (v := nI (i + 1)) (lv' := [(2, .int (nI (i + 1))), (0, .ref (o)), (1, .ref (oo))]) hx hb dX1_setTo_22 hl (k := 0) rfl (nI_1 i) (by decide) rfl (fun ls hl => ?_)
      refine lv_goto (tgt := 2) hx hb dX1_setTo_25 (by decide) ?_
      exact ih (i + 1) H locs ls (by omega) hP hD hS hl
  exact loop w 0 s.heap [] ls (by omega) (by rw [fl_0]; exact hP) (by rw [fl_0]; exact hD) hS hl
set_option maxHeartbeats 4000000 in
set_option maxRecDepth 100000 in
theorem c_append (l : Launch) (D : va_G) (cI : ClassId) (w o a v : Nat)(x : Nat) (hx0 : x < 2147483648) (hwp : 0 < w)(hw : w ≤ 64) (hoa : o ≠ a) (hv0 : v < 2147483648 ^ w) : Met l yX1_append wsX1_append ({ frames := 1, cells := 0, slots := 0, locals := 20 }) (nPc [.ref o, .int (nI x)] D (nW cI w o a v) [(cI, .int)]) (va_Qv (fun _ : Unit => True) (fun _ t => va_P D vwCl (nW cI w o a (v * 2147483648 + x)) t.heap) (nAd o a)) 0 0 (nAd o a) := by
  refine Met.ofW (cc := cX1_append) (maxL := 3) (ret := none) (by decide) rfl ?_
  intro p e s m args below meth c s₁ B hml hv
  obtain ⟨rfl, hP0, hK⟩ := hv
  have hx := B.exec
  have hb := B.bytes
  have hr := B.returns
  have hts := atoms_spec (ws := wsX1_append) B.pre
  have hown : s.vm.findClass RX1 = some m.cls := findClass_of_methodNamed B.named
  have hlocks := B.notSynchronized
  have hi1 : ∀ w ∈ wsX10, w ∈ wsX1_append := by decide +kernel
  have hP : va_P D vwCl (nW cI w o a v) s.heap := hP0.sub [0, 1] rfl
  have hD : va_D (nAd o a) (nW cI w o a v) := vd_two (Or.inl rfl) (Or.inr rfl) hoa
  have hS : va_S (nAd o a) s.heap s.heap [] := va_S.rf
  have hl := lv_entry ([.ref (o), .int (nI x)]) (n := 3) (Nat.le_of_ble_eq_true rfl)
  rw [lg_entry_eq]
  generalize (lg_sl ([.ref (o), .int (nI x)]) ++ List.replicate (3 - (lg_sl ([.ref (o), .int (nI x)])).length) Slot.unset).toArray = ls at hl ⊢
  have hl : lv_has ls 3 [(0, .ref (o)), (1, .int (nI x))] := hl
  have loop : ∀ (i : Nat) (H : Heap) (locs : List Loc) (ls : Array Slot), i < w → va_P D vwCl [(o, .inr (1, [.ref (a), .int (nI (szF v w))])), (a, .inl (cI, w, .inl (fd (lb (v * 2147483648 + x)) (lb v) (i + 1))))] H → va_D (nAd o a) [(o, .inr (1, [.ref (a), .int (nI (szF v w))])), (a, .inl (cI, w, .inl (fd (lb (v * 2147483648 + x)) (lb v) (i + 1))))] → va_S (nAd o a) s.heap H locs → lv_has ls 3 [(2, .int (nI i)), (0, .ref (o)), (1, .int (nI x))] → W p l e (headSpec wsX1_append ({ frames := 1, cells := 0, slots := 0, locals := 20 })).room s m ([.ref (o), .int (nI x)]).toArray below meth c H locs 0 0 (MQ below (va_Qv (fun _ : Unit => True) (fun _ t => va_P D vwCl (nW cI w o a (v * 2147483648 + x)) t.heap) (nAd o a)) ([.ref (o), .int (nI x)]).toArray s 0 0 (nAd o a)) (F0 m 8 ls []) := by
    intro i
    induction i with
    | zero =>
      intro H locs ls hiw hP hD hS hl
      refine lv_iload_n hx hb dX1_append_8 rfl (lv_at hl 0 rfl) ?_
      refine lv_if_le (tgt := 32) hx hb dX1_append_9 (by decide) (fun _ => ?_) (fun c9 => absurd ((nI_le0 (by omega)).mpr rfl) c9)
      refine lv_aload_n hx hb dX1_append_32 rfl (lv_at hl 1 rfl) ?_
      refine va_get (D := D) (ci := 1) (v := .ref (a)) (C := RX1) (T := TX1) (N := 2) hx hb hts hi1 hown hK hP 0 rfl rfl 0 (by decide) (hts (.fieldLink RX1 9 "BigLedger$Natural" "limbs" "[I") (by decide +kernel)) (fun _ h9 => h9) rfl dX1_append_33 ?_
      refine lv_iconst (v := 0) hx hb dX1_append_36 (by decide) ?_
      refine lv_iload_n hx hb dX1_append_37 rfl (lv_at hl 2 rfl) ?_
      refine va_iast hx hb hK hP hD hS 1 0 rfl rfl (vp_in_nI (n := 0) (by omega) (by omega)) dX1_append_38 (fun H locs hP hD hS => ?_)
      have hP : va_P D vwCl [(o, .inr (1, [.ref (a), .int (nI (szF v w))])), (a, .inl (cI, w, .inl (upd (fd (lb (v * 2147483648 + x)) (lb v) (0 + 1)) ((0 : Int32)).toNatClampNeg (nI x))))] H := hP
      have hD : va_D (nAd o a) [(o, .inr (1, [.ref (a), .int (nI (szF v w))])), (a, .inl (cI, w, .inl (upd (fd (lb (v * 2147483648 + x)) (lb v) (0 + 1)) ((0 : Int32)).toNatClampNeg (nI x))))] := hD
      rw [show upd (fd (lb (v * 2147483648 + x)) (lb v) (0 + 1)) ((0 : Int32)).toNatClampNeg (nI x) = fd (lb (v * 2147483648 + x)) (lb v) 0 from fd_s (by show nI x = nI (lbN (v * 2147483648 + x) 0); rw [app_0 v hx0])] at hP hD
      refine lv_aload_n hx hb dX1_append_39 rfl (lv_at hl 1 rfl) ?_
      refine va_callv (va_runV (As := []) (rest := []) ⟨hx, hb, hml, hown, hts⟩ (c_measure l D cI w o a ((v * 2147483648 + x)) (nI (szF v w)) (fd (lb (v * 2147483648 + x)) (lb v) 0) hw hoa (fun k hk => by rw [fd_0])) (cwV 0 hts gX1_append_X1_measure rfl rfl rfl (by decide +kernel) ⟨Nat.le_of_ble_eq_true rfl, Nat.le_of_ble_eq_true rfl⟩) ⟨nPc_blind, va_recv hK hP (ci := 1) (q0 := 0) rfl rfl, nPc_use (hP) hK⟩ rfl rfl hl.1 rfl (lv_room (Nat.le_of_ble_eq_true rfl)) dX1_append_40 ⟨Nat.le_of_ble_eq_true rfl, Nat.le_of_ble_eq_true rfl⟩) hS (fun q _ h => (fun _ h => h) q h) (fun _ h => h) (fun _u t H1 locs ht hvm hw hB hz1 hk9 hS => ?_)
      have hP9 : va_P D vwCl (nW cI w o a ((v * 2147483648 + x))) H1 := pB_at ht hB
      exact W.vret hx hb hr (fun t ht hW => ⟨⟨(), rfl, trivial, hp_at ht hP9⟩, hS.F ht⟩) hS.2.2 dX1_append_43
    | succ i ih =>
      intro H locs ls hiw hP hD hS hl
      refine lv_iload_n hx hb dX1_append_8 rfl (lv_at hl 0 rfl) ?_
      refine lv_if_le (tgt := 32) hx hb dX1_append_9 (by decide) (fun c9 => absurd c9 (nI_nle (by omega) (by omega))) (fun _ => ?_)
      refine lv_aload_n hx hb dX1_append_12 rfl (lv_at hl 1 rfl) ?_
      refine va_get (D := D) (ci := 1) (v := .ref (a)) (C := RX1) (T := TX1) (N := 2) hx hb hts hi1 hown hK hP 0 rfl rfl 0 (by decide) (hts (.fieldLink RX1 9 "BigLedger$Natural" "limbs" "[I") (by decide +kernel)) (fun _ h9 => h9) rfl dX1_append_13 ?_
      refine lv_iload_n hx hb dX1_append_16 rfl (lv_at hl 0 rfl) ?_
      refine lv_aload_n hx hb dX1_append_17 rfl (lv_at hl 1 rfl) ?_
      refine va_get (D := D) (ci := 1) (v := .ref (a)) (C := RX1) (T := TX1) (N := 2) hx hb hts hi1 hown hK hP 0 rfl rfl 0 (by decide) (hts (.fieldLink RX1 9 "BigLedger$Natural" "limbs" "[I") (by decide +kernel)) (fun _ h9 => h9) rfl dX1_append_18 ?_
      refine lv_iload_n hx hb dX1_append_21 rfl (lv_at hl 0 rfl) ?_
      refine lv_iconst (v := 1) hx hb dX1_append_22 (by decide) ?_
      refine lv_isub hx hb dX1_append_23 ?_
      refine lv_topi (fun y2 ey2 => ?_)
      replace ey2 : y2 = nI i := ey2.trans (nI_pred i)
      subst ey2
      refine va_iald hx hb hK hP 1 0 rfl rfl (vp_in_nI (by omega) (by omega)) dX1_append_24 ?_
      refine lv_topi (fun y3 ey3 => ?_)
      replace ey3 : y3 = lb v i := ey3.trans (by rw [nI_clamp (by omega), fd_lo (by omega)])
      subst ey3
      refine va_iast hx hb hK hP hD hS 1 0 rfl rfl (vp_in_nI (by omega) (by omega)) dX1_append_25 (fun H locs hP hD hS => ?_)
      have hP : va_P D vwCl [(o, .inr (1, [.ref (a), .int (nI (szF v w))])), (a, .inl (cI, w, .inl (upd (fd (lb (v * 2147483648 + x)) (lb v) (i + 1 + 1)) (nI (i + 1)).toNatClampNeg (lb v i))))] H := hP
      have hD : va_D (nAd o a) [(o, .inr (1, [.ref (a), .int (nI (szF v w))])), (a, .inl (cI, w, .inl (upd (fd (lb (v * 2147483648 + x)) (lb v) (i + 1 + 1)) (nI (i + 1)).toNatClampNeg (lb v i))))] := hD
      rw [show upd (fd (lb (v * 2147483648 + x)) (lb v) (i + 1 + 1)) (nI (i + 1)).toNatClampNeg (lb v i) = fd (lb (v * 2147483648 + x)) (lb v) (i + 1) from by rw [nI_clamp (by omega)]; exact fd_s (by show nI (lbN v i) = nI (lbN (v * 2147483648 + x) (i + 1)); rw [app_s v i hx0])] at hP hD
      refine lv_iinc (v := nI i) (lv' := [(2, .int (nI i)), (0, .ref (o)), (1, .int (nI x))]) hx hb dX1_append_26 hl (k := 0) rfl (pk_m1 i) (by decide) rfl (fun ls hl => ?_)
      refine lv_goto (tgt := 8) hx hb dX1_append_29 (by decide) ?_
      exact ih H locs ls (by omega) hP hD hS hl
  refine lv_aload_n hx hb dX1_append_0 rfl (lv_at hl 0 rfl) ?_
  refine va_get (D := D) (ci := 1) (v := .ref (a)) (C := RX1) (T := TX1) (N := 2) hx hb hts hi1 hown hK hP 0 rfl rfl 0 (by decide) (hts (.fieldLink RX1 9 "BigLedger$Natural" "limbs" "[I") (by decide +kernel)) (fun _ h9 => h9) rfl dX1_append_1 ?_
  refine va_alen (v := nI (w)) hx hb hK hP 1 0 rfl rfl (rfl) dX1_append_4 ?_
  refine lv_iconst (v := 1) hx hb dX1_append_5 (by decide) ?_
  refine lv_isub hx hb dX1_append_6 ?_
  refine lv_topi (fun y4 ey4 => ?_)
  replace ey4 : y4 = nI (w - 1) := ey4.trans (pk_sub (a := w) (b := 1) (by omega))
  subst ey4
  refine lv_istore_n (lv' := [(2, .int (nI (w - 1))), (0, .ref (o)), (1, .int (nI x))]) hx hb dX1_append_7 rfl hl (by decide) rfl (fun ls hl => ?_)
  have e1 : va_P D vwCl [(o, .inr (1, [.ref (a), .int (nI (szF v w))])), (a, .inl (cI, w, .inl (fd (lb (v * 2147483648 + x)) (lb v) (w - 1 + 1))))] s.heap := vp_cons (hP 0 _ rfl) (vp_cons (at_congr (hP 1 _ rfl) (fun k hk => (fd_lo (by omega)).symm)) vp_nil)
  exact loop (w - 1) s.heap [] ls (by omega) e1 (vd_two (Or.inl rfl) (Or.inr rfl) hoa) hS hl

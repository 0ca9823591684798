set_option maxHeartbeats 4000000 in
set_option maxRecDepth 100000 in
/-- limb p0, 0 beyond -/
theorem c_limbAt (l : Launch) (D : va_G) (cI : ClassId) (w o a v : Nat) (p0 : Int32) (hw : w ≤ 64) (hv0 : v < 2147483648 ^ w) : Met l yX1_limbAt wsX1_limbAt ({ frames := 0, cells := 0, slots := 0, locals := 0 }) (nPc [.ref o, .int p0] D (nW cI w o a v) [(cI, .int)]) (vp_Si (fun r => r = if p0 < 0 then 0 else lb v p0.toNatClampNeg)) 0 0 (fun _ => False) := by
  refine Met.ofW (cc := cX1_limbAt) (maxL := 2) (ret := (some .int)) (by decide) rfl ?_
  intro p e s m args below meth c s₁ B hml hv
  obtain ⟨rfl, hP, hK⟩ := hv
  have hx := B.exec
  have hb := B.bytes
  have hr := B.returns
  have hts := atoms_spec (ws := wsX1_limbAt) B.pre
  have hown : s.vm.findClass RX1 = some m.cls := findClass_of_methodNamed B.named
  have hlocks := B.notSynchronized
  have hi1 : ∀ w ∈ wsX10, w ∈ wsX1_limbAt := by decide +kernel
  generalize hH : s.heap = H at hP ⊢
  have hl := lv_entry ([.ref (o), .int (p0)]) (n := 2) (Nat.le_of_ble_eq_true rfl)
  rw [lg_entry_eq]
  generalize (lg_sl ([.ref (o), .int (p0)]) ++ List.replicate (2 - (lg_sl ([.ref (o), .int (p0)])).length) Slot.unset).toArray = ls at hl ⊢
  have hl : lv_has ls 2 [(0, .ref (o)), (1, .int (p0))] := hl
  refine lv_iload_n hx hb dX1_limbAt_0 rfl (lv_at hl 1 rfl) ?_
  refine lv_if_lt (tgt := 21) hx hb dX1_limbAt_1 (by decide) (fun c1 => ?_) (fun c1 => ?_)
  · refine lv_iconst (v := 0) hx hb dX1_limbAt_21 (by decide) ?_
    exact W.iret (v := 0) hx hb hr (fun t ht hW => ⟨0, rfl, by rw [if_pos c1], ht.trans hH.symm⟩) (fun _ h => by cases h) dX1_limbAt_22
  · obtain ⟨j, hj, rfl⟩ := nI_of c1
    refine lv_iload_n hx hb dX1_limbAt_4 rfl (lv_at hl 1 rfl) ?_
    refine lv_aload_n hx hb dX1_limbAt_5 rfl (lv_at hl 0 rfl) ?_
    refine va_get (D := D) (ci := 1) (v := .int (nI (szF v w))) (C := RX1) (T := TX1) (N := 2) hx hb hts hi1 hown hK hP 0 rfl rfl 1 (by decide) (hts (.fieldLink RX1 15 "BigLedger$Natural" "size" "I") (by decide +kernel)) (fun _ h9 => h9) rfl dX1_limbAt_6 ?_
    refine lv_icmp_ge (tgt := 21) hx hb dX1_limbAt_9 (by decide) (fun c2 => ?_) (fun c2 => ?_)
    · refine lv_iconst (v := 0) hx hb dX1_limbAt_21 (by decide) ?_
      have hsz := szF_le v w
      have c3 : szF v w ≤ j := (nI_leI (by omega) hj).mp c2
      exact W.iret (v := 0) hx hb hr (fun t ht hW => ⟨0, rfl, by
        rw [if_neg c1, lb_clamp hj]
        show 0 = nI (lbN v j)
        rcases Nat.lt_or_ge j w with q | q
        · rw [szF_beyond v w j c3 q, nI_0]
        · rw [lbN_zero hv0 q, nI_0], ht.trans hH.symm⟩) (fun _ h => by cases h) dX1_limbAt_22
    · have hsz := szF_le v w
      have c3 : j < szF v w := Nat.lt_of_not_le (fun q => c2 (nI_le q hj))
      refine lv_aload_n hx hb dX1_limbAt_12 rfl (lv_at hl 0 rfl) ?_
      refine va_get (D := D) (ci := 1) (v := .ref (a)) (C := RX1) (T := TX1) (N := 2) hx hb hts hi1 hown hK hP 0 rfl rfl 0 (by decide) (hts (.fieldLink RX1 9 "BigLedger$Natural" "limbs" "[I") (by decide +kernel)) (fun _ h9 => h9) rfl dX1_limbAt_13 ?_
      refine lv_iload_n hx hb dX1_limbAt_16 rfl (lv_at hl 1 rfl) ?_
      refine va_iald hx hb hK hP 1 0 rfl rfl (vp_in_nI (by omega) (by omega)) dX1_limbAt_17 ?_
      refine lv_topi (fun y1 ey1 => ?_)
      replace ey1 : y1 = lb v j := ey1.trans (lb_clamp hj)
      subst ey1
      refine lv_goto (tgt := 22) hx hb dX1_limbAt_18 (by decide) ?_
      exact W.iret (v := lb v j) hx hb hr (fun t ht hW => ⟨_, rfl, by rw [if_neg c1, lb_clamp hj], ht.trans hH.symm⟩) (fun _ h => by cases h) dX1_limbAt_22
set_option maxHeartbeats 4000000 in
set_option maxRecDepth 100000 in
/-- the size of what the limbs say -/
theorem c_measure (l : Launch) (D : va_G) (cI : ClassId) (w o a v : Nat) (z : Int32) (f : Nat → Int32) (hw : w ≤ 64) (hoa : o ≠ a) (hf : ∀ k, k < w → f k = lb v k) : Met l yX1_measure wsX1_measure ({ frames := 0, cells := 0, slots := 0, locals := 0 }) (nPc [.ref o] D [(o, .inr (1, [.ref a, .int z])), (a, .inl (cI, w, .inl f))] [(cI, .int)]) (va_Qv (fun _ : Unit => True) (fun _ t => va_P D vwCl (nW cI w o a v) t.heap) (nAd o a)) 0 0 (nAd o a) := by
  refine Met.ofW (cc := cX1_measure) (maxL := 1) (ret := none) (by decide) rfl ?_
  intro p e s m args below meth c s₁ B hml hv
  obtain ⟨rfl, hP, hK⟩ := hv
  have hx := B.exec
  have hb := B.bytes
  have hr := B.returns
  have hts := atoms_spec (ws := wsX1_measure) B.pre
  have hown : s.vm.findClass RX1 = some m.cls := findClass_of_methodNamed B.named
  have hlocks := B.notSynchronized
  have hi1 : ∀ w ∈ wsX10, w ∈ wsX1_measure := by decide +kernel
  have hD : va_D (nAd o a) [(o, .inr (1, [.ref (a), .int (z)])), (a, .inl (cI, w, .inl (f)))] := vd_two (Or.inl rfl) (Or.inr rfl) hoa
  have hS : va_S (nAd o a) s.heap s.heap [] := va_S.rf
  have hl := lv_entry ([.ref (o)]) (n := 1) (Nat.le_of_ble_eq_true rfl)
  rw [lg_entry_eq]
  generalize (lg_sl ([.ref (o)]) ++ List.replicate (1 - (lg_sl ([.ref (o)])).length) Slot.unset).toArray = ls at hl ⊢
  have hl : lv_has ls 1 [(0, .ref (o))] := hl
  have loop : ∀ (k : Nat) (H : Heap) (locs : List Loc) (ls : Array Slot), k ≤ w → szF v w = szF v k → va_P D vwCl [(o, .inr (1, [.ref (a), .int (nI k)])), (a, .inl (cI, w, .inl (f)))] H → va_D (nAd o a) [(o, .inr (1, [.ref (a), .int (nI k)])), (a, .inl (cI, w, .inl (f)))] → va_S (nAd o a) s.heap H locs → lv_has ls 1 [(0, .ref o)] → W p l e (headSpec wsX1_measure ({ frames := 0, cells := 0, slots := 0, locals := 0 })).room s m ([.ref (o)]).toArray below meth c H locs 0 0 (MQ below (va_Qv (fun _ : Unit => True) (fun _ t => va_P D vwCl (nW cI w o a v) t.heap) (nAd o a)) ([.ref (o)]).toArray s 0 0 (nAd o a)) (F0 m 9 ls []) := by
    intro k
    induction k with
    | zero =>
      intro H locs ls hkw hsz hP hD hS hl
      refine lv_aload_n hx hb dX1_measure_9 rfl (lv_at hl 0 rfl) ?_
      refine va_get (D := D) (ci := 1) (v := .int (nI 0)) (C := RX1) (T := TX1) (N := 2) hx hb hts hi1 hown hK hP 0 rfl rfl 1 (by decide) (hts (.fieldLink RX1 15 "BigLedger$Natural" "size" "I") (by decide +kernel)) (fun _ h9 => h9) rfl dX1_measure_10 ?_
      refine lv_if_le (tgt := 43) hx hb dX1_measure_13 (by decide) (fun _ => ?_) (fun c9 => absurd ((nI_le0 (by omega)).mpr rfl) c9)
      have hk9 : szF v 0 = 0 := rfl
      have hP9 : va_P D vwCl (nW cI w o a v) H := vp_cons (by rw [hsz, hk9]; exact hP 0 _ rfl) (vp_cons (at_congr (hP 1 _ rfl) hf) vp_nil)
      exact W.vret hx hb hr (fun t ht hW => ⟨⟨(), rfl, trivial, hp_at ht hP9⟩, hS.F ht⟩) hS.2.2 dX1_measure_43
    | succ k ih =>
      intro H locs ls hkw hsz hP hD hS hl
      refine lv_aload_n hx hb dX1_measure_9 rfl (lv_at hl 0 rfl) ?_
      refine va_get (D := D) (ci := 1) (v := .int (nI (k + 1))) (C := RX1) (T := TX1) (N := 2) hx hb hts hi1 hown hK hP 0 rfl rfl 1 (by decide) (hts (.fieldLink RX1 15 "BigLedger$Natural" "size" "I") (by decide +kernel)) (fun _ h9 => h9) rfl dX1_measure_10 ?_
      refine lv_if_le (tgt := 43) hx hb dX1_measure_13 (by decide) (fun c9 => absurd c9 (nI_nle (by omega) (by omega))) (fun _ => ?_)
      refine lv_aload_n hx hb dX1_measure_16 rfl (lv_at hl 0 rfl) ?_
      refine va_get (D := D) (ci := 1) (v := .ref (a)) (C := RX1) (T := TX1) (N := 2) hx hb hts hi1 hown hK hP 0 rfl rfl 0 (by decide) (hts (.fieldLink RX1 9 "BigLedger$Natural" "limbs" "[I") (by decide +kernel)) (fun _ h9 => h9) rfl dX1_measure_17 ?_
      refine lv_aload_n hx hb dX1_measure_20 rfl (lv_at hl 0 rfl) ?_
      refine va_get (D := D) (ci := 1) (v := .int (nI (k + 1))) (C := RX1) (T := TX1) (N := 2) hx hb hts hi1 hown hK hP 0 rfl rfl 1 (by decide) (hts (.fieldLink RX1 15 "BigLedger$Natural" "size" "I") (by decide +kernel)) (fun _ h9 => h9) rfl dX1_measure_21 ?_
      refine lv_iconst (v := 1) hx hb dX1_measure_24 (by decide) ?_
      refine lv_isub hx hb dX1_measure_25 ?_
      refine lv_topi (fun y2 ey2 => ?_)
      replace ey2 : y2 = nI k := ey2.trans (nI_pred k)
      subst ey2
      refine va_iald hx hb hK hP 1 0 rfl rfl (vp_in_nI (by omega) (by omega)) dX1_measure_26 ?_
      refine lv_topi (fun y3 ey3 => ?_)
      replace ey3 : y3 = lb v k := ey3.trans (by rw [nI_clamp (by omega)]; exact hf k (by omega))
      subst ey3
      refine lv_if_ne (tgt := 43) hx hb dX1_measure_27 (by decide) (fun c1 => ?_) (fun c1 => ?_)
      · have hk9 : szF v (k + 1) = k + 1 := szF_stop (fun q => c1 (lb_eq0.mpr q))
        have hP9 : va_P D vwCl (nW cI w o a v) H := vp_cons (by rw [hsz, hk9]; exact hP 0 _ rfl) (vp_cons (at_congr (hP 1 _ rfl) hf) vp_nil)
        exact W.vret hx hb hr (fun t ht hW => ⟨⟨(), rfl, trivial, hp_at ht hP9⟩, hS.F ht⟩) hS.2.2 dX1_measure_43
      · have hk9 : lbN v k = 0 := lb_eq0.mp c1
        refine lv_aload_n hx hb dX1_measure_30 rfl (lv_at hl 0 rfl) ?_
        refine lv_dup hx hb dX1_measure_31 rfl ?_
        refine va_get (D := D) (ci := 1) (v := .int (nI (k + 1))) (C := RX1) (T := TX1) (N := 2) hx hb hts hi1 hown hK hP 0 rfl rfl 1 (by decide) (hts (.fieldLink RX1 15 "BigLedger$Natural" "size" "I") (by decide +kernel)) (fun _ h9 => h9) rfl dX1_measure_32 ?_
        refine lv_iconst (v := 1) hx hb dX1_measure_35 (by decide) ?_
        refine lv_isub hx hb dX1_measure_36 ?_
        refine lv_topi (fun y4 ey4 => ?_)
        replace ey4 : y4 = nI k := ey4.trans (nI_pred k)
        subst ey4
        refine va_put (D := D) (ci := 1) (v := .int (nI k)) (ty := .int) (C := RX1) (T := TX1) (N := 2) hx hb hts hi1 tyX1 tyX1_ok nmX1 hown hK hP hD hS 0 rfl rfl 1 (by decide) (hts (.fieldLink RX1 15 "BigLedger$Natural" "size" "I") (by decide +kernel)) (fun _ h9 => h9) rfl (by decide +kernel) (rfl) (rfl) (Nat.le_of_ble_eq_true rfl) dX1_measure_37 (fun H locs hP hD hS => ?_)
        have hP : va_P D vwCl [(o, .inr (1, [.ref (a), .int (nI k)])), (a, .inl (cI, w, .inl (f)))] H := hP
        have hD : va_D (nAd o a) [(o, .inr (1, [.ref (a), .int (nI k)])), (a, .inl (cI, w, .inl (f)))] := hD
        refine lv_goto (tgt := 9) hx hb dX1_measure_40 (by decide) ?_
        exact ih H locs ls (by omega) (hsz.trans (szF_down hk9)) hP hD hS hl
  refine lv_aload_n hx hb dX1_measure_0 rfl (lv_at hl 0 rfl) ?_
  refine lv_aload_n hx hb dX1_measure_1 rfl (lv_at hl 0 rfl) ?_
  refine va_get (D := D) (ci := 1) (v := .ref (a)) (C := RX1) (T := TX1) (N := 2) hx hb hts hi1 hown hK hP 0 rfl rfl 0 (by decide) (hts (.fieldLink RX1 9 "BigLedger$Natural" "limbs" "[I") (by decide +kernel)) (fun _ h9 => h9) rfl dX1_measure_2 ?_
  refine va_alen (v := nI (w)) hx hb hK hP 1 0 rfl rfl (rfl) dX1_measure_5 ?_
  refine va_put (D := D) (ci := 1) (v := .int (nI (w))) (ty := .int) (C := RX1) (T := TX1) (N := 2) hx hb hts hi1 tyX1 tyX1_ok nmX1 hown hK hP hD hS 0 rfl rfl 1 (by decide) (hts (.fieldLink RX1 15 "BigLedger$Natural" "size" "I") (by decide +kernel)) (fun _ h9 => h9) rfl (by decide +kernel) (rfl) (rfl) (Nat.le_of_ble_eq_true rfl) dX1_measure_6 (fun H locs hP hD hS => ?_)
  have hP : va_P D vwCl [(o, .inr (1, [.ref (a), .int (nI (w))])), (a, .inl (cI, w, .inl (f)))] H := hP
  have hD : va_D (nAd o a) [(o, .inr (1, [.ref (a), .int (nI (w))])), (a, .inl (cI, w, .inl (f)))] := hD
  exact loop w H locs ls (Nat.le_refl w) rfl hP hD hS hl

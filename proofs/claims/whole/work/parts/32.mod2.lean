set_option maxHeartbeats 4000000 in
set_option maxRecDepth 100000 in
theorem m_emptyLog (l : Launch) (D : va_G) (g : Nat → Nat) (cI cZ cB : ClassId) (acc lm rm : Nat) (N : LN) (am : Nat) (T : BN) (wk ou y : Nat → Int32) (hok : mOk g) (hacc : acc ≤ 24) : Met l yX3_emptyLog wsX3_emptyLog ({ frames := 3, cells := 0, slots := 0, locals := 61 }) (nPc [.ref (g 0)] D (rW g cI cZ cB acc lm rm (mF N am T wk ou) y) [(cI, .int), (cZ, .boolean), (cB, .byte)]) (va_Qi (fun (r : Int32) (u : MS) => (r, u) = mEmp (N, am, T, y)) (fun u t => va_P D vwCl (rW g cI cZ cB acc lm rm (mF u.1 u.2.1 u.2.2.1 wk ou) u.2.2.2) t.heap) (mA g)) 0 0 (mA g) := by
  refine Met.ofW (cc := cX3_emptyLog) (maxL := 1) (ret := (some .boolean)) (by decide) rfl ?_
  intro p e s m args below meth c s₁ B hml hv
  obtain ⟨rfl, hP, hK⟩ := hv
  have hx := B.exec
  have hb := B.bytes
  have hr := B.returns
  have hts := atoms_spec (ws := wsX3_emptyLog) B.pre
  have hown : s.vm.findClass RX3 = some m.cls := findClass_of_methodNamed B.named
  have hlocks := B.notSynchronized
  have hi3 : ∀ w ∈ wsX30, w ∈ wsX3_emptyLog := by decide +kernel
  have hS : va_S (mA g) s.heap s.heap [] := va_S.rf
  have hD : va_D (mA g) (rW g cI cZ cB acc lm rm (mF N am T wk ou) y) := mlD hok
  have hl := lv_entry ([.ref (g 0)]) (n := 1) (Nat.le_of_ble_eq_true rfl)
  rw [lg_entry_eq]
  generalize (lg_sl ([.ref (g 0)]) ++ List.replicate (1 - (lg_sl ([.ref (g 0)])).length) Slot.unset).toArray = ls at hl ⊢
  have hl : lv_has ls 1 [(0, .ref (g 0))] := hl
  refine lv_aload_n hx hb dX3_emptyLog_0 rfl (lv_at hl 0 rfl) ?_
  refine va_calli (va_runV (As := []) (rest := []) ⟨hx, hb, hml, hown, hts⟩ (m_writes l D g cI cZ cB acc lm rm N am T wk ou y hok hacc) (cwV 0 hts gX3_emptyLog_X3_writes rfl rfl rfl (by decide +kernel) ⟨Nat.le_of_ble_eq_true rfl, Nat.le_of_ble_eq_true rfl⟩) ⟨nPc_blind, va_recv hK hP (ci := 3) (q0 := 0) rfl (wl_at (by omega)), nPc_use (hP) hK⟩ rfl rfl hl.1 rfl (lv_room (Nat.le_of_ble_eq_true rfl)) dX3_emptyLog_1 ⟨Nat.le_of_ble_eq_true rfl, Nat.le_of_ble_eq_true rfl⟩) hS (fun q _ h => (fun _ h => h) q h) (fun _ h => h) (fun rr1 u1 t H1 locs ht hvm hw1 hB hz1 hk9 hS => ?_)
  generalize H1 = H at ht hz1 hk9 hS ⊢
  have hP : va_P D vwCl (rW g cI cZ cB acc lm rm (mF u1.1 u1.2.1 u1.2.2.1 wk ou) u1.2.2.2) H := pB_at ht hB
  have hD : va_D (mA g) (rW g cI cZ cB acc lm rm (mF u1.1 u1.2.1 u1.2.2.1 wk ou) u1.2.2.2) := mlD hok
  refine lv_if_ne (tgt := 9) hx hb dX3_emptyLog_4 (by decide) (fun c1 => ?_) (fun c1 => ?_)
  · refine lv_aload_n hx hb dX3_emptyLog_9 rfl (lv_at hl 0 rfl) ?_
    refine lv_iconst (v := 0) hx hb dX3_emptyLog_10 (by decide) ?_
    refine va_put (D := D) (ci := 3) (v := .int ((0 : Int32))) (ty := .boolean) (C := RX3) (T := TX3) (N := 18) hx hb hts hi3 tyX3 tyX3_ok nmX3 hown hK hP hD hS 0 (wl_at (by omega)) rfl 13 (by decide) (hts (.fieldLink RX3 68 "BigLedgerModel" "committed" "Z") (by decide +kernel)) (fun _ h9 => h9) rfl (by decide +kernel) (rfl) (rfl) (Nat.le_of_ble_eq_true rfl) dX3_emptyLog_11 (fun H locs hP hD hS => ?_)
    have hP : va_P D vwCl (rW g cI cZ cB acc lm rm (mF u1.1 u1.2.1 u1.2.2.1 wk ou) (va_up u1.2.2.2 3 (0 : Int32))) H := cv (ms_f 3 (0 : Int32) (by decide)) hP
    have hD : va_D (mA g) (rW g cI cZ cB acc lm rm (mF u1.1 u1.2.1 u1.2.2.1 wk ou) (va_up u1.2.2.2 3 (0 : Int32))) := mlD hok
    refine lv_iconst (v := 1) hx hb dX3_emptyLog_14 (by decide) ?_
    exact W.zret (v := 1) (ty := .boolean) hx hb hr (rfl) (fun t ht hW => ⟨⟨_, setY u1 3 0, rfl, by rw [mEmp, ← hw1]; exact (if_neg c1).symm, hp_at ht hP⟩, hS.F ht⟩) hS.2.2 dX3_emptyLog_15
  · refine lv_iconst (v := 0) hx hb dX3_emptyLog_7 (by decide) ?_
    exact W.zret (v := 0) (ty := .boolean) hx hb hr (rfl) (fun t ht hW => ⟨⟨_, u1, rfl, by rw [mEmp, ← hw1]; exact (if_pos c1).symm, hp_at ht hP⟩, hS.F ht⟩) hS.2.2 dX3_emptyLog_8
set_option maxHeartbeats 4000000 in
set_option maxRecDepth 100000 in
theorem m_touches (l : Launch) (D : va_G) (g : Nat → Nat) (cI cZ cB : ClassId) (acc lm rm : Nat) (N : LN) (am : Nat) (T : BN) (wk ou y : Nat → Int32) (hok : mOk g) (hacc : acc ≤ 24) : Met l yX3_touches wsX3_touches ({ frames := 0, cells := 0, slots := 0, locals := 0 }) (nPc [.ref (g 0)] D (rW g cI cZ cB acc lm rm (mF N am T wk ou) y) [(cI, .int), (cZ, .boolean), (cB, .byte)]) (vp_Si (fun r => r = nI (fb_ct (T 0) 25))) 0 0 (fun _ => False) := by
  refine Met.ofW (cc := cX3_touches) (maxL := 3) (ret := (some .int)) (by decide) rfl ?_
  intro p e s m args below meth c s₁ B hml hv
  obtain ⟨rfl, hP, hK⟩ := hv
  have hx := B.exec
  have hb := B.bytes
  have hr := B.returns
  have hts := atoms_spec (ws := wsX3_touches) B.pre
  have hown : s.vm.findClass RX3 = some m.cls := findClass_of_methodNamed B.named
  have hlocks := B.notSynchronized
  have hi3 : ∀ w ∈ wsX30, w ∈ wsX3_touches := by decide +kernel
  generalize hH : s.heap = H at hP ⊢
  have hl := lv_entry ([.ref (g 0)]) (n := 3) (Nat.le_of_ble_eq_true rfl)
  rw [lg_entry_eq]
  generalize (lg_sl ([.ref (g 0)]) ++ List.replicate (3 - (lg_sl ([.ref (g 0)])).length) Slot.unset).toArray = ls at hl ⊢
  have hl : lv_has ls 3 [(0, .ref (g 0))] := hl
  refine lv_iconst (v := 0) hx hb dX3_touches_0 (by decide) ?_
  refine lv_istore_n (lv' := [(1, .int ((0 : Int32))), (0, .ref (g 0))]) hx hb dX3_touches_1 rfl hl (by decide) rfl (fun ls hl => ?_)
  refine lv_iconst (v := 0) hx hb dX3_touches_2 (by decide) ?_
  refine lv_istore_n (lv' := [(2, .int ((0 : Int32))), (1, .int ((0 : Int32))), (0, .ref (g 0))]) hx hb dX3_touches_3 rfl hl (by decide) rfl (fun ls hl => ?_)
  have lpT : ∀ (k i : Nat) (ls : Array Slot), i + k = 25 → lv_has ls 3 [(2, .int (nI i)), (1, .int (nI (fb_ct (T 0) i))), (0, .ref (g 0))] → W p l e (headSpec wsX3_touches ({ frames := 0, cells := 0, slots := 0, locals := 0 })).room s m ([.ref (g 0)]).toArray below meth c H [] 0 0 (MQ below (vp_Si (fun r => r = nI (fb_ct (T 0) 25))) ([.ref (g 0)]).toArray s 0 0 (fun _ => False)) (F0 m 4 ls []) := by
    intro k
    induction k with
    | zero =>
      intro i ls hin hl
      refine lv_iload_n hx hb dX3_touches_4 rfl (lv_at hl 0 rfl) ?_
      refine lv_bipush (v := 25) hx hb dX3_touches_5 (by decide) ?_
      refine lv_icmp_ge (tgt := 33) hx hb dX3_touches_7 (by decide) (fun _ => ?_) (fun c9 => absurd (nI_le (a := 25) (by omega) (by omega)) c9)
      refine lv_iload_n hx hb dX3_touches_33 rfl (lv_at hl 1 rfl) ?_
      have e9 : i = 25 := by omega
      exact W.iret (v := nI (fb_ct (T 0) i)) hx hb hr (fun t ht hW => ⟨_, rfl, by rw [e9], ht.trans hH.symm⟩) (fun _ h => by cases h) dX3_touches_34
    | succ k ih =>
      intro i ls hin hl
      refine lv_iload_n hx hb dX3_touches_4 rfl (lv_at hl 0 rfl) ?_
      refine lv_bipush (v := 25) hx hb dX3_touches_5 (by decide) ?_
      refine lv_icmp_ge (tgt := 33) hx hb dX3_touches_7 (by decide) (fun c9 => absurd c9 (nI_ge (b := 25) (by omega) (by omega))) (fun _ => ?_)
      refine lv_iload_n hx hb dX3_touches_10 rfl (lv_at hl 1 rfl) ?_
      refine lv_aload_n hx hb dX3_touches_11 rfl (lv_at hl 2 rfl) ?_
      refine va_get (D := D) (ci := 3) (v := .ref (g 6)) (C := RX3) (T := TX3) (N := 18) hx hb hts hi3 hown hK hP 0 (wl_at (by omega)) rfl 9 (by decide) (hts (.fieldLink RX3 29 "BigLedgerModel" "touched" "[Z") (by decide +kernel)) (fun _ h9 => h9) rfl dX3_touches_12 ?_
      refine lv_iload_n hx hb dX3_touches_15 rfl (lv_at hl 0 rfl) ?_
      refine va_zald hx hb hK hP 6 1 (wl_at (by omega)) rfl (vp_in_nI (by omega) (by omega)) dX3_touches_16 ?_
      refine lv_topi (fun y2 ey2 => ?_)
      replace ey2 : y2 = tb (T 0) i := ey2.trans (by rw [nI_clamp (by omega)]; rfl)
      subst ey2
      refine lv_if_eq (tgt := 24) hx hb dX3_touches_17 (by decide) (fun c1 => ?_) (fun c1 => ?_)
      · refine lv_iconst (v := 0) hx hb dX3_touches_24 (by decide) ?_
        refine lv_iadd hx hb dX3_touches_25 ?_
        refine lv_topi (fun y3 ey3 => ?_)
        replace ey3 : y3 = nI (fb_ct (T 0) (i + 1)) := ey3.trans (by rw [fb_ct_succ, if_neg (tb_eq0.mp c1)]; exact nI_add _ 0)
        subst ey3
        refine lv_istore_n (lv' := [(1, .int (nI (fb_ct (T 0) (i + 1)))), (2, .int (nI i)), (0, .ref (g 0))]) hx hb dX3_touches_26 rfl hl (by decide) rfl (fun ls hl => ?_)
        refine lv_iinc (v := nI (i + 1)) (lv' := [(2, .int (nI (i + 1))), (1, .int (nI (fb_ct (T 0) (i + 1)))), (0, .ref (g 0))]) hx hb dX3_touches_27 hl (k := 1) rfl (nI_1 i) (by decide) rfl (fun ls hl => ?_)
        refine lv_goto (tgt := 4) hx hb dX3_touches_30 (by decide) ?_
        exact ih (i + 1) ls (by omega) (lv_sub hl [0, 1, 2] rfl)
      · refine lv_iconst (v := 1) hx hb dX3_touches_20 (by decide) ?_
        refine lv_goto (tgt := 25) hx hb dX3_touches_21 (by decide) ?_
        refine lv_iadd hx hb dX3_touches_25 ?_
        refine lv_topi (fun y4 ey4 => ?_)
        replace ey4 : y4 = nI (fb_ct (T 0) (i + 1)) := ey4.trans (by rw [fb_ct_succ, if_pos (tb_ne0.mp c1)]; exact nI_1 _)
        subst ey4
        refine lv_istore_n (lv' := [(1, .int (nI (fb_ct (T 0) (i + 1)))), (2, .int (nI i)), (0, .ref (g 0))]) hx hb dX3_touches_26 rfl hl (by decide) rfl (fun ls hl => ?_)
        refine lv_iinc (v := nI (i + 1)) (lv' := [(2, .int (nI (i + 1))), (1, .int (nI (fb_ct (T 0) (i + 1)))), (0, .ref (g 0))]) hx hb dX3_touches_27 hl (k := 1) rfl (nI_1 i) (by decide) rfl (fun ls hl => ?_)
        refine lv_goto (tgt := 4) hx hb dX3_touches_30 (by decide) ?_
        exact ih (i + 1) ls (by omega) (lv_sub hl [0, 1, 2] rfl)
  exact lpT 25 0 ls rfl hl
set_option maxHeartbeats 4000000 in
set_option maxRecDepth 100000 in
theorem m_goHome (l : Launch) (D : va_G) (g : Nat → Nat) (cI cZ cB : ClassId) (acc lm rm : Nat) (N : LN) (am : Nat) (T : BN) (wk ou y : Nat → Int32) (hok : mOk g) (hacc : acc ≤ 24) : Met l yX3_goHome wsX3_goHome ({ frames := 4, cells := 0, slots := 0, locals := 81 }) (nPc [.ref (g 0)] D (rW g cI cZ cB acc lm rm (mF N am T wk ou) y) [(cI, .int), (cZ, .boolean), (cB, .byte)]) (va_Qi (fun (r : Int32) (u : MS) => (r, u) = mGo (N, am, T, y)) (fun u t => va_P D vwCl (rW g cI cZ cB acc lm rm (mF u.1 u.2.1 u.2.2.1 wk ou) u.2.2.2) t.heap) (mA g)) 0 0 (mA g) := by
  refine Met.ofW (cc := cX3_goHome) (maxL := 3) (ret := (some .boolean)) (by decide) rfl ?_
  intro p e s m args below meth c s₁ B hml hv
  obtain ⟨rfl, hP, hK⟩ := hv
  have hx := B.exec
  have hb := B.bytes
  have hr := B.returns
  have hts := atoms_spec (ws := wsX3_goHome) B.pre
  have hown : s.vm.findClass RX3 = some m.cls := findClass_of_methodNamed B.named
  have hlocks := B.notSynchronized
  have hi3 : ∀ w ∈ wsX30, w ∈ wsX3_goHome := by decide +kernel
  have hS : va_S (mA g) s.heap s.heap [] := va_S.rf
  have hD : va_D (mA g) (rW g cI cZ cB acc lm rm (mF N am T wk ou) y) := mlD hok
  have hl := lv_entry ([.ref (g 0)]) (n := 3) (Nat.le_of_ble_eq_true rfl)
  rw [lg_entry_eq]
  generalize (lg_sl ([.ref (g 0)]) ++ List.replicate (3 - (lg_sl ([.ref (g 0)])).length) Slot.unset).toArray = ls at hl ⊢
  have hl : lv_has ls 3 [(0, .ref (g 0))] := hl
  refine lv_iconst (v := 0) hx hb dX3_goHome_0 (by decide) ?_
  refine lv_istore_n (lv' := [(1, .int ((0 : Int32))), (0, .ref (g 0))]) hx hb dX3_goHome_1 rfl hl (by decide) rfl (fun ls hl => ?_)
  have lpo : ∀ (nlpo i : Nat) (S : MS) (H : Heap) (locs : List Loc) (ls : Array Slot), i + nlpo = 25 → gHl nlpo i S = gHl 25 0 (N, am, T, y) → va_P D vwCl (rW g cI cZ cB acc lm rm (mF S.1 S.2.1 S.2.2.1 wk ou) S.2.2.2) H → va_S (mA g) s.heap H locs → lv_has ls 3 [(1, .int (nI i)), (0, .ref (g 0))] → W p l e (headSpec wsX3_goHome ({ frames := 4, cells := 0, slots := 0, locals := 81 })).room s m ([.ref (g 0)]).toArray below meth c H locs 0 0 (MQ below (va_Qi (fun (r : Int32) (u : MS) => (r, u) = mGo (N, am, T, y)) (fun u t => va_P D vwCl (rW g cI cZ cB acc lm rm (mF u.1 u.2.1 u.2.2.1 wk ou) u.2.2.2) t.heap) (mA g)) ([.ref (g 0)]).toArray s 0 0 (mA g)) (F0 m 2 ls []) := by
    intro nlpo
    induction nlpo with
    | zero =>
      intro i S H locs ls hinlpo heq hP hS hl
      have hD : va_D (mA g) (rW g cI cZ cB acc lm rm (mF S.1 S.2.1 S.2.2.1 wk ou) S.2.2.2) := mlD hok
      refine lv_iload_n hx hb dX3_goHome_2 rfl (lv_at hl 0 rfl) ?_
      refine lv_bipush (v := 25) hx hb dX3_goHome_3 (by decide) ?_
      refine lv_icmp_ge (tgt := 71) hx hb dX3_goHome_5 (by decide) (fun _ => ?_) (fun c9 => absurd (nI_le (a := 25) (by omega) (by omega)) c9)
      refine lv_aload_n hx hb dX3_goHome_71 rfl (lv_at hl 1 rfl) ?_
      refine va_calli (va_runV (As := []) (rest := []) ⟨hx, hb, hml, hown, hts⟩ (m_emptyLog l D g cI cZ cB acc lm rm S.1 S.2.1 S.2.2.1 wk ou S.2.2.2 hok hacc) (cwV 0 hts gX3_goHome_X3_emptyLog rfl rfl rfl (by decide +kernel) ⟨Nat.le_of_ble_eq_true rfl, Nat.le_of_ble_eq_true rfl⟩) ⟨nPc_blind, va_recv hK hP (ci := 3) (q0 := 0) rfl (wl_at (by omega)), nPc_use (hP) hK⟩ rfl rfl hl.1 rfl (lv_room (Nat.le_of_ble_eq_true rfl)) dX3_goHome_72 ⟨Nat.le_of_ble_eq_true rfl, Nat.le_of_ble_eq_true rfl⟩) hS (fun q _ h => (fun _ h => h) q h) (fun _ h => h) (fun rr2 u2 t H1 locs ht hvm hw2 hB hz1 hk9 hS => ?_)
      generalize H1 = H at ht hz1 hk9 hS ⊢
      have hP : va_P D vwCl (rW g cI cZ cB acc lm rm (mF u2.1 u2.2.1 u2.2.2.1 wk ou) u2.2.2.2) H := pB_at ht hB
      have hD : va_D (mA g) (rW g cI cZ cB acc lm rm (mF u2.1 u2.2.1 u2.2.2.1 wk ou) u2.2.2.2) := mlD hok
      replace hw2 : (rr2, u2) = mEmp S := hw2
      have hb2 : rr2 = 0 ∨ rr2 = 1 := by have h9 := mEmp_b S; rw [← hw2] at h9; exact h9
      exact W.zret (v := rr2) (ty := .boolean) hx hb hr ((bo hb2).1) (fun t ht hW => ⟨⟨_, u2, rfl, by rw [mGo, ← heq]; exact hw2.trans (if_neg i_1ne0).symm, hp_at ht hP⟩, hS.F ht⟩) hS.2.2 dX3_goHome_75
    | succ nlpo ihlpo =>
      intro i S H locs ls hinlpo heq hP hS hl
      have hD : va_D (mA g) (rW g cI cZ cB acc lm rm (mF S.1 S.2.1 S.2.2.1 wk ou) S.2.2.2) := mlD hok
      have hiwlpo : i < 25 := by omega
      refine lv_iload_n hx hb dX3_goHome_2 rfl (lv_at hl 0 rfl) ?_
      refine lv_bipush (v := 25) hx hb dX3_goHome_3 (by decide) ?_
      refine lv_icmp_ge (tgt := 71) hx hb dX3_goHome_5 (by decide) (fun c9 => absurd c9 (nI_ge (b := 25) hiwlpo (by omega))) (fun _ => ?_)
      refine lv_aload_n hx hb dX3_goHome_8 rfl (lv_at hl 1 rfl) ?_
      refine va_get (D := D) (ci := 3) (v := .ref (g 7)) (C := RX3) (T := TX3) (N := 18) hx hb hts hi3 hown hK hP 0 (wl_at (by omega)) rfl 10 (by decide) (hts (.fieldLink RX3 33 "BigLedgerModel" "logged" "[Z") (by decide +kernel)) (fun _ h9 => h9) rfl dX3_goHome_9 ?_
      refine lv_iload_n hx hb dX3_goHome_12 rfl (lv_at hl 0 rfl) ?_
      refine va_zald hx hb hK hP 7 1 (wl_at (by omega)) rfl (vp_in_nI (by omega) (by omega)) dX3_goHome_13 ?_
      refine lv_topi (fun y5 ey5 => ?_)
      replace ey5 : y5 = tb (S.2.2.1 1) i := ey5.trans (by rw [nI_clamp (by omega)]; rfl)
      subst ey5
      refine lv_if_ne (tgt := 20) hx hb dX3_goHome_14 (by decide) (fun c1 => ?_) (fun c1 => ?_)
      · replace c1 : S.2.2.1 1 i = true := tb_ne0.mp c1
        rw [gHl, if_pos c1] at heq
        refine lv_aload_n hx hb dX3_goHome_20 rfl (lv_at hl 1 rfl) ?_
        refine va_calli (va_runV (As := []) (rest := []) ⟨hx, hb, hml, hown, hts⟩ (m_writes l D g cI cZ cB acc lm rm S.1 S.2.1 S.2.2.1 wk ou S.2.2.2 hok hacc) (cwV 0 hts gX3_goHome_X3_writes rfl rfl rfl (by decide +kernel) ⟨Nat.le_of_ble_eq_true rfl, Nat.le_of_ble_eq_true rfl⟩) ⟨nPc_blind, va_recv hK hP (ci := 3) (q0 := 0) rfl (wl_at (by omega)), nPc_use (hP) hK⟩ rfl rfl hl.1 rfl (lv_room (Nat.le_of_ble_eq_true rfl)) dX3_goHome_21 ⟨Nat.le_of_ble_eq_true rfl, Nat.le_of_ble_eq_true rfl⟩) hS (fun q _ h => (fun _ h => h) q h) (fun _ h => h) (fun rr1 u1 t H1 locs ht hvm hw1 hB hz1 hk9 hS => ?_)
        generalize H1 = H at ht hz1 hk9 hS ⊢
        have hP : va_P D vwCl (rW g cI cZ cB acc lm rm (mF u1.1 u1.2.1 u1.2.2.1 wk ou) u1.2.2.2) H := pB_at ht hB
        have hD : va_D (mA g) (rW g cI cZ cB acc lm rm (mF u1.1 u1.2.1 u1.2.2.1 wk ou) u1.2.2.2) := mlD hok
        replace hw1 : (rr1, u1) = mWr (S) := hw1
        rw [← hw1] at heq
        refine lv_if_ne (tgt := 29) hx hb dX3_goHome_24 (by decide) (fun c2 => ?_) (fun c2 => ?_)
        · rw [if_neg c2] at heq
          refine lv_iconst (v := 0) hx hb dX3_goHome_29 (by decide) ?_
          refine lv_istore_n (lv' := [(2, .int ((0 : Int32))), (1, .int (nI i)), (0, .ref (g 0))]) hx hb dX3_goHome_30 rfl hl (by decide) rfl (fun ls hl => ?_)
          have lpi : ∀ (nlpi k : Nat) (H : Heap) (locs : List Loc) (ls : Array Slot), k + nlpi = 22 → va_P D vwCl (rW g cI cZ cB acc lm rm (va_up (mF u1.1 u1.2.1 u1.2.2.1 wk ou) 2 (pr (u1.1 1) i (u1.1 2 i) k)) u1.2.2.2) H → va_S (mA g) s.heap H locs → lv_has ls 3 [(2, .int (nI k)), (1, .int (nI i)), (0, .ref (g 0))] → W p l e (headSpec wsX3_goHome ({ frames := 4, cells := 0, slots := 0, locals := 81 })).room s m ([.ref (g 0)]).toArray below meth c H locs 0 0 (MQ below (va_Qi (fun (r : Int32) (u : MS) => (r, u) = mGo (N, am, T, y)) (fun u t => va_P D vwCl (rW g cI cZ cB acc lm rm (mF u.1 u.2.1 u.2.2.1 wk ou) u.2.2.2) t.heap) (mA g)) ([.ref (g 0)]).toArray s 0 0 (mA g)) (F0 m 31 ls []) := by
            intro nlpi
            induction nlpi with
            | zero =>
              intro k H locs ls hinlpi hP hS hl
              have hD : va_D (mA g) (rW g cI cZ cB acc lm rm (va_up (mF u1.1 u1.2.1 u1.2.2.1 wk ou) 2 (pr (u1.1 1) i (u1.1 2 i) k)) u1.2.2.2) := mlD hok
              refine lv_iload_n hx hb dX3_goHome_31 rfl (lv_at hl 0 rfl) ?_
              refine lv_bipush (v := 22) hx hb dX3_goHome_32 (by decide) ?_
              refine lv_icmp_ge (tgt := 65) hx hb dX3_goHome_34 (by decide) (fun _ => ?_) (fun c9 => absurd (nI_le (a := 22) (by omega) (by omega)) c9)
              have e9 : k = 22 := by omega
              subst e9
              have hP : va_P D vwCl (rW g cI cZ cB acc lm rm (mF (cpN u1 1 2 i).1 (cpN u1 1 2 i).2.1 (cpN u1 1 2 i).2.2.1 wk ou) u1.2.2.2) H := rW_congr hP (fun q9 h1 h2 j hj => by
                match q9 with
                | 1 => rfl
                | 2 =>
                  exact congrFun (pr_end (u1.1 1) i (u1.1 2 i)) j
                | 3 => rfl
                | 4 => rfl
                | 5 => rfl
                | 6 => rfl
                | 7 => rfl
                | 8 => rfl
                | 0 => omega
                | q9 + 9 => omega)
              have hD : va_D (mA g) (rW g cI cZ cB acc lm rm (mF (cpN u1 1 2 i).1 (cpN u1 1 2 i).2.1 (cpN u1 1 2 i).2.2.1 wk ou) u1.2.2.2) := mlD hok
              refine lv_iinc (v := nI (i + 1)) (lv' := [(1, .int (nI (i + 1))), (2, .int (nI 22)), (0, .ref (g 0))]) hx hb dX3_goHome_65 hl (k := 1) rfl (nI_1 i) (by decide) rfl (fun ls hl => ?_)
              refine lv_goto (tgt := 2) hx hb dX3_goHome_68 (by decide) ?_
              exact ihlpo (i + 1) (cpN u1 1 2 i) H locs ls (by omega) heq hP hS (lv_sub hl [0, 2] rfl)
            | succ nlpi ihlpi =>
              intro k H locs ls hinlpi hP hS hl
              have hD : va_D (mA g) (rW g cI cZ cB acc lm rm (va_up (mF u1.1 u1.2.1 u1.2.2.1 wk ou) 2 (pr (u1.1 1) i (u1.1 2 i) k)) u1.2.2.2) := mlD hok
              have hiwlpi : k < 22 := by omega
              refine lv_iload_n hx hb dX3_goHome_31 rfl (lv_at hl 0 rfl) ?_
              refine lv_bipush (v := 22) hx hb dX3_goHome_32 (by decide) ?_
              refine lv_icmp_ge (tgt := 65) hx hb dX3_goHome_34 (by decide) (fun c9 => absurd c9 (nI_ge (b := 22) hiwlpi (by omega))) (fun _ => ?_)
              refine lv_aload_n hx hb dX3_goHome_37 rfl (lv_at hl 2 rfl) ?_
              refine va_get (D := D) (ci := 3) (v := .ref (g 2)) (C := RX3) (T := TX3) (N := 18) hx hb hts hi3 hown hK hP 0 (wl_at (by omega)) rfl 5 (by decide) (hts (.fieldLink RX3 17 "BigLedgerModel" "home" "[I") (by decide +kernel)) (fun _ h9 => h9) rfl dX3_goHome_38 ?_
              refine lv_bipush (v := 22) hx hb dX3_goHome_41 (by decide) ?_
              refine lv_iload_n hx hb dX3_goHome_43 rfl (lv_at hl 1 rfl) ?_
              refine lv_imul hx hb dX3_goHome_44 ?_
              refine lv_topi (fun y6 ey6 => ?_)
              replace ey6 : y6 = nI (22 * i) := ey6.trans (pk_mul 22 i)
              subst ey6
              refine lv_iload_n hx hb dX3_goHome_45 rfl (lv_at hl 0 rfl) ?_
              refine lv_iadd hx hb dX3_goHome_46 ?_
              refine lv_topi (fun y7 ey7 => ?_)
              replace ey7 : y7 = nI (22 * i + k) := ey7.trans (nI_add _ _)
              subst ey7
              refine lv_aload_n hx hb dX3_goHome_47 rfl (lv_at hl 2 rfl) ?_
              refine va_get (D := D) (ci := 3) (v := .ref (g 3)) (C := RX3) (T := TX3) (N := 18) hx hb hts hi3 hown hK hP 0 (wl_at (by omega)) rfl 6 (by decide) (hts (.fieldLink RX3 20 "BigLedgerModel" "log" "[I") (by decide +kernel)) (fun _ h9 => h9) rfl dX3_goHome_48 ?_
              refine lv_bipush (v := 22) hx hb dX3_goHome_51 (by decide) ?_
              refine lv_iload_n hx hb dX3_goHome_53 rfl (lv_at hl 1 rfl) ?_
              refine lv_imul hx hb dX3_goHome_54 ?_
              refine lv_topi (fun y8 ey8 => ?_)
              replace ey8 : y8 = nI (22 * i) := ey8.trans (pk_mul 22 i)
              subst ey8
              refine lv_iload_n hx hb dX3_goHome_55 rfl (lv_at hl 0 rfl) ?_
              refine lv_iadd hx hb dX3_goHome_56 ?_
              refine lv_topi (fun y9 ey9 => ?_)
              replace ey9 : y9 = nI (22 * i + k) := ey9.trans (nI_add _ _)
              subst ey9
              refine va_iald hx hb hK hP 3 0 (wl_at (by omega)) rfl (vp_in_nI (by omega) (by omega)) dX3_goHome_57 ?_
              refine lv_topi (fun y10 ey10 => ?_)
              replace ey10 : y10 = lb (u1.1 2 i) k := ey10.trans (by rw [nI_clamp (by omega)]; exact rowF_at (u1.1 2) hiwlpi)
              subst ey10
              refine va_iast hx hb hK hP hD hS 2 0 (wl_at (by omega)) rfl (vp_in_nI (by omega) (by omega)) dX3_goHome_58 (fun H locs hP hD hS => ?_)
              have hP : va_P D vwCl (rW g cI cZ cB acc lm rm (va_up (va_up (mF u1.1 u1.2.1 u1.2.2.1 wk ou) 2 (pr (u1.1 1) i (u1.1 2 i) k)) 2 (upd ((va_up (mF u1.1 u1.2.1 u1.2.2.1 wk ou) 2 (pr (u1.1 1) i (u1.1 2 i) k)) 2) (nI (22 * i + k)).toNatClampNeg (lb (u1.1 2 i) k))) u1.2.2.2) H := cv (ms_a2 (upd ((va_up (mF u1.1 u1.2.1 u1.2.2.1 wk ou) 2 (pr (u1.1 1) i (u1.1 2 i) k)) 2) (nI (22 * i + k)).toNatClampNeg (lb (u1.1 2 i) k))) hP
              have hD : va_D (mA g) (rW g cI cZ cB acc lm rm (va_up (va_up (mF u1.1 u1.2.1 u1.2.2.1 wk ou) 2 (pr (u1.1 1) i (u1.1 2 i) k)) 2 (upd ((va_up (mF u1.1 u1.2.1 u1.2.2.1 wk ou) 2 (pr (u1.1 1) i (u1.1 2 i) k)) 2) (nI (22 * i + k)).toNatClampNeg (lb (u1.1 2 i) k))) u1.2.2.2) := mlD hok
              have hP : va_P D vwCl (rW g cI cZ cB acc lm rm (va_up (mF u1.1 u1.2.1 u1.2.2.1 wk ou) 2 (pr (u1.1 1) i (u1.1 2 i) (k + 1))) u1.2.2.2) H := rW_congr hP (fun q9 h1 h2 j hj => by
                match q9 with
                | 1 => rfl
                | 2 =>
                  show upd (pr (u1.1 1) i (u1.1 2 i) k) (nI (22 * i + k)).toNatClampNeg (lb (u1.1 2 i) k) j = pr (u1.1 1) i (u1.1 2 i) (k + 1) j
                  rw [nI_clamp (by omega), pr_s rfl]
                | 3 => rfl
                | 4 => rfl
                | 5 => rfl
                | 6 => rfl
                | 7 => rfl
                | 8 => rfl
                | 0 => omega
                | q9 + 9 => omega)
              have hD : va_D (mA g) (rW g cI cZ cB acc lm rm (va_up (mF u1.1 u1.2.1 u1.2.2.1 wk ou) 2 (pr (u1.1 1) i (u1.1 2 i) (k + 1))) u1.2.2.2) := mlD hok
              refine lv_iinc (v := nI (k + 1)) (lv' := [(2, .int (nI (k + 1))), (1, .int (nI i)), (0, .ref (g 0))]) hx hb dX3_goHome_59 hl (k := 0) rfl (nI_1 k) (by decide) rfl (fun ls hl => ?_)
              refine lv_goto (tgt := 31) hx hb dX3_goHome_62 (by decide) ?_
              exact ihlpi (k + 1) H locs ls (by omega) hP hS hl
          have hP : va_P D vwCl (rW g cI cZ cB acc lm rm (va_up (mF u1.1 u1.2.1 u1.2.2.1 wk ou) 2 (pr (u1.1 1) i (u1.1 2 i) 0)) u1.2.2.2) H := rW_congr hP (fun q9 h1 h2 j hj => by
            match q9 with
            | 1 => rfl
            | 2 =>
              exact (congrFun (pr_0 (u1.1 1) i (u1.1 2 i)) j).symm
            | 3 => rfl
            | 4 => rfl
            | 5 => rfl
            | 6 => rfl
            | 7 => rfl
            | 8 => rfl
            | 0 => omega
            | q9 + 9 => omega)
          have hD : va_D (mA g) (rW g cI cZ cB acc lm rm (va_up (mF u1.1 u1.2.1 u1.2.2.1 wk ou) 2 (pr (u1.1 1) i (u1.1 2 i) 0)) u1.2.2.2) := mlD hok
          exact lpi 22 0 H locs ls rfl hP hS hl
        · refine lv_iconst (v := 0) hx hb dX3_goHome_27 (by decide) ?_
          exact W.zret (v := 0) (ty := .boolean) hx hb hr (rfl) (fun t ht hW => ⟨⟨_, u1, rfl, by rw [mGo, ← heq]; refine Eq.trans ?_ (if_pos (by rw [if_pos c2])).symm; rw [if_pos c2], hp_at ht hP⟩, hS.F ht⟩) hS.2.2 dX3_goHome_28
      · replace c1 : ¬ S.2.2.1 1 i = true := tb_eq0.mp c1
        rw [gHl, if_neg c1] at heq
        refine lv_goto (tgt := 65) hx hb dX3_goHome_17 (by decide) ?_
        refine lv_iinc (v := nI (i + 1)) (lv' := [(1, .int (nI (i + 1))), (0, .ref (g 0))]) hx hb dX3_goHome_65 hl (k := 0) rfl (nI_1 i) (by decide) rfl (fun ls hl => ?_)
        refine lv_goto (tgt := 2) hx hb dX3_goHome_68 (by decide) ?_
        exact ihlpo (i + 1) S H locs ls (by omega) heq hP hS hl
  exact lpo 25 0 (N, am, T, y) s.heap [] ls rfl rfl hP hS hl
set_option maxHeartbeats 4000000 in
set_option maxRecDepth 100000 in
theorem m_format (l : Launch) (D : va_G) (g : Nat → Nat) (cI cZ cB : ClassId) (acc lm rm : Nat) (N : LN) (am : Nat) (T : BN) (wk ou y : Nat → Int32) (hok : mOk g) (hacc : acc ≤ 24) : Met l yX3_format wsX3_format ({ frames := 4, cells := 0, slots := 0, locals := 81 }) (nPc [.ref (g 0)] D (rW g cI cZ cB acc lm rm (mF N am T wk ou) y) [(cI, .int), (cZ, .boolean), (cB, .byte)]) (va_Qi (fun (r : Int32) (u : MS) => (r, u) = mFormat acc (N, am, T, y)) (fun u t => va_P D vwCl (rW g cI cZ cB acc lm rm (mF u.1 u.2.1 u.2.2.1 wk ou) u.2.2.2) t.heap) (mA g)) 0 0 (mA g) := by
  refine Met.ofW (cc := cX3_format) (maxL := 3) (ret := (some .boolean)) (by decide) rfl ?_
  intro p e s m args below meth c s₁ B hml hv
  obtain ⟨rfl, hP, hK⟩ := hv
  have hx := B.exec
  have hb := B.bytes
  have hr := B.returns
  have hts := atoms_spec (ws := wsX3_format) B.pre
  have hown : s.vm.findClass RX3 = some m.cls := findClass_of_methodNamed B.named
  have hlocks := B.notSynchronized
  have hi3 : ∀ w ∈ wsX30, w ∈ wsX3_format := by decide +kernel
  have hS : va_S (mA g) s.heap s.heap [] := va_S.rf
  have hD : va_D (mA g) (rW g cI cZ cB acc lm rm (mF N am T wk ou) y) := mlD hok
  have hl := lv_entry ([.ref (g 0)]) (n := 3) (Nat.le_of_ble_eq_true rfl)
  rw [lg_entry_eq]
  generalize (lg_sl ([.ref (g 0)]) ++ List.replicate (3 - (lg_sl ([.ref (g 0)])).length) Slot.unset).toArray = ls at hl ⊢
  have hl : lv_has ls 3 [(0, .ref (g 0))] := hl
  refine lv_aload_n hx hb dX3_format_0 rfl (lv_at hl 0 rfl) ?_
  refine lv_iconst (v := 0) hx hb dX3_format_1 (by decide) ?_
  refine va_put (D := D) (ci := 3) (v := .int ((0 : Int32))) (ty := .int) (C := RX3) (T := TX3) (N := 18) hx hb hts hi3 tyX3 tyX3_ok nmX3 hown hK hP hD hS 0 (wl_at (by omega)) rfl 0 (by decide) (hts (.fieldLink RX3 1 "BigLedgerModel" "thrown" "I") (by decide +kernel)) (fun _ h9 => h9) rfl (by decide +kernel) (rfl) (rfl) (Nat.le_of_ble_eq_true rfl) dX3_format_2 (fun H locs hP hD hS => ?_)
  have hP : va_P D vwCl (rW g cI cZ cB acc lm rm (mF N am T wk ou) (va_up y 0 (0 : Int32))) H := cv (ms_f 0 (0 : Int32) (by decide)) hP
  have hD : va_D (mA g) (rW g cI cZ cB acc lm rm (mF N am T wk ou) (va_up y 0 (0 : Int32))) := mlD hok
  refine lv_aload_n hx hb dX3_format_5 rfl (lv_at hl 0 rfl) ?_
  refine va_calli (va_runV (As := []) (rest := []) ⟨hx, hb, hml, hown, hts⟩ (m_writes l D g cI cZ cB acc lm rm N am T wk ou (va_up y 0 0) hok hacc) (cwV 0 hts gX3_format_X3_writes rfl rfl rfl (by decide +kernel) ⟨Nat.le_of_ble_eq_true rfl, Nat.le_of_ble_eq_true rfl⟩) ⟨nPc_blind, va_recv hK hP (ci := 3) (q0 := 0) rfl (wl_at (by omega)), nPc_use (hP) hK⟩ rfl rfl hl.1 rfl (lv_room (Nat.le_of_ble_eq_true rfl)) dX3_format_6 ⟨Nat.le_of_ble_eq_true rfl, Nat.le_of_ble_eq_true rfl⟩) hS (fun q _ h => (fun _ h => h) q h) (fun _ h => h) (fun rr1 u1 t H1 locs ht hvm hw1 hB hz1 hk9 hS => ?_)
  generalize H1 = H at ht hz1 hk9 hS ⊢
  have hP : va_P D vwCl (rW g cI cZ cB acc lm rm (mF u1.1 u1.2.1 u1.2.2.1 wk ou) u1.2.2.2) H := pB_at ht hB
  have hD : va_D (mA g) (rW g cI cZ cB acc lm rm (mF u1.1 u1.2.1 u1.2.2.1 wk ou) u1.2.2.2) := mlD hok
  replace hw1 : (rr1, u1) = mWr (setY (N, am, T, y) 0 0) := hw1
  refine lv_if_ne (tgt := 14) hx hb dX3_format_9 (by decide) (fun c1 => ?_) (fun c1 => ?_)
  · have e1 : mFormat acc (N, am, T, y) = andM mEmp (andM (fLp acc 25 0) (andM mWr (fun S => (1, setY (mForget (setY S 2 1)) 1 1)))) (setY u1 2 0) := by
      rw [mFormat, andM, ← hw1]
      exact if_neg c1
    refine lv_aload_n hx hb dX3_format_14 rfl (lv_at hl 0 rfl) ?_
    refine lv_iconst (v := 0) hx hb dX3_format_15 (by decide) ?_
    refine va_put (D := D) (ci := 3) (v := .int ((0 : Int32))) (ty := .boolean) (C := RX3) (T := TX3) (N := 18) hx hb hts hi3 tyX3 tyX3_ok nmX3 hown hK hP hD hS 0 (wl_at (by omega)) rfl 12 (by decide) (hts (.fieldLink RX3 74 "BigLedgerModel" "formatted" "Z") (by decide +kernel)) (fun _ h9 => h9) rfl (by decide +kernel) (rfl) (rfl) (Nat.le_of_ble_eq_true rfl) dX3_format_16 (fun H locs hP hD hS => ?_)
    have hP : va_P D vwCl (rW g cI cZ cB acc lm rm (mF u1.1 u1.2.1 u1.2.2.1 wk ou) (va_up u1.2.2.2 2 (0 : Int32))) H := cv (ms_f 2 (0 : Int32) (by decide)) hP
    have hD : va_D (mA g) (rW g cI cZ cB acc lm rm (mF u1.1 u1.2.1 u1.2.2.1 wk ou) (va_up u1.2.2.2 2 (0 : Int32))) := mlD hok
    refine lv_aload_n hx hb dX3_format_19 rfl (lv_at hl 0 rfl) ?_
    refine va_calli (va_runV (As := []) (rest := []) ⟨hx, hb, hml, hown, hts⟩ (m_emptyLog l D g cI cZ cB acc lm rm u1.1 u1.2.1 u1.2.2.1 wk ou (va_up u1.2.2.2 2 0) hok hacc) (cwV 0 hts gX3_format_X3_emptyLog rfl rfl rfl (by decide +kernel) ⟨Nat.le_of_ble_eq_true rfl, Nat.le_of_ble_eq_true rfl⟩) ⟨nPc_blind, va_recv hK hP (ci := 3) (q0 := 0) rfl (wl_at (by omega)), nPc_use (hP) hK⟩ rfl rfl hl.1 rfl (lv_room (Nat.le_of_ble_eq_true rfl)) dX3_format_20 ⟨Nat.le_of_ble_eq_true rfl, Nat.le_of_ble_eq_true rfl⟩) hS (fun q _ h => (fun _ h => h) q h) (fun _ h => h) (fun rr2 u2 t H1 locs ht hvm hw2 hB hz1 hk9 hS => ?_)
    generalize H1 = H at ht hz1 hk9 hS ⊢
    have hP : va_P D vwCl (rW g cI cZ cB acc lm rm (mF u2.1 u2.2.1 u2.2.2.1 wk ou) u2.2.2.2) H := pB_at ht hB
    have hD : va_D (mA g) (rW g cI cZ cB acc lm rm (mF u2.1 u2.2.1 u2.2.2.1 wk ou) u2.2.2.2) := mlD hok
    replace hw2 : (rr2, u2) = mEmp (setY u1 2 0) := hw2
    refine lv_if_ne (tgt := 28) hx hb dX3_format_23 (by decide) (fun c2 => ?_) (fun c2 => ?_)
    · have e2 : mFormat acc (N, am, T, y) = andM (fLp acc 25 0) (andM mWr (fun S => (1, setY (mForget (setY S 2 1)) 1 1))) u2 := by
        rw [e1, andM, ← hw2]
        exact if_neg c2
      refine lv_iconst (v := 0) hx hb dX3_format_28 (by decide) ?_
      refine lv_istore_n (lv' := [(1, .int ((0 : Int32))), (0, .ref (g 0))]) hx hb dX3_format_29 rfl hl (by decide) rfl (fun ls hl => ?_)
      have lpo : ∀ (nlpo i : Nat) (S : MS) (H : Heap) (locs : List Loc) (ls : Array Slot), i + nlpo = 25 → fLp acc nlpo i S = fLp acc 25 0 u2 → va_P D vwCl (rW g cI cZ cB acc lm rm (mF S.1 S.2.1 S.2.2.1 wk ou) S.2.2.2) H → va_S (mA g) s.heap H locs → lv_has ls 3 [(1, .int (nI i)), (0, .ref (g 0))] → W p l e (headSpec wsX3_format ({ frames := 4, cells := 0, slots := 0, locals := 81 })).room s m ([.ref (g 0)]).toArray below meth c H locs 0 0 (MQ below (va_Qi (fun (r : Int32) (u : MS) => (r, u) = mFormat acc (N, am, T, y)) (fun u t => va_P D vwCl (rW g cI cZ cB acc lm rm (mF u.1 u.2.1 u.2.2.1 wk ou) u.2.2.2) t.heap) (mA g)) ([.ref (g 0)]).toArray s 0 0 (mA g)) (F0 m 30 ls []) := by
        intro nlpo
        induction nlpo with
        | zero =>
          intro i S H locs ls hinlpo heq hP hS hl
          have hD : va_D (mA g) (rW g cI cZ cB acc lm rm (mF S.1 S.2.1 S.2.2.1 wk ou) S.2.2.2) := mlD hok
          refine lv_iload_n hx hb dX3_format_30 rfl (lv_at hl 0 rfl) ?_
          refine lv_bipush (v := 25) hx hb dX3_format_31 (by decide) ?_
          refine lv_icmp_ge (tgt := 94) hx hb dX3_format_33 (by decide) (fun _ => ?_) (fun c9 => absurd (nI_le (a := 25) (by omega) (by omega)) c9)
          refine lv_aload_n hx hb dX3_format_94 rfl (lv_at hl 1 rfl) ?_
          have e3 : mFormat acc (N, am, T, y) = andM mWr (fun S => (1, setY (mForget (setY S 2 1)) 1 1)) S := by
            rw [e2, andM, ← heq]
            exact if_neg i_1ne0
          refine va_calli (va_runV (As := []) (rest := []) ⟨hx, hb, hml, hown, hts⟩ (m_writes l D g cI cZ cB acc lm rm S.1 S.2.1 S.2.2.1 wk ou S.2.2.2 hok hacc) (cwV 0 hts gX3_format_X3_writes rfl rfl rfl (by decide +kernel) ⟨Nat.le_of_ble_eq_true rfl, Nat.le_of_ble_eq_true rfl⟩) ⟨nPc_blind, va_recv hK hP (ci := 3) (q0 := 0) rfl (wl_at (by omega)), nPc_use (hP) hK⟩ rfl rfl hl.1 rfl (lv_room (Nat.le_of_ble_eq_true rfl)) dX3_format_95 ⟨Nat.le_of_ble_eq_true rfl, Nat.le_of_ble_eq_true rfl⟩) hS (fun q _ h => (fun _ h => h) q h) (fun _ h => h) (fun rr4 u4 t H1 locs ht hvm hw4 hB hz1 hk9 hS => ?_)
          generalize H1 = H at ht hz1 hk9 hS ⊢
          have hP : va_P D vwCl (rW g cI cZ cB acc lm rm (mF u4.1 u4.2.1 u4.2.2.1 wk ou) u4.2.2.2) H := pB_at ht hB
          have hD : va_D (mA g) (rW g cI cZ cB acc lm rm (mF u4.1 u4.2.1 u4.2.2.1 wk ou) u4.2.2.2) := mlD hok
          replace hw4 : (rr4, u4) = mWr (S) := hw4
          refine lv_if_ne (tgt := 103) hx hb dX3_format_98 (by decide) (fun c4 => ?_) (fun c4 => ?_)
          · refine lv_aload_n hx hb dX3_format_103 rfl (lv_at hl 1 rfl) ?_
            refine lv_iconst (v := 1) hx hb dX3_format_104 (by decide) ?_
            refine va_put (D := D) (ci := 3) (v := .int ((1 : Int32))) (ty := .boolean) (C := RX3) (T := TX3) (N := 18) hx hb hts hi3 tyX3 tyX3_ok nmX3 hown hK hP hD hS 0 (wl_at (by omega)) rfl 12 (by decide) (hts (.fieldLink RX3 74 "BigLedgerModel" "formatted" "Z") (by decide +kernel)) (fun _ h9 => h9) rfl (by decide +kernel) (rfl) (rfl) (Nat.le_of_ble_eq_true rfl) dX3_format_105 (fun H locs hP hD hS => ?_)
            have hP : va_P D vwCl (rW g cI cZ cB acc lm rm (mF u4.1 u4.2.1 u4.2.2.1 wk ou) (va_up u4.2.2.2 2 (1 : Int32))) H := cv (ms_f 2 (1 : Int32) (by decide)) hP
            have hD : va_D (mA g) (rW g cI cZ cB acc lm rm (mF u4.1 u4.2.1 u4.2.2.1 wk ou) (va_up u4.2.2.2 2 (1 : Int32))) := mlD hok
            refine lv_aload_n hx hb dX3_format_108 rfl (lv_at hl 1 rfl) ?_
            refine va_callv (va_runV (As := []) (rest := []) ⟨hx, hb, hml, hown, hts⟩ (m_forget l D g cI cZ cB acc lm rm u4.1 u4.2.1 u4.2.2.1 wk ou (va_up u4.2.2.2 2 1) hok hacc) (cwV 0 hts gX3_format_X3_forget rfl rfl rfl (by decide +kernel) ⟨Nat.le_of_ble_eq_true rfl, Nat.le_of_ble_eq_true rfl⟩) ⟨nPc_blind, va_recv hK hP (ci := 3) (q0 := 0) rfl (wl_at (by omega)), nPc_use (hP) hK⟩ rfl rfl hl.1 rfl (lv_room (Nat.le_of_ble_eq_true rfl)) dX3_format_109 ⟨Nat.le_of_ble_eq_true rfl, Nat.le_of_ble_eq_true rfl⟩) hS (fun q _ h => (fun _ h => h) q h) (fun _ h => h) (fun _u t H1 locs ht hvm hw hB hz1 hk9 hS => ?_)
            generalize H1 = H at ht hz1 hk9 hS ⊢
            have hP : va_P D vwCl (rW g cI cZ cB acc lm rm (mF (va_up u4.1 0 (u4.1 1)) 0 (va_up u4.2.2.1 0 (fun _ => false)) wk ou) (va_up u4.2.2.2 2 (1 : Int32))) H := pB_at ht hB
            have hD : va_D (mA g) (rW g cI cZ cB acc lm rm (mF (va_up u4.1 0 (u4.1 1)) 0 (va_up u4.2.2.1 0 (fun _ => false)) wk ou) (va_up u4.2.2.2 2 (1 : Int32))) := mlD hok
            refine lv_aload_n hx hb dX3_format_112 rfl (lv_at hl 1 rfl) ?_
            refine lv_iconst (v := 1) hx hb dX3_format_113 (by decide) ?_
            refine va_put (D := D) (ci := 3) (v := .int ((1 : Int32))) (ty := .boolean) (C := RX3) (T := TX3) (N := 18) hx hb hts hi3 tyX3 tyX3_ok nmX3 hown hK hP hD hS 0 (wl_at (by omega)) rfl 11 (by decide) (hts (.fieldLink RX3 52 "BigLedgerModel" "up" "Z") (by decide +kernel)) (fun _ h9 => h9) rfl (by decide +kernel) (rfl) (rfl) (Nat.le_of_ble_eq_true rfl) dX3_format_114 (fun H locs hP hD hS => ?_)
            have hP : va_P D vwCl (rW g cI cZ cB acc lm rm (mF (va_up u4.1 0 (u4.1 1)) 0 (va_up u4.2.2.1 0 (fun _ => false)) wk ou) (va_up (va_up u4.2.2.2 2 (1 : Int32)) 1 (1 : Int32))) H := cv (ms_f 1 (1 : Int32) (by decide)) hP
            have hD : va_D (mA g) (rW g cI cZ cB acc lm rm (mF (va_up u4.1 0 (u4.1 1)) 0 (va_up u4.2.2.1 0 (fun _ => false)) wk ou) (va_up (va_up u4.2.2.2 2 (1 : Int32)) 1 (1 : Int32))) := mlD hok
            refine lv_iconst (v := 1) hx hb dX3_format_117 (by decide) ?_
            exact W.zret (v := 1) (ty := .boolean) hx hb hr (rfl) (fun t ht hW => ⟨⟨_, setY (mForget (setY u4 2 1)) 1 1, rfl, by rw [e3, andM, ← hw4]; exact (if_neg c4).symm, hp_at ht hP⟩, hS.F ht⟩) hS.2.2 dX3_format_118
          · refine lv_iconst (v := 0) hx hb dX3_format_101 (by decide) ?_
            exact W.zret (v := 0) (ty := .boolean) hx hb hr (rfl) (fun t ht hW => ⟨⟨_, u4, rfl, by rw [e3, andM, ← hw4]; exact (if_pos c4).symm, hp_at ht hP⟩, hS.F ht⟩) hS.2.2 dX3_format_102
        | succ nlpo ihlpo =>
          intro i S H locs ls hinlpo heq hP hS hl
          have hD : va_D (mA g) (rW g cI cZ cB acc lm rm (mF S.1 S.2.1 S.2.2.1 wk ou) S.2.2.2) := mlD hok
          have hiwlpo : i < 25 := by omega
          refine lv_iload_n hx hb dX3_format_30 rfl (lv_at hl 0 rfl) ?_
          refine lv_bipush (v := 25) hx hb dX3_format_31 (by decide) ?_
          refine lv_icmp_ge (tgt := 94) hx hb dX3_format_33 (by decide) (fun c9 => absurd c9 (nI_ge (b := 25) hiwlpo (by omega))) (fun _ => ?_)
          refine lv_iload_n hx hb dX3_format_36 rfl (lv_at hl 0 rfl) ?_
          refine lv_aload_n hx hb dX3_format_37 rfl (lv_at hl 1 rfl) ?_
          refine va_get (D := D) (ci := 3) (v := .int (nI acc)) (C := RX3) (T := TX3) (N := 18) hx hb hts hi3 hown hK hP 0 (wl_at (by omega)) rfl 1 (by decide) (hts (.fieldLink RX3 43 "BigLedgerModel" "accounts" "I") (by decide +kernel)) (fun _ h9 => h9) rfl dX3_format_38 ?_
          refine lv_icmp_lt (tgt := 53) hx hb dX3_format_41 (by decide) (fun c5 => ?_) (fun c5 => ?_)
          · have hnot : ¬ (acc ≤ i ∧ i < 24) := fun q => absurd ((nI_ltI (by omega) (by omega)).mp c5) (by omega)
            rw [fLp, if_neg hnot] at heq
            refine lv_aload_n hx hb dX3_format_53 rfl (lv_at hl 1 rfl) ?_
            refine va_calli (va_runV (As := []) (rest := []) ⟨hx, hb, hml, hown, hts⟩ (m_writes l D g cI cZ cB acc lm rm S.1 S.2.1 S.2.2.1 wk ou S.2.2.2 hok hacc) (cwV 0 hts gX3_format_X3_writes rfl rfl rfl (by decide +kernel) ⟨Nat.le_of_ble_eq_true rfl, Nat.le_of_ble_eq_true rfl⟩) ⟨nPc_blind, va_recv hK hP (ci := 3) (q0 := 0) rfl (wl_at (by omega)), nPc_use (hP) hK⟩ rfl rfl hl.1 rfl (lv_room (Nat.le_of_ble_eq_true rfl)) dX3_format_54 ⟨Nat.le_of_ble_eq_true rfl, Nat.le_of_ble_eq_true rfl⟩) hS (fun q _ h => (fun _ h => h) q h) (fun _ h => h) (fun rr5 u5 t H1 locs ht hvm hw5 hB hz1 hk9 hS => ?_)
            generalize H1 = H at ht hz1 hk9 hS ⊢
            have hP : va_P D vwCl (rW g cI cZ cB acc lm rm (mF u5.1 u5.2.1 u5.2.2.1 wk ou) u5.2.2.2) H := pB_at ht hB
            have hD : va_D (mA g) (rW g cI cZ cB acc lm rm (mF u5.1 u5.2.1 u5.2.2.1 wk ou) u5.2.2.2) := mlD hok
            replace hw5 : (rr5, u5) = mWr (S) := hw5
            rw [← hw5] at heq
            refine lv_if_ne (tgt := 62) hx hb dX3_format_57 (by decide) (fun c7 => ?_) (fun c7 => ?_)
            · rw [if_neg c7] at heq
              refine lv_iconst (v := 0) hx hb dX3_format_62 (by decide) ?_
              refine lv_istore_n (lv' := [(2, .int ((0 : Int32))), (1, .int (nI i)), (0, .ref (g 0))]) hx hb dX3_format_63 rfl hl (by decide) rfl (fun ls hl => ?_)
              have lpi : ∀ (nlpi k : Nat) (H : Heap) (locs : List Loc) (ls : Array Slot), k + nlpi = 22 → va_P D vwCl (rW g cI cZ cB acc lm rm (va_up (mF u5.1 u5.2.1 u5.2.2.1 wk ou) 2 (pr (u5.1 1) i 0 k)) u5.2.2.2) H → va_S (mA g) s.heap H locs → lv_has ls 3 [(2, .int (nI k)), (1, .int (nI i)), (0, .ref (g 0))] → W p l e (headSpec wsX3_format ({ frames := 4, cells := 0, slots := 0, locals := 81 })).room s m ([.ref (g 0)]).toArray below meth c H locs 0 0 (MQ below (va_Qi (fun (r : Int32) (u : MS) => (r, u) = mFormat acc (N, am, T, y)) (fun u t => va_P D vwCl (rW g cI cZ cB acc lm rm (mF u.1 u.2.1 u.2.2.1 wk ou) u.2.2.2) t.heap) (mA g)) ([.ref (g 0)]).toArray s 0 0 (mA g)) (F0 m 64 ls []) := by
                intro nlpi
                induction nlpi with
                | zero =>
                  intro k H locs ls hinlpi hP hS hl
                  have hD : va_D (mA g) (rW g cI cZ cB acc lm rm (va_up (mF u5.1 u5.2.1 u5.2.2.1 wk ou) 2 (pr (u5.1 1) i 0 k)) u5.2.2.2) := mlD hok
                  refine lv_iload_n hx hb dX3_format_64 rfl (lv_at hl 0 rfl) ?_
                  refine lv_bipush (v := 22) hx hb dX3_format_65 (by decide) ?_
                  refine lv_icmp_ge (tgt := 88) hx hb dX3_format_67 (by decide) (fun _ => ?_) (fun c9 => absurd (nI_le (a := 22) (by omega) (by omega)) c9)
                  have e9 : k = 22 := by omega
                  subst e9
                  have hP : va_P D vwCl (rW g cI cZ cB acc lm rm (mF (zeN u5 i).1 (zeN u5 i).2.1 (zeN u5 i).2.2.1 wk ou) u5.2.2.2) H := rW_congr hP (fun q9 h1 h2 j hj => by
                    match q9 with
                    | 1 => rfl
                    | 2 =>
                      exact congrFun (pr_end (u5.1 1) i 0) j
                    | 3 => rfl
                    | 4 => rfl
                    | 5 => rfl
                    | 6 => rfl
                    | 7 => rfl
                    | 8 => rfl
                    | 0 => omega
                    | q9 + 9 => omega)
                  have hD : va_D (mA g) (rW g cI cZ cB acc lm rm (mF (zeN u5 i).1 (zeN u5 i).2.1 (zeN u5 i).2.2.1 wk ou) u5.2.2.2) := mlD hok
                  refine lv_iinc (v := nI (i + 1)) (lv' := [(1, .int (nI (i + 1))), (2, .int (nI 22)), (0, .ref (g 0))]) hx hb dX3_format_88 hl (k := 1) rfl (nI_1 i) (by decide) rfl (fun ls hl => ?_)
                  refine lv_goto (tgt := 30) hx hb dX3_format_91 (by decide) ?_
                  exact ihlpo (i + 1) (zeN u5 i) H locs ls (by omega) heq hP hS (lv_sub hl [0, 2] rfl)
                | succ nlpi ihlpi =>
                  intro k H locs ls hinlpi hP hS hl
                  have hD : va_D (mA g) (rW g cI cZ cB acc lm rm (va_up (mF u5.1 u5.2.1 u5.2.2.1 wk ou) 2 (pr (u5.1 1) i 0 k)) u5.2.2.2) := mlD hok
                  have hiwlpi : k < 22 := by omega
                  refine lv_iload_n hx hb dX3_format_64 rfl (lv_at hl 0 rfl) ?_
                  refine lv_bipush (v := 22) hx hb dX3_format_65 (by decide) ?_
                  refine lv_icmp_ge (tgt := 88) hx hb dX3_format_67 (by decide) (fun c9 => absurd c9 (nI_ge (b := 22) hiwlpi (by omega))) (fun _ => ?_)
                  refine lv_aload_n hx hb dX3_format_70 rfl (lv_at hl 2 rfl) ?_
                  refine va_get (D := D) (ci := 3) (v := .ref (g 2)) (C := RX3) (T := TX3) (N := 18) hx hb hts hi3 hown hK hP 0 (wl_at (by omega)) rfl 5 (by decide) (hts (.fieldLink RX3 17 "BigLedgerModel" "home" "[I") (by decide +kernel)) (fun _ h9 => h9) rfl dX3_format_71 ?_
                  refine lv_bipush (v := 22) hx hb dX3_format_74 (by decide) ?_
                  refine lv_iload_n hx hb dX3_format_76 rfl (lv_at hl 1 rfl) ?_
                  refine lv_imul hx hb dX3_format_77 ?_
                  refine lv_topi (fun y11 ey11 => ?_)
                  replace ey11 : y11 = nI (22 * i) := ey11.trans (pk_mul 22 i)
                  subst ey11
                  refine lv_iload_n hx hb dX3_format_78 rfl (lv_at hl 0 rfl) ?_
                  refine lv_iadd hx hb dX3_format_79 ?_
                  refine lv_topi (fun y12 ey12 => ?_)
                  replace ey12 : y12 = nI (22 * i + k) := ey12.trans (nI_add _ _)
                  subst ey12
                  refine lv_iconst (v := 0) hx hb dX3_format_80 (by decide) ?_
                  refine va_iast hx hb hK hP hD hS 2 0 (wl_at (by omega)) rfl (vp_in_nI (by omega) (by omega)) dX3_format_81 (fun H locs hP hD hS => ?_)
                  have hP : va_P D vwCl (rW g cI cZ cB acc lm rm (va_up (va_up (mF u5.1 u5.2.1 u5.2.2.1 wk ou) 2 (pr (u5.1 1) i 0 k)) 2 (upd ((va_up (mF u5.1 u5.2.1 u5.2.2.1 wk ou) 2 (pr (u5.1 1) i 0 k)) 2) (nI (22 * i + k)).toNatClampNeg ((0 : Int32)))) u5.2.2.2) H := cv (ms_a2 (upd ((va_up (mF u5.1 u5.2.1 u5.2.2.1 wk ou) 2 (pr (u5.1 1) i 0 k)) 2) (nI (22 * i + k)).toNatClampNeg ((0 : Int32)))) hP
                  have hD : va_D (mA g) (rW g cI cZ cB acc lm rm (va_up (va_up (mF u5.1 u5.2.1 u5.2.2.1 wk ou) 2 (pr (u5.1 1) i 0 k)) 2 (upd ((va_up (mF u5.1 u5.2.1 u5.2.2.1 wk ou) 2 (pr (u5.1 1) i 0 k)) 2) (nI (22 * i + k)).toNatClampNeg ((0 : Int32)))) u5.2.2.2) := mlD hok
                  have hP : va_P D vwCl (rW g cI cZ cB acc lm rm (va_up (mF u5.1 u5.2.1 u5.2.2.1 wk ou) 2 (pr (u5.1 1) i 0 (k + 1))) u5.2.2.2) H := rW_congr hP (fun q9 h1 h2 j hj => by
                    match q9 with
                    | 1 => rfl
                    | 2 =>
                      show upd (pr (u5.1 1) i 0 k) (nI (22 * i + k)).toNatClampNeg 0 j = pr (u5.1 1) i 0 (k + 1) j
                      rw [nI_clamp (by omega), pr_s (show (0 : Int32) = lb 0 k by show (0 : Int32) = nI (lbN 0 k); rw [lbN_of_zero, nI_0])]
                    | 3 => rfl
                    | 4 => rfl
                    | 5 => rfl
                    | 6 => rfl
                    | 7 => rfl
                    | 8 => rfl
                    | 0 => omega
                    | q9 + 9 => omega)
                  have hD : va_D (mA g) (rW g cI cZ cB acc lm rm (va_up (mF u5.1 u5.2.1 u5.2.2.1 wk ou) 2 (pr (u5.1 1) i 0 (k + 1))) u5.2.2.2) := mlD hok
                  refine lv_iinc (v := nI (k + 1)) (lv' := [(2, .int (nI (k + 1))), (1, .int (nI i)), (0, .ref (g 0))]) hx hb dX3_format_82 hl (k := 0) rfl (nI_1 k) (by decide) rfl (fun ls hl => ?_)
                  refine lv_goto (tgt := 64) hx hb dX3_format_85 (by decide) ?_
                  exact ihlpi (k + 1) H locs ls (by omega) hP hS hl
              have hP : va_P D vwCl (rW g cI cZ cB acc lm rm (va_up (mF u5.1 u5.2.1 u5.2.2.1 wk ou) 2 (pr (u5.1 1) i 0 0)) u5.2.2.2) H := rW_congr hP (fun q9 h1 h2 j hj => by
                match q9 with
                | 1 => rfl
                | 2 =>
                  exact (congrFun (pr_0 (u5.1 1) i 0) j).symm
                | 3 => rfl
                | 4 => rfl
                | 5 => rfl
                | 6 => rfl
                | 7 => rfl
                | 8 => rfl
                | 0 => omega
                | q9 + 9 => omega)
              have hD : va_D (mA g) (rW g cI cZ cB acc lm rm (va_up (mF u5.1 u5.2.1 u5.2.2.1 wk ou) 2 (pr (u5.1 1) i 0 0)) u5.2.2.2) := mlD hok
              exact lpi 22 0 H locs ls rfl hP hS hl
            · refine lv_iconst (v := 0) hx hb dX3_format_60 (by decide) ?_
              exact W.zret (v := 0) (ty := .boolean) hx hb hr (rfl) (fun t ht hW => ⟨⟨_, u5, rfl, by rw [e2, andM, ← heq, if_pos c7]; exact (if_pos rfl).symm, hp_at ht hP⟩, hS.F ht⟩) hS.2.2 dX3_format_61
          · refine lv_iload_n hx hb dX3_format_44 rfl (lv_at hl 0 rfl) ?_
            refine lv_bipush (v := 24) hx hb dX3_format_45 (by decide) ?_
            refine lv_icmp_ge (tgt := 53) hx hb dX3_format_47 (by decide) (fun c6 => ?_) (fun c6 => ?_)
            · have hnot : ¬ (acc ≤ i ∧ i < 24) := fun q => absurd ((nI_leI (a := 24) (by omega) (by omega)).mp c6) (by omega)
              rw [fLp, if_neg hnot] at heq
              refine lv_aload_n hx hb dX3_format_53 rfl (lv_at hl 1 rfl) ?_
              refine va_calli (va_runV (As := []) (rest := []) ⟨hx, hb, hml, hown, hts⟩ (m_writes l D g cI cZ cB acc lm rm S.1 S.2.1 S.2.2.1 wk ou S.2.2.2 hok hacc) (cwV 0 hts gX3_format_X3_writes rfl rfl rfl (by decide +kernel) ⟨Nat.le_of_ble_eq_true rfl, Nat.le_of_ble_eq_true rfl⟩) ⟨nPc_blind, va_recv hK hP (ci := 3) (q0 := 0) rfl (wl_at (by omega)), nPc_use (hP) hK⟩ rfl rfl hl.1 rfl (lv_room (Nat.le_of_ble_eq_true rfl)) dX3_format_54 ⟨Nat.le_of_ble_eq_true rfl, Nat.le_of_ble_eq_true rfl⟩) hS (fun q _ h => (fun _ h => h) q h) (fun _ h => h) (fun rr5 u5 t H1 locs ht hvm hw5 hB hz1 hk9 hS => ?_)
              generalize H1 = H at ht hz1 hk9 hS ⊢
              have hP : va_P D vwCl (rW g cI cZ cB acc lm rm (mF u5.1 u5.2.1 u5.2.2.1 wk ou) u5.2.2.2) H := pB_at ht hB
              have hD : va_D (mA g) (rW g cI cZ cB acc lm rm (mF u5.1 u5.2.1 u5.2.2.1 wk ou) u5.2.2.2) := mlD hok
              replace hw5 : (rr5, u5) = mWr (S) := hw5
              rw [← hw5] at heq
              refine lv_if_ne (tgt := 62) hx hb dX3_format_57 (by decide) (fun c7 => ?_) (fun c7 => ?_)
              · rw [if_neg c7] at heq
                refine lv_iconst (v := 0) hx hb dX3_format_62 (by decide) ?_
                refine lv_istore_n (lv' := [(2, .int ((0 : Int32))), (1, .int (nI i)), (0, .ref (g 0))]) hx hb dX3_format_63 rfl hl (by decide) rfl (fun ls hl => ?_)
                have lpi : ∀ (nlpi k : Nat) (H : Heap) (locs : List Loc) (ls : Array Slot), k + nlpi = 22 → va_P D vwCl (rW g cI cZ cB acc lm rm (va_up (mF u5.1 u5.2.1 u5.2.2.1 wk ou) 2 (pr (u5.1 1) i 0 k)) u5.2.2.2) H → va_S (mA g) s.heap H locs → lv_has ls 3 [(2, .int (nI k)), (1, .int (nI i)), (0, .ref (g 0))] → W p l e (headSpec wsX3_format ({ frames := 4, cells := 0, slots := 0, locals := 81 })).room s m ([.ref (g 0)]).toArray below meth c H locs 0 0 (MQ below (va_Qi (fun (r : Int32) (u : MS) => (r, u) = mFormat acc (N, am, T, y)) (fun u t => va_P D vwCl (rW g cI cZ cB acc lm rm (mF u.1 u.2.1 u.2.2.1 wk ou) u.2.2.2) t.heap) (mA g)) ([.ref (g 0)]).toArray s 0 0 (mA g)) (F0 m 64 ls []) := by
                  intro nlpi
                  induction nlpi with
                  | zero =>
                    intro k H locs ls hinlpi hP hS hl
                    have hD : va_D (mA g) (rW g cI cZ cB acc lm rm (va_up (mF u5.1 u5.2.1 u5.2.2.1 wk ou) 2 (pr (u5.1 1) i 0 k)) u5.2.2.2) := mlD hok
                    refine lv_iload_n hx hb dX3_format_64 rfl (lv_at hl 0 rfl) ?_
                    refine lv_bipush (v := 22) hx hb dX3_format_65 (by decide) ?_
                    refine lv_icmp_ge (tgt := 88) hx hb dX3_format_67 (by decide) (fun _ => ?_) (fun c9 => absurd (nI_le (a := 22) (by omega) (by omega)) c9)
                    have e9 : k = 22 := by omega
                    subst e9
                    have hP : va_P D vwCl (rW g cI cZ cB acc lm rm (mF (zeN u5 i).1 (zeN u5 i).2.1 (zeN u5 i).2.2.1 wk ou) u5.2.2.2) H := rW_congr hP (fun q9 h1 h2 j hj => by
                      match q9 with
                      | 1 => rfl
                      | 2 =>
                        exact congrFun (pr_end (u5.1 1) i 0) j
                      | 3 => rfl
                      | 4 => rfl
                      | 5 => rfl
                      | 6 => rfl
                      | 7 => rfl
                      | 8 => rfl
                      | 0 => omega
                      | q9 + 9 => omega)
                    have hD : va_D (mA g) (rW g cI cZ cB acc lm rm (mF (zeN u5 i).1 (zeN u5 i).2.1 (zeN u5 i).2.2.1 wk ou) u5.2.2.2) := mlD hok
                    refine lv_iinc (v := nI (i + 1)) (lv' := [(1, .int (nI (i + 1))), (2, .int (nI 22)), (0, .ref (g 0))]) hx hb dX3_format_88 hl (k := 1) rfl (nI_1 i) (by decide) rfl (fun ls hl => ?_)
                    refine lv_goto (tgt := 30) hx hb dX3_format_91 (by decide) ?_
                    exact ihlpo (i + 1) (zeN u5 i) H locs ls (by omega) heq hP hS (lv_sub hl [0, 2] rfl)
                  | succ nlpi ihlpi =>
                    intro k H locs ls hinlpi hP hS hl
                    have hD : va_D (mA g) (rW g cI cZ cB acc lm rm (va_up (mF u5.1 u5.2.1 u5.2.2.1 wk ou) 2 (pr (u5.1 1) i 0 k)) u5.2.2.2) := mlD hok
                    have hiwlpi : k < 22 := by omega
                    refine lv_iload_n hx hb dX3_format_64 rfl (lv_at hl 0 rfl) ?_
                    refine lv_bipush (v := 22) hx hb dX3_format_65 (by decide) ?_
                    refine lv_icmp_ge (tgt := 88) hx hb dX3_format_67 (by decide) (fun c9 => absurd c9 (nI_ge (b := 22) hiwlpi (by omega))) (fun _ => ?_)
                    refine lv_aload_n hx hb dX3_format_70 rfl (lv_at hl 2 rfl) ?_
                    refine va_get (D := D) (ci := 3) (v := .ref (g 2)) (C := RX3) (T := TX3) (N := 18) hx hb hts hi3 hown hK hP 0 (wl_at (by omega)) rfl 5 (by decide) (hts (.fieldLink RX3 17 "BigLedgerModel" "home" "[I") (by decide +kernel)) (fun _ h9 => h9) rfl dX3_format_71 ?_
                    refine lv_bipush (v := 22) hx hb dX3_format_74 (by decide) ?_
                    refine lv_iload_n hx hb dX3_format_76 rfl (lv_at hl 1 rfl) ?_
                    refine lv_imul hx hb dX3_format_77 ?_
                    refine lv_topi (fun y13 ey13 => ?_)
                    replace ey13 : y13 = nI (22 * i) := ey13.trans (pk_mul 22 i)
                    subst ey13
                    refine lv_iload_n hx hb dX3_format_78 rfl (lv_at hl 0 rfl) ?_
                    refine lv_iadd hx hb dX3_format_79 ?_
                    refine lv_topi (fun y14 ey14 => ?_)
                    replace ey14 : y14 = nI (22 * i + k) := ey14.trans (nI_add _ _)
                    subst ey14
                    refine lv_iconst (v := 0) hx hb dX3_format_80 (by decide) ?_
                    refine va_iast hx hb hK hP hD hS 2 0 (wl_at (by omega)) rfl (vp_in_nI (by omega) (by omega)) dX3_format_81 (fun H locs hP hD hS => ?_)
                    have hP : va_P D vwCl (rW g cI cZ cB acc lm rm (va_up (va_up (mF u5.1 u5.2.1 u5.2.2.1 wk ou) 2 (pr (u5.1 1) i 0 k)) 2 (upd ((va_up (mF u5.1 u5.2.1 u5.2.2.1 wk ou) 2 (pr (u5.1 1) i 0 k)) 2) (nI (22 * i + k)).toNatClampNeg ((0 : Int32)))) u5.2.2.2) H := cv (ms_a2 (upd ((va_up (mF u5.1 u5.2.1 u5.2.2.1 wk ou) 2 (pr (u5.1 1) i 0 k)) 2) (nI (22 * i + k)).toNatClampNeg ((0 : Int32)))) hP
                    have hD : va_D (mA g) (rW g cI cZ cB acc lm rm (va_up (va_up (mF u5.1 u5.2.1 u5.2.2.1 wk ou) 2 (pr (u5.1 1) i 0 k)) 2 (upd ((va_up (mF u5.1 u5.2.1 u5.2.2.1 wk ou) 2 (pr (u5.1 1) i 0 k)) 2) (nI (22 * i + k)).toNatClampNeg ((0 : Int32)))) u5.2.2.2) := mlD hok
                    have hP : va_P D vwCl (rW g cI cZ cB acc lm rm (va_up (mF u5.1 u5.2.1 u5.2.2.1 wk ou) 2 (pr (u5.1 1) i 0 (k + 1))) u5.2.2.2) H := rW_congr hP (fun q9 h1 h2 j hj => by
                      match q9 with
                      | 1 => rfl
                      | 2 =>
                        show upd (pr (u5.1 1) i 0 k) (nI (22 * i + k)).toNatClampNeg 0 j = pr (u5.1 1) i 0 (k + 1) j
                        rw [nI_clamp (by omega), pr_s (show (0 : Int32) = lb 0 k by show (0 : Int32) = nI (lbN 0 k); rw [lbN_of_zero, nI_0])]
                      | 3 => rfl
                      | 4 => rfl
                      | 5 => rfl
                      | 6 => rfl
                      | 7 => rfl
                      | 8 => rfl
                      | 0 => omega
                      | q9 + 9 => omega)
                    have hD : va_D (mA g) (rW g cI cZ cB acc lm rm (va_up (mF u5.1 u5.2.1 u5.2.2.1 wk ou) 2 (pr (u5.1 1) i 0 (k + 1))) u5.2.2.2) := mlD hok
                    refine lv_iinc (v := nI (k + 1)) (lv' := [(2, .int (nI (k + 1))), (1, .int (nI i)), (0, .ref (g 0))]) hx hb dX3_format_82 hl (k := 0) rfl (nI_1 k) (by decide) rfl (fun ls hl => ?_)
                    refine lv_goto (tgt := 64) hx hb dX3_format_85 (by decide) ?_
                    exact ihlpi (k + 1) H locs ls (by omega) hP hS hl
                have hP : va_P D vwCl (rW g cI cZ cB acc lm rm (va_up (mF u5.1 u5.2.1 u5.2.2.1 wk ou) 2 (pr (u5.1 1) i 0 0)) u5.2.2.2) H := rW_congr hP (fun q9 h1 h2 j hj => by
                  match q9 with
                  | 1 => rfl
                  | 2 =>
                    exact (congrFun (pr_0 (u5.1 1) i 0) j).symm
                  | 3 => rfl
                  | 4 => rfl
                  | 5 => rfl
                  | 6 => rfl
                  | 7 => rfl
                  | 8 => rfl
                  | 0 => omega
                  | q9 + 9 => omega)
                have hD : va_D (mA g) (rW g cI cZ cB acc lm rm (va_up (mF u5.1 u5.2.1 u5.2.2.1 wk ou) 2 (pr (u5.1 1) i 0 0)) u5.2.2.2) := mlD hok
                exact lpi 22 0 H locs ls rfl hP hS hl
              · refine lv_iconst (v := 0) hx hb dX3_format_60 (by decide) ?_
                exact W.zret (v := 0) (ty := .boolean) hx hb hr (rfl) (fun t ht hW => ⟨⟨_, u5, rfl, by rw [e2, andM, ← heq, if_pos c7]; exact (if_pos rfl).symm, hp_at ht hP⟩, hS.F ht⟩) hS.2.2 dX3_format_61
            · have hyes : acc ≤ i ∧ i < 24 := ⟨Nat.le_of_not_lt (fun q => c5 ((nI_ltI (by omega) (by omega)).mpr q)), Nat.lt_of_not_le (fun q => c6 ((nI_leI (a := 24) (by omega) (by omega)).mpr q))⟩
              rw [fLp, if_pos hyes] at heq
              refine lv_goto (tgt := 88) hx hb dX3_format_50 (by decide) ?_
              refine lv_iinc (v := nI (i + 1)) (lv' := [(1, .int (nI (i + 1))), (0, .ref (g 0))]) hx hb dX3_format_88 hl (k := 0) rfl (nI_1 i) (by decide) rfl (fun ls hl => ?_)
              refine lv_goto (tgt := 30) hx hb dX3_format_91 (by decide) ?_
              exact ihlpo (i + 1) S H locs ls (by omega) heq hP hS hl
      exact lpo 25 0 u2 H locs ls rfl rfl hP hS hl
    · refine lv_iconst (v := 0) hx hb dX3_format_26 (by decide) ?_
      exact W.zret (v := 0) (ty := .boolean) hx hb hr (rfl) (fun t ht hW => ⟨⟨_, u2, rfl, by rw [e1, andM, ← hw2]; exact (if_pos c2).symm, hp_at ht hP⟩, hS.F ht⟩) hS.2.2 dX3_format_27
  · refine lv_iconst (v := 0) hx hb dX3_format_12 (by decide) ?_
    exact W.zret (v := 0) (ty := .boolean) hx hb hr (rfl) (fun t ht hW => ⟨⟨_, u1, rfl, by rw [mFormat, andM, ← hw1]; exact (if_pos c1).symm, hp_at ht hP⟩, hS.F ht⟩) hS.2.2 dX3_format_13

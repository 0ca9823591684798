set_option maxHeartbeats 4000000 in
set_option maxRecDepth 100000 in
theorem m_abort (l : Launch) (D : va_G) (g : Nat → Nat) (cI cZ cB : ClassId) (acc lm rm : Nat) (N : LN) (am : Nat) (T : BN) (wk ou y : Nat → Int32) (hok : mOk g) (hacc : acc ≤ 24) : Met l yX3_abort wsX3_abort ({ frames := 0, cells := 0, slots := 0, locals := 0 }) (nPc [.ref (g 0)] D (rW g cI cZ cB acc lm rm (mF N am T wk ou) y) [(cI, .int), (cZ, .boolean), (cB, .byte)]) (va_Qi (fun (r : Int32) (u : MS) => (r, u) = mAbort (N, am, T, y)) (fun u t => va_P D vwCl (rW g cI cZ cB acc lm rm (mF u.1 u.2.1 u.2.2.1 wk ou) u.2.2.2) t.heap) (mA g)) 0 0 (mA g) := by
  refine Met.ofW (cc := cX3_abort) (maxL := 2) (ret := (some .boolean)) (by decide) rfl ?_
  intro p e s m args below meth c s₁ B hml hv
  obtain ⟨rfl, hP, hK⟩ := hv
  have hx := B.exec
  have hb := B.bytes
  have hr := B.returns
  have hts := atoms_spec (ws := wsX3_abort) B.pre
  have hown : s.vm.findClass RX3 = some m.cls := findClass_of_methodNamed B.named
  have hlocks := B.notSynchronized
  have hi3 : ∀ w ∈ wsX30, w ∈ wsX3_abort := by decide +kernel
  have hS : va_S (mA g) s.heap s.heap [] := va_S.rf
  have hD : va_D (mA g) (rW g cI cZ cB acc lm rm (mF N am T wk ou) y) := mlD hok
  have hl := lv_entry ([.ref (g 0)]) (n := 2) (Nat.le_of_ble_eq_true rfl)
  rw [lg_entry_eq]
  generalize (lg_sl ([.ref (g 0)]) ++ List.replicate (2 - (lg_sl ([.ref (g 0)])).length) Slot.unset).toArray = ls at hl ⊢
  have hl : lv_has ls 2 [(0, .ref (g 0))] := hl
  refine lv_aload_n hx hb dX3_abort_0 rfl (lv_at hl 0 rfl) ?_
  refine lv_iconst (v := 0) hx hb dX3_abort_1 (by decide) ?_
  refine va_put (D := D) (ci := 3) (v := .int ((0 : Int32))) (ty := .int) (C := RX3) (T := TX3) (N := 18) hx hb hts hi3 tyX3 tyX3_ok nmX3 hown hK hP hD hS 0 (wl_at (by omega)) rfl 0 (by decide) (hts (.fieldLink RX3 1 "BigLedgerModel" "thrown" "I") (by decide +kernel)) (fun _ h9 => h9) rfl (by decide +kernel) (rfl) (rfl) (Nat.le_of_ble_eq_true rfl) dX3_abort_2 (fun H locs hP hD hS => ?_)
  have hP : va_P D vwCl (rW g cI cZ cB acc lm rm (mF N am T wk ou) (va_up y 0 (0 : Int32))) H := cv (ms_f 0 (0 : Int32) (by decide)) hP
  have hD : va_D (mA g) (rW g cI cZ cB acc lm rm (mF N am T wk ou) (va_up y 0 (0 : Int32))) := mlD hok
  refine lv_aload_n hx hb dX3_abort_5 rfl (lv_at hl 0 rfl) ?_
  refine va_get (D := D) (ci := 3) (v := .int ((va_up y 0 (0 : Int32)) 1)) (C := RX3) (T := TX3) (N := 18) hx hb hts hi3 hown hK hP 0 (wl_at (by omega)) rfl 11 (by decide) (hts (.fieldLink RX3 52 "BigLedgerModel" "up" "Z") (by decide +kernel)) (fun _ h9 => h9) rfl dX3_abort_6 ?_
  refine lv_if_ne (tgt := 14) hx hb dX3_abort_9 (by decide) (fun c0 => ?_) (fun c0 => ?_)
  · refine lv_iconst (v := 0) hx hb dX3_abort_14 (by decide) ?_
    refine lv_istore_n (lv' := [(1, .int ((0 : Int32))), (0, .ref (g 0))]) hx hb dX3_abort_15 rfl hl (by decide) rfl (fun ls hl => ?_)
    have lp3 : ∀ (nlp3 i : Nat) (H : Heap) (locs : List Loc) (ls : Array Slot), i + nlp3 = 550 → va_P D vwCl (rW g cI cZ cB acc lm rm (va_up (va_up (mF N am T wk ou) 6 (tb (fun _ => false))) 1 (fl (rowF (N 1)) (rowF (N 0)) i)) (va_up y 0 0)) H → va_S (mA g) s.heap H locs → lv_has ls 2 [(1, .int (nI i)), (0, .ref (g 0))] → W p l e (headSpec wsX3_abort ({ frames := 0, cells := 0, slots := 0, locals := 0 })).room s m ([.ref (g 0)]).toArray below meth c H locs 0 0 (MQ below (va_Qi (fun (r : Int32) (u : MS) => (r, u) = mAbort (N, am, T, y)) (fun u t => va_P D vwCl (rW g cI cZ cB acc lm rm (mF u.1 u.2.1 u.2.2.1 wk ou) u.2.2.2) t.heap) (mA g)) ([.ref (g 0)]).toArray s 0 0 (mA g)) (F0 m 37 ls []) := by
      intro nlp3
      induction nlp3 with
      | zero =>
        intro i H locs ls hinlp3 hP hS hl
        have hD : va_D (mA g) (rW g cI cZ cB acc lm rm (va_up (va_up (mF N am T wk ou) 6 (tb (fun _ => false))) 1 (fl (rowF (N 1)) (rowF (N 0)) i)) (va_up y 0 0)) := mlD hok
        refine lv_iload_n hx hb dX3_abort_37 rfl (lv_at hl 0 rfl) ?_
        refine lv_sipush (v := 550) hx hb dX3_abort_38 (by decide) ?_
        refine lv_icmp_ge (tgt := 62) hx hb dX3_abort_41 (by decide) (fun _ => ?_) (fun c9 => absurd (nI_le (a := 550) (by omega) (by omega)) c9)
        have hP : va_P D vwCl (rW g cI cZ cB acc lm rm (mF (va_up N 0 (N 1)) am (va_up T 0 (fun _ => false)) wk ou) (va_up y 0 0)) H := rW_congr hP (fun q9 h1 h2 j hj => by
          match q9 with
          | 1 =>
            exact fl_lo (by have : j < 550 := hj; omega)
          | 2 => rfl
          | 3 => rfl
          | 4 => rfl
          | 5 => rfl
          | 6 => rfl
          | 7 => rfl
          | 8 => rfl
          | 0 => omega
          | q9 + 9 => omega)
        have hD : va_D (mA g) (rW g cI cZ cB acc lm rm (mF (va_up N 0 (N 1)) am (va_up T 0 (fun _ => false)) wk ou) (va_up y 0 0)) := mlD hok
        refine lv_iconst (v := 1) hx hb dX3_abort_62 (by decide) ?_
        exact W.zret (v := 1) (ty := .boolean) hx hb hr (rfl) (fun t ht hW => ⟨⟨_, ((va_up N 0 (N 1)), am, (va_up T 0 (fun _ => false)), va_up y 0 0), rfl, by rw [mAbort]; exact (if_neg c0).symm, hp_at ht hP⟩, hS.F ht⟩) hS.2.2 dX3_abort_63
      | succ nlp3 ihlp3 =>
        intro i H locs ls hinlp3 hP hS hl
        have hD : va_D (mA g) (rW g cI cZ cB acc lm rm (va_up (va_up (mF N am T wk ou) 6 (tb (fun _ => false))) 1 (fl (rowF (N 1)) (rowF (N 0)) i)) (va_up y 0 0)) := mlD hok
        have hiwlp3 : i < 550 := by omega
        refine lv_iload_n hx hb dX3_abort_37 rfl (lv_at hl 0 rfl) ?_
        refine lv_sipush (v := 550) hx hb dX3_abort_38 (by decide) ?_
        refine lv_icmp_ge (tgt := 62) hx hb dX3_abort_41 (by decide) (fun c9 => absurd c9 (nI_ge (b := 550) hiwlp3 (by omega))) (fun _ => ?_)
        refine lv_aload_n hx hb dX3_abort_44 rfl (lv_at hl 1 rfl) ?_
        refine va_get (D := D) (ci := 3) (v := .ref (g 1)) (C := RX3) (T := TX3) (N := 18) hx hb hts hi3 hown hK hP 0 (wl_at (by omega)) rfl 4 (by decide) (hts (.fieldLink RX3 13 "BigLedgerModel" "now" "[I") (by decide +kernel)) (fun _ h9 => h9) rfl dX3_abort_45 ?_
        refine lv_iload_n hx hb dX3_abort_48 rfl (lv_at hl 0 rfl) ?_
        refine lv_aload_n hx hb dX3_abort_49 rfl (lv_at hl 1 rfl) ?_
        refine va_get (D := D) (ci := 3) (v := .ref (g 2)) (C := RX3) (T := TX3) (N := 18) hx hb hts hi3 hown hK hP 0 (wl_at (by omega)) rfl 5 (by decide) (hts (.fieldLink RX3 17 "BigLedgerModel" "home" "[I") (by decide +kernel)) (fun _ h9 => h9) rfl dX3_abort_50 ?_
        refine lv_iload_n hx hb dX3_abort_53 rfl (lv_at hl 0 rfl) ?_
        refine va_iald hx hb hK hP 2 0 (wl_at (by omega)) rfl (vp_in_nI (by omega) (by omega)) dX3_abort_54 ?_
        refine lv_topi (fun y15 ey15 => ?_)
        replace ey15 : y15 = rowF (N 1) i := ey15.trans (by rw [nI_clamp (by omega)]; rfl)
        subst ey15
        refine va_iast hx hb hK hP hD hS 1 0 (wl_at (by omega)) rfl (vp_in_nI (by omega) (by omega)) dX3_abort_55 (fun H locs hP hD hS => ?_)
        have hP : va_P D vwCl (rW g cI cZ cB acc lm rm (va_up (va_up (va_up (mF N am T wk ou) 6 (tb (fun _ => false))) 1 (fl (rowF (N 1)) (rowF (N 0)) i)) 1 (upd ((va_up (va_up (mF N am T wk ou) 6 (tb (fun _ => false))) 1 (fl (rowF (N 1)) (rowF (N 0)) i)) 1) (nI i).toNatClampNeg (rowF (N 1) i))) (va_up y 0 0)) H := cv (ms_a1 (upd ((va_up (va_up (mF N am T wk ou) 6 (tb (fun _ => false))) 1 (fl (rowF (N 1)) (rowF (N 0)) i)) 1) (nI i).toNatClampNeg (rowF (N 1) i))) hP
        have hD : va_D (mA g) (rW g cI cZ cB acc lm rm (va_up (va_up (va_up (mF N am T wk ou) 6 (tb (fun _ => false))) 1 (fl (rowF (N 1)) (rowF (N 0)) i)) 1 (upd ((va_up (va_up (mF N am T wk ou) 6 (tb (fun _ => false))) 1 (fl (rowF (N 1)) (rowF (N 0)) i)) 1) (nI i).toNatClampNeg (rowF (N 1) i))) (va_up y 0 0)) := mlD hok
        have hP : va_P D vwCl (rW g cI cZ cB acc lm rm (va_up (va_up (mF N am T wk ou) 6 (tb (fun _ => false))) 1 (fl (rowF (N 1)) (rowF (N 0)) (i + 1))) (va_up y 0 0)) H := rW_congr hP (fun q9 h1 h2 j hj => by
          match q9 with
          | 1 =>
            show upd (fl (rowF (N 1)) (rowF (N 0)) i) (nI i).toNatClampNeg (rowF (N 1) i) j = fl (rowF (N 1)) (rowF (N 0)) (i + 1) j
            rw [nI_clamp (by omega), fl_s rfl]
          | 2 => rfl
          | 3 => rfl
          | 4 => rfl
          | 5 => rfl
          | 6 => rfl
          | 7 => rfl
          | 8 => rfl
          | 0 => omega
          | q9 + 9 => omega)
        have hD : va_D (mA g) (rW g cI cZ cB acc lm rm (va_up (va_up (mF N am T wk ou) 6 (tb (fun _ => false))) 1 (fl (rowF (N 1)) (rowF (N 0)) (i + 1))) (va_up y 0 0)) := mlD hok
        refine lv_iinc (v := nI (i + 1)) (lv' := [(1, .int (nI (i + 1))), (0, .ref (g 0))]) hx hb dX3_abort_56 hl (k := 0) rfl (nI_1 i) (by decide) rfl (fun ls hl => ?_)
        refine lv_goto (tgt := 37) hx hb dX3_abort_59 (by decide) ?_
        exact ihlp3 (i + 1) H locs ls (by omega) hP hS hl
    have lp2 : ∀ (nlp2 i : Nat) (H : Heap) (locs : List Loc) (ls : Array Slot), i + nlp2 = 25 → va_P D vwCl (rW g cI cZ cB acc lm rm (va_up (mF N am T wk ou) 6 (fl (tb (fun _ => false)) (tb (T 0)) i)) (va_up y 0 0)) H → va_S (mA g) s.heap H locs → lv_has ls 2 [(1, .int (nI i)), (0, .ref (g 0))] → W p l e (headSpec wsX3_abort ({ frames := 0, cells := 0, slots := 0, locals := 0 })).room s m ([.ref (g 0)]).toArray below meth c H locs 0 0 (MQ below (va_Qi (fun (r : Int32) (u : MS) => (r, u) = mAbort (N, am, T, y)) (fun u t => va_P D vwCl (rW g cI cZ cB acc lm rm (mF u.1 u.2.1 u.2.2.1 wk ou) u.2.2.2) t.heap) (mA g)) ([.ref (g 0)]).toArray s 0 0 (mA g)) (F0 m 16 ls []) := by
      intro nlp2
      induction nlp2 with
      | zero =>
        intro i H locs ls hinlp2 hP hS hl
        have hD : va_D (mA g) (rW g cI cZ cB acc lm rm (va_up (mF N am T wk ou) 6 (fl (tb (fun _ => false)) (tb (T 0)) i)) (va_up y 0 0)) := mlD hok
        refine lv_iload_n hx hb dX3_abort_16 rfl (lv_at hl 0 rfl) ?_
        refine lv_bipush (v := 25) hx hb dX3_abort_17 (by decide) ?_
        refine lv_icmp_ge (tgt := 35) hx hb dX3_abort_19 (by decide) (fun _ => ?_) (fun c9 => absurd (nI_le (a := 25) (by omega) (by omega)) c9)
        refine lv_iconst (v := 0) hx hb dX3_abort_35 (by decide) ?_
        refine lv_istore_n (lv' := [(1, .int ((0 : Int32))), (0, .ref (g 0))]) hx hb dX3_abort_36 rfl hl (by decide) rfl (fun ls hl => ?_)
        have hP : va_P D vwCl (rW g cI cZ cB acc lm rm (va_up (va_up (mF N am T wk ou) 6 (tb (fun _ => false))) 1 (fl (rowF (N 1)) (rowF (N 0)) 0)) (va_up y 0 0)) H := rW_congr hP (fun q9 h1 h2 j hj => by
          match q9 with
          | 1 => exact (congrFun (fl_0 (rowF (N 1)) (rowF (N 0))) j).symm
          | 2 => rfl
          | 3 => rfl
          | 4 => rfl
          | 5 => rfl
          | 6 =>
            exact fl_lo (by have : j < 25 := hj; omega)
          | 7 => rfl
          | 8 => rfl
          | 0 => omega
          | q9 + 9 => omega)
        have hD : va_D (mA g) (rW g cI cZ cB acc lm rm (va_up (va_up (mF N am T wk ou) 6 (tb (fun _ => false))) 1 (fl (rowF (N 1)) (rowF (N 0)) 0)) (va_up y 0 0)) := mlD hok
        exact lp3 550 0 H locs ls rfl hP hS hl
      | succ nlp2 ihlp2 =>
        intro i H locs ls hinlp2 hP hS hl
        have hD : va_D (mA g) (rW g cI cZ cB acc lm rm (va_up (mF N am T wk ou) 6 (fl (tb (fun _ => false)) (tb (T 0)) i)) (va_up y 0 0)) := mlD hok
        have hiwlp2 : i < 25 := by omega
        refine lv_iload_n hx hb dX3_abort_16 rfl (lv_at hl 0 rfl) ?_
        refine lv_bipush (v := 25) hx hb dX3_abort_17 (by decide) ?_
        refine lv_icmp_ge (tgt := 35) hx hb dX3_abort_19 (by decide) (fun c9 => absurd c9 (nI_ge (b := 25) hiwlp2 (by omega))) (fun _ => ?_)
        refine lv_aload_n hx hb dX3_abort_22 rfl (lv_at hl 1 rfl) ?_
        refine va_get (D := D) (ci := 3) (v := .ref (g 6)) (C := RX3) (T := TX3) (N := 18) hx hb hts hi3 hown hK hP 0 (wl_at (by omega)) rfl 9 (by decide) (hts (.fieldLink RX3 29 "BigLedgerModel" "touched" "[Z") (by decide +kernel)) (fun _ h9 => h9) rfl dX3_abort_23 ?_
        refine lv_iload_n hx hb dX3_abort_26 rfl (lv_at hl 0 rfl) ?_
        refine lv_iconst (v := 0) hx hb dX3_abort_27 (by decide) ?_
        refine va_zast hx hb hK hP hD hS 6 1 (wl_at (by omega)) rfl (vp_in_nI (by omega) (by omega)) dX3_abort_28 (fun H locs hP hD hS => ?_)
        have hP : va_P D vwCl (rW g cI cZ cB acc lm rm (va_up (va_up (mF N am T wk ou) 6 (fl (tb (fun _ => false)) (tb (T 0)) i)) 6 (upd ((va_up (mF N am T wk ou) 6 (fl (tb (fun _ => false)) (tb (T 0)) i)) 6) (nI i).toNatClampNeg (vp_nar .boolean ((0 : Int32))))) (va_up y 0 0)) H := cv (ms_a6 (upd ((va_up (mF N am T wk ou) 6 (fl (tb (fun _ => false)) (tb (T 0)) i)) 6) (nI i).toNatClampNeg (vp_nar .boolean ((0 : Int32))))) hP
        have hD : va_D (mA g) (rW g cI cZ cB acc lm rm (va_up (va_up (mF N am T wk ou) 6 (fl (tb (fun _ => false)) (tb (T 0)) i)) 6 (upd ((va_up (mF N am T wk ou) 6 (fl (tb (fun _ => false)) (tb (T 0)) i)) 6) (nI i).toNatClampNeg (vp_nar .boolean ((0 : Int32))))) (va_up y 0 0)) := mlD hok
        have hP : va_P D vwCl (rW g cI cZ cB acc lm rm (va_up (mF N am T wk ou) 6 (fl (tb (fun _ => false)) (tb (T 0)) (i + 1))) (va_up y 0 0)) H := rW_congr hP (fun q9 h1 h2 j hj => by
          match q9 with
          | 1 => rfl
          | 2 => rfl
          | 3 => rfl
          | 4 => rfl
          | 5 => rfl
          | 6 =>
            show upd (fl (tb (fun _ => false)) (tb (T 0)) i) (nI i).toNatClampNeg (vp_nar .boolean 0) j = fl (tb (fun _ => false)) (tb (T 0)) (i + 1) j
            rw [nI_clamp (by omega), fl_s (show vp_nar .boolean 0 = tb (fun _ => false) i from rfl)]
          | 7 => rfl
          | 8 => rfl
          | 0 => omega
          | q9 + 9 => omega)
        have hD : va_D (mA g) (rW g cI cZ cB acc lm rm (va_up (mF N am T wk ou) 6 (fl (tb (fun _ => false)) (tb (T 0)) (i + 1))) (va_up y 0 0)) := mlD hok
        refine lv_iinc (v := nI (i + 1)) (lv' := [(1, .int (nI (i + 1))), (0, .ref (g 0))]) hx hb dX3_abort_29 hl (k := 0) rfl (nI_1 i) (by decide) rfl (fun ls hl => ?_)
        refine lv_goto (tgt := 16) hx hb dX3_abort_32 (by decide) ?_
        exact ihlp2 (i + 1) H locs ls (by omega) hP hS hl
    have hP : va_P D vwCl (rW g cI cZ cB acc lm rm (va_up (mF N am T wk ou) 6 (fl (tb (fun _ => false)) (tb (T 0)) 0)) (va_up y 0 (0 : Int32))) H := rW_congr hP (fun q9 h1 h2 j hj => by
      match q9 with
      | 1 => rfl
      | 2 => rfl
      | 3 => rfl
      | 4 => rfl
      | 5 => rfl
      | 6 =>
        exact (congrFun (fl_0 (tb (fun _ => false)) (tb (T 0))) j).symm
      | 7 => rfl
      | 8 => rfl
      | 0 => omega
      | q9 + 9 => omega)
    have hD : va_D (mA g) (rW g cI cZ cB acc lm rm (va_up (mF N am T wk ou) 6 (fl (tb (fun _ => false)) (tb (T 0)) 0)) (va_up y 0 (0 : Int32))) := mlD hok
    exact lp2 25 0 H locs ls rfl hP hS hl
  · refine lv_iconst (v := 0) hx hb dX3_abort_12 (by decide) ?_
    exact W.zret (v := 0) (ty := .boolean) hx hb hr (rfl) (fun t ht hW => ⟨⟨_, (setY (N, am, T, y) 0 0), rfl, by rw [mAbort]; exact (if_pos c0).symm, hp_at ht hP⟩, hS.F ht⟩) hS.2.2 dX3_abort_13
set_option maxHeartbeats 4000000 in
set_option maxRecDepth 100000 in
theorem m_stopAfter (l : Launch) (D : va_G) (g : Nat → Nat) (cI cZ cB : ClassId) (acc lm rm : Nat) (N : LN) (am : Nat) (T : BN) (wk ou y : Nat → Int32) (hok : mOk g) (hacc : acc ≤ 24) (p0 : Int32) : Met l yX3_stopAfter wsX3_stopAfter ({ frames := 0, cells := 0, slots := 0, locals := 0 }) (nPc [.ref (g 0), .int (p0)] D (rW g cI cZ cB acc lm rm (mF N am T wk ou) y) [(cI, .int), (cZ, .boolean), (cB, .byte)]) (va_Qv (fun _ : Unit => True) (fun _ t => va_P D vwCl (rW g cI cZ cB acc lm rm (mF N am T wk ou) (va_up (va_up y 0 0) 5 (if p0 < 0 then -1 else p0))) t.heap) (mA g)) 0 0 (mA g) := by
  refine Met.ofW (cc := cX3_stopAfter) (maxL := 2) (ret := none) (by decide) rfl ?_
  intro p e s m args below meth c s₁ B hml hv
  obtain ⟨rfl, hP, hK⟩ := hv
  have hx := B.exec
  have hb := B.bytes
  have hr := B.returns
  have hts := atoms_spec (ws := wsX3_stopAfter) B.pre
  have hown : s.vm.findClass RX3 = some m.cls := findClass_of_methodNamed B.named
  have hlocks := B.notSynchronized
  have hi3 : ∀ w ∈ wsX30, w ∈ wsX3_stopAfter := by decide +kernel
  have hS : va_S (mA g) s.heap s.heap [] := va_S.rf
  have hD : va_D (mA g) (rW g cI cZ cB acc lm rm (mF N am T wk ou) y) := mlD hok
  have hl := lv_entry ([.ref (g 0), .int (p0)]) (n := 2) (Nat.le_of_ble_eq_true rfl)
  rw [lg_entry_eq]
  generalize (lg_sl ([.ref (g 0), .int (p0)]) ++ List.replicate (2 - (lg_sl ([.ref (g 0), .int (p0)])).length) Slot.unset).toArray = ls at hl ⊢
  have hl : lv_has ls 2 [(0, .ref (g 0)), (1, .int (p0))] := hl
  refine lv_aload_n hx hb dX3_stopAfter_0 rfl (lv_at hl 0 rfl) ?_
  refine lv_iconst (v := 0) hx hb dX3_stopAfter_1 (by decide) ?_
  refine va_put (D := D) (ci := 3) (v := .int ((0 : Int32))) (ty := .int) (C := RX3) (T := TX3) (N := 18) hx hb hts hi3 tyX3 tyX3_ok nmX3 hown hK hP hD hS 0 (wl_at (by omega)) rfl 0 (by decide) (hts (.fieldLink RX3 1 "BigLedgerModel" "thrown" "I") (by decide +kernel)) (fun _ h9 => h9) rfl (by decide +kernel) (rfl) (rfl) (Nat.le_of_ble_eq_true rfl) dX3_stopAfter_2 (fun H locs hP hD hS => ?_)
  have hP : va_P D vwCl (rW g cI cZ cB acc lm rm (mF N am T wk ou) (va_up y 0 (0 : Int32))) H := cv (ms_f 0 (0 : Int32) (by decide)) hP
  have hD : va_D (mA g) (rW g cI cZ cB acc lm rm (mF N am T wk ou) (va_up y 0 (0 : Int32))) := mlD hok
  refine lv_aload_n hx hb dX3_stopAfter_5 rfl (lv_at hl 0 rfl) ?_
  refine lv_iload_n hx hb dX3_stopAfter_6 rfl (lv_at hl 1 rfl) ?_
  refine lv_if_ge (tgt := 14) hx hb dX3_stopAfter_7 (by decide) (fun c1 => ?_) (fun c1 => ?_)
  · refine lv_iload_n hx hb dX3_stopAfter_14 rfl (lv_at hl 1 rfl) ?_
    refine va_put (D := D) (ci := 3) (v := .int (p0)) (ty := .int) (C := RX3) (T := TX3) (N := 18) hx hb hts hi3 tyX3 tyX3_ok nmX3 hown hK hP hD hS 0 (wl_at (by omega)) rfl 15 (by decide) (hts (.fieldLink RX3 36 "BigLedgerModel" "left" "I") (by decide +kernel)) (fun _ h9 => h9) rfl (by decide +kernel) (rfl) (rfl) (Nat.le_of_ble_eq_true rfl) dX3_stopAfter_15 (fun H locs hP hD hS => ?_)
    have hP : va_P D vwCl (rW g cI cZ cB acc lm rm (mF N am T wk ou) (va_up (va_up y 0 (0 : Int32)) 5 p0)) H := cv (ms_f 5 p0 (by decide)) hP
    have hD : va_D (mA g) (rW g cI cZ cB acc lm rm (mF N am T wk ou) (va_up (va_up y 0 (0 : Int32)) 5 p0)) := mlD hok
    rw [show va_up (va_up y 0 0) 5 p0 = va_up (va_up y 0 0) 5 (if p0 < 0 then -1 else p0) by rw [if_neg (fun q => (fa_of_lt q).2.1 c1)]] at hP
    exact W.vret hx hb hr (fun t ht hW => ⟨⟨(), rfl, trivial, hp_at ht hP⟩, hS.F ht⟩) hS.2.2 dX3_stopAfter_18
  · refine lv_iconst (v := (-1)) hx hb dX3_stopAfter_10 (by decide) ?_
    refine lv_goto (tgt := 15) hx hb dX3_stopAfter_11 (by decide) ?_
    refine va_put (D := D) (ci := 3) (v := .int ((-1 : Int32))) (ty := .int) (C := RX3) (T := TX3) (N := 18) hx hb hts hi3 tyX3 tyX3_ok nmX3 hown hK hP hD hS 0 (wl_at (by omega)) rfl 15 (by decide) (hts (.fieldLink RX3 36 "BigLedgerModel" "left" "I") (by decide +kernel)) (fun _ h9 => h9) rfl (by decide +kernel) (rfl) (rfl) (Nat.le_of_ble_eq_true rfl) dX3_stopAfter_15 (fun H locs hP hD hS => ?_)
    have hP : va_P D vwCl (rW g cI cZ cB acc lm rm (mF N am T wk ou) (va_up (va_up y 0 (0 : Int32)) 5 (-1 : Int32))) H := cv (ms_f 5 (-1 : Int32) (by decide)) hP
    have hD : va_D (mA g) (rW g cI cZ cB acc lm rm (mF N am T wk ou) (va_up (va_up y 0 (0 : Int32)) 5 (-1 : Int32))) := mlD hok
    rw [show va_up (va_up y 0 0) 5 (-1) = va_up (va_up y 0 0) 5 (if p0 < 0 then -1 else p0) by rw [if_pos (fa_of_nle c1)]] at hP
    exact W.vret hx hb hr (fun t ht hW => ⟨⟨(), rfl, trivial, hp_at ht hP⟩, hS.F ht⟩) hS.2.2 dX3_stopAfter_18
set_option maxHeartbeats 4000000 in
set_option maxRecDepth 100000 in
theorem m_thrown (l : Launch) (D : va_G) (g : Nat → Nat) (cI cZ cB : ClassId) (acc lm rm : Nat) (N : LN) (am : Nat) (T : BN) (wk ou y : Nat → Int32) (hok : mOk g) (hacc : acc ≤ 24) : Met l yX3_thrown wsX3_thrown ({ frames := 0, cells := 0, slots := 0, locals := 0 }) (nPc [.ref (g 0)] D (rW g cI cZ cB acc lm rm (mF N am T wk ou) y) [(cI, .int), (cZ, .boolean), (cB, .byte)]) (vp_Si (fun r => r = y 0)) 0 0 (fun _ => False) := by
  refine Met.ofW (cc := cX3_thrown) (maxL := 1) (ret := (some .int)) (by decide) rfl ?_
  intro p e s m args below meth c s₁ B hml hv
  obtain ⟨rfl, hP, hK⟩ := hv
  have hx := B.exec
  have hb := B.bytes
  have hr := B.returns
  have hts := atoms_spec (ws := wsX3_thrown) B.pre
  have hown : s.vm.findClass RX3 = some m.cls := findClass_of_methodNamed B.named
  have hlocks := B.notSynchronized
  have hi3 : ∀ w ∈ wsX30, w ∈ wsX3_thrown := by decide +kernel
  generalize hH : s.heap = H at hP ⊢
  have hl := lv_entry ([.ref (g 0)]) (n := 1) (Nat.le_of_ble_eq_true rfl)
  rw [lg_entry_eq]
  generalize (lg_sl ([.ref (g 0)]) ++ List.replicate (1 - (lg_sl ([.ref (g 0)])).length) Slot.unset).toArray = ls at hl ⊢
  have hl : lv_has ls 1 [(0, .ref (g 0))] := hl
  refine lv_aload_n hx hb dX3_thrown_0 rfl (lv_at hl 0 rfl) ?_
  refine va_get (D := D) (ci := 3) (v := .int (y 0)) (C := RX3) (T := TX3) (N := 18) hx hb hts hi3 hown hK hP 0 (wl_at (by omega)) rfl 0 (by decide) (hts (.fieldLink RX3 1 "BigLedgerModel" "thrown" "I") (by decide +kernel)) (fun _ h9 => h9) rfl dX3_thrown_1 ?_
  exact W.iret (v := y 0) hx hb hr (fun t ht hW => ⟨_, rfl, rfl, ht.trans hH.symm⟩) (fun _ h => by cases h) dX3_thrown_4
set_option maxHeartbeats 4000000 in
set_option maxRecDepth 100000 in
theorem m_no (l : Launch) (D : va_G) (g : Nat → Nat) (cI cZ cB : ClassId) (acc lm rm : Nat) (N : LN) (am : Nat) (T : BN) (wk ou y : Nat → Int32) (hok : mOk g) (hacc : acc ≤ 24) (p0 : Int32) : Met l yX3_no wsX3_no ({ frames := 0, cells := 0, slots := 0, locals := 0 }) (nPc [.ref (g 0), .int (p0)] D (rW g cI cZ cB acc lm rm (mF N am T wk ou) y) [(cI, .int), (cZ, .boolean), (cB, .byte)]) (vp_Si (fun r => r = if isAcc acc p0 = true then 0 else 1)) 0 0 (fun _ => False) := by
  refine Met.ofW (cc := cX3_no) (maxL := 2) (ret := (some .boolean)) (by decide) rfl ?_
  intro p e s m args below meth c s₁ B hml hv
  obtain ⟨rfl, hP, hK⟩ := hv
  have hx := B.exec
  have hb := B.bytes
  have hr := B.returns
  have hts := atoms_spec (ws := wsX3_no) B.pre
  have hown : s.vm.findClass RX3 = some m.cls := findClass_of_methodNamed B.named
  have hlocks := B.notSynchronized
  have hi3 : ∀ w ∈ wsX30, w ∈ wsX3_no := by decide +kernel
  generalize hH : s.heap = H at hP ⊢
  have hl := lv_entry ([.ref (g 0), .int (p0)]) (n := 2) (Nat.le_of_ble_eq_true rfl)
  rw [lg_entry_eq]
  generalize (lg_sl ([.ref (g 0), .int (p0)]) ++ List.replicate (2 - (lg_sl ([.ref (g 0), .int (p0)])).length) Slot.unset).toArray = ls at hl ⊢
  have hl : lv_has ls 2 [(0, .ref (g 0)), (1, .int (p0))] := hl
  refine lv_iload_n hx hb dX3_no_0 rfl (lv_at hl 1 rfl) ?_
  refine lv_if_lt (tgt := 12) hx hb dX3_no_1 (by decide) (fun c1 => ?_) (fun c1 => ?_)
  · refine lv_iconst (v := 1) hx hb dX3_no_12 (by decide) ?_
    refine lv_goto (tgt := 17) hx hb dX3_no_13 (by decide) ?_
    exact W.zret (v := 1) (ty := .boolean) hx hb hr (rfl) (fun t ht hW => ⟨_, rfl, by rw [if_neg (by simp [isAcc, c1])], ht.trans hH.symm⟩) (fun _ h => by cases h) dX3_no_17
  · refine lv_iload_n hx hb dX3_no_4 rfl (lv_at hl 1 rfl) ?_
    refine lv_aload_n hx hb dX3_no_5 rfl (lv_at hl 0 rfl) ?_
    refine va_get (D := D) (ci := 3) (v := .int (nI acc)) (C := RX3) (T := TX3) (N := 18) hx hb hts hi3 hown hK hP 0 (wl_at (by omega)) rfl 1 (by decide) (hts (.fieldLink RX3 43 "BigLedgerModel" "accounts" "I") (by decide +kernel)) (fun _ h9 => h9) rfl dX3_no_6 ?_
    refine lv_icmp_lt (tgt := 16) hx hb dX3_no_9 (by decide) (fun c2 => ?_) (fun c2 => ?_)
    · refine lv_iconst (v := 0) hx hb dX3_no_16 (by decide) ?_
      exact W.zret (v := 0) (ty := .boolean) hx hb hr (rfl) (fun t ht hW => ⟨_, rfl, by rw [if_pos (by unfold isAcc; rw [Bool.and_eq_true, decide_eq_true_eq, decide_eq_true_eq]; exact ⟨c1, (fa_of_lt c2).2.1⟩)], ht.trans hH.symm⟩) (fun _ h => by cases h) dX3_no_17
    · refine lv_iconst (v := 1) hx hb dX3_no_12 (by decide) ?_
      refine lv_goto (tgt := 17) hx hb dX3_no_13 (by decide) ?_
      exact W.zret (v := 1) (ty := .boolean) hx hb hr (rfl) (fun t ht hW => ⟨_, rfl, by rw [if_neg (by simp [isAcc, fa_of_nlt c2])], ht.trans hH.symm⟩) (fun _ h => by cases h) dX3_no_17
set_option maxHeartbeats 4000000 in
set_option maxRecDepth 100000 in
theorem m_recover (l : Launch) (D : va_G) (g : Nat → Nat) (cI cZ cB : ClassId) (acc lm rm : Nat) (N : LN) (am : Nat) (T : BN) (wk ou y : Nat → Int32) (hok : mOk g) (hacc : acc ≤ 24) : Met l yX3_recover wsX3_recover ({ frames := 5, cells := 0, slots := 0, locals := 103 }) (nPc [.ref (g 0)] D (rW g cI cZ cB acc lm rm (mF N am T wk ou) y) [(cI, .int), (cZ, .boolean), (cB, .byte)]) (va_Qi (fun (r : Int32) (u : MS) => (r, u) = mRecover (N, am, T, y)) (fun u t => va_P D vwCl (rW g cI cZ cB acc lm rm (mF u.1 u.2.1 u.2.2.1 wk ou) u.2.2.2) t.heap) (mA g)) 0 0 (mA g) := by
  refine Met.ofW (cc := cX3_recover) (maxL := 1) (ret := (some .boolean)) (by decide) rfl ?_
  intro p e s m args below meth c s₁ B hml hv
  obtain ⟨rfl, hP, hK⟩ := hv
  have hx := B.exec
  have hb := B.bytes
  have hr := B.returns
  have hts := atoms_spec (ws := wsX3_recover) B.pre
  have hown : s.vm.findClass RX3 = some m.cls := findClass_of_methodNamed B.named
  have hlocks := B.notSynchronized
  have hi3 : ∀ w ∈ wsX30, w ∈ wsX3_recover := by decide +kernel
  have hS : va_S (mA g) s.heap s.heap [] := va_S.rf
  have hD : va_D (mA g) (rW g cI cZ cB acc lm rm (mF N am T wk ou) y) := mlD hok
  have hl := lv_entry ([.ref (g 0)]) (n := 1) (Nat.le_of_ble_eq_true rfl)
  rw [lg_entry_eq]
  generalize (lg_sl ([.ref (g 0)]) ++ List.replicate (1 - (lg_sl ([.ref (g 0)])).length) Slot.unset).toArray = ls at hl ⊢
  have hl : lv_has ls 1 [(0, .ref (g 0))] := hl
  refine lv_aload_n hx hb dX3_recover_0 rfl (lv_at hl 0 rfl) ?_
  refine lv_iconst (v := 0) hx hb dX3_recover_1 (by decide) ?_
  refine va_put (D := D) (ci := 3) (v := .int ((0 : Int32))) (ty := .int) (C := RX3) (T := TX3) (N := 18) hx hb hts hi3 tyX3 tyX3_ok nmX3 hown hK hP hD hS 0 (wl_at (by omega)) rfl 0 (by decide) (hts (.fieldLink RX3 1 "BigLedgerModel" "thrown" "I") (by decide +kernel)) (fun _ h9 => h9) rfl (by decide +kernel) (rfl) (rfl) (Nat.le_of_ble_eq_true rfl) dX3_recover_2 (fun H locs hP hD hS => ?_)
  have hP : va_P D vwCl (rW g cI cZ cB acc lm rm (mF N am T wk ou) (va_up y 0 (0 : Int32))) H := cv (ms_f 0 (0 : Int32) (by decide)) hP
  have hD : va_D (mA g) (rW g cI cZ cB acc lm rm (mF N am T wk ou) (va_up y 0 (0 : Int32))) := mlD hok
  refine lv_aload_n hx hb dX3_recover_5 rfl (lv_at hl 0 rfl) ?_
  refine va_get (D := D) (ci := 3) (v := .int ((va_up y 0 (0 : Int32)) 2)) (C := RX3) (T := TX3) (N := 18) hx hb hts hi3 hown hK hP 0 (wl_at (by omega)) rfl 12 (by decide) (hts (.fieldLink RX3 74 "BigLedgerModel" "formatted" "Z") (by decide +kernel)) (fun _ h9 => h9) rfl dX3_recover_6 ?_
  refine lv_if_ne (tgt := 18) hx hb dX3_recover_9 (by decide) (fun c0 => ?_) (fun c0 => ?_)
  · refine lv_aload_n hx hb dX3_recover_18 rfl (lv_at hl 0 rfl) ?_
    refine va_get (D := D) (ci := 3) (v := .int ((va_up y 0 (0 : Int32)) 3)) (C := RX3) (T := TX3) (N := 18) hx hb hts hi3 hown hK hP 0 (wl_at (by omega)) rfl 13 (by decide) (hts (.fieldLink RX3 68 "BigLedgerModel" "committed" "Z") (by decide +kernel)) (fun _ h9 => h9) rfl dX3_recover_19 ?_
    refine lv_if_eq (tgt := 34) hx hb dX3_recover_22 (by decide) (fun c1 => ?_) (fun c1 => ?_)
    · refine lv_aload_n hx hb dX3_recover_34 rfl (lv_at hl 0 rfl) ?_
      have c2 : (N, am, T, y).2.2.2 3 = 0 := c1
      refine va_callv (va_runV (As := []) (rest := []) ⟨hx, hb, hml, hown, hts⟩ (m_forget l D g cI cZ cB acc lm rm N am T wk ou (va_up y 0 0) hok hacc) (cwV 0 hts gX3_recover_X3_forget rfl rfl rfl (by decide +kernel) ⟨Nat.le_of_ble_eq_true rfl, Nat.le_of_ble_eq_true rfl⟩) ⟨nPc_blind, va_recv hK hP (ci := 3) (q0 := 0) rfl (wl_at (by omega)), nPc_use (hP) hK⟩ rfl rfl hl.1 rfl (lv_room (Nat.le_of_ble_eq_true rfl)) dX3_recover_35 ⟨Nat.le_of_ble_eq_true rfl, Nat.le_of_ble_eq_true rfl⟩) hS (fun q _ h => (fun _ h => h) q h) (fun _ h => h) (fun _u t H1 locs ht hvm hw hB hz1 hk9 hS => ?_)
      generalize H1 = H at ht hz1 hk9 hS ⊢
      have hP : va_P D vwCl (rW g cI cZ cB acc lm rm (mF (va_up N 0 (N 1)) 0 (va_up T 0 (fun _ => false)) wk ou) (va_up y 0 (0 : Int32))) H := pB_at ht hB
      have hD : va_D (mA g) (rW g cI cZ cB acc lm rm (mF (va_up N 0 (N 1)) 0 (va_up T 0 (fun _ => false)) wk ou) (va_up y 0 (0 : Int32))) := mlD hok
      refine lv_aload_n hx hb dX3_recover_38 rfl (lv_at hl 0 rfl) ?_
      refine lv_iconst (v := 1) hx hb dX3_recover_39 (by decide) ?_
      refine va_put (D := D) (ci := 3) (v := .int ((1 : Int32))) (ty := .boolean) (C := RX3) (T := TX3) (N := 18) hx hb hts hi3 tyX3 tyX3_ok nmX3 hown hK hP hD hS 0 (wl_at (by omega)) rfl 11 (by decide) (hts (.fieldLink RX3 52 "BigLedgerModel" "up" "Z") (by decide +kernel)) (fun _ h9 => h9) rfl (by decide +kernel) (rfl) (rfl) (Nat.le_of_ble_eq_true rfl) dX3_recover_40 (fun H locs hP hD hS => ?_)
      have hP : va_P D vwCl (rW g cI cZ cB acc lm rm (mF (va_up N 0 (N 1)) 0 (va_up T 0 (fun _ => false)) wk ou) (va_up (va_up y 0 (0 : Int32)) 1 (1 : Int32))) H := cv (ms_f 1 (1 : Int32) (by decide)) hP
      have hD : va_D (mA g) (rW g cI cZ cB acc lm rm (mF (va_up N 0 (N 1)) 0 (va_up T 0 (fun _ => false)) wk ou) (va_up (va_up y 0 (0 : Int32)) 1 (1 : Int32))) := mlD hok
      refine lv_iconst (v := 1) hx hb dX3_recover_43 (by decide) ?_
      exact W.zret (v := 1) (ty := .boolean) hx hb hr (rfl) (fun t ht hW => ⟨⟨_, setY (mForget (setY (N, am, T, y) 0 0)) 1 1, rfl, by rw [mRecover]; exact ((if_neg c0).trans (if_pos c2)).symm, hp_at ht hP⟩, hS.F ht⟩) hS.2.2 dX3_recover_44
    · refine lv_aload_n hx hb dX3_recover_25 rfl (lv_at hl 0 rfl) ?_
      refine va_calli (va_runV (As := []) (rest := []) ⟨hx, hb, hml, hown, hts⟩ (m_goHome l D g cI cZ cB acc lm rm N am T wk ou (va_up y 0 0) hok hacc) (cwV 0 hts gX3_recover_X3_goHome rfl rfl rfl (by decide +kernel) ⟨Nat.le_of_ble_eq_true rfl, Nat.le_of_ble_eq_true rfl⟩) ⟨nPc_blind, va_recv hK hP (ci := 3) (q0 := 0) rfl (wl_at (by omega)), nPc_use (hP) hK⟩ rfl rfl hl.1 rfl (lv_room (Nat.le_of_ble_eq_true rfl)) dX3_recover_26 ⟨Nat.le_of_ble_eq_true rfl, Nat.le_of_ble_eq_true rfl⟩) hS (fun q _ h => (fun _ h => h) q h) (fun _ h => h) (fun rr1 u1 t H1 locs ht hvm hw1 hB hz1 hk9 hS => ?_)
      generalize H1 = H at ht hz1 hk9 hS ⊢
      have hP : va_P D vwCl (rW g cI cZ cB acc lm rm (mF u1.1 u1.2.1 u1.2.2.1 wk ou) u1.2.2.2) H := pB_at ht hB
      have hD : va_D (mA g) (rW g cI cZ cB acc lm rm (mF u1.1 u1.2.1 u1.2.2.1 wk ou) u1.2.2.2) := mlD hok
      replace hw1 : (rr1, u1) = mGo (setY (N, am, T, y) 0 0) := hw1
      have e1 : mRecover (N, am, T, y) = andM mGo (fun S => (1, setY (mForget S) 1 1)) (setY (N, am, T, y) 0 0) := (if_neg c0).trans (if_neg c1)
      refine lv_if_ne (tgt := 34) hx hb dX3_recover_29 (by decide) (fun c2 => ?_) (fun c2 => ?_)
      · refine lv_aload_n hx hb dX3_recover_34 rfl (lv_at hl 0 rfl) ?_
        refine va_callv (va_runV (As := []) (rest := []) ⟨hx, hb, hml, hown, hts⟩ (m_forget l D g cI cZ cB acc lm rm u1.1 u1.2.1 u1.2.2.1 wk ou u1.2.2.2 hok hacc) (cwV 0 hts gX3_recover_X3_forget rfl rfl rfl (by decide +kernel) ⟨Nat.le_of_ble_eq_true rfl, Nat.le_of_ble_eq_true rfl⟩) ⟨nPc_blind, va_recv hK hP (ci := 3) (q0 := 0) rfl (wl_at (by omega)), nPc_use (hP) hK⟩ rfl rfl hl.1 rfl (lv_room (Nat.le_of_ble_eq_true rfl)) dX3_recover_35 ⟨Nat.le_of_ble_eq_true rfl, Nat.le_of_ble_eq_true rfl⟩) hS (fun q _ h => (fun _ h => h) q h) (fun _ h => h) (fun _u t H1 locs ht hvm hw hB hz1 hk9 hS => ?_)
        generalize H1 = H at ht hz1 hk9 hS ⊢
        have hP : va_P D vwCl (rW g cI cZ cB acc lm rm (mF (va_up u1.1 0 (u1.1 1)) 0 (va_up u1.2.2.1 0 (fun _ => false)) wk ou) u1.2.2.2) H := pB_at ht hB
        have hD : va_D (mA g) (rW g cI cZ cB acc lm rm (mF (va_up u1.1 0 (u1.1 1)) 0 (va_up u1.2.2.1 0 (fun _ => false)) wk ou) u1.2.2.2) := mlD hok
        refine lv_aload_n hx hb dX3_recover_38 rfl (lv_at hl 0 rfl) ?_
        refine lv_iconst (v := 1) hx hb dX3_recover_39 (by decide) ?_
        refine va_put (D := D) (ci := 3) (v := .int ((1 : Int32))) (ty := .boolean) (C := RX3) (T := TX3) (N := 18) hx hb hts hi3 tyX3 tyX3_ok nmX3 hown hK hP hD hS 0 (wl_at (by omega)) rfl 11 (by decide) (hts (.fieldLink RX3 52 "BigLedgerModel" "up" "Z") (by decide +kernel)) (fun _ h9 => h9) rfl (by decide +kernel) (rfl) (rfl) (Nat.le_of_ble_eq_true rfl) dX3_recover_40 (fun H locs hP hD hS => ?_)
        have hP : va_P D vwCl (rW g cI cZ cB acc lm rm (mF (va_up u1.1 0 (u1.1 1)) 0 (va_up u1.2.2.1 0 (fun _ => false)) wk ou) (va_up u1.2.2.2 1 (1 : Int32))) H := cv (ms_f 1 (1 : Int32) (by decide)) hP
        have hD : va_D (mA g) (rW g cI cZ cB acc lm rm (mF (va_up u1.1 0 (u1.1 1)) 0 (va_up u1.2.2.1 0 (fun _ => false)) wk ou) (va_up u1.2.2.2 1 (1 : Int32))) := mlD hok
        refine lv_iconst (v := 1) hx hb dX3_recover_43 (by decide) ?_
        exact W.zret (v := 1) (ty := .boolean) hx hb hr (rfl) (fun t ht hW => ⟨⟨_, setY (mForget u1) 1 1, rfl, by rw [e1, andM, ← hw1]; exact (if_neg c2).symm, hp_at ht hP⟩, hS.F ht⟩) hS.2.2 dX3_recover_44
      · refine lv_iconst (v := 0) hx hb dX3_recover_32 (by decide) ?_
        exact W.zret (v := 0) (ty := .boolean) hx hb hr (rfl) (fun t ht hW => ⟨⟨_, u1, rfl, by rw [e1, andM, ← hw1]; exact (if_pos c2).symm, hp_at ht hP⟩, hS.F ht⟩) hS.2.2 dX3_recover_33
  · refine lv_aload_n hx hb dX3_recover_12 rfl (lv_at hl 0 rfl) ?_
    refine va_callv (va_runV (As := []) (rest := []) ⟨hx, hb, hml, hown, hts⟩ (m_down l D g cI cZ cB acc lm rm N am T wk ou (va_up y 0 0) hok hacc) (cwV 0 hts gX3_recover_X3_down rfl rfl rfl (by decide +kernel) ⟨Nat.le_of_ble_eq_true rfl, Nat.le_of_ble_eq_true rfl⟩) ⟨nPc_blind, va_recv hK hP (ci := 3) (q0 := 0) rfl (wl_at (by omega)), nPc_use (hP) hK⟩ rfl rfl hl.1 rfl (lv_room (Nat.le_of_ble_eq_true rfl)) dX3_recover_13 ⟨Nat.le_of_ble_eq_true rfl, Nat.le_of_ble_eq_true rfl⟩) hS (fun q _ h => (fun _ h => h) q h) (fun _ h => h) (fun _u t H1 locs ht hvm hw hB hz1 hk9 hS => ?_)
    generalize H1 = H at ht hz1 hk9 hS ⊢
    have hP : va_P D vwCl (rW g cI cZ cB acc lm rm (mF (va_up N 0 (N 1)) 0 (va_up T 0 (fun _ => false)) wk ou) (va_up (va_up y 0 0) 1 0)) H := pB_at ht hB
    have hD : va_D (mA g) (rW g cI cZ cB acc lm rm (mF (va_up N 0 (N 1)) 0 (va_up T 0 (fun _ => false)) wk ou) (va_up (va_up y 0 0) 1 0)) := mlD hok
    refine lv_iconst (v := 0) hx hb dX3_recover_16 (by decide) ?_
    exact W.zret (v := 0) (ty := .boolean) hx hb hr (rfl) (fun t ht hW => ⟨⟨_, mDown (setY (N, am, T, y) 0 0), rfl, by rw [mRecover]; exact (if_pos c0).symm, hp_at ht hP⟩, hS.F ht⟩) hS.2.2 dX3_recover_17
set_option maxHeartbeats 4000000 in
set_option maxRecDepth 100000 in
theorem m_clearAmount (l : Launch) (D : va_G) (g : Nat → Nat) (cI cZ cB : ClassId) (acc lm rm : Nat) (N : LN) (am : Nat) (T : BN) (wk ou y : Nat → Int32) (hok : mOk g) (hacc : acc ≤ 24) : Met l yX3_clearAmount wsX3_clearAmount ({ frames := 0, cells := 0, slots := 0, locals := 0 }) (nPc [.ref (g 0)] D (rW g cI cZ cB acc lm rm (mF N am T wk ou) y) [(cI, .int), (cZ, .boolean), (cB, .byte)]) (va_Qi (fun (r : Int32) (u : MS) => (r, u) = mClear (N, am, T, y)) (fun u t => va_P D vwCl (rW g cI cZ cB acc lm rm (mF u.1 u.2.1 u.2.2.1 wk ou) u.2.2.2) t.heap) (mA g)) 0 0 (mA g) := by
  refine Met.ofW (cc := cX3_clearAmount) (maxL := 2) (ret := (some .boolean)) (by decide) rfl ?_
  intro p e s m args below meth c s₁ B hml hv
  obtain ⟨rfl, hP, hK⟩ := hv
  have hx := B.exec
  have hb := B.bytes
  have hr := B.returns
  have hts := atoms_spec (ws := wsX3_clearAmount) B.pre
  have hown : s.vm.findClass RX3 = some m.cls := findClass_of_methodNamed B.named
  have hlocks := B.notSynchronized
  have hi3 : ∀ w ∈ wsX30, w ∈ wsX3_clearAmount := by decide +kernel
  have hS : va_S (mA g) s.heap s.heap [] := va_S.rf
  have hD : va_D (mA g) (rW g cI cZ cB acc lm rm (mF N am T wk ou) y) := mlD hok
  have hl := lv_entry ([.ref (g 0)]) (n := 2) (Nat.le_of_ble_eq_true rfl)
  rw [lg_entry_eq]
  generalize (lg_sl ([.ref (g 0)]) ++ List.replicate (2 - (lg_sl ([.ref (g 0)])).length) Slot.unset).toArray = ls at hl ⊢
  have hl : lv_has ls 2 [(0, .ref (g 0))] := hl
  refine lv_aload_n hx hb dX3_clearAmount_0 rfl (lv_at hl 0 rfl) ?_
  refine lv_iconst (v := 0) hx hb dX3_clearAmount_1 (by decide) ?_
  refine va_put (D := D) (ci := 3) (v := .int ((0 : Int32))) (ty := .int) (C := RX3) (T := TX3) (N := 18) hx hb hts hi3 tyX3 tyX3_ok nmX3 hown hK hP hD hS 0 (wl_at (by omega)) rfl 0 (by decide) (hts (.fieldLink RX3 1 "BigLedgerModel" "thrown" "I") (by decide +kernel)) (fun _ h9 => h9) rfl (by decide +kernel) (rfl) (rfl) (Nat.le_of_ble_eq_true rfl) dX3_clearAmount_2 (fun H locs hP hD hS => ?_)
  have hP : va_P D vwCl (rW g cI cZ cB acc lm rm (mF N am T wk ou) (va_up y 0 (0 : Int32))) H := cv (ms_f 0 (0 : Int32) (by decide)) hP
  have hD : va_D (mA g) (rW g cI cZ cB acc lm rm (mF N am T wk ou) (va_up y 0 (0 : Int32))) := mlD hok
  refine lv_aload_n hx hb dX3_clearAmount_5 rfl (lv_at hl 0 rfl) ?_
  refine va_get (D := D) (ci := 3) (v := .int ((va_up y 0 (0 : Int32)) 1)) (C := RX3) (T := TX3) (N := 18) hx hb hts hi3 hown hK hP 0 (wl_at (by omega)) rfl 11 (by decide) (hts (.fieldLink RX3 52 "BigLedgerModel" "up" "Z") (by decide +kernel)) (fun _ h9 => h9) rfl dX3_clearAmount_6 ?_
  refine lv_if_ne (tgt := 14) hx hb dX3_clearAmount_9 (by decide) (fun c0 => ?_) (fun c0 => ?_)
  · refine lv_iconst (v := 0) hx hb dX3_clearAmount_14 (by decide) ?_
    refine lv_istore_n (lv' := [(1, .int ((0 : Int32))), (0, .ref (g 0))]) hx hb dX3_clearAmount_15 rfl hl (by decide) rfl (fun ls hl => ?_)
    have lp1 : ∀ (nlp1 i : Nat) (H : Heap) (locs : List Loc) (ls : Array Slot), i + nlp1 = 22 → va_P D vwCl (rW g cI cZ cB acc lm rm (va_up (mF N am T wk ou) 4 (fl (lb 0) (lb am) i)) (va_up y 0 0)) H → va_S (mA g) s.heap H locs → lv_has ls 2 [(1, .int (nI i)), (0, .ref (g 0))] → W p l e (headSpec wsX3_clearAmount ({ frames := 0, cells := 0, slots := 0, locals := 0 })).room s m ([.ref (g 0)]).toArray below meth c H locs 0 0 (MQ below (va_Qi (fun (r : Int32) (u : MS) => (r, u) = mClear (N, am, T, y)) (fun u t => va_P D vwCl (rW g cI cZ cB acc lm rm (mF u.1 u.2.1 u.2.2.1 wk ou) u.2.2.2) t.heap) (mA g)) ([.ref (g 0)]).toArray s 0 0 (mA g)) (F0 m 16 ls []) := by
      intro nlp1
      induction nlp1 with
      | zero =>
        intro i H locs ls hinlp1 hP hS hl
        have hD : va_D (mA g) (rW g cI cZ cB acc lm rm (va_up (mF N am T wk ou) 4 (fl (lb 0) (lb am) i)) (va_up y 0 0)) := mlD hok
        refine lv_iload_n hx hb dX3_clearAmount_16 rfl (lv_at hl 0 rfl) ?_
        refine lv_bipush (v := 22) hx hb dX3_clearAmount_17 (by decide) ?_
        refine lv_icmp_ge (tgt := 35) hx hb dX3_clearAmount_19 (by decide) (fun _ => ?_) (fun c9 => absurd (nI_le (a := 22) (by omega) (by omega)) c9)
        have hP : va_P D vwCl (rW g cI cZ cB acc lm rm (mF N 0 T wk ou) (va_up y 0 0)) H := rW_congr hP (fun q9 h1 h2 j hj => by
          match q9 with
          | 1 => rfl
          | 2 => rfl
          | 3 => rfl
          | 4 =>
            exact fl_lo (by have : j < 22 := hj; omega)
          | 5 => rfl
          | 6 => rfl
          | 7 => rfl
          | 8 => rfl
          | 0 => omega
          | q9 + 9 => omega)
        have hD : va_D (mA g) (rW g cI cZ cB acc lm rm (mF N 0 T wk ou) (va_up y 0 0)) := mlD hok
        refine lv_iconst (v := 1) hx hb dX3_clearAmount_35 (by decide) ?_
        exact W.zret (v := 1) (ty := .boolean) hx hb hr (rfl) (fun t ht hW => ⟨⟨_, (N, 0, T, va_up y 0 0), rfl, by rw [mClear]; exact (if_neg c0).symm, hp_at ht hP⟩, hS.F ht⟩) hS.2.2 dX3_clearAmount_36
      | succ nlp1 ihlp1 =>
        intro i H locs ls hinlp1 hP hS hl
        have hD : va_D (mA g) (rW g cI cZ cB acc lm rm (va_up (mF N am T wk ou) 4 (fl (lb 0) (lb am) i)) (va_up y 0 0)) := mlD hok
        have hiwlp1 : i < 22 := by omega
        refine lv_iload_n hx hb dX3_clearAmount_16 rfl (lv_at hl 0 rfl) ?_
        refine lv_bipush (v := 22) hx hb dX3_clearAmount_17 (by decide) ?_
        refine lv_icmp_ge (tgt := 35) hx hb dX3_clearAmount_19 (by decide) (fun c9 => absurd c9 (nI_ge (b := 22) hiwlp1 (by omega))) (fun _ => ?_)
        refine lv_aload_n hx hb dX3_clearAmount_22 rfl (lv_at hl 1 rfl) ?_
        refine va_get (D := D) (ci := 3) (v := .ref (g 4)) (C := RX3) (T := TX3) (N := 18) hx hb hts hi3 hown hK hP 0 (wl_at (by omega)) rfl 7 (by decide) (hts (.fieldLink RX3 23 "BigLedgerModel" "amount" "[I") (by decide +kernel)) (fun _ h9 => h9) rfl dX3_clearAmount_23 ?_
        refine lv_iload_n hx hb dX3_clearAmount_26 rfl (lv_at hl 0 rfl) ?_
        refine lv_iconst (v := 0) hx hb dX3_clearAmount_27 (by decide) ?_
        refine va_iast hx hb hK hP hD hS 4 0 (wl_at (by omega)) rfl (vp_in_nI (by omega) (by omega)) dX3_clearAmount_28 (fun H locs hP hD hS => ?_)
        have hP : va_P D vwCl (rW g cI cZ cB acc lm rm (va_up (va_up (mF N am T wk ou) 4 (fl (lb 0) (lb am) i)) 4 (upd ((va_up (mF N am T wk ou) 4 (fl (lb 0) (lb am) i)) 4) (nI i).toNatClampNeg ((0 : Int32)))) (va_up y 0 0)) H := cv (ms_a4 (upd ((va_up (mF N am T wk ou) 4 (fl (lb 0) (lb am) i)) 4) (nI i).toNatClampNeg ((0 : Int32)))) hP
        have hD : va_D (mA g) (rW g cI cZ cB acc lm rm (va_up (va_up (mF N am T wk ou) 4 (fl (lb 0) (lb am) i)) 4 (upd ((va_up (mF N am T wk ou) 4 (fl (lb 0) (lb am) i)) 4) (nI i).toNatClampNeg ((0 : Int32)))) (va_up y 0 0)) := mlD hok
        have hP : va_P D vwCl (rW g cI cZ cB acc lm rm (va_up (mF N am T wk ou) 4 (fl (lb 0) (lb am) (i + 1))) (va_up y 0 0)) H := rW_congr hP (fun q9 h1 h2 j hj => by
          match q9 with
          | 1 => rfl
          | 2 => rfl
          | 3 => rfl
          | 4 =>
            show upd (fl (lb 0) (lb am) i) (nI i).toNatClampNeg 0 j = fl (lb 0) (lb am) (i + 1) j
            rw [nI_clamp (by omega), fl_s (show (0 : Int32) = lb 0 i by show (0 : Int32) = nI (lbN 0 i); rw [lbN_of_zero, nI_0])]
          | 5 => rfl
          | 6 => rfl
          | 7 => rfl
          | 8 => rfl
          | 0 => omega
          | q9 + 9 => omega)
        have hD : va_D (mA g) (rW g cI cZ cB acc lm rm (va_up (mF N am T wk ou) 4 (fl (lb 0) (lb am) (i + 1))) (va_up y 0 0)) := mlD hok
        refine lv_iinc (v := nI (i + 1)) (lv' := [(1, .int (nI (i + 1))), (0, .ref (g 0))]) hx hb dX3_clearAmount_29 hl (k := 0) rfl (nI_1 i) (by decide) rfl (fun ls hl => ?_)
        refine lv_goto (tgt := 16) hx hb dX3_clearAmount_32 (by decide) ?_
        exact ihlp1 (i + 1) H locs ls (by omega) hP hS hl
    have hP : va_P D vwCl (rW g cI cZ cB acc lm rm (va_up (mF N am T wk ou) 4 (fl (lb 0) (lb am) 0)) (va_up y 0 (0 : Int32))) H := rW_congr hP (fun q9 h1 h2 j hj => by
      match q9 with
      | 1 => rfl
      | 2 => rfl
      | 3 => rfl
      | 4 =>
        exact (congrFun (fl_0 (lb 0) (lb am)) j).symm
      | 5 => rfl
      | 6 => rfl
      | 7 => rfl
      | 8 => rfl
      | 0 => omega
      | q9 + 9 => omega)
    have hD : va_D (mA g) (rW g cI cZ cB acc lm rm (va_up (mF N am T wk ou) 4 (fl (lb 0) (lb am) 0)) (va_up y 0 (0 : Int32))) := mlD hok
    exact lp1 22 0 H locs ls rfl hP hS hl
  · refine lv_iconst (v := 0) hx hb dX3_clearAmount_12 (by decide) ?_
    exact W.zret (v := 0) (ty := .boolean) hx hb hr (rfl) (fun t ht hW => ⟨⟨_, (setY (N, am, T, y) 0 0), rfl, by rw [mClear]; exact (if_pos c0).symm, hp_at ht hP⟩, hS.F ht⟩) hS.2.2 dX3_clearAmount_13
set_option maxHeartbeats 4000000 in
set_option maxRecDepth 100000 in
theorem m_amountLimb (l : Launch) (D : va_G) (g : Nat → Nat) (cI cZ cB : ClassId) (acc lm rm : Nat) (N : LN) (am : Nat) (T : BN) (wk ou y : Nat → Int32) (hok : mOk g) (hacc : acc ≤ 24) (hlm : 1 ≤ lm) (hlm2 : lm ≤ 20) (ham : am < 2147483648 ^ lm) (p0 : Int32) : Met l yX3_amountLimb wsX3_amountLimb ({ frames := 0, cells := 0, slots := 0, locals := 0 }) (nPc [.ref (g 0), .int (p0)] D (rW g cI cZ cB acc lm rm (mF N am T wk ou) y) [(cI, .int), (cZ, .boolean), (cB, .byte)]) (va_Qi (fun (r : Int32) (u : MS) => (r, u) = mAmLimb lm p0 (N, am, T, y)) (fun u t => va_P D vwCl (rW g cI cZ cB acc lm rm (mF u.1 u.2.1 u.2.2.1 wk ou) u.2.2.2) t.heap) (mA g)) 0 0 (mA g) := by
  refine Met.ofW (cc := cX3_amountLimb) (maxL := 3) (ret := (some .boolean)) (by decide) rfl ?_
  intro p e s m args below meth c s₁ B hml hv
  obtain ⟨rfl, hP, hK⟩ := hv
  have hx := B.exec
  have hb := B.bytes
  have hr := B.returns
  have hts := atoms_spec (ws := wsX3_amountLimb) B.pre
  have hown : s.vm.findClass RX3 = some m.cls := findClass_of_methodNamed B.named
  have hlocks := B.notSynchronized
  have hi3 : ∀ w ∈ wsX30, w ∈ wsX3_amountLimb := by decide +kernel
  have hS : va_S (mA g) s.heap s.heap [] := va_S.rf
  have hD : va_D (mA g) (rW g cI cZ cB acc lm rm (mF N am T wk ou) y) := mlD hok
  have hl := lv_entry ([.ref (g 0), .int (p0)]) (n := 3) (Nat.le_of_ble_eq_true rfl)
  rw [lg_entry_eq]
  generalize (lg_sl ([.ref (g 0), .int (p0)]) ++ List.replicate (3 - (lg_sl ([.ref (g 0), .int (p0)])).length) Slot.unset).toArray = ls at hl ⊢
  have hl : lv_has ls 3 [(0, .ref (g 0)), (1, .int (p0))] := hl
  refine lv_aload_n hx hb dX3_amountLimb_0 rfl (lv_at hl 0 rfl) ?_
  refine lv_iconst (v := 0) hx hb dX3_amountLimb_1 (by decide) ?_
  refine va_put (D := D) (ci := 3) (v := .int ((0 : Int32))) (ty := .int) (C := RX3) (T := TX3) (N := 18) hx hb hts hi3 tyX3 tyX3_ok nmX3 hown hK hP hD hS 0 (wl_at (by omega)) rfl 0 (by decide) (hts (.fieldLink RX3 1 "BigLedgerModel" "thrown" "I") (by decide +kernel)) (fun _ h9 => h9) rfl (by decide +kernel) (rfl) (rfl) (Nat.le_of_ble_eq_true rfl) dX3_amountLimb_2 (fun H locs hP hD hS => ?_)
  have hP : va_P D vwCl (rW g cI cZ cB acc lm rm (mF N am T wk ou) (va_up y 0 (0 : Int32))) H := cv (ms_f 0 (0 : Int32) (by decide)) hP
  have hD : va_D (mA g) (rW g cI cZ cB acc lm rm (mF N am T wk ou) (va_up y 0 (0 : Int32))) := mlD hok
  refine lv_iload_n hx hb dX3_amountLimb_5 rfl (lv_at hl 1 rfl) ?_
  refine lv_if_lt (tgt := 30) hx hb dX3_amountLimb_6 (by decide) (fun c1 => ?_) (fun c1 => ?_)
  · refine lv_iconst (v := 0) hx hb dX3_amountLimb_30 (by decide) ?_
    exact W.zret (v := 0) (ty := .boolean) hx hb hr (rfl) (fun t ht hW => ⟨⟨_, (setY (N, am, T, y) 0 0), rfl, by rw [mAmLimb]; exact (if_pos c1).symm, hp_at ht hP⟩, hS.F ht⟩) hS.2.2 dX3_amountLimb_31
  · refine lv_aload_n hx hb dX3_amountLimb_9 rfl (lv_at hl 0 rfl) ?_
    refine va_get (D := D) (ci := 3) (v := .int ((va_up y 0 (0 : Int32)) 1)) (C := RX3) (T := TX3) (N := 18) hx hb hts hi3 hown hK hP 0 (wl_at (by omega)) rfl 11 (by decide) (hts (.fieldLink RX3 52 "BigLedgerModel" "up" "Z") (by decide +kernel)) (fun _ h9 => h9) rfl dX3_amountLimb_10 ?_
    refine lv_if_eq (tgt := 30) hx hb dX3_amountLimb_13 (by decide) (fun c0 => ?_) (fun c0 => ?_)
    · refine lv_iconst (v := 0) hx hb dX3_amountLimb_30 (by decide) ?_
      exact W.zret (v := 0) (ty := .boolean) hx hb hr (rfl) (fun t ht hW => ⟨⟨_, (setY (N, am, T, y) 0 0), rfl, by rw [mAmLimb]; exact ((if_neg c1).trans (if_pos c0)).symm, hp_at ht hP⟩, hS.F ht⟩) hS.2.2 dX3_amountLimb_31
    · refine lv_aload_n hx hb dX3_amountLimb_16 rfl (lv_at hl 0 rfl) ?_
      refine va_get (D := D) (ci := 3) (v := .ref (g 4)) (C := RX3) (T := TX3) (N := 18) hx hb hts hi3 hown hK hP 0 (wl_at (by omega)) rfl 7 (by decide) (hts (.fieldLink RX3 23 "BigLedgerModel" "amount" "[I") (by decide +kernel)) (fun _ h9 => h9) rfl dX3_amountLimb_17 ?_
      refine lv_aload_n hx hb dX3_amountLimb_20 rfl (lv_at hl 0 rfl) ?_
      refine va_get (D := D) (ci := 3) (v := .int (nI lm)) (C := RX3) (T := TX3) (N := 18) hx hb hts hi3 hown hK hP 0 (wl_at (by omega)) rfl 2 (by decide) (hts (.fieldLink RX3 46 "BigLedgerModel" "limbs" "I") (by decide +kernel)) (fun _ h9 => h9) rfl dX3_amountLimb_21 ?_
      refine lv_iconst (v := 1) hx hb dX3_amountLimb_24 (by decide) ?_
      refine lv_isub hx hb dX3_amountLimb_25 ?_
      refine lv_topi (fun y16 ey16 => ?_)
      replace ey16 : y16 = nI (lm - 1) := ey16.trans (pk_sub (a := lm) (b := 1) (by omega))
      subst ey16
      refine va_iald hx hb hK hP 4 0 (wl_at (by omega)) rfl (vp_in_nI (by omega) (by omega)) dX3_amountLimb_26 ?_
      refine lv_topi (fun y17 ey17 => ?_)
      replace ey17 : y17 = lb am (lm - 1) := ey17.trans (by rw [nI_clamp (by omega)]; rfl)
      subst ey17
      refine lv_if_eq (tgt := 32) hx hb dX3_amountLimb_27 (by decide) (fun c2 => ?_) (fun c2 => ?_)
      · replace c2 : lbN am (lm - 1) = 0 := lb_eq0.mp c2
        obtain ⟨x0, hx0, rfl⟩ := nI_of c1
        have ex : (nI x0).toNatClampNeg = x0 := nI_clamp hx0
        have hsm := am_small hlm ham hx0 c2
        have lpa : ∀ (i : Nat) (H : Heap) (locs : List Loc) (ls : Array Slot), i < lm → va_P D vwCl (rW g cI cZ cB acc lm rm (va_up (mF N am T wk ou) 4 (fd (fun j => if j < lm then lb (am * 2147483648 + x0) j else lb am j) (lb am) (i + 1))) (va_up y 0 0)) H → va_S (mA g) s.heap H locs → lv_has ls 3 [(2, .int (nI i)), (0, .ref (g 0)), (1, .int (nI x0))] → W p l e (headSpec wsX3_amountLimb ({ frames := 0, cells := 0, slots := 0, locals := 0 })).room s m ([.ref (g 0), .int (nI x0)]).toArray below meth c H locs 0 0 (MQ below (va_Qi (fun (r : Int32) (u : MS) => (r, u) = mAmLimb lm (nI x0) (N, am, T, y)) (fun u t => va_P D vwCl (rW g cI cZ cB acc lm rm (mF u.1 u.2.1 u.2.2.1 wk ou) u.2.2.2) t.heap) (mA g)) ([.ref (g 0), .int (nI x0)]).toArray s 0 0 (mA g)) (F0 m 39 ls []) := by
          intro i
          induction i with
          | zero =>
            intro H locs ls hiw hP hS hl
            have hD : va_D (mA g) (rW g cI cZ cB acc lm rm (va_up (mF N am T wk ou) 4 (fd (fun j => if j < lm then lb (am * 2147483648 + x0) j else lb am j) (lb am) (0 + 1))) (va_up y 0 0)) := mlD hok
            refine lv_iload_n hx hb dX3_amountLimb_39 rfl (lv_at hl 0 rfl) ?_
            refine lv_if_le (tgt := 63) hx hb dX3_amountLimb_40 (by decide) (fun _ => ?_) (fun c9 => absurd ((nI_le0 (by omega)).mpr rfl) c9)
            refine lv_aload_n hx hb dX3_amountLimb_63 rfl (lv_at hl 1 rfl) ?_
            refine va_get (D := D) (ci := 3) (v := .ref (g 4)) (C := RX3) (T := TX3) (N := 18) hx hb hts hi3 hown hK hP 0 (wl_at (by omega)) rfl 7 (by decide) (hts (.fieldLink RX3 23 "BigLedgerModel" "amount" "[I") (by decide +kernel)) (fun _ h9 => h9) rfl dX3_amountLimb_64 ?_
            refine lv_iconst (v := 0) hx hb dX3_amountLimb_67 (by decide) ?_
            refine lv_iload_n hx hb dX3_amountLimb_68 rfl (lv_at hl 2 rfl) ?_
            refine va_iast hx hb hK hP hD hS 4 0 (wl_at (by omega)) rfl (vp_in_nI (n := 0) (by omega) (by omega)) dX3_amountLimb_69 (fun H locs hP hD hS => ?_)
            have hP : va_P D vwCl (rW g cI cZ cB acc lm rm (va_up (va_up (mF N am T wk ou) 4 (fd (fun j => if j < lm then lb (am * 2147483648 + x0) j else lb am j) (lb am) (0 + 1))) 4 (upd ((va_up (mF N am T wk ou) 4 (fd (fun j => if j < lm then lb (am * 2147483648 + x0) j else lb am j) (lb am) (0 + 1))) 4) ((0 : Int32)).toNatClampNeg (nI x0))) (va_up y 0 0)) H := cv (ms_a4 (upd ((va_up (mF N am T wk ou) 4 (fd (fun j => if j < lm then lb (am * 2147483648 + x0) j else lb am j) (lb am) (0 + 1))) 4) ((0 : Int32)).toNatClampNeg (nI x0))) hP
            have hD : va_D (mA g) (rW g cI cZ cB acc lm rm (va_up (va_up (mF N am T wk ou) 4 (fd (fun j => if j < lm then lb (am * 2147483648 + x0) j else lb am j) (lb am) (0 + 1))) 4 (upd ((va_up (mF N am T wk ou) 4 (fd (fun j => if j < lm then lb (am * 2147483648 + x0) j else lb am j) (lb am) (0 + 1))) 4) ((0 : Int32)).toNatClampNeg (nI x0))) (va_up y 0 0)) := mlD hok
            have hP : va_P D vwCl (rW g cI cZ cB acc lm rm (mF N (am * 2147483648 + x0) T wk ou) (va_up y 0 0)) H := rW_congr hP (fun q9 h1 h2 j hj => by
              match q9 with
              | 1 => rfl
              | 2 => rfl
              | 3 => rfl
              | 4 =>
                show upd (fd (fun j => if j < lm then lb (am * 2147483648 + x0) j else lb am j) (lb am) (0 + 1)) 0 (nI x0) j = lb (am * 2147483648 + x0) j
                rw [fd_s (show nI x0 = (if 0 < lm then lb (am * 2147483648 + x0) 0 else lb am 0) by rw [if_pos (by omega)]; show nI x0 = nI (lbN _ 0); rw [app_0 am hx0]), fd_0]
                exact app_fd hlm hsm hx0 j
              | 5 => rfl
              | 6 => rfl
              | 7 => rfl
              | 8 => rfl
              | 0 => omega
              | q9 + 9 => omega)
            have hD : va_D (mA g) (rW g cI cZ cB acc lm rm (mF N (am * 2147483648 + x0) T wk ou) (va_up y 0 0)) := mlD hok
            refine lv_iconst (v := 1) hx hb dX3_amountLimb_70 (by decide) ?_
            exact W.zret (v := 1) (ty := .boolean) hx hb hr (rfl) (fun t ht hW => ⟨⟨_, (N, (am * 2147483648 + x0), T, va_up y 0 0), rfl, by rw [mAmLimb, ex]; exact ((if_neg c1).trans ((if_neg c0).trans (if_pos c2))).symm, hp_at ht hP⟩, hS.F ht⟩) hS.2.2 dX3_amountLimb_71
          | succ i ih =>
            intro H locs ls hiw hP hS hl
            have hD : va_D (mA g) (rW g cI cZ cB acc lm rm (va_up (mF N am T wk ou) 4 (fd (fun j => if j < lm then lb (am * 2147483648 + x0) j else lb am j) (lb am) (i + 1 + 1))) (va_up y 0 0)) := mlD hok
            refine lv_iload_n hx hb dX3_amountLimb_39 rfl (lv_at hl 0 rfl) ?_
            refine lv_if_le (tgt := 63) hx hb dX3_amountLimb_40 (by decide) (fun c9 => absurd c9 (nI_nle (by omega) (by omega))) (fun _ => ?_)
            refine lv_aload_n hx hb dX3_amountLimb_43 rfl (lv_at hl 1 rfl) ?_
            refine va_get (D := D) (ci := 3) (v := .ref (g 4)) (C := RX3) (T := TX3) (N := 18) hx hb hts hi3 hown hK hP 0 (wl_at (by omega)) rfl 7 (by decide) (hts (.fieldLink RX3 23 "BigLedgerModel" "amount" "[I") (by decide +kernel)) (fun _ h9 => h9) rfl dX3_amountLimb_44 ?_
            refine lv_iload_n hx hb dX3_amountLimb_47 rfl (lv_at hl 0 rfl) ?_
            refine lv_aload_n hx hb dX3_amountLimb_48 rfl (lv_at hl 1 rfl) ?_
            refine va_get (D := D) (ci := 3) (v := .ref (g 4)) (C := RX3) (T := TX3) (N := 18) hx hb hts hi3 hown hK hP 0 (wl_at (by omega)) rfl 7 (by decide) (hts (.fieldLink RX3 23 "BigLedgerModel" "amount" "[I") (by decide +kernel)) (fun _ h9 => h9) rfl dX3_amountLimb_49 ?_
            refine lv_iload_n hx hb dX3_amountLimb_52 rfl (lv_at hl 0 rfl) ?_
            refine lv_iconst (v := 1) hx hb dX3_amountLimb_53 (by decide) ?_
            refine lv_isub hx hb dX3_amountLimb_54 ?_
            refine lv_topi (fun y18 ey18 => ?_)
            replace ey18 : y18 = nI i := ey18.trans (nI_pred i)
            subst ey18
            refine va_iald hx hb hK hP 4 0 (wl_at (by omega)) rfl (vp_in_nI (by omega) (by omega)) dX3_amountLimb_55 ?_
            refine lv_topi (fun y19 ey19 => ?_)
            replace ey19 : y19 = lb am i := ey19.trans (by rw [nI_clamp (by omega)]; exact fd_lo (g := (fun j => if j < lm then lb (am * 2147483648 + x0) j else lb am j)) (f := lb am) (i := i + 1 + 1) (k := i) (by omega))
            subst ey19
            refine va_iast hx hb hK hP hD hS 4 0 (wl_at (by omega)) rfl (vp_in_nI (by omega) (by omega)) dX3_amountLimb_56 (fun H locs hP hD hS => ?_)
            have hP : va_P D vwCl (rW g cI cZ cB acc lm rm (va_up (va_up (mF N am T wk ou) 4 (fd (fun j => if j < lm then lb (am * 2147483648 + x0) j else lb am j) (lb am) (i + 1 + 1))) 4 (upd ((va_up (mF N am T wk ou) 4 (fd (fun j => if j < lm then lb (am * 2147483648 + x0) j else lb am j) (lb am) (i + 1 + 1))) 4) (nI (i + 1)).toNatClampNeg (lb am i))) (va_up y 0 0)) H := cv (ms_a4 (upd ((va_up (mF N am T wk ou) 4 (fd (fun j => if j < lm then lb (am * 2147483648 + x0) j else lb am j) (lb am) (i + 1 + 1))) 4) (nI (i + 1)).toNatClampNeg (lb am i))) hP
            have hD : va_D (mA g) (rW g cI cZ cB acc lm rm (va_up (va_up (mF N am T wk ou) 4 (fd (fun j => if j < lm then lb (am * 2147483648 + x0) j else lb am j) (lb am) (i + 1 + 1))) 4 (upd ((va_up (mF N am T wk ou) 4 (fd (fun j => if j < lm then lb (am * 2147483648 + x0) j else lb am j) (lb am) (i + 1 + 1))) 4) (nI (i + 1)).toNatClampNeg (lb am i))) (va_up y 0 0)) := mlD hok
            have hP : va_P D vwCl (rW g cI cZ cB acc lm rm (va_up (mF N am T wk ou) 4 (fd (fun j => if j < lm then lb (am * 2147483648 + x0) j else lb am j) (lb am) (i + 1))) (va_up y 0 0)) H := rW_congr hP (fun q9 h1 h2 j hj => by
              match q9 with
              | 1 => rfl
              | 2 => rfl
              | 3 => rfl
              | 4 =>
                show upd (fd (fun j => if j < lm then lb (am * 2147483648 + x0) j else lb am j) (lb am) (i + 1 + 1)) (nI (i + 1)).toNatClampNeg (lb am i) j = fd (fun j => if j < lm then lb (am * 2147483648 + x0) j else lb am j) (lb am) (i + 1) j
                rw [nI_clamp (by omega), fd_s (show lb am i = (if i + 1 < lm then lb (am * 2147483648 + x0) (i + 1) else lb am (i + 1)) by rw [if_pos hiw]; show nI (lbN am i) = nI (lbN _ (i + 1)); rw [app_s am i hx0])]
              | 5 => rfl
              | 6 => rfl
              | 7 => rfl
              | 8 => rfl
              | 0 => omega
              | q9 + 9 => omega)
            have hD : va_D (mA g) (rW g cI cZ cB acc lm rm (va_up (mF N am T wk ou) 4 (fd (fun j => if j < lm then lb (am * 2147483648 + x0) j else lb am j) (lb am) (i + 1))) (va_up y 0 0)) := mlD hok
            refine lv_iinc (v := nI i) (lv' := [(2, .int (nI i)), (0, .ref (g 0)), (1, .int (nI x0))]) hx hb dX3_amountLimb_57 hl (k := 0) rfl (pk_m1 i) (by decide) rfl (fun ls hl => ?_)
            refine lv_goto (tgt := 39) hx hb dX3_amountLimb_60 (by decide) ?_
            exact ih H locs ls (by omega) hP hS hl
        refine lv_aload_n hx hb dX3_amountLimb_32 rfl (lv_at hl 0 rfl) ?_
        refine va_get (D := D) (ci := 3) (v := .int (nI lm)) (C := RX3) (T := TX3) (N := 18) hx hb hts hi3 hown hK hP 0 (wl_at (by omega)) rfl 2 (by decide) (hts (.fieldLink RX3 46 "BigLedgerModel" "limbs" "I") (by decide +kernel)) (fun _ h9 => h9) rfl dX3_amountLimb_33 ?_
        refine lv_iconst (v := 1) hx hb dX3_amountLimb_36 (by decide) ?_
        refine lv_isub hx hb dX3_amountLimb_37 ?_
        refine lv_topi (fun y20 ey20 => ?_)
        replace ey20 : y20 = nI (lm - 1) := ey20.trans (pk_sub (a := lm) (b := 1) (by omega))
        subst ey20
        refine lv_istore_n (lv' := [(2, .int (nI (lm - 1))), (0, .ref (g 0)), (1, .int (nI x0))]) hx hb dX3_amountLimb_38 rfl hl (by decide) rfl (fun ls hl => ?_)
        have hP : va_P D vwCl (rW g cI cZ cB acc lm rm (va_up (mF N am T wk ou) 4 (fd (fun j => if j < lm then lb (am * 2147483648 + x0) j else lb am j) (lb am) (lm - 1 + 1))) (va_up y 0 (0 : Int32))) H := rW_congr hP (fun q9 h1 h2 j hj => by
          match q9 with
          | 1 => rfl
          | 2 => rfl
          | 3 => rfl
          | 4 =>
            show lb am j = (if j < lm - 1 + 1 then lb am j else (if j < lm then lb (am * 2147483648 + x0) j else lb am j))
            by_cases h : j < lm - 1 + 1
            · rw [if_pos h]
            · rw [if_neg h, if_neg (by omega)]
          | 5 => rfl
          | 6 => rfl
          | 7 => rfl
          | 8 => rfl
          | 0 => omega
          | q9 + 9 => omega)
        have hD : va_D (mA g) (rW g cI cZ cB acc lm rm (va_up (mF N am T wk ou) 4 (fd (fun j => if j < lm then lb (am * 2147483648 + x0) j else lb am j) (lb am) (lm - 1 + 1))) (va_up y 0 (0 : Int32))) := mlD hok
        exact lpa (lm - 1) H locs ls (by omega) hP hS hl
      · refine lv_iconst (v := 0) hx hb dX3_amountLimb_30 (by decide) ?_
        exact W.zret (v := 0) (ty := .boolean) hx hb hr (rfl) (fun t ht hW => ⟨⟨_, (setY (N, am, T, y) 0 0), rfl, by rw [mAmLimb]; exact ((if_neg c1).trans ((if_neg c0).trans (if_neg (fun q => c2 (lb_eq0.mpr q))))).symm, hp_at ht hP⟩, hS.F ht⟩) hS.2.2 dX3_amountLimb_31
set_option maxHeartbeats 4000000 in
set_option maxRecDepth 100000 in
theorem m_size (l : Launch) (D : va_G) (cI : ClassId) (pa n a0 v : Nat) (f : Nat → Int32) (ha0 : a0 + 22 ≤ n) (hn : n ≤ 1000) (hf : ∀ k, k < 22 → f (a0 + k) = lb v k) : Met l yX3_size wsX3_size ({ frames := 0, cells := 0, slots := 0, locals := 0 }) (nPc [.ref pa, .int (nI a0)] D [(pa, .inl (cI, n, .inl f))] [(cI, .int)]) (vp_Si (fun r => r = nI (szF v 22))) 0 0 (fun _ => False) := by
  refine Met.ofW (cc := cX3_size) (maxL := 3) (ret := (some .int)) (by decide) rfl ?_
  intro p e s m args below meth c s₁ B hml hv
  obtain ⟨rfl, hP, hK⟩ := hv
  have hx := B.exec
  have hb := B.bytes
  have hr := B.returns
  have hts := atoms_spec (ws := wsX3_size) B.pre
  have hown : s.vm.findClass RX3 = some m.cls := findClass_of_methodNamed B.named
  have hlocks := B.notSynchronized
  generalize hH : s.heap = H at hP ⊢
  have hl := lv_entry ([.ref (pa), .int (nI a0)]) (n := 3) (Nat.le_of_ble_eq_true rfl)
  rw [lg_entry_eq]
  generalize (lg_sl ([.ref (pa), .int (nI a0)]) ++ List.replicate (3 - (lg_sl ([.ref (pa), .int (nI a0)])).length) Slot.unset).toArray = ls at hl ⊢
  have hl : lv_has ls 3 [(0, .ref (pa)), (1, .int (nI a0))] := hl
  have lpz : ∀ (k : Nat) (ls : Array Slot), k ≤ 22 → szF v 22 = szF v k → lv_has ls 3 [(2, .int (nI k)), (0, .ref (pa)), (1, .int (nI a0))] → W p l e (headSpec wsX3_size ({ frames := 0, cells := 0, slots := 0, locals := 0 })).room s m ([.ref (pa), .int (nI a0)]).toArray below meth c H [] 0 0 (MQ below (vp_Si (fun r => r = nI (szF v 22))) ([.ref (pa), .int (nI a0)]).toArray s 0 0 (fun _ => False)) (F0 m 3 ls []) := by
    intro k
    induction k with
    | zero =>
      intro ls hk hsz hl
      refine lv_iload_n hx hb dX3_size_3 rfl (lv_at hl 0 rfl) ?_
      refine lv_if_le (tgt := 23) hx hb dX3_size_4 (by decide) (fun _ => ?_) (fun c9 => absurd ((nI_le0 (by omega)).mpr rfl) c9)
      refine lv_iload_n hx hb dX3_size_23 rfl (lv_at hl 0 rfl) ?_
      exact W.iret (v := nI 0) hx hb hr (fun t ht hW => ⟨_, rfl, by rw [hsz]; rfl, ht.trans hH.symm⟩) (fun _ h => by cases h) dX3_size_24
    | succ k ih =>
      intro ls hk hsz hl
      refine lv_iload_n hx hb dX3_size_3 rfl (lv_at hl 0 rfl) ?_
      refine lv_if_le (tgt := 23) hx hb dX3_size_4 (by decide) (fun c9 => absurd c9 (nI_nle (by omega) (by omega))) (fun _ => ?_)
      refine lv_aload_n hx hb dX3_size_7 rfl (lv_at hl 1 rfl) ?_
      refine lv_iload_n hx hb dX3_size_8 rfl (lv_at hl 2 rfl) ?_
      refine lv_iload_n hx hb dX3_size_9 rfl (lv_at hl 0 rfl) ?_
      refine lv_iadd hx hb dX3_size_10 ?_
      refine lv_topi (fun y21 ey21 => ?_)
      replace ey21 : y21 = nI (a0 + k + 1) := ey21.trans (nI_add _ _)
      subst ey21
      refine lv_iconst (v := 1) hx hb dX3_size_11 (by decide) ?_
      refine lv_isub hx hb dX3_size_12 ?_
      refine lv_topi (fun y22 ey22 => ?_)
      replace ey22 : y22 = nI (a0 + k) := ey22.trans (nI_pred (a0 + k))
      subst ey22
      refine va_iald hx hb hK hP 0 0 rfl rfl (vp_in_nI (by omega) (by omega)) dX3_size_13 ?_
      refine lv_topi (fun y23 ey23 => ?_)
      replace ey23 : y23 = lb v k := ey23.trans (by rw [nI_clamp (by omega)]; exact hf k (by omega))
      subst ey23
      refine lv_if_ne (tgt := 23) hx hb dX3_size_14 (by decide) (fun c1 => ?_) (fun c1 => ?_)
      · refine lv_iload_n hx hb dX3_size_23 rfl (lv_at hl 0 rfl) ?_
        exact W.iret (v := nI (k + 1)) hx hb hr (fun t ht hW => ⟨_, rfl, by rw [hsz, szF_stop (fun q => c1 (lb_eq0.mpr q))], ht.trans hH.symm⟩) (fun _ h => by cases h) dX3_size_24
      · refine lv_iinc (v := nI k) (lv' := [(2, .int (nI k)), (0, .ref (pa)), (1, .int (nI a0))]) hx hb dX3_size_17 hl (k := 0) rfl (pk_m1 k) (by decide) rfl (fun ls hl => ?_)
        refine lv_goto (tgt := 3) hx hb dX3_size_20 (by decide) ?_
        exact ih ls (by omega) (hsz.trans (szF_down (lb_eq0.mp c1))) hl
  refine lv_bipush (v := 22) hx hb dX3_size_0 (by decide) ?_
  refine lv_istore_n (lv' := [(2, .int ((22 : Int32))), (0, .ref (pa)), (1, .int (nI a0))]) hx hb dX3_size_2 rfl hl (by decide) rfl (fun ls hl => ?_)
  exact lpz 22 ls (Nat.le_refl _) rfl hl
set_option maxHeartbeats 4000000 in
set_option maxRecDepth 100000 in
theorem m_compared (l : Launch) (D : va_G) (cI : ClassId) (pa n a0 v pb m0 b0 u : Nat) (f fb : Nat → Int32) (ha0 : a0 + 22 ≤ n) (hn : n ≤ 1000) (hf : ∀ k, k < 22 → f (a0 + k) = lb v k) (hb0 : b0 + 22 ≤ m0) (hm : m0 ≤ 1000) (hfb : ∀ k, k < 22 → fb (b0 + k) = lb u k) (hv0 : v < 2147483648 ^ 22) (hu0 : u < 2147483648 ^ 22) : Met l yX3_compared wsX3_compared ({ frames := 0, cells := 0, slots := 0, locals := 0 }) (nPc [.ref (pa), .int (nI a0), .ref (pb), .int (nI b0)] D [(pa, .inl (cI, n, .inl f)), (pb, .inl (cI, m0, .inl fb))] [(cI, .int)]) (vp_Si (fun r => r = cmpI v u)) 0 0 (fun _ => False) := by
  refine Met.ofW (cc := cX3_compared) (maxL := 5) (ret := (some .int)) (by decide) rfl ?_
  intro p e s m args below meth c s₁ B hml hv
  obtain ⟨rfl, hP, hK⟩ := hv
  have hx := B.exec
  have hb := B.bytes
  have hr := B.returns
  have hts := atoms_spec (ws := wsX3_compared) B.pre
  have hown : s.vm.findClass RX3 = some m.cls := findClass_of_methodNamed B.named
  have hlocks := B.notSynchronized
  generalize hH : s.heap = H at hP ⊢
  have hl := lv_entry ([.ref (pa), .int (nI a0), .ref (pb), .int (nI b0)]) (n := 5) (Nat.le_of_ble_eq_true rfl)
  rw [lg_entry_eq]
  generalize (lg_sl ([.ref (pa), .int (nI a0), .ref (pb), .int (nI b0)]) ++ List.replicate (5 - (lg_sl ([.ref (pa), .int (nI a0), .ref (pb), .int (nI b0)])).length) Slot.unset).toArray = ls at hl ⊢
  have hl : lv_has ls 5 [(0, .ref (pa)), (1, .int (nI a0)), (2, .ref (pb)), (3, .int (nI b0))] := hl
  have lpz : ∀ (k : Nat) (ls : Array Slot), k ≤ 22 → v / 2147483648 ^ k = u / 2147483648 ^ k → lv_has ls 5 [(4, .int (nI k - 1)), (0, .ref (pa)), (1, .int (nI a0)), (2, .ref (pb)), (3, .int (nI b0))] → W p l e (headSpec wsX3_compared ({ frames := 0, cells := 0, slots := 0, locals := 0 })).room s m ([.ref (pa), .int (nI a0), .ref (pb), .int (nI b0)]).toArray below meth c H [] 0 0 (MQ below (vp_Si (fun r => r = cmpI v u)) ([.ref (pa), .int (nI a0), .ref (pb), .int (nI b0)]).toArray s 0 0 (fun _ => False)) (F0 m 4 ls []) := by
    intro k
    induction k with
    | zero =>
      intro ls hk heq hl
      refine lv_iload hx hb dX3_compared_4 (lv_at hl 0 rfl) ?_
      refine lv_if_lt (tgt := 51) hx hb dX3_compared_6 (by decide) (fun _ => ?_) (fun c9 => absurd (by decide) c9)
      refine lv_iconst (v := 0) hx hb dX3_compared_51 (by decide) ?_
      exact W.iret (v := 0) hx hb hr (fun t ht hW => ⟨_, rfl, by rw [cmpI, cmp_0 heq, if_neg (Nat.lt_irrefl u), if_pos rfl], ht.trans hH.symm⟩) (fun _ h => by cases h) dX3_compared_52
    | succ k ih =>
      intro ls hk heq hl
      rw [nI_pred] at hl
      refine lv_iload hx hb dX3_compared_4 (lv_at hl 0 rfl) ?_
      refine lv_if_lt (tgt := 51) hx hb dX3_compared_6 (by decide) (fun c9 => absurd c9 (nI_pos (by omega))) (fun _ => ?_)
      have hlv := lbN_lt' v k
      have hlu := lbN_lt' u k
      refine lv_aload_n hx hb dX3_compared_9 rfl (lv_at hl 1 rfl) ?_
      refine lv_iload_n hx hb dX3_compared_10 rfl (lv_at hl 2 rfl) ?_
      refine lv_iload hx hb dX3_compared_11 (lv_at hl 0 rfl) ?_
      refine lv_iadd hx hb dX3_compared_13 ?_
      refine lv_topi (fun y24 ey24 => ?_)
      replace ey24 : y24 = nI (a0 + k) := ey24.trans (nI_add _ _)
      subst ey24
      refine va_iald hx hb hK hP 0 0 rfl rfl (vp_in_nI (by omega) (by omega)) dX3_compared_14 ?_
      refine lv_topi (fun y25 ey25 => ?_)
      replace ey25 : y25 = lb v k := ey25.trans (by rw [nI_clamp (by omega)]; exact hf k (by omega))
      subst ey25
      refine lv_aload_n hx hb dX3_compared_15 rfl (lv_at hl 3 rfl) ?_
      refine lv_iload_n hx hb dX3_compared_16 rfl (lv_at hl 4 rfl) ?_
      refine lv_iload hx hb dX3_compared_17 (lv_at hl 0 rfl) ?_
      refine lv_iadd hx hb dX3_compared_19 ?_
      refine lv_topi (fun y26 ey26 => ?_)
      replace ey26 : y26 = nI (b0 + k) := ey26.trans (nI_add _ _)
      subst ey26
      refine va_iald hx hb hK hP 1 0 rfl rfl (vp_in_nI (by omega) (by omega)) dX3_compared_20 ?_
      refine lv_topi (fun y27 ey27 => ?_)
      replace ey27 : y27 = lb u k := ey27.trans (by rw [nI_clamp (by omega)]; exact hfb k (by omega))
      subst ey27
      refine lv_icmp_eq (tgt := 45) hx hb dX3_compared_21 (by decide) (fun c1 => ?_) (fun c1 => ?_)
      · refine lv_iinc (v := nI k - 1) (lv' := [(4, .int (nI k - 1)), (0, .ref (pa)), (1, .int (nI a0)), (2, .ref (pb)), (3, .int (nI b0))]) hx hb dX3_compared_45 hl (k := 0) rfl (i_m1 _) (by decide) rfl (fun ls hl => ?_)
        refine lv_goto (tgt := 4) hx hb dX3_compared_48 (by decide) ?_
        exact ih ls (by omega) (cmp_eq heq ((nI_eq hlv hlu).mp c1)) hl
      · refine lv_aload_n hx hb dX3_compared_24 rfl (lv_at hl 1 rfl) ?_
        refine lv_iload_n hx hb dX3_compared_25 rfl (lv_at hl 2 rfl) ?_
        refine lv_iload hx hb dX3_compared_26 (lv_at hl 0 rfl) ?_
        refine lv_iadd hx hb dX3_compared_28 ?_
        refine lv_topi (fun y28 ey28 => ?_)
        replace ey28 : y28 = nI (a0 + k) := ey28.trans (nI_add _ _)
        subst ey28
        refine va_iald hx hb hK hP 0 0 rfl rfl (vp_in_nI (by omega) (by omega)) dX3_compared_29 ?_
        refine lv_topi (fun y29 ey29 => ?_)
        replace ey29 : y29 = lb v k := ey29.trans (by rw [nI_clamp (by omega)]; exact hf k (by omega))
        subst ey29
        refine lv_aload_n hx hb dX3_compared_30 rfl (lv_at hl 3 rfl) ?_
        refine lv_iload_n hx hb dX3_compared_31 rfl (lv_at hl 4 rfl) ?_
        refine lv_iload hx hb dX3_compared_32 (lv_at hl 0 rfl) ?_
        refine lv_iadd hx hb dX3_compared_34 ?_
        refine lv_topi (fun y30 ey30 => ?_)
        replace ey30 : y30 = nI (b0 + k) := ey30.trans (nI_add _ _)
        subst ey30
        refine va_iald hx hb hK hP 1 0 rfl rfl (vp_in_nI (by omega) (by omega)) dX3_compared_35 ?_
        refine lv_topi (fun y31 ey31 => ?_)
        replace ey31 : y31 = lb u k := ey31.trans (by rw [nI_clamp (by omega)]; exact hfb k (by omega))
        subst ey31
        have hne : ¬ lbN v k = lbN u k := fun q => c1 ((nI_eq hlv hlu).mpr q)
        refine lv_icmp_le (tgt := 43) hx hb dX3_compared_36 (by decide) (fun c2 => ?_) (fun c2 => ?_)
        · refine lv_iconst (v := (-1)) hx hb dX3_compared_43 (by decide) ?_
          have h3 : v < u := cmp_lt heq (by have := (nI_leI hlv hlu).mp c2; omega)
          exact W.iret (v := -1) hx hb hr (fun t ht hW => ⟨_, rfl, by rw [cmpI, if_pos h3], ht.trans hH.symm⟩) (fun _ h => by cases h) dX3_compared_44
        · have h3 : u < v := cmp_lt heq.symm (by have h9 : ¬ lbN v k ≤ lbN u k := fun q => c2 ((nI_leI hlv hlu).mpr q); omega)
          refine lv_iconst (v := 1) hx hb dX3_compared_39 (by decide) ?_
          refine lv_goto (tgt := 44) hx hb dX3_compared_40 (by decide) ?_
          exact W.iret (v := 1) hx hb hr (fun t ht hW => ⟨_, rfl, by rw [cmpI, if_neg (by omega), if_neg (by omega)], ht.trans hH.symm⟩) (fun _ h => by cases h) dX3_compared_44
  refine lv_bipush (v := 21) hx hb dX3_compared_0 (by decide) ?_
  refine lv_istore (lv' := [(4, .int ((21 : Int32))), (0, .ref (pa)), (1, .int (nI a0)), (2, .ref (pb)), (3, .int (nI b0))]) hx hb dX3_compared_2 hl (by decide) rfl (fun ls hl => ?_)
  exact lpz 22 ls (Nat.le_refl _) (cmp_top hv0 hu0) hl
set_option maxHeartbeats 4000000 in
set_option maxRecDepth 100000 in
theorem m_isFull (l : Launch) (D : va_G) (g : Nat → Nat) (cI cZ cB : ClassId) (acc lm rm : Nat) (N : LN) (am : Nat) (T : BN) (wk ou y : Nat → Int32) (hok : mOk g) (hacc : acc ≤ 24) (hrm : rm ≤ 25) (a b : Nat) (ha : a < 25) (hb0 : b < 25) : Met l yX3_isFull wsX3_isFull ({ frames := 1, cells := 0, slots := 0, locals := 22 }) (nPc [.ref (g 0), .int (nI a), .int (nI b)] D (rW g cI cZ cB acc lm rm (mF N am T wk ou) y) [(cI, .int), (cZ, .boolean), (cB, .byte)]) (vp_Si (fun r => r = if rm < fb_ct (T 0) 25 + mMore (T 0) a b then 1 else 0)) 0 0 (fun _ => False) := by
  refine Met.ofW (cc := cX3_isFull) (maxL := 4) (ret := (some .boolean)) (by decide) rfl ?_
  intro p e s m args below meth c s₁ B hml hv
  obtain ⟨rfl, hP, hK⟩ := hv
  have hx := B.exec
  have hb := B.bytes
  have hr := B.returns
  have hts := atoms_spec (ws := wsX3_isFull) B.pre
  have hown : s.vm.findClass RX3 = some m.cls := findClass_of_methodNamed B.named
  have hlocks := B.notSynchronized
  have hi3 : ∀ w ∈ wsX30, w ∈ wsX3_isFull := by decide +kernel
  generalize hH : s.heap = H at hP ⊢
  have hl := lv_entry ([.ref (g 0), .int (nI a), .int (nI b)]) (n := 4) (Nat.le_of_ble_eq_true rfl)
  rw [lg_entry_eq]
  generalize (lg_sl ([.ref (g 0), .int (nI a), .int (nI b)]) ++ List.replicate (4 - (lg_sl ([.ref (g 0), .int (nI a), .int (nI b)])).length) Slot.unset).toArray = ls at hl ⊢
  have hl : lv_has ls 4 [(0, .ref (g 0)), (1, .int (nI a)), (2, .int (nI b))] := hl
  refine lv_aload_n hx hb dX3_isFull_0 rfl (lv_at hl 0 rfl) ?_
  refine va_get (D := D) (ci := 3) (v := .ref (g 6)) (C := RX3) (T := TX3) (N := 18) hx hb hts hi3 hown hK hP 0 (wl_at (by omega)) rfl 9 (by decide) (hts (.fieldLink RX3 29 "BigLedgerModel" "touched" "[Z") (by decide +kernel)) (fun _ h9 => h9) rfl dX3_isFull_1 ?_
  refine lv_iload_n hx hb dX3_isFull_4 rfl (lv_at hl 1 rfl) ?_
  refine va_zald hx hb hK hP 6 1 (wl_at (by omega)) rfl (vp_in_nI (by omega) (by omega)) dX3_isFull_5 ?_
  refine lv_topi (fun y32 ey32 => ?_)
  replace ey32 : y32 = tb (T 0) a := ey32.trans (by rw [nI_clamp (by omega)]; rfl)
  subst ey32
  refine lv_if_eq (tgt := 13) hx hb dX3_isFull_6 (by decide) (fun c1 => ?_) (fun c1 => ?_)
  · refine lv_iconst (v := 1) hx hb dX3_isFull_13 (by decide) ?_
    refine lv_topi (fun y33 ey33 => ?_)
    replace ey33 : y33 = nI 1 := ey33.trans (rfl)
    subst ey33
    refine lv_istore_n (lv' := [(3, .int (nI 1)), (0, .ref (g 0)), (1, .int (nI a)), (2, .int (nI b))]) hx hb dX3_isFull_14 rfl hl (by decide) rfl (fun ls hl => ?_)
    refine lv_iload_n hx hb dX3_isFull_15 rfl (lv_at hl 3 rfl) ?_
    refine lv_iload_n hx hb dX3_isFull_16 rfl (lv_at hl 2 rfl) ?_
    refine lv_icmp_eq (tgt := 32) hx hb dX3_isFull_17 (by decide) (fun c2 => ?_) (fun c2 => ?_)
    · have hm8 : mMore (T 0) a b = 1 := by rw [mMore, if_neg (tb_eq0.mp c1), if_neg (fun q => q.1 ((nI_eq (by omega) (by omega)).mp c2))]
      have hm9 : mMore (T 0) a b = 1 := hm8
      have hc9 := fb_ct_le (T 0) 25
      refine lv_aload_n hx hb dX3_isFull_32 rfl (lv_at hl 1 rfl) ?_
      refine vp_callSi (W.runV (As := []) (rest := []) ⟨hx, hb, hml, hown, hts⟩ (m_touches l D g cI cZ cB acc lm rm N am T wk ou y hok hacc) (cwV 0 hts gX3_isFull_X3_touches rfl rfl rfl (by decide +kernel) ⟨Nat.le_of_ble_eq_true rfl, Nat.le_of_ble_eq_true rfl⟩) ⟨nPc_blind, va_recv hK hP (ci := 3) (q0 := 0) rfl (wl_at (by omega)), nPc_use (hP) hK⟩ rfl rfl hl.1 rfl (lv_room (Nat.le_of_ble_eq_true rfl)) dX3_isFull_33 ⟨Nat.le_of_ble_eq_true rfl, Nat.le_of_ble_eq_true rfl⟩) (fun rt hrt => ?_)
      subst hrt
      refine lv_iload_n hx hb dX3_isFull_36 rfl (lv_at hl 0 rfl) ?_
      refine lv_iadd hx hb dX3_isFull_37 ?_
      refine lv_topi (fun y34 ey34 => ?_)
      replace ey34 : y34 = nI (fb_ct (T 0) 25 + 1) := ey34.trans (nI_add _ _)
      subst ey34
      refine lv_aload_n hx hb dX3_isFull_38 rfl (lv_at hl 1 rfl) ?_
      refine va_get (D := D) (ci := 3) (v := .int (nI rm)) (C := RX3) (T := TX3) (N := 18) hx hb hts hi3 hown hK hP 0 (wl_at (by omega)) rfl 3 (by decide) (hts (.fieldLink RX3 49 "BigLedgerModel" "room" "I") (by decide +kernel)) (fun _ h9 => h9) rfl dX3_isFull_39 ?_
      refine lv_icmp_le (tgt := 49) hx hb dX3_isFull_42 (by decide) (fun c9 => ?_) (fun c9 => ?_)
      · refine lv_iconst (v := 0) hx hb dX3_isFull_49 (by decide) ?_
        exact W.zret (v := 0) (ty := .boolean) hx hb hr (rfl) (fun t ht hW => ⟨_, rfl, by rw [hm9, if_neg (Nat.not_lt.mpr ((nI_leI (by omega) (by omega)).mp c9))], ht.trans hH.symm⟩) (fun _ h => by cases h) dX3_isFull_50
      · refine lv_iconst (v := 1) hx hb dX3_isFull_45 (by decide) ?_
        refine lv_goto (tgt := 50) hx hb dX3_isFull_46 (by decide) ?_
        exact W.zret (v := 1) (ty := .boolean) hx hb hr (rfl) (fun t ht hW => ⟨_, rfl, by rw [hm9, if_pos (Nat.lt_of_not_le (fun q => c9 ((nI_leI (by omega) (by omega)).mpr q)))], ht.trans hH.symm⟩) (fun _ h => by cases h) dX3_isFull_50
    · have hne : ¬ b = a := fun q => c2 ((nI_eq (by omega) (by omega)).mpr q)
      refine lv_aload_n hx hb dX3_isFull_20 rfl (lv_at hl 1 rfl) ?_
      refine va_get (D := D) (ci := 3) (v := .ref (g 6)) (C := RX3) (T := TX3) (N := 18) hx hb hts hi3 hown hK hP 0 (wl_at (by omega)) rfl 9 (by decide) (hts (.fieldLink RX3 29 "BigLedgerModel" "touched" "[Z") (by decide +kernel)) (fun _ h9 => h9) rfl dX3_isFull_21 ?_
      refine lv_iload_n hx hb dX3_isFull_24 rfl (lv_at hl 3 rfl) ?_
      refine va_zald hx hb hK hP 6 1 (wl_at (by omega)) rfl (vp_in_nI (by omega) (by omega)) dX3_isFull_25 ?_
      refine lv_topi (fun y35 ey35 => ?_)
      replace ey35 : y35 = tb (T 0) b := ey35.trans (by rw [nI_clamp (by omega)]; rfl)
      subst ey35
      refine lv_if_ne (tgt := 32) hx hb dX3_isFull_26 (by decide) (fun c3 => ?_) (fun c3 => ?_)
      · have hm8 : mMore (T 0) a b = 1 := by rw [mMore, if_neg (tb_eq0.mp c1), if_neg (fun q => q.2 (tb_ne0.mp c3))]
        have hm9 : mMore (T 0) a b = 1 := hm8
        have hc9 := fb_ct_le (T 0) 25
        refine lv_aload_n hx hb dX3_isFull_32 rfl (lv_at hl 1 rfl) ?_
        refine vp_callSi (W.runV (As := []) (rest := []) ⟨hx, hb, hml, hown, hts⟩ (m_touches l D g cI cZ cB acc lm rm N am T wk ou y hok hacc) (cwV 0 hts gX3_isFull_X3_touches rfl rfl rfl (by decide +kernel) ⟨Nat.le_of_ble_eq_true rfl, Nat.le_of_ble_eq_true rfl⟩) ⟨nPc_blind, va_recv hK hP (ci := 3) (q0 := 0) rfl (wl_at (by omega)), nPc_use (hP) hK⟩ rfl rfl hl.1 rfl (lv_room (Nat.le_of_ble_eq_true rfl)) dX3_isFull_33 ⟨Nat.le_of_ble_eq_true rfl, Nat.le_of_ble_eq_true rfl⟩) (fun rt hrt => ?_)
        subst hrt
        refine lv_iload_n hx hb dX3_isFull_36 rfl (lv_at hl 0 rfl) ?_
        refine lv_iadd hx hb dX3_isFull_37 ?_
        refine lv_topi (fun y36 ey36 => ?_)
        replace ey36 : y36 = nI (fb_ct (T 0) 25 + 1) := ey36.trans (nI_add _ _)
        subst ey36
        refine lv_aload_n hx hb dX3_isFull_38 rfl (lv_at hl 1 rfl) ?_
        refine va_get (D := D) (ci := 3) (v := .int (nI rm)) (C := RX3) (T := TX3) (N := 18) hx hb hts hi3 hown hK hP 0 (wl_at (by omega)) rfl 3 (by decide) (hts (.fieldLink RX3 49 "BigLedgerModel" "room" "I") (by decide +kernel)) (fun _ h9 => h9) rfl dX3_isFull_39 ?_
        refine lv_icmp_le (tgt := 49) hx hb dX3_isFull_42 (by decide) (fun c9 => ?_) (fun c9 => ?_)
        · refine lv_iconst (v := 0) hx hb dX3_isFull_49 (by decide) ?_
          exact W.zret (v := 0) (ty := .boolean) hx hb hr (rfl) (fun t ht hW => ⟨_, rfl, by rw [hm9, if_neg (Nat.not_lt.mpr ((nI_leI (by omega) (by omega)).mp c9))], ht.trans hH.symm⟩) (fun _ h => by cases h) dX3_isFull_50
        · refine lv_iconst (v := 1) hx hb dX3_isFull_45 (by decide) ?_
          refine lv_goto (tgt := 50) hx hb dX3_isFull_46 (by decide) ?_
          exact W.zret (v := 1) (ty := .boolean) hx hb hr (rfl) (fun t ht hW => ⟨_, rfl, by rw [hm9, if_pos (Nat.lt_of_not_le (fun q => c9 ((nI_leI (by omega) (by omega)).mpr q)))], ht.trans hH.symm⟩) (fun _ h => by cases h) dX3_isFull_50
      · have hm8 : mMore (T 0) a b = 2 := by rw [mMore, if_neg (tb_eq0.mp c1), if_pos ⟨hne, tb_eq0.mp c3⟩]
        refine lv_iinc (v := nI 2) (lv' := [(3, .int (nI 2)), (0, .ref (g 0)), (1, .int (nI a)), (2, .int (nI b))]) hx hb dX3_isFull_29 hl (k := 0) rfl (by decide) (by decide) rfl (fun ls hl => ?_)
        have hm9 : mMore (T 0) a b = 2 := hm8
        have hc9 := fb_ct_le (T 0) 25
        refine lv_aload_n hx hb dX3_isFull_32 rfl (lv_at hl 1 rfl) ?_
        refine vp_callSi (W.runV (As := []) (rest := []) ⟨hx, hb, hml, hown, hts⟩ (m_touches l D g cI cZ cB acc lm rm N am T wk ou y hok hacc) (cwV 0 hts gX3_isFull_X3_touches rfl rfl rfl (by decide +kernel) ⟨Nat.le_of_ble_eq_true rfl, Nat.le_of_ble_eq_true rfl⟩) ⟨nPc_blind, va_recv hK hP (ci := 3) (q0 := 0) rfl (wl_at (by omega)), nPc_use (hP) hK⟩ rfl rfl hl.1 rfl (lv_room (Nat.le_of_ble_eq_true rfl)) dX3_isFull_33 ⟨Nat.le_of_ble_eq_true rfl, Nat.le_of_ble_eq_true rfl⟩) (fun rt hrt => ?_)
        subst hrt
        refine lv_iload_n hx hb dX3_isFull_36 rfl (lv_at hl 0 rfl) ?_
        refine lv_iadd hx hb dX3_isFull_37 ?_
        refine lv_topi (fun y37 ey37 => ?_)
        replace ey37 : y37 = nI (fb_ct (T 0) 25 + 2) := ey37.trans (nI_add _ _)
        subst ey37
        refine lv_aload_n hx hb dX3_isFull_38 rfl (lv_at hl 1 rfl) ?_
        refine va_get (D := D) (ci := 3) (v := .int (nI rm)) (C := RX3) (T := TX3) (N := 18) hx hb hts hi3 hown hK hP 0 (wl_at (by omega)) rfl 3 (by decide) (hts (.fieldLink RX3 49 "BigLedgerModel" "room" "I") (by decide +kernel)) (fun _ h9 => h9) rfl dX3_isFull_39 ?_
        refine lv_icmp_le (tgt := 49) hx hb dX3_isFull_42 (by decide) (fun c9 => ?_) (fun c9 => ?_)
        · refine lv_iconst (v := 0) hx hb dX3_isFull_49 (by decide) ?_
          exact W.zret (v := 0) (ty := .boolean) hx hb hr (rfl) (fun t ht hW => ⟨_, rfl, by rw [hm9, if_neg (Nat.not_lt.mpr ((nI_leI (by omega) (by omega)).mp c9))], ht.trans hH.symm⟩) (fun _ h => by cases h) dX3_isFull_50
        · refine lv_iconst (v := 1) hx hb dX3_isFull_45 (by decide) ?_
          refine lv_goto (tgt := 50) hx hb dX3_isFull_46 (by decide) ?_
          exact W.zret (v := 1) (ty := .boolean) hx hb hr (rfl) (fun t ht hW => ⟨_, rfl, by rw [hm9, if_pos (Nat.lt_of_not_le (fun q => c9 ((nI_leI (by omega) (by omega)).mpr q)))], ht.trans hH.symm⟩) (fun _ h => by cases h) dX3_isFull_50
  · refine lv_iconst (v := 0) hx hb dX3_isFull_9 (by decide) ?_
    refine lv_goto (tgt := 14) hx hb dX3_isFull_10 (by decide) ?_
    refine lv_topi (fun y38 ey38 => ?_)
    replace ey38 : y38 = nI 0 := ey38.trans (rfl)
    subst ey38
    refine lv_istore_n (lv' := [(3, .int (nI 0)), (0, .ref (g 0)), (1, .int (nI a)), (2, .int (nI b))]) hx hb dX3_isFull_14 rfl hl (by decide) rfl (fun ls hl => ?_)
    refine lv_iload_n hx hb dX3_isFull_15 rfl (lv_at hl 3 rfl) ?_
    refine lv_iload_n hx hb dX3_isFull_16 rfl (lv_at hl 2 rfl) ?_
    refine lv_icmp_eq (tgt := 32) hx hb dX3_isFull_17 (by decide) (fun c2 => ?_) (fun c2 => ?_)
    · have hm8 : mMore (T 0) a b = 0 := by rw [mMore, if_pos (tb_ne0.mp c1), if_neg (fun q => q.1 ((nI_eq (by omega) (by omega)).mp c2))]
      have hm9 : mMore (T 0) a b = 0 := hm8
      have hc9 := fb_ct_le (T 0) 25
      refine lv_aload_n hx hb dX3_isFull_32 rfl (lv_at hl 1 rfl) ?_
      refine vp_callSi (W.runV (As := []) (rest := []) ⟨hx, hb, hml, hown, hts⟩ (m_touches l D g cI cZ cB acc lm rm N am T wk ou y hok hacc) (cwV 0 hts gX3_isFull_X3_touches rfl rfl rfl (by decide +kernel) ⟨Nat.le_of_ble_eq_true rfl, Nat.le_of_ble_eq_true rfl⟩) ⟨nPc_blind, va_recv hK hP (ci := 3) (q0 := 0) rfl (wl_at (by omega)), nPc_use (hP) hK⟩ rfl rfl hl.1 rfl (lv_room (Nat.le_of_ble_eq_true rfl)) dX3_isFull_33 ⟨Nat.le_of_ble_eq_true rfl, Nat.le_of_ble_eq_true rfl⟩) (fun rt hrt => ?_)
      subst hrt
      refine lv_iload_n hx hb dX3_isFull_36 rfl (lv_at hl 0 rfl) ?_
      refine lv_iadd hx hb dX3_isFull_37 ?_
      refine lv_topi (fun y39 ey39 => ?_)
      replace ey39 : y39 = nI (fb_ct (T 0) 25 + 0) := ey39.trans (nI_add _ _)
      subst ey39
      refine lv_aload_n hx hb dX3_isFull_38 rfl (lv_at hl 1 rfl) ?_
      refine va_get (D := D) (ci := 3) (v := .int (nI rm)) (C := RX3) (T := TX3) (N := 18) hx hb hts hi3 hown hK hP 0 (wl_at (by omega)) rfl 3 (by decide) (hts (.fieldLink RX3 49 "BigLedgerModel" "room" "I") (by decide +kernel)) (fun _ h9 => h9) rfl dX3_isFull_39 ?_
      refine lv_icmp_le (tgt := 49) hx hb dX3_isFull_42 (by decide) (fun c9 => ?_) (fun c9 => ?_)
      · refine lv_iconst (v := 0) hx hb dX3_isFull_49 (by decide) ?_
        exact W.zret (v := 0) (ty := .boolean) hx hb hr (rfl) (fun t ht hW => ⟨_, rfl, by rw [hm9, if_neg (Nat.not_lt.mpr ((nI_leI (by omega) (by omega)).mp c9))], ht.trans hH.symm⟩) (fun _ h => by cases h) dX3_isFull_50
      · refine lv_iconst (v := 1) hx hb dX3_isFull_45 (by decide) ?_
        refine lv_goto (tgt := 50) hx hb dX3_isFull_46 (by decide) ?_
        exact W.zret (v := 1) (ty := .boolean) hx hb hr (rfl) (fun t ht hW => ⟨_, rfl, by rw [hm9, if_pos (Nat.lt_of_not_le (fun q => c9 ((nI_leI (by omega) (by omega)).mpr q)))], ht.trans hH.symm⟩) (fun _ h => by cases h) dX3_isFull_50
    · have hne : ¬ b = a := fun q => c2 ((nI_eq (by omega) (by omega)).mpr q)
      refine lv_aload_n hx hb dX3_isFull_20 rfl (lv_at hl 1 rfl) ?_
      refine va_get (D := D) (ci := 3) (v := .ref (g 6)) (C := RX3) (T := TX3) (N := 18) hx hb hts hi3 hown hK hP 0 (wl_at (by omega)) rfl 9 (by decide) (hts (.fieldLink RX3 29 "BigLedgerModel" "touched" "[Z") (by decide +kernel)) (fun _ h9 => h9) rfl dX3_isFull_21 ?_
      refine lv_iload_n hx hb dX3_isFull_24 rfl (lv_at hl 3 rfl) ?_
      refine va_zald hx hb hK hP 6 1 (wl_at (by omega)) rfl (vp_in_nI (by omega) (by omega)) dX3_isFull_25 ?_
      refine lv_topi (fun y40 ey40 => ?_)
      replace ey40 : y40 = tb (T 0) b := ey40.trans (by rw [nI_clamp (by omega)]; rfl)
      subst ey40
      refine lv_if_ne (tgt := 32) hx hb dX3_isFull_26 (by decide) (fun c3 => ?_) (fun c3 => ?_)
      · have hm8 : mMore (T 0) a b = 0 := by rw [mMore, if_pos (tb_ne0.mp c1), if_neg (fun q => q.2 (tb_ne0.mp c3))]
        have hm9 : mMore (T 0) a b = 0 := hm8
        have hc9 := fb_ct_le (T 0) 25
        refine lv_aload_n hx hb dX3_isFull_32 rfl (lv_at hl 1 rfl) ?_
        refine vp_callSi (W.runV (As := []) (rest := []) ⟨hx, hb, hml, hown, hts⟩ (m_touches l D g cI cZ cB acc lm rm N am T wk ou y hok hacc) (cwV 0 hts gX3_isFull_X3_touches rfl rfl rfl (by decide +kernel) ⟨Nat.le_of_ble_eq_true rfl, Nat.le_of_ble_eq_true rfl⟩) ⟨nPc_blind, va_recv hK hP (ci := 3) (q0 := 0) rfl (wl_at (by omega)), nPc_use (hP) hK⟩ rfl rfl hl.1 rfl (lv_room (Nat.le_of_ble_eq_true rfl)) dX3_isFull_33 ⟨Nat.le_of_ble_eq_true rfl, Nat.le_of_ble_eq_true rfl⟩) (fun rt hrt => ?_)
        subst hrt
        refine lv_iload_n hx hb dX3_isFull_36 rfl (lv_at hl 0 rfl) ?_
        refine lv_iadd hx hb dX3_isFull_37 ?_
        refine lv_topi (fun y41 ey41 => ?_)
        replace ey41 : y41 = nI (fb_ct (T 0) 25 + 0) := ey41.trans (nI_add _ _)
        subst ey41
        refine lv_aload_n hx hb dX3_isFull_38 rfl (lv_at hl 1 rfl) ?_
        refine va_get (D := D) (ci := 3) (v := .int (nI rm)) (C := RX3) (T := TX3) (N := 18) hx hb hts hi3 hown hK hP 0 (wl_at (by omega)) rfl 3 (by decide) (hts (.fieldLink RX3 49 "BigLedgerModel" "room" "I") (by decide +kernel)) (fun _ h9 => h9) rfl dX3_isFull_39 ?_
        refine lv_icmp_le (tgt := 49) hx hb dX3_isFull_42 (by decide) (fun c9 => ?_) (fun c9 => ?_)
        · refine lv_iconst (v := 0) hx hb dX3_isFull_49 (by decide) ?_
          exact W.zret (v := 0) (ty := .boolean) hx hb hr (rfl) (fun t ht hW => ⟨_, rfl, by rw [hm9, if_neg (Nat.not_lt.mpr ((nI_leI (by omega) (by omega)).mp c9))], ht.trans hH.symm⟩) (fun _ h => by cases h) dX3_isFull_50
        · refine lv_iconst (v := 1) hx hb dX3_isFull_45 (by decide) ?_
          refine lv_goto (tgt := 50) hx hb dX3_isFull_46 (by decide) ?_
          exact W.zret (v := 1) (ty := .boolean) hx hb hr (rfl) (fun t ht hW => ⟨_, rfl, by rw [hm9, if_pos (Nat.lt_of_not_le (fun q => c9 ((nI_leI (by omega) (by omega)).mpr q)))], ht.trans hH.symm⟩) (fun _ h => by cases h) dX3_isFull_50
      · have hm8 : mMore (T 0) a b = 1 := by rw [mMore, if_pos (tb_ne0.mp c1), if_pos ⟨hne, tb_eq0.mp c3⟩]
        refine lv_iinc (v := nI 1) (lv' := [(3, .int (nI 1)), (0, .ref (g 0)), (1, .int (nI a)), (2, .int (nI b))]) hx hb dX3_isFull_29 hl (k := 0) rfl (by decide) (by decide) rfl (fun ls hl => ?_)
        have hm9 : mMore (T 0) a b = 1 := hm8
        have hc9 := fb_ct_le (T 0) 25
        refine lv_aload_n hx hb dX3_isFull_32 rfl (lv_at hl 1 rfl) ?_
        refine vp_callSi (W.runV (As := []) (rest := []) ⟨hx, hb, hml, hown, hts⟩ (m_touches l D g cI cZ cB acc lm rm N am T wk ou y hok hacc) (cwV 0 hts gX3_isFull_X3_touches rfl rfl rfl (by decide +kernel) ⟨Nat.le_of_ble_eq_true rfl, Nat.le_of_ble_eq_true rfl⟩) ⟨nPc_blind, va_recv hK hP (ci := 3) (q0 := 0) rfl (wl_at (by omega)), nPc_use (hP) hK⟩ rfl rfl hl.1 rfl (lv_room (Nat.le_of_ble_eq_true rfl)) dX3_isFull_33 ⟨Nat.le_of_ble_eq_true rfl, Nat.le_of_ble_eq_true rfl⟩) (fun rt hrt => ?_)
        subst hrt
        refine lv_iload_n hx hb dX3_isFull_36 rfl (lv_at hl 0 rfl) ?_
        refine lv_iadd hx hb dX3_isFull_37 ?_
        refine lv_topi (fun y42 ey42 => ?_)
        replace ey42 : y42 = nI (fb_ct (T 0) 25 + 1) := ey42.trans (nI_add _ _)
        subst ey42
        refine lv_aload_n hx hb dX3_isFull_38 rfl (lv_at hl 1 rfl) ?_
        refine va_get (D := D) (ci := 3) (v := .int (nI rm)) (C := RX3) (T := TX3) (N := 18) hx hb hts hi3 hown hK hP 0 (wl_at (by omega)) rfl 3 (by decide) (hts (.fieldLink RX3 49 "BigLedgerModel" "room" "I") (by decide +kernel)) (fun _ h9 => h9) rfl dX3_isFull_39 ?_
        refine lv_icmp_le (tgt := 49) hx hb dX3_isFull_42 (by decide) (fun c9 => ?_) (fun c9 => ?_)
        · refine lv_iconst (v := 0) hx hb dX3_isFull_49 (by decide) ?_
          exact W.zret (v := 0) (ty := .boolean) hx hb hr (rfl) (fun t ht hW => ⟨_, rfl, by rw [hm9, if_neg (Nat.not_lt.mpr ((nI_leI (by omega) (by omega)).mp c9))], ht.trans hH.symm⟩) (fun _ h => by cases h) dX3_isFull_50
        · refine lv_iconst (v := 1) hx hb dX3_isFull_45 (by decide) ?_
          refine lv_goto (tgt := 50) hx hb dX3_isFull_46 (by decide) ?_
          exact W.zret (v := 1) (ty := .boolean) hx hb hr (rfl) (fun t ht hW => ⟨_, rfl, by rw [hm9, if_pos (Nat.lt_of_not_le (fun q => c9 ((nI_leI (by omega) (by omega)).mpr q)))], ht.trans hH.symm⟩) (fun _ h => by cases h) dX3_isFull_50

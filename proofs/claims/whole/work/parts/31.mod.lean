set_option maxHeartbeats 4000000 in
set_option maxRecDepth 100000 in
theorem m_forget (l : Launch) (D : va_G) (g : Nat → Nat) (cI cZ cB : ClassId) (acc lm rm : Nat) (N : LN) (am : Nat) (T : BN) (wk ou y : Nat → Int32) (hok : mOk g) (hacc : acc ≤ 24) : Met l yX3_forget wsX3_forget ({ frames := 0, cells := 0, slots := 0, locals := 0 }) (nPc [.ref (g 0)] D (rW g cI cZ cB acc lm rm (mF N am T wk ou) y) [(cI, .int), (cZ, .boolean), (cB, .byte)]) (va_Qv (fun _ : Unit => True) (fun _ t => va_P D vwCl (rW g cI cZ cB acc lm rm (mF (va_up N 0 (N 1)) 0 (va_up T 0 (fun _ => false)) wk ou) (y)) t.heap) (mA g)) 0 0 (mA g) := by
  refine Met.ofW (cc := cX3_forget) (maxL := 2) (ret := none) (by decide) rfl ?_
  intro p e s m args below meth c s₁ B hml hv
  obtain ⟨rfl, hP, hK⟩ := hv
  have hx := B.exec
  have hb := B.bytes
  have hr := B.returns
  have hts := atoms_spec (ws := wsX3_forget) B.pre
  have hown : s.vm.findClass RX3 = some m.cls := findClass_of_methodNamed B.named
  have hlocks := B.notSynchronized
  have hi3 : ∀ w ∈ wsX30, w ∈ wsX3_forget := by decide +kernel
  have hS : va_S (mA g) s.heap s.heap [] := va_S.rf
  have hD : va_D (mA g) (rW g cI cZ cB acc lm rm (mF N am T wk ou) y) := mlD hok
  have hl := lv_entry ([.ref (g 0)]) (n := 2) (Nat.le_of_ble_eq_true rfl)
  rw [lg_entry_eq]
  generalize (lg_sl ([.ref (g 0)]) ++ List.replicate (2 - (lg_sl ([.ref (g 0)])).length) Slot.unset).toArray = ls at hl ⊢
  have hl : lv_has ls 2 [(0, .ref (g 0))] := hl
  have lp3 : ∀ (nlp3 i : Nat) (H : Heap) (locs : List Loc) (ls : Array Slot), i + nlp3 = 550 → va_P D vwCl (rW g cI cZ cB acc lm rm (va_up (va_up (va_up (mF N am T wk ou) 4 (lb 0)) 6 (tb (fun _ => false))) 1 (fl (rowF (N 1)) (rowF (N 0)) i)) y) H → va_S (mA g) s.heap H locs → lv_has ls 2 [(1, .int (nI i)), (0, .ref (g 0))] → W p l e (headSpec wsX3_forget ({ frames := 0, cells := 0, slots := 0, locals := 0 })).room s m ([.ref (g 0)]).toArray below meth c H locs 0 0 (MQ below (va_Qv (fun _ : Unit => True) (fun _ t => va_P D vwCl (rW g cI cZ cB acc lm rm (mF (va_up N 0 (N 1)) 0 (va_up T 0 (fun _ => false)) wk ou) (y)) t.heap) (mA g)) ([.ref (g 0)]).toArray s 0 0 (mA g)) (F0 m 44 ls []) := by
    intro nlp3
    induction nlp3 with
    | zero =>
      intro i H locs ls hinlp3 hP hS hl
      have hD : va_D (mA g) (rW g cI cZ cB acc lm rm (va_up (va_up (va_up (mF N am T wk ou) 4 (lb 0)) 6 (tb (fun _ => false))) 1 (fl (rowF (N 1)) (rowF (N 0)) i)) y) := mlD hok
      refine lv_iload_n hx hb dX3_forget_44 rfl (lv_at hl 0 rfl) ?_
      refine lv_sipush (v := 550) hx hb dX3_forget_45 (by decide) ?_
      refine lv_icmp_ge (tgt := 69) hx hb dX3_forget_48 (by decide) (fun _ => ?_) (fun c9 => absurd (nI_le (a := 550) (by omega) (by omega)) c9)
      have hP : va_P D vwCl (rW g cI cZ cB acc lm rm (mF (va_up N 0 (N 1)) 0 (va_up T 0 (fun _ => false)) wk ou) y) H := rW_congr hP (fun k h1 h2 j hj => by
        match k with
        | 1 => exact fl_lo (by have : j < 550 := hj; omega)
        | 2 | 3 | 4 | 5 | 6 | 7 => rfl
        | 8 => rfl
        | 0 => omega
        | k + 9 => omega)
      have hD : va_D (mA g) (rW g cI cZ cB acc lm rm (mF (va_up N 0 (N 1)) 0 (va_up T 0 (fun _ => false)) wk ou) y) := mlD hok
      exact W.vret hx hb hr (fun t ht hW => ⟨⟨(), rfl, trivial, hp_at ht hP⟩, hS.F ht⟩) hS.2.2 dX3_forget_69
    | succ nlp3 ihlp3 =>
      intro i H locs ls hinlp3 hP hS hl
      have hD : va_D (mA g) (rW g cI cZ cB acc lm rm (va_up (va_up (va_up (mF N am T wk ou) 4 (lb 0)) 6 (tb (fun _ => false))) 1 (fl (rowF (N 1)) (rowF (N 0)) i)) y) := mlD hok
      have hiwlp3 : i < 550 := by omega
      refine lv_iload_n hx hb dX3_forget_44 rfl (lv_at hl 0 rfl) ?_
      refine lv_sipush (v := 550) hx hb dX3_forget_45 (by decide) ?_
      refine lv_icmp_ge (tgt := 69) hx hb dX3_forget_48 (by decide) (fun c9 => absurd c9 (nI_ge (b := 550) hiwlp3 (by omega))) (fun _ => ?_)
      refine lv_aload_n hx hb dX3_forget_51 rfl (lv_at hl 1 rfl) ?_
      refine va_get (D := D) (ci := 3) (v := .ref (g 1)) (C := RX3) (T := TX3) (N := 18) hx hb hts hi3 hown hK hP 0 (wl_at (by omega)) rfl 4 (by decide) (hts (.fieldLink RX3 13 "BigLedgerModel" "now" "[I") (by decide +kernel)) (fun _ h9 => h9) rfl dX3_forget_52 ?_
      refine lv_iload_n hx hb dX3_forget_55 rfl (lv_at hl 0 rfl) ?_
      refine lv_aload_n hx hb dX3_forget_56 rfl (lv_at hl 1 rfl) ?_
      refine va_get (D := D) (ci := 3) (v := .ref (g 2)) (C := RX3) (T := TX3) (N := 18) hx hb hts hi3 hown hK hP 0 (wl_at (by omega)) rfl 5 (by decide) (hts (.fieldLink RX3 17 "BigLedgerModel" "home" "[I") (by decide +kernel)) (fun _ h9 => h9) rfl dX3_forget_57 ?_
      refine lv_iload_n hx hb dX3_forget_60 rfl (lv_at hl 0 rfl) ?_
      refine va_iald hx hb hK hP 2 0 (wl_at (by omega)) rfl (vp_in_nI (by omega) (by omega)) dX3_forget_61 ?_
      refine lv_topi (fun y1 ey1 => ?_)
      replace ey1 : y1 = rowF (N 1) i := ey1.trans (by rw [nI_clamp (by omega)]; rfl)
      subst ey1
      refine va_iast hx hb hK hP hD hS 1 0 (wl_at (by omega)) rfl (vp_in_nI (by omega) (by omega)) dX3_forget_62 (fun H locs hP hD hS => ?_)
      have hP : va_P D vwCl (rW g cI cZ cB acc lm rm (va_up (va_up (va_up (va_up (mF N am T wk ou) 4 (lb 0)) 6 (tb (fun _ => false))) 1 (fl (rowF (N 1)) (rowF (N 0)) i)) 1 (upd ((va_up (va_up (va_up (mF N am T wk ou) 4 (lb 0)) 6 (tb (fun _ => false))) 1 (fl (rowF (N 1)) (rowF (N 0)) i)) 1) (nI i).toNatClampNeg (rowF (N 1) i))) y) H := cv (ms_a1 (upd ((va_up (va_up (va_up (mF N am T wk ou) 4 (lb 0)) 6 (tb (fun _ => false))) 1 (fl (rowF (N 1)) (rowF (N 0)) i)) 1) (nI i).toNatClampNeg (rowF (N 1) i))) hP
      have hD : va_D (mA g) (rW g cI cZ cB acc lm rm (va_up (va_up (va_up (va_up (mF N am T wk ou) 4 (lb 0)) 6 (tb (fun _ => false))) 1 (fl (rowF (N 1)) (rowF (N 0)) i)) 1 (upd ((va_up (va_up (va_up (mF N am T wk ou) 4 (lb 0)) 6 (tb (fun _ => false))) 1 (fl (rowF (N 1)) (rowF (N 0)) i)) 1) (nI i).toNatClampNeg (rowF (N 1) i))) y) := mlD hok
      have hP : va_P D vwCl (rW g cI cZ cB acc lm rm (va_up (va_up (va_up (mF N am T wk ou) 4 (lb 0)) 6 (tb (fun _ => false))) 1 (fl (rowF (N 1)) (rowF (N 0)) (i + 1))) y) H := rW_congr hP (fun k h1 h2 j hj => by
        match k with
        | 1 =>
          show upd (fl (rowF (N 1)) (rowF (N 0)) i) (nI i).toNatClampNeg (rowF (N 1) i) j = fl (rowF (N 1)) (rowF (N 0)) (i + 1) j
          rw [nI_clamp (by omega), fl_s rfl]
        | 2 | 3 | 4 | 5 | 6 | 7 => rfl
        | 8 => rfl
        | 0 => omega
        | k + 9 => omega)
      have hD : va_D (mA g) (rW g cI cZ cB acc lm rm (va_up (va_up (va_up (mF N am T wk ou) 4 (lb 0)) 6 (tb (fun _ => false))) 1 (fl (rowF (N 1)) (rowF (N 0)) (i + 1))) y) := mlD hok
      refine lv_iinc (v := nI (i + 1)) (lv' := [(1, .int (nI (i + 1))), (0, .ref (g 0))]) hx hb dX3_forget_63 hl (k := 0) rfl (nI_1 i) (by decide) rfl (fun ls hl => ?_)
      refine lv_goto (tgt := 44) hx hb dX3_forget_66 (by decide) ?_
      exact ihlp3 (i + 1) H locs ls (by omega) hP hS hl
  have lp2 : ∀ (nlp2 i : Nat) (H : Heap) (locs : List Loc) (ls : Array Slot), i + nlp2 = 25 → va_P D vwCl (rW g cI cZ cB acc lm rm (va_up (va_up (mF N am T wk ou) 4 (lb 0)) 6 (fl (tb (fun _ => false)) (tb (T 0)) i)) y) H → va_S (mA g) s.heap H locs → lv_has ls 2 [(1, .int (nI i)), (0, .ref (g 0))] → W p l e (headSpec wsX3_forget ({ frames := 0, cells := 0, slots := 0, locals := 0 })).room s m ([.ref (g 0)]).toArray below meth c H locs 0 0 (MQ below (va_Qv (fun _ : Unit => True) (fun _ t => va_P D vwCl (rW g cI cZ cB acc lm rm (mF (va_up N 0 (N 1)) 0 (va_up T 0 (fun _ => false)) wk ou) (y)) t.heap) (mA g)) ([.ref (g 0)]).toArray s 0 0 (mA g)) (F0 m 23 ls []) := by
    intro nlp2
    induction nlp2 with
    | zero =>
      intro i H locs ls hinlp2 hP hS hl
      have hD : va_D (mA g) (rW g cI cZ cB acc lm rm (va_up (va_up (mF N am T wk ou) 4 (lb 0)) 6 (fl (tb (fun _ => false)) (tb (T 0)) i)) y) := mlD hok
      refine lv_iload_n hx hb dX3_forget_23 rfl (lv_at hl 0 rfl) ?_
      refine lv_bipush (v := 25) hx hb dX3_forget_24 (by decide) ?_
      refine lv_icmp_ge (tgt := 42) hx hb dX3_forget_26 (by decide) (fun _ => ?_) (fun c9 => absurd (nI_le (a := 25) (by omega) (by omega)) c9)
      refine lv_iconst (v := 0) hx hb dX3_forget_42 (by decide) ?_
      refine lv_istore_n (lv' := [(1, .int ((0 : Int32))), (0, .ref (g 0))]) hx hb dX3_forget_43 rfl hl (by decide) rfl (fun ls hl => ?_)
      have hP : va_P D vwCl (rW g cI cZ cB acc lm rm (va_up (va_up (va_up (mF N am T wk ou) 4 (lb 0)) 6 (tb (fun _ => false))) 1 (fl (rowF (N 1)) (rowF (N 0)) 0)) y) H := rW_congr hP (fun q9 h1 h2 j hj => by
        match q9 with
        | 1 => exact (congrFun (fl_0 (rowF (N 1)) (rowF (N 0))) j).symm
        | 2 => rfl
        | 3 => rfl
        | 4 => rfl
        | 5 => rfl
        | 6 =>
          exact fl_lo (by have : j < 25 := hj; omega)
        | 7 => rfl
        | 8 => rfl
        | 0 => omega
        | q9 + 9 => omega)
      have hD : va_D (mA g) (rW g cI cZ cB acc lm rm (va_up (va_up (va_up (mF N am T wk ou) 4 (lb 0)) 6 (tb (fun _ => false))) 1 (fl (rowF (N 1)) (rowF (N 0)) 0)) y) := mlD hok
      exact lp3 550 0 H locs ls rfl hP hS hl
    | succ nlp2 ihlp2 =>
      intro i H locs ls hinlp2 hP hS hl
      have hD : va_D (mA g) (rW g cI cZ cB acc lm rm (va_up (va_up (mF N am T wk ou) 4 (lb 0)) 6 (fl (tb (fun _ => false)) (tb (T 0)) i)) y) := mlD hok
      have hiwlp2 : i < 25 := by omega
      refine lv_iload_n hx hb dX3_forget_23 rfl (lv_at hl 0 rfl) ?_
      refine lv_bipush (v := 25) hx hb dX3_forget_24 (by decide) ?_
      refine lv_icmp_ge (tgt := 42) hx hb dX3_forget_26 (by decide) (fun c9 => absurd c9 (nI_ge (b := 25) hiwlp2 (by omega))) (fun _ => ?_)
      refine lv_aload_n hx hb dX3_forget_29 rfl (lv_at hl 1 rfl) ?_
      refine va_get (D := D) (ci := 3) (v := .ref (g 6)) (C := RX3) (T := TX3) (N := 18) hx hb hts hi3 hown hK hP 0 (wl_at (by omega)) rfl 9 (by decide) (hts (.fieldLink RX3 29 "BigLedgerModel" "touched" "[Z") (by decide +kernel)) (fun _ h9 => h9) rfl dX3_forget_30 ?_
      refine lv_iload_n hx hb dX3_forget_33 rfl (lv_at hl 0 rfl) ?_
      refine lv_iconst (v := 0) hx hb dX3_forget_34 (by decide) ?_
      refine va_zast hx hb hK hP hD hS 6 1 (wl_at (by omega)) rfl (vp_in_nI (by omega) (by omega)) dX3_forget_35 (fun H locs hP hD hS => ?_)
      have hP : va_P D vwCl (rW g cI cZ cB acc lm rm (va_up (va_up (va_up (mF N am T wk ou) 4 (lb 0)) 6 (fl (tb (fun _ => false)) (tb (T 0)) i)) 6 (upd ((va_up (va_up (mF N am T wk ou) 4 (lb 0)) 6 (fl (tb (fun _ => false)) (tb (T 0)) i)) 6) (nI i).toNatClampNeg (vp_nar .boolean ((0 : Int32))))) y) H := cv (ms_a6 (upd ((va_up (va_up (mF N am T wk ou) 4 (lb 0)) 6 (fl (tb (fun _ => false)) (tb (T 0)) i)) 6) (nI i).toNatClampNeg (vp_nar .boolean ((0 : Int32))))) hP
      have hD : va_D (mA g) (rW g cI cZ cB acc lm rm (va_up (va_up (va_up (mF N am T wk ou) 4 (lb 0)) 6 (fl (tb (fun _ => false)) (tb (T 0)) i)) 6 (upd ((va_up (va_up (mF N am T wk ou) 4 (lb 0)) 6 (fl (tb (fun _ => false)) (tb (T 0)) i)) 6) (nI i).toNatClampNeg (vp_nar .boolean ((0 : Int32))))) y) := mlD hok
      have hP : va_P D vwCl (rW g cI cZ cB acc lm rm (va_up (va_up (mF N am T wk ou) 4 (lb 0)) 6 (fl (tb (fun _ => false)) (tb (T 0)) (i + 1))) y) H := rW_congr hP (fun q9 h1 h2 j hj => by
        match q9 with
        | 1 => rfl
        | 2 => rfl
        | 3 => rfl
        | 4 => rfl
        | 5 => rfl
        | 6 =>
          show upd (fl (tb (fun _ => false)) (tb (T 0)) i) (nI i).toNatClampNeg (vp_nar .boolean 0) j = fl (tb (fun _ => false)) (tb (T 0)) (i + 1) j
          rw [nI_clamp (by omega), fl_s (show vp_nar .boolean 0 = tb (fun _ => false) i from rfl)]
        | 7 => rfl
        | 8 => rfl
        | 0 => omega
        | q9 + 9 => omega)
      have hD : va_D (mA g) (rW g cI cZ cB acc lm rm (va_up (va_up (mF N am T wk ou) 4 (lb 0)) 6 (fl (tb (fun _ => false)) (tb (T 0)) (i + 1))) y) := mlD hok
      refine lv_iinc (v := nI (i + 1)) (lv' := [(1, .int (nI (i + 1))), (0, .ref (g 0))]) hx hb dX3_forget_36 hl (k := 0) rfl (nI_1 i) (by decide) rfl (fun ls hl => ?_)
      refine lv_goto (tgt := 23) hx hb dX3_forget_39 (by decide) ?_
      exact ihlp2 (i + 1) H locs ls (by omega) hP hS hl
  have lp1 : ∀ (nlp1 i : Nat) (H : Heap) (locs : List Loc) (ls : Array Slot), i + nlp1 = 22 → va_P D vwCl (rW g cI cZ cB acc lm rm (va_up (mF N am T wk ou) 4 (fl (lb 0) (lb am) i)) y) H → va_S (mA g) s.heap H locs → lv_has ls 2 [(1, .int (nI i)), (0, .ref (g 0))] → W p l e (headSpec wsX3_forget ({ frames := 0, cells := 0, slots := 0, locals := 0 })).room s m ([.ref (g 0)]).toArray below meth c H locs 0 0 (MQ below (va_Qv (fun _ : Unit => True) (fun _ t => va_P D vwCl (rW g cI cZ cB acc lm rm (mF (va_up N 0 (N 1)) 0 (va_up T 0 (fun _ => false)) wk ou) (y)) t.heap) (mA g)) ([.ref (g 0)]).toArray s 0 0 (mA g)) (F0 m 2 ls []) := by
    intro nlp1
    induction nlp1 with
    | zero =>
      intro i H locs ls hinlp1 hP hS hl
      have hD : va_D (mA g) (rW g cI cZ cB acc lm rm (va_up (mF N am T wk ou) 4 (fl (lb 0) (lb am) i)) y) := mlD hok
      refine lv_iload_n hx hb dX3_forget_2 rfl (lv_at hl 0 rfl) ?_
      refine lv_bipush (v := 22) hx hb dX3_forget_3 (by decide) ?_
      refine lv_icmp_ge (tgt := 21) hx hb dX3_forget_5 (by decide) (fun _ => ?_) (fun c9 => absurd (nI_le (a := 22) (by omega) (by omega)) c9)
      refine lv_iconst (v := 0) hx hb dX3_forget_21 (by decide) ?_
      refine lv_istore_n (lv' := [(1, .int ((0 : Int32))), (0, .ref (g 0))]) hx hb dX3_forget_22 rfl hl (by decide) rfl (fun ls hl => ?_)
      have hP : va_P D vwCl (rW g cI cZ cB acc lm rm (va_up (va_up (mF N am T wk ou) 4 (lb 0)) 6 (fl (tb (fun _ => false)) (tb (T 0)) 0)) y) H := rW_congr hP (fun q9 h1 h2 j hj => by
        match q9 with
        | 1 => rfl
        | 2 => rfl
        | 3 => rfl
        | 4 =>
          exact fl_lo (by have : j < 22 := hj; omega)
        | 5 => rfl
        | 6 => exact (congrFun (fl_0 (tb (fun _ => false)) (tb (T 0))) j).symm
        | 7 => rfl
        | 8 => rfl
        | 0 => omega
        | q9 + 9 => omega)
      have hD : va_D (mA g) (rW g cI cZ cB acc lm rm (va_up (va_up (mF N am T wk ou) 4 (lb 0)) 6 (fl (tb (fun _ => false)) (tb (T 0)) 0)) y) := mlD hok
      exact lp2 25 0 H locs ls rfl hP hS hl
    | succ nlp1 ihlp1 =>
      intro i H locs ls hinlp1 hP hS hl
      have hD : va_D (mA g) (rW g cI cZ cB acc lm rm (va_up (mF N am T wk ou) 4 (fl (lb 0) (lb am) i)) y) := mlD hok
      have hiwlp1 : i < 22 := by omega
      refine lv_iload_n hx hb dX3_forget_2 rfl (lv_at hl 0 rfl) ?_
      refine lv_bipush (v := 22) hx hb dX3_forget_3 (by decide) ?_
      refine lv_icmp_ge (tgt := 21) hx hb dX3_forget_5 (by decide) (fun c9 => absurd c9 (nI_ge (b := 22) hiwlp1 (by omega))) (fun _ => ?_)
      refine lv_aload_n hx hb dX3_forget_8 rfl (lv_at hl 1 rfl) ?_
      refine va_get (D := D) (ci := 3) (v := .ref (g 4)) (C := RX3) (T := TX3) (N := 18) hx hb hts hi3 hown hK hP 0 (wl_at (by omega)) rfl 7 (by decide) (hts (.fieldLink RX3 23 "BigLedgerModel" "amount" "[I") (by decide +kernel)) (fun _ h9 => h9) rfl dX3_forget_9 ?_
      refine lv_iload_n hx hb dX3_forget_12 rfl (lv_at hl 0 rfl) ?_
      refine lv_iconst (v := 0) hx hb dX3_forget_13 (by decide) ?_
      refine va_iast hx hb hK hP hD hS 4 0 (wl_at (by omega)) rfl (vp_in_nI (by omega) (by omega)) dX3_forget_14 (fun H locs hP hD hS => ?_)
      have hP : va_P D vwCl (rW g cI cZ cB acc lm rm (va_up (va_up (mF N am T wk ou) 4 (fl (lb 0) (lb am) i)) 4 (upd ((va_up (mF N am T wk ou) 4 (fl (lb 0) (lb am) i)) 4) (nI i).toNatClampNeg ((0 : Int32)))) y) H := cv (ms_a4 (upd ((va_up (mF N am T wk ou) 4 (fl (lb 0) (lb am) i)) 4) (nI i).toNatClampNeg ((0 : Int32)))) hP
      have hD : va_D (mA g) (rW g cI cZ cB acc lm rm (va_up (va_up (mF N am T wk ou) 4 (fl (lb 0) (lb am) i)) 4 (upd ((va_up (mF N am T wk ou) 4 (fl (lb 0) (lb am) i)) 4) (nI i).toNatClampNeg ((0 : Int32)))) y) := mlD hok
      have hP : va_P D vwCl (rW g cI cZ cB acc lm rm (va_up (mF N am T wk ou) 4 (fl (lb 0) (lb am) (i + 1))) y) H := rW_congr hP (fun q9 h1 h2 j hj => by
        match q9 with
        | 1 => rfl
        | 2 => rfl
        | 3 => rfl
        | 4 =>
          show upd (fl (lb 0) (lb am) i) (nI i).toNatClampNeg 0 j = fl (lb 0) (lb am) (i + 1) j
          rw [nI_clamp (by omega), fl_s (show (0 : Int32) = lb 0 i by show (0 : Int32) = nI (lbN 0 i); rw [lbN_of_zero, nI_0])]
        | 5 => rfl
        | 6 => rfl
        | 7 => rfl
        | 8 => rfl
        | 0 => omega
        | q9 + 9 => omega)
      have hD : va_D (mA g) (rW g cI cZ cB acc lm rm (va_up (mF N am T wk ou) 4 (fl (lb 0) (lb am) (i + 1))) y) := mlD hok
      refine lv_iinc (v := nI (i + 1)) (lv' := [(1, .int (nI (i + 1))), (0, .ref (g 0))]) hx hb dX3_forget_15 hl (k := 0) rfl (nI_1 i) (by decide) rfl (fun ls hl => ?_)
      refine lv_goto (tgt := 2) hx hb dX3_forget_18 (by decide) ?_
      exact ihlp1 (i + 1) H locs ls (by omega) hP hS hl
  refine lv_iconst (v := 0) hx hb dX3_forget_0 (by decide) ?_
  refine lv_istore_n (lv' := [(1, .int ((0 : Int32))), (0, .ref (g 0))]) hx hb dX3_forget_1 rfl hl (by decide) rfl (fun ls hl => ?_)
  have hP : va_P D vwCl (rW g cI cZ cB acc lm rm (va_up (mF N am T wk ou) 4 (fl (lb 0) (lb am) 0)) y) s.heap := rW_congr hP (fun q9 h1 h2 j hj => by
    match q9 with
    | 1 => rfl
    | 2 => rfl
    | 3 => rfl
    | 4 =>
      exact (congrFun (fl_0 (lb 0) (lb am)) j).symm
    | 5 => rfl
    | 6 => rfl
    | 7 => rfl
    | 8 => rfl
    | 0 => omega
    | q9 + 9 => omega)
  have hD : va_D (mA g) (rW g cI cZ cB acc lm rm (va_up (mF N am T wk ou) 4 (fl (lb 0) (lb am) 0)) y) := mlD hok
  exact lp1 22 0 s.heap [] ls rfl hP hS hl
set_option maxHeartbeats 4000000 in
set_option maxRecDepth 100000 in
theorem m_down (l : Launch) (D : va_G) (g : Nat → Nat) (cI cZ cB : ClassId) (acc lm rm : Nat) (N : LN) (am : Nat) (T : BN) (wk ou y : Nat → Int32) (hok : mOk g) (hacc : acc ≤ 24) : Met l yX3_down wsX3_down ({ frames := 1, cells := 0, slots := 0, locals := 21 }) (nPc [.ref (g 0)] D (rW g cI cZ cB acc lm rm (mF N am T wk ou) y) [(cI, .int), (cZ, .boolean), (cB, .byte)]) (va_Qv (fun _ : Unit => True) (fun _ t => va_P D vwCl (rW g cI cZ cB acc lm rm (mF (va_up N 0 (N 1)) 0 (va_up T 0 (fun _ => false)) wk ou) (va_up y 1 0)) t.heap) (mA g)) 0 0 (mA g) := by
  refine Met.ofW (cc := cX3_down) (maxL := 1) (ret := none) (by decide) rfl ?_
  intro p e s m args below meth c s₁ B hml hv
  obtain ⟨rfl, hP, hK⟩ := hv
  have hx := B.exec
  have hb := B.bytes
  have hr := B.returns
  have hts := atoms_spec (ws := wsX3_down) B.pre
  have hown : s.vm.findClass RX3 = some m.cls := findClass_of_methodNamed B.named
  have hlocks := B.notSynchronized
  have hi3 : ∀ w ∈ wsX30, w ∈ wsX3_down := by decide +kernel
  have hS : va_S (mA g) s.heap s.heap [] := va_S.rf
  have hD : va_D (mA g) (rW g cI cZ cB acc lm rm (mF N am T wk ou) y) := mlD hok
  have hl := lv_entry ([.ref (g 0)]) (n := 1) (Nat.le_of_ble_eq_true rfl)
  rw [lg_entry_eq]
  generalize (lg_sl ([.ref (g 0)]) ++ List.replicate (1 - (lg_sl ([.ref (g 0)])).length) Slot.unset).toArray = ls at hl ⊢
  have hl : lv_has ls 1 [(0, .ref (g 0))] := hl
  refine lv_aload_n hx hb dX3_down_0 rfl (lv_at hl 0 rfl) ?_
  refine lv_iconst (v := 0) hx hb dX3_down_1 (by decide) ?_
  refine va_put (D := D) (ci := 3) (v := .int ((0 : Int32))) (ty := .boolean) (C := RX3) (T := TX3) (N := 18) hx hb hts hi3 tyX3 tyX3_ok nmX3 hown hK hP hD hS 0 (wl_at (by omega)) rfl 11 (by decide) (hts (.fieldLink RX3 52 "BigLedgerModel" "up" "Z") (by decide +kernel)) (fun _ h9 => h9) rfl (by decide +kernel) (rfl) (rfl) (Nat.le_of_ble_eq_true rfl) dX3_down_2 (fun H locs hP hD hS => ?_)
  have hP : va_P D vwCl (rW g cI cZ cB acc lm rm (mF N am T wk ou) (va_up y 1 (0 : Int32))) H := cv (ms_f 1 (0 : Int32) (by decide)) hP
  have hD : va_D (mA g) (rW g cI cZ cB acc lm rm (mF N am T wk ou) (va_up y 1 (0 : Int32))) := mlD hok
  refine lv_aload_n hx hb dX3_down_5 rfl (lv_at hl 0 rfl) ?_
  refine va_callv (va_runV (As := []) (rest := []) ⟨hx, hb, hml, hown, hts⟩ (m_forget l D g cI cZ cB acc lm rm N am T wk ou (va_up y 1 (0 : Int32)) hok hacc) (cwV 0 hts gX3_down_X3_forget rfl rfl rfl (by decide +kernel) ⟨Nat.le_of_ble_eq_true rfl, Nat.le_of_ble_eq_true rfl⟩) ⟨nPc_blind, va_recv hK hP (ci := 3) (q0 := 0) rfl (wl_at (by omega)), nPc_use (hP) hK⟩ rfl rfl hl.1 rfl (lv_room (Nat.le_of_ble_eq_true rfl)) dX3_down_6 ⟨Nat.le_of_ble_eq_true rfl, Nat.le_of_ble_eq_true rfl⟩) hS (fun q _ h => (fun _ h => h) q h) (fun _ h => h) (fun _u t H1 locs ht hvm hw hB hz1 hk9 hS => ?_)
  generalize H1 = H at ht hz1 hk9 hS ⊢
  have hP : va_P D vwCl (rW g cI cZ cB acc lm rm (mF (va_up N 0 (N 1)) 0 (va_up T 0 (fun _ => false)) wk ou) (va_up y 1 (0 : Int32))) H := pB_at ht hB
  have hD : va_D (mA g) (rW g cI cZ cB acc lm rm (mF (va_up N 0 (N 1)) 0 (va_up T 0 (fun _ => false)) wk ou) (va_up y 1 (0 : Int32))) := mlD hok
  exact W.vret hx hb hr (fun t ht hW => ⟨⟨(), rfl, trivial, hp_at ht hP⟩, hS.F ht⟩) hS.2.2 dX3_down_9
set_option maxHeartbeats 4000000 in
set_option maxRecDepth 100000 in
theorem m_writes (l : Launch) (D : va_G) (g : Nat → Nat) (cI cZ cB : ClassId) (acc lm rm : Nat) (N : LN) (am : Nat) (T : BN) (wk ou y : Nat → Int32) (hok : mOk g) (hacc : acc ≤ 24) : Met l yX3_writes wsX3_writes ({ frames := 2, cells := 0, slots := 0, locals := 41 }) (nPc [.ref (g 0)] D (rW g cI cZ cB acc lm rm (mF N am T wk ou) y) [(cI, .int), (cZ, .boolean), (cB, .byte)]) (va_Qi (fun (r : Int32) (u : MS) => (r, u) = mWr (N, am, T, y)) (fun u t => va_P D vwCl (rW g cI cZ cB acc lm rm (mF u.1 u.2.1 u.2.2.1 wk ou) u.2.2.2) t.heap) (mA g)) 0 0 (mA g) := by
  refine Met.ofW (cc := cX3_writes) (maxL := 1) (ret := (some .boolean)) (by decide) rfl ?_
  intro p e s m args below meth c s₁ B hml hv
  obtain ⟨rfl, hP, hK⟩ := hv
  have hx := B.exec
  have hb := B.bytes
  have hr := B.returns
  have hts := atoms_spec (ws := wsX3_writes) B.pre
  have hown : s.vm.findClass RX3 = some m.cls := findClass_of_methodNamed B.named
  have hlocks := B.notSynchronized
  have hi3 : ∀ w ∈ wsX30, w ∈ wsX3_writes := by decide +kernel
  have hS : va_S (mA g) s.heap s.heap [] := va_S.rf
  have hD : va_D (mA g) (rW g cI cZ cB acc lm rm (mF N am T wk ou) y) := mlD hok
  have hl := lv_entry ([.ref (g 0)]) (n := 1) (Nat.le_of_ble_eq_true rfl)
  rw [lg_entry_eq]
  generalize (lg_sl ([.ref (g 0)]) ++ List.replicate (1 - (lg_sl ([.ref (g 0)])).length) Slot.unset).toArray = ls at hl ⊢
  have hl : lv_has ls 1 [(0, .ref (g 0))] := hl
  refine lv_aload_n hx hb dX3_writes_0 rfl (lv_at hl 0 rfl) ?_
  refine va_get (D := D) (ci := 3) (v := .int (y 5)) (C := RX3) (T := TX3) (N := 18) hx hb hts hi3 hown hK hP 0 (wl_at (by omega)) rfl 15 (by decide) (hts (.fieldLink RX3 36 "BigLedgerModel" "left" "I") (by decide +kernel)) (fun _ h9 => h9) rfl dX3_writes_1 ?_
  refine lv_if_ne (tgt := 18) hx hb dX3_writes_4 (by decide) (fun c1 => ?_) (fun c1 => ?_)
  · refine lv_aload_n hx hb dX3_writes_18 rfl (lv_at hl 0 rfl) ?_
    refine va_get (D := D) (ci := 3) (v := .int (y 5)) (C := RX3) (T := TX3) (N := 18) hx hb hts hi3 hown hK hP 0 (wl_at (by omega)) rfl 15 (by decide) (hts (.fieldLink RX3 36 "BigLedgerModel" "left" "I") (by decide +kernel)) (fun _ h9 => h9) rfl dX3_writes_19 ?_
    refine lv_if_le (tgt := 35) hx hb dX3_writes_22 (by decide) (fun c2 => ?_) (fun c2 => ?_)
    · refine lv_aload_n hx hb dX3_writes_35 rfl (lv_at hl 0 rfl) ?_
      refine lv_dup hx hb dX3_writes_36 rfl ?_
      refine va_get (D := D) (ci := 3) (v := .int (y 4)) (C := RX3) (T := TX3) (N := 18) hx hb hts hi3 hown hK hP 0 (wl_at (by omega)) rfl 14 (by decide) (hts (.fieldLink RX3 62 "BigLedgerModel" "writes" "I") (by decide +kernel)) (fun _ h9 => h9) rfl dX3_writes_37 ?_
      refine lv_iconst (v := 1) hx hb dX3_writes_40 (by decide) ?_
      refine lv_iadd hx hb dX3_writes_41 ?_
      refine va_put (D := D) (ci := 3) (v := .int ((y 4) + (1 : Int32))) (ty := .int) (C := RX3) (T := TX3) (N := 18) hx hb hts hi3 tyX3 tyX3_ok nmX3 hown hK hP hD hS 0 (wl_at (by omega)) rfl 14 (by decide) (hts (.fieldLink RX3 62 "BigLedgerModel" "writes" "I") (by decide +kernel)) (fun _ h9 => h9) rfl (by decide +kernel) (rfl) (rfl) (Nat.le_of_ble_eq_true rfl) dX3_writes_42 (fun H locs hP hD hS => ?_)
      have hP : va_P D vwCl (rW g cI cZ cB acc lm rm (mF N am T wk ou) (va_up y 4 ((y 4) + (1 : Int32)))) H := cv (ms_f 4 ((y 4) + (1 : Int32)) (by decide)) hP
      have hD : va_D (mA g) (rW g cI cZ cB acc lm rm (mF N am T wk ou) (va_up y 4 ((y 4) + (1 : Int32)))) := mlD hok
      refine lv_iconst (v := 1) hx hb dX3_writes_45 (by decide) ?_
      exact W.zret (v := 1) (ty := .boolean) hx hb hr (rfl) (fun t ht hW => ⟨⟨_, (N, am, T, va_up y 4 ((y 4) + (1 : Int32))), rfl, by rw [mWr]; exact (congrArg (fun q => ((1 : Int32), N, am, T, q)) (if_pos c2).symm).trans (if_neg c1).symm, hp_at ht hP⟩, hS.F ht⟩) hS.2.2 dX3_writes_46
    · refine lv_aload_n hx hb dX3_writes_25 rfl (lv_at hl 0 rfl) ?_
      refine lv_dup hx hb dX3_writes_26 rfl ?_
      refine va_get (D := D) (ci := 3) (v := .int (y 5)) (C := RX3) (T := TX3) (N := 18) hx hb hts hi3 hown hK hP 0 (wl_at (by omega)) rfl 15 (by decide) (hts (.fieldLink RX3 36 "BigLedgerModel" "left" "I") (by decide +kernel)) (fun _ h9 => h9) rfl dX3_writes_27 ?_
      refine lv_iconst (v := 1) hx hb dX3_writes_30 (by decide) ?_
      refine lv_isub hx hb dX3_writes_31 ?_
      refine va_put (D := D) (ci := 3) (v := .int ((y 5) - (1 : Int32))) (ty := .int) (C := RX3) (T := TX3) (N := 18) hx hb hts hi3 tyX3 tyX3_ok nmX3 hown hK hP hD hS 0 (wl_at (by omega)) rfl 15 (by decide) (hts (.fieldLink RX3 36 "BigLedgerModel" "left" "I") (by decide +kernel)) (fun _ h9 => h9) rfl (by decide +kernel) (rfl) (rfl) (Nat.le_of_ble_eq_true rfl) dX3_writes_32 (fun H locs hP hD hS => ?_)
      have hP : va_P D vwCl (rW g cI cZ cB acc lm rm (mF N am T wk ou) (va_up y 5 ((y 5) - (1 : Int32)))) H := cv (ms_f 5 ((y 5) - (1 : Int32)) (by decide)) hP
      have hD : va_D (mA g) (rW g cI cZ cB acc lm rm (mF N am T wk ou) (va_up y 5 ((y 5) - (1 : Int32)))) := mlD hok
      refine lv_aload_n hx hb dX3_writes_35 rfl (lv_at hl 0 rfl) ?_
      refine lv_dup hx hb dX3_writes_36 rfl ?_
      refine va_get (D := D) (ci := 3) (v := .int ((va_up y 5 ((y 5) - (1 : Int32))) 4)) (C := RX3) (T := TX3) (N := 18) hx hb hts hi3 hown hK hP 0 (wl_at (by omega)) rfl 14 (by decide) (hts (.fieldLink RX3 62 "BigLedgerModel" "writes" "I") (by decide +kernel)) (fun _ h9 => h9) rfl dX3_writes_37 ?_
      refine lv_iconst (v := 1) hx hb dX3_writes_40 (by decide) ?_
      refine lv_iadd hx hb dX3_writes_41 ?_
      refine va_put (D := D) (ci := 3) (v := .int (((va_up y 5 ((y 5) - (1 : Int32))) 4) + (1 : Int32))) (ty := .int) (C := RX3) (T := TX3) (N := 18) hx hb hts hi3 tyX3 tyX3_ok nmX3 hown hK hP hD hS 0 (wl_at (by omega)) rfl 14 (by decide) (hts (.fieldLink RX3 62 "BigLedgerModel" "writes" "I") (by decide +kernel)) (fun _ h9 => h9) rfl (by decide +kernel) (rfl) (rfl) (Nat.le_of_ble_eq_true rfl) dX3_writes_42 (fun H locs hP hD hS => ?_)
      have hP : va_P D vwCl (rW g cI cZ cB acc lm rm (mF N am T wk ou) (va_up (va_up y 5 ((y 5) - (1 : Int32))) 4 (((va_up y 5 ((y 5) - (1 : Int32))) 4) + (1 : Int32)))) H := cv (ms_f 4 (((va_up y 5 ((y 5) - (1 : Int32))) 4) + (1 : Int32)) (by decide)) hP
      have hD : va_D (mA g) (rW g cI cZ cB acc lm rm (mF N am T wk ou) (va_up (va_up y 5 ((y 5) - (1 : Int32))) 4 (((va_up y 5 ((y 5) - (1 : Int32))) 4) + (1 : Int32)))) := mlD hok
      refine lv_iconst (v := 1) hx hb dX3_writes_45 (by decide) ?_
      exact W.zret (v := 1) (ty := .boolean) hx hb hr (rfl) (fun t ht hW => ⟨⟨_, (N, am, T, va_up (va_up y 5 ((y 5) - (1 : Int32))) 4 (((va_up y 5 ((y 5) - (1 : Int32))) 4) + (1 : Int32))), rfl, by rw [mWr]; exact (congrArg (fun q => ((1 : Int32), N, am, T, q)) (if_neg c2).symm).trans (if_neg c1).symm, hp_at ht hP⟩, hS.F ht⟩) hS.2.2 dX3_writes_46
  · refine lv_aload_n hx hb dX3_writes_7 rfl (lv_at hl 0 rfl) ?_
    refine lv_iconst (v := (-1)) hx hb dX3_writes_8 (by decide) ?_
    refine va_put (D := D) (ci := 3) (v := .int ((-1 : Int32))) (ty := .int) (C := RX3) (T := TX3) (N := 18) hx hb hts hi3 tyX3 tyX3_ok nmX3 hown hK hP hD hS 0 (wl_at (by omega)) rfl 15 (by decide) (hts (.fieldLink RX3 36 "BigLedgerModel" "left" "I") (by decide +kernel)) (fun _ h9 => h9) rfl (by decide +kernel) (rfl) (rfl) (Nat.le_of_ble_eq_true rfl) dX3_writes_9 (fun H locs hP hD hS => ?_)
    have hP : va_P D vwCl (rW g cI cZ cB acc lm rm (mF N am T wk ou) (va_up y 5 (-1 : Int32))) H := cv (ms_f 5 (-1 : Int32) (by decide)) hP
    have hD : va_D (mA g) (rW g cI cZ cB acc lm rm (mF N am T wk ou) (va_up y 5 (-1 : Int32))) := mlD hok
    refine lv_aload_n hx hb dX3_writes_12 rfl (lv_at hl 0 rfl) ?_
    refine va_callv (va_runV (As := []) (rest := []) ⟨hx, hb, hml, hown, hts⟩ (m_down l D g cI cZ cB acc lm rm N am T wk ou (va_up y 5 (-1 : Int32)) hok hacc) (cwV 0 hts gX3_writes_X3_down rfl rfl rfl (by decide +kernel) ⟨Nat.le_of_ble_eq_true rfl, Nat.le_of_ble_eq_true rfl⟩) ⟨nPc_blind, va_recv hK hP (ci := 3) (q0 := 0) rfl (wl_at (by omega)), nPc_use (hP) hK⟩ rfl rfl hl.1 rfl (lv_room (Nat.le_of_ble_eq_true rfl)) dX3_writes_13 ⟨Nat.le_of_ble_eq_true rfl, Nat.le_of_ble_eq_true rfl⟩) hS (fun q _ h => (fun _ h => h) q h) (fun _ h => h) (fun _u t H1 locs ht hvm hw hB hz1 hk9 hS => ?_)
    generalize H1 = H at ht hz1 hk9 hS ⊢
    have hP : va_P D vwCl (rW g cI cZ cB acc lm rm (mF (va_up N 0 (N 1)) 0 (va_up T 0 (fun _ => false)) wk ou) (va_up (va_up y 5 (-1)) 1 0)) H := pB_at ht hB
    have hD : va_D (mA g) (rW g cI cZ cB acc lm rm (mF (va_up N 0 (N 1)) 0 (va_up T 0 (fun _ => false)) wk ou) (va_up (va_up y 5 (-1)) 1 0)) := mlD hok
    refine lv_iconst (v := 0) hx hb dX3_writes_16 (by decide) ?_
    exact W.zret (v := 0) (ty := .boolean) hx hb hr (rfl) (fun t ht hW => ⟨⟨_, ((va_up N 0 (N 1)), 0, (va_up T 0 (fun _ => false)), va_up (va_up y 5 (-1)) 1 0), rfl, by rw [mWr]; exact (if_pos c1).symm, hp_at ht hP⟩, hS.F ht⟩) hS.2.2 dX3_writes_17

set_option maxHeartbeats 4000000 in
set_option maxRecDepth 100000 in
theorem m_part (l : Launch) (D : va_G) (g : Nat → Nat) (cI cZ cB : ClassId) (acc lm rm : Nat) (N : LN) (am : Nat) (T : BN) (wk ou y : Nat → Int32) (hok : mOk g) (hacc : acc ≤ 24) (hlm2 : lm ≤ 20) (p0 p1 p2 : Int32) (hbal : ∀ b, b < acc → N 0 b < 2147483648 ^ lm) : Met l yX3_part wsX3_part ({ frames := 1, cells := 0, slots := 0, locals := 21 }) (nPc [.ref (g 0), .int (p0), .int (p1), .int (p2)] D (rW g cI cZ cB acc lm rm (mF N am T wk ou) y) [(cI, .int), (cZ, .boolean), (cB, .byte)]) (va_Qi (fun (r : Int32) (u : MX) => (r, u.1) = mPart acc p0 p1 p2 (N, am, T, y) ∧ u.2.2 = ou) (fun u t => va_P D vwCl (rW g cI cZ cB acc lm rm (mF u.1.1 u.1.2.1 u.1.2.2.1 u.2.1 u.2.2) u.1.2.2.2) t.heap) (mA g)) 0 0 (mA g) := by
  refine Met.ofW (cc := cX3_part) (maxL := 9) (ret := (some .int)) (by decide) rfl ?_
  intro p e s m args below meth c s₁ B hml hv
  obtain ⟨rfl, hP, hK⟩ := hv
  have hx := B.exec
  have hb := B.bytes
  have hr := B.returns
  have hts := atoms_spec (ws := wsX3_part) B.pre
  have hown : s.vm.findClass RX3 = some m.cls := findClass_of_methodNamed B.named
  have hlocks := B.notSynchronized
  have hi3 : ∀ w ∈ wsX30, w ∈ wsX3_part := by decide +kernel
  have hS : va_S (mA g) s.heap s.heap [] := va_S.rf
  have hD : va_D (mA g) (rW g cI cZ cB acc lm rm (mF N am T wk ou) y) := mlD hok
  have hl := lv_entry ([.ref (g 0), .int (p0), .int (p1), .int (p2)]) (n := 9) (Nat.le_of_ble_eq_true rfl)
  rw [lg_entry_eq]
  generalize (lg_sl ([.ref (g 0), .int (p0), .int (p1), .int (p2)]) ++ List.replicate (9 - (lg_sl ([.ref (g 0), .int (p0), .int (p1), .int (p2)])).length) Slot.unset).toArray = ls at hl ⊢
  have hl : lv_has ls 9 [(0, .ref (g 0)), (1, .int (p0)), (2, .int (p1)), (3, .int (p2))] := hl
  refine lv_aload_n hx hb dX3_part_0 rfl (lv_at hl 0 rfl) ?_
  refine lv_iconst (v := 0) hx hb dX3_part_1 (by decide) ?_
  refine va_put (D := D) (ci := 3) (v := .int ((0 : Int32))) (ty := .int) (C := RX3) (T := TX3) (N := 18) hx hb hts hi3 tyX3 tyX3_ok nmX3 hown hK hP hD hS 0 (wl_at (by omega)) rfl 0 (by decide) (hts (.fieldLink RX3 1 "BigLedgerModel" "thrown" "I") (by decide +kernel)) (fun _ h9 => h9) rfl (by decide +kernel) (rfl) (rfl) (Nat.le_of_ble_eq_true rfl) dX3_part_2 (fun H locs hP hD hS => ?_)
  have hP : va_P D vwCl (rW g cI cZ cB acc lm rm (mF N am T wk ou) (va_up y 0 (0 : Int32))) H := cv (ms_f 0 (0 : Int32) (by decide)) hP
  have hD : va_D (mA g) (rW g cI cZ cB acc lm rm (mF N am T wk ou) (va_up y 0 (0 : Int32))) := mlD hok
  refine lv_aload_n hx hb dX3_part_5 rfl (lv_at hl 0 rfl) ?_
  refine va_get (D := D) (ci := 3) (v := .int ((va_up y 0 (0 : Int32)) 1)) (C := RX3) (T := TX3) (N := 18) hx hb hts hi3 hown hK hP 0 (wl_at (by omega)) rfl 11 (by decide) (hts (.fieldLink RX3 52 "BigLedgerModel" "up" "Z") (by decide +kernel)) (fun _ h9 => h9) rfl dX3_part_6 ?_
  refine lv_if_ne (tgt := 15) hx hb dX3_part_9 (by decide) (fun c0 => ?_) (fun c0 => ?_)
  · refine lv_aload_n hx hb dX3_part_15 rfl (lv_at hl 0 rfl) ?_
    refine lv_iload_n hx hb dX3_part_16 rfl (lv_at hl 1 rfl) ?_
    refine vp_callSi (W.runV (As := [.int (p0)]) (rest := []) ⟨hx, hb, hml, hown, hts⟩ (m_no l D g cI cZ cB acc lm rm N am T wk ou (va_up y 0 0) hok hacc p0) (cwV 1 hts gX3_part_X3_no rfl rfl rfl (by decide +kernel) ⟨Nat.le_of_ble_eq_true rfl, Nat.le_of_ble_eq_true rfl⟩) ⟨nPc_blind, va_recv hK hP (ci := 3) (q0 := 0) rfl (wl_at (by omega)), nPc_use (hP) hK⟩ rfl rfl hl.1 rfl (lv_room (Nat.le_of_ble_eq_true rfl)) dX3_part_17 ⟨Nat.le_of_ble_eq_true rfl, Nat.le_of_ble_eq_true rfl⟩) (fun ra hra => ?_)
    refine lv_if_eq (tgt := 25) hx hb dX3_part_20 (by decide) (fun c1 => ?_) (fun c1 => ?_)
    · have ha : isAcc acc p0 = true := Classical.byContradiction (fun q => absurd (c1.symm.trans (hra.trans (if_neg q))) (by decide))
      obtain ⟨b, hqb, rfl⟩ := isAcc_t (by omega) ha
      have eb : (nI b).toNatClampNeg = b := nI_clamp (by omega)
      refine lv_iload_n hx hb dX3_part_25 rfl (lv_at hl 2 rfl) ?_
      refine lv_if_lt (tgt := 39) hx hb dX3_part_26 (by decide) (fun c2 => ?_) (fun c2 => ?_)
      · refine lv_iconst (v := 5) hx hb dX3_part_39 (by decide) ?_
        exact W.iret (v := 5) hx hb hr (fun t ht hW => ⟨⟨_, ((setY (N, am, T, y) 0 0), wk, ou), rfl, ⟨by rw [mPart]; exact ((if_neg (c0)).trans ((if_neg ((fun q => q ha))).trans (if_pos (Or.inl c2)))).symm, rfl⟩, hp_at ht hP⟩, hS.F ht⟩) hS.2.2 dX3_part_40
      · refine lv_iload_n hx hb dX3_part_29 rfl (lv_at hl 2 rfl) ?_
        refine lv_iload_n hx hb dX3_part_30 rfl (lv_at hl 3 rfl) ?_
        refine lv_icmp_gt (tgt := 39) hx hb dX3_part_31 (by decide) (fun c3 => ?_) (fun c3 => ?_)
        · refine lv_iconst (v := 5) hx hb dX3_part_39 (by decide) ?_
          exact W.iret (v := 5) hx hb hr (fun t ht hW => ⟨⟨_, ((setY (N, am, T, y) 0 0), wk, ou), rfl, ⟨by rw [mPart]; exact ((if_neg (c0)).trans ((if_neg ((fun q => q ha))).trans (if_pos (Or.inr (Or.inl c3))))).symm, rfl⟩, hp_at ht hP⟩, hS.F ht⟩) hS.2.2 dX3_part_40
        · refine lv_iload_n hx hb dX3_part_34 rfl (lv_at hl 3 rfl) ?_
          refine lv_iconst (v := 1) hx hb dX3_part_35 (by decide) ?_
          refine lv_icmp_ge (tgt := 41) hx hb dX3_part_36 (by decide) (fun c4 => ?_) (fun c4 => ?_)
          · obtain ⟨kk, hkk, rfl⟩ := nI_of c2
            obtain ⟨jj, hjj, rfl⟩ := nI_of (x := p2) (fun q => (fa_of_lt (fa_trans q (show (0 : Int32) ≤ 1 by decide))).2.1 c4)
            have hj1 : 1 ≤ jj := (nI_leI (a := 1) (by omega) hjj).mp c4
            have ek : (nI kk).toNatClampNeg = kk := nI_clamp hkk
            have ej : (nI jj).toNatClampNeg = jj := nI_clamp hjj
            have hc9 : ¬ (nI kk < 0 ∨ nI jj < nI kk ∨ nI jj < 1) := by
              rintro (q | q | q)
              · exact c2 q
              · exact c3 q
              · exact (fa_of_lt q).2.1 c4
            obtain ⟨v, hv⟩ : ∃ v, v = N 0 b := ⟨_, rfl⟩
            obtain ⟨V, hV⟩ : ∃ V, V = v * kk := ⟨_, rfl⟩
            have hV22 : V < 2147483648 ^ 22 := by
              rw [hV, hv]
              have h1 : N 0 b * kk < 2147483648 ^ lm * 2147483648 := Nat.mul_lt_mul_of_lt_of_lt (hbal b hqb) hkk
              rw [← Nat.pow_succ] at h1
              exact Nat.lt_of_lt_of_le h1 (Nat.pow_le_pow_right (by decide) (by omega))
            have lpq : ∀ (i : Nat) (H : Heap) (locs : List Loc) (ls : Array Slot), i ≤ 22 → va_P D vwCl (rW g cI cZ cB acc lm rm (va_up (mF N am T (fl (lb V) wk 22) ou) 4 (fd (lb (V / jj)) (lb am) i)) (va_up y 0 0)) H → va_S (mA g) s.heap H locs → lv_has ls 9 [(8, .int (nI i - 1)), (6, .long (lN (rmD V jj i))), (0, .ref (g 0)), (3, .int (nI jj))] → W p l e (headSpec wsX3_part ({ frames := 1, cells := 0, slots := 0, locals := 21 })).room s m ([.ref (g 0), .int (nI b), .int (nI kk), .int (nI jj)]).toArray below meth c H locs 0 0 (MQ below (va_Qi (fun (r : Int32) (u : MX) => (r, u.1) = mPart acc (nI b) (nI kk) (nI jj) (N, am, T, y) ∧ u.2.2 = ou) (fun u t => va_P D vwCl (rW g cI cZ cB acc lm rm (mF u.1.1 u.1.2.1 u.1.2.2.1 u.2.1 u.2.2) u.1.2.2.2) t.heap) (mA g)) ([.ref (g 0), .int (nI b), .int (nI kk), .int (nI jj)]).toArray s 0 0 (mA g)) (F0 m 110 ls []) := by
              intro i
              induction i with
              | zero =>
                intro H locs ls hiw hP hS hl
                refine lv_iload hx hb dX3_part_110 (lv_at hl 0 rfl) ?_
                refine lv_if_lt (tgt := 158) hx hb dX3_part_112 (by decide) (fun _ => ?_) (fun c9 => absurd (by decide) c9)
                have hP : va_P D vwCl (rW g cI cZ cB acc lm rm (mF N (V / jj) T (fl (lb V) wk 22) ou) (va_up y 0 0)) H := rW_congr hP (fun q9 h1 h2 j hj => by
                  match q9 with
                  | 1 => rfl
                  | 2 => rfl
                  | 3 => rfl
                  | 4 =>
                    show fd (lb (V / jj)) (lb am) 0 j = lb (V / jj) j
                    rw [fd_0]
                  | 5 => rfl
                  | 6 => rfl
                  | 7 => rfl
                  | 8 => rfl
                  | 0 => omega
                  | q9 + 9 => omega)
                have hD : va_D (mA g) (rW g cI cZ cB acc lm rm (mF N (V / jj) T (fl (lb V) wk 22) ou) (va_up y 0 0)) := mlD hok
                refine lv_iconst (v := 0) hx hb dX3_part_158 (by decide) ?_
                exact W.iret (v := 0) hx hb hr (fun t ht hW => ⟨⟨_, ((N, V / jj, T, va_up y 0 0), (fl (lb V) wk 22), ou), rfl, ⟨by rw [mPart, eb, ek, ej]; refine Eq.trans ?_ ((if_neg (c0)).trans ((if_neg ((fun q => q ha))).trans (if_neg (hc9)))).symm; rw [hV, hv], rfl⟩, hp_at ht hP⟩, hS.F ht⟩) hS.2.2 dX3_part_159
              | succ i ih =>
                intro H locs ls hiw hP hS hl
                rw [nI_pred] at hl
                have hD : va_D (mA g) (rW g cI cZ cB acc lm rm (va_up (mF N am T (fl (lb V) wk 22) ou) 4 (fd (lb (V / jj)) (lb am) (i + 1))) (va_up y 0 0)) := mlD hok
                refine lv_iload hx hb dX3_part_110 (lv_at hl 0 rfl) ?_
                refine lv_if_lt (tgt := 158) hx hb dX3_part_112 (by decide) (fun c9 => absurd c9 (nI_pos (by omega))) (fun _ => ?_)
                have hs1 := rmD_lt V (i + 1) hj1
                have hs2 := lbN_lt V i
                refine lv_lload hx hb dX3_part_115 (lv_at hl 1 rfl) ?_
                refine lv_ldc2 (v := (lN 2147483648)) hx hb hown (hts (.constantLong RX3 86 ((lN 2147483648))) (by decide +kernel)) dX3_part_117 ?_
                refine lv_lmul hx hb dX3_part_120 ?_
                refine lv_topl (fun y80 ey80 => ?_)
                replace ey80 : y80 = lN (rmD V jj (i + 1) * 2147483648) := ey80.trans (lN_mul _ _)
                subst ey80
                refine lv_aload_n hx hb dX3_part_121 rfl (lv_at hl 2 rfl) ?_
                refine va_get (D := D) (ci := 3) (v := .ref (g 5)) (C := RX3) (T := TX3) (N := 18) hx hb hts hi3 hown hK hP 0 (wl_at (by omega)) rfl 8 (by decide) (hts (.fieldLink RX3 26 "BigLedgerModel" "work" "[I") (by decide +kernel)) (fun _ h9 => h9) rfl dX3_part_122 ?_
                refine lv_iload hx hb dX3_part_125 (lv_at hl 0 rfl) ?_
                refine va_iald hx hb hK hP 5 0 (wl_at (by omega)) rfl (vp_in_nI (by omega) (by omega)) dX3_part_127 ?_
                refine lv_topi (fun y81 ey81 => ?_)
                replace ey81 : y81 = lb V i := ey81.trans (by rw [nI_clamp (by omega)]; exact fl_lo (by omega))
                subst ey81
                refine lv_i2l (v := lN (lbN V i)) hx hb dX3_part_128 (lb_l V i) ?_
                refine lv_ladd hx hb dX3_part_129 ?_
                refine lv_topl (fun y82 ey82 => ?_)
                replace ey82 : y82 = lN (rmD V jj (i + 1) * 2147483648 + lbN V i) := ey82.trans (lN_add _ _)
                subst ey82
                have hs3 : rmD V jj (i + 1) * 2147483648 + lbN V i < 2 ^ 63 := by omega
                have hne : ¬ lN jj = 0 := fun q => absurd ((pk_lEQ (b := 0) (by omega) (by decide)).mp q) (by omega)
                refine lv_lstore (lv' := [(6, .long (lN (rmD V jj (i + 1) * 2147483648 + lbN V i))), (8, .int (nI i)), (0, .ref (g 0)), (3, .int (nI jj))]) hx hb dX3_part_130 hl (by decide) rfl (fun ls hl => ?_)
                refine lv_aload_n hx hb dX3_part_132 rfl (lv_at hl 2 rfl) ?_
                refine va_get (D := D) (ci := 3) (v := .ref (g 4)) (C := RX3) (T := TX3) (N := 18) hx hb hts hi3 hown hK hP 0 (wl_at (by omega)) rfl 7 (by decide) (hts (.fieldLink RX3 23 "BigLedgerModel" "amount" "[I") (by decide +kernel)) (fun _ h9 => h9) rfl dX3_part_133 ?_
                refine lv_iload hx hb dX3_part_136 (lv_at hl 1 rfl) ?_
                refine lv_lload hx hb dX3_part_138 (lv_at hl 0 rfl) ?_
                refine lv_iload_n hx hb dX3_part_140 rfl (lv_at hl 3 rfl) ?_
                refine lv_i2l (v := lN jj) hx hb dX3_part_141 (nI_l (by omega)) ?_
                refine lv_ldiv hx hb dX3_part_142 (hne) ?_
                refine lv_topl (fun y83 ey83 => ?_)
                replace ey83 : y83 = lN (lbN (V / jj) i) := ey83.trans ((pk_lDiv hs3 hj1 (by omega)).trans (congrArg lN (div_limb V i hj1)))
                subst ey83
                refine lv_l2i (v := lb (V / jj) i) hx hb dX3_part_143 (lN_i _) ?_
                refine va_iast hx hb hK hP hD hS 4 0 (wl_at (by omega)) rfl (vp_in_nI (by omega) (by omega)) dX3_part_144 (fun H locs hP hD hS => ?_)
                have hP : va_P D vwCl (rW g cI cZ cB acc lm rm (va_up (va_up (mF N am T (fl (lb V) wk 22) ou) 4 (fd (lb (V / jj)) (lb am) (i + 1))) 4 (upd ((va_up (mF N am T (fl (lb V) wk 22) ou) 4 (fd (lb (V / jj)) (lb am) (i + 1))) 4) (nI i).toNatClampNeg (lb (V / jj) i))) (va_up y 0 0)) H := cv (ms_a4 (upd ((va_up (mF N am T (fl (lb V) wk 22) ou) 4 (fd (lb (V / jj)) (lb am) (i + 1))) 4) (nI i).toNatClampNeg (lb (V / jj) i))) hP
                have hD : va_D (mA g) (rW g cI cZ cB acc lm rm (va_up (va_up (mF N am T (fl (lb V) wk 22) ou) 4 (fd (lb (V / jj)) (lb am) (i + 1))) 4 (upd ((va_up (mF N am T (fl (lb V) wk 22) ou) 4 (fd (lb (V / jj)) (lb am) (i + 1))) 4) (nI i).toNatClampNeg (lb (V / jj) i))) (va_up y 0 0)) := mlD hok
                have hP : va_P D vwCl (rW g cI cZ cB acc lm rm (va_up (mF N am T (fl (lb V) wk 22) ou) 4 (fd (lb (V / jj)) (lb am) i)) (va_up y 0 0)) H := rW_congr hP (fun q9 h1 h2 j hj => by
                  match q9 with
                  | 1 => rfl
                  | 2 => rfl
                  | 3 => rfl
                  | 4 =>
                    show upd (fd (lb (V / jj)) (lb am) (i + 1)) (nI i).toNatClampNeg (lb (V / jj) i) j = fd (lb (V / jj)) (lb am) i j
                    rw [nI_clamp (by omega), fd_s rfl]
                  | 5 => rfl
                  | 6 => rfl
                  | 7 => rfl
                  | 8 => rfl
                  | 0 => omega
                  | q9 + 9 => omega)
                have hD : va_D (mA g) (rW g cI cZ cB acc lm rm (va_up (mF N am T (fl (lb V) wk 22) ou) 4 (fd (lb (V / jj)) (lb am) i)) (va_up y 0 0)) := mlD hok
                refine lv_lload hx hb dX3_part_145 (lv_at hl 0 rfl) ?_
                refine lv_iload_n hx hb dX3_part_147 rfl (lv_at hl 3 rfl) ?_
                refine lv_i2l (v := lN jj) hx hb dX3_part_148 (nI_l (by omega)) ?_
                refine lv_lrem hx hb dX3_part_149 (hne) ?_
                refine lv_topl (fun y84 ey84 => ?_)
                replace ey84 : y84 = lN (rmD V jj i) := ey84.trans ((pk_lRem hs3 hj1 (by omega)).trans (congrArg lN (div_rem V jj i)))
                subst ey84
                refine lv_lstore (lv' := [(6, .long (lN (rmD V jj i))), (8, .int (nI i)), (0, .ref (g 0)), (3, .int (nI jj))]) hx hb dX3_part_150 hl (by decide) rfl (fun ls hl => ?_)
                refine lv_iinc (v := nI i - 1) (lv' := [(8, .int (nI i - 1)), (6, .long (lN (rmD V jj i))), (0, .ref (g 0)), (3, .int (nI jj))]) hx hb dX3_part_152 hl (k := 1) rfl (i_m1 _) (by decide) rfl (fun ls hl => ?_)
                refine lv_goto (tgt := 110) hx hb dX3_part_155 (by decide) ?_
                exact ih H locs ls (by omega) hP hS (lv_sub hl [0, 1, 2, 3] rfl)
            refine lv_lconst (v := 0) hx hb dX3_part_41 (by decide) ?_
            refine lv_lstore (lv' := [(4, .long ((0 : Int64))), (0, .ref (g 0)), (1, .int (nI b)), (2, .int (nI kk)), (3, .int (nI jj))]) hx hb dX3_part_42 hl (by decide) rfl (fun ls hl => ?_)
            refine lv_iconst (v := 0) hx hb dX3_part_44 (by decide) ?_
            refine lv_istore (lv' := [(6, .int ((0 : Int32))), (4, .long ((0 : Int64))), (0, .ref (g 0)), (1, .int (nI b)), (2, .int (nI kk)), (3, .int (nI jj))]) hx hb dX3_part_45 hl (by decide) rfl (fun ls hl => ?_)
            have lpm : ∀ (nlpm i : Nat) (H : Heap) (locs : List Loc) (ls : Array Slot), i + nlpm = 22 → va_P D vwCl (rW g cI cZ cB acc lm rm (mF N am T (fl (lb V) wk i) ou) (va_up y 0 0)) H → va_S (mA g) s.heap H locs → lv_has ls 9 [(6, .int (nI i)), (4, .long (lN (cyM v kk i))), (0, .ref (g 0)), (1, .int (nI b)), (2, .int (nI kk)), (3, .int (nI jj))] → W p l e (headSpec wsX3_part ({ frames := 1, cells := 0, slots := 0, locals := 21 })).room s m ([.ref (g 0), .int (nI b), .int (nI kk), .int (nI jj)]).toArray below meth c H locs 0 0 (MQ below (va_Qi (fun (r : Int32) (u : MX) => (r, u.1) = mPart acc (nI b) (nI kk) (nI jj) (N, am, T, y) ∧ u.2.2 = ou) (fun u t => va_P D vwCl (rW g cI cZ cB acc lm rm (mF u.1.1 u.1.2.1 u.1.2.2.1 u.2.1 u.2.2) u.1.2.2.2) t.heap) (mA g)) ([.ref (g 0), .int (nI b), .int (nI kk), .int (nI jj)]).toArray s 0 0 (mA g)) (F0 m 47 ls []) := by
              intro nlpm
              induction nlpm with
              | zero =>
                intro i H locs ls hinlpm hP hS hl
                have hD : va_D (mA g) (rW g cI cZ cB acc lm rm (mF N am T (fl (lb V) wk i) ou) (va_up y 0 0)) := mlD hok
                refine lv_iload hx hb dX3_part_47 (lv_at hl 0 rfl) ?_
                refine lv_bipush (v := 22) hx hb dX3_part_49 (by decide) ?_
                refine lv_icmp_ge (tgt := 103) hx hb dX3_part_51 (by decide) (fun _ => ?_) (fun c9 => absurd (nI_le (a := 22) (by omega) (by omega)) c9)
                have e9 : i = 22 := by omega
                subst e9
                refine lv_lconst (v := 0) hx hb dX3_part_103 (by decide) ?_
                refine lv_lstore (lv' := [(6, .long ((0 : Int64))), (4, .long (lN (cyM v kk 22))), (0, .ref (g 0)), (1, .int (nI b)), (2, .int (nI kk)), (3, .int (nI jj))]) hx hb dX3_part_104 hl (by decide) rfl (fun ls hl => ?_)
                refine lv_bipush (v := 21) hx hb dX3_part_106 (by decide) ?_
                refine lv_istore (lv' := [(8, .int ((21 : Int32))), (6, .long ((0 : Int64))), (4, .long (lN (cyM v kk 22))), (0, .ref (g 0)), (1, .int (nI b)), (2, .int (nI kk)), (3, .int (nI jj))]) hx hb dX3_part_108 hl (by decide) rfl (fun ls hl => ?_)
                have hP : va_P D vwCl (rW g cI cZ cB acc lm rm (va_up (mF N am T (fl (lb V) wk 22) ou) 4 (fd (lb (V / jj)) (lb am) 22)) (va_up y 0 0)) H := rW_congr hP (fun q9 h1 h2 j hj => by
                  match q9 with
                  | 1 => rfl
                  | 2 => rfl
                  | 3 => rfl
                  | 4 =>
                    exact (fd_lo (g := lb (V / jj)) (f := lb am) (i := 22) (k := j) hj).symm
                  | 5 => rfl
                  | 6 => rfl
                  | 7 => rfl
                  | 8 => rfl
                  | 0 => omega
                  | q9 + 9 => omega)
                have hD : va_D (mA g) (rW g cI cZ cB acc lm rm (va_up (mF N am T (fl (lb V) wk 22) ou) 4 (fd (lb (V / jj)) (lb am) 22)) (va_up y 0 0)) := mlD hok
                exact lpq 22 H locs ls (Nat.le_refl _) hP hS (by rw [rmD_top hV22]; exact (lv_sub hl [0, 1, 3, 6] rfl))
              | succ nlpm ihlpm =>
                intro i H locs ls hinlpm hP hS hl
                have hD : va_D (mA g) (rW g cI cZ cB acc lm rm (mF N am T (fl (lb V) wk i) ou) (va_up y 0 0)) := mlD hok
                have hiwlpm : i < 22 := by omega
                refine lv_iload hx hb dX3_part_47 (lv_at hl 0 rfl) ?_
                refine lv_bipush (v := 22) hx hb dX3_part_49 (by decide) ?_
                refine lv_icmp_ge (tgt := 103) hx hb dX3_part_51 (by decide) (fun c9 => absurd c9 (nI_ge (b := 22) hiwlpm (by omega))) (fun _ => ?_)
                refine lv_lload hx hb dX3_part_54 (lv_at hl 1 rfl) ?_
                refine lv_aload_n hx hb dX3_part_56 rfl (lv_at hl 2 rfl) ?_
                refine va_get (D := D) (ci := 3) (v := .ref (g 1)) (C := RX3) (T := TX3) (N := 18) hx hb hts hi3 hown hK hP 0 (wl_at (by omega)) rfl 4 (by decide) (hts (.fieldLink RX3 13 "BigLedgerModel" "now" "[I") (by decide +kernel)) (fun _ h9 => h9) rfl dX3_part_57 ?_
                refine lv_bipush (v := 22) hx hb dX3_part_60 (by decide) ?_
                refine lv_iload_n hx hb dX3_part_62 rfl (lv_at hl 3 rfl) ?_
                refine lv_imul hx hb dX3_part_63 ?_
                refine lv_topi (fun y85 ey85 => ?_)
                replace ey85 : y85 = nI (22 * b) := ey85.trans (pk_mul 22 b)
                subst ey85
                refine lv_iload hx hb dX3_part_64 (lv_at hl 0 rfl) ?_
                refine lv_iadd hx hb dX3_part_66 ?_
                refine lv_topi (fun y86 ey86 => ?_)
                replace ey86 : y86 = nI (22 * b + i) := ey86.trans (nI_add _ _)
                subst ey86
                refine va_iald hx hb hK hP 1 0 (wl_at (by omega)) rfl (vp_in_nI (by omega) (by omega)) dX3_part_67 ?_
                refine lv_topi (fun y87 ey87 => ?_)
                replace ey87 : y87 = lb v i := ey87.trans (by rw [nI_clamp (by omega), hv]; exact rowF_at (N 0) hiwlpm)
                subst ey87
                refine lv_i2l (v := lN (lbN v i)) hx hb dX3_part_68 (lb_l v i) ?_
                refine lv_iload_n hx hb dX3_part_69 rfl (lv_at hl 4 rfl) ?_
                refine lv_i2l (v := lN kk) hx hb dX3_part_70 (nI_l (by omega)) ?_
                refine lv_lmul hx hb dX3_part_71 ?_
                refine lv_topl (fun y88 ey88 => ?_)
                replace ey88 : y88 = lN (lbN v i * kk) := ey88.trans (lN_mul _ _)
                subst ey88
                refine lv_ladd hx hb dX3_part_72 ?_
                refine lv_topl (fun y89 ey89 => ?_)
                replace ey89 : y89 = lN (cyM v kk i + lbN v i * kk) := ey89.trans (lN_add _ _)
                subst ey89
                have hs1 := cyM_le v kk i
                have hs2 := lbN_lt v i
                have hs3 : lbN v i * kk ≤ 2147483647 * 2147483647 := Nat.mul_le_mul (by omega) (by omega)
                have hs4 : cyM v kk i + lbN v i * kk < 2 ^ 63 := by omega
                refine lv_lstore (lv' := [(4, .long (lN (cyM v kk i + lbN v i * kk))), (6, .int (nI i)), (0, .ref (g 0)), (1, .int (nI b)), (2, .int (nI kk)), (3, .int (nI jj))]) hx hb dX3_part_73 hl (by decide) rfl (fun ls hl => ?_)
                refine lv_aload_n hx hb dX3_part_75 rfl (lv_at hl 2 rfl) ?_
                refine va_get (D := D) (ci := 3) (v := .ref (g 5)) (C := RX3) (T := TX3) (N := 18) hx hb hts hi3 hown hK hP 0 (wl_at (by omega)) rfl 8 (by decide) (hts (.fieldLink RX3 26 "BigLedgerModel" "work" "[I") (by decide +kernel)) (fun _ h9 => h9) rfl dX3_part_76 ?_
                refine lv_iload hx hb dX3_part_79 (lv_at hl 1 rfl) ?_
                refine lv_lload hx hb dX3_part_81 (lv_at hl 0 rfl) ?_
                refine lv_ldc2 (v := (lN 2147483648)) hx hb hown (hts (.constantLong RX3 86 ((lN 2147483648))) (by decide +kernel)) dX3_part_83 ?_
                refine lv_lrem hx hb dX3_part_86 (ne_base) ?_
                refine lv_topl (fun y90 ey90 => ?_)
                replace ey90 : y90 = lN (lbN V i) := ey90.trans ((pk_lRem hs4 (by decide) (by decide)).trans (congrArg lN (by rw [hV, ← mul_limb, Nat.add_comm])))
                subst ey90
                refine lv_l2i (v := lb V i) hx hb dX3_part_87 (lN_i _) ?_
                refine va_iast hx hb hK hP hD hS 5 0 (wl_at (by omega)) rfl (vp_in_nI (by omega) (by omega)) dX3_part_88 (fun H locs hP hD hS => ?_)
                have hP : va_P D vwCl (rW g cI cZ cB acc lm rm (va_up (mF N am T (fl (lb V) wk i) ou) 5 (upd ((mF N am T (fl (lb V) wk i) ou) 5) (nI i).toNatClampNeg (lb V i))) (va_up y 0 0)) H := cv (ms_a5 (upd ((mF N am T (fl (lb V) wk i) ou) 5) (nI i).toNatClampNeg (lb V i))) hP
                have hD : va_D (mA g) (rW g cI cZ cB acc lm rm (va_up (mF N am T (fl (lb V) wk i) ou) 5 (upd ((mF N am T (fl (lb V) wk i) ou) 5) (nI i).toNatClampNeg (lb V i))) (va_up y 0 0)) := mlD hok
                have hP : va_P D vwCl (rW g cI cZ cB acc lm rm (mF N am T (fl (lb V) wk (i + 1)) ou) (va_up y 0 0)) H := rW_congr hP (fun q9 h1 h2 j hj => by
                  match q9 with
                  | 1 => rfl
                  | 2 => rfl
                  | 3 => rfl
                  | 4 => rfl
                  | 5 =>
                    show upd (fl (lb V) wk i) (nI i).toNatClampNeg (lb V i) j = fl (lb V) wk (i + 1) j
                    rw [nI_clamp (by omega), fl_s rfl]
                  | 6 => rfl
                  | 7 => rfl
                  | 8 => rfl
                  | 0 => omega
                  | q9 + 9 => omega)
                have hD : va_D (mA g) (rW g cI cZ cB acc lm rm (mF N am T (fl (lb V) wk (i + 1)) ou) (va_up y 0 0)) := mlD hok
                refine lv_lload hx hb dX3_part_89 (lv_at hl 0 rfl) ?_
                refine lv_ldc2 (v := (lN 2147483648)) hx hb hown (hts (.constantLong RX3 86 ((lN 2147483648))) (by decide +kernel)) dX3_part_91 ?_
                refine lv_ldiv hx hb dX3_part_94 (ne_base) ?_
                refine lv_topl (fun y91 ey91 => ?_)
                replace ey91 : y91 = lN (cyM v kk (i + 1)) := ey91.trans ((pk_lDiv hs4 (by decide) (by decide)).trans (congrArg lN (by rw [← mul_carry, Nat.add_comm])))
                subst ey91
                refine lv_lstore (lv' := [(4, .long (lN (cyM v kk (i + 1)))), (6, .int (nI i)), (0, .ref (g 0)), (1, .int (nI b)), (2, .int (nI kk)), (3, .int (nI jj))]) hx hb dX3_part_95 hl (by decide) rfl (fun ls hl => ?_)
                refine lv_iinc (v := nI (i + 1)) (lv' := [(6, .int (nI (i + 1))), (4, .long (lN (cyM v kk (i + 1)))), (0, .ref (g 0)), (1, .int (nI b)), (2, .int (nI kk)), (3, .int (nI jj))]) hx hb dX3_part_97 hl (k := 1) rfl (nI_1 i) (by decide) rfl (fun ls hl => ?_)
                refine lv_goto (tgt := 47) hx hb dX3_part_100 (by decide) ?_
                exact ihlpm (i + 1) H locs ls (by omega) hP hS (lv_sub hl [0, 1, 2, 3, 4, 5] rfl)
            have hP : va_P D vwCl (rW g cI cZ cB acc lm rm (mF N am T (fl (lb V) wk 0) ou) (va_up y 0 (0 : Int32))) H := rW_congr hP (fun q9 h1 h2 j hj => by
              match q9 with
              | 1 => rfl
              | 2 => rfl
              | 3 => rfl
              | 4 => rfl
              | 5 =>
                exact (congrFun (fl_0 (lb V) wk) j).symm
              | 6 => rfl
              | 7 => rfl
              | 8 => rfl
              | 0 => omega
              | q9 + 9 => omega)
            have hD : va_D (mA g) (rW g cI cZ cB acc lm rm (mF N am T (fl (lb V) wk 0) ou) (va_up y 0 (0 : Int32))) := mlD hok
            exact lpm 22 0 H locs ls rfl hP hS (by rw [cyM_0]; exact (lv_sub hl [0, 1, 2, 3, 4, 5] rfl))
          · refine lv_iconst (v := 5) hx hb dX3_part_39 (by decide) ?_
            exact W.iret (v := 5) hx hb hr (fun t ht hW => ⟨⟨_, ((setY (N, am, T, y) 0 0), wk, ou), rfl, ⟨by rw [mPart]; exact ((if_neg (c0)).trans ((if_neg ((fun q => q ha))).trans (if_pos (Or.inr (Or.inr (fa_of_nle c4)))))).symm, rfl⟩, hp_at ht hP⟩, hS.F ht⟩) hS.2.2 dX3_part_40
    · have ha : ¬ isAcc acc p0 = true := fun q => c1 (hra.trans (if_pos q))
      refine lv_iconst (v := 1) hx hb dX3_part_23 (by decide) ?_
      exact W.iret (v := 1) hx hb hr (fun t ht hW => ⟨⟨_, ((setY (N, am, T, y) 0 0), wk, ou), rfl, ⟨by rw [mPart]; exact ((if_neg (c0)).trans (if_pos (ha))).symm, rfl⟩, hp_at ht hP⟩, hS.F ht⟩) hS.2.2 dX3_part_24
  · refine lv_bipush (v := 6) hx hb dX3_part_12 (by decide) ?_
    exact W.iret (v := 6) hx hb hr (fun t ht hW => ⟨⟨_, ((setY (N, am, T, y) 0 0), wk, ou), rfl, ⟨by rw [mPart]; exact (if_pos (c0)).symm, rfl⟩, hp_at ht hP⟩, hS.F ht⟩) hS.2.2 dX3_part_14
set_option maxHeartbeats 4000000 in
set_option maxRecDepth 100000 in
theorem m_balanceSize (l : Launch) (D : va_G) (g : Nat → Nat) (cI cZ cB : ClassId) (acc lm rm : Nat) (N : LN) (am : Nat) (T : BN) (wk ou y : Nat → Int32) (hok : mOk g) (hacc : acc ≤ 24) (p0 : Int32) : Met l yX3_balanceSize wsX3_balanceSize ({ frames := 1, cells := 0, slots := 0, locals := 22 }) (nPc [.ref (g 0), .int (p0)] D (rW g cI cZ cB acc lm rm (mF N am T wk ou) y) [(cI, .int), (cZ, .boolean), (cB, .byte)]) (va_Qi (fun (r : Int32) (_ : Unit) => r = if y 1 = 0 then -1 else if ¬ isAcc acc p0 = true then -1 else nI (szF (N 0 p0.toNatClampNeg) 22)) (fun _ t => va_P D vwCl (rW g cI cZ cB acc lm rm (mF N am T wk ou) (va_up y 0 0)) t.heap) (mA g)) 0 0 (mA g) := by
  refine Met.ofW (cc := cX3_balanceSize) (maxL := 2) (ret := (some .int)) (by decide) rfl ?_
  intro p e s m args below meth c s₁ B hml hv
  obtain ⟨rfl, hP, hK⟩ := hv
  have hx := B.exec
  have hb := B.bytes
  have hr := B.returns
  have hts := atoms_spec (ws := wsX3_balanceSize) B.pre
  have hown : s.vm.findClass RX3 = some m.cls := findClass_of_methodNamed B.named
  have hlocks := B.notSynchronized
  have hi3 : ∀ w ∈ wsX30, w ∈ wsX3_balanceSize := by decide +kernel
  have hS : va_S (mA g) s.heap s.heap [] := va_S.rf
  have hD : va_D (mA g) (rW g cI cZ cB acc lm rm (mF N am T wk ou) y) := mlD hok
  have hl := lv_entry ([.ref (g 0), .int (p0)]) (n := 2) (Nat.le_of_ble_eq_true rfl)
  rw [lg_entry_eq]
  generalize (lg_sl ([.ref (g 0), .int (p0)]) ++ List.replicate (2 - (lg_sl ([.ref (g 0), .int (p0)])).length) Slot.unset).toArray = ls at hl ⊢
  have hl : lv_has ls 2 [(0, .ref (g 0)), (1, .int (p0))] := hl
  refine lv_aload_n hx hb dX3_balanceSize_0 rfl (lv_at hl 0 rfl) ?_
  refine lv_iconst (v := 0) hx hb dX3_balanceSize_1 (by decide) ?_
  refine va_put (D := D) (ci := 3) (v := .int ((0 : Int32))) (ty := .int) (C := RX3) (T := TX3) (N := 18) hx hb hts hi3 tyX3 tyX3_ok nmX3 hown hK hP hD hS 0 (wl_at (by omega)) rfl 0 (by decide) (hts (.fieldLink RX3 1 "BigLedgerModel" "thrown" "I") (by decide +kernel)) (fun _ h9 => h9) rfl (by decide +kernel) (rfl) (rfl) (Nat.le_of_ble_eq_true rfl) dX3_balanceSize_2 (fun H locs hP hD hS => ?_)
  have hP : va_P D vwCl (rW g cI cZ cB acc lm rm (mF N am T wk ou) (va_up y 0 (0 : Int32))) H := cv (ms_f 0 (0 : Int32) (by decide)) hP
  have hD : va_D (mA g) (rW g cI cZ cB acc lm rm (mF N am T wk ou) (va_up y 0 (0 : Int32))) := mlD hok
  refine lv_aload_n hx hb dX3_balanceSize_5 rfl (lv_at hl 0 rfl) ?_
  refine va_get (D := D) (ci := 3) (v := .int ((va_up y 0 (0 : Int32)) 1)) (C := RX3) (T := TX3) (N := 18) hx hb hts hi3 hown hK hP 0 (wl_at (by omega)) rfl 11 (by decide) (hts (.fieldLink RX3 52 "BigLedgerModel" "up" "Z") (by decide +kernel)) (fun _ h9 => h9) rfl dX3_balanceSize_6 ?_
  refine lv_if_eq (tgt := 20) hx hb dX3_balanceSize_9 (by decide) (fun c0 => ?_) (fun c0 => ?_)
  · refine lv_iconst (v := (-1)) hx hb dX3_balanceSize_20 (by decide) ?_
    refine lv_goto (tgt := 35) hx hb dX3_balanceSize_21 (by decide) ?_
    exact W.iret (v := -1) hx hb hr (fun t ht hW => ⟨⟨_, (), rfl, (if_pos (c0)).symm, hp_at ht hP⟩, hS.F ht⟩) hS.2.2 dX3_balanceSize_35
  · refine lv_aload_n hx hb dX3_balanceSize_12 rfl (lv_at hl 0 rfl) ?_
    refine lv_iload_n hx hb dX3_balanceSize_13 rfl (lv_at hl 1 rfl) ?_
    refine vp_callSi (W.runV (As := [.int (p0)]) (rest := []) ⟨hx, hb, hml, hown, hts⟩ (m_no l D g cI cZ cB acc lm rm N am T wk ou (va_up y 0 0) hok hacc p0) (cwV 1 hts gX3_balanceSize_X3_no rfl rfl rfl (by decide +kernel) ⟨Nat.le_of_ble_eq_true rfl, Nat.le_of_ble_eq_true rfl⟩) ⟨nPc_blind, va_recv hK hP (ci := 3) (q0 := 0) rfl (wl_at (by omega)), nPc_use (hP) hK⟩ rfl rfl hl.1 rfl (lv_room (Nat.le_of_ble_eq_true rfl)) dX3_balanceSize_14 ⟨Nat.le_of_ble_eq_true rfl, Nat.le_of_ble_eq_true rfl⟩) (fun ra hra => ?_)
    refine lv_if_eq (tgt := 24) hx hb dX3_balanceSize_17 (by decide) (fun c1 => ?_) (fun c1 => ?_)
    · have ha : isAcc acc p0 = true := Classical.byContradiction (fun q => absurd (c1.symm.trans (hra.trans (if_neg q))) (by decide))
      obtain ⟨b, hqb, rfl⟩ := isAcc_t (by omega) ha
      have eb : (nI b).toNatClampNeg = b := nI_clamp (by omega)
      refine lv_aload_n hx hb dX3_balanceSize_24 rfl (lv_at hl 0 rfl) ?_
      refine va_get (D := D) (ci := 3) (v := .ref (g 1)) (C := RX3) (T := TX3) (N := 18) hx hb hts hi3 hown hK hP 0 (wl_at (by omega)) rfl 4 (by decide) (hts (.fieldLink RX3 13 "BigLedgerModel" "now" "[I") (by decide +kernel)) (fun _ h9 => h9) rfl dX3_balanceSize_25 ?_
      refine lv_bipush (v := 22) hx hb dX3_balanceSize_28 (by decide) ?_
      refine lv_iload_n hx hb dX3_balanceSize_30 rfl (lv_at hl 1 rfl) ?_
      refine lv_imul hx hb dX3_balanceSize_31 ?_
      refine lv_topi (fun y92 ey92 => ?_)
      replace ey92 : y92 = nI (22 * b) := ey92.trans (pk_mul 22 b)
      subst ey92
      have hn1 := vp_cons (hP _ _ (wl_at (i := 1) (by omega))) vp_nil
      refine vp_callSi (W.runS (As := [.ref (g 1), .int (nI (22 * b))]) (rest := []) ⟨hx, hb, hml, hown, hts⟩ (m_size l D cI (g 1) 550 (22 * b) (N 0 b) (rowF (N 0)) (by omega) (by omega) (fun k hk => rowF_at (N 0) hk)) (va_cwS 2 hts gX3_balanceSize_X3_size rfl rfl rfl (by decide +kernel) ⟨Nat.le_of_ble_eq_true rfl, Nat.le_of_ble_eq_true rfl⟩) ⟨nPc_blind, nPc_use (hn1) (hK.sub [0] rfl)⟩ rfl rfl hl.1 rfl (lv_room (Nat.le_of_ble_eq_true rfl)) dX3_balanceSize_32 ⟨Nat.le_of_ble_eq_true rfl, Nat.le_of_ble_eq_true rfl⟩) (fun rz hrz => ?_)
      exact W.iret (v := rz) hx hb hr (fun t ht hW => ⟨⟨_, (), rfl, by rw [eb]; exact hrz.trans ((if_neg (c0)).trans (if_neg ((fun q => q ha)))).symm, hp_at ht hP⟩, hS.F ht⟩) hS.2.2 dX3_balanceSize_35
    · have ha : ¬ isAcc acc p0 = true := fun q => c1 (hra.trans (if_pos q))
      refine lv_iconst (v := (-1)) hx hb dX3_balanceSize_20 (by decide) ?_
      refine lv_goto (tgt := 35) hx hb dX3_balanceSize_21 (by decide) ?_
      exact W.iret (v := -1) hx hb hr (fun t ht hW => ⟨⟨_, (), rfl, ((if_neg (c0)).trans (if_pos (ha))).symm, hp_at ht hP⟩, hS.F ht⟩) hS.2.2 dX3_balanceSize_35
set_option maxHeartbeats 4000000 in
set_option maxRecDepth 100000 in
theorem m_balanceLimb (l : Launch) (D : va_G) (g : Nat → Nat) (cI cZ cB : ClassId) (acc lm rm : Nat) (N : LN) (am : Nat) (T : BN) (wk ou y : Nat → Int32) (hok : mOk g) (hacc : acc ≤ 24) (p0 p1 : Int32) (hnow : ∀ b, b < 25 → N 0 b < 2147483648 ^ 22) : Met l yX3_balanceLimb wsX3_balanceLimb ({ frames := 1, cells := 0, slots := 0, locals := 21 }) (nPc [.ref (g 0), .int (p0), .int (p1)] D (rW g cI cZ cB acc lm rm (mF N am T wk ou) y) [(cI, .int), (cZ, .boolean), (cB, .byte)]) (va_Qi (fun (r : Int32) (_ : Unit) => r = if y 1 = 0 then -1 else if ¬ isAcc acc p0 = true then -1 else if p1 < 0 then -1 else lb (N 0 p0.toNatClampNeg) p1.toNatClampNeg) (fun _ t => va_P D vwCl (rW g cI cZ cB acc lm rm (mF N am T wk ou) (va_up y 0 0)) t.heap) (mA g)) 0 0 (mA g) := by
  refine Met.ofW (cc := cX3_balanceLimb) (maxL := 3) (ret := (some .int)) (by decide) rfl ?_
  intro p e s m args below meth c s₁ B hml hv
  obtain ⟨rfl, hP, hK⟩ := hv
  have hx := B.exec
  have hb := B.bytes
  have hr := B.returns
  have hts := atoms_spec (ws := wsX3_balanceLimb) B.pre
  have hown : s.vm.findClass RX3 = some m.cls := findClass_of_methodNamed B.named
  have hlocks := B.notSynchronized
  have hi3 : ∀ w ∈ wsX30, w ∈ wsX3_balanceLimb := by decide +kernel
  have hS : va_S (mA g) s.heap s.heap [] := va_S.rf
  have hD : va_D (mA g) (rW g cI cZ cB acc lm rm (mF N am T wk ou) y) := mlD hok
  have hl := lv_entry ([.ref (g 0), .int (p0), .int (p1)]) (n := 3) (Nat.le_of_ble_eq_true rfl)
  rw [lg_entry_eq]
  generalize (lg_sl ([.ref (g 0), .int (p0), .int (p1)]) ++ List.replicate (3 - (lg_sl ([.ref (g 0), .int (p0), .int (p1)])).length) Slot.unset).toArray = ls at hl ⊢
  have hl : lv_has ls 3 [(0, .ref (g 0)), (1, .int (p0)), (2, .int (p1))] := hl
  refine lv_aload_n hx hb dX3_balanceLimb_0 rfl (lv_at hl 0 rfl) ?_
  refine lv_iconst (v := 0) hx hb dX3_balanceLimb_1 (by decide) ?_
  refine va_put (D := D) (ci := 3) (v := .int ((0 : Int32))) (ty := .int) (C := RX3) (T := TX3) (N := 18) hx hb hts hi3 tyX3 tyX3_ok nmX3 hown hK hP hD hS 0 (wl_at (by omega)) rfl 0 (by decide) (hts (.fieldLink RX3 1 "BigLedgerModel" "thrown" "I") (by decide +kernel)) (fun _ h9 => h9) rfl (by decide +kernel) (rfl) (rfl) (Nat.le_of_ble_eq_true rfl) dX3_balanceLimb_2 (fun H locs hP hD hS => ?_)
  have hP : va_P D vwCl (rW g cI cZ cB acc lm rm (mF N am T wk ou) (va_up y 0 (0 : Int32))) H := cv (ms_f 0 (0 : Int32) (by decide)) hP
  have hD : va_D (mA g) (rW g cI cZ cB acc lm rm (mF N am T wk ou) (va_up y 0 (0 : Int32))) := mlD hok
  refine lv_aload_n hx hb dX3_balanceLimb_5 rfl (lv_at hl 0 rfl) ?_
  refine va_get (D := D) (ci := 3) (v := .int ((va_up y 0 (0 : Int32)) 1)) (C := RX3) (T := TX3) (N := 18) hx hb hts hi3 hown hK hP 0 (wl_at (by omega)) rfl 11 (by decide) (hts (.fieldLink RX3 52 "BigLedgerModel" "up" "Z") (by decide +kernel)) (fun _ h9 => h9) rfl dX3_balanceLimb_6 ?_
  refine lv_if_eq (tgt := 24) hx hb dX3_balanceLimb_9 (by decide) (fun c0 => ?_) (fun c0 => ?_)
  · refine lv_iconst (v := (-1)) hx hb dX3_balanceLimb_24 (by decide) ?_
    exact W.iret (v := -1) hx hb hr (fun t ht hW => ⟨⟨_, (), rfl, (if_pos (c0)).symm, hp_at ht hP⟩, hS.F ht⟩) hS.2.2 dX3_balanceLimb_25
  · refine lv_aload_n hx hb dX3_balanceLimb_12 rfl (lv_at hl 0 rfl) ?_
    refine lv_iload_n hx hb dX3_balanceLimb_13 rfl (lv_at hl 1 rfl) ?_
    refine vp_callSi (W.runV (As := [.int (p0)]) (rest := []) ⟨hx, hb, hml, hown, hts⟩ (m_no l D g cI cZ cB acc lm rm N am T wk ou (va_up y 0 0) hok hacc p0) (cwV 1 hts gX3_balanceLimb_X3_no rfl rfl rfl (by decide +kernel) ⟨Nat.le_of_ble_eq_true rfl, Nat.le_of_ble_eq_true rfl⟩) ⟨nPc_blind, va_recv hK hP (ci := 3) (q0 := 0) rfl (wl_at (by omega)), nPc_use (hP) hK⟩ rfl rfl hl.1 rfl (lv_room (Nat.le_of_ble_eq_true rfl)) dX3_balanceLimb_14 ⟨Nat.le_of_ble_eq_true rfl, Nat.le_of_ble_eq_true rfl⟩) (fun ra hra => ?_)
    refine lv_if_ne (tgt := 24) hx hb dX3_balanceLimb_17 (by decide) (fun c1 => ?_) (fun c1 => ?_)
    · have ha : ¬ isAcc acc p0 = true := fun q => c1 (hra.trans (if_pos q))
      refine lv_iconst (v := (-1)) hx hb dX3_balanceLimb_24 (by decide) ?_
      exact W.iret (v := -1) hx hb hr (fun t ht hW => ⟨⟨_, (), rfl, ((if_neg (c0)).trans (if_pos (ha))).symm, hp_at ht hP⟩, hS.F ht⟩) hS.2.2 dX3_balanceLimb_25
    · have ha : isAcc acc p0 = true := Classical.byContradiction (fun q => absurd (c1.symm.trans (hra.trans (if_neg q))) (by decide))
      obtain ⟨b, hqb, rfl⟩ := isAcc_t (by omega) ha
      have eb : (nI b).toNatClampNeg = b := nI_clamp (by omega)
      refine lv_iload_n hx hb dX3_balanceLimb_20 rfl (lv_at hl 2 rfl) ?_
      refine lv_if_ge (tgt := 26) hx hb dX3_balanceLimb_21 (by decide) (fun c2 => ?_) (fun c2 => ?_)
      · have c5 : ¬ p1 < 0 := fun q => (fa_of_lt q).2.1 c2
        obtain ⟨k, hk, rfl⟩ := nI_of c5
        have ek : (nI k).toNatClampNeg = k := nI_clamp hk
        refine lv_iload_n hx hb dX3_balanceLimb_26 rfl (lv_at hl 2 rfl) ?_
        refine lv_bipush (v := 22) hx hb dX3_balanceLimb_27 (by decide) ?_
        refine lv_icmp_ge (tgt := 46) hx hb dX3_balanceLimb_29 (by decide) (fun c6 => ?_) (fun c6 => ?_)
        · have c7 : 22 ≤ k := (nI_leI (a := 22) (by decide) hk).mp c6
          refine lv_iconst (v := 0) hx hb dX3_balanceLimb_46 (by decide) ?_
          exact W.iret (v := 0) hx hb hr (fun t ht hW => ⟨⟨_, (), rfl, by rw [eb, ek]; refine Eq.trans ?_ ((if_neg (c0)).trans ((if_neg ((fun q => q ha))).trans (if_neg (c5)))).symm; show (0 : Int32) = nI (lbN _ k); rw [lbN_zero (hnow b (by omega)) c7, nI_0], hp_at ht hP⟩, hS.F ht⟩) hS.2.2 dX3_balanceLimb_47
        · have c7 : k < 22 := Nat.lt_of_not_le (fun q => c6 (nI_le (a := 22) q hk))
          refine lv_aload_n hx hb dX3_balanceLimb_32 rfl (lv_at hl 0 rfl) ?_
          refine va_get (D := D) (ci := 3) (v := .ref (g 1)) (C := RX3) (T := TX3) (N := 18) hx hb hts hi3 hown hK hP 0 (wl_at (by omega)) rfl 4 (by decide) (hts (.fieldLink RX3 13 "BigLedgerModel" "now" "[I") (by decide +kernel)) (fun _ h9 => h9) rfl dX3_balanceLimb_33 ?_
          refine lv_bipush (v := 22) hx hb dX3_balanceLimb_36 (by decide) ?_
          refine lv_iload_n hx hb dX3_balanceLimb_38 rfl (lv_at hl 1 rfl) ?_
          refine lv_imul hx hb dX3_balanceLimb_39 ?_
          refine lv_topi (fun y93 ey93 => ?_)
          replace ey93 : y93 = nI (22 * b) := ey93.trans (pk_mul 22 b)
          subst ey93
          refine lv_iload_n hx hb dX3_balanceLimb_40 rfl (lv_at hl 2 rfl) ?_
          refine lv_iadd hx hb dX3_balanceLimb_41 ?_
          refine lv_topi (fun y94 ey94 => ?_)
          replace ey94 : y94 = nI (22 * b + k) := ey94.trans (nI_add _ _)
          subst ey94
          refine va_iald hx hb hK hP 1 0 (wl_at (by omega)) rfl (vp_in_nI (by omega) (by omega)) dX3_balanceLimb_42 ?_
          refine lv_topi (fun y95 ey95 => ?_)
          replace ey95 : y95 = lb (N 0 b) k := ey95.trans (by rw [nI_clamp (by omega)]; exact rowF_at (N 0) c7)
          subst ey95
          refine lv_goto (tgt := 47) hx hb dX3_balanceLimb_43 (by decide) ?_
          exact W.iret (v := lb (N 0 b) k) hx hb hr (fun t ht hW => ⟨⟨_, (), rfl, by rw [eb, ek]; exact ((if_neg (c0)).trans ((if_neg ((fun q => q ha))).trans (if_neg (c5)))).symm, hp_at ht hP⟩, hS.F ht⟩) hS.2.2 dX3_balanceLimb_47
      · refine lv_iconst (v := (-1)) hx hb dX3_balanceLimb_24 (by decide) ?_
        exact W.iret (v := -1) hx hb hr (fun t ht hW => ⟨⟨_, (), rfl, ((if_neg (c0)).trans ((if_neg ((fun q => q ha))).trans (if_pos (fa_of_nle c2)))).symm, hp_at ht hP⟩, hS.F ht⟩) hS.2.2 dX3_balanceLimb_25
set_option maxHeartbeats 4000000 in
set_option maxRecDepth 100000 in
theorem m_totalLimb (l : Launch) (D : va_G) (g : Nat → Nat) (cI cZ cB : ClassId) (acc lm rm : Nat) (N : LN) (am : Nat) (T : BN) (wk ou y : Nat → Int32) (hok : mOk g) (hacc : acc ≤ 24) (p0 : Int32) (hnow : N 0 24 < 2147483648 ^ 22) : Met l yX3_totalLimb wsX3_totalLimb ({ frames := 0, cells := 0, slots := 0, locals := 0 }) (nPc [.ref (g 0), .int (p0)] D (rW g cI cZ cB acc lm rm (mF N am T wk ou) y) [(cI, .int), (cZ, .boolean), (cB, .byte)]) (va_Qi (fun (r : Int32) (_ : Unit) => r = if y 1 = 0 then -1 else if p0 < 0 then -1 else lb (N 0 24) p0.toNatClampNeg) (fun _ t => va_P D vwCl (rW g cI cZ cB acc lm rm (mF N am T wk ou) (va_up y 0 0)) t.heap) (mA g)) 0 0 (mA g) := by
  refine Met.ofW (cc := cX3_totalLimb) (maxL := 2) (ret := (some .int)) (by decide) rfl ?_
  intro p e s m args below meth c s₁ B hml hv
  obtain ⟨rfl, hP, hK⟩ := hv
  have hx := B.exec
  have hb := B.bytes
  have hr := B.returns
  have hts := atoms_spec (ws := wsX3_totalLimb) B.pre
  have hown : s.vm.findClass RX3 = some m.cls := findClass_of_methodNamed B.named
  have hlocks := B.notSynchronized
  have hi3 : ∀ w ∈ wsX30, w ∈ wsX3_totalLimb := by decide +kernel
  have hS : va_S (mA g) s.heap s.heap [] := va_S.rf
  have hD : va_D (mA g) (rW g cI cZ cB acc lm rm (mF N am T wk ou) y) := mlD hok
  have hl := lv_entry ([.ref (g 0), .int (p0)]) (n := 2) (Nat.le_of_ble_eq_true rfl)
  rw [lg_entry_eq]
  generalize (lg_sl ([.ref (g 0), .int (p0)]) ++ List.replicate (2 - (lg_sl ([.ref (g 0), .int (p0)])).length) Slot.unset).toArray = ls at hl ⊢
  have hl : lv_has ls 2 [(0, .ref (g 0)), (1, .int (p0))] := hl
  refine lv_aload_n hx hb dX3_totalLimb_0 rfl (lv_at hl 0 rfl) ?_
  refine lv_iconst (v := 0) hx hb dX3_totalLimb_1 (by decide) ?_
  refine va_put (D := D) (ci := 3) (v := .int ((0 : Int32))) (ty := .int) (C := RX3) (T := TX3) (N := 18) hx hb hts hi3 tyX3 tyX3_ok nmX3 hown hK hP hD hS 0 (wl_at (by omega)) rfl 0 (by decide) (hts (.fieldLink RX3 1 "BigLedgerModel" "thrown" "I") (by decide +kernel)) (fun _ h9 => h9) rfl (by decide +kernel) (rfl) (rfl) (Nat.le_of_ble_eq_true rfl) dX3_totalLimb_2 (fun H locs hP hD hS => ?_)
  have hP : va_P D vwCl (rW g cI cZ cB acc lm rm (mF N am T wk ou) (va_up y 0 (0 : Int32))) H := cv (ms_f 0 (0 : Int32) (by decide)) hP
  have hD : va_D (mA g) (rW g cI cZ cB acc lm rm (mF N am T wk ou) (va_up y 0 (0 : Int32))) := mlD hok
  refine lv_aload_n hx hb dX3_totalLimb_5 rfl (lv_at hl 0 rfl) ?_
  refine va_get (D := D) (ci := 3) (v := .int ((va_up y 0 (0 : Int32)) 1)) (C := RX3) (T := TX3) (N := 18) hx hb hts hi3 hown hK hP 0 (wl_at (by omega)) rfl 11 (by decide) (hts (.fieldLink RX3 52 "BigLedgerModel" "up" "Z") (by decide +kernel)) (fun _ h9 => h9) rfl dX3_totalLimb_6 ?_
  refine lv_if_eq (tgt := 16) hx hb dX3_totalLimb_9 (by decide) (fun c0 => ?_) (fun c0 => ?_)
  · refine lv_iconst (v := (-1)) hx hb dX3_totalLimb_16 (by decide) ?_
    exact W.iret (v := -1) hx hb hr (fun t ht hW => ⟨⟨_, (), rfl, (if_pos (c0)).symm, hp_at ht hP⟩, hS.F ht⟩) hS.2.2 dX3_totalLimb_17
  · refine lv_iload_n hx hb dX3_totalLimb_12 rfl (lv_at hl 1 rfl) ?_
    refine lv_if_ge (tgt := 18) hx hb dX3_totalLimb_13 (by decide) (fun c2 => ?_) (fun c2 => ?_)
    · have c5 : ¬ p0 < 0 := fun q => (fa_of_lt q).2.1 c2
      obtain ⟨k, hk, rfl⟩ := nI_of c5
      have ek : (nI k).toNatClampNeg = k := nI_clamp hk
      refine lv_iload_n hx hb dX3_totalLimb_18 rfl (lv_at hl 1 rfl) ?_
      refine lv_bipush (v := 22) hx hb dX3_totalLimb_19 (by decide) ?_
      refine lv_icmp_ge (tgt := 37) hx hb dX3_totalLimb_21 (by decide) (fun c6 => ?_) (fun c6 => ?_)
      · have c7 : 22 ≤ k := (nI_leI (a := 22) (by decide) hk).mp c6
        refine lv_iconst (v := 0) hx hb dX3_totalLimb_37 (by decide) ?_
        exact W.iret (v := 0) hx hb hr (fun t ht hW => ⟨⟨_, (), rfl, by rw [ek]; refine Eq.trans ?_ ((if_neg (c0)).trans (if_neg (c5))).symm; show (0 : Int32) = nI (lbN _ k); rw [lbN_zero hnow c7, nI_0], hp_at ht hP⟩, hS.F ht⟩) hS.2.2 dX3_totalLimb_38
      · have c7 : k < 22 := Nat.lt_of_not_le (fun q => c6 (nI_le (a := 22) q hk))
        refine lv_aload_n hx hb dX3_totalLimb_24 rfl (lv_at hl 0 rfl) ?_
        refine va_get (D := D) (ci := 3) (v := .ref (g 1)) (C := RX3) (T := TX3) (N := 18) hx hb hts hi3 hown hK hP 0 (wl_at (by omega)) rfl 4 (by decide) (hts (.fieldLink RX3 13 "BigLedgerModel" "now" "[I") (by decide +kernel)) (fun _ h9 => h9) rfl dX3_totalLimb_25 ?_
        refine lv_sipush (v := 528) hx hb dX3_totalLimb_28 (by decide) ?_
        refine lv_iload_n hx hb dX3_totalLimb_31 rfl (lv_at hl 1 rfl) ?_
        refine lv_iadd hx hb dX3_totalLimb_32 ?_
        refine lv_topi (fun y96 ey96 => ?_)
        replace ey96 : y96 = nI (528 + k) := ey96.trans (nI_add 528 k)
        subst ey96
        refine va_iald hx hb hK hP 1 0 (wl_at (by omega)) rfl (vp_in_nI (by omega) (by omega)) dX3_totalLimb_33 ?_
        refine lv_topi (fun y97 ey97 => ?_)
        replace ey97 : y97 = lb (N 0 24) k := ey97.trans (by rw [nI_clamp (by omega)]; exact rowF_at (N 0) (a := 24) c7)
        subst ey97
        refine lv_goto (tgt := 38) hx hb dX3_totalLimb_34 (by decide) ?_
        exact W.iret (v := lb (N 0 24) k) hx hb hr (fun t ht hW => ⟨⟨_, (), rfl, by rw [ek]; exact ((if_neg (c0)).trans (if_neg (c5))).symm, hp_at ht hP⟩, hS.F ht⟩) hS.2.2 dX3_totalLimb_38
    · refine lv_iconst (v := (-1)) hx hb dX3_totalLimb_16 (by decide) ?_
      exact W.iret (v := -1) hx hb hr (fun t ht hW => ⟨⟨_, (), rfl, ((if_neg (c0)).trans (if_pos (fa_of_nle c2))).symm, hp_at ht hP⟩, hS.F ht⟩) hS.2.2 dX3_totalLimb_17
set_option maxHeartbeats 4000000 in
set_option maxRecDepth 100000 in
theorem m_amount (l : Launch) (D : va_G) (g : Nat → Nat) (cI cZ cB : ClassId) (acc lm rm : Nat) (N : LN) (am : Nat) (T : BN) (wk ou y : Nat → Int32) (hok : mOk g) (hacc : acc ≤ 24) (p0 : Int32) (hnow : am < 2147483648 ^ 22) : Met l yX3_amount wsX3_amount ({ frames := 0, cells := 0, slots := 0, locals := 0 }) (nPc [.ref (g 0), .int (p0)] D (rW g cI cZ cB acc lm rm (mF N am T wk ou) y) [(cI, .int), (cZ, .boolean), (cB, .byte)]) (va_Qi (fun (r : Int32) (_ : Unit) => r = if y 1 = 0 then -1 else if p0 < 0 then -1 else lb (am) p0.toNatClampNeg) (fun _ t => va_P D vwCl (rW g cI cZ cB acc lm rm (mF N am T wk ou) (va_up y 0 0)) t.heap) (mA g)) 0 0 (mA g) := by
  refine Met.ofW (cc := cX3_amount) (maxL := 2) (ret := (some .int)) (by decide) rfl ?_
  intro p e s m args below meth c s₁ B hml hv
  obtain ⟨rfl, hP, hK⟩ := hv
  have hx := B.exec
  have hb := B.bytes
  have hr := B.returns
  have hts := atoms_spec (ws := wsX3_amount) B.pre
  have hown : s.vm.findClass RX3 = some m.cls := findClass_of_methodNamed B.named
  have hlocks := B.notSynchronized
  have hi3 : ∀ w ∈ wsX30, w ∈ wsX3_amount := by decide +kernel
  have hS : va_S (mA g) s.heap s.heap [] := va_S.rf
  have hD : va_D (mA g) (rW g cI cZ cB acc lm rm (mF N am T wk ou) y) := mlD hok
  have hl := lv_entry ([.ref (g 0), .int (p0)]) (n := 2) (Nat.le_of_ble_eq_true rfl)
  rw [lg_entry_eq]
  generalize (lg_sl ([.ref (g 0), .int (p0)]) ++ List.replicate (2 - (lg_sl ([.ref (g 0), .int (p0)])).length) Slot.unset).toArray = ls at hl ⊢
  have hl : lv_has ls 2 [(0, .ref (g 0)), (1, .int (p0))] := hl
  refine lv_aload_n hx hb dX3_amount_0 rfl (lv_at hl 0 rfl) ?_
  refine lv_iconst (v := 0) hx hb dX3_amount_1 (by decide) ?_
  refine va_put (D := D) (ci := 3) (v := .int ((0 : Int32))) (ty := .int) (C := RX3) (T := TX3) (N := 18) hx hb hts hi3 tyX3 tyX3_ok nmX3 hown hK hP hD hS 0 (wl_at (by omega)) rfl 0 (by decide) (hts (.fieldLink RX3 1 "BigLedgerModel" "thrown" "I") (by decide +kernel)) (fun _ h9 => h9) rfl (by decide +kernel) (rfl) (rfl) (Nat.le_of_ble_eq_true rfl) dX3_amount_2 (fun H locs hP hD hS => ?_)
  have hP : va_P D vwCl (rW g cI cZ cB acc lm rm (mF N am T wk ou) (va_up y 0 (0 : Int32))) H := cv (ms_f 0 (0 : Int32) (by decide)) hP
  have hD : va_D (mA g) (rW g cI cZ cB acc lm rm (mF N am T wk ou) (va_up y 0 (0 : Int32))) := mlD hok
  refine lv_aload_n hx hb dX3_amount_5 rfl (lv_at hl 0 rfl) ?_
  refine va_get (D := D) (ci := 3) (v := .int ((va_up y 0 (0 : Int32)) 1)) (C := RX3) (T := TX3) (N := 18) hx hb hts hi3 hown hK hP 0 (wl_at (by omega)) rfl 11 (by decide) (hts (.fieldLink RX3 52 "BigLedgerModel" "up" "Z") (by decide +kernel)) (fun _ h9 => h9) rfl dX3_amount_6 ?_
  refine lv_if_eq (tgt := 16) hx hb dX3_amount_9 (by decide) (fun c0 => ?_) (fun c0 => ?_)
  · refine lv_iconst (v := (-1)) hx hb dX3_amount_16 (by decide) ?_
    exact W.iret (v := -1) hx hb hr (fun t ht hW => ⟨⟨_, (), rfl, (if_pos (c0)).symm, hp_at ht hP⟩, hS.F ht⟩) hS.2.2 dX3_amount_17
  · refine lv_iload_n hx hb dX3_amount_12 rfl (lv_at hl 1 rfl) ?_
    refine lv_if_ge (tgt := 18) hx hb dX3_amount_13 (by decide) (fun c2 => ?_) (fun c2 => ?_)
    · have c5 : ¬ p0 < 0 := fun q => (fa_of_lt q).2.1 c2
      obtain ⟨k, hk, rfl⟩ := nI_of c5
      have ek : (nI k).toNatClampNeg = k := nI_clamp hk
      refine lv_iload_n hx hb dX3_amount_18 rfl (lv_at hl 1 rfl) ?_
      refine lv_bipush (v := 22) hx hb dX3_amount_19 (by decide) ?_
      refine lv_icmp_ge (tgt := 33) hx hb dX3_amount_21 (by decide) (fun c6 => ?_) (fun c6 => ?_)
      · have c7 : 22 ≤ k := (nI_leI (a := 22) (by decide) hk).mp c6
        refine lv_iconst (v := 0) hx hb dX3_amount_33 (by decide) ?_
        exact W.iret (v := 0) hx hb hr (fun t ht hW => ⟨⟨_, (), rfl, by rw [ek]; refine Eq.trans ?_ ((if_neg (c0)).trans (if_neg (c5))).symm; show (0 : Int32) = nI (lbN _ k); rw [lbN_zero hnow c7, nI_0], hp_at ht hP⟩, hS.F ht⟩) hS.2.2 dX3_amount_34
      · have c7 : k < 22 := Nat.lt_of_not_le (fun q => c6 (nI_le (a := 22) q hk))
        refine lv_aload_n hx hb dX3_amount_24 rfl (lv_at hl 0 rfl) ?_
        refine va_get (D := D) (ci := 3) (v := .ref (g 4)) (C := RX3) (T := TX3) (N := 18) hx hb hts hi3 hown hK hP 0 (wl_at (by omega)) rfl 7 (by decide) (hts (.fieldLink RX3 23 "BigLedgerModel" "amount" "[I") (by decide +kernel)) (fun _ h9 => h9) rfl dX3_amount_25 ?_
        refine lv_iload_n hx hb dX3_amount_28 rfl (lv_at hl 1 rfl) ?_
        refine va_iald hx hb hK hP 4 0 (wl_at (by omega)) rfl (vp_in_nI (by omega) (by omega)) dX3_amount_29 ?_
        refine lv_topi (fun y98 ey98 => ?_)
        replace ey98 : y98 = lb (am) k := ey98.trans (by rw [nI_clamp (by omega)]; rfl)
        subst ey98
        refine lv_goto (tgt := 34) hx hb dX3_amount_30 (by decide) ?_
        exact W.iret (v := lb (am) k) hx hb hr (fun t ht hW => ⟨⟨_, (), rfl, by rw [ek]; exact ((if_neg (c0)).trans (if_neg (c5))).symm, hp_at ht hP⟩, hS.F ht⟩) hS.2.2 dX3_amount_34
    · refine lv_iconst (v := (-1)) hx hb dX3_amount_16 (by decide) ?_
      exact W.iret (v := -1) hx hb hr (fun t ht hW => ⟨⟨_, (), rfl, ((if_neg (c0)).trans (if_pos (fa_of_nle c2))).symm, hp_at ht hP⟩, hS.F ht⟩) hS.2.2 dX3_amount_17
set_option maxHeartbeats 4000000 in
set_option maxRecDepth 100000 in
theorem m_compare (l : Launch) (D : va_G) (g : Nat → Nat) (cI cZ cB : ClassId) (acc lm rm : Nat) (N : LN) (am : Nat) (T : BN) (wk ou y : Nat → Int32) (hok : mOk g) (hacc : acc ≤ 24) (p0 p1 : Int32) (hnow : ∀ b, b < 25 → N 0 b < 2147483648 ^ 22) : Met l yX3_compare wsX3_compare ({ frames := 1, cells := 0, slots := 0, locals := 24 }) (nPc [.ref (g 0), .int (p0), .int (p1)] D (rW g cI cZ cB acc lm rm (mF N am T wk ou) y) [(cI, .int), (cZ, .boolean), (cB, .byte)]) (va_Qi (fun (r : Int32) (_ : Unit) => r = if y 1 = 0 then -2 else if ¬ (isAcc acc p0 = true ∧ isAcc acc p1 = true) then -2 else cmpI (N 0 p0.toNatClampNeg) (N 0 p1.toNatClampNeg)) (fun _ t => va_P D vwCl (rW g cI cZ cB acc lm rm (mF N am T wk ou) (va_up y 0 0)) t.heap) (mA g)) 0 0 (mA g) := by
  refine Met.ofW (cc := cX3_compare) (maxL := 3) (ret := (some .int)) (by decide) rfl ?_
  intro p e s m args below meth c s₁ B hml hv
  obtain ⟨rfl, hP, hK⟩ := hv
  have hx := B.exec
  have hb := B.bytes
  have hr := B.returns
  have hts := atoms_spec (ws := wsX3_compare) B.pre
  have hown : s.vm.findClass RX3 = some m.cls := findClass_of_methodNamed B.named
  have hlocks := B.notSynchronized
  have hi3 : ∀ w ∈ wsX30, w ∈ wsX3_compare := by decide +kernel
  have hS : va_S (mA g) s.heap s.heap [] := va_S.rf
  have hD : va_D (mA g) (rW g cI cZ cB acc lm rm (mF N am T wk ou) y) := mlD hok
  have hl := lv_entry ([.ref (g 0), .int (p0), .int (p1)]) (n := 3) (Nat.le_of_ble_eq_true rfl)
  rw [lg_entry_eq]
  generalize (lg_sl ([.ref (g 0), .int (p0), .int (p1)]) ++ List.replicate (3 - (lg_sl ([.ref (g 0), .int (p0), .int (p1)])).length) Slot.unset).toArray = ls at hl ⊢
  have hl : lv_has ls 3 [(0, .ref (g 0)), (1, .int (p0)), (2, .int (p1))] := hl
  refine lv_aload_n hx hb dX3_compare_0 rfl (lv_at hl 0 rfl) ?_
  refine lv_iconst (v := 0) hx hb dX3_compare_1 (by decide) ?_
  refine va_put (D := D) (ci := 3) (v := .int ((0 : Int32))) (ty := .int) (C := RX3) (T := TX3) (N := 18) hx hb hts hi3 tyX3 tyX3_ok nmX3 hown hK hP hD hS 0 (wl_at (by omega)) rfl 0 (by decide) (hts (.fieldLink RX3 1 "BigLedgerModel" "thrown" "I") (by decide +kernel)) (fun _ h9 => h9) rfl (by decide +kernel) (rfl) (rfl) (Nat.le_of_ble_eq_true rfl) dX3_compare_2 (fun H locs hP hD hS => ?_)
  have hP : va_P D vwCl (rW g cI cZ cB acc lm rm (mF N am T wk ou) (va_up y 0 (0 : Int32))) H := cv (ms_f 0 (0 : Int32) (by decide)) hP
  have hD : va_D (mA g) (rW g cI cZ cB acc lm rm (mF N am T wk ou) (va_up y 0 (0 : Int32))) := mlD hok
  refine lv_aload_n hx hb dX3_compare_5 rfl (lv_at hl 0 rfl) ?_
  refine va_get (D := D) (ci := 3) (v := .int ((va_up y 0 (0 : Int32)) 1)) (C := RX3) (T := TX3) (N := 18) hx hb hts hi3 hown hK hP 0 (wl_at (by omega)) rfl 11 (by decide) (hts (.fieldLink RX3 52 "BigLedgerModel" "up" "Z") (by decide +kernel)) (fun _ h9 => h9) rfl dX3_compare_6 ?_
  refine lv_if_eq (tgt := 28) hx hb dX3_compare_9 (by decide) (fun c0 => ?_) (fun c0 => ?_)
  · refine lv_bipush (v := (-2)) hx hb dX3_compare_28 (by decide) ?_
    refine lv_goto (tgt := 52) hx hb dX3_compare_30 (by decide) ?_
    exact W.iret (v := -2) hx hb hr (fun t ht hW => ⟨⟨_, (), rfl, (if_pos (c0)).symm, hp_at ht hP⟩, hS.F ht⟩) hS.2.2 dX3_compare_52
  · refine lv_aload_n hx hb dX3_compare_12 rfl (lv_at hl 0 rfl) ?_
    refine lv_iload_n hx hb dX3_compare_13 rfl (lv_at hl 1 rfl) ?_
    refine vp_callSi (W.runV (As := [.int (p0)]) (rest := []) ⟨hx, hb, hml, hown, hts⟩ (m_no l D g cI cZ cB acc lm rm N am T wk ou (va_up y 0 0) hok hacc p0) (cwV 1 hts gX3_compare_X3_no rfl rfl rfl (by decide +kernel) ⟨Nat.le_of_ble_eq_true rfl, Nat.le_of_ble_eq_true rfl⟩) ⟨nPc_blind, va_recv hK hP (ci := 3) (q0 := 0) rfl (wl_at (by omega)), nPc_use (hP) hK⟩ rfl rfl hl.1 rfl (lv_room (Nat.le_of_ble_eq_true rfl)) dX3_compare_14 ⟨Nat.le_of_ble_eq_true rfl, Nat.le_of_ble_eq_true rfl⟩) (fun ra hra => ?_)
    refine lv_if_ne (tgt := 28) hx hb dX3_compare_17 (by decide) (fun c1 => ?_) (fun c1 => ?_)
    · have ha : ¬ isAcc acc p0 = true := fun q => c1 (hra.trans (if_pos q))
      refine lv_bipush (v := (-2)) hx hb dX3_compare_28 (by decide) ?_
      refine lv_goto (tgt := 52) hx hb dX3_compare_30 (by decide) ?_
      exact W.iret (v := -2) hx hb hr (fun t ht hW => ⟨⟨_, (), rfl, ((if_neg (c0)).trans (if_pos ((fun q => ha q.1)))).symm, hp_at ht hP⟩, hS.F ht⟩) hS.2.2 dX3_compare_52
    · have ha : isAcc acc p0 = true := Classical.byContradiction (fun q => absurd (c1.symm.trans (hra.trans (if_neg q))) (by decide))
      obtain ⟨b, hqb, rfl⟩ := isAcc_t (by omega) ha
      have eb : (nI b).toNatClampNeg = b := nI_clamp (by omega)
      refine lv_aload_n hx hb dX3_compare_20 rfl (lv_at hl 0 rfl) ?_
      refine lv_iload_n hx hb dX3_compare_21 rfl (lv_at hl 2 rfl) ?_
      refine vp_callSi (W.runV (As := [.int (p1)]) (rest := []) ⟨hx, hb, hml, hown, hts⟩ (m_no l D g cI cZ cB acc lm rm N am T wk ou (va_up y 0 0) hok hacc p1) (cwV 1 hts gX3_compare_X3_no rfl rfl rfl (by decide +kernel) ⟨Nat.le_of_ble_eq_true rfl, Nat.le_of_ble_eq_true rfl⟩) ⟨nPc_blind, va_recv hK hP (ci := 3) (q0 := 0) rfl (wl_at (by omega)), nPc_use (hP) hK⟩ rfl rfl hl.1 rfl (lv_room (Nat.le_of_ble_eq_true rfl)) dX3_compare_22 ⟨Nat.le_of_ble_eq_true rfl, Nat.le_of_ble_eq_true rfl⟩) (fun rb hrb => ?_)
      refine lv_if_eq (tgt := 33) hx hb dX3_compare_25 (by decide) (fun c12 => ?_) (fun c12 => ?_)
      · have ha2 : isAcc acc p1 = true := Classical.byContradiction (fun q => absurd (c12.symm.trans (hrb.trans (if_neg q))) (by decide))
        obtain ⟨d, hqd, rfl⟩ := isAcc_t (by omega) ha2
        have ed : (nI d).toNatClampNeg = d := nI_clamp (by omega)
        refine lv_aload_n hx hb dX3_compare_33 rfl (lv_at hl 0 rfl) ?_
        refine va_get (D := D) (ci := 3) (v := .ref (g 1)) (C := RX3) (T := TX3) (N := 18) hx hb hts hi3 hown hK hP 0 (wl_at (by omega)) rfl 4 (by decide) (hts (.fieldLink RX3 13 "BigLedgerModel" "now" "[I") (by decide +kernel)) (fun _ h9 => h9) rfl dX3_compare_34 ?_
        refine lv_bipush (v := 22) hx hb dX3_compare_37 (by decide) ?_
        refine lv_iload_n hx hb dX3_compare_39 rfl (lv_at hl 1 rfl) ?_
        refine lv_imul hx hb dX3_compare_40 ?_
        refine lv_topi (fun y99 ey99 => ?_)
        replace ey99 : y99 = nI (22 * b) := ey99.trans (pk_mul 22 b)
        subst ey99
        refine lv_aload_n hx hb dX3_compare_41 rfl (lv_at hl 0 rfl) ?_
        refine va_get (D := D) (ci := 3) (v := .ref (g 1)) (C := RX3) (T := TX3) (N := 18) hx hb hts hi3 hown hK hP 0 (wl_at (by omega)) rfl 4 (by decide) (hts (.fieldLink RX3 13 "BigLedgerModel" "now" "[I") (by decide +kernel)) (fun _ h9 => h9) rfl dX3_compare_42 ?_
        refine lv_bipush (v := 22) hx hb dX3_compare_45 (by decide) ?_
        refine lv_iload_n hx hb dX3_compare_47 rfl (lv_at hl 2 rfl) ?_
        refine lv_imul hx hb dX3_compare_48 ?_
        refine lv_topi (fun y100 ey100 => ?_)
        replace ey100 : y100 = nI (22 * d) := ey100.trans (pk_mul 22 d)
        subst ey100
        have hn1 := vp_cons (hP _ _ (wl_at (i := 1) (by omega))) (vp_cons (hP _ _ (wl_at (i := 1) (by omega))) vp_nil)
        refine vp_callSi (W.runS (As := [.ref (g 1), .int (nI (22 * b)), .ref (g 1), .int (nI (22 * d))]) (rest := []) ⟨hx, hb, hml, hown, hts⟩ (m_compared l D cI (g 1) 550 (22 * b) (N 0 b) (g 1) 550 (22 * d) (N 0 d) (rowF (N 0)) (rowF (N 0)) (by omega) (by omega) (fun k hk => rowF_at (N 0) hk) (by omega) (by omega) (fun k hk => rowF_at (N 0) hk) (hnow b (by omega)) (hnow d (by omega))) (va_cwS 4 hts gX3_compare_X3_compared rfl rfl rfl (by decide +kernel) ⟨Nat.le_of_ble_eq_true rfl, Nat.le_of_ble_eq_true rfl⟩) ⟨nPc_blind, nPc_use (hn1) (hK.sub [0] rfl)⟩ rfl rfl hl.1 rfl (lv_room (Nat.le_of_ble_eq_true rfl)) dX3_compare_49 ⟨Nat.le_of_ble_eq_true rfl, Nat.le_of_ble_eq_true rfl⟩) (fun rz hrz => ?_)
        exact W.iret (v := rz) hx hb hr (fun t ht hW => ⟨⟨_, (), rfl, by rw [eb, ed]; exact hrz.trans ((if_neg (c0)).trans (if_neg ((fun q => q ⟨ha, ha2⟩)))).symm, hp_at ht hP⟩, hS.F ht⟩) hS.2.2 dX3_compare_52
      · have ha2 : ¬ isAcc acc p1 = true := fun q => c12 (hrb.trans (if_pos q))
        refine lv_bipush (v := (-2)) hx hb dX3_compare_28 (by decide) ?_
        refine lv_goto (tgt := 52) hx hb dX3_compare_30 (by decide) ?_
        exact W.iret (v := -2) hx hb hr (fun t ht hW => ⟨⟨_, (), rfl, ((if_neg (c0)).trans (if_pos ((fun q => ha2 q.2)))).symm, hp_at ht hP⟩, hS.F ht⟩) hS.2.2 dX3_compare_52

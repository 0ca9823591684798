set_option maxHeartbeats 4000000 in
set_option maxRecDepth 100000 in
theorem m_commit (l : Launch) (D : va_G) (g : Nat → Nat) (cI cZ cB : ClassId) (acc lm rm : Nat) (N : LN) (am : Nat) (T : BN) (wk ou y : Nat → Int32) (hok : mOk g) (hacc : acc ≤ 24) : Met l yX3_commit wsX3_commit ({ frames := 5, cells := 0, slots := 0, locals := 103 }) (nPc [.ref (g 0)] D (rW g cI cZ cB acc lm rm (mF N am T wk ou) y) [(cI, .int), (cZ, .boolean), (cB, .byte)]) (va_Qi (fun (r : Int32) (u : MS) => (r, u) = mCommit (N, am, T, y)) (fun u t => va_P D vwCl (rW g cI cZ cB acc lm rm (mF u.1 u.2.1 u.2.2.1 wk ou) u.2.2.2) t.heap) (mA g)) 0 0 (mA g) := by
  refine Met.ofW (cc := cX3_commit) (maxL := 3) (ret := (some .int)) (by decide) rfl ?_
  intro p e s m args below meth c s₁ B hml hv
  obtain ⟨rfl, hP, hK⟩ := hv
  have hx := B.exec
  have hb := B.bytes
  have hr := B.returns
  have hts := atoms_spec (ws := wsX3_commit) B.pre
  have hown : s.vm.findClass RX3 = some m.cls := findClass_of_methodNamed B.named
  have hlocks := B.notSynchronized
  have hi3 : ∀ w ∈ wsX30, w ∈ wsX3_commit := by decide +kernel
  have hS : va_S (mA g) s.heap s.heap [] := va_S.rf
  have hD : va_D (mA g) (rW g cI cZ cB acc lm rm (mF N am T wk ou) y) := mlD hok
  have hl := lv_entry ([.ref (g 0)]) (n := 3) (Nat.le_of_ble_eq_true rfl)
  rw [lg_entry_eq]
  generalize (lg_sl ([.ref (g 0)]) ++ List.replicate (3 - (lg_sl ([.ref (g 0)])).length) Slot.unset).toArray = ls at hl ⊢
  have hl : lv_has ls 3 [(0, .ref (g 0))] := hl
  refine lv_aload_n hx hb dX3_commit_0 rfl (lv_at hl 0 rfl) ?_
  refine lv_iconst (v := 0) hx hb dX3_commit_1 (by decide) ?_
  refine va_put (D := D) (ci := 3) (v := .int ((0 : Int32))) (ty := .int) (C := RX3) (T := TX3) (N := 18) hx hb hts hi3 tyX3 tyX3_ok nmX3 hown hK hP hD hS 0 (wl_at (by omega)) rfl 0 (by decide) (hts (.fieldLink RX3 1 "BigLedgerModel" "thrown" "I") (by decide +kernel)) (fun _ h9 => h9) rfl (by decide +kernel) (rfl) (rfl) (Nat.le_of_ble_eq_true rfl) dX3_commit_2 (fun H locs hP hD hS => ?_)
  have hP : va_P D vwCl (rW g cI cZ cB acc lm rm (mF N am T wk ou) (va_up y 0 (0 : Int32))) H := cv (ms_f 0 (0 : Int32) (by decide)) hP
  have hD : va_D (mA g) (rW g cI cZ cB acc lm rm (mF N am T wk ou) (va_up y 0 (0 : Int32))) := mlD hok
  refine lv_aload_n hx hb dX3_commit_5 rfl (lv_at hl 0 rfl) ?_
  refine va_get (D := D) (ci := 3) (v := .int ((va_up y 0 (0 : Int32)) 1)) (C := RX3) (T := TX3) (N := 18) hx hb hts hi3 hown hK hP 0 (wl_at (by omega)) rfl 11 (by decide) (hts (.fieldLink RX3 52 "BigLedgerModel" "up" "Z") (by decide +kernel)) (fun _ h9 => h9) rfl dX3_commit_6 ?_
  refine lv_if_ne (tgt := 15) hx hb dX3_commit_9 (by decide) (fun c0 => ?_) (fun c0 => ?_)
  · refine lv_aload_n hx hb dX3_commit_15 rfl (lv_at hl 0 rfl) ?_
    refine vp_callSi (W.runV (As := []) (rest := []) ⟨hx, hb, hml, hown, hts⟩ (m_touches l D g cI cZ cB acc lm rm N am T wk ou (va_up y 0 0) hok hacc) (cwV 0 hts gX3_commit_X3_touches rfl rfl rfl (by decide +kernel) ⟨Nat.le_of_ble_eq_true rfl, Nat.le_of_ble_eq_true rfl⟩) ⟨nPc_blind, va_recv hK hP (ci := 3) (q0 := 0) rfl (wl_at (by omega)), nPc_use (hP) hK⟩ rfl rfl hl.1 rfl (lv_room (Nat.le_of_ble_eq_true rfl)) dX3_commit_16 ⟨Nat.le_of_ble_eq_true rfl, Nat.le_of_ble_eq_true rfl⟩) (fun rt hrt => ?_)
    subst hrt
    have hc9 := fb_ct_le (T 0) 25
    refine lv_if_ne (tgt := 24) hx hb dX3_commit_19 (by decide) (fun c1 => ?_) (fun c1 => ?_)
    · replace c1 : ¬ fb_ct (T 0) 25 = 0 := fun q => c1 ((nI_eq0 (by omega)).mpr q)
      have eC : mCommit (N, am, T, y) = if (mCom1 (setY (N, am, T, y) 0 0)).1 = 0 then (6, (mCom1 (setY (N, am, T, y) 0 0)).2) else (0, (mCom1 (setY (N, am, T, y) 0 0)).2) := (if_neg c0).trans (if_neg c1)
      refine lv_iconst (v := 0) hx hb dX3_commit_24 (by decide) ?_
      refine lv_istore_n (lv' := [(1, .int ((0 : Int32))), (0, .ref (g 0))]) hx hb dX3_commit_25 rfl hl (by decide) rfl (fun ls hl => ?_)
      have lpo : ∀ (nlpo i : Nat) (S : MS) (H : Heap) (locs : List Loc) (ls : Array Slot), i + nlpo = 25 → cLp nlpo i S = cLp 25 0 (setT (setY (N, am, T, y) 0 0) 1 (fun _ => false)) → va_P D vwCl (rW g cI cZ cB acc lm rm (mF S.1 S.2.1 S.2.2.1 wk ou) S.2.2.2) H → va_S (mA g) s.heap H locs → lv_has ls 3 [(1, .int (nI i)), (0, .ref (g 0))] → W p l e (headSpec wsX3_commit ({ frames := 5, cells := 0, slots := 0, locals := 103 })).room s m ([.ref (g 0)]).toArray below meth c H locs 0 0 (MQ below (va_Qi (fun (r : Int32) (u : MS) => (r, u) = mCommit (N, am, T, y)) (fun u t => va_P D vwCl (rW g cI cZ cB acc lm rm (mF u.1 u.2.1 u.2.2.1 wk ou) u.2.2.2) t.heap) (mA g)) ([.ref (g 0)]).toArray s 0 0 (mA g)) (F0 m 47 ls []) := by
        intro nlpo
        induction nlpo with
        | zero =>
          intro i S H locs ls hinlpo heq hP hS hl
          have hD : va_D (mA g) (rW g cI cZ cB acc lm rm (mF S.1 S.2.1 S.2.2.1 wk ou) S.2.2.2) := mlD hok
          refine lv_iload_n hx hb dX3_commit_47 rfl (lv_at hl 0 rfl) ?_
          refine lv_bipush (v := 25) hx hb dX3_commit_48 (by decide) ?_
          refine lv_icmp_ge (tgt := 124) hx hb dX3_commit_50 (by decide) (fun _ => ?_) (fun c9 => absurd (nI_le (a := 25) (by omega) (by omega)) c9)
          refine lv_aload_n hx hb dX3_commit_124 rfl (lv_at hl 1 rfl) ?_
          have e3 : mCom1 (setY (N, am, T, y) 0 0) = andM mWr (fun S => andM mGo (fun S => (1, setT S 0 (fun _ => false))) (setY S 3 1)) S := by
            rw [mCom1, andM, ← heq]
            exact if_neg i_1ne0
          refine va_calli (va_runV (As := []) (rest := []) ⟨hx, hb, hml, hown, hts⟩ (m_writes l D g cI cZ cB acc lm rm S.1 S.2.1 S.2.2.1 wk ou S.2.2.2 hok hacc) (cwV 0 hts gX3_commit_X3_writes rfl rfl rfl (by decide +kernel) ⟨Nat.le_of_ble_eq_true rfl, Nat.le_of_ble_eq_true rfl⟩) ⟨nPc_blind, va_recv hK hP (ci := 3) (q0 := 0) rfl (wl_at (by omega)), nPc_use (hP) hK⟩ rfl rfl hl.1 rfl (lv_room (Nat.le_of_ble_eq_true rfl)) dX3_commit_125 ⟨Nat.le_of_ble_eq_true rfl, Nat.le_of_ble_eq_true rfl⟩) hS (fun q _ h => (fun _ h => h) q h) (fun _ h => h) (fun rr4 u4 t H1 locs ht hvm hw4 hB hz1 hk9 hS => ?_)
          generalize H1 = H at ht hz1 hk9 hS ⊢
          have hP : va_P D vwCl (rW g cI cZ cB acc lm rm (mF u4.1 u4.2.1 u4.2.2.1 wk ou) u4.2.2.2) H := pB_at ht hB
          have hD : va_D (mA g) (rW g cI cZ cB acc lm rm (mF u4.1 u4.2.1 u4.2.2.1 wk ou) u4.2.2.2) := mlD hok
          replace hw4 : (rr4, u4) = mWr (S) := hw4
          refine lv_if_ne (tgt := 134) hx hb dX3_commit_128 (by decide) (fun c4 => ?_) (fun c4 => ?_)
          · refine lv_aload_n hx hb dX3_commit_134 rfl (lv_at hl 1 rfl) ?_
            refine lv_iconst (v := 1) hx hb dX3_commit_135 (by decide) ?_
            refine va_put (D := D) (ci := 3) (v := .int ((1 : Int32))) (ty := .boolean) (C := RX3) (T := TX3) (N := 18) hx hb hts hi3 tyX3 tyX3_ok nmX3 hown hK hP hD hS 0 (wl_at (by omega)) rfl 13 (by decide) (hts (.fieldLink RX3 68 "BigLedgerModel" "committed" "Z") (by decide +kernel)) (fun _ h9 => h9) rfl (by decide +kernel) (rfl) (rfl) (Nat.le_of_ble_eq_true rfl) dX3_commit_136 (fun H locs hP hD hS => ?_)
            have hP : va_P D vwCl (rW g cI cZ cB acc lm rm (mF u4.1 u4.2.1 u4.2.2.1 wk ou) (va_up u4.2.2.2 3 (1 : Int32))) H := cv (ms_f 3 (1 : Int32) (by decide)) hP
            have hD : va_D (mA g) (rW g cI cZ cB acc lm rm (mF u4.1 u4.2.1 u4.2.2.1 wk ou) (va_up u4.2.2.2 3 (1 : Int32))) := mlD hok
            refine lv_aload_n hx hb dX3_commit_139 rfl (lv_at hl 1 rfl) ?_
            refine va_calli (va_runV (As := []) (rest := []) ⟨hx, hb, hml, hown, hts⟩ (m_goHome l D g cI cZ cB acc lm rm u4.1 u4.2.1 u4.2.2.1 wk ou (va_up u4.2.2.2 3 1) hok hacc) (cwV 0 hts gX3_commit_X3_goHome rfl rfl rfl (by decide +kernel) ⟨Nat.le_of_ble_eq_true rfl, Nat.le_of_ble_eq_true rfl⟩) ⟨nPc_blind, va_recv hK hP (ci := 3) (q0 := 0) rfl (wl_at (by omega)), nPc_use (hP) hK⟩ rfl rfl hl.1 rfl (lv_room (Nat.le_of_ble_eq_true rfl)) dX3_commit_140 ⟨Nat.le_of_ble_eq_true rfl, Nat.le_of_ble_eq_true rfl⟩) hS (fun q _ h => (fun _ h => h) q h) (fun _ h => h) (fun rr5 u5 t H1 locs ht hvm hw5 hB hz1 hk9 hS => ?_)
            generalize H1 = H at ht hz1 hk9 hS ⊢
            have hP : va_P D vwCl (rW g cI cZ cB acc lm rm (mF u5.1 u5.2.1 u5.2.2.1 wk ou) u5.2.2.2) H := pB_at ht hB
            have hD : va_D (mA g) (rW g cI cZ cB acc lm rm (mF u5.1 u5.2.1 u5.2.2.1 wk ou) u5.2.2.2) := mlD hok
            replace hw5 : (rr5, u5) = mGo (setY u4 3 1) := hw5
            have e4 : mCom1 (setY (N, am, T, y) 0 0) = andM mGo (fun S => (1, setT S 0 (fun _ => false))) (setY u4 3 1) := by rw [e3, andM, ← hw4]; exact if_neg c4
            refine lv_if_ne (tgt := 149) hx hb dX3_commit_143 (by decide) (fun c5 => ?_) (fun c5 => ?_)
            · have e6 : mCom1 (setY (N, am, T, y) 0 0) = (1, setT u5 0 (fun _ => false)) := by rw [e4, andM, ← hw5]; exact if_neg c5
              refine lv_iconst (v := 0) hx hb dX3_commit_149 (by decide) ?_
              refine lv_istore_n (lv' := [(1, .int ((0 : Int32))), (0, .ref (g 0))]) hx hb dX3_commit_150 rfl hl (by decide) rfl (fun ls hl => ?_)
              have lpC : ∀ (nlpC i : Nat) (H : Heap) (locs : List Loc) (ls : Array Slot), i + nlpC = 25 → va_P D vwCl (rW g cI cZ cB acc lm rm (va_up (mF u5.1 u5.2.1 u5.2.2.1 wk ou) 6 (fl (tb (fun _ => false)) (tb (u5.2.2.1 0)) i)) u5.2.2.2) H → va_S (mA g) s.heap H locs → lv_has ls 3 [(1, .int (nI i)), (0, .ref (g 0))] → W p l e (headSpec wsX3_commit ({ frames := 5, cells := 0, slots := 0, locals := 103 })).room s m ([.ref (g 0)]).toArray below meth c H locs 0 0 (MQ below (va_Qi (fun (r : Int32) (u : MS) => (r, u) = mCommit (N, am, T, y)) (fun u t => va_P D vwCl (rW g cI cZ cB acc lm rm (mF u.1 u.2.1 u.2.2.1 wk ou) u.2.2.2) t.heap) (mA g)) ([.ref (g 0)]).toArray s 0 0 (mA g)) (F0 m 151 ls []) := by
                intro nlpC
                induction nlpC with
                | zero =>
                  intro i H locs ls hinlpC hP hS hl
                  have hD : va_D (mA g) (rW g cI cZ cB acc lm rm (va_up (mF u5.1 u5.2.1 u5.2.2.1 wk ou) 6 (fl (tb (fun _ => false)) (tb (u5.2.2.1 0)) i)) u5.2.2.2) := mlD hok
                  refine lv_iload_n hx hb dX3_commit_151 rfl (lv_at hl 0 rfl) ?_
                  refine lv_bipush (v := 25) hx hb dX3_commit_152 (by decide) ?_
                  refine lv_icmp_ge (tgt := 170) hx hb dX3_commit_154 (by decide) (fun _ => ?_) (fun c9 => absurd (nI_le (a := 25) (by omega) (by omega)) c9)
                  have hP : va_P D vwCl (rW g cI cZ cB acc lm rm (mF u5.1 u5.2.1 (va_up u5.2.2.1 0 (fun _ => false)) wk ou) u5.2.2.2) H := rW_congr hP (fun q9 h1 h2 j hj => by
                    match q9 with
                    | 1 => rfl
                    | 2 => rfl
                    | 3 => rfl
                    | 4 => rfl
                    | 5 => rfl
                    | 6 =>
                      exact fl_lo (by have : j < 25 := hj; omega)
                    | 7 => rfl
                    | 8 => rfl
                    | 0 => omega
                    | q9 + 9 => omega)
                  have hD : va_D (mA g) (rW g cI cZ cB acc lm rm (mF u5.1 u5.2.1 (va_up u5.2.2.1 0 (fun _ => false)) wk ou) u5.2.2.2) := mlD hok
                  refine lv_iconst (v := 0) hx hb dX3_commit_170 (by decide) ?_
                  exact W.iret (v := 0) hx hb hr (fun t ht hW => ⟨⟨_, setT u5 0 (fun _ => false), rfl, by rw [eC, e6]; exact (if_neg i_1ne0).symm, hp_at ht hP⟩, hS.F ht⟩) hS.2.2 dX3_commit_171
                | succ nlpC ihlpC =>
                  intro i H locs ls hinlpC hP hS hl
                  have hD : va_D (mA g) (rW g cI cZ cB acc lm rm (va_up (mF u5.1 u5.2.1 u5.2.2.1 wk ou) 6 (fl (tb (fun _ => false)) (tb (u5.2.2.1 0)) i)) u5.2.2.2) := mlD hok
                  have hiwlpC : i < 25 := by omega
                  refine lv_iload_n hx hb dX3_commit_151 rfl (lv_at hl 0 rfl) ?_
                  refine lv_bipush (v := 25) hx hb dX3_commit_152 (by decide) ?_
                  refine lv_icmp_ge (tgt := 170) hx hb dX3_commit_154 (by decide) (fun c9 => absurd c9 (nI_ge (b := 25) hiwlpC (by omega))) (fun _ => ?_)
                  refine lv_aload_n hx hb dX3_commit_157 rfl (lv_at hl 1 rfl) ?_
                  refine va_get (D := D) (ci := 3) (v := .ref (g 6)) (C := RX3) (T := TX3) (N := 18) hx hb hts hi3 hown hK hP 0 (wl_at (by omega)) rfl 9 (by decide) (hts (.fieldLink RX3 29 "BigLedgerModel" "touched" "[Z") (by decide +kernel)) (fun _ h9 => h9) rfl dX3_commit_158 ?_
                  refine lv_iload_n hx hb dX3_commit_161 rfl (lv_at hl 0 rfl) ?_
                  refine lv_iconst (v := 0) hx hb dX3_commit_162 (by decide) ?_
                  refine va_zast hx hb hK hP hD hS 6 1 (wl_at (by omega)) rfl (vp_in_nI (by omega) (by omega)) dX3_commit_163 (fun H locs hP hD hS => ?_)
                  have hP : va_P D vwCl (rW g cI cZ cB acc lm rm (va_up (va_up (mF u5.1 u5.2.1 u5.2.2.1 wk ou) 6 (fl (tb (fun _ => false)) (tb (u5.2.2.1 0)) i)) 6 (upd ((va_up (mF u5.1 u5.2.1 u5.2.2.1 wk ou) 6 (fl (tb (fun _ => false)) (tb (u5.2.2.1 0)) i)) 6) (nI i).toNatClampNeg (vp_nar .boolean ((0 : Int32))))) u5.2.2.2) H := cv (ms_a6 (upd ((va_up (mF u5.1 u5.2.1 u5.2.2.1 wk ou) 6 (fl (tb (fun _ => false)) (tb (u5.2.2.1 0)) i)) 6) (nI i).toNatClampNeg (vp_nar .boolean ((0 : Int32))))) hP
                  have hD : va_D (mA g) (rW g cI cZ cB acc lm rm (va_up (va_up (mF u5.1 u5.2.1 u5.2.2.1 wk ou) 6 (fl (tb (fun _ => false)) (tb (u5.2.2.1 0)) i)) 6 (upd ((va_up (mF u5.1 u5.2.1 u5.2.2.1 wk ou) 6 (fl (tb (fun _ => false)) (tb (u5.2.2.1 0)) i)) 6) (nI i).toNatClampNeg (vp_nar .boolean ((0 : Int32))))) u5.2.2.2) := mlD hok
                  have hP : va_P D vwCl (rW g cI cZ cB acc lm rm (va_up (mF u5.1 u5.2.1 u5.2.2.1 wk ou) 6 (fl (tb (fun _ => false)) (tb (u5.2.2.1 0)) (i + 1))) u5.2.2.2) H := rW_congr hP (fun q9 h1 h2 j hj => by
                    match q9 with
                    | 1 => rfl
                    | 2 => rfl
                    | 3 => rfl
                    | 4 => rfl
                    | 5 => rfl
                    | 6 =>
                      show upd (fl (tb (fun _ => false)) (tb (u5.2.2.1 0)) i) (nI i).toNatClampNeg (vp_nar .boolean 0) j = fl (tb (fun _ => false)) (tb (u5.2.2.1 0)) (i + 1) j
                      rw [nI_clamp (by omega), fl_s (show vp_nar .boolean 0 = tb (fun _ => false) i from rfl)]
                    | 7 => rfl
                    | 8 => rfl
                    | 0 => omega
                    | q9 + 9 => omega)
                  have hD : va_D (mA g) (rW g cI cZ cB acc lm rm (va_up (mF u5.1 u5.2.1 u5.2.2.1 wk ou) 6 (fl (tb (fun _ => false)) (tb (u5.2.2.1 0)) (i + 1))) u5.2.2.2) := mlD hok
                  refine lv_iinc (v := nI (i + 1)) (lv' := [(1, .int (nI (i + 1))), (0, .ref (g 0))]) hx hb dX3_commit_164 hl (k := 0) rfl (nI_1 i) (by decide) rfl (fun ls hl => ?_)
                  refine lv_goto (tgt := 151) hx hb dX3_commit_167 (by decide) ?_
                  exact ihlpC (i + 1) H locs ls (by omega) hP hS hl
              have hP : va_P D vwCl (rW g cI cZ cB acc lm rm (va_up (mF u5.1 u5.2.1 u5.2.2.1 wk ou) 6 (fl (tb (fun _ => false)) (tb (u5.2.2.1 0)) 0)) u5.2.2.2) H := rW_congr hP (fun q9 h1 h2 j hj => by
                match q9 with
                | 1 => rfl
                | 2 => rfl
                | 3 => rfl
                | 4 => rfl
                | 5 => rfl
                | 6 =>
                  exact (congrFun (fl_0 (tb (fun _ => false)) (tb (u5.2.2.1 0))) j).symm
                | 7 => rfl
                | 8 => rfl
                | 0 => omega
                | q9 + 9 => omega)
              have hD : va_D (mA g) (rW g cI cZ cB acc lm rm (va_up (mF u5.1 u5.2.1 u5.2.2.1 wk ou) 6 (fl (tb (fun _ => false)) (tb (u5.2.2.1 0)) 0)) u5.2.2.2) := mlD hok
              exact lpC 25 0 H locs ls rfl hP hS (lv_sub hl [0, 1] rfl)
            · have e5 : mCom1 (setY (N, am, T, y) 0 0) = (0, u5) := by rw [e4, andM, ← hw5]; exact if_pos c5
              refine lv_bipush (v := 6) hx hb dX3_commit_146 (by decide) ?_
              exact W.iret (v := 6) hx hb hr (fun t ht hW => ⟨⟨_, u5, rfl, by rw [eC, e5]; exact (if_pos rfl).symm, hp_at ht hP⟩, hS.F ht⟩) hS.2.2 dX3_commit_148
          · have e5 : mCom1 (setY (N, am, T, y) 0 0) = (0, u4) := by rw [e3, andM, ← hw4]; exact if_pos c4
            refine lv_bipush (v := 6) hx hb dX3_commit_131 (by decide) ?_
            exact W.iret (v := 6) hx hb hr (fun t ht hW => ⟨⟨_, u4, rfl, by rw [eC, e5]; exact (if_pos rfl).symm, hp_at ht hP⟩, hS.F ht⟩) hS.2.2 dX3_commit_133
        | succ nlpo ihlpo =>
          intro i S H locs ls hinlpo heq hP hS hl
          have hD : va_D (mA g) (rW g cI cZ cB acc lm rm (mF S.1 S.2.1 S.2.2.1 wk ou) S.2.2.2) := mlD hok
          have hiwlpo : i < 25 := by omega
          refine lv_iload_n hx hb dX3_commit_47 rfl (lv_at hl 0 rfl) ?_
          refine lv_bipush (v := 25) hx hb dX3_commit_48 (by decide) ?_
          refine lv_icmp_ge (tgt := 124) hx hb dX3_commit_50 (by decide) (fun c9 => absurd c9 (nI_ge (b := 25) hiwlpo (by omega))) (fun _ => ?_)
          refine lv_aload_n hx hb dX3_commit_53 rfl (lv_at hl 1 rfl) ?_
          refine va_get (D := D) (ci := 3) (v := .ref (g 6)) (C := RX3) (T := TX3) (N := 18) hx hb hts hi3 hown hK hP 0 (wl_at (by omega)) rfl 9 (by decide) (hts (.fieldLink RX3 29 "BigLedgerModel" "touched" "[Z") (by decide +kernel)) (fun _ h9 => h9) rfl dX3_commit_54 ?_
          refine lv_iload_n hx hb dX3_commit_57 rfl (lv_at hl 0 rfl) ?_
          refine va_zald hx hb hK hP 6 1 (wl_at (by omega)) rfl (vp_in_nI (by omega) (by omega)) dX3_commit_58 ?_
          refine lv_topi (fun y43 ey43 => ?_)
          replace ey43 : y43 = tb (S.2.2.1 0) i := ey43.trans (by rw [nI_clamp (by omega)]; rfl)
          subst ey43
          refine lv_if_ne (tgt := 65) hx hb dX3_commit_59 (by decide) (fun c2 => ?_) (fun c2 => ?_)
          · replace c2 : S.2.2.1 0 i = true := tb_ne0.mp c2
            rw [cLp, if_pos c2] at heq
            refine lv_aload_n hx hb dX3_commit_65 rfl (lv_at hl 1 rfl) ?_
            refine va_calli (va_runV (As := []) (rest := []) ⟨hx, hb, hml, hown, hts⟩ (m_writes l D g cI cZ cB acc lm rm S.1 S.2.1 S.2.2.1 wk ou S.2.2.2 hok hacc) (cwV 0 hts gX3_commit_X3_writes rfl rfl rfl (by decide +kernel) ⟨Nat.le_of_ble_eq_true rfl, Nat.le_of_ble_eq_true rfl⟩) ⟨nPc_blind, va_recv hK hP (ci := 3) (q0 := 0) rfl (wl_at (by omega)), nPc_use (hP) hK⟩ rfl rfl hl.1 rfl (lv_room (Nat.le_of_ble_eq_true rfl)) dX3_commit_66 ⟨Nat.le_of_ble_eq_true rfl, Nat.le_of_ble_eq_true rfl⟩) hS (fun q _ h => (fun _ h => h) q h) (fun _ h => h) (fun rr1 u1 t H1 locs ht hvm hw1 hB hz1 hk9 hS => ?_)
            generalize H1 = H at ht hz1 hk9 hS ⊢
            have hP : va_P D vwCl (rW g cI cZ cB acc lm rm (mF u1.1 u1.2.1 u1.2.2.1 wk ou) u1.2.2.2) H := pB_at ht hB
            have hD : va_D (mA g) (rW g cI cZ cB acc lm rm (mF u1.1 u1.2.1 u1.2.2.1 wk ou) u1.2.2.2) := mlD hok
            replace hw1 : (rr1, u1) = mWr (S) := hw1
            rw [← hw1] at heq
            refine lv_if_ne (tgt := 75) hx hb dX3_commit_69 (by decide) (fun c3 => ?_) (fun c3 => ?_)
            · rw [if_neg c3] at heq
              refine lv_aload_n hx hb dX3_commit_75 rfl (lv_at hl 1 rfl) ?_
              refine va_get (D := D) (ci := 3) (v := .ref (g 7)) (C := RX3) (T := TX3) (N := 18) hx hb hts hi3 hown hK hP 0 (wl_at (by omega)) rfl 10 (by decide) (hts (.fieldLink RX3 33 "BigLedgerModel" "logged" "[Z") (by decide +kernel)) (fun _ h9 => h9) rfl dX3_commit_76 ?_
              refine lv_iload_n hx hb dX3_commit_79 rfl (lv_at hl 0 rfl) ?_
              refine lv_iconst (v := 1) hx hb dX3_commit_80 (by decide) ?_
              refine va_zast hx hb hK hP hD hS 7 1 (wl_at (by omega)) rfl (vp_in_nI (by omega) (by omega)) dX3_commit_81 (fun H locs hP hD hS => ?_)
              have hP : va_P D vwCl (rW g cI cZ cB acc lm rm (va_up (mF u1.1 u1.2.1 u1.2.2.1 wk ou) 7 (upd ((mF u1.1 u1.2.1 u1.2.2.1 wk ou) 7) (nI i).toNatClampNeg (vp_nar .boolean ((1 : Int32))))) u1.2.2.2) H := cv (ms_a7 (upd ((mF u1.1 u1.2.1 u1.2.2.1 wk ou) 7) (nI i).toNatClampNeg (vp_nar .boolean ((1 : Int32))))) hP
              have hD : va_D (mA g) (rW g cI cZ cB acc lm rm (va_up (mF u1.1 u1.2.1 u1.2.2.1 wk ou) 7 (upd ((mF u1.1 u1.2.1 u1.2.2.1 wk ou) 7) (nI i).toNatClampNeg (vp_nar .boolean ((1 : Int32))))) u1.2.2.2) := mlD hok
              have hP : va_P D vwCl (rW g cI cZ cB acc lm rm (mF u1.1 u1.2.1 (va_up u1.2.2.1 1 (va_up (u1.2.2.1 1) i true)) wk ou) u1.2.2.2) H := rW_congr hP (fun q9 h1 h2 j hj => by
                match q9 with
                | 1 => rfl
                | 2 => rfl
                | 3 => rfl
                | 4 => rfl
                | 5 => rfl
                | 6 => rfl
                | 7 =>
                  show upd (tb (u1.2.2.1 1)) (nI i).toNatClampNeg (vp_nar .boolean 1) j = tb (va_up (u1.2.2.1 1) i true) j
                  rw [nI_clamp (by omega), tb_up (v := vp_nar .boolean 1) (u1.2.2.1 1) i true rfl]
                | 8 => rfl
                | 0 => omega
                | q9 + 9 => omega)
              have hD : va_D (mA g) (rW g cI cZ cB acc lm rm (mF u1.1 u1.2.1 (va_up u1.2.2.1 1 (va_up (u1.2.2.1 1) i true)) wk ou) u1.2.2.2) := mlD hok
              refine lv_iconst (v := 0) hx hb dX3_commit_82 (by decide) ?_
              refine lv_istore_n (lv' := [(2, .int ((0 : Int32))), (1, .int (nI i)), (0, .ref (g 0))]) hx hb dX3_commit_83 rfl hl (by decide) rfl (fun ls hl => ?_)
              have lpi : ∀ (nlpi k : Nat) (H : Heap) (locs : List Loc) (ls : Array Slot), k + nlpi = 22 → va_P D vwCl (rW g cI cZ cB acc lm rm (va_up (mF u1.1 u1.2.1 (va_up u1.2.2.1 1 (va_up (u1.2.2.1 1) i true)) wk ou) 3 (pr (u1.1 2) i (u1.1 0 i) k)) u1.2.2.2) H → va_S (mA g) s.heap H locs → lv_has ls 3 [(2, .int (nI k)), (1, .int (nI i)), (0, .ref (g 0))] → W p l e (headSpec wsX3_commit ({ frames := 5, cells := 0, slots := 0, locals := 103 })).room s m ([.ref (g 0)]).toArray below meth c H locs 0 0 (MQ below (va_Qi (fun (r : Int32) (u : MS) => (r, u) = mCommit (N, am, T, y)) (fun u t => va_P D vwCl (rW g cI cZ cB acc lm rm (mF u.1 u.2.1 u.2.2.1 wk ou) u.2.2.2) t.heap) (mA g)) ([.ref (g 0)]).toArray s 0 0 (mA g)) (F0 m 84 ls []) := by
                intro nlpi
                induction nlpi with
                | zero =>
                  intro k H locs ls hinlpi hP hS hl
                  have hD : va_D (mA g) (rW g cI cZ cB acc lm rm (va_up (mF u1.1 u1.2.1 (va_up u1.2.2.1 1 (va_up (u1.2.2.1 1) i true)) wk ou) 3 (pr (u1.1 2) i (u1.1 0 i) k)) u1.2.2.2) := mlD hok
                  refine lv_iload_n hx hb dX3_commit_84 rfl (lv_at hl 0 rfl) ?_
                  refine lv_bipush (v := 22) hx hb dX3_commit_85 (by decide) ?_
                  refine lv_icmp_ge (tgt := 118) hx hb dX3_commit_87 (by decide) (fun _ => ?_) (fun c9 => absurd (nI_le (a := 22) (by omega) (by omega)) c9)
                  have e9 : k = 22 := by omega
                  subst e9
                  have hP : va_P D vwCl (rW g cI cZ cB acc lm rm (mF (lgN u1 i).1 (lgN u1 i).2.1 (lgN u1 i).2.2.1 wk ou) u1.2.2.2) H := rW_congr hP (fun q9 h1 h2 j hj => by
                    match q9 with
                    | 1 => rfl
                    | 2 => rfl
                    | 3 =>
                      exact congrFun (pr_end (u1.1 2) i (u1.1 0 i)) j
                    | 4 => rfl
                    | 5 => rfl
                    | 6 => rfl
                    | 7 => rfl
                    | 8 => rfl
                    | 0 => omega
                    | q9 + 9 => omega)
                  have hD : va_D (mA g) (rW g cI cZ cB acc lm rm (mF (lgN u1 i).1 (lgN u1 i).2.1 (lgN u1 i).2.2.1 wk ou) u1.2.2.2) := mlD hok
                  refine lv_iinc (v := nI (i + 1)) (lv' := [(1, .int (nI (i + 1))), (2, .int (nI 22)), (0, .ref (g 0))]) hx hb dX3_commit_118 hl (k := 1) rfl (nI_1 i) (by decide) rfl (fun ls hl => ?_)
                  refine lv_goto (tgt := 47) hx hb dX3_commit_121 (by decide) ?_
                  exact ihlpo (i + 1) (lgN u1 i) H locs ls (by omega) heq hP hS (lv_sub hl [0, 2] rfl)
                | succ nlpi ihlpi =>
                  intro k H locs ls hinlpi hP hS hl
                  have hD : va_D (mA g) (rW g cI cZ cB acc lm rm (va_up (mF u1.1 u1.2.1 (va_up u1.2.2.1 1 (va_up (u1.2.2.1 1) i true)) wk ou) 3 (pr (u1.1 2) i (u1.1 0 i) k)) u1.2.2.2) := mlD hok
                  have hiwlpi : k < 22 := by omega
                  refine lv_iload_n hx hb dX3_commit_84 rfl (lv_at hl 0 rfl) ?_
                  refine lv_bipush (v := 22) hx hb dX3_commit_85 (by decide) ?_
                  refine lv_icmp_ge (tgt := 118) hx hb dX3_commit_87 (by decide) (fun c9 => absurd c9 (nI_ge (b := 22) hiwlpi (by omega))) (fun _ => ?_)
                  refine lv_aload_n hx hb dX3_commit_90 rfl (lv_at hl 2 rfl) ?_
                  refine va_get (D := D) (ci := 3) (v := .ref (g 3)) (C := RX3) (T := TX3) (N := 18) hx hb hts hi3 hown hK hP 0 (wl_at (by omega)) rfl 6 (by decide) (hts (.fieldLink RX3 20 "BigLedgerModel" "log" "[I") (by decide +kernel)) (fun _ h9 => h9) rfl dX3_commit_91 ?_
                  refine lv_bipush (v := 22) hx hb dX3_commit_94 (by decide) ?_
                  refine lv_iload_n hx hb dX3_commit_96 rfl (lv_at hl 1 rfl) ?_
                  refine lv_imul hx hb dX3_commit_97 ?_
                  refine lv_topi (fun y44 ey44 => ?_)
                  replace ey44 : y44 = nI (22 * i) := ey44.trans (pk_mul 22 i)
                  subst ey44
                  refine lv_iload_n hx hb dX3_commit_98 rfl (lv_at hl 0 rfl) ?_
                  refine lv_iadd hx hb dX3_commit_99 ?_
                  refine lv_topi (fun y45 ey45 => ?_)
                  replace ey45 : y45 = nI (22 * i + k) := ey45.trans (nI_add _ _)
                  subst ey45
                  refine lv_aload_n hx hb dX3_commit_100 rfl (lv_at hl 2 rfl) ?_
                  refine va_get (D := D) (ci := 3) (v := .ref (g 1)) (C := RX3) (T := TX3) (N := 18) hx hb hts hi3 hown hK hP 0 (wl_at (by omega)) rfl 4 (by decide) (hts (.fieldLink RX3 13 "BigLedgerModel" "now" "[I") (by decide +kernel)) (fun _ h9 => h9) rfl dX3_commit_101 ?_
                  refine lv_bipush (v := 22) hx hb dX3_commit_104 (by decide) ?_
                  refine lv_iload_n hx hb dX3_commit_106 rfl (lv_at hl 1 rfl) ?_
                  refine lv_imul hx hb dX3_commit_107 ?_
                  refine lv_topi (fun y46 ey46 => ?_)
                  replace ey46 : y46 = nI (22 * i) := ey46.trans (pk_mul 22 i)
                  subst ey46
                  refine lv_iload_n hx hb dX3_commit_108 rfl (lv_at hl 0 rfl) ?_
                  refine lv_iadd hx hb dX3_commit_109 ?_
                  refine lv_topi (fun y47 ey47 => ?_)
                  replace ey47 : y47 = nI (22 * i + k) := ey47.trans (nI_add _ _)
                  subst ey47
                  refine va_iald hx hb hK hP 1 0 (wl_at (by omega)) rfl (vp_in_nI (by omega) (by omega)) dX3_commit_110 ?_
                  refine lv_topi (fun y48 ey48 => ?_)
                  replace ey48 : y48 = lb (u1.1 0 i) k := ey48.trans (by rw [nI_clamp (by omega)]; exact rowF_at (u1.1 0) hiwlpi)
                  subst ey48
                  refine va_iast hx hb hK hP hD hS 3 0 (wl_at (by omega)) rfl (vp_in_nI (by omega) (by omega)) dX3_commit_111 (fun H locs hP hD hS => ?_)
                  have hP : va_P D vwCl (rW g cI cZ cB acc lm rm (va_up (va_up (mF u1.1 u1.2.1 (va_up u1.2.2.1 1 (va_up (u1.2.2.1 1) i true)) wk ou) 3 (pr (u1.1 2) i (u1.1 0 i) k)) 3 (upd ((va_up (mF u1.1 u1.2.1 (va_up u1.2.2.1 1 (va_up (u1.2.2.1 1) i true)) wk ou) 3 (pr (u1.1 2) i (u1.1 0 i) k)) 3) (nI (22 * i + k)).toNatClampNeg (lb (u1.1 0 i) k))) u1.2.2.2) H := cv (ms_a3 (upd ((va_up (mF u1.1 u1.2.1 (va_up u1.2.2.1 1 (va_up (u1.2.2.1 1) i true)) wk ou) 3 (pr (u1.1 2) i (u1.1 0 i) k)) 3) (nI (22 * i + k)).toNatClampNeg (lb (u1.1 0 i) k))) hP
                  have hD : va_D (mA g) (rW g cI cZ cB acc lm rm (va_up (va_up (mF u1.1 u1.2.1 (va_up u1.2.2.1 1 (va_up (u1.2.2.1 1) i true)) wk ou) 3 (pr (u1.1 2) i (u1.1 0 i) k)) 3 (upd ((va_up (mF u1.1 u1.2.1 (va_up u1.2.2.1 1 (va_up (u1.2.2.1 1) i true)) wk ou) 3 (pr (u1.1 2) i (u1.1 0 i) k)) 3) (nI (22 * i + k)).toNatClampNeg (lb (u1.1 0 i) k))) u1.2.2.2) := mlD hok
                  have hP : va_P D vwCl (rW g cI cZ cB acc lm rm (va_up (mF u1.1 u1.2.1 (va_up u1.2.2.1 1 (va_up (u1.2.2.1 1) i true)) wk ou) 3 (pr (u1.1 2) i (u1.1 0 i) (k + 1))) u1.2.2.2) H := rW_congr hP (fun q9 h1 h2 j hj => by
                    match q9 with
                    | 1 => rfl
                    | 2 => rfl
                    | 3 =>
                      show upd (pr (u1.1 2) i (u1.1 0 i) k) (nI (22 * i + k)).toNatClampNeg (lb (u1.1 0 i) k) j = pr (u1.1 2) i (u1.1 0 i) (k + 1) j
                      rw [nI_clamp (by omega), pr_s rfl]
                    | 4 => rfl
                    | 5 => rfl
                    | 6 => rfl
                    | 7 => rfl
                    | 8 => rfl
                    | 0 => omega
                    | q9 + 9 => omega)
                  have hD : va_D (mA g) (rW g cI cZ cB acc lm rm (va_up (mF u1.1 u1.2.1 (va_up u1.2.2.1 1 (va_up (u1.2.2.1 1) i true)) wk ou) 3 (pr (u1.1 2) i (u1.1 0 i) (k + 1))) u1.2.2.2) := mlD hok
                  refine lv_iinc (v := nI (k + 1)) (lv' := [(2, .int (nI (k + 1))), (1, .int (nI i)), (0, .ref (g 0))]) hx hb dX3_commit_112 hl (k := 0) rfl (nI_1 k) (by decide) rfl (fun ls hl => ?_)
                  refine lv_goto (tgt := 84) hx hb dX3_commit_115 (by decide) ?_
                  exact ihlpi (k + 1) H locs ls (by omega) hP hS hl
              have hP : va_P D vwCl (rW g cI cZ cB acc lm rm (va_up (mF u1.1 u1.2.1 (va_up u1.2.2.1 1 (va_up (u1.2.2.1 1) i true)) wk ou) 3 (pr (u1.1 2) i (u1.1 0 i) 0)) u1.2.2.2) H := rW_congr hP (fun q9 h1 h2 j hj => by
                match q9 with
                | 1 => rfl
                | 2 => rfl
                | 3 =>
                  exact (congrFun (pr_0 (u1.1 2) i (u1.1 0 i)) j).symm
                | 4 => rfl
                | 5 => rfl
                | 6 => rfl
                | 7 => rfl
                | 8 => rfl
                | 0 => omega
                | q9 + 9 => omega)
              have hD : va_D (mA g) (rW g cI cZ cB acc lm rm (va_up (mF u1.1 u1.2.1 (va_up u1.2.2.1 1 (va_up (u1.2.2.1 1) i true)) wk ou) 3 (pr (u1.1 2) i (u1.1 0 i) 0)) u1.2.2.2) := mlD hok
              exact lpi 22 0 H locs ls rfl hP hS hl
            · have e5 : mCom1 (setY (N, am, T, y) 0 0) = (0, u1) := by rw [mCom1, andM, ← heq, if_pos c3]; exact if_pos rfl
              refine lv_bipush (v := 6) hx hb dX3_commit_72 (by decide) ?_
              exact W.iret (v := 6) hx hb hr (fun t ht hW => ⟨⟨_, u1, rfl, by rw [eC, e5]; exact (if_pos rfl).symm, hp_at ht hP⟩, hS.F ht⟩) hS.2.2 dX3_commit_74
          · replace c2 : ¬ S.2.2.1 0 i = true := tb_eq0.mp c2
            rw [cLp, if_neg c2] at heq
            refine lv_goto (tgt := 118) hx hb dX3_commit_62 (by decide) ?_
            refine lv_iinc (v := nI (i + 1)) (lv' := [(1, .int (nI (i + 1))), (0, .ref (g 0))]) hx hb dX3_commit_118 hl (k := 0) rfl (nI_1 i) (by decide) rfl (fun ls hl => ?_)
            refine lv_goto (tgt := 47) hx hb dX3_commit_121 (by decide) ?_
            exact ihlpo (i + 1) S H locs ls (by omega) heq hP hS hl
      have lpA : ∀ (nlpA i : Nat) (H : Heap) (locs : List Loc) (ls : Array Slot), i + nlpA = 25 → va_P D vwCl (rW g cI cZ cB acc lm rm (va_up (mF N am T wk ou) 7 (fl (tb (fun _ => false)) (tb (T 1)) i)) (va_up y 0 0)) H → va_S (mA g) s.heap H locs → lv_has ls 3 [(1, .int (nI i)), (0, .ref (g 0))] → W p l e (headSpec wsX3_commit ({ frames := 5, cells := 0, slots := 0, locals := 103 })).room s m ([.ref (g 0)]).toArray below meth c H locs 0 0 (MQ below (va_Qi (fun (r : Int32) (u : MS) => (r, u) = mCommit (N, am, T, y)) (fun u t => va_P D vwCl (rW g cI cZ cB acc lm rm (mF u.1 u.2.1 u.2.2.1 wk ou) u.2.2.2) t.heap) (mA g)) ([.ref (g 0)]).toArray s 0 0 (mA g)) (F0 m 26 ls []) := by
        intro nlpA
        induction nlpA with
        | zero =>
          intro i H locs ls hinlpA hP hS hl
          have hD : va_D (mA g) (rW g cI cZ cB acc lm rm (va_up (mF N am T wk ou) 7 (fl (tb (fun _ => false)) (tb (T 1)) i)) (va_up y 0 0)) := mlD hok
          refine lv_iload_n hx hb dX3_commit_26 rfl (lv_at hl 0 rfl) ?_
          refine lv_bipush (v := 25) hx hb dX3_commit_27 (by decide) ?_
          refine lv_icmp_ge (tgt := 45) hx hb dX3_commit_29 (by decide) (fun _ => ?_) (fun c9 => absurd (nI_le (a := 25) (by omega) (by omega)) c9)
          have hP : va_P D vwCl (rW g cI cZ cB acc lm rm (mF (setT (setY (N, am, T, y) 0 0) 1 (fun _ => false)).1 (setT (setY (N, am, T, y) 0 0) 1 (fun _ => false)).2.1 (setT (setY (N, am, T, y) 0 0) 1 (fun _ => false)).2.2.1 wk ou) (va_up y 0 0)) H := rW_congr hP (fun q9 h1 h2 j hj => by
            match q9 with
            | 1 => rfl
            | 2 => rfl
            | 3 => rfl
            | 4 => rfl
            | 5 => rfl
            | 6 => rfl
            | 7 =>
              exact fl_lo (by have : j < 25 := hj; omega)
            | 8 => rfl
            | 0 => omega
            | q9 + 9 => omega)
          have hD : va_D (mA g) (rW g cI cZ cB acc lm rm (mF (setT (setY (N, am, T, y) 0 0) 1 (fun _ => false)).1 (setT (setY (N, am, T, y) 0 0) 1 (fun _ => false)).2.1 (setT (setY (N, am, T, y) 0 0) 1 (fun _ => false)).2.2.1 wk ou) (va_up y 0 0)) := mlD hok
          refine lv_iconst (v := 0) hx hb dX3_commit_45 (by decide) ?_
          refine lv_istore_n (lv' := [(1, .int ((0 : Int32))), (0, .ref (g 0))]) hx hb dX3_commit_46 rfl hl (by decide) rfl (fun ls hl => ?_)
          exact lpo 25 0 (setT (setY (N, am, T, y) 0 0) 1 (fun _ => false)) H locs ls rfl rfl hP hS hl
        | succ nlpA ihlpA =>
          intro i H locs ls hinlpA hP hS hl
          have hD : va_D (mA g) (rW g cI cZ cB acc lm rm (va_up (mF N am T wk ou) 7 (fl (tb (fun _ => false)) (tb (T 1)) i)) (va_up y 0 0)) := mlD hok
          have hiwlpA : i < 25 := by omega
          refine lv_iload_n hx hb dX3_commit_26 rfl (lv_at hl 0 rfl) ?_
          refine lv_bipush (v := 25) hx hb dX3_commit_27 (by decide) ?_
          refine lv_icmp_ge (tgt := 45) hx hb dX3_commit_29 (by decide) (fun c9 => absurd c9 (nI_ge (b := 25) hiwlpA (by omega))) (fun _ => ?_)
          refine lv_aload_n hx hb dX3_commit_32 rfl (lv_at hl 1 rfl) ?_
          refine va_get (D := D) (ci := 3) (v := .ref (g 7)) (C := RX3) (T := TX3) (N := 18) hx hb hts hi3 hown hK hP 0 (wl_at (by omega)) rfl 10 (by decide) (hts (.fieldLink RX3 33 "BigLedgerModel" "logged" "[Z") (by decide +kernel)) (fun _ h9 => h9) rfl dX3_commit_33 ?_
          refine lv_iload_n hx hb dX3_commit_36 rfl (lv_at hl 0 rfl) ?_
          refine lv_iconst (v := 0) hx hb dX3_commit_37 (by decide) ?_
          refine va_zast hx hb hK hP hD hS 7 1 (wl_at (by omega)) rfl (vp_in_nI (by omega) (by omega)) dX3_commit_38 (fun H locs hP hD hS => ?_)
          have hP : va_P D vwCl (rW g cI cZ cB acc lm rm (va_up (va_up (mF N am T wk ou) 7 (fl (tb (fun _ => false)) (tb (T 1)) i)) 7 (upd ((va_up (mF N am T wk ou) 7 (fl (tb (fun _ => false)) (tb (T 1)) i)) 7) (nI i).toNatClampNeg (vp_nar .boolean ((0 : Int32))))) (va_up y 0 0)) H := cv (ms_a7 (upd ((va_up (mF N am T wk ou) 7 (fl (tb (fun _ => false)) (tb (T 1)) i)) 7) (nI i).toNatClampNeg (vp_nar .boolean ((0 : Int32))))) hP
          have hD : va_D (mA g) (rW g cI cZ cB acc lm rm (va_up (va_up (mF N am T wk ou) 7 (fl (tb (fun _ => false)) (tb (T 1)) i)) 7 (upd ((va_up (mF N am T wk ou) 7 (fl (tb (fun _ => false)) (tb (T 1)) i)) 7) (nI i).toNatClampNeg (vp_nar .boolean ((0 : Int32))))) (va_up y 0 0)) := mlD hok
          have hP : va_P D vwCl (rW g cI cZ cB acc lm rm (va_up (mF N am T wk ou) 7 (fl (tb (fun _ => false)) (tb (T 1)) (i + 1))) (va_up y 0 0)) H := rW_congr hP (fun q9 h1 h2 j hj => by
            match q9 with
            | 1 => rfl
            | 2 => rfl
            | 3 => rfl
            | 4 => rfl
            | 5 => rfl
            | 6 => rfl
            | 7 =>
              show upd (fl (tb (fun _ => false)) (tb (T 1)) i) (nI i).toNatClampNeg (vp_nar .boolean 0) j = fl (tb (fun _ => false)) (tb (T 1)) (i + 1) j
              rw [nI_clamp (by omega), fl_s (show vp_nar .boolean 0 = tb (fun _ => false) i from rfl)]
            | 8 => rfl
            | 0 => omega
            | q9 + 9 => omega)
          have hD : va_D (mA g) (rW g cI cZ cB acc lm rm (va_up (mF N am T wk ou) 7 (fl (tb (fun _ => false)) (tb (T 1)) (i + 1))) (va_up y 0 0)) := mlD hok
          refine lv_iinc (v := nI (i + 1)) (lv' := [(1, .int (nI (i + 1))), (0, .ref (g 0))]) hx hb dX3_commit_39 hl (k := 0) rfl (nI_1 i) (by decide) rfl (fun ls hl => ?_)
          refine lv_goto (tgt := 26) hx hb dX3_commit_42 (by decide) ?_
          exact ihlpA (i + 1) H locs ls (by omega) hP hS hl
      have hP : va_P D vwCl (rW g cI cZ cB acc lm rm (va_up (mF N am T wk ou) 7 (fl (tb (fun _ => false)) (tb (T 1)) 0)) (va_up y 0 (0 : Int32))) H := rW_congr hP (fun q9 h1 h2 j hj => by
        match q9 with
        | 1 => rfl
        | 2 => rfl
        | 3 => rfl
        | 4 => rfl
        | 5 => rfl
        | 6 => rfl
        | 7 =>
          exact (congrFun (fl_0 (tb (fun _ => false)) (tb (T 1))) j).symm
        | 8 => rfl
        | 0 => omega
        | q9 + 9 => omega)
      have hD : va_D (mA g) (rW g cI cZ cB acc lm rm (va_up (mF N am T wk ou) 7 (fl (tb (fun _ => false)) (tb (T 1)) 0)) (va_up y 0 (0 : Int32))) := mlD hok
      exact lpA 25 0 H locs ls rfl hP hS hl
    · refine lv_iconst (v := 0) hx hb dX3_commit_22 (by decide) ?_
      exact W.iret (v := 0) hx hb hr (fun t ht hW => ⟨⟨_, (setY (N, am, T, y) 0 0), rfl, by rw [mCommit]; exact ((if_neg c0).trans (if_pos ((nI_eq0 (by omega)).mp c1))).symm, hp_at ht hP⟩, hS.F ht⟩) hS.2.2 dX3_commit_23
  · refine lv_bipush (v := 6) hx hb dX3_commit_12 (by decide) ?_
    exact W.iret (v := 6) hx hb hr (fun t ht hW => ⟨⟨_, (setY (N, am, T, y) 0 0), rfl, by rw [mCommit]; exact (if_pos c0).symm, hp_at ht hP⟩, hS.F ht⟩) hS.2.2 dX3_commit_14
set_option maxHeartbeats 4000000 in
set_option maxRecDepth 100000 in
theorem m_chgA (l : Launch) (D : va_G) (g : Nat → Nat) (cI cZ cB : ClassId) (acc lm rm : Nat) (N : LN) (am : Nat) (T : BN) (wk ou y : Nat → Int32) (hok : mOk g) (hacc : acc ≤ 24) (a : Nat) (ha : a < 25) (hr0 : N 0 a + am < 2147483648 ^ 22) : Met l yX3_change wsX3_change ({ frames := 0, cells := 0, slots := 0, locals := 0 }) (nPc [.ref (g 0), .int (nI a), .int ((1 : Int32))] D (rW g cI cZ cB acc lm rm (mF N am T wk ou) y) [(cI, .int), (cZ, .boolean), (cB, .byte)]) (va_Qv (fun _ : Unit => True) (fun _ t => va_P D vwCl (rW g cI cZ cB acc lm rm (mF (va_up N 0 (va_up (N 0) a (N 0 a + am))) am T wk ou) (y)) t.heap) (mA g)) 0 0 (mA g) := by
  refine Met.ofW (cc := cX3_change) (maxL := 8) (ret := none) (by decide) rfl ?_
  intro p e s m args below meth c s₁ B hml hv
  obtain ⟨rfl, hP, hK⟩ := hv
  have hx := B.exec
  have hb := B.bytes
  have hr := B.returns
  have hts := atoms_spec (ws := wsX3_change) B.pre
  have hown : s.vm.findClass RX3 = some m.cls := findClass_of_methodNamed B.named
  have hlocks := B.notSynchronized
  have hi3 : ∀ w ∈ wsX30, w ∈ wsX3_change := by decide +kernel
  have hS : va_S (mA g) s.heap s.heap [] := va_S.rf
  have hD : va_D (mA g) (rW g cI cZ cB acc lm rm (mF N am T wk ou) y) := mlD hok
  have hl := lv_entry ([.ref (g 0), .int (nI a), .int ((1 : Int32))]) (n := 8) (Nat.le_of_ble_eq_true rfl)
  rw [lg_entry_eq]
  generalize (lg_sl ([.ref (g 0), .int (nI a), .int ((1 : Int32))]) ++ List.replicate (8 - (lg_sl ([.ref (g 0), .int (nI a), .int ((1 : Int32))])).length) Slot.unset).toArray = ls at hl ⊢
  have hl : lv_has ls 8 [(0, .ref (g 0)), (1, .int (nI a)), (2, .int ((1 : Int32)))] := hl
  have lpc : ∀ (nlpc k : Nat) (H : Heap) (locs : List Loc) (ls : Array Slot), k + nlpc = 22 → va_P D vwCl (rW g cI cZ cB acc lm rm (va_up (mF N am T wk ou) 1 (pr (N 0) a (N 0 a + am) k)) y) H → va_S (mA g) s.heap H locs → lv_has ls 8 [(5, .int (nI k)), (3, .long (lN (cyA (N 0 a) am k))), (0, .ref (g 0)), (1, .int (nI a)), (2, .int ((1 : Int32)))] → W p l e (headSpec wsX3_change ({ frames := 0, cells := 0, slots := 0, locals := 0 })).room s m ([.ref (g 0), .int (nI a), .int ((1 : Int32))]).toArray below meth c H locs 0 0 (MQ below (va_Qv (fun _ : Unit => True) (fun _ t => va_P D vwCl (rW g cI cZ cB acc lm rm (mF (va_up N 0 (va_up (N 0) a (N 0 a + am))) am T wk ou) (y)) t.heap) (mA g)) ([.ref (g 0), .int (nI a), .int ((1 : Int32))]).toArray s 0 0 (mA g)) (F0 m 5 ls []) := by
    intro nlpc
    induction nlpc with
    | zero =>
      intro k H locs ls hinlpc hP hS hl
      have hD : va_D (mA g) (rW g cI cZ cB acc lm rm (va_up (mF N am T wk ou) 1 (pr (N 0) a (N 0 a + am) k)) y) := mlD hok
      refine lv_iload hx hb dX3_change_5 (lv_at hl 0 rfl) ?_
      refine lv_bipush (v := 22) hx hb dX3_change_7 (by decide) ?_
      refine lv_icmp_ge (tgt := 109) hx hb dX3_change_9 (by decide) (fun _ => ?_) (fun c9 => absurd (nI_le (a := 22) (by omega) (by omega)) c9)
      have e9 : k = 22 := by omega
      subst e9
      have hP : va_P D vwCl (rW g cI cZ cB acc lm rm (mF (va_up N 0 (va_up (N 0) a (N 0 a + am))) am T wk ou) y) H := rW_congr hP (fun q9 h1 h2 j hj => by
        match q9 with
        | 1 =>
          exact congrFun (pr_end (N 0) a (N 0 a + am)) j
        | 2 => rfl
        | 3 => rfl
        | 4 => rfl
        | 5 => rfl
        | 6 => rfl
        | 7 => rfl
        | 8 => rfl
        | 0 => omega
        | q9 + 9 => omega)
      have hD : va_D (mA g) (rW g cI cZ cB acc lm rm (mF (va_up N 0 (va_up (N 0) a (N 0 a + am))) am T wk ou) y) := mlD hok
      exact W.vret hx hb hr (fun t ht hW => ⟨⟨(), rfl, trivial, hp_at ht hP⟩, hS.F ht⟩) hS.2.2 dX3_change_109
    | succ nlpc ihlpc =>
      intro k H locs ls hinlpc hP hS hl
      have hD : va_D (mA g) (rW g cI cZ cB acc lm rm (va_up (mF N am T wk ou) 1 (pr (N 0) a (N 0 a + am) k)) y) := mlD hok
      have hiwlpc : k < 22 := by omega
      refine lv_iload hx hb dX3_change_5 (lv_at hl 0 rfl) ?_
      refine lv_bipush (v := 22) hx hb dX3_change_7 (by decide) ?_
      refine lv_icmp_ge (tgt := 109) hx hb dX3_change_9 (by decide) (fun c9 => absurd c9 (nI_ge (b := 22) hiwlpc (by omega))) (fun _ => ?_)
      refine lv_aload_n hx hb dX3_change_12 rfl (lv_at hl 2 rfl) ?_
      refine va_get (D := D) (ci := 3) (v := .ref (g 1)) (C := RX3) (T := TX3) (N := 18) hx hb hts hi3 hown hK hP 0 (wl_at (by omega)) rfl 4 (by decide) (hts (.fieldLink RX3 13 "BigLedgerModel" "now" "[I") (by decide +kernel)) (fun _ h9 => h9) rfl dX3_change_13 ?_
      refine lv_bipush (v := 22) hx hb dX3_change_16 (by decide) ?_
      refine lv_iload_n hx hb dX3_change_18 rfl (lv_at hl 3 rfl) ?_
      refine lv_imul hx hb dX3_change_19 ?_
      refine lv_topi (fun y49 ey49 => ?_)
      replace ey49 : y49 = nI (22 * a) := ey49.trans (pk_mul 22 a)
      subst ey49
      refine lv_iload hx hb dX3_change_20 (lv_at hl 0 rfl) ?_
      refine lv_iadd hx hb dX3_change_22 ?_
      refine lv_topi (fun y50 ey50 => ?_)
      replace ey50 : y50 = nI (22 * a + k) := ey50.trans (nI_add _ _)
      subst ey50
      refine va_iald hx hb hK hP 1 0 (wl_at (by omega)) rfl (vp_in_nI (by omega) (by omega)) dX3_change_23 ?_
      refine lv_topi (fun y51 ey51 => ?_)
      replace ey51 : y51 = lb (N 0 a) k := ey51.trans (by rw [nI_clamp (by omega)]; exact pr_hi hiwlpc)
      subst ey51
      refine lv_i2l (v := lN (lbN (N 0 a) k)) hx hb dX3_change_24 (lb_l _ k) ?_
      refine lv_lload_n hx hb dX3_change_25 rfl (lv_at hl 1 rfl) ?_
      refine lv_ladd hx hb dX3_change_26 ?_
      have hs1 := lbN_lt (N 0 a) k
      have hs2 := lbN_lt am k
      have hs3 := cyA_lt (N 0 a) am k
      refine lv_topl (fun y52 ey52 => ?_)
      replace ey52 : y52 = lN (lbN (N 0 a) k + cyA (N 0 a) am k) := ey52.trans (lN_add _ _)
      subst ey52
      refine lv_iload_n hx hb dX3_change_27 rfl (lv_at hl 4 rfl) ?_
      refine lv_if_eq (tgt := 42) hx hb dX3_change_28 (by decide) (fun c9 => absurd c9 (by decide)) (fun _ => ?_)
      refine lv_aload_n hx hb dX3_change_31 rfl (lv_at hl 2 rfl) ?_
      refine va_get (D := D) (ci := 3) (v := .ref (g 4)) (C := RX3) (T := TX3) (N := 18) hx hb hts hi3 hown hK hP 0 (wl_at (by omega)) rfl 7 (by decide) (hts (.fieldLink RX3 23 "BigLedgerModel" "amount" "[I") (by decide +kernel)) (fun _ h9 => h9) rfl dX3_change_32 ?_
      refine lv_iload hx hb dX3_change_35 (lv_at hl 0 rfl) ?_
      refine va_iald hx hb hK hP 4 0 (wl_at (by omega)) rfl (vp_in_nI (by omega) (by omega)) dX3_change_37 ?_
      refine lv_topi (fun y53 ey53 => ?_)
      replace ey53 : y53 = lb am k := ey53.trans (by rw [nI_clamp (by omega)]; rfl)
      subst ey53
      refine lv_i2l (v := lN (lbN am k)) hx hb dX3_change_38 (lb_l am k) ?_
      refine lv_goto (tgt := 51) hx hb dX3_change_39 (by decide) ?_
      refine lv_ladd hx hb dX3_change_51 ?_
      refine lv_topl (fun y54 ey54 => ?_)
      replace ey54 : y54 = lN (lbN (N 0 a) k + cyA (N 0 a) am k + lbN am k) := ey54.trans (lN_add _ _)
      subst ey54
      have hq1 : (lbN (N 0 a) k + cyA (N 0 a) am k + lbN am k) % 2147483648 = lbN (N 0 a + am) k := by rw [← add_limb]; congr 1; omega
      have hq2 : (lbN (N 0 a) k + cyA (N 0 a) am k + lbN am k) / 2147483648 = cyA (N 0 a) am (k + 1) := by rw [← add_carry]; congr 1; omega
      refine lv_lstore (lv' := [(6, .long (lN (lbN (N 0 a) k + cyA (N 0 a) am k + lbN am k))), (5, .int (nI k)), (3, .long (lN (cyA (N 0 a) am k))), (0, .ref (g 0)), (1, .int (nI a)), (2, .int ((1 : Int32)))]) hx hb dX3_change_52 hl (by decide) rfl (fun ls hl => ?_)
      refine lv_lload hx hb dX3_change_54 (lv_at hl 0 rfl) ?_
      refine lv_lconst (v := 0) hx hb dX3_change_56 (by decide) ?_
      refine W.lcmp hx hb dX3_change_57 ?_
      refine lv_if_ge (tgt := 67) hx hb dX3_change_58 (by decide) (fun _ => ?_) (fun c9 => absurd (lg_ge0 (by omega)) c9)
      refine lv_lload hx hb dX3_change_67 (lv_at hl 0 rfl) ?_
      refine lv_ldc2 (v := (lN 2147483648)) hx hb hown (hts (.constantLong RX3 86 ((lN 2147483648))) (by decide +kernel)) dX3_change_69 ?_
      refine W.lcmp hx hb dX3_change_72 ?_
      refine lv_if_lt (tgt := 80) hx hb dX3_change_73 (by decide) (fun c1 => ?_) (fun c1 => ?_)
      · have hq3 : cyA (N 0 a) am (k + 1) = 0 := by rw [← hq2]; have := (lg_lt_iff (by omega) (by decide)).mp c1; omega
        refine lv_lconst (v := 0) hx hb dX3_change_80 (by decide) ?_
        refine lv_topl (fun y55 ey55 => ?_)
        replace ey55 : y55 = lN (cyA (N 0 a) am (k + 1)) := ey55.trans (by rw [hq3]; rfl)
        subst ey55
        refine lv_lstore_n (lv' := [(3, .long (lN (cyA (N 0 a) am (k + 1)))), (6, .long (lN (lbN (N 0 a) k + cyA (N 0 a) am k + lbN am k))), (5, .int (nI k)), (0, .ref (g 0)), (1, .int (nI a)), (2, .int ((1 : Int32)))]) hx hb dX3_change_81 rfl hl (by decide) rfl (fun ls hl => ?_)
        refine lv_aload_n hx hb dX3_change_82 rfl (lv_at hl 3 rfl) ?_
        refine va_get (D := D) (ci := 3) (v := .ref (g 1)) (C := RX3) (T := TX3) (N := 18) hx hb hts hi3 hown hK hP 0 (wl_at (by omega)) rfl 4 (by decide) (hts (.fieldLink RX3 13 "BigLedgerModel" "now" "[I") (by decide +kernel)) (fun _ h9 => h9) rfl dX3_change_83 ?_
        refine lv_bipush (v := 22) hx hb dX3_change_86 (by decide) ?_
        refine lv_iload_n hx hb dX3_change_88 rfl (lv_at hl 4 rfl) ?_
        refine lv_imul hx hb dX3_change_89 ?_
        refine lv_topi (fun y56 ey56 => ?_)
        replace ey56 : y56 = nI (22 * a) := ey56.trans (pk_mul 22 a)
        subst ey56
        refine lv_iload hx hb dX3_change_90 (lv_at hl 2 rfl) ?_
        refine lv_iadd hx hb dX3_change_92 ?_
        refine lv_topi (fun y57 ey57 => ?_)
        replace ey57 : y57 = nI (22 * a + k) := ey57.trans (nI_add _ _)
        subst ey57
        refine lv_lload hx hb dX3_change_93 (lv_at hl 1 rfl) ?_
        refine lv_lload_n hx hb dX3_change_95 rfl (lv_at hl 0 rfl) ?_
        refine lv_ldc2 (v := (lN 2147483648)) hx hb hown (hts (.constantLong RX3 86 ((lN 2147483648))) (by decide +kernel)) dX3_change_96 ?_
        refine lv_lmul hx hb dX3_change_99 ?_
        refine lv_lsub hx hb dX3_change_100 ?_
        refine lv_l2i (v := lb (N 0 a + am) k) hx hb dX3_change_101 ((add_val (by omega) _ hq2.symm).trans (congrArg nI hq1)) ?_
        refine va_iast hx hb hK hP hD hS 1 0 (wl_at (by omega)) rfl (vp_in_nI (by omega) (by omega)) dX3_change_102 (fun H locs hP hD hS => ?_)
        have hP : va_P D vwCl (rW g cI cZ cB acc lm rm (va_up (va_up (mF N am T wk ou) 1 (pr (N 0) a (N 0 a + am) k)) 1 (upd ((va_up (mF N am T wk ou) 1 (pr (N 0) a (N 0 a + am) k)) 1) (nI (22 * a + k)).toNatClampNeg (lb (N 0 a + am) k))) y) H := cv (ms_a1 (upd ((va_up (mF N am T wk ou) 1 (pr (N 0) a (N 0 a + am) k)) 1) (nI (22 * a + k)).toNatClampNeg (lb (N 0 a + am) k))) hP
        have hD : va_D (mA g) (rW g cI cZ cB acc lm rm (va_up (va_up (mF N am T wk ou) 1 (pr (N 0) a (N 0 a + am) k)) 1 (upd ((va_up (mF N am T wk ou) 1 (pr (N 0) a (N 0 a + am) k)) 1) (nI (22 * a + k)).toNatClampNeg (lb (N 0 a + am) k))) y) := mlD hok
        have hP : va_P D vwCl (rW g cI cZ cB acc lm rm (va_up (mF N am T wk ou) 1 (pr (N 0) a (N 0 a + am) (k + 1))) y) H := rW_congr hP (fun q9 h1 h2 j hj => by
          match q9 with
          | 1 =>
            show upd (pr (N 0) a (N 0 a + am) k) (nI (22 * a + k)).toNatClampNeg (lb (N 0 a + am) k) j = pr (N 0) a (N 0 a + am) (k + 1) j
            rw [nI_clamp (by omega), pr_s rfl]
          | 2 => rfl
          | 3 => rfl
          | 4 => rfl
          | 5 => rfl
          | 6 => rfl
          | 7 => rfl
          | 8 => rfl
          | 0 => omega
          | q9 + 9 => omega)
        have hD : va_D (mA g) (rW g cI cZ cB acc lm rm (va_up (mF N am T wk ou) 1 (pr (N 0) a (N 0 a + am) (k + 1))) y) := mlD hok
        refine lv_iinc (v := nI (k + 1)) (lv' := [(5, .int (nI (k + 1))), (3, .long (lN (cyA (N 0 a) am (k + 1)))), (6, .long (lN (lbN (N 0 a) k + cyA (N 0 a) am k + lbN am k))), (0, .ref (g 0)), (1, .int (nI a)), (2, .int ((1 : Int32)))]) hx hb dX3_change_103 hl (k := 2) rfl (nI_1 k) (by decide) rfl (fun ls hl => ?_)
        refine lv_goto (tgt := 5) hx hb dX3_change_106 (by decide) ?_
        exact ihlpc (k + 1) H locs ls (by omega) hP hS (lv_sub hl [0, 1, 3, 4, 5] rfl)
      · have hq3 : cyA (N 0 a) am (k + 1) = 1 := by rw [← hq2]; have h9 : ¬ (lbN (N 0 a) k + cyA (N 0 a) am k + lbN am k) < 2147483648 := fun q => c1 ((lg_lt_iff (by omega) (by decide)).mpr q); omega
        refine lv_lconst (v := 1) hx hb dX3_change_76 (by decide) ?_
        refine lv_goto (tgt := 81) hx hb dX3_change_77 (by decide) ?_
        refine lv_topl (fun y58 ey58 => ?_)
        replace ey58 : y58 = lN (cyA (N 0 a) am (k + 1)) := ey58.trans (by rw [hq3]; rfl)
        subst ey58
        refine lv_lstore_n (lv' := [(3, .long (lN (cyA (N 0 a) am (k + 1)))), (6, .long (lN (lbN (N 0 a) k + cyA (N 0 a) am k + lbN am k))), (5, .int (nI k)), (0, .ref (g 0)), (1, .int (nI a)), (2, .int ((1 : Int32)))]) hx hb dX3_change_81 rfl hl (by decide) rfl (fun ls hl => ?_)
        refine lv_aload_n hx hb dX3_change_82 rfl (lv_at hl 3 rfl) ?_
        refine va_get (D := D) (ci := 3) (v := .ref (g 1)) (C := RX3) (T := TX3) (N := 18) hx hb hts hi3 hown hK hP 0 (wl_at (by omega)) rfl 4 (by decide) (hts (.fieldLink RX3 13 "BigLedgerModel" "now" "[I") (by decide +kernel)) (fun _ h9 => h9) rfl dX3_change_83 ?_
        refine lv_bipush (v := 22) hx hb dX3_change_86 (by decide) ?_
        refine lv_iload_n hx hb dX3_change_88 rfl (lv_at hl 4 rfl) ?_
        refine lv_imul hx hb dX3_change_89 ?_
        refine lv_topi (fun y59 ey59 => ?_)
        replace ey59 : y59 = nI (22 * a) := ey59.trans (pk_mul 22 a)
        subst ey59
        refine lv_iload hx hb dX3_change_90 (lv_at hl 2 rfl) ?_
        refine lv_iadd hx hb dX3_change_92 ?_
        refine lv_topi (fun y60 ey60 => ?_)
        replace ey60 : y60 = nI (22 * a + k) := ey60.trans (nI_add _ _)
        subst ey60
        refine lv_lload hx hb dX3_change_93 (lv_at hl 1 rfl) ?_
        refine lv_lload_n hx hb dX3_change_95 rfl (lv_at hl 0 rfl) ?_
        refine lv_ldc2 (v := (lN 2147483648)) hx hb hown (hts (.constantLong RX3 86 ((lN 2147483648))) (by decide +kernel)) dX3_change_96 ?_
        refine lv_lmul hx hb dX3_change_99 ?_
        refine lv_lsub hx hb dX3_change_100 ?_
        refine lv_l2i (v := lb (N 0 a + am) k) hx hb dX3_change_101 ((add_val (by omega) _ hq2.symm).trans (congrArg nI hq1)) ?_
        refine va_iast hx hb hK hP hD hS 1 0 (wl_at (by omega)) rfl (vp_in_nI (by omega) (by omega)) dX3_change_102 (fun H locs hP hD hS => ?_)
        have hP : va_P D vwCl (rW g cI cZ cB acc lm rm (va_up (va_up (mF N am T wk ou) 1 (pr (N 0) a (N 0 a + am) k)) 1 (upd ((va_up (mF N am T wk ou) 1 (pr (N 0) a (N 0 a + am) k)) 1) (nI (22 * a + k)).toNatClampNeg (lb (N 0 a + am) k))) y) H := cv (ms_a1 (upd ((va_up (mF N am T wk ou) 1 (pr (N 0) a (N 0 a + am) k)) 1) (nI (22 * a + k)).toNatClampNeg (lb (N 0 a + am) k))) hP
        have hD : va_D (mA g) (rW g cI cZ cB acc lm rm (va_up (va_up (mF N am T wk ou) 1 (pr (N 0) a (N 0 a + am) k)) 1 (upd ((va_up (mF N am T wk ou) 1 (pr (N 0) a (N 0 a + am) k)) 1) (nI (22 * a + k)).toNatClampNeg (lb (N 0 a + am) k))) y) := mlD hok
        have hP : va_P D vwCl (rW g cI cZ cB acc lm rm (va_up (mF N am T wk ou) 1 (pr (N 0) a (N 0 a + am) (k + 1))) y) H := rW_congr hP (fun q9 h1 h2 j hj => by
          match q9 with
          | 1 =>
            show upd (pr (N 0) a (N 0 a + am) k) (nI (22 * a + k)).toNatClampNeg (lb (N 0 a + am) k) j = pr (N 0) a (N 0 a + am) (k + 1) j
            rw [nI_clamp (by omega), pr_s rfl]
          | 2 => rfl
          | 3 => rfl
          | 4 => rfl
          | 5 => rfl
          | 6 => rfl
          | 7 => rfl
          | 8 => rfl
          | 0 => omega
          | q9 + 9 => omega)
        have hD : va_D (mA g) (rW g cI cZ cB acc lm rm (va_up (mF N am T wk ou) 1 (pr (N 0) a (N 0 a + am) (k + 1))) y) := mlD hok
        refine lv_iinc (v := nI (k + 1)) (lv' := [(5, .int (nI (k + 1))), (3, .long (lN (cyA (N 0 a) am (k + 1)))), (6, .long (lN (lbN (N 0 a) k + cyA (N 0 a) am k + lbN am k))), (0, .ref (g 0)), (1, .int (nI a)), (2, .int ((1 : Int32)))]) hx hb dX3_change_103 hl (k := 2) rfl (nI_1 k) (by decide) rfl (fun ls hl => ?_)
        refine lv_goto (tgt := 5) hx hb dX3_change_106 (by decide) ?_
        exact ihlpc (k + 1) H locs ls (by omega) hP hS (lv_sub hl [0, 1, 3, 4, 5] rfl)
  refine lv_lconst (v := 0) hx hb dX3_change_0 (by decide) ?_
  refine lv_lstore_n (lv' := [(3, .long ((0 : Int64))), (0, .ref (g 0)), (1, .int (nI a)), (2, .int ((1 : Int32)))]) hx hb dX3_change_1 rfl hl (by decide) rfl (fun ls hl => ?_)
  refine lv_iconst (v := 0) hx hb dX3_change_2 (by decide) ?_
  refine lv_istore (lv' := [(5, .int ((0 : Int32))), (3, .long ((0 : Int64))), (0, .ref (g 0)), (1, .int (nI a)), (2, .int ((1 : Int32)))]) hx hb dX3_change_3 hl (by decide) rfl (fun ls hl => ?_)
  have hP : va_P D vwCl (rW g cI cZ cB acc lm rm (va_up (mF N am T wk ou) 1 (pr (N 0) a (N 0 a + am) 0)) y) s.heap := rW_congr hP (fun q9 h1 h2 j hj => by
    match q9 with
    | 1 =>
      exact (congrFun (pr_0 (N 0) a (N 0 a + am)) j).symm
    | 2 => rfl
    | 3 => rfl
    | 4 => rfl
    | 5 => rfl
    | 6 => rfl
    | 7 => rfl
    | 8 => rfl
    | 0 => omega
    | q9 + 9 => omega)
  have hD : va_D (mA g) (rW g cI cZ cB acc lm rm (va_up (mF N am T wk ou) 1 (pr (N 0) a (N 0 a + am) 0)) y) := mlD hok
  exact lpc 22 0 s.heap [] ls rfl hP hS (by rw [cyA_0]; exact (lv_sub hl [0, 1, 2, 3, 4] rfl))
set_option maxHeartbeats 4000000 in
set_option maxRecDepth 100000 in
theorem m_chgS (l : Launch) (D : va_G) (g : Nat → Nat) (cI cZ cB : ClassId) (acc lm rm : Nat) (N : LN) (am : Nat) (T : BN) (wk ou y : Nat → Int32) (hok : mOk g) (hacc : acc ≤ 24) (a : Nat) (ha : a < 25) (hr0 : am ≤ N 0 a) : Met l yX3_change wsX3_change ({ frames := 0, cells := 0, slots := 0, locals := 0 }) (nPc [.ref (g 0), .int (nI a), .int ((0 : Int32))] D (rW g cI cZ cB acc lm rm (mF N am T wk ou) y) [(cI, .int), (cZ, .boolean), (cB, .byte)]) (va_Qv (fun _ : Unit => True) (fun _ t => va_P D vwCl (rW g cI cZ cB acc lm rm (mF (va_up N 0 (va_up (N 0) a (N 0 a - am))) am T wk ou) (y)) t.heap) (mA g)) 0 0 (mA g) := by
  refine Met.ofW (cc := cX3_change) (maxL := 8) (ret := none) (by decide) rfl ?_
  intro p e s m args below meth c s₁ B hml hv
  obtain ⟨rfl, hP, hK⟩ := hv
  have hx := B.exec
  have hb := B.bytes
  have hr := B.returns
  have hts := atoms_spec (ws := wsX3_change) B.pre
  have hown : s.vm.findClass RX3 = some m.cls := findClass_of_methodNamed B.named
  have hlocks := B.notSynchronized
  have hi3 : ∀ w ∈ wsX30, w ∈ wsX3_change := by decide +kernel
  have hS : va_S (mA g) s.heap s.heap [] := va_S.rf
  have hD : va_D (mA g) (rW g cI cZ cB acc lm rm (mF N am T wk ou) y) := mlD hok
  have hl := lv_entry ([.ref (g 0), .int (nI a), .int ((0 : Int32))]) (n := 8) (Nat.le_of_ble_eq_true rfl)
  rw [lg_entry_eq]
  generalize (lg_sl ([.ref (g 0), .int (nI a), .int ((0 : Int32))]) ++ List.replicate (8 - (lg_sl ([.ref (g 0), .int (nI a), .int ((0 : Int32))])).length) Slot.unset).toArray = ls at hl ⊢
  have hl : lv_has ls 8 [(0, .ref (g 0)), (1, .int (nI a)), (2, .int ((0 : Int32)))] := hl
  have lpc : ∀ (nlpc k : Nat) (H : Heap) (locs : List Loc) (ls : Array Slot), k + nlpc = 22 → va_P D vwCl (rW g cI cZ cB acc lm rm (va_up (mF N am T wk ou) 1 (pr (N 0) a (N 0 a - am) k)) y) H → va_S (mA g) s.heap H locs → lv_has ls 8 [(5, .int (nI k)), (3, .long (-(lN (cyS (N 0 a) am k)))), (0, .ref (g 0)), (1, .int (nI a)), (2, .int ((0 : Int32)))] → W p l e (headSpec wsX3_change ({ frames := 0, cells := 0, slots := 0, locals := 0 })).room s m ([.ref (g 0), .int (nI a), .int ((0 : Int32))]).toArray below meth c H locs 0 0 (MQ below (va_Qv (fun _ : Unit => True) (fun _ t => va_P D vwCl (rW g cI cZ cB acc lm rm (mF (va_up N 0 (va_up (N 0) a (N 0 a - am))) am T wk ou) (y)) t.heap) (mA g)) ([.ref (g 0), .int (nI a), .int ((0 : Int32))]).toArray s 0 0 (mA g)) (F0 m 5 ls []) := by
    intro nlpc
    induction nlpc with
    | zero =>
      intro k H locs ls hinlpc hP hS hl
      have hD : va_D (mA g) (rW g cI cZ cB acc lm rm (va_up (mF N am T wk ou) 1 (pr (N 0) a (N 0 a - am) k)) y) := mlD hok
      refine lv_iload hx hb dX3_change_5 (lv_at hl 0 rfl) ?_
      refine lv_bipush (v := 22) hx hb dX3_change_7 (by decide) ?_
      refine lv_icmp_ge (tgt := 109) hx hb dX3_change_9 (by decide) (fun _ => ?_) (fun c9 => absurd (nI_le (a := 22) (by omega) (by omega)) c9)
      have e9 : k = 22 := by omega
      subst e9
      have hP : va_P D vwCl (rW g cI cZ cB acc lm rm (mF (va_up N 0 (va_up (N 0) a (N 0 a - am))) am T wk ou) y) H := rW_congr hP (fun q9 h1 h2 j hj => by
        match q9 with
        | 1 =>
          exact congrFun (pr_end (N 0) a (N 0 a - am)) j
        | 2 => rfl
        | 3 => rfl
        | 4 => rfl
        | 5 => rfl
        | 6 => rfl
        | 7 => rfl
        | 8 => rfl
        | 0 => omega
        | q9 + 9 => omega)
      have hD : va_D (mA g) (rW g cI cZ cB acc lm rm (mF (va_up N 0 (va_up (N 0) a (N 0 a - am))) am T wk ou) y) := mlD hok
      exact W.vret hx hb hr (fun t ht hW => ⟨⟨(), rfl, trivial, hp_at ht hP⟩, hS.F ht⟩) hS.2.2 dX3_change_109
    | succ nlpc ihlpc =>
      intro k H locs ls hinlpc hP hS hl
      have hD : va_D (mA g) (rW g cI cZ cB acc lm rm (va_up (mF N am T wk ou) 1 (pr (N 0) a (N 0 a - am) k)) y) := mlD hok
      have hiwlpc : k < 22 := by omega
      refine lv_iload hx hb dX3_change_5 (lv_at hl 0 rfl) ?_
      refine lv_bipush (v := 22) hx hb dX3_change_7 (by decide) ?_
      refine lv_icmp_ge (tgt := 109) hx hb dX3_change_9 (by decide) (fun c9 => absurd c9 (nI_ge (b := 22) hiwlpc (by omega))) (fun _ => ?_)
      refine lv_aload_n hx hb dX3_change_12 rfl (lv_at hl 2 rfl) ?_
      refine va_get (D := D) (ci := 3) (v := .ref (g 1)) (C := RX3) (T := TX3) (N := 18) hx hb hts hi3 hown hK hP 0 (wl_at (by omega)) rfl 4 (by decide) (hts (.fieldLink RX3 13 "BigLedgerModel" "now" "[I") (by decide +kernel)) (fun _ h9 => h9) rfl dX3_change_13 ?_
      refine lv_bipush (v := 22) hx hb dX3_change_16 (by decide) ?_
      refine lv_iload_n hx hb dX3_change_18 rfl (lv_at hl 3 rfl) ?_
      refine lv_imul hx hb dX3_change_19 ?_
      refine lv_topi (fun y61 ey61 => ?_)
      replace ey61 : y61 = nI (22 * a) := ey61.trans (pk_mul 22 a)
      subst ey61
      refine lv_iload hx hb dX3_change_20 (lv_at hl 0 rfl) ?_
      refine lv_iadd hx hb dX3_change_22 ?_
      refine lv_topi (fun y62 ey62 => ?_)
      replace ey62 : y62 = nI (22 * a + k) := ey62.trans (nI_add _ _)
      subst ey62
      refine va_iald hx hb hK hP 1 0 (wl_at (by omega)) rfl (vp_in_nI (by omega) (by omega)) dX3_change_23 ?_
      refine lv_topi (fun y63 ey63 => ?_)
      replace ey63 : y63 = lb (N 0 a) k := ey63.trans (by rw [nI_clamp (by omega)]; exact pr_hi hiwlpc)
      subst ey63
      refine lv_i2l (v := lN (lbN (N 0 a) k)) hx hb dX3_change_24 (lb_l _ k) ?_
      refine lv_lload_n hx hb dX3_change_25 rfl (lv_at hl 1 rfl) ?_
      refine lv_ladd hx hb dX3_change_26 ?_
      have hs1 := lbN_lt (N 0 a) k
      have hs2 := lbN_lt am k
      have hs3 := cyS_lt (N 0 a) am k
      refine lv_iload_n hx hb dX3_change_27 rfl (lv_at hl 4 rfl) ?_
      refine lv_if_eq (tgt := 42) hx hb dX3_change_28 (by decide) (fun _ => ?_) (fun c9 => absurd (by decide) c9)
      refine lv_aload_n hx hb dX3_change_42 rfl (lv_at hl 2 rfl) ?_
      refine va_get (D := D) (ci := 3) (v := .ref (g 4)) (C := RX3) (T := TX3) (N := 18) hx hb hts hi3 hown hK hP 0 (wl_at (by omega)) rfl 7 (by decide) (hts (.fieldLink RX3 23 "BigLedgerModel" "amount" "[I") (by decide +kernel)) (fun _ h9 => h9) rfl dX3_change_43 ?_
      refine lv_iload hx hb dX3_change_46 (lv_at hl 0 rfl) ?_
      refine va_iald hx hb hK hP 4 0 (wl_at (by omega)) rfl (vp_in_nI (by omega) (by omega)) dX3_change_48 ?_
      refine lv_topi (fun y64 ey64 => ?_)
      replace ey64 : y64 = lb am k := ey64.trans (by rw [nI_clamp (by omega)]; rfl)
      subst ey64
      refine lv_i2l (v := lN (lbN am k)) hx hb dX3_change_49 (lb_l am k) ?_
      refine lv_lneg hx hb dX3_change_50 ?_
      refine lv_ladd hx hb dX3_change_51 ?_
      have hq1 : (lN (lbN (N 0 a) k) + -(lN (cyS (N 0 a) am k)) + -(lN (lbN am k))).toInt = (lbN (N 0 a) k : Int) - cyS (N 0 a) am k - lbN am k := l_sub3 hs1 hs3 hs2
      have hq2 : ((lbN (N 0 a) k : Int) - cyS (N 0 a) am k - lbN am k) % 2147483648 = lbN (N 0 a - am) k := by rw [← sub_limb hr0 k]; congr 1; omega
      have hq4 : ((lbN (N 0 a) k : Int) - cyS (N 0 a) am k - lbN am k < 0) ↔ cyS (N 0 a) am (k + 1) = 1 := by rw [← sub_borrow]; omega
      refine lv_lstore (lv' := [(6, .long (((lN (lbN (N 0 a) k)) + (-(lN (cyS (N 0 a) am k)))) + (-(lN (lbN am k))))), (5, .int (nI k)), (3, .long (-(lN (cyS (N 0 a) am k)))), (0, .ref (g 0)), (1, .int (nI a)), (2, .int ((0 : Int32)))]) hx hb dX3_change_52 hl (by decide) rfl (fun ls hl => ?_)
      refine lv_lload hx hb dX3_change_54 (lv_at hl 0 rfl) ?_
      refine lv_lconst (v := 0) hx hb dX3_change_56 (by decide) ?_
      refine W.lcmp hx hb dX3_change_57 ?_
      refine lv_if_ge (tgt := 67) hx hb dX3_change_58 (by decide) (fun c1 => ?_) (fun c1 => ?_)
      · have hz0 := l_cmp_ge hq1 c1
        have hq3 : cyS (N 0 a) am (k + 1) = 0 := cyS_z (fun q => hz0 (hq4.mpr q))
        refine lv_lload hx hb dX3_change_67 (lv_at hl 0 rfl) ?_
        refine lv_ldc2 (v := (lN 2147483648)) hx hb hown (hts (.constantLong RX3 86 ((lN 2147483648))) (by decide +kernel)) dX3_change_69 ?_
        refine W.lcmp hx hb dX3_change_72 ?_
        refine lv_if_lt (tgt := 80) hx hb dX3_change_73 (by decide) (fun _ => ?_) (fun c9 => absurd (lg_neg hq1 (by omega) (by omega)) c9)
        refine lv_lconst (v := 0) hx hb dX3_change_80 (by decide) ?_
        refine lv_topl (fun y65 ey65 => ?_)
        replace ey65 : y65 = -(lN (cyS (N 0 a) am (k + 1))) := ey65.trans (by rw [hq3]; rfl)
        subst ey65
        refine lv_lstore_n (lv' := [(3, .long (-(lN (cyS (N 0 a) am (k + 1))))), (6, .long (((lN (lbN (N 0 a) k)) + (-(lN (cyS (N 0 a) am k)))) + (-(lN (lbN am k))))), (5, .int (nI k)), (0, .ref (g 0)), (1, .int (nI a)), (2, .int ((0 : Int32)))]) hx hb dX3_change_81 rfl hl (by decide) rfl (fun ls hl => ?_)
        refine lv_aload_n hx hb dX3_change_82 rfl (lv_at hl 3 rfl) ?_
        refine va_get (D := D) (ci := 3) (v := .ref (g 1)) (C := RX3) (T := TX3) (N := 18) hx hb hts hi3 hown hK hP 0 (wl_at (by omega)) rfl 4 (by decide) (hts (.fieldLink RX3 13 "BigLedgerModel" "now" "[I") (by decide +kernel)) (fun _ h9 => h9) rfl dX3_change_83 ?_
        refine lv_bipush (v := 22) hx hb dX3_change_86 (by decide) ?_
        refine lv_iload_n hx hb dX3_change_88 rfl (lv_at hl 4 rfl) ?_
        refine lv_imul hx hb dX3_change_89 ?_
        refine lv_topi (fun y66 ey66 => ?_)
        replace ey66 : y66 = nI (22 * a) := ey66.trans (pk_mul 22 a)
        subst ey66
        refine lv_iload hx hb dX3_change_90 (lv_at hl 2 rfl) ?_
        refine lv_iadd hx hb dX3_change_92 ?_
        refine lv_topi (fun y67 ey67 => ?_)
        replace ey67 : y67 = nI (22 * a + k) := ey67.trans (nI_add _ _)
        subst ey67
        refine lv_lload hx hb dX3_change_93 (lv_at hl 1 rfl) ?_
        refine lv_lload_n hx hb dX3_change_95 rfl (lv_at hl 0 rfl) ?_
        refine lv_ldc2 (v := (lN 2147483648)) hx hb hown (hts (.constantLong RX3 86 ((lN 2147483648))) (by decide +kernel)) dX3_change_96 ?_
        refine lv_lmul hx hb dX3_change_99 ?_
        refine lv_lsub hx hb dX3_change_100 ?_
        refine lv_l2i (v := lb (N 0 a - am) k) hx hb dX3_change_101 ((sub_val hq1 (by omega) (by omega) _ (Or.inr ⟨hq3, by omega⟩)).trans (by rw [hq2]; rfl)) ?_
        refine va_iast hx hb hK hP hD hS 1 0 (wl_at (by omega)) rfl (vp_in_nI (by omega) (by omega)) dX3_change_102 (fun H locs hP hD hS => ?_)
        have hP : va_P D vwCl (rW g cI cZ cB acc lm rm (va_up (va_up (mF N am T wk ou) 1 (pr (N 0) a (N 0 a - am) k)) 1 (upd ((va_up (mF N am T wk ou) 1 (pr (N 0) a (N 0 a - am) k)) 1) (nI (22 * a + k)).toNatClampNeg (lb (N 0 a - am) k))) y) H := cv (ms_a1 (upd ((va_up (mF N am T wk ou) 1 (pr (N 0) a (N 0 a - am) k)) 1) (nI (22 * a + k)).toNatClampNeg (lb (N 0 a - am) k))) hP
        have hD : va_D (mA g) (rW g cI cZ cB acc lm rm (va_up (va_up (mF N am T wk ou) 1 (pr (N 0) a (N 0 a - am) k)) 1 (upd ((va_up (mF N am T wk ou) 1 (pr (N 0) a (N 0 a - am) k)) 1) (nI (22 * a + k)).toNatClampNeg (lb (N 0 a - am) k))) y) := mlD hok
        have hP : va_P D vwCl (rW g cI cZ cB acc lm rm (va_up (mF N am T wk ou) 1 (pr (N 0) a (N 0 a - am) (k + 1))) y) H := rW_congr hP (fun q9 h1 h2 j hj => by
          match q9 with
          | 1 =>
            show upd (pr (N 0) a (N 0 a - am) k) (nI (22 * a + k)).toNatClampNeg (lb (N 0 a - am) k) j = pr (N 0) a (N 0 a - am) (k + 1) j
            rw [nI_clamp (by omega), pr_s rfl]
          | 2 => rfl
          | 3 => rfl
          | 4 => rfl
          | 5 => rfl
          | 6 => rfl
          | 7 => rfl
          | 8 => rfl
          | 0 => omega
          | q9 + 9 => omega)
        have hD : va_D (mA g) (rW g cI cZ cB acc lm rm (va_up (mF N am T wk ou) 1 (pr (N 0) a (N 0 a - am) (k + 1))) y) := mlD hok
        refine lv_iinc (v := nI (k + 1)) (lv' := [(5, .int (nI (k + 1))), (3, .long (-(lN (cyS (N 0 a) am (k + 1))))), (6, .long (((lN (lbN (N 0 a) k)) + (-(lN (cyS (N 0 a) am k)))) + (-(lN (lbN am k))))), (0, .ref (g 0)), (1, .int (nI a)), (2, .int ((0 : Int32)))]) hx hb dX3_change_103 hl (k := 2) rfl (nI_1 k) (by decide) rfl (fun ls hl => ?_)
        refine lv_goto (tgt := 5) hx hb dX3_change_106 (by decide) ?_
        exact ihlpc (k + 1) H locs ls (by omega) hP hS (lv_sub hl [0, 1, 3, 4, 5] rfl)
      · have hz0 := l_cmp_lt hq1 c1
        have hq3 : cyS (N 0 a) am (k + 1) = 1 := hq4.mp hz0
        refine lv_ldc2 (v := (-1)) hx hb hown (hts (.constantLong RX3 84 ((-1))) (by decide +kernel)) dX3_change_61 ?_
        refine lv_goto (tgt := 81) hx hb dX3_change_64 (by decide) ?_
        refine lv_topl (fun y68 ey68 => ?_)
        replace ey68 : y68 = -(lN (cyS (N 0 a) am (k + 1))) := ey68.trans (by rw [hq3]; rfl)
        subst ey68
        refine lv_lstore_n (lv' := [(3, .long (-(lN (cyS (N 0 a) am (k + 1))))), (6, .long (((lN (lbN (N 0 a) k)) + (-(lN (cyS (N 0 a) am k)))) + (-(lN (lbN am k))))), (5, .int (nI k)), (0, .ref (g 0)), (1, .int (nI a)), (2, .int ((0 : Int32)))]) hx hb dX3_change_81 rfl hl (by decide) rfl (fun ls hl => ?_)
        refine lv_aload_n hx hb dX3_change_82 rfl (lv_at hl 3 rfl) ?_
        refine va_get (D := D) (ci := 3) (v := .ref (g 1)) (C := RX3) (T := TX3) (N := 18) hx hb hts hi3 hown hK hP 0 (wl_at (by omega)) rfl 4 (by decide) (hts (.fieldLink RX3 13 "BigLedgerModel" "now" "[I") (by decide +kernel)) (fun _ h9 => h9) rfl dX3_change_83 ?_
        refine lv_bipush (v := 22) hx hb dX3_change_86 (by decide) ?_
        refine lv_iload_n hx hb dX3_change_88 rfl (lv_at hl 4 rfl) ?_
        refine lv_imul hx hb dX3_change_89 ?_
        refine lv_topi (fun y69 ey69 => ?_)
        replace ey69 : y69 = nI (22 * a) := ey69.trans (pk_mul 22 a)
        subst ey69
        refine lv_iload hx hb dX3_change_90 (lv_at hl 2 rfl) ?_
        refine lv_iadd hx hb dX3_change_92 ?_
        refine lv_topi (fun y70 ey70 => ?_)
        replace ey70 : y70 = nI (22 * a + k) := ey70.trans (nI_add _ _)
        subst ey70
        refine lv_lload hx hb dX3_change_93 (lv_at hl 1 rfl) ?_
        refine lv_lload_n hx hb dX3_change_95 rfl (lv_at hl 0 rfl) ?_
        refine lv_ldc2 (v := (lN 2147483648)) hx hb hown (hts (.constantLong RX3 86 ((lN 2147483648))) (by decide +kernel)) dX3_change_96 ?_
        refine lv_lmul hx hb dX3_change_99 ?_
        refine lv_lsub hx hb dX3_change_100 ?_
        refine lv_l2i (v := lb (N 0 a - am) k) hx hb dX3_change_101 ((sub_val hq1 (by omega) (by omega) _ (Or.inl ⟨hq3, hz0⟩)).trans (by rw [hq2]; rfl)) ?_
        refine va_iast hx hb hK hP hD hS 1 0 (wl_at (by omega)) rfl (vp_in_nI (by omega) (by omega)) dX3_change_102 (fun H locs hP hD hS => ?_)
        have hP : va_P D vwCl (rW g cI cZ cB acc lm rm (va_up (va_up (mF N am T wk ou) 1 (pr (N 0) a (N 0 a - am) k)) 1 (upd ((va_up (mF N am T wk ou) 1 (pr (N 0) a (N 0 a - am) k)) 1) (nI (22 * a + k)).toNatClampNeg (lb (N 0 a - am) k))) y) H := cv (ms_a1 (upd ((va_up (mF N am T wk ou) 1 (pr (N 0) a (N 0 a - am) k)) 1) (nI (22 * a + k)).toNatClampNeg (lb (N 0 a - am) k))) hP
        have hD : va_D (mA g) (rW g cI cZ cB acc lm rm (va_up (va_up (mF N am T wk ou) 1 (pr (N 0) a (N 0 a - am) k)) 1 (upd ((va_up (mF N am T wk ou) 1 (pr (N 0) a (N 0 a - am) k)) 1) (nI (22 * a + k)).toNatClampNeg (lb (N 0 a - am) k))) y) := mlD hok
        have hP : va_P D vwCl (rW g cI cZ cB acc lm rm (va_up (mF N am T wk ou) 1 (pr (N 0) a (N 0 a - am) (k + 1))) y) H := rW_congr hP (fun q9 h1 h2 j hj => by
          match q9 with
          | 1 =>
            show upd (pr (N 0) a (N 0 a - am) k) (nI (22 * a + k)).toNatClampNeg (lb (N 0 a - am) k) j = pr (N 0) a (N 0 a - am) (k + 1) j
            rw [nI_clamp (by omega), pr_s rfl]
          | 2 => rfl
          | 3 => rfl
          | 4 => rfl
          | 5 => rfl
          | 6 => rfl
          | 7 => rfl
          | 8 => rfl
          | 0 => omega
          | q9 + 9 => omega)
        have hD : va_D (mA g) (rW g cI cZ cB acc lm rm (va_up (mF N am T wk ou) 1 (pr (N 0) a (N 0 a - am) (k + 1))) y) := mlD hok
        refine lv_iinc (v := nI (k + 1)) (lv' := [(5, .int (nI (k + 1))), (3, .long (-(lN (cyS (N 0 a) am (k + 1))))), (6, .long (((lN (lbN (N 0 a) k)) + (-(lN (cyS (N 0 a) am k)))) + (-(lN (lbN am k))))), (0, .ref (g 0)), (1, .int (nI a)), (2, .int ((0 : Int32)))]) hx hb dX3_change_103 hl (k := 2) rfl (nI_1 k) (by decide) rfl (fun ls hl => ?_)
        refine lv_goto (tgt := 5) hx hb dX3_change_106 (by decide) ?_
        exact ihlpc (k + 1) H locs ls (by omega) hP hS (lv_sub hl [0, 1, 3, 4, 5] rfl)
  refine lv_lconst (v := 0) hx hb dX3_change_0 (by decide) ?_
  refine lv_lstore_n (lv' := [(3, .long ((0 : Int64))), (0, .ref (g 0)), (1, .int (nI a)), (2, .int ((0 : Int32)))]) hx hb dX3_change_1 rfl hl (by decide) rfl (fun ls hl => ?_)
  refine lv_iconst (v := 0) hx hb dX3_change_2 (by decide) ?_
  refine lv_istore (lv' := [(5, .int ((0 : Int32))), (3, .long ((0 : Int64))), (0, .ref (g 0)), (1, .int (nI a)), (2, .int ((0 : Int32)))]) hx hb dX3_change_3 hl (by decide) rfl (fun ls hl => ?_)
  have hP : va_P D vwCl (rW g cI cZ cB acc lm rm (va_up (mF N am T wk ou) 1 (pr (N 0) a (N 0 a - am) 0)) y) s.heap := rW_congr hP (fun q9 h1 h2 j hj => by
    match q9 with
    | 1 =>
      exact (congrFun (pr_0 (N 0) a (N 0 a - am)) j).symm
    | 2 => rfl
    | 3 => rfl
    | 4 => rfl
    | 5 => rfl
    | 6 => rfl
    | 7 => rfl
    | 8 => rfl
    | 0 => omega
    | q9 + 9 => omega)
  have hD : va_D (mA g) (rW g cI cZ cB acc lm rm (va_up (mF N am T wk ou) 1 (pr (N 0) a (N 0 a - am) 0)) y) := mlD hok
  exact lpc 22 0 s.heap [] ls rfl hP hS (by rw [cyS_0]; exact (lv_sub hl [0, 1, 2, 3, 4] rfl))

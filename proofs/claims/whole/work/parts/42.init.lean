set_option maxHeartbeats 1000000 in
set_option maxRecDepth 100000 in
theorem c_ninit (l : Launch) (D : va_G) (cI cB cO : ClassId) (o w sz : Nat) (hw : w ≤ 22) : Met l yX1_init wsX1_init ({ frames := 1, cells := 1, slots := 22, locals := 12 }) (aPc [.ref o, .int (nI w)] D [(o, .inr (1, [.null, .int 0]))] [(cI, .int), (cB, .byte), (cO, .object "BigLedger$Natural")] sz) (va_Qv (fun a : Nat => sz ≤ a ∧ a ≠ o) (fun a t => va_P D vwCl (nW cI w o a 0) t.heap) (oA o sz)) 1 22 (oA o sz) := by
  refine Met.ofW (cc := cX1_init) (maxL := 2) (ret := none) (by decide) rfl ?_
  intro p e s m args below meth c s₁ B hml hv
  obtain ⟨rfl, hsz, hP, hK, hM⟩ := hv
  have hx := B.exec
  have hb := B.bytes
  have hr := B.returns
  have hts := atoms_spec (ws := wsX1_init) B.pre
  have hown : s.vm.findClass RX1 = some m.cls := findClass_of_methodNamed B.named
  have hlocks := B.notSynchronized
  have hin : meth.name = "<init>" := (name_of_methodNamed B.named B.method).1
  have hi1 : ∀ w ∈ wsX10, w ∈ wsX1_init := by decide +kernel
  have hA : ∀ q : Nat, s.heap.size ≤ q → oA o sz q := fun q h => Or.inr (by omega)
  have hD : va_D (oA o sz) [(o, .inr (1, [.null, .int 0]))] := vd_one (Or.inl rfl)
  have hS : va_S (oA o sz) s.heap s.heap [] := va_S.rf
  have hl := lv_entry ([.ref (o), .int (nI w)]) (n := 2) (Nat.le_of_ble_eq_true rfl)
  rw [lg_entry_eq]
  generalize (lg_sl ([.ref (o), .int (nI w)]) ++ List.replicate (2 - (lg_sl ([.ref (o), .int (nI w)])).length) Slot.unset).toArray = ls at hl ⊢
  have hl : lv_has ls 2 [(0, .ref (o)), (1, .int (nI w))] := hl
  refine lv_aload_n hx hb dX1_init_0 rfl (lv_at hl 0 rfl) ?_
  refine W.objInit hx hb hown (hts (.methodLink RX1 3 objectInit) (by decide +kernel)) (hts (.instanceMethod objectInit) (by decide +kernel)) (hts (.code objectInit ⟨#[0xb1]⟩ 1 none) (by decide +kernel)) rfl (by rw [hml]; exact hl.1) rfl dX1_init_1 (Nat.le_of_ble_eq_true rfl) (Nat.le_of_ble_eq_true rfl) ?_
  refine W.eq (g2 := F0 m 4 ls []) rfl ?_
  refine lv_aload_n hx hb dX1_init_4 rfl (lv_at hl 0 rfl) ?_
  refine lv_iload_n hx hb dX1_init_5 rfl (lv_at hl 1 rfl) ?_
  have hz9 : w = (nI w).toNatClampNeg := (nI_clamp (by omega)).symm
  refine va_newa (atype := .int) (a0 := (w, .inl (fun _ => 0))) (ty := .int) (N' := w) hx hb (hts (.arrayClass .int) (by decide +kernel)) rfl hK hP hD hS hA (nw_i w) (nI_pos (by omega)) (nI_clamp (by omega)) (by_i (by omega)) (by show 0 + 1 ≤ 1; omega) (by show 0 + w ≤ 22; omega) dX1_init_6 (fun qa cA H hK hP hD hS => ?_)
  have hca := (ka_eq hK 0 3 rfl rfl).symm
  subst hca
  refine W.widen (k := 1) (n := 22) (by omega) (by omega) ?_
  have hP : va_P D vwCl [(o, .inr (1, [.null, .int ((0 : Int32))])), (qa, .inl (cI, w, .inl (fun _ => 0)))] H := hP
  have hD : va_D (oA o sz) [(o, .inr (1, [.null, .int ((0 : Int32))])), (qa, .inl (cI, w, .inl (fun _ => 0)))] := hD
  refine va_putF (D := D) (ci := 1) (v := .ref (qa)) (ty := .array (.int)) (C := RX1) (T := TX1) (N := 2) hx hb hts hi1 tyX1 tyX1_ok nmX1 hown hK hP hD hS 0 rfl rfl 0 (by decide) (hts (.fieldLink RX1 9 "BigLedger$Natural" "limbs" "[I") (by decide +kernel)) (fun _ h9 => h9) rfl hin rfl (by decide +kernel) (rfl) (rfl) (Nat.le_of_ble_eq_true rfl) dX1_init_8 (fun H locs hP hD hS => ?_)
  have hP : va_P D vwCl [(o, .inr (1, [.ref (qa), .int ((0 : Int32))])), (qa, .inl (cI, w, .inl (fun _ => 0)))] H := hP
  have hD : va_D (oA o sz) [(o, .inr (1, [.ref (qa), .int ((0 : Int32))])), (qa, .inl (cI, w, .inl (fun _ => 0)))] := hD
  have hq1 : sz ≤ qa ∧ qa ≠ o := by
    have h1 := hD.2 1 _ rfl
    have h2 : qa ≠ o := fun q => absurd (hD.1 0 1 _ _ rfl rfl q.symm) (by decide)
    exact ⟨h1.resolve_left h2, h2⟩
  have hP9 : va_P D vwCl (nW cI w o qa 0) H := vp_cons (by rw [szF_zero, nI_0]; exact hP 0 _ rfl) (vp_cons (at_congr (hP 1 _ rfl) (fun k _ => by show (0 : Int32) = nI (lbN 0 k); rw [lbN_of_zero, nI_0])) vp_nil)
  exact W.vret hx hb hr (fun t ht hW => ⟨⟨qa, rfl, hq1, hp_at ht hP9⟩, hS.F ht⟩) hS.2.2 dX1_init_11
set_option maxHeartbeats 1000000 in
set_option maxRecDepth 100000 in
theorem c_within (l : Launch) (p0 m0 : Int32) : Met l yX2_within wsX2_within ({ frames := 1, cells := 0, slots := 0, locals := 14 }) (fun v _ => v = ([.int p0, .int m0] : List Value).toArray) (vp_Si (fun r => r = within0 p0 m0)) 0 0 (fun _ => False) := by
  refine Met.ofW (cc := cX2_within) (maxL := 2) (ret := (some .int)) (by decide) rfl ?_
  intro p e s m args below meth c s₁ B hml hv
  subst hv
  have hx := B.exec
  have hb := B.bytes
  have hr := B.returns
  have hts := atoms_spec (ws := wsX2_within) B.pre
  have hown : s.vm.findClass RX2 = some m.cls := findClass_of_methodNamed B.named
  have hlocks := B.notSynchronized
  generalize hH : s.heap = H
  have hl := lv_entry ([.int (p0), .int (m0)]) (n := 2) (Nat.le_of_ble_eq_true rfl)
  rw [lg_entry_eq]
  generalize (lg_sl ([.int (p0), .int (m0)]) ++ List.replicate (2 - (lg_sl ([.int (p0), .int (m0)])).length) Slot.unset).toArray = ls at hl ⊢
  have hl : lv_has ls 2 [(0, .int (p0)), (1, .int (m0))] := hl
  refine lv_iconst (v := 1) hx hb dX2_within_0 (by decide) ?_
  refine lv_iload_n hx hb dX2_within_1 rfl (lv_at hl 0 rfl) ?_
  refine lv_iload_n hx hb dX2_within_2 rfl (lv_at hl 1 rfl) ?_
  refine va_mmin hx hb (by rw [hml]; exact hl.1.symm) hown (hts (.methodLink RX2 56 Lib.Math.min.name) (by decide +kernel)) (hts (.static Lib.Math.min.name) (by decide +kernel)) (hts (.initialized "java/lang/Math") (by decide +kernel)) (hts (.code Lib.Math.min.name Lib.Math.min.code 2 (some .int)) (by decide +kernel)) (by decide) (by decide) (by decide) (by decide) dX2_within_3 ?_
  refine va_mmax hx hb (by rw [hml]; exact hl.1.symm) hown (hts (.methodLink RX2 61 Lib.Math.max.name) (by decide +kernel)) (hts (.static Lib.Math.max.name) (by decide +kernel)) (hts (.initialized "java/lang/Math") (by decide +kernel)) (hts (.code Lib.Math.max.name Lib.Math.max.code 2 (some .int)) (by decide +kernel)) (by decide) (by decide) (by decide) (by decide) dX2_within_6 ?_
  exact W.iret hx hb hr (fun t ht hW => ⟨_, rfl, mm_within p0 m0, ht.trans hH.symm⟩) (fun _ h => by cases h) dX2_within_9
set_option maxHeartbeats 1000000 in
set_option maxRecDepth 100000 in
theorem c_naturals (l : Launch) (D : va_G) (cI cB cO : ClassId) (n w sz : Nat) (hw : w ≤ 22) (hn : n ≤ 25) : Met l yX2_naturals wsX2_naturals ({ frames := 2, cells := 51, slots := 650, locals := 33 }) (aPc [.int (nI n), .int (nI w)] D [] [(cI, .int), (cB, .byte), (cO, .object "BigLedger$Natural")] sz) (va_Qr (fun ad : Nat → Nat => wInj ad (2 * n + 1) ∧ ∀ i, i < 2 * n + 1 → sz ≤ ad i) (fun ad ra t => ra = ad 0 ∧ va_P D vwCl (wl ad (nsC ad cI cO n w) (2 * n + 1)) t.heap) (fun q => sz ≤ q)) 51 650 (fun q => sz ≤ q) := by
  refine Met.ofW (cc := cX2_naturals) (maxL := 4) (ret := (some (.array (.object "BigLedger$Natural")))) (by decide) rfl ?_
  intro p e s m args below meth c s₁ B hml hv
  obtain ⟨rfl, hsz, hP, hK, hM⟩ := hv
  have hx := B.exec
  have hb := B.bytes
  have hr := B.returns
  have hts := atoms_spec (ws := wsX2_naturals) B.pre
  have hown : s.vm.findClass RX2 = some m.cls := findClass_of_methodNamed B.named
  have hlocks := B.notSynchronized
  have hi1 : ∀ w ∈ wsX10, w ∈ wsX2_naturals := by decide +kernel
  have hA : ∀ q : Nat, s.heap.size ≤ q → (fun q => sz ≤ q) q := fun q h => by show sz ≤ q; omega
  have hD : va_D (fun q => sz ≤ q) [] := ⟨fun i j p q h => by simp at h, fun k q h => by simp at h⟩
  have hS : va_S (fun q => sz ≤ q) s.heap s.heap [] := va_S.rf
  have hl := lv_entry ([.int (nI n), .int (nI w)]) (n := 4) (Nat.le_of_ble_eq_true rfl)
  rw [lg_entry_eq]
  generalize (lg_sl ([.int (nI n), .int (nI w)]) ++ List.replicate (4 - (lg_sl ([.int (nI n), .int (nI w)])).length) Slot.unset).toArray = ls at hl ⊢
  have hl : lv_has ls 4 [(0, .int (nI n)), (1, .int (nI w))] := hl
  refine lv_iload_n hx hb dX2_naturals_0 rfl (lv_at hl 0 rfl) ?_
  refine va_newq (N' := n) hx hb hown (hts (.classLink RX2 40 RX1) (by decide +kernel)) hM.1 hK hP hD hS hA (nI_pos (by omega)) (nI_clamp (by omega)) (by omega) (by show 0 + 1 ≤ 51; omega) (by show 0 + n ≤ 650; omega) dX2_naturals_1 (fun qa cA H hK hP hD hS => ?_)
  have hca := (ka_eq hK 2 3 rfl rfl).symm
  subst hca
  refine W.widen (k := 1) (n := 25) (by omega) (by omega) ?_
  have hK : va_K D vwCl [(cI, .int), (cB, .byte), (cO, .object "BigLedger$Natural")] s := hK.sub [0, 1, 2] rfl
  refine lv_astore_n (lv' := [(2, .ref (qa)), (0, .int (nI n)), (1, .int (nI w))]) hx hb dX2_naturals_4 rfl hl (by decide) rfl (fun ls hl => ?_)
  refine lv_iconst (v := 0) hx hb dX2_naturals_5 (by decide) ?_
  refine lv_istore_n (lv' := [(3, .int ((0 : Int32))), (2, .ref (qa)), (0, .int (nI n)), (1, .int (nI w))]) hx hb dX2_naturals_6 rfl hl (by decide) rfl (fun ls hl => ?_)
  have loop : ∀ (k i : Nat) (ad : Nat → Nat) (H : Heap) (locs : List Loc) (ls : Array Slot), i + k = n → va_P D vwCl (wl ad (nsI ad cI cO n w i) (2 * i + 1)) H → va_D (fun q => sz ≤ q) (wl ad (nsI ad cI cO n w i) (2 * i + 1)) → va_S (fun q => sz ≤ q) s.heap H locs → lv_has ls 4 [(3, .int (nI i)), (2, .ref (ad 0)), (0, .int (nI n)), (1, .int (nI w))] → W p l e (headSpec wsX2_naturals ({ frames := 2, cells := 51, slots := 650, locals := 33 })).room s m ([.int (nI n), .int (nI w)]).toArray below meth c H locs (1 + 2 * i) (25 + 24 * i) (MQ below (va_Qr (fun ad : Nat → Nat => wInj ad (2 * n + 1) ∧ ∀ i, i < 2 * n + 1 → sz ≤ ad i) (fun ad ra t => ra = ad 0 ∧ va_P D vwCl (wl ad (nsC ad cI cO n w) (2 * n + 1)) t.heap) (fun q => sz ≤ q)) ([.int (nI n), .int (nI w)]).toArray s 51 650 (fun q => sz ≤ q)) (F0 m 7 ls []) := by
    intro k
    induction k with
    | zero =>
      intro i ad H locs ls hin hP hD hS hl
      have e9 : i = n := by omega
      refine lv_iload_n hx hb dX2_naturals_7 rfl (lv_at hl 0 rfl) ?_
      refine lv_aload_n hx hb dX2_naturals_8 rfl (lv_at hl 1 rfl) ?_
      refine va_alen (v := nI (n)) hx hb hK hP 0 2 (wl_at (by omega)) rfl (rfl) dX2_naturals_9 ?_
      refine lv_icmp_ge (tgt := 30) hx hb dX2_naturals_10 (by decide) (fun _ => ?_) (fun c9 => absurd (nI_le (by omega) (by omega)) c9)
      refine lv_aload_n hx hb dX2_naturals_30 rfl (lv_at hl 1 rfl) ?_
      refine W.widen (k := 51) (n := 650) (by omega) (by omega) ?_
      have hP9 : va_P D vwCl (wl ad (nsC ad cI cO n w) (2 * n + 1)) H := by
        subst e9
        refine wP_mk (fun j hj => ?_)
        have h1 := wP_at hP hj
        by_cases h2 : j = 0
        · subst h2
          exact atq_congr h1 (fun b hb => if_pos hb)
        · unfold nsI at h1
          rw [if_neg h2] at h1
          exact h1
      have hj9 := wInj_of hD
      subst e9
      exact W.aret (rt := .array (.object "BigLedger$Natural")) (v := .ref (ad 0)) hx hb hr (Or.inr ⟨_, rfl⟩) (Or.inr ⟨_, rfl⟩) (fun t ht hW => ⟨⟨ad, _, rfl, ⟨hj9, fun j hj => hD.2 j _ (wl_at hj)⟩, rfl, hp_at ht hP9⟩, hS.F ht⟩) hS.2.2 dX2_naturals_31
    | succ k ih =>
      intro i ad H locs ls hin hP hD hS hl
      refine lv_iload_n hx hb dX2_naturals_7 rfl (lv_at hl 0 rfl) ?_
      refine lv_aload_n hx hb dX2_naturals_8 rfl (lv_at hl 1 rfl) ?_
      refine va_alen (v := nI (n)) hx hb hK hP 0 2 (wl_at (by omega)) rfl (rfl) dX2_naturals_9 ?_
      refine lv_icmp_ge (tgt := 30) hx hb dX2_naturals_10 (by decide) (fun c9 => absurd c9 (nI_ge (by omega) (by omega))) (fun _ => ?_)
      refine lv_aload_n hx hb dX2_naturals_13 rfl (lv_at hl 1 rfl) ?_
      refine lv_iload_n hx hb dX2_naturals_14 rfl (lv_at hl 0 rfl) ?_
      refine va_new (ci := 1) (fs := [.null, .int 0]) (C := RX1) (T := TX1) (N := 2) hx hb hts hi1 tyX1 tyX1_ok hown (hts (.classLink RX2 40 RX1) (by decide +kernel)) (hts (.instantiable RX1 2) (by decide +kernel)) (hts (.initialized RX1) (by decide +kernel)) hK hP hD hS hA rfl (fun j hj => by rcases (show j = 0 ∨ j = 1 by omega) with rfl | rfl <;> rfl) (by show 1 + 2 * i + 1 ≤ 51; omega) (by show 25 + 24 * i + 2 ≤ 650; omega) dX2_naturals_15 (fun qo H hP hD hS => ?_)
      refine lv_dup hx hb dX2_naturals_18 rfl ?_
      refine lv_iload_n hx hb dX2_naturals_19 rfl (lv_at hl 3 rfl) ?_
      have hPo : va_P D vwCl [(qo, .inr (1, [.null, .int 0]))] H := vp_cons (hP (2 * i + 1) _ ap_last) vp_nil
      have hszH : sz ≤ H.size := by have := hS.1; omega
      have hOA : ∀ q, oA qo H.size q → sz ≤ q := fun q h => by
        rcases h with rfl | h
        · exact hD.2 (2 * i + 1) _ ap_last
        · omega
      refine va_callv (va_runI (As := [.int (nI w)]) (rest := [.ref (qo), .int (nI i), .ref (ad 0)]) ⟨hx, hb, hml, hown, hts⟩ (c_ninit l D cI cB cO qo w H.size hw) (cwI 1 hts gX2_naturals_X1_init rfl rfl rfl (hts (.initialized RX1) (by decide +kernel)) (hts (.methodLink RX2 42 yX1_init) (by decide +kernel)) (hts (.instanceMethod yX1_init) (by decide +kernel)) rfl (by decide +kernel) ⟨Nat.le_of_ble_eq_true rfl, Nat.le_of_ble_eq_true rfl⟩) ⟨aPc_blind, aPc_use (hPo) ⟨rfl, hK, hM⟩⟩ rfl rfl hl.1 rfl (lv_room (Nat.le_of_ble_eq_true rfl)) dX2_naturals_20 ⟨(by show 1 + 2 * i + 1 + 1 ≤ 51; omega), (by show 25 + 24 * i + 2 + 22 ≤ 650; omega)⟩) hS (fun q _ h => (fun q h => hOA q h) q h) (fun q h => hOA q h) (fun aa t H1 locs ht hvm hw9 hB hz1 hk9 hS => ?_)
      obtain ⟨ad2, ha0, ha1, hP2, hD2⟩ := ns_grow hP hD hw9.1 hk9 (pB_at ht hB) hszH
      have hl : lv_has ls 4 [(3, .int (nI i)), (2, .ref (ad2 0)), (0, .int (nI n)), (1, .int (nI w))] := by rw [ha0]; exact hl
      rw [← ha0, ← ha1]
      refine va_astq (A := fun q => sz ≤ q) (r := (RX1, TX1, 2)) hx hb hK hP2 hD2 hS 0 2 (2 * i + 1) 1 (wl_at (by omega)) rfl (nsI_at (by omega)) rfl (vp_in_nI (by omega) (by omega)) dX2_naturals_23 (fun H locs hP hD hS => ?_)
      rw [nI_clamp (by omega), nsI_s (by omega)] at hP hD
      refine lv_iinc (v := nI (i + 1)) (lv' := [(3, .int (nI (i + 1))), (2, .ref (ad2 0)), (0, .int (nI n)), (1, .int (nI w))]) hx hb dX2_naturals_24 hl (k := 0) rfl (nI_1 i) (by decide) rfl (fun ls hl => ?_)
      refine lv_goto (tgt := 7) hx hb dX2_naturals_27 (by decide) ?_
      refine W.widen (k := 1 + 2 * (i + 1)) (n := 25 + 24 * (i + 1)) (by omega) (by omega) ?_
      exact ih (i + 1) ad2 H locs ls (by omega) hP hD hS hl
  have hP : va_P D vwCl (wl (fun _ => qa) (nsI (fun _ => qa) cI cO n w 0) (2 * 0 + 1)) H := wP_mk (fun j hj => by
    have h2 : j = 0 := by omega
    subst h2
    exact atq_congr (hP 0 _ rfl) (fun b _ => (if_neg (Nat.not_lt_zero b)).symm))
  have hD : va_D (fun q => sz ≤ q) (wl (fun _ => qa) (nsI (fun _ => qa) cI cO n w 0) (2 * 0 + 1)) := wInj_D (fun j k hj hk _ => by omega) (fun j hj => hD.2 0 _ rfl)
  exact loop n 0 (fun _ => qa) H [] ls (by omega) hP hD hS hl

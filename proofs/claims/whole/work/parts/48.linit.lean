theorem nI_x10 {n : Nat} (h : n < 100) : nI n * 10 = nI (n * 10) := pk_mul n 10
set_option maxHeartbeats 4000000 in
set_option maxRecDepth 100000 in
theorem c_linit (l : Launch) (D : va_G) (cI cB cO : ClassId) (xo sz : Nat) (p0 p1 p2 : Int32) (acc lm rm : Nat) (hp0 : within0 p0 24 = nI acc) (hp1 : within0 p1 20 = nI lm) (hp2 : within0 p2 25 = nI rm) (ha1 : 1 ≤ acc) (ha2 : acc ≤ 24) (hl1 : 1 ≤ lm) (hl2 : lm ≤ 20) : Met l yX2_init wsX2_init ({ frames := 4, cells := 159, slots := 2204, locals := 78 }) (aPc [.ref (xo), .int (p0), .int (p1), .int (p2)] D [(xo, .inr (2, [.int 0, .int 0, .int 0, .null, .null, .int 0, .null, .int 0, .null, .null, .int 0]))] [(cI, .int), (cB, .byte), (cO, .object "BigLedger$Natural")] sz) (va_Qv (fun ad : Nat → Nat => lOk ad acc lm ∧ ad 0 = xo ∧ ∀ i, 0 < i → i < 6 * acc + 16 → sz ≤ ad i) (fun ad t => va_P D vwCl (lW ad cI cB cO acc lm rm NZ XZ zL (fun _ => 0)) t.heap) (oA xo sz)) 159 2204 (oA xo sz) := by
  refine Met.ofW (cc := cX2_init) (maxL := 6) (ret := none) (by decide) rfl ?_
  intro p e s m args below meth c s₁ B hml hv
  obtain ⟨rfl, hsz, hP, hK, hM⟩ := hv
  have hx := B.exec
  have hb := B.bytes
  have hr := B.returns
  have hts := atoms_spec (ws := wsX2_init) B.pre
  have hown : s.vm.findClass RX2 = some m.cls := findClass_of_methodNamed B.named
  have hlocks := B.notSynchronized
  have hin : meth.name = "<init>" := (name_of_methodNamed B.named B.method).1
  have hi0 : ∀ w ∈ wsX00, w ∈ wsX2_init := by decide +kernel
  have hi1 : ∀ w ∈ wsX10, w ∈ wsX2_init := by decide +kernel
  have hi2 : ∀ w ∈ wsX20, w ∈ wsX2_init := by decide +kernel
  have hS : va_S (oA xo sz) s.heap s.heap [] := va_S.rf
  have eo := hP 0 _ rfl
  have hxs : xo < sz := by have := eo.lt; simp only at this; omega
  have hl := lv_entry ([.ref (xo), .int (p0), .int (p1), .int (p2)]) (n := 6) (Nat.le_of_ble_eq_true rfl)
  rw [lg_entry_eq]
  generalize (lg_sl ([.ref (xo), .int (p0), .int (p1), .int (p2)]) ++ List.replicate (6 - (lg_sl ([.ref (xo), .int (p0), .int (p1), .int (p2)])).length) Slot.unset).toArray = ls at hl ⊢
  have hl : lv_has ls 6 [(0, .ref (xo)), (1, .int (p0)), (2, .int (p1)), (3, .int (p2))] := hl
  refine lv_aload_n hx hb dX2_init_0 rfl (lv_at hl 0 rfl) ?_
  refine W.objInit hx hb hown (hts (.methodLink RX2 1 objectInit) (by decide +kernel)) (hts (.instanceMethod objectInit) (by decide +kernel)) (hts (.code objectInit ⟨#[0xb1]⟩ 1 none) (by decide +kernel)) rfl (by rw [hml]; exact hl.1) rfl dX2_init_1 (Nat.le_of_ble_eq_true rfl) (Nat.le_of_ble_eq_true rfl) ?_
  refine W.eq (g2 := F0 m 4 ls []) rfl ?_
  have hz : sz ≤ s.heap.size := by omega
  refine lv_aload_n hx hb dX2_init_4 rfl (lv_at hl 0 rfl) ?_
  refine lv_iload_n hx hb dX2_init_5 rfl (lv_at hl 1 rfl) ?_
  refine lv_bipush (v := 24) hx hb dX2_init_6 (by decide) ?_
  refine vp_callSi (va_Run.run (va_runS (As := [.int p0, .int 24]) (rest := [.ref xo]) ⟨hx, hb, hml, hown, hts⟩ (c_within l p0 24) (va_cwS 2 hts gX2_init_X2_within rfl rfl rfl (by decide +kernel) ⟨Nat.le_of_ble_eq_true rfl, Nat.le_of_ble_eq_true rfl⟩) preEq rfl rfl hl.1 rfl (lv_room (Nat.le_of_ble_eq_true rfl)) dX2_init_8 ⟨Nat.le_of_ble_eq_true rfl, Nat.le_of_ble_eq_true rfl⟩)) (fun rb hrb => ?_)
  rw [hrb, hp0]
  refine xa_putF (D := D) (ci := 2) (v := .int (nI acc)) (ty := .int) (C := RX2) (T := TX2) (N := 11) hx hb hts hi2 tyX2 tyX2_ok nmX2 hown hK hS (Or.inl rfl) eo rfl 0 (by decide) (hts (.fieldLink RX2 13 "BigLedger" "accounts" "I") (by decide +kernel)) (fun _ h9 => h9) rfl hin rfl (by decide +kernel) rfl rfl (Nat.le_of_ble_eq_true rfl) dX2_init_11 (fun H9 locs e9 oq9 hz9 hS => ?_)
  replace eo : va_at D vwCl (xo, .inr (2, [.int (nI acc), .int 0, .int 0, .null, .null, .int 0, .null, .int 0, .null, .null, .int 0])) H9 := e9
  replace hz : sz ≤ H9.size := by omega
  refine lv_aload_n hx hb dX2_init_14 rfl (lv_at hl 0 rfl) ?_
  refine lv_iload_n hx hb dX2_init_15 rfl (lv_at hl 2 rfl) ?_
  refine lv_bipush (v := 20) hx hb dX2_init_16 (by decide) ?_
  refine vp_callSi (va_Run.run (va_runS (As := [.int p1, .int 20]) (rest := [.ref xo]) ⟨hx, hb, hml, hown, hts⟩ (c_within l p1 20) (va_cwS 2 hts gX2_init_X2_within rfl rfl rfl (by decide +kernel) ⟨Nat.le_of_ble_eq_true rfl, Nat.le_of_ble_eq_true rfl⟩) preEq rfl rfl hl.1 rfl (lv_room (Nat.le_of_ble_eq_true rfl)) dX2_init_18 ⟨Nat.le_of_ble_eq_true rfl, Nat.le_of_ble_eq_true rfl⟩)) (fun rb hrb => ?_)
  rw [hrb, hp1]
  refine xa_putF (D := D) (ci := 2) (v := .int (nI lm)) (ty := .int) (C := RX2) (T := TX2) (N := 11) hx hb hts hi2 tyX2 tyX2_ok nmX2 hown hK hS (Or.inl rfl) eo rfl 1 (by decide) (hts (.fieldLink RX2 17 "BigLedger" "limbs" "I") (by decide +kernel)) (fun _ h9 => h9) rfl hin rfl (by decide +kernel) rfl rfl (Nat.le_of_ble_eq_true rfl) dX2_init_21 (fun H9 locs e9 oq9 hz9 hS => ?_)
  replace eo : va_at D vwCl (xo, .inr (2, [.int (nI acc), .int (nI lm), .int 0, .null, .null, .int 0, .null, .int 0, .null, .null, .int 0])) H9 := e9
  replace hz : sz ≤ H9.size := by omega
  refine lv_aload_n hx hb dX2_init_24 rfl (lv_at hl 0 rfl) ?_
  refine lv_iload_n hx hb dX2_init_25 rfl (lv_at hl 3 rfl) ?_
  refine lv_bipush (v := 25) hx hb dX2_init_26 (by decide) ?_
  refine vp_callSi (va_Run.run (va_runS (As := [.int p2, .int 25]) (rest := [.ref xo]) ⟨hx, hb, hml, hown, hts⟩ (c_within l p2 25) (va_cwS 2 hts gX2_init_X2_within rfl rfl rfl (by decide +kernel) ⟨Nat.le_of_ble_eq_true rfl, Nat.le_of_ble_eq_true rfl⟩) preEq rfl rfl hl.1 rfl (lv_room (Nat.le_of_ble_eq_true rfl)) dX2_init_28 ⟨Nat.le_of_ble_eq_true rfl, Nat.le_of_ble_eq_true rfl⟩)) (fun rb hrb => ?_)
  rw [hrb, hp2]
  refine xa_putF (D := D) (ci := 2) (v := .int (nI rm)) (ty := .int) (C := RX2) (T := TX2) (N := 11) hx hb hts hi2 tyX2 tyX2_ok nmX2 hown hK hS (Or.inl rfl) eo rfl 2 (by decide) (hts (.fieldLink RX2 20 "BigLedger" "room" "I") (by decide +kernel)) (fun _ h9 => h9) rfl hin rfl (by decide +kernel) rfl rfl (Nat.le_of_ble_eq_true rfl) dX2_init_31 (fun H9 locs e9 oq9 hz9 hS => ?_)
  replace eo : va_at D vwCl (xo, .inr (2, [.int (nI acc), .int (nI lm), .int (nI rm), .null, .null, .int 0, .null, .int 0, .null, .null, .int 0])) H9 := e9
  replace hz : sz ≤ H9.size := by omega
  refine lv_aload_n hx hb dX2_init_34 rfl (lv_at hl 0 rfl) ?_
  refine va_get (D := D) (ci := 2) (v := .int (nI acc)) (C := RX2) (T := TX2) (N := 11) hx hb hts hi2 hown hK (vp_cons eo vp_nil) 0 rfl rfl 0 (by decide) (hts (.fieldLink RX2 13 "BigLedger" "accounts" "I") (by decide +kernel)) (fun _ h9 => h9) rfl dX2_init_35 ?_
  refine lv_iconst (v := 1) hx hb dX2_init_38 (by decide) ?_
  refine lv_iadd hx hb dX2_init_39 ?_
  refine lv_topi (fun y1 ey1 => ?_)
  replace ey1 : y1 = nI (acc + 1) := ey1.trans (nI_1 acc)
  subst ey1
  refine lv_istore (lv' := [(4, .int (nI (acc + 1))), (0, .ref (xo)), (1, .int (p0)), (2, .int (p1)), (3, .int (p2))]) hx hb dX2_init_40 hl (by decide) rfl (fun ls hl => ?_)
  refine lv_aload_n hx hb dX2_init_42 rfl (lv_at hl 1 rfl) ?_
  refine va_get (D := D) (ci := 2) (v := .int (nI lm)) (C := RX2) (T := TX2) (N := 11) hx hb hts hi2 hown hK (vp_cons eo vp_nil) 0 rfl rfl 1 (by decide) (hts (.fieldLink RX2 17 "BigLedger" "limbs" "I") (by decide +kernel)) (fun _ h9 => h9) rfl dX2_init_43 ?_
  refine lv_iconst (v := 1) hx hb dX2_init_46 (by decide) ?_
  refine lv_iadd hx hb dX2_init_47 ?_
  refine lv_topi (fun y2 ey2 => ?_)
  replace ey2 : y2 = nI (lm + 1) := ey2.trans (nI_1 lm)
  subst ey2
  refine lv_istore (lv' := [(5, .int (nI (lm + 1))), (4, .int (nI (acc + 1))), (0, .ref (xo)), (1, .int (p0)), (2, .int (p1)), (3, .int (p2))]) hx hb dX2_init_48 hl (by decide) rfl (fun ls hl => ?_)
  refine lv_aload_n hx hb dX2_init_50 rfl (lv_at hl 2 rfl) ?_
  refine xa_new (ci := 0) (fs := [.null, .null, .int 0, .int 0, .int 0, .int 0]) (C := RX0) (T := TX0) (N := 6) hx hb hts hi0 tyX0 tyX0_ok hown (hts (.classLink RX2 23 RX0) (by decide +kernel)) (hts (.instantiable RX0 6) (by decide +kernel)) (hts (.initialized RX0) (by decide +kernel)) hK hS rfl (fun j hj => by rcases (show j = 0 ∨ j = 1 ∨ j = 2 ∨ j = 3 ∨ j = 4 ∨ j = 5 by omega) with rfl | rfl | rfl | rfl | rfl | rfl <;> rfl) (by show 0 + 1 ≤ 159; omega) (by show 0 + 6 ≤ 2204; omega) dX2_init_51 (fun H8 en hz8 ho8 hS => ?_)
  replace eo := at_keep eo (ho8 _ eo.lt)
  generalize hq9 : Array.size H9 = d at en hz8 hz ⊢
  refine lv_dup hx hb dX2_init_54 rfl ?_
  refine lv_iload hx hb dX2_init_55 (lv_at hl 1 rfl) ?_
  refine lv_iload hx hb dX2_init_57 (lv_at hl 0 rfl) ?_
  refine va_callv (va_runI (As := [.int (nI (acc + 1)), .int (nI (lm + 1))]) (rest := [.ref d, .ref xo]) ⟨hx, hb, hml, hown, hts⟩ (c_dinit l D cI cB cO d (acc + 1) (lm + 1) (d + 1) (by omega) (by omega)) (cwI 2 hts gX2_init_X0_init rfl rfl rfl (hts (.initialized RX0) (by decide +kernel)) (hts (.methodLink RX2 25 yX0_init) (by decide +kernel)) (hts (.instanceMethod yX0_init) (by decide +kernel)) rfl (by decide +kernel) ⟨Nat.le_of_ble_eq_true rfl, Nat.le_of_ble_eq_true rfl⟩) ⟨aPc_blind, aPc_use (vp_cons en vp_nil) ⟨hz8, hK, hM⟩⟩ rfl rfl hl.1 rfl (lv_room (Nat.le_of_ble_eq_true rfl)) dX2_init_59 ⟨by show 1 + 102 ≤ 159; omega, by show 6 + 1300 ≤ 2204; omega⟩) hS (fun q _ h => Or.inr (by rcases h with h | h <;> omega)) (fun q h => Or.inr (by rcases h with h | h <;> omega)) (fun u t H1 locs ht hvm hw9 hB hz1 hk9 hS => ?_)
  replace eo := at_keep eo (hk9 _ eo.lt (fun q => by have h5 := eo.lt; simp only at h5; rcases q with q | q <;> omega))
  replace hz : sz ≤ H1.size := by omega
  obtain ⟨ha, la, b9⟩ := u
  obtain ⟨ih9, il9, fh, fl0⟩ := hw9
  obtain ⟨ed, eh, el⟩ := hB
  simp only at ih9 il9 fh fl0 ed eh el
  replace ed : va_at D vwCl (d, .inr (0, [.ref (ha 0), .ref (la 0), .int 0, .int 0, .int 0, .int (-1)])) H1 := by rw [← ht]; exact ed
  replace eh := pB_at ht eh
  replace el := pB_at ht el
  have hdd : sz ≤ d := by omega
  have hb9 : d < b9 := by have := fh 0 (by omega); omega
  have fl1 : ∀ i, i < 2 * (acc + 1) + 1 → b9 ≤ la i := fl0
  refine xa_putF (D := D) (ci := 2) (v := .ref d) (ty := .object "BigLedger$Disk") (C := RX2) (T := TX2) (N := 11) hx hb hts hi2 tyX2 tyX2_ok nmX2 hown hK hS (Or.inl rfl) eo rfl 3 (by decide) (hts (.fieldLink RX2 28 "BigLedger" "disk" "LBigLedger$Disk;") (by decide +kernel)) (fun _ h9 => h9) rfl hin rfl (by decide +kernel) rfl rfl (Nat.le_of_ble_eq_true rfl) dX2_init_62 (fun H9 locs e9 oq9 hz9 hS => ?_)
  replace eo : va_at D vwCl (xo, .inr (2, [.int (nI acc), .int (nI lm), .int (nI rm), .ref d, .null, .int 0, .null, .int 0, .null, .null, .int 0])) H9 := e9
  replace ed := at_keep ed (oq9 _ (by omega))
  replace eh := wl_keep eh (fun i hi => oq9 _ (by have := fh i hi; omega))
  replace el := wl_keep el (fun i hi => oq9 _ (by have := fl1 i hi; omega))
  replace hz : sz ≤ H9.size := by omega
  refine lv_aload_n hx hb dX2_init_65 rfl (lv_at hl 2 rfl) ?_
  refine lv_iload hx hb dX2_init_66 (lv_at hl 1 rfl) ?_
  refine lv_iload hx hb dX2_init_68 (lv_at hl 0 rfl) ?_
  have fl : ∀ i, i < 2 * (acc + 1) + 1 → b9 ≤ la i ∧ la i < H9.size := fun i hi => ⟨fl0 i hi, (wP_at el hi).lt⟩
  generalize hb3 : Array.size H9 = b3 at fl hz
  have hb93 : b9 ≤ b3 := by have := fl 0 (by omega); omega
  refine va_callr (va_runS (As := [.int (nI (acc + 1)), .int (nI (lm + 1))]) (rest := [.ref xo]) ⟨hx, hb, hml, hown, hts⟩ (c_naturals l D cI cB cO (acc + 1) (lm + 1) b3 (by omega) (by omega)) (va_cwS 2 hts gX2_init_X2_naturals rfl rfl rfl (by decide +kernel) ⟨Nat.le_of_ble_eq_true rfl, Nat.le_of_ble_eq_true rfl⟩) ⟨aPc_blind, aPc_use vp_nil ⟨hb3, hK, hM⟩⟩ rfl rfl hl.1 rfl (lv_room (Nat.le_of_ble_eq_true rfl)) dX2_init_70 ⟨by show 103 + 51 ≤ 159; omega, by show 1306 + 650 ≤ 2204; omega⟩) hS (fun q _ h => Or.inr (by omega)) (fun q h => Or.inr (by omega)) (fun pa ra t H1 locs ht hvm hw9 hB hz1 hk9 hS => ?_)
  obtain ⟨rfl, ep⟩ := hB
  replace ep := pB_at ht ep
  obtain ⟨ip9, fp0⟩ := hw9
  replace eo := at_keep eo (hk9 _ eo.lt (fun q => by have h5 := eo.lt; simp only at h5; omega))
  replace ed := at_keep ed (hk9 _ ed.lt (fun q => by have h5 := ed.lt; simp only at h5; omega))
  replace eh := wl_keep eh (fun i hi => hk9 _ (wP_at eh hi).lt (fun q => by have h5 := (wP_at eh hi).lt; simp only at h5; omega))
  replace el := wl_keep el (fun i hi => hk9 _ (wP_at el hi).lt (fun q => by have h5 := (wP_at el hi).lt; simp only at h5; omega))
  replace hz : sz ≤ H1.size := by omega
  refine xa_putF (D := D) (ci := 2) (v := .ref (pa 0)) (ty := .array (.object "BigLedger$Natural")) (C := RX2) (T := TX2) (N := 11) hx hb hts hi2 tyX2 tyX2_ok nmX2 hown hK hS (Or.inl rfl) eo rfl 4 (by decide) (hts (.fieldLink RX2 36 "BigLedger" "pending" "[LBigLedger$Natural;") (by decide +kernel)) (fun _ h9 => h9) rfl hin rfl (by decide +kernel) rfl rfl (Nat.le_of_ble_eq_true rfl) dX2_init_73 (fun H9 locs e9 oq9 hz9 hS => ?_)
  replace eo : va_at D vwCl (xo, .inr (2, [.int (nI acc), .int (nI lm), .int (nI rm), .ref d, .ref (pa 0), .int 0, .null, .int 0, .null, .null, .int 0])) H9 := e9
  replace ed := at_keep ed (oq9 _ (by omega))
  replace eh := wl_keep eh (fun i hi => oq9 _ (by have := fh i hi; omega))
  replace el := wl_keep el (fun i hi => oq9 _ (by have := fl1 i hi; omega))
  replace ep := wl_keep ep (fun i hi => oq9 _ (by have := fp0 i hi; omega))
  replace hz : sz ≤ H9.size := by omega
  refine lv_aload_n hx hb dX2_init_76 rfl (lv_at hl 2 rfl) ?_
  have fp1 : ∀ i, i < 2 * (acc + 1) + 1 → b3 ≤ pa i ∧ pa i < H9.size := fun i hi => ⟨fp0 i hi, (wP_at ep hi).lt⟩
  obtain ⟨am, ham⟩ : ∃ am, Array.size H9 = am := ⟨_, rfl⟩
  rw [ham] at fp1
  refine xa_new (ci := 1) (fs := [.null, .int 0]) (C := RX1) (T := TX1) (N := 2) hx hb hts hi1 tyX1 tyX1_ok hown (hts (.classLink RX2 40 RX1) (by decide +kernel)) (hts (.instantiable RX1 2) (by decide +kernel)) (hts (.initialized RX1) (by decide +kernel)) hK hS rfl (fun j hj => by rcases (show j = 0 ∨ j = 1 by omega) with rfl | rfl <;> rfl) (by show 154 + 1 ≤ 159; omega) (by show 1956 + 2 ≤ 2204; omega) dX2_init_77 (fun H8 en hz8 ho8 hS => ?_)
  replace eo := at_keep eo (ho8 _ eo.lt)
  replace ed := at_keep ed (ho8 _ ed.lt)
  replace eh := wl_keep eh (fun i hi => ho8 _ (wP_at eh hi).lt)
  replace el := wl_keep el (fun i hi => ho8 _ (wP_at el hi).lt)
  replace ep := wl_keep ep (fun i hi => ho8 _ (wP_at ep hi).lt)
  rw [ham] at en hz8 ⊢
  refine lv_dup hx hb dX2_init_80 rfl ?_
  refine lv_iload hx hb dX2_init_81 (lv_at hl 0 rfl) ?_
  have hmz : sz ≤ am := by omega
  have hb3m : b3 < am := by have := fp1 0 (by omega); omega
  refine va_callv (va_runI (As := [.int (nI (lm + 1))]) (rest := [.ref am, .ref xo]) ⟨hx, hb, hml, hown, hts⟩ (c_ninit l D cI cB cO am (lm + 1) (am + 1) (by omega)) (cwI 1 hts gX2_init_X1_init rfl rfl rfl (hts (.initialized RX1) (by decide +kernel)) (hts (.methodLink RX2 42 yX1_init) (by decide +kernel)) (hts (.instanceMethod yX1_init) (by decide +kernel)) rfl (by decide +kernel) ⟨Nat.le_of_ble_eq_true rfl, Nat.le_of_ble_eq_true rfl⟩) ⟨aPc_blind, aPc_use (vp_cons en vp_nil) ⟨hz8, hK, hM⟩⟩ rfl rfl hl.1 rfl (lv_room (Nat.le_of_ble_eq_true rfl)) dX2_init_83 ⟨by show 155 + 1 ≤ 159; omega, by show 1958 + 22 ≤ 2204; omega⟩) hS (fun q _ h => Or.inr (by rcases h with h | h <;> omega)) (fun q h => Or.inr (by rcases h with h | h <;> omega)) (fun am' t H1 locs ht hvm hw9 hB hz1 hk9 hS => ?_)
  replace eo := at_keep eo (hk9 _ eo.lt (fun q => by have h5 := eo.lt; simp only at h5; rcases q with q | q <;> omega))
  replace ed := at_keep ed (hk9 _ ed.lt (fun q => by have h5 := ed.lt; simp only at h5; rcases q with q | q <;> omega))
  replace eh := wl_keep eh (fun i hi => hk9 _ (wP_at eh hi).lt (fun q => by have := fh i hi; have h5 := (wP_at eh hi).lt; simp only at h5; rcases q with q | q <;> omega))
  replace el := wl_keep el (fun i hi => hk9 _ (wP_at el hi).lt (fun q => by have := fl i hi; have h5 := (wP_at el hi).lt; simp only at h5; rcases q with q | q <;> omega))
  replace ep := wl_keep ep (fun i hi => hk9 _ (wP_at ep hi).lt (fun q => by have := fp1 i hi; have h5 := (wP_at ep hi).lt; simp only at h5; rcases q with q | q <;> omega))
  replace hz : sz ≤ H1.size := by omega
  replace hB := pB_at ht hB
  have ea0 := hB 0 _ rfl
  have ea1 := hB 1 _ rfl
  have ham1 := hw9.1
  refine xa_putF (D := D) (ci := 2) (v := .ref am) (ty := .object "BigLedger$Natural") (C := RX2) (T := TX2) (N := 11) hx hb hts hi2 tyX2 tyX2_ok nmX2 hown hK hS (Or.inl rfl) eo rfl 6 (by decide) (hts (.fieldLink RX2 45 "BigLedger" "amount" "LBigLedger$Natural;") (by decide +kernel)) (fun _ h9 => h9) rfl hin rfl (by decide +kernel) rfl rfl (Nat.le_of_ble_eq_true rfl) dX2_init_86 (fun H9 locs e9 oq9 hz9 hS => ?_)
  replace eo : va_at D vwCl (xo, .inr (2, [.int (nI acc), .int (nI lm), .int (nI rm), .ref d, .ref (pa 0), .int 0, .ref am, .int 0, .null, .null, .int 0])) H9 := e9
  replace ed := at_keep ed (oq9 _ (by omega))
  replace eh := wl_keep eh (fun i hi => oq9 _ (by have := fh i hi; omega))
  replace el := wl_keep el (fun i hi => oq9 _ (by have := fl i hi; omega))
  replace ep := wl_keep ep (fun i hi => oq9 _ (by have := fp1 i hi; omega))
  replace ea0 := at_keep ea0 (oq9 _ (by omega))
  replace ea1 := at_keep ea1 (oq9 _ (by omega))
  replace hz : sz ≤ H9.size := by omega
  refine lv_aload_n hx hb dX2_init_89 rfl (lv_at hl 2 rfl) ?_
  obtain ⟨sc, hsc⟩ : ∃ sc, Array.size H9 = sc := ⟨_, rfl⟩
  have hasc : am' < sc := by have := ea1.lt; simp only at this; omega
  refine xa_new (ci := 1) (fs := [.null, .int 0]) (C := RX1) (T := TX1) (N := 2) hx hb hts hi1 tyX1 tyX1_ok hown (hts (.classLink RX2 40 RX1) (by decide +kernel)) (hts (.instantiable RX1 2) (by decide +kernel)) (hts (.initialized RX1) (by decide +kernel)) hK hS rfl (fun j hj => by rcases (show j = 0 ∨ j = 1 by omega) with rfl | rfl <;> rfl) (by show 156 + 1 ≤ 159; omega) (by show 1980 + 2 ≤ 2204; omega) dX2_init_90 (fun H8 en hz8 ho8 hS => ?_)
  replace eo := at_keep eo (ho8 _ eo.lt)
  replace ed := at_keep ed (ho8 _ ed.lt)
  replace eh := wl_keep eh (fun i hi => ho8 _ (wP_at eh hi).lt)
  replace el := wl_keep el (fun i hi => ho8 _ (wP_at el hi).lt)
  replace ep := wl_keep ep (fun i hi => ho8 _ (wP_at ep hi).lt)
  replace ea0 := at_keep ea0 (ho8 _ ea0.lt)
  replace ea1 := at_keep ea1 (ho8 _ ea1.lt)
  rw [hsc] at en hz8 ⊢
  refine lv_dup hx hb dX2_init_93 rfl ?_
  refine lv_iload hx hb dX2_init_94 (lv_at hl 0 rfl) ?_
  refine va_callv (va_runI (As := [.int (nI (lm + 1))]) (rest := [.ref sc, .ref xo]) ⟨hx, hb, hml, hown, hts⟩ (c_ninit l D cI cB cO sc (lm + 1) (sc + 1) (by omega)) (cwI 1 hts gX2_init_X1_init rfl rfl rfl (hts (.initialized RX1) (by decide +kernel)) (hts (.methodLink RX2 42 yX1_init) (by decide +kernel)) (hts (.instanceMethod yX1_init) (by decide +kernel)) rfl (by decide +kernel) ⟨Nat.le_of_ble_eq_true rfl, Nat.le_of_ble_eq_true rfl⟩) ⟨aPc_blind, aPc_use (vp_cons en vp_nil) ⟨hz8, hK, hM⟩⟩ rfl rfl hl.1 rfl (lv_room (Nat.le_of_ble_eq_true rfl)) dX2_init_96 ⟨by show 157 + 1 ≤ 159; omega, by show 1982 + 22 ≤ 2204; omega⟩) hS (fun q _ h => Or.inr (by rcases h with h | h <;> omega)) (fun q h => Or.inr (by rcases h with h | h <;> omega)) (fun sc' t H1 locs ht hvm hw9 hB hz1 hk9 hS => ?_)
  replace eo := at_keep eo (hk9 _ eo.lt (fun q => by have h5 := eo.lt; simp only at h5; rcases q with q | q <;> omega))
  replace ed := at_keep ed (hk9 _ ed.lt (fun q => by have h5 := ed.lt; simp only at h5; rcases q with q | q <;> omega))
  replace eh := wl_keep eh (fun i hi => hk9 _ (wP_at eh hi).lt (fun q => by have := fh i hi; have h5 := (wP_at eh hi).lt; simp only at h5; rcases q with q | q <;> omega))
  replace el := wl_keep el (fun i hi => hk9 _ (wP_at el hi).lt (fun q => by have := fl i hi; have h5 := (wP_at el hi).lt; simp only at h5; rcases q with q | q <;> omega))
  replace ep := wl_keep ep (fun i hi => hk9 _ (wP_at ep hi).lt (fun q => by have := fp1 i hi; have h5 := (wP_at ep hi).lt; simp only at h5; rcases q with q | q <;> omega))
  replace ea0 := at_keep ea0 (hk9 _ ea0.lt (fun q => by have h5 := ea0.lt; simp only at h5; rcases q with q | q <;> omega))
  replace ea1 := at_keep ea1 (hk9 _ ea1.lt (fun q => by have h5 := ea1.lt; simp only at h5; rcases q with q | q <;> omega))
  replace hz : sz ≤ H1.size := by omega
  replace hB := pB_at ht hB
  have es0 := hB 0 _ rfl
  have es1 := hB 1 _ rfl
  have hsc1 := hw9.1
  refine xa_putF (D := D) (ci := 2) (v := .ref sc) (ty := .object "BigLedger$Natural") (C := RX2) (T := TX2) (N := 11) hx hb hts hi2 tyX2 tyX2_ok nmX2 hown hK hS (Or.inl rfl) eo rfl 8 (by decide) (hts (.fieldLink RX2 49 "BigLedger" "scratch" "LBigLedger$Natural;") (by decide +kernel)) (fun _ h9 => h9) rfl hin rfl (by decide +kernel) rfl rfl (Nat.le_of_ble_eq_true rfl) dX2_init_99 (fun H9 locs e9 oq9 hz9 hS => ?_)
  replace eo : va_at D vwCl (xo, .inr (2, [.int (nI acc), .int (nI lm), .int (nI rm), .ref d, .ref (pa 0), .int 0, .ref am, .int 0, .ref sc, .null, .int 0])) H9 := e9
  replace ed := at_keep ed (oq9 _ (by omega))
  replace eh := wl_keep eh (fun i hi => oq9 _ (by have := fh i hi; omega))
  replace el := wl_keep el (fun i hi => oq9 _ (by have := fl i hi; omega))
  replace ep := wl_keep ep (fun i hi => oq9 _ (by have := fp1 i hi; omega))
  replace ea0 := at_keep ea0 (oq9 _ (by omega))
  replace ea1 := at_keep ea1 (oq9 _ (by omega))
  replace es0 := at_keep es0 (oq9 _ (by omega))
  replace es1 := at_keep es1 (oq9 _ (by omega))
  replace hz : sz ≤ H9.size := by omega
  refine lv_aload_n hx hb dX2_init_102 rfl (lv_at hl 2 rfl) ?_
  refine lv_aload_n hx hb dX2_init_103 rfl (lv_at hl 2 rfl) ?_
  refine va_get (D := D) (ci := 2) (v := .int (nI lm)) (C := RX2) (T := TX2) (N := 11) hx hb hts hi2 hown hK (vp_cons eo vp_nil) 0 rfl rfl 1 (by decide) (hts (.fieldLink RX2 17 "BigLedger" "limbs" "I") (by decide +kernel)) (fun _ h9 => h9) rfl dX2_init_104 ?_
  refine lv_bipush (v := 10) hx hb dX2_init_107 (by decide) ?_
  refine lv_imul hx hb dX2_init_109 ?_
  refine lv_topi (fun y3 ey3 => ?_)
  replace ey3 : y3 = nI (lm * 10) := ey3.trans (nI_x10 (by omega))
  subst ey3
  obtain ⟨ou, hou⟩ : ∃ ou, Array.size H9 = ou := ⟨_, rfl⟩
  have hsou : sc' < ou := by have := es1.lt; simp only at this; omega
  refine xa_newa (atype := .byte) (ty := .byte) (N' := lm * 10) (a0 := (lm * 10, .inl (fun _ => 0))) hx hb (hts (.arrayClass .byte) (by decide +kernel)) rfl hK 1 rfl ra_b hS (nw_b (lm * 10)) (nI_pos (by omega)) (nI_clamp (by omega)) (by_b (by omega)) (by show 158 + 1 ≤ 159; omega) (by show 2004 + lm * 10 ≤ 2204; omega) dX2_init_110 (fun H8 eu hz8 ho8 hS => ?_)
  replace eo := at_keep eo (ho8 _ eo.lt)
  replace ed := at_keep ed (ho8 _ ed.lt)
  replace eh := wl_keep eh (fun i hi => ho8 _ (wP_at eh hi).lt)
  replace el := wl_keep el (fun i hi => ho8 _ (wP_at el hi).lt)
  replace ep := wl_keep ep (fun i hi => ho8 _ (wP_at ep hi).lt)
  replace ea0 := at_keep ea0 (ho8 _ ea0.lt)
  replace ea1 := at_keep ea1 (ho8 _ ea1.lt)
  replace es0 := at_keep es0 (ho8 _ es0.lt)
  replace es1 := at_keep es1 (ho8 _ es1.lt)
  rw [hou] at eu hz8 ⊢
  refine W.widen (k := 159) (n := 2204) (by omega) (by omega) ?_
  refine xa_putF (D := D) (ci := 2) (v := .ref ou) (ty := .array (.byte)) (C := RX2) (T := TX2) (N := 11) hx hb hts hi2 tyX2 tyX2_ok nmX2 hown hK hS (Or.inl rfl) eo rfl 9 (by decide) (hts (.fieldLink RX2 52 "BigLedger" "outBackwards" "[B") (by decide +kernel)) (fun _ h9 => h9) rfl hin rfl (by decide +kernel) rfl rfl (Nat.le_of_ble_eq_true rfl) dX2_init_112 (fun H9 locs e9 oq9 hz9 hS => ?_)
  replace eo : va_at D vwCl (xo, .inr (2, [.int (nI acc), .int (nI lm), .int (nI rm), .ref d, .ref (pa 0), .int 0, .ref am, .int 0, .ref sc, .ref ou, .int 0])) H9 := e9
  replace ed := at_keep ed (oq9 _ (by omega))
  replace eh := wl_keep eh (fun i hi => oq9 _ (by have := fh i hi; omega))
  replace el := wl_keep el (fun i hi => oq9 _ (by have := fl i hi; omega))
  replace ep := wl_keep ep (fun i hi => oq9 _ (by have := fp1 i hi; omega))
  replace ea0 := at_keep ea0 (oq9 _ (by omega))
  replace ea1 := at_keep ea1 (oq9 _ (by omega))
  replace es0 := at_keep es0 (oq9 _ (by omega))
  replace es1 := at_keep es1 (oq9 _ (by omega))
  replace eu := at_keep eu (oq9 _ (by omega))
  replace hz : sz ≤ H9.size := by omega
  obtain ⟨hok9, had9⟩ := adL_ok (x := xo) (d := d) (ou := ou) (am := am) (am' := am') (sc := sc) (sc' := sc') (pa := pa) (ha := ha) (la := la) (acc := acc) (lm := lm) (sz := sz) (b1 := d + 1) (b2 := b9) (b3 := b3) (b4 := am) ha2 hl1 hl2 hxs ⟨hdd, by omega⟩ fh fl fp1 ih9 il9 ip9 (Nat.le_refl am) (by omega) hasc (by omega) hsou
  have hP9 := lW_mk (x := xo) (d := d) (ou := ou) (am := am) (am' := am') (sc := sc) (sc' := sc') (pa := pa) (ha := ha) (la := la) (cB := cB) (acc := acc) (lm := lm) (rm := rm) eo ed eh el ep (vp_cons ea0 (vp_cons ea1 vp_nil)) (vp_cons es0 (vp_cons es1 vp_nil)) eu
  exact W.vret hx hb hr (fun t ht hW => ⟨⟨_, rfl, ⟨hok9, rfl, had9⟩, hp_at ht hP9⟩, hS.F ht⟩) hS.2.2 dX2_init_115

set_option maxHeartbeats 4000000 in
set_option maxRecDepth 100000 in
theorem c_dinit (l : Launch) (D : va_G) (cI cB cO : ClassId) (d n w sz : Nat) (hw : w ≤ 22) (hn : n ≤ 25) : Met l yX0_init wsX0_init ({ frames := 3, cells := 102, slots := 1300, locals := 56 }) (aPc [.ref d, .int (nI n), .int (nI w)] D [(d, .inr (0, [.null, .null, .int 0, .int 0, .int 0, .int 0]))] [(cI, .int), (cB, .byte), (cO, .object "BigLedger$Natural")] sz) (va_Qv (fun u : (Nat → Nat) × (Nat → Nat) × Nat => wInj u.1 (2 * n + 1) ∧ wInj u.2.1 (2 * n + 1) ∧ (∀ i, i < 2 * n + 1 → sz ≤ u.1 i ∧ u.1 i < u.2.2) ∧ ∀ i, i < 2 * n + 1 → u.2.2 ≤ u.2.1 i) (fun u t => va_at D vwCl (d, .inr (0, [.ref (u.1 0), .ref (u.2.1 0), .int 0, .int 0, .int 0, .int (-1)])) t.heap ∧ va_P D vwCl (wl u.1 (nsC u.1 cI cO n w) (2 * n + 1)) t.heap ∧ va_P D vwCl (wl u.2.1 (nsC u.2.1 cI cO n w) (2 * n + 1)) t.heap) (oA d sz)) 102 1300 (oA d sz) := by
  refine Met.ofW (cc := cX0_init) (maxL := 3) (ret := none) (by decide) rfl ?_
  intro p e s m args below meth c s₁ B hml hv
  obtain ⟨rfl, hsz, hP, hK, hM⟩ := hv
  have hx := B.exec
  have hb := B.bytes
  have hr := B.returns
  have hts := atoms_spec (ws := wsX0_init) B.pre
  have hown : s.vm.findClass RX0 = some m.cls := findClass_of_methodNamed B.named
  have hlocks := B.notSynchronized
  have hin : meth.name = "<init>" := (name_of_methodNamed B.named B.method).1
  have hi0 : ∀ w ∈ wsX00, w ∈ wsX0_init := by decide +kernel
  have hS : va_S (oA d sz) s.heap s.heap [] := va_S.rf
  have eo := hP 0 _ rfl
  have hds : d < sz := by have := eo.lt; simp only at this; omega
  have hl := lv_entry ([.ref (d), .int (nI n), .int (nI w)]) (n := 3) (Nat.le_of_ble_eq_true rfl)
  rw [lg_entry_eq]
  generalize (lg_sl ([.ref (d), .int (nI n), .int (nI w)]) ++ List.replicate (3 - (lg_sl ([.ref (d), .int (nI n), .int (nI w)])).length) Slot.unset).toArray = ls at hl ⊢
  have hl : lv_has ls 3 [(0, .ref (d)), (1, .int (nI n)), (2, .int (nI w))] := hl
  refine lv_aload_n hx hb dX0_init_0 rfl (lv_at hl 0 rfl) ?_
  refine W.objInit hx hb hown (hts (.methodLink RX0 3 objectInit) (by decide +kernel)) (hts (.instanceMethod objectInit) (by decide +kernel)) (hts (.code objectInit ⟨#[0xb1]⟩ 1 none) (by decide +kernel)) rfl (by rw [hml]; exact hl.1) rfl dX0_init_1 (Nat.le_of_ble_eq_true rfl) (Nat.le_of_ble_eq_true rfl) ?_
  refine W.eq (g2 := F0 m 4 ls []) rfl ?_
  refine lv_aload_n hx hb dX0_init_4 rfl (lv_at hl 0 rfl) ?_
  refine lv_iload_n hx hb dX0_init_5 rfl (lv_at hl 1 rfl) ?_
  refine lv_iload_n hx hb dX0_init_6 rfl (lv_at hl 2 rfl) ?_
  have hszH : sz ≤ s.heap.size := by omega
  refine va_callr (va_runSN (host := RX2) (As := [.int (nI n), .int (nI w)]) (rest := [.ref d]) ⟨hx, hb, hml, hown, hts⟩ (c_naturals l D cI cB cO n w s.heap.size hw hn) ⟨va_cnB 2 hts gX0_init_X2_naturals_n9 rfl rfl rfl hM.2 (hts (.initialized RX2) (by decide +kernel)) (by decide +kernel) ⟨Nat.le_of_ble_eq_true rfl, Nat.le_of_ble_eq_true rfl⟩, hts (.static yX2_naturals) (by decide +kernel), trivial⟩ ⟨aPc_blind, aPc_use vp_nil ⟨rfl, hK, hM⟩⟩ rfl rfl hl.1 rfl (lv_room (Nat.le_of_ble_eq_true rfl)) dX0_init_7 ⟨by show 0 + 51 ≤ 102; omega, by show 0 + 650 ≤ 1300; omega⟩) hS (fun q _ h => Or.inr (Nat.le_trans hszH h)) (fun q h => Or.inr (Nat.le_trans hszH h)) (fun ha ra t H1 locs ht hvm wh hB hz1 hk9 hS => ?_)
  obtain ⟨rfl, eh⟩ := hB
  replace eh := pB_at ht eh
  replace eo := at_keep eo (hk9 _ eo.lt (fun q => by have := eo.lt; omega))
  have ihs : ∀ i, i < 2 * n + 1 → sz ≤ ha i := fun i hi => by have := wh.2 i hi; omega
  refine xa_putF (D := D) (ci := 0) (v := .ref (ha 0)) (ty := .array (.object "BigLedger$Natural")) (C := RX0) (T := TX0) (N := 6) hx hb hts hi0 tyX0 tyX0_ok nmX0 hown hK hS (Or.inl rfl) eo rfl 0 (by decide) (hts (.fieldLink RX0 13 "BigLedger$Disk" "home" "[LBigLedger$Natural;") (by decide +kernel)) (fun _ h9 => h9) rfl hin rfl (by decide +kernel) rfl rfl (Nat.le_of_ble_eq_true rfl) dX0_init_10 (fun H9 locs e9 oq9 hz9 hS => ?_)
  replace eo : va_at D vwCl (d, .inr (0, [.ref (ha 0), .null, .int 0, .int 0, .int 0, .int 0])) H9 := e9
  replace eh := wl_keep eh (fun i hi => oq9 _ (by have := ihs i hi; omega))
  refine lv_aload_n hx hb dX0_init_13 rfl (lv_at hl 0 rfl) ?_
  refine lv_iload_n hx hb dX0_init_14 rfl (lv_at hl 1 rfl) ?_
  refine lv_iload_n hx hb dX0_init_15 rfl (lv_at hl 2 rfl) ?_
  have hszH : sz ≤ H9.size := by have := hz1; have := hz9; omega
  have hlt : ∀ i, i < 2 * n + 1 → ha i < H9.size := fun i hi => (wP_at eh hi).lt
  generalize hb9 : H9.size = b9 at hszH hlt
  have hl9 : H9.size = b9 := hb9
  refine va_callr (va_runSN (host := RX2) (As := [.int (nI n), .int (nI w)]) (rest := [.ref d]) ⟨hx, hb, hml, hown, hts⟩ (c_naturals l D cI cB cO n w b9 hw hn) ⟨va_cnB 2 hts gX0_init_X2_naturals_n9 rfl rfl rfl hM.2 (hts (.initialized RX2) (by decide +kernel)) (by decide +kernel) ⟨Nat.le_of_ble_eq_true rfl, Nat.le_of_ble_eq_true rfl⟩, hts (.static yX2_naturals) (by decide +kernel), trivial⟩ ⟨aPc_blind, aPc_use vp_nil ⟨hl9, hK, hM⟩⟩ rfl rfl hl.1 rfl (lv_room (Nat.le_of_ble_eq_true rfl)) dX0_init_16 ⟨by show 51 + 51 ≤ 102; omega, by show 650 + 650 ≤ 1300; omega⟩) hS (fun q _ h => Or.inr (Nat.le_trans hszH h)) (fun q h => Or.inr (Nat.le_trans hszH h)) (fun la ra t H1 locs ht hvm wk hB hz1 hk9 hS => ?_)
  obtain ⟨rfl, el⟩ := hB
  replace el := pB_at ht el
  replace eo := at_keep eo (hk9 _ eo.lt (fun q => by have := eo.lt; omega))
  replace eh := wl_keep eh (fun i hi => hk9 _ (wP_at eh hi).lt (fun q => by have := (wP_at eh hi).lt; omega))
  have ils : ∀ i, i < 2 * n + 1 → b9 ≤ la i := fun i hi => by have := wk.2 i hi; omega
  refine xa_putF (D := D) (ci := 0) (v := .ref (la 0)) (ty := .array (.object "BigLedger$Natural")) (C := RX0) (T := TX0) (N := 6) hx hb hts hi0 tyX0 tyX0_ok nmX0 hown hK hS (Or.inl rfl) eo rfl 1 (by decide) (hts (.fieldLink RX0 19 "BigLedger$Disk" "log" "[LBigLedger$Natural;") (by decide +kernel)) (fun _ h9 => h9) rfl hin rfl (by decide +kernel) rfl rfl (Nat.le_of_ble_eq_true rfl) dX0_init_19 (fun H9 locs e9 oq9 hz9 hS => ?_)
  replace eo : va_at D vwCl (d, .inr (0, [.ref (ha 0), .ref (la 0), .int 0, .int 0, .int 0, .int 0])) H9 := e9
  replace eh := wl_keep eh (fun i hi => oq9 _ (by have := ihs i hi; omega))
  replace el := wl_keep el (fun i hi => oq9 _ (by have := ils i hi; omega))
  refine lv_aload_n hx hb dX0_init_22 rfl (lv_at hl 0 rfl) ?_
  refine lv_iconst (v := (-1)) hx hb dX0_init_23 (by decide) ?_
  refine xa_put (D := D) (ci := 0) (v := .int (-1)) (ty := .int) (C := RX0) (T := TX0) (N := 6) hx hb hts hi0 tyX0 tyX0_ok nmX0 hown hK hS (Or.inl rfl) eo rfl 5 (by decide) (hts (.fieldLink RX0 22 "BigLedger$Disk" "writesUntilStop" "I") (by decide +kernel)) (fun _ h9 => h9) rfl (by decide +kernel) rfl rfl (Nat.le_of_ble_eq_true rfl) dX0_init_24 (fun H9 locs e9 oq9 hz9 hS => ?_)
  replace eo : va_at D vwCl (d, .inr (0, [.ref (ha 0), .ref (la 0), .int 0, .int 0, .int 0, .int (-1)])) H9 := e9
  replace eh := wl_keep eh (fun i hi => oq9 _ (by have := ihs i hi; omega))
  replace el := wl_keep el (fun i hi => oq9 _ (by have := ils i hi; omega))
  exact W.vret hx hb hr (fun t ht hW => ⟨⟨(ha, la, b9), rfl, ⟨wh.1, wk.1, fun i hi => ⟨ihs i hi, hlt i hi⟩, ils⟩, by rw [ht]; exact eo, hp_at ht eh, hp_at ht el⟩, hS.F ht⟩) hS.2.2 dX0_init_27

set_option maxHeartbeats 4000000 in
set_option maxRecDepth 100000 in
theorem m_init (l : Launch) (D : va_G) (cI cZ cB : ClassId) (xo sz : Nat) (p0 p1 p2 : Int32) (acc lm rm : Nat) (hp0 : clI p0 24 = nI acc) (hp1 : clI p1 20 = nI lm) (hp2 : clI p2 25 = nI rm) : Met l yX3_init wsX3_init ({ frames := 1, cells := 8, slots := 2066, locals := 12 }) (va_Pc [.ref xo, .int p0, .int p1, .int p2] (fun U => U.heap.size = sz ∧ va_at D vwCl (xo, .inr (3, [.int 0, .int 0, .int 0, .int 0, .null, .null, .null, .null, .null, .null, .null, .int 0, .int 0, .int 0, .int 0, .int 0, .null, .int 0])) U.heap ∧ va_K D vwCl [(cI, .int), (cZ, .boolean), (cB, .byte)] U)) (va_Qv (fun _ : Unit => True) (fun _ t => va_P D vwCl (rW (gM xo sz) cI cZ cB acc lm rm FM yM) t.heap) (oA xo sz)) 8 2066 (oA xo sz) := by
  refine Met.ofW (cc := cX3_init) (maxL := 4) (ret := none) (by decide) rfl ?_
  intro p e s m args below meth c s₁ B hml hv
  obtain ⟨rfl, hsz, eo, hK⟩ := hv
  have hx := B.exec
  have hb := B.bytes
  have hr := B.returns
  have hts := atoms_spec (ws := wsX3_init) B.pre
  have hown : s.vm.findClass RX3 = some m.cls := findClass_of_methodNamed B.named
  have hlocks := B.notSynchronized
  have hin : meth.name = "<init>" := (name_of_methodNamed B.named B.method).1
  have hi3 : ∀ w ∈ wsX30, w ∈ wsX3_init := by decide +kernel
  have hS : va_S (oA xo sz) s.heap s.heap [] := va_S.rf
  have hxs : xo < sz := by have := eo.lt; simp only at this; omega
  have hl := lv_entry ([.ref (xo), .int (p0), .int (p1), .int (p2)]) (n := 4) (Nat.le_of_ble_eq_true rfl)
  rw [lg_entry_eq]
  generalize (lg_sl ([.ref (xo), .int (p0), .int (p1), .int (p2)]) ++ List.replicate (4 - (lg_sl ([.ref (xo), .int (p0), .int (p1), .int (p2)])).length) Slot.unset).toArray = ls at hl ⊢
  have hl : lv_has ls 4 [(0, .ref (xo)), (1, .int (p0)), (2, .int (p1)), (3, .int (p2))] := hl
  refine lv_aload_n hx hb dX3_init_0 rfl (lv_at hl 0 rfl) ?_
  refine W.objInit hx hb hown (hts (.methodLink RX3 7 objectInit) (by decide +kernel)) (hts (.instanceMethod objectInit) (by decide +kernel)) (hts (.code objectInit ⟨#[0xb1]⟩ 1 none) (by decide +kernel)) rfl (by rw [hml]; exact hl.1) rfl dX3_init_1 (Nat.le_of_ble_eq_true rfl) (Nat.le_of_ble_eq_true rfl) ?_
  refine W.eq (g2 := F0 m 4 ls []) rfl ?_
  have hz : s.heap.size = sz + 0 := hsz
  refine lv_aload_n hx hb dX3_init_4 rfl (lv_at hl 0 rfl) ?_
  refine lv_sipush (v := 550) hx hb dX3_init_5 (by decide) ?_
  refine xa_newa (atype := .int) (ty := .int) (N' := 550) (a0 := (550, .inl (fun _ => 0))) hx hb (hts (.arrayClass .int) (by decide +kernel)) rfl hK 0 rfl ra_i hS (nw_i 550) (by decide) (by decide) (by_i (by decide)) (by show 0 + 1 ≤ 8; decide) (by show 0 + 550 ≤ 2066; decide) dX3_init_8 (fun H8 en hz8 ho8 hS => ?_)
  rw [hz] at en hz8 ⊢
  replace eo : va_at D vwCl (xo, .inr (3, [.int 0, .int 0, .int 0, .int 0, .null, .null, .null, .null, .null, .null, .null, .int 0, .int 0, .int 0, .int 0, .int 0, .null, .int 0])) H8 := at_keep eo (ho8 _ (by show xo < _; omega))
  have ea0 : va_at D vwCl (sz + 0, .inl (cI, 550, .inl (fun _ => 0))) H8 := en
  replace hz : H8.size = sz + 1 := hz8
  refine xa_putF (D := D) (ci := 3) (v := .ref (sz + 0)) (ty := .array (.int)) (C := RX3) (T := TX3) (N := 18) hx hb hts hi3 tyX3 tyX3_ok nmX3 hown hK hS (Or.inl rfl) eo rfl 4 (by decide) (hts (.fieldLink RX3 13 "BigLedgerModel" "now" "[I") (by decide +kernel)) (fun _ h9 => h9) rfl hin rfl (by decide +kernel) rfl rfl (Nat.le_of_ble_eq_true rfl) dX3_init_10 (fun H9 locs eo oq9 hz9 hS => ?_)
  replace eo : va_at D vwCl (xo, .inr (3, [.int 0, .int 0, .int 0, .int 0, .ref (sz + 0), .null, .null, .null, .null, .null, .null, .int 0, .int 0, .int 0, .int 0, .int 0, .null, .int 0])) H9 := eo
  replace ea0 : va_at D vwCl (sz + 0, .inl (cI, 550, .inl (fun _ => 0))) H9 := at_keep ea0 (oq9 _ (by show sz + 0 ≠ xo; omega))
  replace hz : H9.size = sz + 1 := by rw [hz9]; exact hz
  refine lv_aload_n hx hb dX3_init_13 rfl (lv_at hl 0 rfl) ?_
  refine lv_sipush (v := 550) hx hb dX3_init_14 (by decide) ?_
  refine xa_newa (atype := .int) (ty := .int) (N' := 550) (a0 := (550, .inl (fun _ => 0))) hx hb (hts (.arrayClass .int) (by decide +kernel)) rfl hK 0 rfl ra_i hS (nw_i 550) (by decide) (by decide) (by_i (by decide)) (by show 1 + 1 ≤ 8; decide) (by show 550 + 550 ≤ 2066; decide) dX3_init_17 (fun H8 en hz8 ho8 hS => ?_)
  rw [hz] at en hz8 ⊢
  replace eo : va_at D vwCl (xo, .inr (3, [.int 0, .int 0, .int 0, .int 0, .ref (sz + 0), .null, .null, .null, .null, .null, .null, .int 0, .int 0, .int 0, .int 0, .int 0, .null, .int 0])) H8 := at_keep eo (ho8 _ (by show xo < _; omega))
  replace ea0 : va_at D vwCl (sz + 0, .inl (cI, 550, .inl (fun _ => 0))) H8 := at_keep ea0 (ho8 _ (by show sz + 0 < _; omega))
  have ea1 : va_at D vwCl (sz + 1, .inl (cI, 550, .inl (fun _ => 0))) H8 := en
  replace hz : H8.size = sz + 2 := hz8
  refine xa_putF (D := D) (ci := 3) (v := .ref (sz + 1)) (ty := .array (.int)) (C := RX3) (T := TX3) (N := 18) hx hb hts hi3 tyX3 tyX3_ok nmX3 hown hK hS (Or.inl rfl) eo rfl 5 (by decide) (hts (.fieldLink RX3 17 "BigLedgerModel" "home" "[I") (by decide +kernel)) (fun _ h9 => h9) rfl hin rfl (by decide +kernel) rfl rfl (Nat.le_of_ble_eq_true rfl) dX3_init_19 (fun H9 locs eo oq9 hz9 hS => ?_)
  replace eo : va_at D vwCl (xo, .inr (3, [.int 0, .int 0, .int 0, .int 0, .ref (sz + 0), .ref (sz + 1), .null, .null, .null, .null, .null, .int 0, .int 0, .int 0, .int 0, .int 0, .null, .int 0])) H9 := eo
  replace ea0 : va_at D vwCl (sz + 0, .inl (cI, 550, .inl (fun _ => 0))) H9 := at_keep ea0 (oq9 _ (by show sz + 0 ≠ xo; omega))
  replace ea1 : va_at D vwCl (sz + 1, .inl (cI, 550, .inl (fun _ => 0))) H9 := at_keep ea1 (oq9 _ (by show sz + 1 ≠ xo; omega))
  replace hz : H9.size = sz + 2 := by rw [hz9]; exact hz
  refine lv_aload_n hx hb dX3_init_22 rfl (lv_at hl 0 rfl) ?_
  refine lv_sipush (v := 550) hx hb dX3_init_23 (by decide) ?_
  refine xa_newa (atype := .int) (ty := .int) (N' := 550) (a0 := (550, .inl (fun _ => 0))) hx hb (hts (.arrayClass .int) (by decide +kernel)) rfl hK 0 rfl ra_i hS (nw_i 550) (by decide) (by decide) (by_i (by decide)) (by show 2 + 1 ≤ 8; decide) (by show 1100 + 550 ≤ 2066; decide) dX3_init_26 (fun H8 en hz8 ho8 hS => ?_)
  rw [hz] at en hz8 ⊢
  replace eo : va_at D vwCl (xo, .inr (3, [.int 0, .int 0, .int 0, .int 0, .ref (sz + 0), .ref (sz + 1), .null, .null, .null, .null, .null, .int 0, .int 0, .int 0, .int 0, .int 0, .null, .int 0])) H8 := at_keep eo (ho8 _ (by show xo < _; omega))
  replace ea0 : va_at D vwCl (sz + 0, .inl (cI, 550, .inl (fun _ => 0))) H8 := at_keep ea0 (ho8 _ (by show sz + 0 < _; omega))
  replace ea1 : va_at D vwCl (sz + 1, .inl (cI, 550, .inl (fun _ => 0))) H8 := at_keep ea1 (ho8 _ (by show sz + 1 < _; omega))
  have ea2 : va_at D vwCl (sz + 2, .inl (cI, 550, .inl (fun _ => 0))) H8 := en
  replace hz : H8.size = sz + 3 := hz8
  refine xa_putF (D := D) (ci := 3) (v := .ref (sz + 2)) (ty := .array (.int)) (C := RX3) (T := TX3) (N := 18) hx hb hts hi3 tyX3 tyX3_ok nmX3 hown hK hS (Or.inl rfl) eo rfl 6 (by decide) (hts (.fieldLink RX3 20 "BigLedgerModel" "log" "[I") (by decide +kernel)) (fun _ h9 => h9) rfl hin rfl (by decide +kernel) rfl rfl (Nat.le_of_ble_eq_true rfl) dX3_init_28 (fun H9 locs eo oq9 hz9 hS => ?_)
  replace eo : va_at D vwCl (xo, .inr (3, [.int 0, .int 0, .int 0, .int 0, .ref (sz + 0), .ref (sz + 1), .ref (sz + 2), .null, .null, .null, .null, .int 0, .int 0, .int 0, .int 0, .int 0, .null, .int 0])) H9 := eo
  replace ea0 : va_at D vwCl (sz + 0, .inl (cI, 550, .inl (fun _ => 0))) H9 := at_keep ea0 (oq9 _ (by show sz + 0 ≠ xo; omega))
  replace ea1 : va_at D vwCl (sz + 1, .inl (cI, 550, .inl (fun _ => 0))) H9 := at_keep ea1 (oq9 _ (by show sz + 1 ≠ xo; omega))
  replace ea2 : va_at D vwCl (sz + 2, .inl (cI, 550, .inl (fun _ => 0))) H9 := at_keep ea2 (oq9 _ (by show sz + 2 ≠ xo; omega))
  replace hz : H9.size = sz + 3 := by rw [hz9]; exact hz
  refine lv_aload_n hx hb dX3_init_31 rfl (lv_at hl 0 rfl) ?_
  refine lv_bipush (v := 22) hx hb dX3_init_32 (by decide) ?_
  refine xa_newa (atype := .int) (ty := .int) (N' := 22) (a0 := (22, .inl (fun _ => 0))) hx hb (hts (.arrayClass .int) (by decide +kernel)) rfl hK 0 rfl ra_i hS (nw_i 22) (by decide) (by decide) (by_i (by decide)) (by show 3 + 1 ≤ 8; decide) (by show 1650 + 22 ≤ 2066; decide) dX3_init_34 (fun H8 en hz8 ho8 hS => ?_)
  rw [hz] at en hz8 ⊢
  replace eo : va_at D vwCl (xo, .inr (3, [.int 0, .int 0, .int 0, .int 0, .ref (sz + 0), .ref (sz + 1), .ref (sz + 2), .null, .null, .null, .null, .int 0, .int 0, .int 0, .int 0, .int 0, .null, .int 0])) H8 := at_keep eo (ho8 _ (by show xo < _; omega))
  replace ea0 : va_at D vwCl (sz + 0, .inl (cI, 550, .inl (fun _ => 0))) H8 := at_keep ea0 (ho8 _ (by show sz + 0 < _; omega))
  replace ea1 : va_at D vwCl (sz + 1, .inl (cI, 550, .inl (fun _ => 0))) H8 := at_keep ea1 (ho8 _ (by show sz + 1 < _; omega))
  replace ea2 : va_at D vwCl (sz + 2, .inl (cI, 550, .inl (fun _ => 0))) H8 := at_keep ea2 (ho8 _ (by show sz + 2 < _; omega))
  have ea3 : va_at D vwCl (sz + 3, .inl (cI, 22, .inl (fun _ => 0))) H8 := en
  replace hz : H8.size = sz + 4 := hz8
  refine xa_putF (D := D) (ci := 3) (v := .ref (sz + 3)) (ty := .array (.int)) (C := RX3) (T := TX3) (N := 18) hx hb hts hi3 tyX3 tyX3_ok nmX3 hown hK hS (Or.inl rfl) eo rfl 7 (by decide) (hts (.fieldLink RX3 23 "BigLedgerModel" "amount" "[I") (by decide +kernel)) (fun _ h9 => h9) rfl hin rfl (by decide +kernel) rfl rfl (Nat.le_of_ble_eq_true rfl) dX3_init_36 (fun H9 locs eo oq9 hz9 hS => ?_)
  replace eo : va_at D vwCl (xo, .inr (3, [.int 0, .int 0, .int 0, .int 0, .ref (sz + 0), .ref (sz + 1), .ref (sz + 2), .ref (sz + 3), .null, .null, .null, .int 0, .int 0, .int 0, .int 0, .int 0, .null, .int 0])) H9 := eo
  replace ea0 : va_at D vwCl (sz + 0, .inl (cI, 550, .inl (fun _ => 0))) H9 := at_keep ea0 (oq9 _ (by show sz + 0 ≠ xo; omega))
  replace ea1 : va_at D vwCl (sz + 1, .inl (cI, 550, .inl (fun _ => 0))) H9 := at_keep ea1 (oq9 _ (by show sz + 1 ≠ xo; omega))
  replace ea2 : va_at D vwCl (sz + 2, .inl (cI, 550, .inl (fun _ => 0))) H9 := at_keep ea2 (oq9 _ (by show sz + 2 ≠ xo; omega))
  replace ea3 : va_at D vwCl (sz + 3, .inl (cI, 22, .inl (fun _ => 0))) H9 := at_keep ea3 (oq9 _ (by show sz + 3 ≠ xo; omega))
  replace hz : H9.size = sz + 4 := by rw [hz9]; exact hz
  refine lv_aload_n hx hb dX3_init_39 rfl (lv_at hl 0 rfl) ?_
  refine lv_bipush (v := 44) hx hb dX3_init_40 (by decide) ?_
  refine xa_newa (atype := .int) (ty := .int) (N' := 44) (a0 := (44, .inl (fun _ => 0))) hx hb (hts (.arrayClass .int) (by decide +kernel)) rfl hK 0 rfl ra_i hS (nw_i 44) (by decide) (by decide) (by_i (by decide)) (by show 4 + 1 ≤ 8; decide) (by show 1672 + 44 ≤ 2066; decide) dX3_init_42 (fun H8 en hz8 ho8 hS => ?_)
  rw [hz] at en hz8 ⊢
  replace eo : va_at D vwCl (xo, .inr (3, [.int 0, .int 0, .int 0, .int 0, .ref (sz + 0), .ref (sz + 1), .ref (sz + 2), .ref (sz + 3), .null, .null, .null, .int 0, .int 0, .int 0, .int 0, .int 0, .null, .int 0])) H8 := at_keep eo (ho8 _ (by show xo < _; omega))
  replace ea0 : va_at D vwCl (sz + 0, .inl (cI, 550, .inl (fun _ => 0))) H8 := at_keep ea0 (ho8 _ (by show sz + 0 < _; omega))
  replace ea1 : va_at D vwCl (sz + 1, .inl (cI, 550, .inl (fun _ => 0))) H8 := at_keep ea1 (ho8 _ (by show sz + 1 < _; omega))
  replace ea2 : va_at D vwCl (sz + 2, .inl (cI, 550, .inl (fun _ => 0))) H8 := at_keep ea2 (ho8 _ (by show sz + 2 < _; omega))
  replace ea3 : va_at D vwCl (sz + 3, .inl (cI, 22, .inl (fun _ => 0))) H8 := at_keep ea3 (ho8 _ (by show sz + 3 < _; omega))
  have ea4 : va_at D vwCl (sz + 4, .inl (cI, 44, .inl (fun _ => 0))) H8 := en
  replace hz : H8.size = sz + 5 := hz8
  refine xa_putF (D := D) (ci := 3) (v := .ref (sz + 4)) (ty := .array (.int)) (C := RX3) (T := TX3) (N := 18) hx hb hts hi3 tyX3 tyX3_ok nmX3 hown hK hS (Or.inl rfl) eo rfl 8 (by decide) (hts (.fieldLink RX3 26 "BigLedgerModel" "work" "[I") (by decide +kernel)) (fun _ h9 => h9) rfl hin rfl (by decide +kernel) rfl rfl (Nat.le_of_ble_eq_true rfl) dX3_init_44 (fun H9 locs eo oq9 hz9 hS => ?_)
  replace eo : va_at D vwCl (xo, .inr (3, [.int 0, .int 0, .int 0, .int 0, .ref (sz + 0), .ref (sz + 1), .ref (sz + 2), .ref (sz + 3), .ref (sz + 4), .null, .null, .int 0, .int 0, .int 0, .int 0, .int 0, .null, .int 0])) H9 := eo
  replace ea0 : va_at D vwCl (sz + 0, .inl (cI, 550, .inl (fun _ => 0))) H9 := at_keep ea0 (oq9 _ (by show sz + 0 ≠ xo; omega))
  replace ea1 : va_at D vwCl (sz + 1, .inl (cI, 550, .inl (fun _ => 0))) H9 := at_keep ea1 (oq9 _ (by show sz + 1 ≠ xo; omega))
  replace ea2 : va_at D vwCl (sz + 2, .inl (cI, 550, .inl (fun _ => 0))) H9 := at_keep ea2 (oq9 _ (by show sz + 2 ≠ xo; omega))
  replace ea3 : va_at D vwCl (sz + 3, .inl (cI, 22, .inl (fun _ => 0))) H9 := at_keep ea3 (oq9 _ (by show sz + 3 ≠ xo; omega))
  replace ea4 : va_at D vwCl (sz + 4, .inl (cI, 44, .inl (fun _ => 0))) H9 := at_keep ea4 (oq9 _ (by show sz + 4 ≠ xo; omega))
  replace hz : H9.size = sz + 5 := by rw [hz9]; exact hz
  refine lv_aload_n hx hb dX3_init_47 rfl (lv_at hl 0 rfl) ?_
  refine lv_bipush (v := 25) hx hb dX3_init_48 (by decide) ?_
  refine xa_newa (atype := .boolean) (ty := .boolean) (N' := 25) (a0 := (25, .inl (fun _ => 0))) hx hb (hts (.arrayClass .boolean) (by decide +kernel)) rfl hK 1 rfl ra_z hS (nw_z 25) (by decide) (by decide) (by_z (by decide)) (by show 5 + 1 ≤ 8; decide) (by show 1716 + 25 ≤ 2066; decide) dX3_init_50 (fun H8 en hz8 ho8 hS => ?_)
  rw [hz] at en hz8 ⊢
  replace eo : va_at D vwCl (xo, .inr (3, [.int 0, .int 0, .int 0, .int 0, .ref (sz + 0), .ref (sz + 1), .ref (sz + 2), .ref (sz + 3), .ref (sz + 4), .null, .null, .int 0, .int 0, .int 0, .int 0, .int 0, .null, .int 0])) H8 := at_keep eo (ho8 _ (by show xo < _; omega))
  replace ea0 : va_at D vwCl (sz + 0, .inl (cI, 550, .inl (fun _ => 0))) H8 := at_keep ea0 (ho8 _ (by show sz + 0 < _; omega))
  replace ea1 : va_at D vwCl (sz + 1, .inl (cI, 550, .inl (fun _ => 0))) H8 := at_keep ea1 (ho8 _ (by show sz + 1 < _; omega))
  replace ea2 : va_at D vwCl (sz + 2, .inl (cI, 550, .inl (fun _ => 0))) H8 := at_keep ea2 (ho8 _ (by show sz + 2 < _; omega))
  replace ea3 : va_at D vwCl (sz + 3, .inl (cI, 22, .inl (fun _ => 0))) H8 := at_keep ea3 (ho8 _ (by show sz + 3 < _; omega))
  replace ea4 : va_at D vwCl (sz + 4, .inl (cI, 44, .inl (fun _ => 0))) H8 := at_keep ea4 (ho8 _ (by show sz + 4 < _; omega))
  have ea5 : va_at D vwCl (sz + 5, .inl (cZ, 25, .inl (fun _ => 0))) H8 := en
  replace hz : H8.size = sz + 6 := hz8
  refine xa_putF (D := D) (ci := 3) (v := .ref (sz + 5)) (ty := .array (.boolean)) (C := RX3) (T := TX3) (N := 18) hx hb hts hi3 tyX3 tyX3_ok nmX3 hown hK hS (Or.inl rfl) eo rfl 9 (by decide) (hts (.fieldLink RX3 29 "BigLedgerModel" "touched" "[Z") (by decide +kernel)) (fun _ h9 => h9) rfl hin rfl (by decide +kernel) rfl rfl (Nat.le_of_ble_eq_true rfl) dX3_init_52 (fun H9 locs eo oq9 hz9 hS => ?_)
  replace eo : va_at D vwCl (xo, .inr (3, [.int 0, .int 0, .int 0, .int 0, .ref (sz + 0), .ref (sz + 1), .ref (sz + 2), .ref (sz + 3), .ref (sz + 4), .ref (sz + 5), .null, .int 0, .int 0, .int 0, .int 0, .int 0, .null, .int 0])) H9 := eo
  replace ea0 : va_at D vwCl (sz + 0, .inl (cI, 550, .inl (fun _ => 0))) H9 := at_keep ea0 (oq9 _ (by show sz + 0 ≠ xo; omega))
  replace ea1 : va_at D vwCl (sz + 1, .inl (cI, 550, .inl (fun _ => 0))) H9 := at_keep ea1 (oq9 _ (by show sz + 1 ≠ xo; omega))
  replace ea2 : va_at D vwCl (sz + 2, .inl (cI, 550, .inl (fun _ => 0))) H9 := at_keep ea2 (oq9 _ (by show sz + 2 ≠ xo; omega))
  replace ea3 : va_at D vwCl (sz + 3, .inl (cI, 22, .inl (fun _ => 0))) H9 := at_keep ea3 (oq9 _ (by show sz + 3 ≠ xo; omega))
  replace ea4 : va_at D vwCl (sz + 4, .inl (cI, 44, .inl (fun _ => 0))) H9 := at_keep ea4 (oq9 _ (by show sz + 4 ≠ xo; omega))
  replace ea5 : va_at D vwCl (sz + 5, .inl (cZ, 25, .inl (fun _ => 0))) H9 := at_keep ea5 (oq9 _ (by show sz + 5 ≠ xo; omega))
  replace hz : H9.size = sz + 6 := by rw [hz9]; exact hz
  refine lv_aload_n hx hb dX3_init_55 rfl (lv_at hl 0 rfl) ?_
  refine lv_bipush (v := 25) hx hb dX3_init_56 (by decide) ?_
  refine xa_newa (atype := .boolean) (ty := .boolean) (N' := 25) (a0 := (25, .inl (fun _ => 0))) hx hb (hts (.arrayClass .boolean) (by decide +kernel)) rfl hK 1 rfl ra_z hS (nw_z 25) (by decide) (by decide) (by_z (by decide)) (by show 6 + 1 ≤ 8; decide) (by show 1741 + 25 ≤ 2066; decide) dX3_init_58 (fun H8 en hz8 ho8 hS => ?_)
  rw [hz] at en hz8 ⊢
  replace eo : va_at D vwCl (xo, .inr (3, [.int 0, .int 0, .int 0, .int 0, .ref (sz + 0), .ref (sz + 1), .ref (sz + 2), .ref (sz + 3), .ref (sz + 4), .ref (sz + 5), .null, .int 0, .int 0, .int 0, .int 0, .int 0, .null, .int 0])) H8 := at_keep eo (ho8 _ (by show xo < _; omega))
  replace ea0 : va_at D vwCl (sz + 0, .inl (cI, 550, .inl (fun _ => 0))) H8 := at_keep ea0 (ho8 _ (by show sz + 0 < _; omega))
  replace ea1 : va_at D vwCl (sz + 1, .inl (cI, 550, .inl (fun _ => 0))) H8 := at_keep ea1 (ho8 _ (by show sz + 1 < _; omega))
  replace ea2 : va_at D vwCl (sz + 2, .inl (cI, 550, .inl (fun _ => 0))) H8 := at_keep ea2 (ho8 _ (by show sz + 2 < _; omega))
  replace ea3 : va_at D vwCl (sz + 3, .inl (cI, 22, .inl (fun _ => 0))) H8 := at_keep ea3 (ho8 _ (by show sz + 3 < _; omega))
  replace ea4 : va_at D vwCl (sz + 4, .inl (cI, 44, .inl (fun _ => 0))) H8 := at_keep ea4 (ho8 _ (by show sz + 4 < _; omega))
  replace ea5 : va_at D vwCl (sz + 5, .inl (cZ, 25, .inl (fun _ => 0))) H8 := at_keep ea5 (ho8 _ (by show sz + 5 < _; omega))
  have ea6 : va_at D vwCl (sz + 6, .inl (cZ, 25, .inl (fun _ => 0))) H8 := en
  replace hz : H8.size = sz + 7 := hz8
  refine xa_putF (D := D) (ci := 3) (v := .ref (sz + 6)) (ty := .array (.boolean)) (C := RX3) (T := TX3) (N := 18) hx hb hts hi3 tyX3 tyX3_ok nmX3 hown hK hS (Or.inl rfl) eo rfl 10 (by decide) (hts (.fieldLink RX3 33 "BigLedgerModel" "logged" "[Z") (by decide +kernel)) (fun _ h9 => h9) rfl hin rfl (by decide +kernel) rfl rfl (Nat.le_of_ble_eq_true rfl) dX3_init_60 (fun H9 locs eo oq9 hz9 hS => ?_)
  replace eo : va_at D vwCl (xo, .inr (3, [.int 0, .int 0, .int 0, .int 0, .ref (sz + 0), .ref (sz + 1), .ref (sz + 2), .ref (sz + 3), .ref (sz + 4), .ref (sz + 5), .ref (sz + 6), .int 0, .int 0, .int 0, .int 0, .int 0, .null, .int 0])) H9 := eo
  replace ea0 : va_at D vwCl (sz + 0, .inl (cI, 550, .inl (fun _ => 0))) H9 := at_keep ea0 (oq9 _ (by show sz + 0 ≠ xo; omega))
  replace ea1 : va_at D vwCl (sz + 1, .inl (cI, 550, .inl (fun _ => 0))) H9 := at_keep ea1 (oq9 _ (by show sz + 1 ≠ xo; omega))
  replace ea2 : va_at D vwCl (sz + 2, .inl (cI, 550, .inl (fun _ => 0))) H9 := at_keep ea2 (oq9 _ (by show sz + 2 ≠ xo; omega))
  replace ea3 : va_at D vwCl (sz + 3, .inl (cI, 22, .inl (fun _ => 0))) H9 := at_keep ea3 (oq9 _ (by show sz + 3 ≠ xo; omega))
  replace ea4 : va_at D vwCl (sz + 4, .inl (cI, 44, .inl (fun _ => 0))) H9 := at_keep ea4 (oq9 _ (by show sz + 4 ≠ xo; omega))
  replace ea5 : va_at D vwCl (sz + 5, .inl (cZ, 25, .inl (fun _ => 0))) H9 := at_keep ea5 (oq9 _ (by show sz + 5 ≠ xo; omega))
  replace ea6 : va_at D vwCl (sz + 6, .inl (cZ, 25, .inl (fun _ => 0))) H9 := at_keep ea6 (oq9 _ (by show sz + 6 ≠ xo; omega))
  replace hz : H9.size = sz + 7 := by rw [hz9]; exact hz
  refine lv_aload_n hx hb dX3_init_63 rfl (lv_at hl 0 rfl) ?_
  refine lv_iconst (v := (-1)) hx hb dX3_init_64 (by decide) ?_
  refine xa_put (D := D) (ci := 3) (v := .int (-1)) (ty := .int) (C := RX3) (T := TX3) (N := 18) hx hb hts hi3 tyX3 tyX3_ok nmX3 hown hK hS (Or.inl rfl) eo rfl 15 (by decide) (hts (.fieldLink RX3 36 "BigLedgerModel" "left" "I") (by decide +kernel)) (fun _ h9 => h9) rfl (by decide +kernel) rfl rfl (Nat.le_of_ble_eq_true rfl) dX3_init_65 (fun H9 locs eo oq9 hz9 hS => ?_)
  replace eo : va_at D vwCl (xo, .inr (3, [.int 0, .int 0, .int 0, .int 0, .ref (sz + 0), .ref (sz + 1), .ref (sz + 2), .ref (sz + 3), .ref (sz + 4), .ref (sz + 5), .ref (sz + 6), .int 0, .int 0, .int 0, .int 0, .int (-1), .null, .int 0])) H9 := eo
  replace ea0 : va_at D vwCl (sz + 0, .inl (cI, 550, .inl (fun _ => 0))) H9 := at_keep ea0 (oq9 _ (by show sz + 0 ≠ xo; omega))
  replace ea1 : va_at D vwCl (sz + 1, .inl (cI, 550, .inl (fun _ => 0))) H9 := at_keep ea1 (oq9 _ (by show sz + 1 ≠ xo; omega))
  replace ea2 : va_at D vwCl (sz + 2, .inl (cI, 550, .inl (fun _ => 0))) H9 := at_keep ea2 (oq9 _ (by show sz + 2 ≠ xo; omega))
  replace ea3 : va_at D vwCl (sz + 3, .inl (cI, 22, .inl (fun _ => 0))) H9 := at_keep ea3 (oq9 _ (by show sz + 3 ≠ xo; omega))
  replace ea4 : va_at D vwCl (sz + 4, .inl (cI, 44, .inl (fun _ => 0))) H9 := at_keep ea4 (oq9 _ (by show sz + 4 ≠ xo; omega))
  replace ea5 : va_at D vwCl (sz + 5, .inl (cZ, 25, .inl (fun _ => 0))) H9 := at_keep ea5 (oq9 _ (by show sz + 5 ≠ xo; omega))
  replace ea6 : va_at D vwCl (sz + 6, .inl (cZ, 25, .inl (fun _ => 0))) H9 := at_keep ea6 (oq9 _ (by show sz + 6 ≠ xo; omega))
  replace hz : H9.size = sz + 7 := by rw [hz9]; exact hz
  refine lv_aload_n hx hb dX3_init_68 rfl (lv_at hl 0 rfl) ?_
  refine lv_sipush (v := 300) hx hb dX3_init_69 (by decide) ?_
  refine xa_newa (atype := .byte) (ty := .byte) (N' := 300) (a0 := (300, .inl (fun _ => 0))) hx hb (hts (.arrayClass .byte) (by decide +kernel)) rfl hK 2 rfl ra_b hS (nw_b 300) (by decide) (by decide) (by_b (by decide)) (by show 7 + 1 ≤ 8; decide) (by show 1766 + 300 ≤ 2066; decide) dX3_init_72 (fun H8 en hz8 ho8 hS => ?_)
  rw [hz] at en hz8 ⊢
  replace eo : va_at D vwCl (xo, .inr (3, [.int 0, .int 0, .int 0, .int 0, .ref (sz + 0), .ref (sz + 1), .ref (sz + 2), .ref (sz + 3), .ref (sz + 4), .ref (sz + 5), .ref (sz + 6), .int 0, .int 0, .int 0, .int 0, .int (-1), .null, .int 0])) H8 := at_keep eo (ho8 _ (by show xo < _; omega))
  replace ea0 : va_at D vwCl (sz + 0, .inl (cI, 550, .inl (fun _ => 0))) H8 := at_keep ea0 (ho8 _ (by show sz + 0 < _; omega))
  replace ea1 : va_at D vwCl (sz + 1, .inl (cI, 550, .inl (fun _ => 0))) H8 := at_keep ea1 (ho8 _ (by show sz + 1 < _; omega))
  replace ea2 : va_at D vwCl (sz + 2, .inl (cI, 550, .inl (fun _ => 0))) H8 := at_keep ea2 (ho8 _ (by show sz + 2 < _; omega))
  replace ea3 : va_at D vwCl (sz + 3, .inl (cI, 22, .inl (fun _ => 0))) H8 := at_keep ea3 (ho8 _ (by show sz + 3 < _; omega))
  replace ea4 : va_at D vwCl (sz + 4, .inl (cI, 44, .inl (fun _ => 0))) H8 := at_keep ea4 (ho8 _ (by show sz + 4 < _; omega))
  replace ea5 : va_at D vwCl (sz + 5, .inl (cZ, 25, .inl (fun _ => 0))) H8 := at_keep ea5 (ho8 _ (by show sz + 5 < _; omega))
  replace ea6 : va_at D vwCl (sz + 6, .inl (cZ, 25, .inl (fun _ => 0))) H8 := at_keep ea6 (ho8 _ (by show sz + 6 < _; omega))
  have ea7 : va_at D vwCl (sz + 7, .inl (cB, 300, .inl (fun _ => 0))) H8 := en
  replace hz : H8.size = sz + 8 := hz8
  refine xa_putF (D := D) (ci := 3) (v := .ref (sz + 7)) (ty := .array (.byte)) (C := RX3) (T := TX3) (N := 18) hx hb hts hi3 tyX3 tyX3_ok nmX3 hown hK hS (Or.inl rfl) eo rfl 16 (by decide) (hts (.fieldLink RX3 39 "BigLedgerModel" "out" "[B") (by decide +kernel)) (fun _ h9 => h9) rfl hin rfl (by decide +kernel) rfl rfl (Nat.le_of_ble_eq_true rfl) dX3_init_74 (fun H9 locs eo oq9 hz9 hS => ?_)
  replace eo : va_at D vwCl (xo, .inr (3, [.int 0, .int 0, .int 0, .int 0, .ref (sz + 0), .ref (sz + 1), .ref (sz + 2), .ref (sz + 3), .ref (sz + 4), .ref (sz + 5), .ref (sz + 6), .int 0, .int 0, .int 0, .int 0, .int (-1), .ref (sz + 7), .int 0])) H9 := eo
  replace ea0 : va_at D vwCl (sz + 0, .inl (cI, 550, .inl (fun _ => 0))) H9 := at_keep ea0 (oq9 _ (by show sz + 0 ≠ xo; omega))
  replace ea1 : va_at D vwCl (sz + 1, .inl (cI, 550, .inl (fun _ => 0))) H9 := at_keep ea1 (oq9 _ (by show sz + 1 ≠ xo; omega))
  replace ea2 : va_at D vwCl (sz + 2, .inl (cI, 550, .inl (fun _ => 0))) H9 := at_keep ea2 (oq9 _ (by show sz + 2 ≠ xo; omega))
  replace ea3 : va_at D vwCl (sz + 3, .inl (cI, 22, .inl (fun _ => 0))) H9 := at_keep ea3 (oq9 _ (by show sz + 3 ≠ xo; omega))
  replace ea4 : va_at D vwCl (sz + 4, .inl (cI, 44, .inl (fun _ => 0))) H9 := at_keep ea4 (oq9 _ (by show sz + 4 ≠ xo; omega))
  replace ea5 : va_at D vwCl (sz + 5, .inl (cZ, 25, .inl (fun _ => 0))) H9 := at_keep ea5 (oq9 _ (by show sz + 5 ≠ xo; omega))
  replace ea6 : va_at D vwCl (sz + 6, .inl (cZ, 25, .inl (fun _ => 0))) H9 := at_keep ea6 (oq9 _ (by show sz + 6 ≠ xo; omega))
  replace ea7 : va_at D vwCl (sz + 7, .inl (cB, 300, .inl (fun _ => 0))) H9 := at_keep ea7 (oq9 _ (by show sz + 7 ≠ xo; omega))
  replace hz : H9.size = sz + 8 := by rw [hz9]; exact hz
  refine lv_aload_n hx hb dX3_init_77 rfl (lv_at hl 0 rfl) ?_
  have kont43 : W p l e (headSpec wsX3_init ({ frames := 1, cells := 8, slots := 2066, locals := 12 })).room s m ([.ref (xo), .int (p0), .int (p1), .int (p2)]).toArray below meth c H9 locs 8 2066 (MQ below (va_Qv (fun _ : Unit => True) (fun _ t => va_P D vwCl (rW (gM xo sz) cI cZ cB acc lm rm FM yM) t.heap) (oA xo sz)) ([.ref (xo), .int (p0), .int (p1), .int (p2)]).toArray s 8 2066 (oA xo sz)) (F0 m 99 ls [.int (clI p0 24), .ref xo]) := by
    rw [hp0]
    refine xa_putF (D := D) (ci := 3) (v := .int (nI acc)) (ty := .int) (C := RX3) (T := TX3) (N := 18) hx hb hts hi3 tyX3 tyX3_ok nmX3 hown hK hS (Or.inl rfl) eo rfl 1 (by decide) (hts (.fieldLink RX3 43 "BigLedgerModel" "accounts" "I") (by decide +kernel)) (fun _ h9 => h9) rfl hin rfl (by decide +kernel) rfl rfl (Nat.le_of_ble_eq_true rfl) dX3_init_99 (fun H9 locs eo oq9 hz9 hS => ?_)
    replace eo : va_at D vwCl (xo, .inr (3, [.int 0, .int (nI acc), .int 0, .int 0, .ref (sz + 0), .ref (sz + 1), .ref (sz + 2), .ref (sz + 3), .ref (sz + 4), .ref (sz + 5), .ref (sz + 6), .int 0, .int 0, .int 0, .int 0, .int (-1), .ref (sz + 7), .int 0])) H9 := eo
    replace ea0 : va_at D vwCl (sz + 0, .inl (cI, 550, .inl (fun _ => 0))) H9 := at_keep ea0 (oq9 _ (by show sz + 0 ≠ xo; omega))
    replace ea1 : va_at D vwCl (sz + 1, .inl (cI, 550, .inl (fun _ => 0))) H9 := at_keep ea1 (oq9 _ (by show sz + 1 ≠ xo; omega))
    replace ea2 : va_at D vwCl (sz + 2, .inl (cI, 550, .inl (fun _ => 0))) H9 := at_keep ea2 (oq9 _ (by show sz + 2 ≠ xo; omega))
    replace ea3 : va_at D vwCl (sz + 3, .inl (cI, 22, .inl (fun _ => 0))) H9 := at_keep ea3 (oq9 _ (by show sz + 3 ≠ xo; omega))
    replace ea4 : va_at D vwCl (sz + 4, .inl (cI, 44, .inl (fun _ => 0))) H9 := at_keep ea4 (oq9 _ (by show sz + 4 ≠ xo; omega))
    replace ea5 : va_at D vwCl (sz + 5, .inl (cZ, 25, .inl (fun _ => 0))) H9 := at_keep ea5 (oq9 _ (by show sz + 5 ≠ xo; omega))
    replace ea6 : va_at D vwCl (sz + 6, .inl (cZ, 25, .inl (fun _ => 0))) H9 := at_keep ea6 (oq9 _ (by show sz + 6 ≠ xo; omega))
    replace ea7 : va_at D vwCl (sz + 7, .inl (cB, 300, .inl (fun _ => 0))) H9 := at_keep ea7 (oq9 _ (by show sz + 7 ≠ xo; omega))
    replace hz : H9.size = sz + 8 := by rw [hz9]; exact hz
    refine lv_aload_n hx hb dX3_init_102 rfl (lv_at hl 0 rfl) ?_
    have kont46 : W p l e (headSpec wsX3_init ({ frames := 1, cells := 8, slots := 2066, locals := 12 })).room s m ([.ref (xo), .int (p0), .int (p1), .int (p2)]).toArray below meth c H9 locs 8 2066 (MQ below (va_Qv (fun _ : Unit => True) (fun _ t => va_P D vwCl (rW (gM xo sz) cI cZ cB acc lm rm FM yM) t.heap) (oA xo sz)) ([.ref (xo), .int (p0), .int (p1), .int (p2)]).toArray s 8 2066 (oA xo sz)) (F0 m 124 ls [.int (clI p1 20), .ref xo]) := by
      rw [hp1]
      refine xa_putF (D := D) (ci := 3) (v := .int (nI lm)) (ty := .int) (C := RX3) (T := TX3) (N := 18) hx hb hts hi3 tyX3 tyX3_ok nmX3 hown hK hS (Or.inl rfl) eo rfl 2 (by decide) (hts (.fieldLink RX3 46 "BigLedgerModel" "limbs" "I") (by decide +kernel)) (fun _ h9 => h9) rfl hin rfl (by decide +kernel) rfl rfl (Nat.le_of_ble_eq_true rfl) dX3_init_124 (fun H9 locs eo oq9 hz9 hS => ?_)
      replace eo : va_at D vwCl (xo, .inr (3, [.int 0, .int (nI acc), .int (nI lm), .int 0, .ref (sz + 0), .ref (sz + 1), .ref (sz + 2), .ref (sz + 3), .ref (sz + 4), .ref (sz + 5), .ref (sz + 6), .int 0, .int 0, .int 0, .int 0, .int (-1), .ref (sz + 7), .int 0])) H9 := eo
      replace ea0 : va_at D vwCl (sz + 0, .inl (cI, 550, .inl (fun _ => 0))) H9 := at_keep ea0 (oq9 _ (by show sz + 0 ≠ xo; omega))
      replace ea1 : va_at D vwCl (sz + 1, .inl (cI, 550, .inl (fun _ => 0))) H9 := at_keep ea1 (oq9 _ (by show sz + 1 ≠ xo; omega))
      replace ea2 : va_at D vwCl (sz + 2, .inl (cI, 550, .inl (fun _ => 0))) H9 := at_keep ea2 (oq9 _ (by show sz + 2 ≠ xo; omega))
      replace ea3 : va_at D vwCl (sz + 3, .inl (cI, 22, .inl (fun _ => 0))) H9 := at_keep ea3 (oq9 _ (by show sz + 3 ≠ xo; omega))
      replace ea4 : va_at D vwCl (sz + 4, .inl (cI, 44, .inl (fun _ => 0))) H9 := at_keep ea4 (oq9 _ (by show sz + 4 ≠ xo; omega))
      replace ea5 : va_at D vwCl (sz + 5, .inl (cZ, 25, .inl (fun _ => 0))) H9 := at_keep ea5 (oq9 _ (by show sz + 5 ≠ xo; omega))
      replace ea6 : va_at D vwCl (sz + 6, .inl (cZ, 25, .inl (fun _ => 0))) H9 := at_keep ea6 (oq9 _ (by show sz + 6 ≠ xo; omega))
      replace ea7 : va_at D vwCl (sz + 7, .inl (cB, 300, .inl (fun _ => 0))) H9 := at_keep ea7 (oq9 _ (by show sz + 7 ≠ xo; omega))
      replace hz : H9.size = sz + 8 := by rw [hz9]; exact hz
      refine lv_aload_n hx hb dX3_init_127 rfl (lv_at hl 0 rfl) ?_
      have kont49 : W p l e (headSpec wsX3_init ({ frames := 1, cells := 8, slots := 2066, locals := 12 })).room s m ([.ref (xo), .int (p0), .int (p1), .int (p2)]).toArray below meth c H9 locs 8 2066 (MQ below (va_Qv (fun _ : Unit => True) (fun _ t => va_P D vwCl (rW (gM xo sz) cI cZ cB acc lm rm FM yM) t.heap) (oA xo sz)) ([.ref (xo), .int (p0), .int (p1), .int (p2)]).toArray s 8 2066 (oA xo sz)) (F0 m 149 ls [.int (clI p2 25), .ref xo]) := by
        rw [hp2]
        refine xa_putF (D := D) (ci := 3) (v := .int (nI rm)) (ty := .int) (C := RX3) (T := TX3) (N := 18) hx hb hts hi3 tyX3 tyX3_ok nmX3 hown hK hS (Or.inl rfl) eo rfl 3 (by decide) (hts (.fieldLink RX3 49 "BigLedgerModel" "room" "I") (by decide +kernel)) (fun _ h9 => h9) rfl hin rfl (by decide +kernel) rfl rfl (Nat.le_of_ble_eq_true rfl) dX3_init_149 (fun H9 locs eo oq9 hz9 hS => ?_)
        replace eo : va_at D vwCl (xo, .inr (3, [.int 0, .int (nI acc), .int (nI lm), .int (nI rm), .ref (sz + 0), .ref (sz + 1), .ref (sz + 2), .ref (sz + 3), .ref (sz + 4), .ref (sz + 5), .ref (sz + 6), .int 0, .int 0, .int 0, .int 0, .int (-1), .ref (sz + 7), .int 0])) H9 := eo
        replace ea0 : va_at D vwCl (sz + 0, .inl (cI, 550, .inl (fun _ => 0))) H9 := at_keep ea0 (oq9 _ (by show sz + 0 ≠ xo; omega))
        replace ea1 : va_at D vwCl (sz + 1, .inl (cI, 550, .inl (fun _ => 0))) H9 := at_keep ea1 (oq9 _ (by show sz + 1 ≠ xo; omega))
        replace ea2 : va_at D vwCl (sz + 2, .inl (cI, 550, .inl (fun _ => 0))) H9 := at_keep ea2 (oq9 _ (by show sz + 2 ≠ xo; omega))
        replace ea3 : va_at D vwCl (sz + 3, .inl (cI, 22, .inl (fun _ => 0))) H9 := at_keep ea3 (oq9 _ (by show sz + 3 ≠ xo; omega))
        replace ea4 : va_at D vwCl (sz + 4, .inl (cI, 44, .inl (fun _ => 0))) H9 := at_keep ea4 (oq9 _ (by show sz + 4 ≠ xo; omega))
        replace ea5 : va_at D vwCl (sz + 5, .inl (cZ, 25, .inl (fun _ => 0))) H9 := at_keep ea5 (oq9 _ (by show sz + 5 ≠ xo; omega))
        replace ea6 : va_at D vwCl (sz + 6, .inl (cZ, 25, .inl (fun _ => 0))) H9 := at_keep ea6 (oq9 _ (by show sz + 6 ≠ xo; omega))
        replace ea7 : va_at D vwCl (sz + 7, .inl (cB, 300, .inl (fun _ => 0))) H9 := at_keep ea7 (oq9 _ (by show sz + 7 ≠ xo; omega))
        replace hz : H9.size = sz + 8 := by rw [hz9]; exact hz
        have hP9 : va_P D vwCl (rW (gM xo sz) cI cZ cB acc lm rm FM yM) H9 := wP_mk (fun j hj => by
          match j, hj with
          | 0, _ => exact eo
          | 1, _ => exact at_congr ea0 (fun k _ => z_row k)
          | 2, _ => exact at_congr ea1 (fun k _ => z_row k)
          | 3, _ => exact at_congr ea2 (fun k _ => z_row k)
          | 4, _ => exact at_congr ea3 (fun k _ => z_lb k)
          | 5, _ => exact ea4
          | 6, _ => exact at_congr ea5 (fun k _ => rfl)
          | 7, _ => exact at_congr ea6 (fun k _ => rfl)
          | 8, _ => exact ea7
          | j + 9, hj => omega)
        exact W.vret hx hb hr (fun t ht hW => ⟨⟨(), rfl, trivial, hp_at ht hP9⟩, hS.F ht⟩) hS.2.2 dX3_init_152
      refine lv_iload_n hx hb dX3_init_128 rfl (lv_at hl 3 rfl) ?_
      refine lv_iconst (v := 1) hx hb dX3_init_129 (by decide) ?_
      refine lv_icmp_ge (tgt := 137) hx hb dX3_init_130 (by decide) (fun c1 => ?_) (fun c1 => ?_)
      · refine lv_iload_n hx hb dX3_init_137 rfl (lv_at hl 3 rfl) ?_
        refine lv_bipush (v := 25) hx hb dX3_init_138 (by decide) ?_
        refine lv_icmp_le (tgt := 148) hx hb dX3_init_140 (by decide) (fun c2 => ?_) (fun c2 => ?_)
        · refine lv_iload_n hx hb dX3_init_148 rfl (lv_at hl 3 rfl) ?_
          refine lv_topi (fun y2 ey2 => ?_)
          replace ey2 : y2 = clI p2 25 := ey2.trans (by rw [clI, if_neg (fun q => (fa_of_lt q).2.1 c1), if_neg (fun q => (fa_of_lt q).2.1 c2)])
          subst ey2
          exact kont49
        · refine lv_bipush (v := 25) hx hb dX3_init_143 (by decide) ?_
          refine lv_goto (tgt := 149) hx hb dX3_init_145 (by decide) ?_
          refine lv_topi (fun y3 ey3 => ?_)
          replace ey3 : y3 = clI p2 25 := ey3.trans (by rw [clI, if_neg (fun q => (fa_of_lt q).2.1 c1), if_pos (fa_of_nle c2)])
          subst ey3
          exact kont49
      · refine lv_iconst (v := 1) hx hb dX3_init_133 (by decide) ?_
        refine lv_goto (tgt := 149) hx hb dX3_init_134 (by decide) ?_
        refine lv_topi (fun y1 ey1 => ?_)
        replace ey1 : y1 = clI p2 25 := ey1.trans (by rw [clI, if_pos (fa_of_nle c1)])
        subst ey1
        exact kont49
    refine lv_iload_n hx hb dX3_init_103 rfl (lv_at hl 2 rfl) ?_
    refine lv_iconst (v := 1) hx hb dX3_init_104 (by decide) ?_
    refine lv_icmp_ge (tgt := 112) hx hb dX3_init_105 (by decide) (fun c1 => ?_) (fun c1 => ?_)
    · refine lv_iload_n hx hb dX3_init_112 rfl (lv_at hl 2 rfl) ?_
      refine lv_bipush (v := 20) hx hb dX3_init_113 (by decide) ?_
      refine lv_icmp_le (tgt := 123) hx hb dX3_init_115 (by decide) (fun c2 => ?_) (fun c2 => ?_)
      · refine lv_iload_n hx hb dX3_init_123 rfl (lv_at hl 2 rfl) ?_
        refine lv_topi (fun y5 ey5 => ?_)
        replace ey5 : y5 = clI p1 20 := ey5.trans (by rw [clI, if_neg (fun q => (fa_of_lt q).2.1 c1), if_neg (fun q => (fa_of_lt q).2.1 c2)])
        subst ey5
        exact kont46
      · refine lv_bipush (v := 20) hx hb dX3_init_118 (by decide) ?_
        refine lv_goto (tgt := 124) hx hb dX3_init_120 (by decide) ?_
        refine lv_topi (fun y6 ey6 => ?_)
        replace ey6 : y6 = clI p1 20 := ey6.trans (by rw [clI, if_neg (fun q => (fa_of_lt q).2.1 c1), if_pos (fa_of_nle c2)])
        subst ey6
        exact kont46
    · refine lv_iconst (v := 1) hx hb dX3_init_108 (by decide) ?_
      refine lv_goto (tgt := 124) hx hb dX3_init_109 (by decide) ?_
      refine lv_topi (fun y4 ey4 => ?_)
      replace ey4 : y4 = clI p1 20 := ey4.trans (by rw [clI, if_pos (fa_of_nle c1)])
      subst ey4
      exact kont46
  refine lv_iload_n hx hb dX3_init_78 rfl (lv_at hl 1 rfl) ?_
  refine lv_iconst (v := 1) hx hb dX3_init_79 (by decide) ?_
  refine lv_icmp_ge (tgt := 87) hx hb dX3_init_80 (by decide) (fun c1 => ?_) (fun c1 => ?_)
  · refine lv_iload_n hx hb dX3_init_87 rfl (lv_at hl 1 rfl) ?_
    refine lv_bipush (v := 24) hx hb dX3_init_88 (by decide) ?_
    refine lv_icmp_le (tgt := 98) hx hb dX3_init_90 (by decide) (fun c2 => ?_) (fun c2 => ?_)
    · refine lv_iload_n hx hb dX3_init_98 rfl (lv_at hl 1 rfl) ?_
      refine lv_topi (fun y8 ey8 => ?_)
      replace ey8 : y8 = clI p0 24 := ey8.trans (by rw [clI, if_neg (fun q => (fa_of_lt q).2.1 c1), if_neg (fun q => (fa_of_lt q).2.1 c2)])
      subst ey8
      exact kont43
    · refine lv_bipush (v := 24) hx hb dX3_init_93 (by decide) ?_
      refine lv_goto (tgt := 99) hx hb dX3_init_95 (by decide) ?_
      refine lv_topi (fun y9 ey9 => ?_)
      replace ey9 : y9 = clI p0 24 := ey9.trans (by rw [clI, if_neg (fun q => (fa_of_lt q).2.1 c1), if_pos (fa_of_nle c2)])
      subst ey9
      exact kont43
  · refine lv_iconst (v := 1) hx hb dX3_init_83 (by decide) ?_
    refine lv_goto (tgt := 99) hx hb dX3_init_84 (by decide) ?_
    refine lv_topi (fun y7 ey7 => ?_)
    replace ey7 : y7 = clI p0 24 := ey7.trans (by rw [clI, if_pos (fa_of_nle c1)])
    subst ey7
    exact kont43

set_option maxHeartbeats 400000 in
set_option maxRecDepth 100000 in
theorem c_ninit (l : Launch) (D : va_G) (cI cB cO : ClassId) (o w sz : Nat) (hw : w ≤ 22) : Met l yX1_init wsX1_init ({ frames := 1, cells := 1, slots := 22, locals := 12 }) (aPc [.ref o, .int (nI w)] D [(o, .inr (1, [.null, .int 0]))] [(cI, .int), (cB, .byte), (cO, .object "BigLedger$Natural")] sz) (va_Qv (fun a : Nat => sz ≤ a ∧ a ≠ o) (fun a t => va_P D vwCl (nW cI w o a 0) t.heap) (oA o sz)) 1 22 (oA o sz) := by
  refine Met.ofW (cc := cX1_init) (maxL := 2) (ret := none) (by decide) rfl ?_
  intro p e s m args below meth c s₁ B hml hv
  obtain ⟨rfl, hsz, hP, hK, hM⟩ := hv
  have hx := B.exec
  have hb := B.bytes
  have hr := B.returns
  have hts := atoms_spec (ws := wsX1_init) B.pre
  have hown : s.vm.findClass RX1 = some m.cls := findClass_of_methodNamed B.named
  have hlocks := B.notSynchronized
  have hin : meth.name = "<init>" := (name_of_methodNamed B.named B.method).1
  have hi1 : ∀ w ∈ wsX10, w ∈ wsX1_init := by decide +kernel
  have hA : ∀ q : Nat, s.heap.size ≤ q → oA o sz q := fun q h => Or.inr (by omega)
  have hD : va_D (oA o sz) [(o, .inr (1, [.null, .int 0]))] := vd_one (Or.inl rfl)
  have hS : va_S (oA o sz) s.heap s.heap [] := va_S.rf
  have hl := lv_entry ([.ref (o), .int (nI w)]) (n := 2) (Nat.le_of_ble_eq_true rfl)
  rw [lg_entry_eq]
  generalize (lg_sl ([.ref (o), .int (nI w)]) ++ List.replicate (2 - (lg_sl ([.ref (o), .int (nI w)])).length) Slot.unset).toArray = ls at hl ⊢
  have hl : lv_has ls 2 [(0, .ref (o)), (1, .int (nI w))] := hl
  refine lv_aload_n hx hb dX1_init_0 rfl (lv_at hl 0 rfl) ?_
  refine W.objInit hx hb hown (hts (.methodLink RX1 3 objectInit) (by decide +kernel)) (hts (.instanceMethod objectInit) (by decide +kernel)) (hts (.code objectInit ⟨#[0xb1]⟩ 1 none) (by decide +kernel)) rfl (by rw [hml]; exact hl.1) rfl dX1_init_1 (Nat.le_of_ble_eq_true rfl) (Nat.le_of_ble_eq_true rfl) ?_
  refine W.eq (g2 := F0 m 4 ls []) rfl ?_
  refine lv_aload_n hx hb dX1_init_4 rfl (lv_at hl 0 rfl) ?_
  refine lv_iload_n hx hb dX1_init_5 rfl (lv_at hl 1 rfl) ?_
  have hz9 : w = (nI w).toNatClampNeg := (nI_clamp (by omega)).symm
  refine va_newa (a0 := (w, .inl (fun _ => 0))) (ty := .int) (N' := w) hx hb (hts (.arrayClass .int) (by decide +kernel)) rfl hK hP hD hS hA (fun cA => rfl) (nI_pos (by omega)) (nI_clamp (by omega)) (Nat.le_trans (Nat.mul_le_mul_right 4 hw) (by decide)) (by show 0 + 1 ≤ 1; omega) (by show 0 + w ≤ 22; omega) dX1_init_6 (fun qa cA H hK hP hD hS => ?_)
  have hca := (ka_eq hK 0 3 rfl rfl).symm
  subst hca
  refine W.widen (k := 1) (n := 22) (by omega) (by omega) ?_
  have hP : va_P D vwCl [(o, .inr (1, [.null, .int ((0 : Int32))])), (qa, .inl (cI, w, .inl (fun _ => 0)))] H := hP
  have hD : va_D (oA o sz) [(o, .inr (1, [.null, .int ((0 : Int32))])), (qa, .inl (cI, w, .inl (fun _ => 0)))] := hD
  refine va_putF (D := D) (ci := 1) (v := .ref (qa)) (ty := .array (.int)) (C := RX1) (T := TX1) (N := 2) hx hb hts hi1 tyX1 tyX1_ok nmX1 hown hK hP hD hS 0 rfl rfl 0 (by decide) (hts (.fieldLink RX1 9 "BigLedger$Natural" "limbs" "[I") (by decide +kernel)) (fun _ h9 => h9) rfl hin rfl (by decide +kernel) (rfl) (rfl) (Nat.le_of_ble_eq_true rfl) dX1_init_8 (fun H locs hP hD hS => ?_)
  have hP : va_P D vwCl [(o, .inr (1, [.ref (qa), .int ((0 : Int32))])), (qa, .inl (cI, w, .inl (fun _ => 0)))] H := hP
  have hD : va_D (oA o sz) [(o, .inr (1, [.ref (qa), .int ((0 : Int32))])), (qa, .inl (cI, w, .inl (fun _ => 0)))] := hD
  have hq1 : sz ≤ qa ∧ qa ≠ o := by
    have h1 := hD.2 1 _ rfl
    have h2 : qa ≠ o := fun q => absurd (hD.1 0 1 _ _ rfl rfl q.symm) (by decide)
    exact ⟨h1.resolve_left h2, h2⟩
  have hP9 : va_P D vwCl (nW cI w o qa 0) H := vp_cons (by rw [szF_zero, nI_0]; exact hP 0 _ rfl) (vp_cons (at_congr (hP 1 _ rfl) (fun k _ => by show (0 : Int32) = nI (lbN 0 k); rw [lbN_of_zero, nI_0])) vp_nil)
  exact W.vret hx hb hr (fun t ht hW => ⟨⟨qa, rfl, hq1, hp_at ht hP9⟩, hS.F ht⟩) hS.2.2 dX1_init_11

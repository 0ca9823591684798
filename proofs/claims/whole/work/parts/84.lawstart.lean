/-! the law from its entry -/
theorem xw_at {A : Array Value} {s : State} (hts : ∀ w ∈ lw_tbl, w.before A s = true) (i : Nat) {w : Cond} (h : lw_tbl[i]? = some w) : w.before A s = true := hts w (List.mem_of_getElem? h)
theorem st_arr {A : Array Value} {s : State} {ty : FieldType} (h : (Cond.arrayClass ty).before A s = true) : ∃ cA, ArrOfT s cA ty ∧ s.vm.findClass ("[" ++ ty.toString) = some cA := by
  obtain ⟨c, k, comp, h1, h2, h3⟩ := Cond.arrayClass_spec h
  exact ⟨c, fun N z => ⟨(fun k h => by cases h), k, h2, comp, h3⟩, h1⟩
theorem st_arq {A : Array Value} {s : State} {C : String} (h : (Cond.arrayOver (.object C)).before A s = true) : ∃ cA, ArrOfT s cA (.object C) ∧ va_RA s cA (.object C) := by
  obtain ⟨comp, c, k, h1, -, h2, h3, h4⟩ := Cond.arrayOver_spec h
  exact ⟨c, fun N z => ⟨(fun k h => by cases h), k, h2, comp, h3⟩, k, comp, h2, h3, h1, h4⟩
set_option maxRecDepth 20000 in
theorem st_K {A : Array Value} {s : State} (hts : ∀ w ∈ lw_tbl, w.before A s = true) : ∃ (D : va_G) (cI cB cO cZ cJ : ClassId), va_K D vwCl [(cI, .int), (cB, .byte), (cO, .object "BigLedger$Natural"), (cZ, .boolean), (cJ, .long)] s := by
  obtain ⟨c0, i0, k0⟩ := u_known (C := RX0) (T := TX0) (N := 6) (n := 6) hts inX0 (xw_at hts 55 (by decide +kernel))
  obtain ⟨c1, i1, k1⟩ := u_known (C := RX1) (T := TX1) (N := 2) (n := 2) hts inX1 (xw_at hts 65 (by decide +kernel))
  obtain ⟨c2, i2, k2⟩ := u_known (C := RX2) (T := TX2) (N := 11) (n := 11) hts inX2 (xw_at hts 38 (by decide +kernel))
  obtain ⟨c3, i3, k3⟩ := u_known (C := RX3) (T := TX3) (N := 18) (n := 18) hts inX3 (xw_at hts 417 (by decide +kernel))
  obtain ⟨cI, aI, rI⟩ := st_arr (ty := .int) (xw_at hts 78 (by decide +kernel))
  obtain ⟨cB, aB, rB⟩ := st_arr (ty := .byte) (xw_at hts 137 (by decide +kernel))
  obtain ⟨cZ, aZ, rZ⟩ := st_arr (ty := .boolean) (xw_at hts 477 (by decide +kernel))
  obtain ⟨cJ, aJ, rJ⟩ := st_arr (ty := .long) (xw_at hts 604 (by decide +kernel))
  obtain ⟨cO, aO, rO⟩ := st_arq (C := "BigLedger$Natural") (xw_at hts 64 (by decide +kernel))
  refine ⟨(fun k => if k = 0 then c0 else if k = 1 then c1 else if k = 2 then c2 else c3, fun k => if k = 0 then i0 else if k = 1 then i1 else if k = 2 then i2 else i3), cI, cB, cO, cZ, cJ, ?_, ?_⟩
  · intro k q hq
    match k, hq with
    | 0, hq => cases hq; exact k0
    | 1, hq => cases hq; exact k1
    | 2, hq => cases hq; exact k2
    | 3, hq => cases hq; exact k3
    | k + 4, hq => simp [vwCl] at hq
  · intro k q hq
    match k, hq with
    | 0, hq => cases hq; exact ⟨aI, rI⟩
    | 1, hq => cases hq; exact ⟨aB, rB⟩
    | 2, hq => cases hq; exact ⟨aO, rO⟩
    | 3, hq => cases hq; exact ⟨aZ, rZ⟩
    | 4, hq => cases hq; exact ⟨aJ, rJ⟩
    | k + 5, hq => simp at hq
set_option maxRecDepth 20000 in
theorem st_nst {A : Array Value} {s : State} (hts : ∀ w ∈ lw_tbl, w.before A s = true) : nst s := ⟨va_Nw.of rfl (xw_at hts 88 (by decide +kernel)), va_Nw.of rfl (xw_at hts 84 (by decide +kernel)), va_Nw.of rfl (xw_at hts 86 (by decide +kernel)), va_Nw.of rfl (xw_at hts 80 (by decide +kernel)), va_Nw.of rfl (xw_at hts 72 (by decide +kernel)), va_Nw.of rfl (xw_at hts 288 (by decide +kernel))⟩
set_option maxRecDepth 20000 in
theorem st_mkx {A : Array Value} {s : State} (hts : ∀ w ∈ lw_tbl, w.before A s = true) : mkx s := ⟨va_AO.of (xw_at hts 64 (by decide +kernel)), va_Nw.of rfl (xw_at hts 60 (by decide +kernel))⟩
set_option maxRecDepth 20000 in
theorem st_thx {A : Array Value} {s : State} (hts : ∀ w ∈ lw_tbl, w.before A s = true) (hgv : (Jvm.Cond.and given_1 narrow_1).before A s = true) : ∃ sa, thx sa s := by
  have h1 : (Cond.exactly (.string "BigLedger" 157) "java/lang/String").before A s = true := flat_of_before _ hgv _ (List.mem_of_getElem? (i := 10) (by decide +kernel))
  obtain ⟨a, c, cell, k, h2, -⟩ := Cond.exactly_spec h1
  exact ⟨a, vk_R.of (xw_at hts 386 (by decide +kernel)) h2, va_Nw.of rfl (xw_at hts 351 (by decide +kernel)), va_Nw.of rfl (xw_at hts 353 (by decide +kernel)), va_Nw.of rfl (xw_at hts 355 (by decide +kernel)), va_Nw.of rfl (xw_at hts 349 (by decide +kernel))⟩
set_option maxRecDepth 20000 in
theorem st_thz {A : Array Value} {s : State} (hts : ∀ w ∈ lw_tbl, w.before A s = true) (hgv : (Jvm.Cond.and given_1 narrow_1).before A s = true) : thz (fun q => s.heap.size ≤ q) s s.heap :=
  ⟨vx_Zqof (xw_at hts 374 (by decide +kernel)) (xw_at hts 33 (by decide +kernel)) (flat_of_before _ hgv _ (List.mem_of_getElem? (i := 4) (by decide +kernel))) (fun a h => Nat.not_le.mpr h), vx_Zqof (xw_at hts 376 (by decide +kernel)) (xw_at hts 33 (by decide +kernel)) (flat_of_before _ hgv _ (List.mem_of_getElem? (i := 5) (by decide +kernel))) (fun a h => Nat.not_le.mpr h)⟩
theorem vX_kept {b L : Nat} {xs : Nat → Int32} {s : State} {H : Heap} {locs : List Loc} (hX : va_X b L xs s s.heap) (hbl : b < s.heap.size) (hS : va_S (fun q => s.heap.size ≤ q) s.heap H locs) : va_X b L xs s H := by
  obtain ⟨scr, h1, h2⟩ := hX
  exact ⟨scr, (hS.2.1 b hbl (Nat.not_le.mpr hbl)).trans h1, h2⟩
theorem oA_ge {o sz n : Nat} (h1 : n ≤ o) (h2 : n ≤ sz) : ∀ q, oA o sz q → n ≤ q := fun q h => h.elim (fun e => by rw [e]; exact h1) (fun e => Nat.le_trans h2 e)
theorem vp_1 {D : va_G} {q : Nat × va_E} {H : Heap} (h : va_at D vwCl q H) : va_P D vwCl [q] H := vp_cons h vp_nil

set_option maxHeartbeats 4000000 in
set_option maxRecDepth 100000 in
theorem whole_start {p : Program} {e : Env} {s : State} {m : MethodId} {below : List Frame} {meth : Method} {c : Code} (l : Launch) (hlt : l.stackTraces = false) {b L : Nat} {xs : Nat → Int32} (hL : L ≤ 2051) (C0 : lw_At p s m meth c b L xs) : W p l e room_1 s m #[Value.ref b] below meth c s.heap [] 0 0 (lw_Z below #[Value.ref b] s) (entryFrame m ([Value.ref b] : List Value).toArray 7) := by
  obtain ⟨hx, hb, hr, hml, hown0, htb, hX, hbl, hlocks, hgv⟩ := C0
  have hown : s.vm.findClass RL = some m.cls := hown0
  have hts : ∀ w ∈ wsL_law, w.before #[Value.ref b] s = true := fun w hw => htb w (wsL_law_in w hw)
  obtain ⟨D, cI, cB, cO, cZ, cJ, hK⟩ := st_K htb
  have hN := st_nst htb
  have hMk := st_mkx htb
  obtain ⟨sa, hTh⟩ := st_thx htb hgv
  have hZ := st_thz htb hgv
  obtain ⟨acc, a1, a2, a3, a4⟩ := cl_ex (cellV L xs 0) (n := 24) (by decide) (by decide)
  obtain ⟨lm, l1, l2, l3, l4⟩ := cl_ex (cellV L xs 1) (n := 20) (by decide) (by decide)
  obtain ⟨rm, r1, r2, r3, r4⟩ := cl_ex (cellV L xs 2) (n := 25) (by decide) (by decide)
  have hS : va_S (fun q => s.heap.size ≤ q) s.heap s.heap [] := va_S.rf
  have hl := lv_entry ([.ref b]) (n := 7) (Nat.le_of_ble_eq_true rfl)
  rw [lg_entry_eq]
  generalize (lg_sl ([.ref b]) ++ List.replicate (7 - (lg_sl ([.ref b])).length) Slot.unset).toArray = ls at hl ⊢
  have hl : lv_has ls 7 [(0, .ref b)] := hl
  refine xa_new (ci := 2) (fs := [.int 0, .int 0, .int 0, .null, .null, .int 0, .null, .int 0, .null, .null, .int 0]) (C := RX2) (T := TX2) (N := 11) hx hb htb inX2 tyX2 tyX2_ok hown (xw_at htb 37 (by decide +kernel)) (xw_at htb 38 (by decide +kernel)) (xw_at htb 27 (by decide +kernel)) hK hS rfl (fun j hj => by rcases (show j = 0 ∨ j = 1 ∨ j = 2 ∨ j = 3 ∨ j = 4 ∨ j = 5 ∨ j = 6 ∨ j = 7 ∨ j = 8 ∨ j = 9 ∨ j = 10 by omega) with rfl | rfl | rfl | rfl | rfl | rfl | rfl | rfl | rfl | rfl | rfl <;> rfl) (by show 0 + 1 ≤ 601024; omega) (by show 0 + 11 ≤ 7293000; omega) dL_law_0 (fun H1 en1 hz1 ho1 hS => ?_)
  refine lv_dup hx hb dL_law_3 rfl ?_
  refine lv_aload_n hx hb dL_law_4 rfl (lv_at hl 0 rfl) ?_
  refine lv_iconst (v := 0) hx hb dL_law_5 (by decide) ?_
  refine vp_callSi (W.runS (As := [.ref b, .int (nI 0)]) (rest := [.ref s.heap.size, .ref s.heap.size]) ⟨hx, hb, hml, hown, hts⟩ (l_cell l b L xs hL 0 (by decide)) (va_cwS 2 hts gL_law_L_cell rfl rfl rfl (by decide +kernel) ⟨Nat.le_of_ble_eq_true rfl, Nat.le_of_ble_eq_true rfl⟩) ⟨sPc_blind, sPc_use (vX_kept hX hbl hS) (Nat.lt_of_lt_of_le hbl hS.1)⟩ rfl rfl hl.1 rfl (lv_room (Nat.le_of_ble_eq_true rfl)) dL_law_6 ⟨by show 0 + 1 + 0 ≤ 601024; omega, by show 0 + 11 + 0 ≤ 7293000; omega⟩) (fun r hr9 => ?_)
  subst hr9
  refine lv_aload_n hx hb dL_law_9 rfl (lv_at hl 0 rfl) ?_
  refine lv_iconst (v := 1) hx hb dL_law_10 (by decide) ?_
  refine vp_callSi (W.runS (As := [.ref b, .int (nI 1)]) (rest := [.int (cellV L xs 0), .ref s.heap.size, .ref s.heap.size]) ⟨hx, hb, hml, hown, hts⟩ (l_cell l b L xs hL 1 (by decide)) (va_cwS 2 hts gL_law_L_cell rfl rfl rfl (by decide +kernel) ⟨Nat.le_of_ble_eq_true rfl, Nat.le_of_ble_eq_true rfl⟩) ⟨sPc_blind, sPc_use (vX_kept hX hbl hS) (Nat.lt_of_lt_of_le hbl hS.1)⟩ rfl rfl hl.1 rfl (lv_room (Nat.le_of_ble_eq_true rfl)) dL_law_11 ⟨by show 0 + 1 + 0 ≤ 601024; omega, by show 0 + 11 + 0 ≤ 7293000; omega⟩) (fun r hr9 => ?_)
  subst hr9
  refine lv_aload_n hx hb dL_law_14 rfl (lv_at hl 0 rfl) ?_
  refine lv_iconst (v := 2) hx hb dL_law_15 (by decide) ?_
  refine vp_callSi (W.runS (As := [.ref b, .int (nI 2)]) (rest := [.int (cellV L xs 1), .int (cellV L xs 0), .ref s.heap.size, .ref s.heap.size]) ⟨hx, hb, hml, hown, hts⟩ (l_cell l b L xs hL 2 (by decide)) (va_cwS 2 hts gL_law_L_cell rfl rfl rfl (by decide +kernel) ⟨Nat.le_of_ble_eq_true rfl, Nat.le_of_ble_eq_true rfl⟩) ⟨sPc_blind, sPc_use (vX_kept hX hbl hS) (Nat.lt_of_lt_of_le hbl hS.1)⟩ rfl rfl hl.1 rfl (lv_room (Nat.le_of_ble_eq_true rfl)) dL_law_16 ⟨by show 0 + 1 + 0 ≤ 601024; omega, by show 0 + 11 + 0 ≤ 7293000; omega⟩) (fun r hr9 => ?_)
  subst hr9
  refine va_callv (va_runI (As := [.int (cellV L xs 0), .int (cellV L xs 1), .int (cellV L xs 2)]) (rest := [.ref s.heap.size]) ⟨hx, hb, hml, hown, hts⟩ (c_linit l D cI cB cO s.heap.size (s.heap.size + 1) (cellV L xs 0) (cellV L xs 1) (cellV L xs 2) acc lm rm a4 l4 r4 a1 a2 l1 l2) (cwI 3 hts gL_law_X2_init rfl rfl rfl (xw_at htb 27 (by decide +kernel)) (xw_at htb 39 (by decide +kernel)) (xw_at htb 40 (by decide +kernel)) rfl (by decide +kernel) ⟨Nat.le_of_ble_eq_true rfl, Nat.le_of_ble_eq_true rfl⟩) ⟨aPc_blind, aPc_use (vp_1 en1) ⟨hz1, hK.sub [0, 1, 2] rfl, hMk⟩⟩ rfl rfl hl.1 rfl (lv_room (Nat.le_of_ble_eq_true rfl)) dL_law_19 ⟨by show 0 + 1 + 159 ≤ 601024; omega, by show 0 + 11 + 2204 ≤ 7293000; omega⟩) hS (fun q _ h => oA_ge (Nat.le_refl _) (Nat.le_succ _) q h) (oA_ge (Nat.le_refl _) (Nat.le_succ _)) (fun ad t H2 locs ht hvm hw hPl hz2 hk2 hS => ?_)
  rw [ht] at hPl
  obtain ⟨hok, had0, hadi⟩ := hw
  have hge : ∀ i, i < 6 * acc + 16 → s.heap.size ≤ ad i := fun i hi => by
    by_cases q : i = 0
    · rw [q, had0]; exact Nat.le_refl _
    · have := hadi i (by omega) hi
      omega
  have hlt2 : ∀ i, i < 6 * acc + 16 → ad i < H2.size := fun i hi => (hPl _ _ (wl_at hi)).lt
  refine lv_astore_n (lv' := [(1, .ref s.heap.size), (0, .ref b)]) hx hb dL_law_22 rfl hl (by decide) rfl (fun ls hl => ?_)
  refine xa_new (ci := 3) (fs := [.int 0, .int 0, .int 0, .int 0, .null, .null, .null, .null, .null, .null, .null, .int 0, .int 0, .int 0, .int 0, .int 0, .null, .int 0]) (C := RX3) (T := TX3) (N := 18) hx hb htb inX3 tyX3 tyX3_ok hown (xw_at htb 416 (by decide +kernel)) (xw_at htb 417 (by decide +kernel)) (xw_at htb 31 (by decide +kernel)) hK hS rfl (fun j hj => by rcases (show j = 0 ∨ j = 1 ∨ j = 2 ∨ j = 3 ∨ j = 4 ∨ j = 5 ∨ j = 6 ∨ j = 7 ∨ j = 8 ∨ j = 9 ∨ j = 10 ∨ j = 11 ∨ j = 12 ∨ j = 13 ∨ j = 14 ∨ j = 15 ∨ j = 16 ∨ j = 17 by omega) with rfl | rfl | rfl | rfl | rfl | rfl | rfl | rfl | rfl | rfl | rfl | rfl | rfl | rfl | rfl | rfl | rfl | rfl <;> rfl) (by show 0 + 1 + 159 + 1 ≤ 601024; omega) (by show 0 + 11 + 2204 + 18 ≤ 7293000; omega) dL_law_23 (fun H3 en3 hz3 ho3 hS => ?_)
  replace hPl := hPl.kept (fun k q hk => ho3 _ (hPl k q hk).lt)
  have hsz2 : s.heap.size ≤ H2.size := by omega
  refine lv_dup hx hb dL_law_26 rfl ?_
  refine lv_aload_n hx hb dL_law_27 rfl (lv_at hl 1 rfl) ?_
  refine lv_iconst (v := 0) hx hb dL_law_28 (by decide) ?_
  refine vp_callSi (W.runS (As := [.ref b, .int (nI 0)]) (rest := [.ref H2.size, .ref H2.size]) ⟨hx, hb, hml, hown, hts⟩ (l_cell l b L xs hL 0 (by decide)) (va_cwS 2 hts gL_law_L_cell rfl rfl rfl (by decide +kernel) ⟨Nat.le_of_ble_eq_true rfl, Nat.le_of_ble_eq_true rfl⟩) ⟨sPc_blind, sPc_use (vX_kept hX hbl hS) (Nat.lt_of_lt_of_le hbl hS.1)⟩ rfl rfl hl.1 rfl (lv_room (Nat.le_of_ble_eq_true rfl)) dL_law_29 ⟨by show 0 + 1 + 159 + 1 + 0 ≤ 601024; omega, by show 0 + 11 + 2204 + 18 + 0 ≤ 7293000; omega⟩) (fun r hr9 => ?_)
  subst hr9
  refine lv_aload_n hx hb dL_law_32 rfl (lv_at hl 1 rfl) ?_
  refine lv_iconst (v := 1) hx hb dL_law_33 (by decide) ?_
  refine vp_callSi (W.runS (As := [.ref b, .int (nI 1)]) (rest := [.int (cellV L xs 0), .ref H2.size, .ref H2.size]) ⟨hx, hb, hml, hown, hts⟩ (l_cell l b L xs hL 1 (by decide)) (va_cwS 2 hts gL_law_L_cell rfl rfl rfl (by decide +kernel) ⟨Nat.le_of_ble_eq_true rfl, Nat.le_of_ble_eq_true rfl⟩) ⟨sPc_blind, sPc_use (vX_kept hX hbl hS) (Nat.lt_of_lt_of_le hbl hS.1)⟩ rfl rfl hl.1 rfl (lv_room (Nat.le_of_ble_eq_true rfl)) dL_law_34 ⟨by show 0 + 1 + 159 + 1 + 0 ≤ 601024; omega, by show 0 + 11 + 2204 + 18 + 0 ≤ 7293000; omega⟩) (fun r hr9 => ?_)
  subst hr9
  refine lv_aload_n hx hb dL_law_37 rfl (lv_at hl 1 rfl) ?_
  refine lv_iconst (v := 2) hx hb dL_law_38 (by decide) ?_
  refine vp_callSi (W.runS (As := [.ref b, .int (nI 2)]) (rest := [.int (cellV L xs 1), .int (cellV L xs 0), .ref H2.size, .ref H2.size]) ⟨hx, hb, hml, hown, hts⟩ (l_cell l b L xs hL 2 (by decide)) (va_cwS 2 hts gL_law_L_cell rfl rfl rfl (by decide +kernel) ⟨Nat.le_of_ble_eq_true rfl, Nat.le_of_ble_eq_true rfl⟩) ⟨sPc_blind, sPc_use (vX_kept hX hbl hS) (Nat.lt_of_lt_of_le hbl hS.1)⟩ rfl rfl hl.1 rfl (lv_room (Nat.le_of_ble_eq_true rfl)) dL_law_39 ⟨by show 0 + 1 + 159 + 1 + 0 ≤ 601024; omega, by show 0 + 11 + 2204 + 18 + 0 ≤ 7293000; omega⟩) (fun r hr9 => ?_)
  subst hr9
  refine va_callv (va_runI (As := [.int (cellV L xs 0), .int (cellV L xs 1), .int (cellV L xs 2)]) (rest := [.ref H2.size]) ⟨hx, hb, hml, hown, hts⟩ (m_init l D cI cZ cB H2.size (H2.size + 1) (cellV L xs 0) (cellV L xs 1) (cellV L xs 2) acc lm rm a3 l3 r3) (cwI 3 hts gL_law_X3_init rfl rfl rfl (xw_at htb 31 (by decide +kernel)) (xw_at htb 418 (by decide +kernel)) (xw_at htb 419 (by decide +kernel)) rfl (by decide +kernel) ⟨Nat.le_of_ble_eq_true rfl, Nat.le_of_ble_eq_true rfl⟩) ⟨fun a U g mk q => by obtain ⟨q0, q1, q2, q3⟩ := q; exact ⟨q0, q1, q2, va_K.moved (u := U) (U := U.calling g mk a) (Vm.Alike.refl U.vm) q3⟩, fun U hU hW => ⟨rfl, by rw [hU]; exact hz3, by rw [hU]; exact en3, va_K.moved hW.alike (hK.sub [0, 3, 1] rfl)⟩⟩ rfl rfl hl.1 rfl (lv_room (Nat.le_of_ble_eq_true rfl)) dL_law_42 ⟨by show 0 + 1 + 159 + 1 + 8 ≤ 601024; omega, by show 0 + 11 + 2204 + 18 + 2066 ≤ 7293000; omega⟩) hS (fun q _ h => oA_ge hsz2 (by omega) q h) (oA_ge hsz2 (by omega)) (fun _u t4 H4 locs ht4 hvm4 _hw hPm hz4 hk4 hS => ?_)
  rw [ht4] at hPm
  replace hPl := hPl.kept (fun k q hk => hk4 _ (hPl k q hk).lt (fun n => by
    obtain ⟨h9, rfl⟩ := wl_lt hk
    have h8 := hlt2 k h9
    rcases n with n | n
    · have n : ad k = H2.size := n
      omega
    · have n : H2.size + 1 ≤ ad k := n
      omega))
  refine lv_astore_n (lv' := [(2, .ref H2.size), (1, .ref s.heap.size), (0, .ref b)]) hx hb dL_law_45 rfl hl (by decide) rfl (fun ls hl => ?_)
  refine lv_iconst (v := 1) hx hb dL_law_46 (by decide) ?_
  refine xa_newa (atype := .long) (ty := .long) (N' := 1) (a0 := (1, .inr (.inl (fun _ => 0)))) hx hb (xw_at htb 604 (by decide +kernel)) rfl hK 4 rfl ra_l hS (nw_l 1) (by decide) rfl (by_l (by decide)) (by show 0 + 1 + 159 + 1 + 8 + 1 ≤ 601024; omega) (by show 0 + 11 + 2204 + 18 + 2066 + 1 ≤ 7293000; omega) dL_law_47 (fun H5 en5 hz5 ho5 hS => ?_)
  replace hPl := hPl.kept (fun k q hk => ho5 _ (hPl k q hk).lt)
  have hlt4 : ∀ j, j < 9 → gM H2.size (H2.size + 1) j < H4.size := fun j hj => (hPm _ _ (wl_at hj)).lt
  replace hPm := hPm.kept (fun k q hk => ho5 _ (hPm k q hk).lt)
  refine lv_astore_n (lv' := [(3, .ref H4.size), (2, .ref H2.size), (1, .ref s.heap.size), (0, .ref b)]) hx hb dL_law_49 rfl hl (by decide) rfl (fun ls hl => ?_)
  refine lv_iconst (v := 3) hx hb dL_law_50 (by decide) ?_
  refine lv_istore (lv' := [(4, .int (nI 3)), (3, .ref H4.size), (2, .ref H2.size), (1, .ref s.heap.size), (0, .ref b)]) hx hb dL_law_51 hl (by decide) rfl (fun ls hl => ?_)
  have hgj : ∀ j, H2.size ≤ gM H2.size (H2.size + 1) j := fun j => by unfold gM; split <;> omega
  have C : cCtx p l s m c b L xs D cI cB cO cZ cJ sa acc lm rm ad (gM H2.size (H2.size + 1)) H4.size :=
    ⟨hx, hb, hml, hown, hts, hX, hbl, hlt, hK, hN, hTh, hZ, hok, gM_ok (Nat.lt_succ_self _), ⟨a1, a2, l1, l2, r2⟩, ⟨hge, fun j _ => Nat.le_trans hsz2 (hgj j), by omega⟩, fun i j hi hj n => by
      have h1 := hlt2 i hi
      have h2 := hgj j
      omega, fun i hi n => by
      have h1 := hlt2 i hi
      omega, fun j hj n => by
      have h1 := hlt4 j hj
      omega⟩
  have hl9 : lv_has ls 7 [(0, .ref b), (1, .ref (ad 0)), (2, .ref (gM H2.size (H2.size + 1) 0)), (3, .ref H4.size), (4, .int (nI 3))] := by
    rw [had0]; exact lv_sub hl [4, 3, 2, 1, 0] rfl
  exact law_loop C hL hr hlocks L 3 _ _ (by omega) (by omega) (by show 0 + 1 + 159 + 1 + 8 + 1 + L ≤ 601024; omega) (by show 0 + 11 + 2204 + 18 + 2066 + 1 + 6 * L ≤ 7293000; omega) (NZ, XZ, zL) (fun _ => 0) ((fun _ _ => 0 : LN), 0, (fun _ _ => false : BN), yM) (fun _ => 0) (fun _ => 0) (fun _ => 0) 0 H5 _ ls ⟨hPl, hPm, vp_1 en5, s_start acc lm a2, o_start lm⟩ hS hl9

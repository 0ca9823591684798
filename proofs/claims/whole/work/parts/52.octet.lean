/-! octet: an answer or an exception -/
def wsX2_octet : List Cond := .code yX2_octet cX2_octet 2 (some .int) :: ([.classLink RX2 155 "java/util/NoSuchElementException", .initialized "java/util/NoSuchElementException", .fieldLink RX2 152 "BigLedger" "outLength" "I", .fieldLink RX2 52 "BigLedger" "outBackwards" "[B"] ++ wsX20 ++ oW.filter goodWord)
def thB : List Cond := [.declares (Bundle.initS "java/lang/RuntimeException"), .declares (Bundle.initS "java/lang/Exception"), .declares (Bundle.initS Bundle.tN), .castable NSE NSE]
/-- what a throw of octet's needs beside the good words: tables -/
def thx (sa : Nat) (U : State) : Prop := vk_R RX2 157 "OUT has no such byte" sa U ∧ va_Nw (.declares (Bundle.initS "java/lang/RuntimeException")) U ∧ va_Nw (.declares (Bundle.initS "java/lang/Exception")) U ∧ va_Nw (.declares (Bundle.initS Bundle.tN)) U ∧ va_Nw (.castable NSE NSE) U
theorem thx.warm {sa : Nat} {s U : State} (hW : s.WarmedH U.vm) (h : thx sa s) : thx sa U := ⟨vk_R.warm hW h.1, h.2.1.warmD hW, h.2.2.1.warmD hW, h.2.2.2.1.warmD hW, h.2.2.2.2.warmC hW⟩
theorem thx.same {sa : Nat} {s U : State} (hv : s.vm = U.vm) (h : thx sa s) : thx sa U := ⟨vk_R.same hv.symm h.1, h.2.1.same rfl hv, h.2.2.1.same rfl hv, h.2.2.2.1.same rfl hv, h.2.2.2.2.same rfl hv⟩
theorem thx.words {sa : Nat} {U : State} {A : Array Value} (h : thx sa U) : ∀ w ∈ thB, w.before A U = true := vx_c (va_Nw.use rfl h.2.1) (vx_c (va_Nw.use rfl h.2.2.1) (vx_c (va_Nw.use rfl h.2.2.2.1) (vx_c (va_Nw.use rfl h.2.2.2.2) vx_n)))
/-- .. and the two statics of Throwable -/
def thz (A : Nat → Prop) (U : State) (H : Heap) : Prop := vx_Zq Bundle.tN "UNASSIGNED_STACK" Bundle.steD A U H ∧ vx_Zq Bundle.tN "SUPPRESSED_SENTINEL" Bundle.listD A U H
theorem thz.moved {A : Nat → Prop} {u U : State} {H : Heap} (hvm : u.vm.Alike U.vm) (h : thz A u H) : thz A U H := ⟨h.1.moved hvm, h.2.moved hvm⟩
theorem thz.kept {A : Nat → Prop} {U : State} {H H1 : Heap} (h : thz A U H) (hq : ∀ a : Nat, a < H.size → ¬ A a → H1[a]? = H[a]?) : thz A U H1 := ⟨h.1.kept hq, h.2.kept hq⟩
theorem thz.narrow {A B : Nat → Prop} {U : State} {H : Heap} (h : thz A U H) (hAB : ∀ q, B q → A q) : thz B U H := ⟨h.1.narrow hAB, h.2.narrow hAB⟩
def oPc (av : List Value) (D : va_G) (ws : va_W) (tys : List (ClassId × FieldType)) (sa : Nat) (B : Nat → Prop) : Array Value → State → Prop := va_Pc av (fun U => va_P D vwCl ws U.heap ∧ va_K D vwCl tys U ∧ thx sa U ∧ thz B U U.heap)
theorem oPc_blind {av : List Value} {D : va_G} {ws : va_W} {tys : List (ClassId × FieldType)} {sa : Nat} {B : Nat → Prop} : FrameBlind (oPc av D ws tys sa B) := fun a U g mk q => by
  obtain ⟨q0, qP, qK, qN, qZ⟩ := q
  exact ⟨q0, qP, va_K.moved (u := U) (U := U.calling g mk a) (Vm.Alike.refl U.vm) qK, qN.same rfl, qZ.moved (Vm.Alike.refl U.vm)⟩
theorem oPc_use {av : List Value} {D : va_G} {ws : va_W} {tys : List (ClassId × FieldType)} {H : Heap} {s : State} {sa : Nat} {B : Nat → Prop} (hP : va_P D vwCl ws H) (hKN : va_K D vwCl tys s ∧ thx sa s ∧ thz B s H) : ∀ U : State, U.heap = H → s.WarmedH U.vm → oPc av D ws tys sa B av.toArray U :=
  fun U hU hW => ⟨rfl, by rw [hU]; exact hP, va_K.moved hW.alike hKN.1, hKN.2.1.warm hW, by rw [hU]; exact hKN.2.2.moved hW.alike⟩
/-- whether p names a byte of an OUT of n -/
def oIn (n : Nat) (p : Int32) : Prop := ¬ p < 0 ∧ p < nI n
theorem oIn_ex {n : Nat} (hn : n < 2 ^ 31) {p : Int32} (h : oIn n p) : ∃ j, j < n ∧ p = nI j := by
  obtain ⟨j, hj, rfl⟩ := nI_of h.1
  exact ⟨j, (nI_ltI hj hn).mp h.2, rfl⟩
set_option maxHeartbeats 4000000 in
set_option maxRecDepth 100000 in
theorem c_octet (l : Launch) (hlt : l.stackTraces = false) (D : va_G) (ad : Nat → Nat) (cI cB cO : ClassId) (acc lm rm : Nat) (N : LN) (x : Nat → Nat) (z ob : Nat → Int32) (hok : lOk ad acc lm) (sa n : Nat) (B : Nat → Prop) (hn : n ≤ lm * 10) (hz4 : z 4 = nI n) (p0 : Int32) : vx_Met l yX2_octet wsX2_octet ({ frames := 6, cells := 1, slots := 6, locals := 82 }) (oPc [.ref (ad 0), .int (p0)] D (lW ad cI cB cO acc lm rm N x z ob) [(cI, .int), (cB, .byte), (cO, .object "BigLedger$Natural")] sa B) (va_Qi (fun r (_ : Unit) => oIn n p0 ∧ r = ob (n - 1 - p0.toNatClampNeg)) (fun _ _ => True) (fun _ => False)) (vx_X (fun _ : Unit => ¬ oIn n p0) (fun E _ _ => E = NSE) (fun _ => False)) 1 6 (fun _ => False) := by
  refine vx_ofW (cc := cX2_octet) (maxL := 2) (ret := (some .int)) (by decide) rfl ?_
  intro p e s m args below meth c s₁ B9 hml hout hv
  obtain ⟨rfl, hP, hK, hX, hZ⟩ := hv
  have hx := B9.exec
  have hb := B9.bytes
  have hr := B9.returns
  have hts := atoms_spec (ws := wsX2_octet) B9.pre
  have hown : s.vm.findClass RX2 = some m.cls := findClass_of_methodNamed B9.named
  have hlocks := B9.notSynchronized
  have hi2 : ∀ w ∈ wsX20, w ∈ wsX2_octet := fun w hw => List.mem_cons_of_mem _ (List.mem_append_left _ (List.mem_append_right _ hw))
  have hok1 := hok.2.1
  have hok2 := hok.2.2.1
  have hok3 := hok.2.2.2
  have hS : va_S (fun _ => False) s.heap s.heap [] := va_S.rf
  have hl := lv_entry ([.ref (ad 0), .int (p0)]) (n := 2) (Nat.le_of_ble_eq_true rfl)
  rw [lg_entry_eq]
  generalize (lg_sl ([.ref (ad 0), .int (p0)]) ++ List.replicate (2 - (lg_sl ([.ref (ad 0), .int (p0)])).length) Slot.unset).toArray = ls at hl ⊢
  have hl : lv_has ls 2 [(0, .ref (ad 0)), (1, .int (p0))] := hl
  have thr : ¬ oIn n p0 → W p l e (headSpec wsX2_octet ({ frames := 6, cells := 1, slots := 6, locals := 82 })).room s m ([.ref (ad 0), .int (p0)]).toArray below meth c s.heap [] 0 0 (vx_MQ below (va_Qi (fun r (_ : Unit) => oIn n p0 ∧ r = ob (n - 1 - p0.toNatClampNeg)) (fun _ _ => True) (fun _ => False)) (vx_X (fun _ : Unit => ¬ oIn n p0) (fun E _ _ => E = NSE) (fun _ => False)) ([.ref (ad 0), .int (p0)]).toArray s 1 6 (fun _ => False)) (F0 m 12 ls []) := by
    intro hno
    have hat : ∀ w ∈ oW, w.before ([.ref (ad 0), .int (p0)]).toArray s = true := vx_hat (B := thB) (fun w hw => hts w (List.mem_cons_of_mem _ (List.mem_append_right _ hw))) (by decide +kernel) hX.words
    exact oc_throwN (A := fun _ => False) (text := "OUT has no such byte") hx hb hlt hown (hts (.classLink RX2 155 NSE) (List.mem_cons_of_mem _ (List.mem_append_left _ (List.mem_append_left _ (by decide +kernel))))) (hts (.initialized NSE) (List.mem_cons_of_mem _ (List.mem_append_left _ (List.mem_append_left _ (by decide +kernel))))) hX.1 hat (by decide +kernel) (hZ.narrow (fun _ h => h.elim)).1 (hZ.narrow (fun _ h => h.elim)).2 hS (hl.1.trans hml.symm) dX2_octet_12 dX2_octet_15 dX2_octet_16 dX2_octet_18 dX2_octet_21 (fun x hx => (hout x hx).elim) (by show 5 < 6; decide) (by show 0 + 82 ≤ 82; decide) (by show 0 + 1 ≤ 1; decide) (by show 0 + 6 ≤ 6; decide) hlocks (fun t hvm hsz hk => ⟨(), hno, rfl, hsz, fun q hq _ => hk q hq⟩) (fun z hz => nomatch hz) (Nat.le_refl 1) (Nat.le_refl 6)
  refine lv_iload_n hx hb dX2_octet_0 rfl (lv_at hl 1 rfl) ?_
  refine lv_if_lt (tgt := 12) hx hb dX2_octet_1 (by decide) (fun c1 => ?_) (fun c1 => ?_)
  · exact thr (fun q => q.1 c1)
  · refine lv_iload_n hx hb dX2_octet_4 rfl (lv_at hl 1 rfl) ?_
    refine lv_aload_n hx hb dX2_octet_5 rfl (lv_at hl 0 rfl) ?_
    refine va_get (D := D) (ci := 2) (v := .int (z 4)) (C := RX2) (T := TX2) (N := 11) hx hb hts hi2 hown hK hP 0 (wl_at (by omega)) rfl 10 (by decide) (hts (.fieldLink RX2 152 "BigLedger" "outLength" "I") (List.mem_cons_of_mem _ (List.mem_append_left _ (List.mem_append_left _ (by decide +kernel))))) (fun _ h9 => h9) rfl dX2_octet_6 ?_
    refine lv_topi (fun y1 ey1 => ?_)
    replace ey1 : y1 = nI n := ey1.trans (hz4)
    subst ey1
    refine lv_icmp_lt (tgt := 22) hx hb dX2_octet_9 (by decide) (fun c2 => ?_) (fun c2 => ?_)
    · obtain ⟨j, hj, rfl⟩ := oIn_ex (by omega) (show oIn n p0 from ⟨c1, c2⟩)
      refine lv_aload_n hx hb dX2_octet_22 rfl (lv_at hl 0 rfl) ?_
      refine va_get (D := D) (ci := 2) (v := .ref (ad 5)) (C := RX2) (T := TX2) (N := 11) hx hb hts hi2 hown hK hP 0 (wl_at (by omega)) rfl 9 (by decide) (hts (.fieldLink RX2 52 "BigLedger" "outBackwards" "[B") (List.mem_cons_of_mem _ (List.mem_append_left _ (List.mem_append_left _ (by decide +kernel))))) (fun _ h9 => h9) rfl dX2_octet_23 ?_
      refine lv_aload_n hx hb dX2_octet_26 rfl (lv_at hl 0 rfl) ?_
      refine va_get (D := D) (ci := 2) (v := .int (z 4)) (C := RX2) (T := TX2) (N := 11) hx hb hts hi2 hown hK hP 0 (wl_at (by omega)) rfl 10 (by decide) (hts (.fieldLink RX2 152 "BigLedger" "outLength" "I") (List.mem_cons_of_mem _ (List.mem_append_left _ (List.mem_append_left _ (by decide +kernel))))) (fun _ h9 => h9) rfl dX2_octet_27 ?_
      refine lv_topi (fun y2 ey2 => ?_)
      replace ey2 : y2 = nI n := ey2.trans (hz4)
      subst ey2
      refine lv_iconst (v := 1) hx hb dX2_octet_30 (by decide) ?_
      refine lv_isub hx hb dX2_octet_31 ?_
      refine lv_topi (fun y3 ey3 => ?_)
      replace ey3 : y3 = nI (n - 1) := ey3.trans (pk_sub (b := 1) (by omega))
      subst ey3
      refine lv_iload_n hx hb dX2_octet_32 rfl (lv_at hl 1 rfl) ?_
      refine lv_isub hx hb dX2_octet_33 ?_
      refine lv_topi (fun y4 ey4 => ?_)
      replace ey4 : y4 = nI (n - 1 - j) := ey4.trans (pk_sub (by omega))
      subst ey4
      refine va_bald hx hb hK hP 5 1 (wl_at (by omega)) rfl (vp_in_nI (by omega) (by omega)) dX2_octet_34 ?_
      rw [nI_clamp (by omega)]
      exact vx_ret (W.widen (k := 1) (n := 6) (by omega) (by omega) (W.iret hx hb hr (fun t ht hW => ⟨⟨_, (), rfl, ⟨⟨c1, c2⟩, by rw [nI_clamp (by omega)]⟩, trivial⟩, by rw [ht]; exact Nat.le_refl _, fun q _ _ => by rw [ht]⟩) (fun _ h => by cases h) dX2_octet_35))
    · exact thr (fun q => c2 q.2)

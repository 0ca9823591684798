/-! the law's two helpers -/
def wsL_cell : List Cond := .code yL_cell cL_cell 2 (some .int) :: ([])
def wsL_octet : List Cond := .codeWith yL_octet cL_octet 4 (some .int) [(0, 9, 12, 13)] :: ([.classLink RL 13 "java/util/NoSuchElementException", .methodLink RL 7 yX2_octet, .instanceMethod yX2_octet, .selects RX2 yX2_octet yX2_octet, .initialized RX2, .code yX2_octet cX2_octet 2 (some .int), .classLink RX2 155 "java/util/NoSuchElementException", .initialized "java/util/NoSuchElementException", .fieldLink RX2 152 "BigLedger" "outLength" "I", .fieldLink RX2 52 "BigLedger" "outBackwards" "[B"] ++ wsX20 ++ oW.filter goodWord)
set_option maxRecDepth 20000 in
theorem ggL_octet_X2_octet : GoodIn wsL_octet wsX2_octet := goodIn_ca (goodIn_r _ [6, 7, 8, 9, 10, 11, 12, 13, 14, 15, 16, 17, 18, 19, 20, 21] (by decide +kernel) (by decide +kernel)) (goodIn_sub (fun _ h => List.mem_cons_of_mem _ (List.mem_append_right _ h)) (by decide +kernel))
set_option maxRecDepth 20000 in
theorem gL_octet_X2_octet : GoodIn wsL_octet (wsV RL 7 RX2 yX2_octet wsX2_octet) := goodIn_app (goodIn_of _ (by decide +kernel)) ggL_octet_X2_octet
theorem vp_left {D : va_G} {cl : List vw_C} {a b : va_W} {H : Heap} (h : va_P D cl (a ++ b) H) : va_P D cl a H := fun k q hk => h k q (by
  rw [List.getElem?_append_left (List.getElem?_eq_some_iff.mp hk).1]
  exact hk)
theorem vp_right {D : va_G} {cl : List vw_C} {a b : va_W} {H : Heap} (h : va_P D cl (a ++ b) H) : va_P D cl b H := fun k q hk => h (a.length + k) q (by
  rw [List.getElem?_append_right (Nat.le_add_right _ _), Nat.add_sub_cancel_left]
  exact hk)
def cellV (L : Nat) (xs : Nat → Int32) (k : Nat) : Int32 := if k < L then xs k else 0
def sPc (av : List Value) (b L : Nat) (xs : Nat → Int32) : Array Value → State → Prop := va_Pc av (fun U => va_X b L xs U U.heap ∧ b < U.heap.size)
theorem sPc_blind {av : List Value} {b L : Nat} {xs : Nat → Int32} : FrameBlind (sPc av b L xs) := fun a U g mk q => by
  obtain ⟨q0, q1, q2⟩ := q
  exact ⟨q0, va_X.moved (u := U) (U := U.calling g mk a) (Vm.Alike.refl U.vm) q1, q2⟩
theorem sPc_use {av : List Value} {b L : Nat} {xs : Nat → Int32} {H : Heap} {s : State} (hX : va_X b L xs s H) (hb : b < H.size) : ∀ U : State, U.heap = H → s.WarmedH U.vm → sPc av b L xs av.toArray U :=
  fun U hU hW => ⟨rfl, by rw [hU]; exact va_X.moved hW.alike hX, by rw [hU]; exact hb⟩
set_option maxHeartbeats 4000000 in
set_option maxRecDepth 100000 in
theorem l_cell (l : Launch) (b L : Nat) (xs : Nat → Int32) (hL : L ≤ 2051) (k : Nat) (hk : k < 2051) : Met l yL_cell wsL_cell ({ frames := 1, cells := 0, slots := 0, locals := 14 }) (sPc [.ref b, .int (nI k)] b L xs) (vp_Si (fun r => r = cellV L xs k)) 0 0 (fun _ => False) := by
  refine Met.ofW (cc := cL_cell) (maxL := 2) (ret := (some .int)) (by decide) rfl ?_
  intro p e s m args below meth c s₁ B hml hv
  obtain ⟨rfl, hX, hbl⟩ := hv
  have hx := B.exec
  have hb := B.bytes
  have hr := B.returns
  have hts := atoms_spec (ws := wsL_cell) B.pre
  have hown : s.vm.findClass RL = some m.cls := findClass_of_methodNamed B.named
  have hlocks := B.notSynchronized
  have hS : va_S (fun _ => False) s.heap s.heap [] := va_S.rf
  have hl := lv_entry ([.ref (b), .int (nI k)]) (n := 2) (Nat.le_of_ble_eq_true rfl)
  rw [lg_entry_eq]
  generalize (lg_sl ([.ref (b), .int (nI k)]) ++ List.replicate (2 - (lg_sl ([.ref (b), .int (nI k)])).length) Slot.unset).toArray = ls at hl ⊢
  have hl : lv_has ls 2 [(0, .ref (b)), (1, .int (nI k))] := hl
  refine lv_iload_n hx hb dL_cell_0 rfl (lv_at hl 1 rfl) ?_
  refine lv_aload_n hx hb dL_cell_1 rfl (lv_at hl 0 rfl) ?_
  refine va_slen hx hb hX hbl (fun h => h) hS dL_cell_2 ?_
  refine lv_icmp_ge (tgt := 12) hx hb dL_cell_3 (by decide) (fun c1 => ?_) (fun c1 => ?_)
  · refine lv_iconst (v := 0) hx hb dL_cell_12 (by decide) ?_
    exact W.iret hx hb hr (fun t ht hW => ⟨_, rfl, (if_neg (fun q => nI_ge q (by omega) c1)).symm, ht⟩) (fun _ h => by cases h) dL_cell_13
  · refine lv_aload_n hx hb dL_cell_6 rfl (lv_at hl 0 rfl) ?_
    refine lv_iload_n hx hb dL_cell_7 rfl (lv_at hl 1 rfl) ?_
    have hkL : k < L := Nat.lt_of_not_le (fun q => c1 (nI_le q (by omega)))
    refine va_sld hx hb hX hbl (fun h => h) hS (vp_in_nI hkL (by omega)) dL_cell_8 ?_
    refine lv_goto (tgt := 13) hx hb dL_cell_9 (by decide) ?_
    exact W.iret hx hb hr (fun t ht hW => ⟨_, rfl, by rw [nI_clamp (by omega)]; exact (if_pos hkL).symm, ht⟩) (fun _ h => by cases h) dL_cell_13
set_option maxHeartbeats 4000000 in
set_option maxRecDepth 100000 in
theorem l_octet (l : Launch) (hlt : l.stackTraces = false) (D : va_G) (ad : Nat → Nat) (cI cB cO cJ : ClassId) (acc lm rm : Nat) (N : LN) (x : Nat → Nat) (z ob : Nat → Int32) (hok : lOk ad acc lm) (sa n : Nat) (B : Nat → Prop) (hn : n ≤ lm * 10) (hz4 : z 4 = nI n) (p0 : Int32) (ao : Nat) (f : Nat → Int64) (hao : ∀ i, i < 6 * acc + 16 → ad i ≠ ao) : Met l yL_octet wsL_octet ({ frames := 7, cells := 1, slots := 6, locals := 103 }) (oPc [.ref (ad 0), .int (p0), .ref (ao)] D (lW ad cI cB cO acc lm rm N x z ob ++ [(ao, .inl (cJ, 1, .inr (.inl f)))]) [(cI, .int), (cB, .byte), (cO, .object "BigLedger$Natural"), (cJ, .long)] sa B) (va_Qi (fun r (g : Nat → Int64) => (oIn n p0 ∧ r = 0 ∧ g 0 = (ob (n - 1 - p0.toNatClampNeg)).toInt64) ∨ (¬ oIn n p0 ∧ r = 1)) (fun g t => va_P D vwCl [(ao, .inl (cJ, 1, .inr (.inl g)))] t.heap) (fun q => q = ao)) 1 6 (fun q => q = ao) := by
  refine va_MetW (cc := cL_octet) (maxL := 4) (ret := (some .int)) (hh := [(0, 9, 12, 13)]) (by decide) rfl ?_
  intro p e s m args below meth c s₁ B9 hml hv
  obtain ⟨rfl, hP, hK, hX, hZ⟩ := hv
  have hx := B9.exec
  have hb := B9.bytes
  have hr := B9.returns
  have hts := atoms_spec (ws := wsL_octet) B9.pre
  have hown : s.vm.findClass RL = some m.cls := findClass_of_methodNamed B9.named
  have hlocks := B9.notSynchronized
  have htab := vx_table (x := yL_octet) (hh := [(0, 9, 12, 13)]) B9 (hts _ List.mem_cons_self)
  have hS : va_S (fun q => q = ao) s.heap s.heap [] := va_S.rf
  have hPL := vp_left hP
  have hPo := vp_right hP
  have hD : va_D (fun q => q = ao) [(ao, .inl (cJ, 1, .inr (.inl f)))] := vd_one rfl
  have hl := lv_entry ([.ref (ad 0), .int (p0), .ref (ao)]) (n := 4) (Nat.le_of_ble_eq_true rfl)
  rw [lg_entry_eq]
  generalize (lg_sl ([.ref (ad 0), .int (p0), .ref (ao)]) ++ List.replicate (4 - (lg_sl ([.ref (ad 0), .int (p0), .ref (ao)])).length) Slot.unset).toArray = ls at hl ⊢
  have hl : lv_has ls 4 [(0, .ref (ad 0)), (1, .int (p0)), (2, .ref (ao))] := hl
  refine lv_aload_n hx hb dL_octet_0 rfl (lv_at hl 2 rfl) ?_
  refine lv_iconst (v := 0) hx hb dL_octet_1 (by decide) ?_
  refine lv_aload_n hx hb dL_octet_2 rfl (lv_at hl 0 rfl) ?_
  refine lv_iload_n hx hb dL_octet_3 rfl (lv_at hl 1 rfl) ?_
  refine vx_calli (vx_runV (As := [.int p0]) (rest := [.int 0, .ref ao]) ⟨hx, hb, hml, hown, hts⟩ (c_octet l hlt D ad cI cB cO acc lm rm N x z ob hok sa n B hn hz4 p0) (cwV 1 hts gL_octet_X2_octet rfl rfl rfl (by decide +kernel) ⟨Nat.le_of_ble_eq_true rfl, Nat.le_of_ble_eq_true rfl⟩) ⟨oPc_blind, va_recv hK hPL (ci := 2) (q0 := 0) rfl (wl_at (by omega)), oPc_use hPL ⟨hK.sub [0, 1, 2] rfl, hX, hZ⟩⟩ rfl rfl hl.1 rfl (lv_room (Nat.le_of_ble_eq_true rfl)) dL_octet_4 ⟨Nat.le_of_ble_eq_true rfl, Nat.le_of_ble_eq_true rfl⟩) hS (fun q _ h => h.elim) (fun q h => h.elim) (fun q _ h => h.elim) (fun E ce q9 u t H1 locs ht hvm hpx hE hz1 hk9 hS hce hcv hcl => ?_) (fun r u t H1 locs ht hvm hw hB hz1 hk9 hS => ?_)
  · subst hE
    replace hPo := hPo.kept (fun k q hk => hk9 _ (hPo k q hk).lt (fun h => h))
    refine oc_catch (name := NSE) hown ⟨0, 9, 12, 13⟩ [] htab (by decide) (by decide) (hts (.classLink RL 13 NSE) (List.mem_cons_of_mem _ (List.mem_append_left _ (List.mem_append_left _ (by decide +kernel))))) (va_Nw.use rfl hX.2.2.2.2) hce hcv hcl ?_
    refine lv_astore_n (lv' := [(3, .ref (q9)), (0, .ref (ad 0)), (1, .int (p0)), (2, .ref (ao))]) hx hb dL_octet_12 rfl hl (by decide) rfl (fun ls hl => ?_)
    refine lv_iconst (v := 1) hx hb dL_octet_13 (by decide) ?_
    exact W.iret hx hb hr (fun t ht hW => ⟨⟨_, f, rfl, Or.inr ⟨hpx, rfl⟩, hp_at ht hPo⟩, hS.F ht⟩) hS.2.2 dL_octet_14
  · replace hPo := hPo.kept (fun k q hk => hk9 _ (hPo k q hk).lt (fun h => h))
    refine lv_i2l (v := r.toInt64) hx hb dL_octet_7 (rfl) ?_
    refine va_last hx hb hK hPo hD hS 0 3 rfl rfl (vp_in_nI (n := 0) (by omega) (by omega)) dL_octet_8 (fun H locs hPo hD hS => ?_)
    refine lv_goto (tgt := 15) hx hb dL_octet_9 (by decide) ?_
    refine lv_iconst (v := 0) hx hb dL_octet_15 (by decide) ?_
    exact W.iret hx hb hr (fun t ht hW => ⟨⟨_, _, rfl, Or.inl ⟨hw.1, rfl, by rw [hw.2]; rfl⟩, hp_at ht hPo⟩, hS.F ht⟩) hS.2.2 dL_octet_16

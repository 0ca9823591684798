/-! the acts of the law's switch -/
theorem vp_app {D : va_G} {cl : List vw_C} {a b : va_W} {H : Heap} (h1 : va_P D cl a H) (h2 : va_P D cl b H) : va_P D cl (a ++ b) H := fun k q hk => by
  by_cases h : k < a.length
  · rw [List.getElem?_append_left h] at hk; exact h1 k q hk
  · rw [List.getElem?_append_right (by omega)] at hk; exact h2 _ q hk
theorem lg_self (x : Int64) : lg_cmp x x = 0 := by
  unfold lg_cmp
  rw [if_neg (show ¬ x > x from fun h => absurd h (by rw [gt_iff_lt, fa_lt64]; omega)), if_pos rfl]
section CASES
variable {p : Program} {l : Launch} {e : Env} {s : State} {m : MethodId} {below : List Frame} {meth : Method} {c : Code} {b L : Nat} {xs : Nat → Int32} {D : va_G} {cI cB cO cZ cJ : ClassId} {sa acc lm rm : Nat} {ad g : Nat → Nat} {ao : Nat} {Q : State → Prop} {i cells slots : Nat} {S : DS} {ob : Nat → Int32} {U : MS} {wk ou : Nat → Int32} {f : Nat → Int64} {w : Int32} {H : Heap} {locs : List Loc} {ls : Array Slot}
set_option maxHeartbeats 4000000 in
set_option maxRecDepth 100000 in
theorem case_0 (C : cCtx p l s m c b L xs D cI cB cO cZ cJ sa acc lm rm ad g ao) (hL : L ≤ 2051) (hi : i + 3 < L) (hce : cells + 1 ≤ 601024) (hsl : slots + 6 ≤ 7293000) (K : cNext p l e s m b below meth c D cI cB cO cZ cJ acc lm rm ad g ao Q cells slots i) (hI : cWld D cI cB cO cZ cJ acc lm rm ad g ao S ob U wk ou f w H) (hS : va_S (fun q => s.heap.size ≤ q) s.heap H locs) (hl : lv_has ls 7 [(0, .ref b), (1, .ref (ad 0)), (2, .ref (g 0)), (3, .ref ao), (4, .int (nI i))]) : W p l e room_1 s m #[Value.ref b] below meth c H locs cells slots Q (F0 m 160 ls []) := by
  obtain ⟨hx, hb, hml, hown, hts, hX, hbl, hlt, hK, hN, hTh, hZ, hok, hmk, ⟨ha1, ha, hl1, hl2, hrm⟩, ⟨hA1, hA2, hA3⟩, s1, s2, s3⟩ := C
  obtain ⟨hPl, hPm, hPo, hSm, hOu⟩ := hI
  have hbA : ¬ (fun q : Nat => s.heap.size ≤ q) b := Nat.not_le.mpr hbl
  refine lv_aload_n hx hb dL_law_160 rfl (lv_at hl 1 rfl) ?_
  refine va_calli (va_runV (As := []) (rest := []) ⟨hx, hb, hml, hown, hts⟩ (c_format l D ad cI cB cO acc lm rm S.1 S.2.1 S.2.2 ob hok hSm.1.2.2.2.2.2.2.1) (cwV 0 hts gL_law_X2_format rfl rfl rfl (by decide +kernel) ⟨Nat.le_of_ble_eq_true rfl, Nat.le_of_ble_eq_true rfl⟩) ⟨lPc_blind, va_recv hK hPl (ci := 2) (q0 := 0) rfl (wl_at (by omega)), lPc_use hPl ⟨hK.sub [0, 1, 2] rfl, hN⟩⟩ rfl rfl hl.1 rfl (lv_room (Nat.le_of_ble_eq_true rfl)) dL_law_161 ⟨by show cells + 0 ≤ 601024; omega, by show slots + 0 ≤ 7293000; omega⟩) hS (fun q _ h => lA_in hA1 q h) (lA_in hA1) (fun r u t H1 locs ht hvm hw hB hz1 hk9 hS => ?_)
  replace hPm := keepM hPm hk9 s1
  replace hPo := keepOl hPo hk9 s2
  rw [ht] at hB
  refine lv_aload_n hx hb dL_law_164 rfl (lv_at hl 2 rfl) ?_
  refine va_calli (va_runV (As := []) (rest := [.int r]) ⟨hx, hb, hml, hown, hts⟩ (m_format l D g cI cZ cB acc lm rm U.1 U.2.1 U.2.2.1 wk ou U.2.2.2 hmk ha ) (cwV 0 hts gL_law_X3_format rfl rfl rfl (by decide +kernel) ⟨Nat.le_of_ble_eq_true rfl, Nat.le_of_ble_eq_true rfl⟩) ⟨nPc_blind, va_recv hK hPm (ci := 3) (q0 := 0) rfl (wl_at (by omega)), nPc_use hPm (hK.sub [0, 3, 1] rfl)⟩ rfl rfl hl.1 rfl (lv_room (Nat.le_of_ble_eq_true rfl)) dL_law_165 ⟨by show cells + 0 ≤ 601024; omega, by show slots + 0 ≤ 7293000; omega⟩) hS (fun q _ h => mA_in hA2 q h) (mA_in hA2) (fun r2 u2 t2 H2 locs ht2 hvm2 hw2 hB2 hz2 hk2 hS => ?_)
  rw [ht2] at hB2
  have hPl := keepL hB hk2 s1
  replace hPo := keepOm hPo hk2 s3
  have hs9 := s_format ha ha1 hSm
  have hw : (r, u) = cFormat acc S := hw
  have hw2 : (r2, u2) = mFormat acc U := hw2
  rw [← hw, ← hw2] at hs9
  refine lv_icmp_eq (tgt := 664) hx hb dL_law_168 (by decide) (fun _ => ?_) (fun cc => absurd (hs9.1) cc)
  exact W.widen (k := cells + 1) (n := slots + 6) (by omega) (by omega) (K u ob u2 wk ou f w H2 locs ls ⟨hPl, hB2, hPo, hs9.2, hOu⟩ hS hl)
set_option maxHeartbeats 4000000 in
set_option maxRecDepth 100000 in
theorem case_1 (C : cCtx p l s m c b L xs D cI cB cO cZ cJ sa acc lm rm ad g ao) (hL : L ≤ 2051) (hi : i + 3 < L) (hce : cells + 1 ≤ 601024) (hsl : slots + 6 ≤ 7293000) (K : cNext p l e s m b below meth c D cI cB cO cZ cJ acc lm rm ad g ao Q cells slots i) (hI : cWld D cI cB cO cZ cJ acc lm rm ad g ao S ob U wk ou f w H) (hS : va_S (fun q => s.heap.size ≤ q) s.heap H locs) (hl : lv_has ls 7 [(0, .ref b), (1, .ref (ad 0)), (2, .ref (g 0)), (3, .ref ao), (4, .int (nI i))]) : W p l e room_1 s m #[Value.ref b] below meth c H locs cells slots Q (F0 m 173 ls []) := by
  obtain ⟨hx, hb, hml, hown, hts, hX, hbl, hlt, hK, hN, hTh, hZ, hok, hmk, ⟨ha1, ha, hl1, hl2, hrm⟩, ⟨hA1, hA2, hA3⟩, s1, s2, s3⟩ := C
  obtain ⟨hPl, hPm, hPo, hSm, hOu⟩ := hI
  have hbA : ¬ (fun q : Nat => s.heap.size ≤ q) b := Nat.not_le.mpr hbl
  refine lv_aload_n hx hb dL_law_173 rfl (lv_at hl 1 rfl) ?_
  refine lv_aload_n hx hb dL_law_174 rfl (lv_at hl 0 rfl) ?_
  refine lv_iload hx hb dL_law_175 (lv_at hl 4 rfl) ?_
  refine lv_iconst (v := 1) hx hb dL_law_177 (by decide) ?_
  refine lv_iadd hx hb dL_law_178 ?_
  refine lv_topv (y := .int (nI (i + 1))) (congrArg Value.int (nI_add i 1)) ?_
  refine va_sld hx hb hX hbl hbA hS (vp_in_nI (by omega) (by omega)) dL_law_179 ?_
  refine va_calli (va_runV (As := [.int (xs (nI (i + 1)).toNatClampNeg)]) (rest := []) ⟨hx, hb, hml, hown, hts⟩ (c_amountLimb l D ad cI cB cO acc lm rm S.1 S.2.1 S.2.2 ob hok (x0_ok hSm) (xs (nI (i + 1)).toNatClampNeg)) (cwV 1 hts gL_law_X2_amountLimb rfl rfl rfl (by decide +kernel) ⟨Nat.le_of_ble_eq_true rfl, Nat.le_of_ble_eq_true rfl⟩) ⟨lPc_blind, va_recv hK hPl (ci := 2) (q0 := 0) rfl (wl_at (by omega)), lPc_use hPl ⟨hK.sub [0, 1, 2] rfl, hN⟩⟩ rfl rfl hl.1 rfl (lv_room (Nat.le_of_ble_eq_true rfl)) dL_law_180 ⟨by show cells + 0 ≤ 601024; omega, by show slots + 0 ≤ 7293000; omega⟩) hS (fun q _ h => lA_in hA1 q h) (lA_in hA1) (fun r u t H1 locs ht hvm hw hB hz1 hk9 hS => ?_)
  replace hPm := keepM hPm hk9 s1
  replace hPo := keepOl hPo hk9 s2
  rw [ht] at hB
  refine lv_aload_n hx hb dL_law_183 rfl (lv_at hl 2 rfl) ?_
  refine lv_aload_n hx hb dL_law_184 rfl (lv_at hl 0 rfl) ?_
  refine lv_iload hx hb dL_law_185 (lv_at hl 4 rfl) ?_
  refine lv_iconst (v := 1) hx hb dL_law_187 (by decide) ?_
  refine lv_iadd hx hb dL_law_188 ?_
  refine lv_topv (y := .int (nI (i + 1))) (congrArg Value.int (nI_add i 1)) ?_
  refine va_sld hx hb hX hbl hbA hS (vp_in_nI (by omega) (by omega)) dL_law_189 ?_
  refine va_calli (va_runV (As := [.int (xs (nI (i + 1)).toNatClampNeg)]) (rest := [.int r]) ⟨hx, hb, hml, hown, hts⟩ (m_amountLimb l D g cI cZ cB acc lm rm U.1 U.2.1 U.2.2.1 wk ou U.2.2.2 hmk ha hl1 hl2 (am_lm hSm) (xs (nI (i + 1)).toNatClampNeg)) (cwV 1 hts gL_law_X3_amountLimb rfl rfl rfl (by decide +kernel) ⟨Nat.le_of_ble_eq_true rfl, Nat.le_of_ble_eq_true rfl⟩) ⟨nPc_blind, va_recv hK hPm (ci := 3) (q0 := 0) rfl (wl_at (by omega)), nPc_use hPm (hK.sub [0, 3, 1] rfl)⟩ rfl rfl hl.1 rfl (lv_room (Nat.le_of_ble_eq_true rfl)) dL_law_190 ⟨by show cells + 0 ≤ 601024; omega, by show slots + 0 ≤ 7293000; omega⟩) hS (fun q _ h => mA_in hA2 q h) (mA_in hA2) (fun r2 u2 t2 H2 locs ht2 hvm2 hw2 hB2 hz2 hk2 hS => ?_)
  rw [ht2] at hB2
  have hPl := keepL hB hk2 s1
  replace hPo := keepOm hPo hk2 s3
  have hs9 := s_amLimb hl1 (xs (nI (i + 1)).toNatClampNeg) hSm
  have hw : (r, u) = cAmLimb lm (xs (nI (i + 1)).toNatClampNeg) S := hw
  have hw2 : (r2, u2) = mAmLimb lm (xs (nI (i + 1)).toNatClampNeg) U := hw2
  rw [← hw, ← hw2] at hs9
  refine lv_icmp_eq (tgt := 664) hx hb dL_law_193 (by decide) (fun _ => ?_) (fun cc => absurd (hs9.1) cc)
  exact W.widen (k := cells + 1) (n := slots + 6) (by omega) (by omega) (K u ob u2 wk ou f w H2 locs ls ⟨hPl, hB2, hPo, hs9.2, hOu⟩ hS hl)
set_option maxHeartbeats 4000000 in
set_option maxRecDepth 100000 in
theorem case_2 (C : cCtx p l s m c b L xs D cI cB cO cZ cJ sa acc lm rm ad g ao) (hL : L ≤ 2051) (hi : i + 3 < L) (hce : cells + 1 ≤ 601024) (hsl : slots + 6 ≤ 7293000) (K : cNext p l e s m b below meth c D cI cB cO cZ cJ acc lm rm ad g ao Q cells slots i) (hI : cWld D cI cB cO cZ cJ acc lm rm ad g ao S ob U wk ou f w H) (hS : va_S (fun q => s.heap.size ≤ q) s.heap H locs) (hl : lv_has ls 7 [(0, .ref b), (1, .ref (ad 0)), (2, .ref (g 0)), (3, .ref ao), (4, .int (nI i))]) : W p l e room_1 s m #[Value.ref b] below meth c H locs cells slots Q (F0 m 198 ls []) := by
  obtain ⟨hx, hb, hml, hown, hts, hX, hbl, hlt, hK, hN, hTh, hZ, hok, hmk, ⟨ha1, ha, hl1, hl2, hrm⟩, ⟨hA1, hA2, hA3⟩, s1, s2, s3⟩ := C
  obtain ⟨hPl, hPm, hPo, hSm, hOu⟩ := hI
  have hbA : ¬ (fun q : Nat => s.heap.size ≤ q) b := Nat.not_le.mpr hbl
  refine lv_aload_n hx hb dL_law_198 rfl (lv_at hl 1 rfl) ?_
  refine va_calli (va_runV (As := []) (rest := []) ⟨hx, hb, hml, hown, hts⟩ (c_clearAmount l D ad cI cB cO acc lm rm S.1 S.2.1 S.2.2 ob hok ) (cwV 0 hts gL_law_X2_clearAmount rfl rfl rfl (by decide +kernel) ⟨Nat.le_of_ble_eq_true rfl, Nat.le_of_ble_eq_true rfl⟩) ⟨lPc_blind, va_recv hK hPl (ci := 2) (q0 := 0) rfl (wl_at (by omega)), lPc_use hPl ⟨hK.sub [0, 1, 2] rfl, hN⟩⟩ rfl rfl hl.1 rfl (lv_room (Nat.le_of_ble_eq_true rfl)) dL_law_199 ⟨by show cells + 0 ≤ 601024; omega, by show slots + 0 ≤ 7293000; omega⟩) hS (fun q _ h => lA_in hA1 q h) (lA_in hA1) (fun r u t H1 locs ht hvm hw hB hz1 hk9 hS => ?_)
  replace hPm := keepM hPm hk9 s1
  replace hPo := keepOl hPo hk9 s2
  rw [ht] at hB
  refine lv_aload_n hx hb dL_law_202 rfl (lv_at hl 2 rfl) ?_
  refine va_calli (va_runV (As := []) (rest := [.int r]) ⟨hx, hb, hml, hown, hts⟩ (m_clearAmount l D g cI cZ cB acc lm rm U.1 U.2.1 U.2.2.1 wk ou U.2.2.2 hmk ha ) (cwV 0 hts gL_law_X3_clearAmount rfl rfl rfl (by decide +kernel) ⟨Nat.le_of_ble_eq_true rfl, Nat.le_of_ble_eq_true rfl⟩) ⟨nPc_blind, va_recv hK hPm (ci := 3) (q0 := 0) rfl (wl_at (by omega)), nPc_use hPm (hK.sub [0, 3, 1] rfl)⟩ rfl rfl hl.1 rfl (lv_room (Nat.le_of_ble_eq_true rfl)) dL_law_203 ⟨by show cells + 0 ≤ 601024; omega, by show slots + 0 ≤ 7293000; omega⟩) hS (fun q _ h => mA_in hA2 q h) (mA_in hA2) (fun r2 u2 t2 H2 locs ht2 hvm2 hw2 hB2 hz2 hk2 hS => ?_)
  rw [ht2] at hB2
  have hPl := keepL hB hk2 s1
  replace hPo := keepOm hPo hk2 s3
  have hs9 := s_clear hSm
  have hw : (r, u) = cClear S := hw
  have hw2 : (r2, u2) = mClear U := hw2
  rw [← hw, ← hw2] at hs9
  refine lv_icmp_eq (tgt := 664) hx hb dL_law_206 (by decide) (fun _ => ?_) (fun cc => absurd (hs9.1) cc)
  exact W.widen (k := cells + 1) (n := slots + 6) (by omega) (by omega) (K u ob u2 wk ou f w H2 locs ls ⟨hPl, hB2, hPo, hs9.2, hOu⟩ hS hl)
set_option maxHeartbeats 4000000 in
set_option maxRecDepth 100000 in
theorem case_3 (C : cCtx p l s m c b L xs D cI cB cO cZ cJ sa acc lm rm ad g ao) (hL : L ≤ 2051) (hi : i + 3 < L) (hce : cells + 1 ≤ 601024) (hsl : slots + 6 ≤ 7293000) (K : cNext p l e s m b below meth c D cI cB cO cZ cJ acc lm rm ad g ao Q cells slots i) (hI : cWld D cI cB cO cZ cJ acc lm rm ad g ao S ob U wk ou f w H) (hS : va_S (fun q => s.heap.size ≤ q) s.heap H locs) (hl : lv_has ls 7 [(0, .ref b), (1, .ref (ad 0)), (2, .ref (g 0)), (3, .ref ao), (4, .int (nI i))]) : W p l e room_1 s m #[Value.ref b] below meth c H locs cells slots Q (F0 m 211 ls []) := by
  obtain ⟨hx, hb, hml, hown, hts, hX, hbl, hlt, hK, hN, hTh, hZ, hok, hmk, ⟨ha1, ha, hl1, hl2, hrm⟩, ⟨hA1, hA2, hA3⟩, s1, s2, s3⟩ := C
  obtain ⟨hPl, hPm, hPo, hSm, hOu⟩ := hI
  have hbA : ¬ (fun q : Nat => s.heap.size ≤ q) b := Nat.not_le.mpr hbl
  refine lv_aload_n hx hb dL_law_211 rfl (lv_at hl 1 rfl) ?_
  refine lv_aload_n hx hb dL_law_212 rfl (lv_at hl 0 rfl) ?_
  refine lv_iload hx hb dL_law_213 (lv_at hl 4 rfl) ?_
  refine lv_iconst (v := 1) hx hb dL_law_215 (by decide) ?_
  refine lv_iadd hx hb dL_law_216 ?_
  refine lv_topv (y := .int (nI (i + 1))) (congrArg Value.int (nI_add i 1)) ?_
  refine va_sld hx hb hX hbl hbA hS (vp_in_nI (by omega) (by omega)) dL_law_217 ?_
  refine va_calli (va_runV (As := [.int (xs (nI (i + 1)).toNatClampNeg)]) (rest := []) ⟨hx, hb, hml, hown, hts⟩ (c_deposit l D ad cI cB cO acc lm rm S.1 S.2.1 S.2.2 ob hok hSm.1.2.2.2.2.2.2.1 (x0_ok hSm) hSm.2.1.2.2.2.2.2 (tb25 ha hSm.2.1.2.1) hrm (xs (nI (i + 1)).toNatClampNeg) (fun b hb => add_ok ha hSm b hb)) (cwV 1 hts gL_law_X2_deposit rfl rfl rfl (by decide +kernel) ⟨Nat.le_of_ble_eq_true rfl, Nat.le_of_ble_eq_true rfl⟩) ⟨lPc_blind, va_recv hK hPl (ci := 2) (q0 := 0) rfl (wl_at (by omega)), lPc_use hPl ⟨hK.sub [0, 1, 2] rfl, hN⟩⟩ rfl rfl hl.1 rfl (lv_room (Nat.le_of_ble_eq_true rfl)) dL_law_218 ⟨by show cells + 0 ≤ 601024; omega, by show slots + 0 ≤ 7293000; omega⟩) hS (fun q _ h => lA_in hA1 q h) (lA_in hA1) (fun r u t H1 locs ht hvm hw hB hz1 hk9 hS => ?_)
  replace hPm := keepM hPm hk9 s1
  replace hPo := keepOl hPo hk9 s2
  rw [ht] at hB
  refine lv_aload_n hx hb dL_law_221 rfl (lv_at hl 2 rfl) ?_
  refine lv_aload_n hx hb dL_law_222 rfl (lv_at hl 0 rfl) ?_
  refine lv_iload hx hb dL_law_223 (lv_at hl 4 rfl) ?_
  refine lv_iconst (v := 1) hx hb dL_law_225 (by decide) ?_
  refine lv_iadd hx hb dL_law_226 ?_
  refine lv_topv (y := .int (nI (i + 1))) (congrArg Value.int (nI_add i 1)) ?_
  refine va_sld hx hb hX hbl hbA hS (vp_in_nI (by omega) (by omega)) dL_law_227 ?_
  refine va_calli (va_runV (As := [.int (xs (nI (i + 1)).toNatClampNeg)]) (rest := [.int r]) ⟨hx, hb, hml, hown, hts⟩ (m_deposit l D g cI cZ cB acc lm rm U.1 U.2.1 U.2.2.1 wk ou U.2.2.2 hmk ha hl2 hrm (am_22 hl2 hSm) (xs (nI (i + 1)).toNatClampNeg) (nad_ok hl2 ha hSm)) (cwV 1 hts gL_law_X3_deposit rfl rfl rfl (by decide +kernel) ⟨Nat.le_of_ble_eq_true rfl, Nat.le_of_ble_eq_true rfl⟩) ⟨nPc_blind, va_recv hK hPm (ci := 3) (q0 := 0) rfl (wl_at (by omega)), nPc_use hPm (hK.sub [0, 3, 1] rfl)⟩ rfl rfl hl.1 rfl (lv_room (Nat.le_of_ble_eq_true rfl)) dL_law_228 ⟨by show cells + 0 ≤ 601024; omega, by show slots + 0 ≤ 7293000; omega⟩) hS (fun q _ h => mA_in hA2 q h) (mA_in hA2) (fun r2 u2 t2 H2 locs ht2 hvm2 hw2 hB2 hz2 hk2 hS => ?_)
  rw [ht2] at hB2
  have hPl := keepL hB hk2 s1
  replace hPo := keepOm hPo hk2 s3
  have hs9 := s_deposit (rm := rm) ha (xs (nI (i + 1)).toNatClampNeg) hSm
  have hw : (r, u) = cDep acc lm rm (xs (nI (i + 1)).toNatClampNeg) S := hw
  have hw2 : (r2, u2) = mDep acc lm rm (xs (nI (i + 1)).toNatClampNeg) U := hw2
  rw [← hw, ← hw2] at hs9
  refine lv_icmp_eq (tgt := 664) hx hb dL_law_231 (by decide) (fun _ => ?_) (fun cc => absurd (hs9.1) cc)
  exact W.widen (k := cells + 1) (n := slots + 6) (by omega) (by omega) (K u ob u2 wk ou f w H2 locs ls ⟨hPl, hB2, hPo, hs9.2, hOu⟩ hS hl)
set_option maxHeartbeats 4000000 in
set_option maxRecDepth 100000 in
theorem case_4 (C : cCtx p l s m c b L xs D cI cB cO cZ cJ sa acc lm rm ad g ao) (hL : L ≤ 2051) (hi : i + 3 < L) (hce : cells + 1 ≤ 601024) (hsl : slots + 6 ≤ 7293000) (K : cNext p l e s m b below meth c D cI cB cO cZ cJ acc lm rm ad g ao Q cells slots i) (hI : cWld D cI cB cO cZ cJ acc lm rm ad g ao S ob U wk ou f w H) (hS : va_S (fun q => s.heap.size ≤ q) s.heap H locs) (hl : lv_has ls 7 [(0, .ref b), (1, .ref (ad 0)), (2, .ref (g 0)), (3, .ref ao), (4, .int (nI i))]) : W p l e room_1 s m #[Value.ref b] below meth c H locs cells slots Q (F0 m 236 ls []) := by
  obtain ⟨hx, hb, hml, hown, hts, hX, hbl, hlt, hK, hN, hTh, hZ, hok, hmk, ⟨ha1, ha, hl1, hl2, hrm⟩, ⟨hA1, hA2, hA3⟩, s1, s2, s3⟩ := C
  obtain ⟨hPl, hPm, hPo, hSm, hOu⟩ := hI
  have hbA : ¬ (fun q : Nat => s.heap.size ≤ q) b := Nat.not_le.mpr hbl
  refine lv_aload_n hx hb dL_law_236 rfl (lv_at hl 1 rfl) ?_
  refine lv_aload_n hx hb dL_law_237 rfl (lv_at hl 0 rfl) ?_
  refine lv_iload hx hb dL_law_238 (lv_at hl 4 rfl) ?_
  refine lv_iconst (v := 1) hx hb dL_law_240 (by decide) ?_
  refine lv_iadd hx hb dL_law_241 ?_
  refine lv_topv (y := .int (nI (i + 1))) (congrArg Value.int (nI_add i 1)) ?_
  refine va_sld hx hb hX hbl hbA hS (vp_in_nI (by omega) (by omega)) dL_law_242 ?_
  refine va_calli (va_runV (As := [.int (xs (nI (i + 1)).toNatClampNeg)]) (rest := []) ⟨hx, hb, hml, hown, hts⟩ (c_withdraw l D ad cI cB cO acc lm rm S.1 S.2.1 S.2.2 ob hok hSm.1.2.2.2.2.2.2.1 (x0_ok hSm) hSm.2.1.2.2.2.2.2 (tb25 ha hSm.2.1.2.1) hrm (xs (nI (i + 1)).toNatClampNeg) (fun b hb => sub_ok hSm b hb)) (cwV 1 hts gL_law_X2_withdraw rfl rfl rfl (by decide +kernel) ⟨Nat.le_of_ble_eq_true rfl, Nat.le_of_ble_eq_true rfl⟩) ⟨lPc_blind, va_recv hK hPl (ci := 2) (q0 := 0) rfl (wl_at (by omega)), lPc_use hPl ⟨hK.sub [0, 1, 2] rfl, hN⟩⟩ rfl rfl hl.1 rfl (lv_room (Nat.le_of_ble_eq_true rfl)) dL_law_243 ⟨by show cells + 0 ≤ 601024; omega, by show slots + 0 ≤ 7293000; omega⟩) hS (fun q _ h => lA_in hA1 q h) (lA_in hA1) (fun r u t H1 locs ht hvm hw hB hz1 hk9 hS => ?_)
  replace hPm := keepM hPm hk9 s1
  replace hPo := keepOl hPo hk9 s2
  rw [ht] at hB
  refine lv_aload_n hx hb dL_law_246 rfl (lv_at hl 2 rfl) ?_
  refine lv_aload_n hx hb dL_law_247 rfl (lv_at hl 0 rfl) ?_
  refine lv_iload hx hb dL_law_248 (lv_at hl 4 rfl) ?_
  refine lv_iconst (v := 1) hx hb dL_law_250 (by decide) ?_
  refine lv_iadd hx hb dL_law_251 ?_
  refine lv_topv (y := .int (nI (i + 1))) (congrArg Value.int (nI_add i 1)) ?_
  refine va_sld hx hb hX hbl hbA hS (vp_in_nI (by omega) (by omega)) dL_law_252 ?_
  refine va_calli (va_runV (As := [.int (xs (nI (i + 1)).toNatClampNeg)]) (rest := [.int r]) ⟨hx, hb, hml, hown, hts⟩ (m_withdraw l D g cI cZ cB acc lm rm U.1 U.2.1 U.2.2.1 wk ou U.2.2.2 hmk ha hl2 hrm (am_22 hl2 hSm) (xs (nI (i + 1)).toNatClampNeg) (now_ok hl2 ha hSm) (sub_m hSm)) (cwV 1 hts gL_law_X3_withdraw rfl rfl rfl (by decide +kernel) ⟨Nat.le_of_ble_eq_true rfl, Nat.le_of_ble_eq_true rfl⟩) ⟨nPc_blind, va_recv hK hPm (ci := 3) (q0 := 0) rfl (wl_at (by omega)), nPc_use hPm (hK.sub [0, 3, 1] rfl)⟩ rfl rfl hl.1 rfl (lv_room (Nat.le_of_ble_eq_true rfl)) dL_law_253 ⟨by show cells + 0 ≤ 601024; omega, by show slots + 0 ≤ 7293000; omega⟩) hS (fun q _ h => mA_in hA2 q h) (mA_in hA2) (fun r2 u2 t2 H2 locs ht2 hvm2 hw2 hB2 hz2 hk2 hS => ?_)
  rw [ht2] at hB2
  have hPl := keepL hB hk2 s1
  replace hPo := keepOm hPo hk2 s3
  have hs9 := s_withdraw (rm := rm) ha (xs (nI (i + 1)).toNatClampNeg) hSm
  have hw : (r, u) = cWd acc rm (xs (nI (i + 1)).toNatClampNeg) S := hw
  have hw2 : (r2, u2) = mWd acc rm (xs (nI (i + 1)).toNatClampNeg) U := hw2
  rw [← hw, ← hw2] at hs9
  refine lv_icmp_eq (tgt := 664) hx hb dL_law_256 (by decide) (fun _ => ?_) (fun cc => absurd (hs9.1) cc)
  exact W.widen (k := cells + 1) (n := slots + 6) (by omega) (by omega) (K u ob u2 wk ou f w H2 locs ls ⟨hPl, hB2, hPo, hs9.2, hOu⟩ hS hl)
set_option maxHeartbeats 4000000 in
set_option maxRecDepth 100000 in
theorem case_5 (C : cCtx p l s m c b L xs D cI cB cO cZ cJ sa acc lm rm ad g ao) (hL : L ≤ 2051) (hi : i + 3 < L) (hce : cells + 1 ≤ 601024) (hsl : slots + 6 ≤ 7293000) (K : cNext p l e s m b below meth c D cI cB cO cZ cJ acc lm rm ad g ao Q cells slots i) (hI : cWld D cI cB cO cZ cJ acc lm rm ad g ao S ob U wk ou f w H) (hS : va_S (fun q => s.heap.size ≤ q) s.heap H locs) (hl : lv_has ls 7 [(0, .ref b), (1, .ref (ad 0)), (2, .ref (g 0)), (3, .ref ao), (4, .int (nI i))]) : W p l e room_1 s m #[Value.ref b] below meth c H locs cells slots Q (F0 m 261 ls []) := by
  obtain ⟨hx, hb, hml, hown, hts, hX, hbl, hlt, hK, hN, hTh, hZ, hok, hmk, ⟨ha1, ha, hl1, hl2, hrm⟩, ⟨hA1, hA2, hA3⟩, s1, s2, s3⟩ := C
  obtain ⟨hPl, hPm, hPo, hSm, hOu⟩ := hI
  have hbA : ¬ (fun q : Nat => s.heap.size ≤ q) b := Nat.not_le.mpr hbl
  refine lv_aload_n hx hb dL_law_261 rfl (lv_at hl 1 rfl) ?_
  refine lv_aload_n hx hb dL_law_262 rfl (lv_at hl 0 rfl) ?_
  refine lv_iload hx hb dL_law_263 (lv_at hl 4 rfl) ?_
  refine lv_iconst (v := 1) hx hb dL_law_265 (by decide) ?_
  refine lv_iadd hx hb dL_law_266 ?_
  refine lv_topv (y := .int (nI (i + 1))) (congrArg Value.int (nI_add i 1)) ?_
  refine va_sld hx hb hX hbl hbA hS (vp_in_nI (by omega) (by omega)) dL_law_267 ?_
  refine lv_aload_n hx hb dL_law_268 rfl (lv_at hl 0 rfl) ?_
  refine lv_iload hx hb dL_law_269 (lv_at hl 4 rfl) ?_
  refine lv_iconst (v := 2) hx hb dL_law_271 (by decide) ?_
  refine lv_iadd hx hb dL_law_272 ?_
  refine lv_topv (y := .int (nI (i + 2))) (congrArg Value.int (nI_add i 2)) ?_
  refine va_sld hx hb hX hbl hbA hS (vp_in_nI (by omega) (by omega)) dL_law_273 ?_
  refine va_calli (va_runV (As := [.int (xs (nI (i + 1)).toNatClampNeg), .int (xs (nI (i + 2)).toNatClampNeg)]) (rest := []) ⟨hx, hb, hml, hown, hts⟩ (c_transfer l D ad cI cB cO acc lm rm S.1 S.2.1 S.2.2 ob hok hSm.1.2.2.2.2.2.2.1 (x0_ok hSm) hSm.2.1.2.2.2.2.2 (tb25 ha hSm.2.1.2.1) hrm (xs (nI (i + 1)).toNatClampNeg) (xs (nI (i + 2)).toNatClampNeg) (fun b hb => add_ok ha hSm b hb)) (cwV 2 hts gL_law_X2_transfer rfl rfl rfl (by decide +kernel) ⟨Nat.le_of_ble_eq_true rfl, Nat.le_of_ble_eq_true rfl⟩) ⟨lPc_blind, va_recv hK hPl (ci := 2) (q0 := 0) rfl (wl_at (by omega)), lPc_use hPl ⟨hK.sub [0, 1, 2] rfl, hN⟩⟩ rfl rfl hl.1 rfl (lv_room (Nat.le_of_ble_eq_true rfl)) dL_law_274 ⟨by show cells + 0 ≤ 601024; omega, by show slots + 0 ≤ 7293000; omega⟩) hS (fun q _ h => lA_in hA1 q h) (lA_in hA1) (fun r u t H1 locs ht hvm hw hB hz1 hk9 hS => ?_)
  replace hPm := keepM hPm hk9 s1
  replace hPo := keepOl hPo hk9 s2
  rw [ht] at hB
  refine lv_aload_n hx hb dL_law_277 rfl (lv_at hl 2 rfl) ?_
  refine lv_aload_n hx hb dL_law_278 rfl (lv_at hl 0 rfl) ?_
  refine lv_iload hx hb dL_law_279 (lv_at hl 4 rfl) ?_
  refine lv_iconst (v := 1) hx hb dL_law_281 (by decide) ?_
  refine lv_iadd hx hb dL_law_282 ?_
  refine lv_topv (y := .int (nI (i + 1))) (congrArg Value.int (nI_add i 1)) ?_
  refine va_sld hx hb hX hbl hbA hS (vp_in_nI (by omega) (by omega)) dL_law_283 ?_
  refine lv_aload_n hx hb dL_law_284 rfl (lv_at hl 0 rfl) ?_
  refine lv_iload hx hb dL_law_285 (lv_at hl 4 rfl) ?_
  refine lv_iconst (v := 2) hx hb dL_law_287 (by decide) ?_
  refine lv_iadd hx hb dL_law_288 ?_
  refine lv_topv (y := .int (nI (i + 2))) (congrArg Value.int (nI_add i 2)) ?_
  refine va_sld hx hb hX hbl hbA hS (vp_in_nI (by omega) (by omega)) dL_law_289 ?_
  refine va_calli (va_runV (As := [.int (xs (nI (i + 1)).toNatClampNeg), .int (xs (nI (i + 2)).toNatClampNeg)]) (rest := [.int r]) ⟨hx, hb, hml, hown, hts⟩ (m_transfer l D g cI cZ cB acc lm rm U.1 U.2.1 U.2.2.1 wk ou U.2.2.2 hmk ha hl2 hrm (am_22 hl2 hSm) (xs (nI (i + 1)).toNatClampNeg) (xs (nI (i + 2)).toNatClampNeg) (now_ok hl2 ha hSm) (nad_ok hl2 ha hSm)) (cwV 2 hts gL_law_X3_transfer rfl rfl rfl (by decide +kernel) ⟨Nat.le_of_ble_eq_true rfl, Nat.le_of_ble_eq_true rfl⟩) ⟨nPc_blind, va_recv hK hPm (ci := 3) (q0 := 0) rfl (wl_at (by omega)), nPc_use hPm (hK.sub [0, 3, 1] rfl)⟩ rfl rfl hl.1 rfl (lv_room (Nat.le_of_ble_eq_true rfl)) dL_law_290 ⟨by show cells + 0 ≤ 601024; omega, by show slots + 0 ≤ 7293000; omega⟩) hS (fun q _ h => mA_in hA2 q h) (mA_in hA2) (fun r2 u2 t2 H2 locs ht2 hvm2 hw2 hB2 hz2 hk2 hS => ?_)
  rw [ht2] at hB2
  have hPl := keepL hB hk2 s1
  replace hPo := keepOm hPo hk2 s3
  have hs9 := s_transfer (rm := rm) ha (xs (nI (i + 1)).toNatClampNeg) (xs (nI (i + 2)).toNatClampNeg) hSm
  have hw : (r, u) = cTr acc lm rm (xs (nI (i + 1)).toNatClampNeg) (xs (nI (i + 2)).toNatClampNeg) S := hw
  have hw2 : (r2, u2) = mTr acc lm rm (xs (nI (i + 1)).toNatClampNeg) (xs (nI (i + 2)).toNatClampNeg) U := hw2
  rw [← hw, ← hw2] at hs9
  refine lv_icmp_eq (tgt := 664) hx hb dL_law_293 (by decide) (fun _ => ?_) (fun cc => absurd (hs9.1) cc)
  exact W.widen (k := cells + 1) (n := slots + 6) (by omega) (by omega) (K u ob u2 wk ou f w H2 locs ls ⟨hPl, hB2, hPo, hs9.2, hOu⟩ hS hl)
set_option maxHeartbeats 4000000 in
set_option maxRecDepth 100000 in
theorem case_6 (C : cCtx p l s m c b L xs D cI cB cO cZ cJ sa acc lm rm ad g ao) (hL : L ≤ 2051) (hi : i + 3 < L) (hce : cells + 1 ≤ 601024) (hsl : slots + 6 ≤ 7293000) (K : cNext p l e s m b below meth c D cI cB cO cZ cJ acc lm rm ad g ao Q cells slots i) (hI : cWld D cI cB cO cZ cJ acc lm rm ad g ao S ob U wk ou f w H) (hS : va_S (fun q => s.heap.size ≤ q) s.heap H locs) (hl : lv_has ls 7 [(0, .ref b), (1, .ref (ad 0)), (2, .ref (g 0)), (3, .ref ao), (4, .int (nI i))]) : W p l e room_1 s m #[Value.ref b] below meth c H locs cells slots Q (F0 m 298 ls []) := by
  obtain ⟨hx, hb, hml, hown, hts, hX, hbl, hlt, hK, hN, hTh, hZ, hok, hmk, ⟨ha1, ha, hl1, hl2, hrm⟩, ⟨hA1, hA2, hA3⟩, s1, s2, s3⟩ := C
  obtain ⟨hPl, hPm, hPo, hSm, hOu⟩ := hI
  have hbA : ¬ (fun q : Nat => s.heap.size ≤ q) b := Nat.not_le.mpr hbl
  refine lv_aload_n hx hb dL_law_298 rfl (lv_at hl 1 rfl) ?_
  refine lv_aload_n hx hb dL_law_299 rfl (lv_at hl 0 rfl) ?_
  refine lv_iload hx hb dL_law_300 (lv_at hl 4 rfl) ?_
  refine lv_iconst (v := 1) hx hb dL_law_302 (by decide) ?_
  refine lv_iadd hx hb dL_law_303 ?_
  refine lv_topv (y := .int (nI (i + 1))) (congrArg Value.int (nI_add i 1)) ?_
  refine va_sld hx hb hX hbl hbA hS (vp_in_nI (by omega) (by omega)) dL_law_304 ?_
  refine lv_aload_n hx hb dL_law_305 rfl (lv_at hl 0 rfl) ?_
  refine lv_iload hx hb dL_law_306 (lv_at hl 4 rfl) ?_
  refine lv_iconst (v := 2) hx hb dL_law_308 (by decide) ?_
  refine lv_iadd hx hb dL_law_309 ?_
  refine lv_topv (y := .int (nI (i + 2))) (congrArg Value.int (nI_add i 2)) ?_
  refine va_sld hx hb hX hbl hbA hS (vp_in_nI (by omega) (by omega)) dL_law_310 ?_
  refine lv_aload_n hx hb dL_law_311 rfl (lv_at hl 0 rfl) ?_
  refine lv_iload hx hb dL_law_312 (lv_at hl 4 rfl) ?_
  refine lv_iconst (v := 3) hx hb dL_law_314 (by decide) ?_
  refine lv_iadd hx hb dL_law_315 ?_
  refine lv_topv (y := .int (nI (i + 3))) (congrArg Value.int (nI_add i 3)) ?_
  refine va_sld hx hb hX hbl hbA hS (vp_in_nI (by omega) (by omega)) dL_law_316 ?_
  refine va_calli (va_runV (As := [.int (xs (nI (i + 1)).toNatClampNeg), .int (xs (nI (i + 2)).toNatClampNeg), .int (xs (nI (i + 3)).toNatClampNeg)]) (rest := []) ⟨hx, hb, hml, hown, hts⟩ (c_part l D ad cI cB cO acc lm rm S.1 S.2.1 S.2.2 ob hok hSm.1.2.2.2.2.2.2.1 (x0_ok hSm) (xs (nI (i + 1)).toNatClampNeg) (xs (nI (i + 2)).toNatClampNeg) (xs (nI (i + 3)).toNatClampNeg) (fun b hb => sv_bal hSm.1 hb)) (cwV 3 hts gL_law_X2_part rfl rfl rfl (by decide +kernel) ⟨Nat.le_of_ble_eq_true rfl, Nat.le_of_ble_eq_true rfl⟩) ⟨lPc_blind, va_recv hK hPl (ci := 2) (q0 := 0) rfl (wl_at (by omega)), lPc_use hPl ⟨hK.sub [0, 1, 2] rfl, hN⟩⟩ rfl rfl hl.1 rfl (lv_room (Nat.le_of_ble_eq_true rfl)) dL_law_317 ⟨by show cells + 0 ≤ 601024; omega, by show slots + 0 ≤ 7293000; omega⟩) hS (fun q _ h => lA_in hA1 q h) (lA_in hA1) (fun r u t H1 locs ht hvm hw hB hz1 hk9 hS => ?_)
  replace hPm := keepM hPm hk9 s1
  replace hPo := keepOl hPo hk9 s2
  rw [ht] at hB
  refine lv_aload_n hx hb dL_law_320 rfl (lv_at hl 2 rfl) ?_
  refine lv_aload_n hx hb dL_law_321 rfl (lv_at hl 0 rfl) ?_
  refine lv_iload hx hb dL_law_322 (lv_at hl 4 rfl) ?_
  refine lv_iconst (v := 1) hx hb dL_law_324 (by decide) ?_
  refine lv_iadd hx hb dL_law_325 ?_
  refine lv_topv (y := .int (nI (i + 1))) (congrArg Value.int (nI_add i 1)) ?_
  refine va_sld hx hb hX hbl hbA hS (vp_in_nI (by omega) (by omega)) dL_law_326 ?_
  refine lv_aload_n hx hb dL_law_327 rfl (lv_at hl 0 rfl) ?_
  refine lv_iload hx hb dL_law_328 (lv_at hl 4 rfl) ?_
  refine lv_iconst (v := 2) hx hb dL_law_330 (by decide) ?_
  refine lv_iadd hx hb dL_law_331 ?_
  refine lv_topv (y := .int (nI (i + 2))) (congrArg Value.int (nI_add i 2)) ?_
  refine va_sld hx hb hX hbl hbA hS (vp_in_nI (by omega) (by omega)) dL_law_332 ?_
  refine lv_aload_n hx hb dL_law_333 rfl (lv_at hl 0 rfl) ?_
  refine lv_iload hx hb dL_law_334 (lv_at hl 4 rfl) ?_
  refine lv_iconst (v := 3) hx hb dL_law_336 (by decide) ?_
  refine lv_iadd hx hb dL_law_337 ?_
  refine lv_topv (y := .int (nI (i + 3))) (congrArg Value.int (nI_add i 3)) ?_
  refine va_sld hx hb hX hbl hbA hS (vp_in_nI (by omega) (by omega)) dL_law_338 ?_
  refine va_calli (va_runV (As := [.int (xs (nI (i + 1)).toNatClampNeg), .int (xs (nI (i + 2)).toNatClampNeg), .int (xs (nI (i + 3)).toNatClampNeg)]) (rest := [.int r]) ⟨hx, hb, hml, hown, hts⟩ (m_part l D g cI cZ cB acc lm rm U.1 U.2.1 U.2.2.1 wk ou U.2.2.2 hmk ha hl2 (xs (nI (i + 1)).toNatClampNeg) (xs (nI (i + 2)).toNatClampNeg) (xs (nI (i + 3)).toNatClampNeg) (bal_m hSm)) (cwV 3 hts gL_law_X3_part rfl rfl rfl (by decide +kernel) ⟨Nat.le_of_ble_eq_true rfl, Nat.le_of_ble_eq_true rfl⟩) ⟨nPc_blind, va_recv hK hPm (ci := 3) (q0 := 0) rfl (wl_at (by omega)), nPc_use hPm (hK.sub [0, 3, 1] rfl)⟩ rfl rfl hl.1 rfl (lv_room (Nat.le_of_ble_eq_true rfl)) dL_law_339 ⟨by show cells + 0 ≤ 601024; omega, by show slots + 0 ≤ 7293000; omega⟩) hS (fun q _ h => mA_in hA2 q h) (mA_in hA2) (fun r2 u2 t2 H2 locs ht2 hvm2 hw2 hB2 hz2 hk2 hS => ?_)
  rw [ht2] at hB2
  have hPl := keepL hB hk2 s1
  replace hPo := keepOm hPo hk2 s3
  have hs9 := s_part ha (xs (nI (i + 1)).toNatClampNeg) (xs (nI (i + 2)).toNatClampNeg) (xs (nI (i + 3)).toNatClampNeg) hSm
  have hw : (r, u) = cPart acc (xs (nI (i + 1)).toNatClampNeg) (xs (nI (i + 2)).toNatClampNeg) (xs (nI (i + 3)).toNatClampNeg) S := hw
  have hw3 : (r2, u2.1) = mPart acc (xs (nI (i + 1)).toNatClampNeg) (xs (nI (i + 2)).toNatClampNeg) (xs (nI (i + 3)).toNatClampNeg) U := hw2.1
  rw [← hw, ← hw3] at hs9
  refine lv_icmp_eq (tgt := 664) hx hb dL_law_342 (by decide) (fun _ => ?_) (fun cc => absurd (hs9.1) cc)
  exact W.widen (k := cells + 1) (n := slots + 6) (by omega) (by omega) (K u ob u2.1 u2.2.1 u2.2.2 f w H2 locs ls ⟨hPl, hB2, hPo, hs9.2, by rw [hw2.2]; exact hOu⟩ hS hl)
set_option maxHeartbeats 4000000 in
set_option maxRecDepth 100000 in
theorem case_7 (C : cCtx p l s m c b L xs D cI cB cO cZ cJ sa acc lm rm ad g ao) (hL : L ≤ 2051) (hi : i + 3 < L) (hce : cells + 1 ≤ 601024) (hsl : slots + 6 ≤ 7293000) (K : cNext p l e s m b below meth c D cI cB cO cZ cJ acc lm rm ad g ao Q cells slots i) (hI : cWld D cI cB cO cZ cJ acc lm rm ad g ao S ob U wk ou f w H) (hS : va_S (fun q => s.heap.size ≤ q) s.heap H locs) (hl : lv_has ls 7 [(0, .ref b), (1, .ref (ad 0)), (2, .ref (g 0)), (3, .ref ao), (4, .int (nI i))]) : W p l e room_1 s m #[Value.ref b] below meth c H locs cells slots Q (F0 m 347 ls []) := by
  obtain ⟨hx, hb, hml, hown, hts, hX, hbl, hlt, hK, hN, hTh, hZ, hok, hmk, ⟨ha1, ha, hl1, hl2, hrm⟩, ⟨hA1, hA2, hA3⟩, s1, s2, s3⟩ := C
  obtain ⟨hPl, hPm, hPo, hSm, hOu⟩ := hI
  have hbA : ¬ (fun q : Nat => s.heap.size ≤ q) b := Nat.not_le.mpr hbl
  refine lv_aload_n hx hb dL_law_347 rfl (lv_at hl 1 rfl) ?_
  refine va_calli (va_runV (As := []) (rest := []) ⟨hx, hb, hml, hown, hts⟩ (c_commit l D ad cI cB cO acc lm rm S.1 S.2.1 S.2.2 ob hok hSm.1.2.2.2.2.2.2.1 (tb25 ha hSm.2.1.2.1)) (cwV 0 hts gL_law_X2_commit rfl rfl rfl (by decide +kernel) ⟨Nat.le_of_ble_eq_true rfl, Nat.le_of_ble_eq_true rfl⟩) ⟨lPc_blind, va_recv hK hPl (ci := 2) (q0 := 0) rfl (wl_at (by omega)), lPc_use hPl ⟨hK.sub [0, 1, 2] rfl, hN⟩⟩ rfl rfl hl.1 rfl (lv_room (Nat.le_of_ble_eq_true rfl)) dL_law_348 ⟨by show cells + 0 ≤ 601024; omega, by show slots + 0 ≤ 7293000; omega⟩) hS (fun q _ h => lA_in hA1 q h) (lA_in hA1) (fun r u t H1 locs ht hvm hw hB hz1 hk9 hS => ?_)
  replace hPm := keepM hPm hk9 s1
  replace hPo := keepOl hPo hk9 s2
  rw [ht] at hB
  refine lv_aload_n hx hb dL_law_351 rfl (lv_at hl 2 rfl) ?_
  refine va_calli (va_runV (As := []) (rest := [.int r]) ⟨hx, hb, hml, hown, hts⟩ (m_commit l D g cI cZ cB acc lm rm U.1 U.2.1 U.2.2.1 wk ou U.2.2.2 hmk ha ) (cwV 0 hts gL_law_X3_commit rfl rfl rfl (by decide +kernel) ⟨Nat.le_of_ble_eq_true rfl, Nat.le_of_ble_eq_true rfl⟩) ⟨nPc_blind, va_recv hK hPm (ci := 3) (q0 := 0) rfl (wl_at (by omega)), nPc_use hPm (hK.sub [0, 3, 1] rfl)⟩ rfl rfl hl.1 rfl (lv_room (Nat.le_of_ble_eq_true rfl)) dL_law_352 ⟨by show cells + 0 ≤ 601024; omega, by show slots + 0 ≤ 7293000; omega⟩) hS (fun q _ h => mA_in hA2 q h) (mA_in hA2) (fun r2 u2 t2 H2 locs ht2 hvm2 hw2 hB2 hz2 hk2 hS => ?_)
  rw [ht2] at hB2
  have hPl := keepL hB hk2 s1
  replace hPo := keepOm hPo hk2 s3
  have hs9 := s_commit ha ha1 hSm
  have hw : (r, u) = cCommit acc S := hw
  have hw2 : (r2, u2) = mCommit U := hw2
  rw [← hw, ← hw2] at hs9
  refine lv_icmp_eq (tgt := 664) hx hb dL_law_355 (by decide) (fun _ => ?_) (fun cc => absurd (hs9.1) cc)
  exact W.widen (k := cells + 1) (n := slots + 6) (by omega) (by omega) (K u ob u2 wk ou f w H2 locs ls ⟨hPl, hB2, hPo, hs9.2, hOu⟩ hS hl)
set_option maxHeartbeats 4000000 in
set_option maxRecDepth 100000 in
theorem case_8 (C : cCtx p l s m c b L xs D cI cB cO cZ cJ sa acc lm rm ad g ao) (hL : L ≤ 2051) (hi : i + 3 < L) (hce : cells + 1 ≤ 601024) (hsl : slots + 6 ≤ 7293000) (K : cNext p l e s m b below meth c D cI cB cO cZ cJ acc lm rm ad g ao Q cells slots i) (hI : cWld D cI cB cO cZ cJ acc lm rm ad g ao S ob U wk ou f w H) (hS : va_S (fun q => s.heap.size ≤ q) s.heap H locs) (hl : lv_has ls 7 [(0, .ref b), (1, .ref (ad 0)), (2, .ref (g 0)), (3, .ref ao), (4, .int (nI i))]) : W p l e room_1 s m #[Value.ref b] below meth c H locs cells slots Q (F0 m 360 ls []) := by
  obtain ⟨hx, hb, hml, hown, hts, hX, hbl, hlt, hK, hN, hTh, hZ, hok, hmk, ⟨ha1, ha, hl1, hl2, hrm⟩, ⟨hA1, hA2, hA3⟩, s1, s2, s3⟩ := C
  obtain ⟨hPl, hPm, hPo, hSm, hOu⟩ := hI
  have hbA : ¬ (fun q : Nat => s.heap.size ≤ q) b := Nat.not_le.mpr hbl
  refine lv_aload_n hx hb dL_law_360 rfl (lv_at hl 1 rfl) ?_
  refine va_calli (va_runV (As := []) (rest := []) ⟨hx, hb, hml, hown, hts⟩ (c_abort l D ad cI cB cO acc lm rm S.1 S.2.1 S.2.2 ob hok ) (cwV 0 hts gL_law_X2_abort rfl rfl rfl (by decide +kernel) ⟨Nat.le_of_ble_eq_true rfl, Nat.le_of_ble_eq_true rfl⟩) ⟨lPc_blind, va_recv hK hPl (ci := 2) (q0 := 0) rfl (wl_at (by omega)), lPc_use hPl ⟨hK.sub [0, 1, 2] rfl, hN⟩⟩ rfl rfl hl.1 rfl (lv_room (Nat.le_of_ble_eq_true rfl)) dL_law_361 ⟨by show cells + 0 ≤ 601024; omega, by show slots + 0 ≤ 7293000; omega⟩) hS (fun q _ h => lA_in hA1 q h) (lA_in hA1) (fun r u t H1 locs ht hvm hw hB hz1 hk9 hS => ?_)
  replace hPm := keepM hPm hk9 s1
  replace hPo := keepOl hPo hk9 s2
  rw [ht] at hB
  refine lv_aload_n hx hb dL_law_364 rfl (lv_at hl 2 rfl) ?_
  refine va_calli (va_runV (As := []) (rest := [.int r]) ⟨hx, hb, hml, hown, hts⟩ (m_abort l D g cI cZ cB acc lm rm U.1 U.2.1 U.2.2.1 wk ou U.2.2.2 hmk ha ) (cwV 0 hts gL_law_X3_abort rfl rfl rfl (by decide +kernel) ⟨Nat.le_of_ble_eq_true rfl, Nat.le_of_ble_eq_true rfl⟩) ⟨nPc_blind, va_recv hK hPm (ci := 3) (q0 := 0) rfl (wl_at (by omega)), nPc_use hPm (hK.sub [0, 3, 1] rfl)⟩ rfl rfl hl.1 rfl (lv_room (Nat.le_of_ble_eq_true rfl)) dL_law_365 ⟨by show cells + 0 ≤ 601024; omega, by show slots + 0 ≤ 7293000; omega⟩) hS (fun q _ h => mA_in hA2 q h) (mA_in hA2) (fun r2 u2 t2 H2 locs ht2 hvm2 hw2 hB2 hz2 hk2 hS => ?_)
  rw [ht2] at hB2
  have hPl := keepL hB hk2 s1
  replace hPo := keepOm hPo hk2 s3
  have hs9 := s_abort ha hSm
  have hw : (r, u) = cAbort S := hw
  have hw2 : (r2, u2) = mAbort U := hw2
  rw [← hw, ← hw2] at hs9
  refine lv_icmp_eq (tgt := 664) hx hb dL_law_368 (by decide) (fun _ => ?_) (fun cc => absurd (hs9.1) cc)
  exact W.widen (k := cells + 1) (n := slots + 6) (by omega) (by omega) (K u ob u2 wk ou f w H2 locs ls ⟨hPl, hB2, hPo, hs9.2, hOu⟩ hS hl)
set_option maxHeartbeats 4000000 in
set_option maxRecDepth 100000 in
theorem case_15 (C : cCtx p l s m c b L xs D cI cB cO cZ cJ sa acc lm rm ad g ao) (hL : L ≤ 2051) (hi : i + 3 < L) (hce : cells + 1 ≤ 601024) (hsl : slots + 6 ≤ 7293000) (K : cNext p l e s m b below meth c D cI cB cO cZ cJ acc lm rm ad g ao Q cells slots i) (hI : cWld D cI cB cO cZ cJ acc lm rm ad g ao S ob U wk ou f w H) (hS : va_S (fun q => s.heap.size ≤ q) s.heap H locs) (hl : lv_has ls 7 [(0, .ref b), (1, .ref (ad 0)), (2, .ref (g 0)), (3, .ref ao), (4, .int (nI i))]) : W p l e room_1 s m #[Value.ref b] below meth c H locs cells slots Q (F0 m 545 ls []) := by
  obtain ⟨hx, hb, hml, hown, hts, hX, hbl, hlt, hK, hN, hTh, hZ, hok, hmk, ⟨ha1, ha, hl1, hl2, hrm⟩, ⟨hA1, hA2, hA3⟩, s1, s2, s3⟩ := C
  obtain ⟨hPl, hPm, hPo, hSm, hOu⟩ := hI
  have hbA : ¬ (fun q : Nat => s.heap.size ≤ q) b := Nat.not_le.mpr hbl
  refine lv_aload_n hx hb dL_law_545 rfl (lv_at hl 1 rfl) ?_
  refine va_calli (va_runV (As := []) (rest := []) ⟨hx, hb, hml, hown, hts⟩ (c_recover l D ad cI cB cO acc lm rm S.1 S.2.1 S.2.2 ob hok hSm.1.2.2.2.2.2.2.1 (x3_25 ha hSm)) (cwV 0 hts gL_law_X2_recover rfl rfl rfl (by decide +kernel) ⟨Nat.le_of_ble_eq_true rfl, Nat.le_of_ble_eq_true rfl⟩) ⟨lPc_blind, va_recv hK hPl (ci := 2) (q0 := 0) rfl (wl_at (by omega)), lPc_use hPl ⟨hK.sub [0, 1, 2] rfl, hN⟩⟩ rfl rfl hl.1 rfl (lv_room (Nat.le_of_ble_eq_true rfl)) dL_law_546 ⟨by show cells + 0 ≤ 601024; omega, by show slots + 0 ≤ 7293000; omega⟩) hS (fun q _ h => lA_in hA1 q h) (lA_in hA1) (fun r u t H1 locs ht hvm hw hB hz1 hk9 hS => ?_)
  replace hPm := keepM hPm hk9 s1
  replace hPo := keepOl hPo hk9 s2
  rw [ht] at hB
  refine lv_aload_n hx hb dL_law_549 rfl (lv_at hl 2 rfl) ?_
  refine va_calli (va_runV (As := []) (rest := [.int r]) ⟨hx, hb, hml, hown, hts⟩ (m_recover l D g cI cZ cB acc lm rm U.1 U.2.1 U.2.2.1 wk ou U.2.2.2 hmk ha ) (cwV 0 hts gL_law_X3_recover rfl rfl rfl (by decide +kernel) ⟨Nat.le_of_ble_eq_true rfl, Nat.le_of_ble_eq_true rfl⟩) ⟨nPc_blind, va_recv hK hPm (ci := 3) (q0 := 0) rfl (wl_at (by omega)), nPc_use hPm (hK.sub [0, 3, 1] rfl)⟩ rfl rfl hl.1 rfl (lv_room (Nat.le_of_ble_eq_true rfl)) dL_law_550 ⟨by show cells + 0 ≤ 601024; omega, by show slots + 0 ≤ 7293000; omega⟩) hS (fun q _ h => mA_in hA2 q h) (mA_in hA2) (fun r2 u2 t2 H2 locs ht2 hvm2 hw2 hB2 hz2 hk2 hS => ?_)
  rw [ht2] at hB2
  have hPl := keepL hB hk2 s1
  replace hPo := keepOm hPo hk2 s3
  have hs9 := s_recover ha ha1 hSm
  have hw : (r, u) = cRecover acc S := hw
  have hw2 : (r2, u2) = mRecover U := hw2
  rw [← hw, ← hw2] at hs9
  refine lv_icmp_eq (tgt := 664) hx hb dL_law_553 (by decide) (fun _ => ?_) (fun cc => absurd (hs9.1) cc)
  exact W.widen (k := cells + 1) (n := slots + 6) (by omega) (by omega) (K u ob u2 wk ou f w H2 locs ls ⟨hPl, hB2, hPo, hs9.2, hOu⟩ hS hl)
set_option maxHeartbeats 4000000 in
set_option maxRecDepth 100000 in
theorem case_9 (C : cCtx p l s m c b L xs D cI cB cO cZ cJ sa acc lm rm ad g ao) (hL : L ≤ 2051) (hi : i + 3 < L) (hce : cells + 1 ≤ 601024) (hsl : slots + 6 ≤ 7293000) (K : cNext p l e s m b below meth c D cI cB cO cZ cJ acc lm rm ad g ao Q cells slots i) (hI : cWld D cI cB cO cZ cJ acc lm rm ad g ao S ob U wk ou f w H) (hS : va_S (fun q => s.heap.size ≤ q) s.heap H locs) (hl : lv_has ls 7 [(0, .ref b), (1, .ref (ad 0)), (2, .ref (g 0)), (3, .ref ao), (4, .int (nI i))]) : W p l e room_1 s m #[Value.ref b] below meth c H locs cells slots Q (F0 m 373 ls []) := by
  obtain ⟨hx, hb, hml, hown, hts, hX, hbl, hlt, hK, hN, hTh, hZ, hok, hmk, ⟨ha1, ha, hl1, hl2, hrm⟩, ⟨hA1, hA2, hA3⟩, s1, s2, s3⟩ := C
  obtain ⟨hPl, hPm, hPo, hSm, hOu⟩ := hI
  have hbA : ¬ (fun q : Nat => s.heap.size ≤ q) b := Nat.not_le.mpr hbl
  refine lv_aload_n hx hb dL_law_373 rfl (lv_at hl 1 rfl) ?_
  refine lv_aload_n hx hb dL_law_374 rfl (lv_at hl 0 rfl) ?_
  refine lv_iload hx hb dL_law_375 (lv_at hl 4 rfl) ?_
  refine lv_iconst (v := 1) hx hb dL_law_377 (by decide) ?_
  refine lv_iadd hx hb dL_law_378 ?_
  refine lv_topv (y := .int (nI (i + 1))) (congrArg Value.int (nI_add i 1)) ?_
  refine va_sld hx hb hX hbl hbA hS (vp_in_nI (by omega) (by omega)) dL_law_379 ?_
  refine vp_callSi (W.runV (As := [.int (xs (nI (i + 1)).toNatClampNeg)]) (rest := []) ⟨hx, hb, hml, hown, hts⟩ (c_balanceSize l D ad cI cB cO acc lm rm S.1 S.2.1 S.2.2 ob hok (xs (nI (i + 1)).toNatClampNeg)) (cwV 1 hts gL_law_X2_balanceSize rfl rfl rfl (by decide +kernel) ⟨Nat.le_of_ble_eq_true rfl, Nat.le_of_ble_eq_true rfl⟩) ⟨lPc_blind, va_recv hK hPl (ci := 2) (q0 := 0) rfl (wl_at (by omega)), lPc_use hPl ⟨hK.sub [0, 1, 2] rfl, hN⟩⟩ rfl rfl hl.1 rfl (lv_room (Nat.le_of_ble_eq_true rfl)) dL_law_380 ⟨by show cells + 0 ≤ 601024; omega, by show slots + 0 ≤ 7293000; omega⟩) (fun r hw => ?_)
  refine lv_aload_n hx hb dL_law_383 rfl (lv_at hl 2 rfl) ?_
  refine lv_aload_n hx hb dL_law_384 rfl (lv_at hl 0 rfl) ?_
  refine lv_iload hx hb dL_law_385 (lv_at hl 4 rfl) ?_
  refine lv_iconst (v := 1) hx hb dL_law_387 (by decide) ?_
  refine lv_iadd hx hb dL_law_388 ?_
  refine lv_topv (y := .int (nI (i + 1))) (congrArg Value.int (nI_add i 1)) ?_
  refine va_sld hx hb hX hbl hbA hS (vp_in_nI (by omega) (by omega)) dL_law_389 ?_
  refine va_calli (va_runV (As := [.int (xs (nI (i + 1)).toNatClampNeg)]) (rest := [.int r]) ⟨hx, hb, hml, hown, hts⟩ (m_balanceSize l D g cI cZ cB acc lm rm U.1 U.2.1 U.2.2.1 wk ou U.2.2.2 hmk ha (xs (nI (i + 1)).toNatClampNeg)) (cwV 1 hts gL_law_X3_balanceSize rfl rfl rfl (by decide +kernel) ⟨Nat.le_of_ble_eq_true rfl, Nat.le_of_ble_eq_true rfl⟩) ⟨nPc_blind, va_recv hK hPm (ci := 3) (q0 := 0) rfl (wl_at (by omega)), nPc_use hPm (hK.sub [0, 3, 1] rfl)⟩ rfl rfl hl.1 rfl (lv_room (Nat.le_of_ble_eq_true rfl)) dL_law_390 ⟨by show cells + 0 ≤ 601024; omega, by show slots + 0 ≤ 7293000; omega⟩) hS (fun q _ h => mA_in hA2 q h) (mA_in hA2) (fun r2 u2 t2 H2 locs ht2 hvm2 hw2 hB2 hz2 hk2 hS => ?_)
  rw [ht2] at hB2
  replace hPl := keepL hPl hk2 s1
  replace hPo := keepOm hPo hk2 s3
  have hs9 := s_bsize hl2 ha (xs (nI (i + 1)).toNatClampNeg) hSm
  refine lv_icmp_eq (tgt := 664) hx hb dL_law_393 (by decide) (fun _ => ?_) (fun cc => absurd (hw.trans (hs9.trans hw2.symm)) cc)
  exact W.widen (k := cells + 1) (n := slots + 6) (by omega) (by omega) (K S ob (setY U 0 0) wk ou f w H2 locs ls ⟨hPl, hB2, hPo, hSm, hOu⟩ hS hl)
set_option maxHeartbeats 4000000 in
set_option maxRecDepth 100000 in
theorem case_10 (C : cCtx p l s m c b L xs D cI cB cO cZ cJ sa acc lm rm ad g ao) (hL : L ≤ 2051) (hi : i + 3 < L) (hce : cells + 1 ≤ 601024) (hsl : slots + 6 ≤ 7293000) (K : cNext p l e s m b below meth c D cI cB cO cZ cJ acc lm rm ad g ao Q cells slots i) (hI : cWld D cI cB cO cZ cJ acc lm rm ad g ao S ob U wk ou f w H) (hS : va_S (fun q => s.heap.size ≤ q) s.heap H locs) (hl : lv_has ls 7 [(0, .ref b), (1, .ref (ad 0)), (2, .ref (g 0)), (3, .ref ao), (4, .int (nI i))]) : W p l e room_1 s m #[Value.ref b] below meth c H locs cells slots Q (F0 m 398 ls []) := by
  obtain ⟨hx, hb, hml, hown, hts, hX, hbl, hlt, hK, hN, hTh, hZ, hok, hmk, ⟨ha1, ha, hl1, hl2, hrm⟩, ⟨hA1, hA2, hA3⟩, s1, s2, s3⟩ := C
  obtain ⟨hPl, hPm, hPo, hSm, hOu⟩ := hI
  have hbA : ¬ (fun q : Nat => s.heap.size ≤ q) b := Nat.not_le.mpr hbl
  refine lv_aload_n hx hb dL_law_398 rfl (lv_at hl 1 rfl) ?_
  refine lv_aload_n hx hb dL_law_399 rfl (lv_at hl 0 rfl) ?_
  refine lv_iload hx hb dL_law_400 (lv_at hl 4 rfl) ?_
  refine lv_iconst (v := 1) hx hb dL_law_402 (by decide) ?_
  refine lv_iadd hx hb dL_law_403 ?_
  refine lv_topv (y := .int (nI (i + 1))) (congrArg Value.int (nI_add i 1)) ?_
  refine va_sld hx hb hX hbl hbA hS (vp_in_nI (by omega) (by omega)) dL_law_404 ?_
  refine lv_aload_n hx hb dL_law_405 rfl (lv_at hl 0 rfl) ?_
  refine lv_iload hx hb dL_law_406 (lv_at hl 4 rfl) ?_
  refine lv_iconst (v := 2) hx hb dL_law_408 (by decide) ?_
  refine lv_iadd hx hb dL_law_409 ?_
  refine lv_topv (y := .int (nI (i + 2))) (congrArg Value.int (nI_add i 2)) ?_
  refine va_sld hx hb hX hbl hbA hS (vp_in_nI (by omega) (by omega)) dL_law_410 ?_
  refine vp_callSi (W.runV (As := [.int (xs (nI (i + 1)).toNatClampNeg), .int (xs (nI (i + 2)).toNatClampNeg)]) (rest := []) ⟨hx, hb, hml, hown, hts⟩ (c_balanceLimb l D ad cI cB cO acc lm rm S.1 S.2.1 S.2.2 ob hok hSm.1.2.2.2.2.2.2.1 (xs (nI (i + 1)).toNatClampNeg) (xs (nI (i + 2)).toNatClampNeg)) (cwV 2 hts gL_law_X2_balanceLimb rfl rfl rfl (by decide +kernel) ⟨Nat.le_of_ble_eq_true rfl, Nat.le_of_ble_eq_true rfl⟩) ⟨lPc_blind, va_recv hK hPl (ci := 2) (q0 := 0) rfl (wl_at (by omega)), lPc_use hPl ⟨hK.sub [0, 1, 2] rfl, hN⟩⟩ rfl rfl hl.1 rfl (lv_room (Nat.le_of_ble_eq_true rfl)) dL_law_411 ⟨by show cells + 0 ≤ 601024; omega, by show slots + 0 ≤ 7293000; omega⟩) (fun r hw => ?_)
  refine lv_aload_n hx hb dL_law_414 rfl (lv_at hl 2 rfl) ?_
  refine lv_aload_n hx hb dL_law_415 rfl (lv_at hl 0 rfl) ?_
  refine lv_iload hx hb dL_law_416 (lv_at hl 4 rfl) ?_
  refine lv_iconst (v := 1) hx hb dL_law_418 (by decide) ?_
  refine lv_iadd hx hb dL_law_419 ?_
  refine lv_topv (y := .int (nI (i + 1))) (congrArg Value.int (nI_add i 1)) ?_
  refine va_sld hx hb hX hbl hbA hS (vp_in_nI (by omega) (by omega)) dL_law_420 ?_
  refine lv_aload_n hx hb dL_law_421 rfl (lv_at hl 0 rfl) ?_
  refine lv_iload hx hb dL_law_422 (lv_at hl 4 rfl) ?_
  refine lv_iconst (v := 2) hx hb dL_law_424 (by decide) ?_
  refine lv_iadd hx hb dL_law_425 ?_
  refine lv_topv (y := .int (nI (i + 2))) (congrArg Value.int (nI_add i 2)) ?_
  refine va_sld hx hb hX hbl hbA hS (vp_in_nI (by omega) (by omega)) dL_law_426 ?_
  refine va_calli (va_runV (As := [.int (xs (nI (i + 1)).toNatClampNeg), .int (xs (nI (i + 2)).toNatClampNeg)]) (rest := [.int r]) ⟨hx, hb, hml, hown, hts⟩ (m_balanceLimb l D g cI cZ cB acc lm rm U.1 U.2.1 U.2.2.1 wk ou U.2.2.2 hmk ha (xs (nI (i + 1)).toNatClampNeg) (xs (nI (i + 2)).toNatClampNeg) (now_ok hl2 ha hSm)) (cwV 2 hts gL_law_X3_balanceLimb rfl rfl rfl (by decide +kernel) ⟨Nat.le_of_ble_eq_true rfl, Nat.le_of_ble_eq_true rfl⟩) ⟨nPc_blind, va_recv hK hPm (ci := 3) (q0 := 0) rfl (wl_at (by omega)), nPc_use hPm (hK.sub [0, 3, 1] rfl)⟩ rfl rfl hl.1 rfl (lv_room (Nat.le_of_ble_eq_true rfl)) dL_law_427 ⟨by show cells + 0 ≤ 601024; omega, by show slots + 0 ≤ 7293000; omega⟩) hS (fun q _ h => mA_in hA2 q h) (mA_in hA2) (fun r2 u2 t2 H2 locs ht2 hvm2 hw2 hB2 hz2 hk2 hS => ?_)
  rw [ht2] at hB2
  replace hPl := keepL hPl hk2 s1
  replace hPo := keepOm hPo hk2 s3
  have hs9 := s_blimb ha (xs (nI (i + 1)).toNatClampNeg) (xs (nI (i + 2)).toNatClampNeg) hSm
  refine lv_icmp_eq (tgt := 664) hx hb dL_law_430 (by decide) (fun _ => ?_) (fun cc => absurd (hw.trans (hs9.trans hw2.symm)) cc)
  exact W.widen (k := cells + 1) (n := slots + 6) (by omega) (by omega) (K S ob (setY U 0 0) wk ou f w H2 locs ls ⟨hPl, hB2, hPo, hSm, hOu⟩ hS hl)
set_option maxHeartbeats 4000000 in
set_option maxRecDepth 100000 in
theorem case_11 (C : cCtx p l s m c b L xs D cI cB cO cZ cJ sa acc lm rm ad g ao) (hL : L ≤ 2051) (hi : i + 3 < L) (hce : cells + 1 ≤ 601024) (hsl : slots + 6 ≤ 7293000) (K : cNext p l e s m b below meth c D cI cB cO cZ cJ acc lm rm ad g ao Q cells slots i) (hI : cWld D cI cB cO cZ cJ acc lm rm ad g ao S ob U wk ou f w H) (hS : va_S (fun q => s.heap.size ≤ q) s.heap H locs) (hl : lv_has ls 7 [(0, .ref b), (1, .ref (ad 0)), (2, .ref (g 0)), (3, .ref ao), (4, .int (nI i))]) : W p l e room_1 s m #[Value.ref b] below meth c H locs cells slots Q (F0 m 435 ls []) := by
  obtain ⟨hx, hb, hml, hown, hts, hX, hbl, hlt, hK, hN, hTh, hZ, hok, hmk, ⟨ha1, ha, hl1, hl2, hrm⟩, ⟨hA1, hA2, hA3⟩, s1, s2, s3⟩ := C
  obtain ⟨hPl, hPm, hPo, hSm, hOu⟩ := hI
  have hbA : ¬ (fun q : Nat => s.heap.size ≤ q) b := Nat.not_le.mpr hbl
  refine lv_aload_n hx hb dL_law_435 rfl (lv_at hl 1 rfl) ?_
  refine lv_aload_n hx hb dL_law_436 rfl (lv_at hl 0 rfl) ?_
  refine lv_iload hx hb dL_law_437 (lv_at hl 4 rfl) ?_
  refine lv_iconst (v := 1) hx hb dL_law_439 (by decide) ?_
  refine lv_iadd hx hb dL_law_440 ?_
  refine lv_topv (y := .int (nI (i + 1))) (congrArg Value.int (nI_add i 1)) ?_
  refine va_sld hx hb hX hbl hbA hS (vp_in_nI (by omega) (by omega)) dL_law_441 ?_
  refine vp_callSi (W.runV (As := [.int (xs (nI (i + 1)).toNatClampNeg)]) (rest := []) ⟨hx, hb, hml, hown, hts⟩ (c_totalLimb l D ad cI cB cO acc lm rm S.1 S.2.1 S.2.2 ob hok hSm.1.2.2.2.2.2.2.1 (xs (nI (i + 1)).toNatClampNeg)) (cwV 1 hts gL_law_X2_totalLimb rfl rfl rfl (by decide +kernel) ⟨Nat.le_of_ble_eq_true rfl, Nat.le_of_ble_eq_true rfl⟩) ⟨lPc_blind, va_recv hK hPl (ci := 2) (q0 := 0) rfl (wl_at (by omega)), lPc_use hPl ⟨hK.sub [0, 1, 2] rfl, hN⟩⟩ rfl rfl hl.1 rfl (lv_room (Nat.le_of_ble_eq_true rfl)) dL_law_442 ⟨by show cells + 0 ≤ 601024; omega, by show slots + 0 ≤ 7293000; omega⟩) (fun r hw => ?_)
  refine lv_aload_n hx hb dL_law_445 rfl (lv_at hl 2 rfl) ?_
  refine lv_aload_n hx hb dL_law_446 rfl (lv_at hl 0 rfl) ?_
  refine lv_iload hx hb dL_law_447 (lv_at hl 4 rfl) ?_
  refine lv_iconst (v := 1) hx hb dL_law_449 (by decide) ?_
  refine lv_iadd hx hb dL_law_450 ?_
  refine lv_topv (y := .int (nI (i + 1))) (congrArg Value.int (nI_add i 1)) ?_
  refine va_sld hx hb hX hbl hbA hS (vp_in_nI (by omega) (by omega)) dL_law_451 ?_
  refine va_calli (va_runV (As := [.int (xs (nI (i + 1)).toNatClampNeg)]) (rest := [.int r]) ⟨hx, hb, hml, hown, hts⟩ (m_totalLimb l D g cI cZ cB acc lm rm U.1 U.2.1 U.2.2.1 wk ou U.2.2.2 hmk ha (xs (nI (i + 1)).toNatClampNeg) (now_ok hl2 ha hSm 24 (by decide))) (cwV 1 hts gL_law_X3_totalLimb rfl rfl rfl (by decide +kernel) ⟨Nat.le_of_ble_eq_true rfl, Nat.le_of_ble_eq_true rfl⟩) ⟨nPc_blind, va_recv hK hPm (ci := 3) (q0 := 0) rfl (wl_at (by omega)), nPc_use hPm (hK.sub [0, 3, 1] rfl)⟩ rfl rfl hl.1 rfl (lv_room (Nat.le_of_ble_eq_true rfl)) dL_law_452 ⟨by show cells + 0 ≤ 601024; omega, by show slots + 0 ≤ 7293000; omega⟩) hS (fun q _ h => mA_in hA2 q h) (mA_in hA2) (fun r2 u2 t2 H2 locs ht2 hvm2 hw2 hB2 hz2 hk2 hS => ?_)
  rw [ht2] at hB2
  replace hPl := keepL hPl hk2 s1
  replace hPo := keepOm hPo hk2 s3
  have hs9 := s_tlimb (xs (nI (i + 1)).toNatClampNeg) hSm
  refine lv_icmp_eq (tgt := 664) hx hb dL_law_455 (by decide) (fun _ => ?_) (fun cc => absurd (hw.trans (hs9.trans hw2.symm)) cc)
  exact W.widen (k := cells + 1) (n := slots + 6) (by omega) (by omega) (K S ob (setY U 0 0) wk ou f w H2 locs ls ⟨hPl, hB2, hPo, hSm, hOu⟩ hS hl)
set_option maxHeartbeats 4000000 in
set_option maxRecDepth 100000 in
theorem case_12 (C : cCtx p l s m c b L xs D cI cB cO cZ cJ sa acc lm rm ad g ao) (hL : L ≤ 2051) (hi : i + 3 < L) (hce : cells + 1 ≤ 601024) (hsl : slots + 6 ≤ 7293000) (K : cNext p l e s m b below meth c D cI cB cO cZ cJ acc lm rm ad g ao Q cells slots i) (hI : cWld D cI cB cO cZ cJ acc lm rm ad g ao S ob U wk ou f w H) (hS : va_S (fun q => s.heap.size ≤ q) s.heap H locs) (hl : lv_has ls 7 [(0, .ref b), (1, .ref (ad 0)), (2, .ref (g 0)), (3, .ref ao), (4, .int (nI i))]) : W p l e room_1 s m #[Value.ref b] below meth c H locs cells slots Q (F0 m 460 ls []) := by
  obtain ⟨hx, hb, hml, hown, hts, hX, hbl, hlt, hK, hN, hTh, hZ, hok, hmk, ⟨ha1, ha, hl1, hl2, hrm⟩, ⟨hA1, hA2, hA3⟩, s1, s2, s3⟩ := C
  obtain ⟨hPl, hPm, hPo, hSm, hOu⟩ := hI
  have hbA : ¬ (fun q : Nat => s.heap.size ≤ q) b := Nat.not_le.mpr hbl
  refine lv_aload_n hx hb dL_law_460 rfl (lv_at hl 1 rfl) ?_
  refine lv_aload_n hx hb dL_law_461 rfl (lv_at hl 0 rfl) ?_
  refine lv_iload hx hb dL_law_462 (lv_at hl 4 rfl) ?_
  refine lv_iconst (v := 1) hx hb dL_law_464 (by decide) ?_
  refine lv_iadd hx hb dL_law_465 ?_
  refine lv_topv (y := .int (nI (i + 1))) (congrArg Value.int (nI_add i 1)) ?_
  refine va_sld hx hb hX hbl hbA hS (vp_in_nI (by omega) (by omega)) dL_law_466 ?_
  refine vp_callSi (W.runV (As := [.int (xs (nI (i + 1)).toNatClampNeg)]) (rest := []) ⟨hx, hb, hml, hown, hts⟩ (c_amount l D ad cI cB cO acc lm rm S.1 S.2.1 S.2.2 ob hok (x0_ok hSm) (xs (nI (i + 1)).toNatClampNeg)) (cwV 1 hts gL_law_X2_amount rfl rfl rfl (by decide +kernel) ⟨Nat.le_of_ble_eq_true rfl, Nat.le_of_ble_eq_true rfl⟩) ⟨lPc_blind, va_recv hK hPl (ci := 2) (q0 := 0) rfl (wl_at (by omega)), lPc_use hPl ⟨hK.sub [0, 1, 2] rfl, hN⟩⟩ rfl rfl hl.1 rfl (lv_room (Nat.le_of_ble_eq_true rfl)) dL_law_467 ⟨by show cells + 0 ≤ 601024; omega, by show slots + 0 ≤ 7293000; omega⟩) (fun r hw => ?_)
  refine lv_aload_n hx hb dL_law_470 rfl (lv_at hl 2 rfl) ?_
  refine lv_aload_n hx hb dL_law_471 rfl (lv_at hl 0 rfl) ?_
  refine lv_iload hx hb dL_law_472 (lv_at hl 4 rfl) ?_
  refine lv_iconst (v := 1) hx hb dL_law_474 (by decide) ?_
  refine lv_iadd hx hb dL_law_475 ?_
  refine lv_topv (y := .int (nI (i + 1))) (congrArg Value.int (nI_add i 1)) ?_
  refine va_sld hx hb hX hbl hbA hS (vp_in_nI (by omega) (by omega)) dL_law_476 ?_
  refine va_calli (va_runV (As := [.int (xs (nI (i + 1)).toNatClampNeg)]) (rest := [.int r]) ⟨hx, hb, hml, hown, hts⟩ (m_amount l D g cI cZ cB acc lm rm U.1 U.2.1 U.2.2.1 wk ou U.2.2.2 hmk ha (xs (nI (i + 1)).toNatClampNeg) (am_22 hl2 hSm)) (cwV 1 hts gL_law_X3_amount rfl rfl rfl (by decide +kernel) ⟨Nat.le_of_ble_eq_true rfl, Nat.le_of_ble_eq_true rfl⟩) ⟨nPc_blind, va_recv hK hPm (ci := 3) (q0 := 0) rfl (wl_at (by omega)), nPc_use hPm (hK.sub [0, 3, 1] rfl)⟩ rfl rfl hl.1 rfl (lv_room (Nat.le_of_ble_eq_true rfl)) dL_law_477 ⟨by show cells + 0 ≤ 601024; omega, by show slots + 0 ≤ 7293000; omega⟩) hS (fun q _ h => mA_in hA2 q h) (mA_in hA2) (fun r2 u2 t2 H2 locs ht2 hvm2 hw2 hB2 hz2 hk2 hS => ?_)
  rw [ht2] at hB2
  replace hPl := keepL hPl hk2 s1
  replace hPo := keepOm hPo hk2 s3
  have hs9 := s_amount (xs (nI (i + 1)).toNatClampNeg) hSm
  refine lv_icmp_eq (tgt := 664) hx hb dL_law_480 (by decide) (fun _ => ?_) (fun cc => absurd (hw.trans (hs9.trans hw2.symm)) cc)
  exact W.widen (k := cells + 1) (n := slots + 6) (by omega) (by omega) (K S ob (setY U 0 0) wk ou f w H2 locs ls ⟨hPl, hB2, hPo, hSm, hOu⟩ hS hl)
set_option maxHeartbeats 4000000 in
set_option maxRecDepth 100000 in
theorem case_13 (C : cCtx p l s m c b L xs D cI cB cO cZ cJ sa acc lm rm ad g ao) (hL : L ≤ 2051) (hi : i + 3 < L) (hce : cells + 1 ≤ 601024) (hsl : slots + 6 ≤ 7293000) (K : cNext p l e s m b below meth c D cI cB cO cZ cJ acc lm rm ad g ao Q cells slots i) (hI : cWld D cI cB cO cZ cJ acc lm rm ad g ao S ob U wk ou f w H) (hS : va_S (fun q => s.heap.size ≤ q) s.heap H locs) (hl : lv_has ls 7 [(0, .ref b), (1, .ref (ad 0)), (2, .ref (g 0)), (3, .ref ao), (4, .int (nI i))]) : W p l e room_1 s m #[Value.ref b] below meth c H locs cells slots Q (F0 m 485 ls []) := by
  obtain ⟨hx, hb, hml, hown, hts, hX, hbl, hlt, hK, hN, hTh, hZ, hok, hmk, ⟨ha1, ha, hl1, hl2, hrm⟩, ⟨hA1, hA2, hA3⟩, s1, s2, s3⟩ := C
  obtain ⟨hPl, hPm, hPo, hSm, hOu⟩ := hI
  have hbA : ¬ (fun q : Nat => s.heap.size ≤ q) b := Nat.not_le.mpr hbl
  refine lv_aload_n hx hb dL_law_485 rfl (lv_at hl 1 rfl) ?_
  refine lv_aload_n hx hb dL_law_486 rfl (lv_at hl 0 rfl) ?_
  refine lv_iload hx hb dL_law_487 (lv_at hl 4 rfl) ?_
  refine lv_iconst (v := 1) hx hb dL_law_489 (by decide) ?_
  refine lv_iadd hx hb dL_law_490 ?_
  refine lv_topv (y := .int (nI (i + 1))) (congrArg Value.int (nI_add i 1)) ?_
  refine va_sld hx hb hX hbl hbA hS (vp_in_nI (by omega) (by omega)) dL_law_491 ?_
  refine lv_aload_n hx hb dL_law_492 rfl (lv_at hl 0 rfl) ?_
  refine lv_iload hx hb dL_law_493 (lv_at hl 4 rfl) ?_
  refine lv_iconst (v := 2) hx hb dL_law_495 (by decide) ?_
  refine lv_iadd hx hb dL_law_496 ?_
  refine lv_topv (y := .int (nI (i + 2))) (congrArg Value.int (nI_add i 2)) ?_
  refine va_sld hx hb hX hbl hbA hS (vp_in_nI (by omega) (by omega)) dL_law_497 ?_
  refine vp_callSi (W.runV (As := [.int (xs (nI (i + 1)).toNatClampNeg), .int (xs (nI (i + 2)).toNatClampNeg)]) (rest := []) ⟨hx, hb, hml, hown, hts⟩ (c_compare l D ad cI cB cO acc lm rm S.1 S.2.1 S.2.2 ob hok hSm.1.2.2.2.2.2.2.1 (xs (nI (i + 1)).toNatClampNeg) (xs (nI (i + 2)).toNatClampNeg)) (cwV 2 hts gL_law_X2_compare rfl rfl rfl (by decide +kernel) ⟨Nat.le_of_ble_eq_true rfl, Nat.le_of_ble_eq_true rfl⟩) ⟨lPc_blind, va_recv hK hPl (ci := 2) (q0 := 0) rfl (wl_at (by omega)), lPc_use hPl ⟨hK.sub [0, 1, 2] rfl, hN⟩⟩ rfl rfl hl.1 rfl (lv_room (Nat.le_of_ble_eq_true rfl)) dL_law_498 ⟨by show cells + 0 ≤ 601024; omega, by show slots + 0 ≤ 7293000; omega⟩) (fun r hw => ?_)
  refine lv_aload_n hx hb dL_law_501 rfl (lv_at hl 2 rfl) ?_
  refine lv_aload_n hx hb dL_law_502 rfl (lv_at hl 0 rfl) ?_
  refine lv_iload hx hb dL_law_503 (lv_at hl 4 rfl) ?_
  refine lv_iconst (v := 1) hx hb dL_law_505 (by decide) ?_
  refine lv_iadd hx hb dL_law_506 ?_
  refine lv_topv (y := .int (nI (i + 1))) (congrArg Value.int (nI_add i 1)) ?_
  refine va_sld hx hb hX hbl hbA hS (vp_in_nI (by omega) (by omega)) dL_law_507 ?_
  refine lv_aload_n hx hb dL_law_508 rfl (lv_at hl 0 rfl) ?_
  refine lv_iload hx hb dL_law_509 (lv_at hl 4 rfl) ?_
  refine lv_iconst (v := 2) hx hb dL_law_511 (by decide) ?_
  refine lv_iadd hx hb dL_law_512 ?_
  refine lv_topv (y := .int (nI (i + 2))) (congrArg Value.int (nI_add i 2)) ?_
  refine va_sld hx hb hX hbl hbA hS (vp_in_nI (by omega) (by omega)) dL_law_513 ?_
  refine va_calli (va_runV (As := [.int (xs (nI (i + 1)).toNatClampNeg), .int (xs (nI (i + 2)).toNatClampNeg)]) (rest := [.int r]) ⟨hx, hb, hml, hown, hts⟩ (m_compare l D g cI cZ cB acc lm rm U.1 U.2.1 U.2.2.1 wk ou U.2.2.2 hmk ha (xs (nI (i + 1)).toNatClampNeg) (xs (nI (i + 2)).toNatClampNeg) (now_ok hl2 ha hSm)) (cwV 2 hts gL_law_X3_compare rfl rfl rfl (by decide +kernel) ⟨Nat.le_of_ble_eq_true rfl, Nat.le_of_ble_eq_true rfl⟩) ⟨nPc_blind, va_recv hK hPm (ci := 3) (q0 := 0) rfl (wl_at (by omega)), nPc_use hPm (hK.sub [0, 3, 1] rfl)⟩ rfl rfl hl.1 rfl (lv_room (Nat.le_of_ble_eq_true rfl)) dL_law_514 ⟨by show cells + 0 ≤ 601024; omega, by show slots + 0 ≤ 7293000; omega⟩) hS (fun q _ h => mA_in hA2 q h) (mA_in hA2) (fun r2 u2 t2 H2 locs ht2 hvm2 hw2 hB2 hz2 hk2 hS => ?_)
  rw [ht2] at hB2
  replace hPl := keepL hPl hk2 s1
  replace hPo := keepOm hPo hk2 s3
  have hs9 := s_compare ha (xs (nI (i + 1)).toNatClampNeg) (xs (nI (i + 2)).toNatClampNeg) hSm
  refine lv_icmp_eq (tgt := 664) hx hb dL_law_517 (by decide) (fun _ => ?_) (fun cc => absurd (hw.trans (hs9.trans hw2.symm)) cc)
  exact W.widen (k := cells + 1) (n := slots + 6) (by omega) (by omega) (K S ob (setY U 0 0) wk ou f w H2 locs ls ⟨hPl, hB2, hPo, hSm, hOu⟩ hS hl)
set_option maxHeartbeats 4000000 in
set_option maxRecDepth 100000 in
theorem case_18 (C : cCtx p l s m c b L xs D cI cB cO cZ cJ sa acc lm rm ad g ao) (hL : L ≤ 2051) (hi : i + 3 < L) (hce : cells + 1 ≤ 601024) (hsl : slots + 6 ≤ 7293000) (K : cNext p l e s m b below meth c D cI cB cO cZ cJ acc lm rm ad g ao Q cells slots i) (hI : cWld D cI cB cO cZ cJ acc lm rm ad g ao S ob U wk ou f w H) (hS : va_S (fun q => s.heap.size ≤ q) s.heap H locs) (hl : lv_has ls 7 [(0, .ref b), (1, .ref (ad 0)), (2, .ref (g 0)), (3, .ref ao), (4, .int (nI i))]) : W p l e room_1 s m #[Value.ref b] below meth c H locs cells slots Q (F0 m 639 ls []) := by
  obtain ⟨hx, hb, hml, hown, hts, hX, hbl, hlt, hK, hN, hTh, hZ, hok, hmk, ⟨ha1, ha, hl1, hl2, hrm⟩, ⟨hA1, hA2, hA3⟩, s1, s2, s3⟩ := C
  obtain ⟨hPl, hPm, hPo, hSm, hOu⟩ := hI
  have hbA : ¬ (fun q : Nat => s.heap.size ≤ q) b := Nat.not_le.mpr hbl
  refine lv_aload_n hx hb dL_law_639 rfl (lv_at hl 1 rfl) ?_
  refine lv_aload_n hx hb dL_law_640 rfl (lv_at hl 0 rfl) ?_
  refine lv_iload hx hb dL_law_641 (lv_at hl 4 rfl) ?_
  refine lv_iconst (v := 1) hx hb dL_law_643 (by decide) ?_
  refine lv_iadd hx hb dL_law_644 ?_
  refine lv_topv (y := .int (nI (i + 1))) (congrArg Value.int (nI_add i 1)) ?_
  refine va_sld hx hb hX hbl hbA hS (vp_in_nI (by omega) (by omega)) dL_law_645 ?_
  refine vp_callSi (W.runV (As := [.int (xs (nI (i + 1)).toNatClampNeg)]) (rest := []) ⟨hx, hb, hml, hown, hts⟩ (c_count l D ad cI cB cO acc lm rm S.1 S.2.1 S.2.2 ob hok (tb25 ha hSm.2.1.2.1) (xs (nI (i + 1)).toNatClampNeg)) (cwV 1 hts gL_law_X2_count rfl rfl rfl (by decide +kernel) ⟨Nat.le_of_ble_eq_true rfl, Nat.le_of_ble_eq_true rfl⟩) ⟨lPc_blind, va_recv hK hPl (ci := 2) (q0 := 0) rfl (wl_at (by omega)), lPc_use hPl ⟨hK.sub [0, 1, 2] rfl, hN⟩⟩ rfl rfl hl.1 rfl (lv_room (Nat.le_of_ble_eq_true rfl)) dL_law_646 ⟨by show cells + 0 ≤ 601024; omega, by show slots + 0 ≤ 7293000; omega⟩) (fun r hw => ?_)
  refine lv_aload_n hx hb dL_law_649 rfl (lv_at hl 2 rfl) ?_
  refine lv_aload_n hx hb dL_law_650 rfl (lv_at hl 0 rfl) ?_
  refine lv_iload hx hb dL_law_651 (lv_at hl 4 rfl) ?_
  refine lv_iconst (v := 1) hx hb dL_law_653 (by decide) ?_
  refine lv_iadd hx hb dL_law_654 ?_
  refine lv_topv (y := .int (nI (i + 1))) (congrArg Value.int (nI_add i 1)) ?_
  refine va_sld hx hb hX hbl hbA hS (vp_in_nI (by omega) (by omega)) dL_law_655 ?_
  refine va_calli (va_runV (As := [.int (xs (nI (i + 1)).toNatClampNeg)]) (rest := [.int r]) ⟨hx, hb, hml, hown, hts⟩ (m_count l D g cI cZ cB acc lm rm U.1 U.2.1 U.2.2.1 wk ou U.2.2.2 hmk ha (xs (nI (i + 1)).toNatClampNeg)) (cwV 1 hts gL_law_X3_count rfl rfl rfl (by decide +kernel) ⟨Nat.le_of_ble_eq_true rfl, Nat.le_of_ble_eq_true rfl⟩) ⟨nPc_blind, va_recv hK hPm (ci := 3) (q0 := 0) rfl (wl_at (by omega)), nPc_use hPm (hK.sub [0, 3, 1] rfl)⟩ rfl rfl hl.1 rfl (lv_room (Nat.le_of_ble_eq_true rfl)) dL_law_656 ⟨by show cells + 0 ≤ 601024; omega, by show slots + 0 ≤ 7293000; omega⟩) hS (fun q _ h => mA_in hA2 q h) (mA_in hA2) (fun r2 u2 t2 H2 locs ht2 hvm2 hw2 hB2 hz2 hk2 hS => ?_)
  rw [ht2] at hB2
  replace hPl := keepL hPl hk2 s1
  replace hPo := keepOm hPo hk2 s3
  have hs9 := s_count (rm := rm) ha hl2 (xs (nI (i + 1)).toNatClampNeg) hSm
  refine lv_icmp_eq (tgt := 664) hx hb dL_law_659 (by decide) (fun _ => ?_) (fun cc => absurd (hw.trans (hs9.trans hw2.symm)) cc)
  exact W.widen (k := cells + 1) (n := slots + 6) (by omega) (by omega) (K S ob (setY U 0 0) wk ou f w H2 locs ls ⟨hPl, hB2, hPo, hSm, hOu⟩ hS hl)
set_option maxHeartbeats 4000000 in
set_option maxRecDepth 100000 in
theorem case_14 (C : cCtx p l s m c b L xs D cI cB cO cZ cJ sa acc lm rm ad g ao) (hL : L ≤ 2051) (hi : i + 3 < L) (hce : cells + 1 ≤ 601024) (hsl : slots + 6 ≤ 7293000) (K : cNext p l e s m b below meth c D cI cB cO cZ cJ acc lm rm ad g ao Q cells slots i) (hI : cWld D cI cB cO cZ cJ acc lm rm ad g ao S ob U wk ou f w H) (hS : va_S (fun q => s.heap.size ≤ q) s.heap H locs) (hl : lv_has ls 7 [(0, .ref b), (1, .ref (ad 0)), (2, .ref (g 0)), (3, .ref ao), (4, .int (nI i))]) : W p l e room_1 s m #[Value.ref b] below meth c H locs cells slots Q (F0 m 522 ls []) := by
  obtain ⟨hx, hb, hml, hown, hts, hX, hbl, hlt, hK, hN, hTh, hZ, hok, hmk, ⟨ha1, ha, hl1, hl2, hrm⟩, ⟨hA1, hA2, hA3⟩, s1, s2, s3⟩ := C
  obtain ⟨hPl, hPm, hPo, hSm, hOu⟩ := hI
  have hbA : ¬ (fun q : Nat => s.heap.size ≤ q) b := Nat.not_le.mpr hbl
  refine lv_aload_n hx hb dL_law_522 rfl (lv_at hl 1 rfl) ?_
  refine lv_aload_n hx hb dL_law_523 rfl (lv_at hl 0 rfl) ?_
  refine lv_iload hx hb dL_law_524 (lv_at hl 4 rfl) ?_
  refine lv_iconst (v := 1) hx hb dL_law_526 (by decide) ?_
  refine lv_iadd hx hb dL_law_527 ?_
  refine lv_topv (y := .int (nI (i + 1))) (congrArg Value.int (nI_add i 1)) ?_
  refine va_sld hx hb hX hbl hbA hS (vp_in_nI (by omega) (by omega)) dL_law_528 ?_
  refine va_callv (va_runV (As := [.int (xs (nI (i + 1)).toNatClampNeg)]) (rest := []) ⟨hx, hb, hml, hown, hts⟩ (c_stopAfter l D ad cI cB cO acc lm rm S.1 S.2.1 S.2.2 ob hok (xs (nI (i + 1)).toNatClampNeg)) (cwV 1 hts gL_law_X2_stopAfter rfl rfl rfl (by decide +kernel) ⟨Nat.le_of_ble_eq_true rfl, Nat.le_of_ble_eq_true rfl⟩) ⟨lPc_blind, va_recv hK hPl (ci := 2) (q0 := 0) rfl (wl_at (by omega)), lPc_use hPl ⟨hK.sub [0, 1, 2] rfl, hN⟩⟩ rfl rfl hl.1 rfl (lv_room (Nat.le_of_ble_eq_true rfl)) dL_law_529 ⟨by show cells + 0 ≤ 601024; omega, by show slots + 0 ≤ 7293000; omega⟩) hS (fun q _ h => lA_in hA1 q h) (lA_in hA1) (fun u t H1 locs ht hvm hw hB hz1 hk9 hS => ?_)
  replace hPm := keepM hPm hk9 s1
  replace hPo := keepOl hPo hk9 s2
  rw [ht] at hB
  refine lv_aload_n hx hb dL_law_532 rfl (lv_at hl 2 rfl) ?_
  refine lv_aload_n hx hb dL_law_533 rfl (lv_at hl 0 rfl) ?_
  refine lv_iload hx hb dL_law_534 (lv_at hl 4 rfl) ?_
  refine lv_iconst (v := 1) hx hb dL_law_536 (by decide) ?_
  refine lv_iadd hx hb dL_law_537 ?_
  refine lv_topv (y := .int (nI (i + 1))) (congrArg Value.int (nI_add i 1)) ?_
  refine va_sld hx hb hX hbl hbA hS (vp_in_nI (by omega) (by omega)) dL_law_538 ?_
  refine va_callv (va_runV (As := [.int (xs (nI (i + 1)).toNatClampNeg)]) (rest := []) ⟨hx, hb, hml, hown, hts⟩ (m_stopAfter l D g cI cZ cB acc lm rm U.1 U.2.1 U.2.2.1 wk ou U.2.2.2 hmk ha (xs (nI (i + 1)).toNatClampNeg)) (cwV 1 hts gL_law_X3_stopAfter rfl rfl rfl (by decide +kernel) ⟨Nat.le_of_ble_eq_true rfl, Nat.le_of_ble_eq_true rfl⟩) ⟨nPc_blind, va_recv hK hPm (ci := 3) (q0 := 0) rfl (wl_at (by omega)), nPc_use hPm (hK.sub [0, 3, 1] rfl)⟩ rfl rfl hl.1 rfl (lv_room (Nat.le_of_ble_eq_true rfl)) dL_law_539 ⟨by show cells + 0 ≤ 601024; omega, by show slots + 0 ≤ 7293000; omega⟩) hS (fun q _ h => mA_in hA2 q h) (mA_in hA2) (fun u2 t2 H2 locs ht2 hvm2 hw2 hB2 hz2 hk2 hS => ?_)
  rw [ht2] at hB2
  have hPl := keepL hB hk2 s1
  replace hPo := keepOm hPo hk2 s3
  refine lv_goto (tgt := 664) hx hb dL_law_542 (by decide) ?_
  exact W.widen (k := cells + 1) (n := slots + 6) (by omega) (by omega) (K (cStop (xs (nI (i + 1)).toNatClampNeg) S) ob (mStop (xs (nI (i + 1)).toNatClampNeg) U) wk ou f w H2 locs ls ⟨hPl, hB2, hPo, s_stop _ hSm, hOu⟩ hS hl)
set_option maxHeartbeats 4000000 in
set_option maxRecDepth 100000 in
theorem case_16 (C : cCtx p l s m c b L xs D cI cB cO cZ cJ sa acc lm rm ad g ao) (hL : L ≤ 2051) (hi : i + 3 < L) (hce : cells + 1 ≤ 601024) (hsl : slots + 6 ≤ 7293000) (K : cNext p l e s m b below meth c D cI cB cO cZ cJ acc lm rm ad g ao Q cells slots i) (hI : cWld D cI cB cO cZ cJ acc lm rm ad g ao S ob U wk ou f w H) (hS : va_S (fun q => s.heap.size ≤ q) s.heap H locs) (hl : lv_has ls 7 [(0, .ref b), (1, .ref (ad 0)), (2, .ref (g 0)), (3, .ref ao), (4, .int (nI i))]) : W p l e room_1 s m #[Value.ref b] below meth c H locs cells slots Q (F0 m 558 ls []) := by
  obtain ⟨hx, hb, hml, hown, hts, hX, hbl, hlt, hK, hN, hTh, hZ, hok, hmk, ⟨ha1, ha, hl1, hl2, hrm⟩, ⟨hA1, hA2, hA3⟩, s1, s2, s3⟩ := C
  obtain ⟨hPl, hPm, hPo, hSm, hOu⟩ := hI
  have hbA : ¬ (fun q : Nat => s.heap.size ≤ q) b := Nat.not_le.mpr hbl
  refine lv_aload_n hx hb dL_law_558 rfl (lv_at hl 1 rfl) ?_
  refine lv_aload_n hx hb dL_law_559 rfl (lv_at hl 0 rfl) ?_
  refine lv_iload hx hb dL_law_560 (lv_at hl 4 rfl) ?_
  refine lv_iconst (v := 1) hx hb dL_law_562 (by decide) ?_
  refine lv_iadd hx hb dL_law_563 ?_
  refine lv_topv (y := .int (nI (i + 1))) (congrArg Value.int (nI_add i 1)) ?_
  refine va_sld hx hb hX hbl hbA hS (vp_in_nI (by omega) (by omega)) dL_law_564 ?_
  refine va_calli (va_runV (As := [.int (xs (nI (i + 1)).toNatClampNeg)]) (rest := []) ⟨hx, hb, hml, hown, hts⟩ (c_write l D ad cI cB cO acc lm rm S.1 S.2.1 S.2.2 ob hok hSm.1.2.2.2.2.2.2.1 hSm.2.1.2.2.2.2.2 (xs (nI (i + 1)).toNatClampNeg) (fun b hb => sv_bal hSm.1 hb)) (cwV 1 hts gL_law_X2_write rfl rfl rfl (by decide +kernel) ⟨Nat.le_of_ble_eq_true rfl, Nat.le_of_ble_eq_true rfl⟩) ⟨lPc_blind, va_recv hK hPl (ci := 2) (q0 := 0) rfl (wl_at (by omega)), lPc_use hPl ⟨hK.sub [0, 1, 2] rfl, hN⟩⟩ rfl rfl hl.1 rfl (lv_room (Nat.le_of_ble_eq_true rfl)) dL_law_565 ⟨by show cells + 0 ≤ 601024; omega, by show slots + 0 ≤ 7293000; omega⟩) hS (fun q _ h => lA_in hA1 q h) (lA_in hA1) (fun r u t H1 locs ht hvm hw hB hz1 hk9 hS => ?_)
  replace hPm := keepM hPm hk9 s1
  replace hPo := keepOl hPo hk9 s2
  rw [ht] at hB
  refine lv_aload_n hx hb dL_law_568 rfl (lv_at hl 2 rfl) ?_
  refine lv_aload_n hx hb dL_law_569 rfl (lv_at hl 0 rfl) ?_
  refine lv_iload hx hb dL_law_570 (lv_at hl 4 rfl) ?_
  refine lv_iconst (v := 1) hx hb dL_law_572 (by decide) ?_
  refine lv_iadd hx hb dL_law_573 ?_
  refine lv_topv (y := .int (nI (i + 1))) (congrArg Value.int (nI_add i 1)) ?_
  refine va_sld hx hb hX hbl hbA hS (vp_in_nI (by omega) (by omega)) dL_law_574 ?_
  refine va_calli (va_runV (As := [.int (xs (nI (i + 1)).toNatClampNeg)]) (rest := [.int r]) ⟨hx, hb, hml, hown, hts⟩ (m_write l D g cI cZ cB acc lm rm U.1 U.2.1 U.2.2.1 wk ou U.2.2.2 hmk ha hl2 (xs (nI (i + 1)).toNatClampNeg) (bal_m hSm)) (cwV 1 hts gL_law_X3_write rfl rfl rfl (by decide +kernel) ⟨Nat.le_of_ble_eq_true rfl, Nat.le_of_ble_eq_true rfl⟩) ⟨nPc_blind, va_recv hK hPm (ci := 3) (q0 := 0) rfl (wl_at (by omega)), nPc_use hPm (hK.sub [0, 3, 1] rfl)⟩ rfl rfl hl.1 rfl (lv_room (Nat.le_of_ble_eq_true rfl)) dL_law_575 ⟨by show cells + 0 ≤ 601024; omega, by show slots + 0 ≤ 7293000; omega⟩) hS (fun q _ h => mA_in hA2 q h) (mA_in hA2) (fun r2 u2 t2 H2 locs ht2 hvm2 hw2 hB2 hz2 hk2 hS => ?_)
  rw [ht2] at hB2
  have hPl := keepL hB hk2 s1
  replace hPo := keepOm hPo hk2 s3
  obtain ⟨e9, w', hs9, ho9⟩ := s_write ha (xs (nI (i + 1)).toNatClampNeg) hSm hOu (show cWr acc lm (xs (nI (i + 1)).toNatClampNeg) S.1 S.2.1 S.2.2 ob r u from hw) (show mWt acc (xs (nI (i + 1)).toNatClampNeg) U wk ou r2 u2 from hw2)
  refine lv_icmp_eq (tgt := 664) hx hb dL_law_578 (by decide) (fun _ => ?_) (fun cc => absurd (e9) cc)
  exact W.widen (k := cells + 1) (n := slots + 6) (by omega) (by omega) (K (S.1, u.1, u.2.1) u.2.2 u2.1 u2.2.1 u2.2.2 f w' H2 locs ls ⟨hPl, hB2, hPo, hs9, ho9⟩ hS hl)
set_option maxHeartbeats 4000000 in
set_option maxRecDepth 100000 in
theorem case_17 (C : cCtx p l s m c b L xs D cI cB cO cZ cJ sa acc lm rm ad g ao) (hL : L ≤ 2051) (hi : i + 3 < L) (hce : cells + 1 ≤ 601024) (hsl : slots + 6 ≤ 7293000) (K : cNext p l e s m b below meth c D cI cB cO cZ cJ acc lm rm ad g ao Q cells slots i) (hI : cWld D cI cB cO cZ cJ acc lm rm ad g ao S ob U wk ou f w H) (hS : va_S (fun q => s.heap.size ≤ q) s.heap H locs) (hl : lv_has ls 7 [(0, .ref b), (1, .ref (ad 0)), (2, .ref (g 0)), (3, .ref ao), (4, .int (nI i))]) : W p l e room_1 s m #[Value.ref b] below meth c H locs cells slots Q (F0 m 583 ls []) := by
  obtain ⟨hx, hb, hml, hown, hts, hX, hbl, hlt, hK, hN, hTh, hZ, hok, hmk, ⟨ha1, ha, hl1, hl2, hrm⟩, ⟨hA1, hA2, hA3⟩, s1, s2, s3⟩ := C
  obtain ⟨hPl, hPm, hPo, hSm, hOu⟩ := hI
  have hbA : ¬ (fun q : Nat => s.heap.size ≤ q) b := Nat.not_le.mpr hbl
  obtain ⟨n, hn, hw9, ho9⟩ := id hOu
  have hz4 : S.2.2 4 = nI n := hSm.1.1.2.2.2.1.trans hw9
  have hy6 : U.2.2.2 6 = nI n := hSm.1.1.2.2.2.2.trans hw9
  refine lv_aload_n hx hb dL_law_583 rfl (lv_at hl 1 rfl) ?_
  refine lv_aload_n hx hb dL_law_584 rfl (lv_at hl 0 rfl) ?_
  refine lv_iload hx hb dL_law_585 (lv_at hl 4 rfl) ?_
  refine lv_iconst (v := 1) hx hb dL_law_587 (by decide) ?_
  refine lv_iadd hx hb dL_law_588 ?_
  refine lv_topv (y := .int (nI (i + 1))) (congrArg Value.int (nI_add i 1)) ?_
  refine va_sld hx hb hX hbl hbA hS (vp_in_nI (by omega) (by omega)) dL_law_589 ?_
  refine lv_aload_n hx hb dL_law_590 rfl (lv_at hl 3 rfl) ?_
  have hPlo : va_P D vwCl (lW ad cI cB cO acc lm rm S.1 S.2.1 S.2.2 ob ++ oC ao cJ f) H := vp_app hPl hPo
  have hZH : thz (fun q => s.heap.size ≤ q) s H := hZ.kept hS.2.1
  refine va_calli (vx_runSW (As := [.ref (ad 0), .int (xs (nI (i + 1)).toNatClampNeg), .ref ao]) (rest := []) ⟨hx, hb, hml, hown, hts⟩ (l_octet l hlt D ad cI cB cO cJ acc lm rm S.1 S.2.1 S.2.2 ob hok sa n (fun q => s.heap.size ≤ q) hn hz4 (xs (nI (i + 1)).toNatClampNeg) ao f s2) (vx_cwSW 3 hts gL_law_L_octet rfl rfl rfl (by decide +kernel) ⟨Nat.le_of_ble_eq_true rfl, Nat.le_of_ble_eq_true rfl⟩) ⟨oPc_blind, oPc_use hPlo ⟨hK.sub [0, 1, 2, 4] rfl, hTh, hZH⟩⟩ rfl rfl hl.1 rfl (lv_room (Nat.le_of_ble_eq_true rfl)) dL_law_591 ⟨by show cells + 1 ≤ 601024; omega, by show slots + 6 ≤ 7293000; omega⟩) hS (fun q _ h => by rw [h]; exact hA3) (fun q h => by rw [h]; exact hA3) (fun r u t H1 locs ht hvm hw hB hz1 hk9 hS => ?_)
  replace hPl := keepLo hPl hk9 s2
  replace hPm := keepMo hPm hk9 s3
  rw [ht] at hB
  refine lv_istore (lv' := [(5, .int r), (0, .ref b), (1, .ref (ad 0)), (2, .ref (g 0)), (3, .ref ao), (4, .int (nI i))]) hx hb dL_law_594 hl (by decide) rfl (fun ls hl => ?_)
  refine lv_aload_n hx hb dL_law_596 rfl (lv_at hl 3 rfl) ?_
  refine lv_aload_n hx hb dL_law_597 rfl (lv_at hl 1 rfl) ?_
  refine lv_iload hx hb dL_law_598 (lv_at hl 5 rfl) ?_
  refine lv_iconst (v := 1) hx hb dL_law_600 (by decide) ?_
  refine lv_iadd hx hb dL_law_601 ?_
  refine lv_topv (y := .int (nI (i + 1))) (congrArg Value.int (nI_add i 1)) ?_
  refine va_sld hx hb hX hbl hbA hS (vp_in_nI (by omega) (by omega)) dL_law_602 ?_
  refine va_calli (va_runV (As := [.int (xs (nI (i + 1)).toNatClampNeg)]) (rest := []) ⟨hx, hb, hml, hown, hts⟩ (m_octet l D g cI cZ cB acc lm rm U.1 U.2.1 U.2.2.1 wk ou U.2.2.2 hmk ha (xs (nI (i + 1)).toNatClampNeg) n hy6 (by omega)) (cwV 1 hts gL_law_X3_octet rfl rfl rfl (by decide +kernel) ⟨Nat.le_of_ble_eq_true rfl, Nat.le_of_ble_eq_true rfl⟩) ⟨nPc_blind, va_recv hK hPm (ci := 3) (q0 := 0) rfl (wl_at (by omega)), nPc_use hPm (hK.sub [0, 3, 1] rfl)⟩ rfl rfl hl.1 rfl (lv_room (Nat.le_of_ble_eq_true rfl)) dL_law_603 ⟨by show cells + 1 + 0 ≤ 601024; omega, by show slots + 6 + 0 ≤ 7293000; omega⟩) hS (fun q _ h => mA_in hA2 q h) (mA_in hA2) (fun r2 u2 t2 H2 locs ht2 hvm2 hw2 hB2 hz2 hk2 hS => ?_)
  rw [ht2] at hB2
  replace hPl := keepL hPl hk2 s1
  have hPo := keepOm hB hk2 s3
  refine lv_istore (lv' := [(6, .int r2), (5, .int r), (0, .ref b), (1, .ref (ad 0)), (2, .ref (g 0)), (3, .ref ao), (4, .int (nI i))]) hx hb dL_law_606 hl (by decide) rfl (fun ls hl => ?_)
  refine lv_aload_n hx hb dL_law_608 rfl (lv_at hl 4 rfl) ?_
  have hno : (xs (nI (i + 1)).toNatClampNeg < 0 ∨ ¬ xs (nI (i + 1)).toNatClampNeg < U.2.2.2 6) ↔ ¬ oIn n (xs (nI (i + 1)).toNatClampNeg) := by
    rw [hy6]; unfold oIn
    constructor
    · rintro (q | q) ⟨q1, q2⟩
      · exact q1 q
      · exact q q2
    · intro q
      by_cases q1 : xs (nI (i + 1)).toNatClampNeg < 0
      · exact Or.inl q1
      · exact Or.inr (fun q2 => q ⟨q1, q2⟩)
  generalize hY : va_up U.2.2.2 0 (if xs (nI (i + 1)).toNatClampNeg < 0 ∨ ¬ xs (nI (i + 1)).toNatClampNeg < U.2.2.2 6 then 1 else 0) = Y at hB2
  have hSm9 : Sm acc lm w S (U.1, U.2.1, U.2.2.1, Y) := by rw [← hY]; exact hSm
  refine vp_callSi (W.runV (As := []) (rest := []) ⟨hx, hb, hml, hown, hts⟩ (m_thrown l D g cI cZ cB acc lm rm U.1 U.2.1 U.2.2.1 wk ou Y hmk ha) (cwV 0 hts gL_law_X3_thrown rfl rfl rfl (by decide +kernel) ⟨Nat.le_of_ble_eq_true rfl, Nat.le_of_ble_eq_true rfl⟩) ⟨nPc_blind, va_recv hK hB2 (ci := 3) (q0 := 0) rfl (wl_at (by omega)), nPc_use hB2 (hK.sub [0, 3, 1] rfl)⟩ rfl rfl hl.1 rfl (lv_room (Nat.le_of_ble_eq_true rfl)) dL_law_609 ⟨by show cells + 1 + 0 + 0 ≤ 601024; omega, by show slots + 6 + 0 + 0 ≤ 7293000; omega⟩) (fun r3 hw3 => ?_)
  have ey1 : oIn n (xs (nI (i + 1)).toNatClampNeg) → Y 0 = 0 := fun q => by rw [← hY, va_up_self, if_neg (fun n9 => hno.mp n9 q)]
  have ey2 : ¬ oIn n (xs (nI (i + 1)).toNatClampNeg) → Y 0 = 1 := fun q => by rw [← hY, va_up_self, if_pos (hno.mpr q)]
  refine lv_iload hx hb dL_law_612 (lv_at hl 1 rfl) ?_
  have hr9 : r3 = r := by
    rw [hw3]
    rcases hw with ⟨q, q1, -⟩ | ⟨q, q1⟩
    · rw [ey1 q, q1]
    · rw [ey2 q, q1]
  refine lv_icmp_eq (tgt := 619) hx hb dL_law_614 (by decide) (fun _ => ?_) (fun cc => absurd hr9 cc)
  have fin : W p l e room_1 s m #[Value.ref b] below meth c H2 locs (cells + 1 + 0) (slots + 6 + 0) Q (F0 m 636 ls []) := by
    refine lv_goto (tgt := 664) hx hb dL_law_636 (by decide) ?_
    exact K S ob (U.1, U.2.1, U.2.2.1, Y) wk ou u w H2 locs ls ⟨hPl, hB2, hPo, hSm9, hOu⟩ hS (lv_sub hl [2, 3, 4, 5, 6] rfl)
  refine lv_iload hx hb dL_law_619 (lv_at hl 1 rfl) ?_
  refine lv_if_ne (tgt := 636) hx hb dL_law_621 (by decide) (fun _ => fin) (fun c0 => ?_)
  rcases hw with ⟨q, q1, q2⟩ | ⟨q, q1⟩
  case inr => rw [q1] at c0; exact absurd c0 (by decide)
  refine lv_aload_n hx hb dL_law_624 rfl (lv_at hl 5 rfl) ?_
  refine lv_iconst (v := 0) hx hb dL_law_625 (by decide) ?_
  refine va_lald hx hb hK hPo 0 4 rfl rfl (vp_in_nI (n := 0) (by omega) (by omega)) dL_law_626 ?_
  refine lv_iload hx hb dL_law_627 (lv_at hl 0 rfl) ?_
  refine lv_i2l (v := r2.toInt64) hx hb dL_law_629 rfl ?_
  refine W.lcmp hx hb dL_law_630 ?_
  have h0 : lg_cmp (u 0) r2.toInt64 = 0 := by
    have e2 : r2 = ou (xs (nI (i + 1)).toNatClampNeg).toNatClampNeg := by rw [hw2, if_neg (fun n9 => hno.mp n9 q)]
    obtain ⟨j, hj, ej⟩ := oIn_ex (by omega) q
    rw [ej, nI_clamp (by omega)] at e2 q2
    rw [q2, e2, ho9 j hj]
    exact lg_self _
  refine lv_if_eq (tgt := 636) hx hb dL_law_631 (by decide) (fun _ => fin) (fun cc => absurd h0 cc)
end CASES

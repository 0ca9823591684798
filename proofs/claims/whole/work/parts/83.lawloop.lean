/-! THE CLAIM OUT OF ONE WALK OF THE LAW'S BODY. Your part is whole_start (and what it stands on); all else here is the same for every law, but numbers. -/
def R_law : String := "BigLedgerLaw"
def lw_P (b : Addr) (xs : List Int32) (args : Array Value) (s : State) : Prop := args = #[.ref b] ∧ s.IntsAt b xs ∧ xs.length ≤ 2051 ∧ (Jvm.Cond.and given_1 narrow_1).before args s = true
def lw_Q (_ : Array Value) (s : State) (o : Outcome) (t : State) : Prop := o = .returned (some (.int 1)) ∧ Framed s o t [] 601024 7293000
def lw_Z (below : List Frame) (a : Array Value) (s : State) : State → Prop := fun t => ∃ o, t.status = .running ∧ Ended t below o ∧ lw_Q a s o t
/-- the law's own end, with 1 on the stack, nothing written that was there before, its room as the claim has it -/
theorem lw_ret {p : Program} {l : Launch} {e : Env} {s : State} {m : MethodId} {below : List Frame} {meth : Method} {c : Code} {b : Nat} (hx : p.tables.exec = Jvm.exec) (hb : c.code = code) (hr : meth.sig.returnType = ret) (hlocks : meth.locks = false) {pc : Nat} {H : Heap} {ls : Array Slot} (hdg : decode code pc = .ok (.ireturn, 1)) : W p l e room_1 s m #[Value.ref b] below meth c H [] 601024 7293000 (lw_Z below #[Value.ref b] s) (F0 m pc ls [.int 1]) := by
  intro T hT X
  obtain ⟨fs, hret, hrun, hended, hW, hframe⟩ := X.leave (v := some (.int 1)) (hlocks := hlocks) (fun h => by rw [hr] at h; cases h)
  have hmeth' : T.vm.method? m = some meth := X.method'
  refine ⟨T.setFrames fs, ?_, .returned (some (.int 1)), hrun, hended, rfl, ⟨_, rfl⟩, hW, hframe⟩
  jvm_step X.here [X.here.top, hx, hb, hdg, hmeth', hr, ret, narrow_b1]
  (try refine ⟨rfl, ?_⟩); (try refine ⟨rfl, ?_⟩)
  first | (intro acts; rw [hret _ acts rfl rfl rfl]) | rw [hret _ _ rfl rfl rfl]
  exact Steps.refl _
/-- what holds at the law's entry: the machine, the code, the tables' words (any of lw_tbl by 'hts w (by decide +kernel)'), the script of L ints xs at the cell b, what the Statement gives of the start (any of its parts by flat_of_before) -/
def lw_At (p : Program) (s : State) (m : MethodId) (meth : Method) (c : Code) (b L : Nat) (xs : Nat → Int32) : Prop :=
  p.tables.exec = Jvm.exec ∧ c.code = code ∧ meth.sig.returnType = ret ∧ c.maxLocals = 7 ∧ s.vm.findClass R_law = some m.cls ∧ (∀ w ∈ lw_tbl, w.before #[Value.ref b] s = true) ∧ va_X b L xs s s.heap ∧ b < s.heap.size ∧ meth.locks = false ∧ (Jvm.Cond.and given_1 narrow_1).before #[Value.ref b] s = true
/-! the law's loop -/
theorem sw_out19 {p : Int32} (h0 : ¬ p = 0) (h1 : ¬ p = 1) (h2 : ¬ p = 2) (h3 : ¬ p = 3) (h4 : ¬ p = 4) (h5 : ¬ p = 5) (h6 : ¬ p = 6) (h7 : ¬ p = 7) (h8 : ¬ p = 8) (h9 : ¬ p = 9) (h10 : ¬ p = 10) (h11 : ¬ p = 11) (h12 : ¬ p = 12) (h13 : ¬ p = 13) (h14 : ¬ p = 14) (h15 : ¬ p = 15) (h16 : ¬ p = 16) (h17 : ¬ p = 17) (h18 : ¬ p = 18) : p.toInt < 0 ∨ 18 < p.toInt := by
  rw [fa_eq] at h0 h1 h2 h3 h4 h5 h6 h7 h8 h9 h10 h11 h12 h13 h14 h15 h16 h17 h18
  have e0 : (0 : Int32).toInt = 0 := by decide
  have e1 : (1 : Int32).toInt = 1 := by decide
  have e2 : (2 : Int32).toInt = 2 := by decide
  have e3 : (3 : Int32).toInt = 3 := by decide
  have e4 : (4 : Int32).toInt = 4 := by decide
  have e5 : (5 : Int32).toInt = 5 := by decide
  have e6 : (6 : Int32).toInt = 6 := by decide
  have e7 : (7 : Int32).toInt = 7 := by decide
  have e8 : (8 : Int32).toInt = 8 := by decide
  have e9 : (9 : Int32).toInt = 9 := by decide
  have e10 : (10 : Int32).toInt = 10 := by decide
  have e11 : (11 : Int32).toInt = 11 := by decide
  have e12 : (12 : Int32).toInt = 12 := by decide
  have e13 : (13 : Int32).toInt = 13 := by decide
  have e14 : (14 : Int32).toInt = 14 := by decide
  have e15 : (15 : Int32).toInt = 15 := by decide
  have e16 : (16 : Int32).toInt = 16 := by decide
  have e17 : (17 : Int32).toInt = 17 := by decide
  have e18 : (18 : Int32).toInt = 18 := by decide
  omega
theorem far_4 {i L : Nat} (hL : L ≤ 2051) (hi : i < 3000) (h : ¬ nI L - 4 < nI i) : i + 3 < L := by
  rw [fa_lt] at h
  have e1 : (nI L).toInt = (L : Int) := nI_toInt (by omega)
  have e2 : (nI i).toInt = (i : Int) := nI_toInt (by omega)
  have e3 : (4 : Int32).toInt = 4 := by decide
  have e4 : (nI L - 4).toInt = (L : Int) - 4 := by rw [fb_subI (by rw [e1, e3]; omega) (by rw [e1, e3]; omega), e1, e3]
  rw [e4, e2] at h
  omega
section LOOP
variable {p : Program} {l : Launch} {e : Env} {s : State} {m : MethodId} {below : List Frame} {meth : Method} {c : Code} {b L : Nat} {xs : Nat → Int32} {D : va_G} {cI cB cO cZ cJ : ClassId} {sa acc lm rm : Nat} {ad g : Nat → Nat} {ao : Nat}
set_option maxHeartbeats 4000000 in
set_option maxRecDepth 100000 in
theorem law_head (C : cCtx p l s m c b L xs D cI cB cO cZ cJ sa acc lm rm ad g ao) (hL : L ≤ 2051) (hr : meth.sig.returnType = ret) (hlocks : meth.locks = false) {i cells slots : Nat} {H : Heap} {locs : List Loc} {ls : Array Slot} (hi : i < 3000) (hce : cells ≤ 601024) (hsl : slots ≤ 7293000) (hS : va_S (fun q => s.heap.size ≤ q) s.heap H locs) (hl : lv_has ls 7 [(0, .ref b), (1, .ref (ad 0)), (2, .ref (g 0)), (3, .ref ao), (4, .int (nI i))])
    (go : i + 3 < L → W p l e room_1 s m #[Value.ref b] below meth c H locs cells slots (lw_Z below #[Value.ref b] s) (F0 m 62 ls [])) : W p l e room_1 s m #[Value.ref b] below meth c H locs cells slots (lw_Z below #[Value.ref b] s) (F0 m 53 ls []) := by
  obtain ⟨hx, hb, hml, hown, hts, hX, hbl, -⟩ := C
  have hbA : ¬ (fun q : Nat => s.heap.size ≤ q) b := Nat.not_le.mpr hbl
  refine lv_iload hx hb dL_law_53 (lv_at hl 4 rfl) ?_
  refine lv_aload_n hx hb dL_law_55 rfl (lv_at hl 0 rfl) ?_
  refine va_slen hx hb hX hbl hbA hS dL_law_56 ?_
  refine lv_iconst (v := 4) hx hb dL_law_57 (by decide) ?_
  refine lv_isub hx hb dL_law_58 ?_
  refine lv_icmp_gt (tgt := 670) hx hb dL_law_59 (by decide) (fun _ => ?_) (fun c9 => go (far_4 hL hi c9))
  refine lv_iconst (v := 1) hx hb dL_law_670 (by decide) ?_
  refine va_forget (fun q hq => hS.2.2 q hq) ?_
  refine W.widen (k := 601024) (n := 7293000) hce hsl ?_
  exact lw_ret hx hb hr hlocks dL_law_671
set_option maxHeartbeats 4000000 in
set_option maxRecDepth 100000 in
theorem law_switch (C : cCtx p l s m c b L xs D cI cB cO cZ cJ sa acc lm rm ad g ao) (hL : L ≤ 2051) {Q : State → Prop} {i cells slots : Nat} (hi : i + 3 < L) (hce : cells + 1 ≤ 601024) (hsl : slots + 6 ≤ 7293000) (K : cNext p l e s m b below meth c D cI cB cO cZ cJ acc lm rm ad g ao Q cells slots i) {S : DS} {ob : Nat → Int32} {U : MS} {wk ou : Nat → Int32} {f : Nat → Int64} {w : Int32} {H : Heap} {locs : List Loc} {ls : Array Slot} (hI : cWld D cI cB cO cZ cJ acc lm rm ad g ao S ob U wk ou f w H) (hS : va_S (fun q => s.heap.size ≤ q) s.heap H locs) (hl : lv_has ls 7 [(0, .ref b), (1, .ref (ad 0)), (2, .ref (g 0)), (3, .ref ao), (4, .int (nI i))]) : W p l e room_1 s m #[Value.ref b] below meth c H locs cells slots Q (F0 m 62 ls []) := by
  obtain ⟨hx, hb, hml, hown, hts, hX, hbl, -⟩ := id C
  have hbA : ¬ (fun q : Nat => s.heap.size ≤ q) b := Nat.not_le.mpr hbl
  refine lv_aload_n hx hb dL_law_62 rfl (lv_at hl 0 rfl) ?_
  refine lv_iload hx hb dL_law_63 (lv_at hl 4 rfl) ?_
  refine va_sld hx hb hX hbl hbA hS (vp_in_nI (by omega) (by omega)) dL_law_65 ?_
  refine lv_bipush (v := 31) hx hb dL_law_66 (by decide) ?_
  refine lv_iand hx hb dL_law_68 ?_
  refine lv_topi (fun v _ => ?_)
  by_cases q0 : v = 0
  · rw [q0]; exact lv_tableIn (tgt := 160) hx hb dL_law_69 (by decide) (by decide) rfl (by decide) (case_0 C hL hi hce hsl K hI hS hl)
  by_cases q1 : v = 1
  · rw [q1]; exact lv_tableIn (tgt := 173) hx hb dL_law_69 (by decide) (by decide) rfl (by decide) (case_1 C hL hi hce hsl K hI hS hl)
  by_cases q2 : v = 2
  · rw [q2]; exact lv_tableIn (tgt := 198) hx hb dL_law_69 (by decide) (by decide) rfl (by decide) (case_2 C hL hi hce hsl K hI hS hl)
  by_cases q3 : v = 3
  · rw [q3]; exact lv_tableIn (tgt := 211) hx hb dL_law_69 (by decide) (by decide) rfl (by decide) (case_3 C hL hi hce hsl K hI hS hl)
  by_cases q4 : v = 4
  · rw [q4]; exact lv_tableIn (tgt := 236) hx hb dL_law_69 (by decide) (by decide) rfl (by decide) (case_4 C hL hi hce hsl K hI hS hl)
  by_cases q5 : v = 5
  · rw [q5]; exact lv_tableIn (tgt := 261) hx hb dL_law_69 (by decide) (by decide) rfl (by decide) (case_5 C hL hi hce hsl K hI hS hl)
  by_cases q6 : v = 6
  · rw [q6]; exact lv_tableIn (tgt := 298) hx hb dL_law_69 (by decide) (by decide) rfl (by decide) (case_6 C hL hi hce hsl K hI hS hl)
  by_cases q7 : v = 7
  · rw [q7]; exact lv_tableIn (tgt := 347) hx hb dL_law_69 (by decide) (by decide) rfl (by decide) (case_7 C hL hi hce hsl K hI hS hl)
  by_cases q8 : v = 8
  · rw [q8]; exact lv_tableIn (tgt := 360) hx hb dL_law_69 (by decide) (by decide) rfl (by decide) (case_8 C hL hi hce hsl K hI hS hl)
  by_cases q9 : v = 9
  · rw [q9]; exact lv_tableIn (tgt := 373) hx hb dL_law_69 (by decide) (by decide) rfl (by decide) (case_9 C hL hi hce hsl K hI hS hl)
  by_cases q10 : v = 10
  · rw [q10]; exact lv_tableIn (tgt := 398) hx hb dL_law_69 (by decide) (by decide) rfl (by decide) (case_10 C hL hi hce hsl K hI hS hl)
  by_cases q11 : v = 11
  · rw [q11]; exact lv_tableIn (tgt := 435) hx hb dL_law_69 (by decide) (by decide) rfl (by decide) (case_11 C hL hi hce hsl K hI hS hl)
  by_cases q12 : v = 12
  · rw [q12]; exact lv_tableIn (tgt := 460) hx hb dL_law_69 (by decide) (by decide) rfl (by decide) (case_12 C hL hi hce hsl K hI hS hl)
  by_cases q13 : v = 13
  · rw [q13]; exact lv_tableIn (tgt := 485) hx hb dL_law_69 (by decide) (by decide) rfl (by decide) (case_13 C hL hi hce hsl K hI hS hl)
  by_cases q14 : v = 14
  · rw [q14]; exact lv_tableIn (tgt := 522) hx hb dL_law_69 (by decide) (by decide) rfl (by decide) (case_14 C hL hi hce hsl K hI hS hl)
  by_cases q15 : v = 15
  · rw [q15]; exact lv_tableIn (tgt := 545) hx hb dL_law_69 (by decide) (by decide) rfl (by decide) (case_15 C hL hi hce hsl K hI hS hl)
  by_cases q16 : v = 16
  · rw [q16]; exact lv_tableIn (tgt := 558) hx hb dL_law_69 (by decide) (by decide) rfl (by decide) (case_16 C hL hi hce hsl K hI hS hl)
  by_cases q17 : v = 17
  · rw [q17]; exact lv_tableIn (tgt := 583) hx hb dL_law_69 (by decide) (by decide) rfl (by decide) (case_17 C hL hi hce hsl K hI hS hl)
  by_cases q18 : v = 18
  · rw [q18]; exact lv_tableIn (tgt := 639) hx hb dL_law_69 (by decide) (by decide) rfl (by decide) (case_18 C hL hi hce hsl K hI hS hl)
  refine lv_tableOut (tgt := 664) hx hb dL_law_69 (sw_out19 q0 q1 q2 q3 q4 q5 q6 q7 q8 q9 q10 q11 q12 q13 q14 q15 q16 q17 q18) (by decide) ?_
  exact W.widen (k := cells + 1) (n := slots + 6) (by omega) (by omega) (K S ob U wk ou f w H locs ls hI hS hl)
set_option maxHeartbeats 4000000 in
set_option maxRecDepth 100000 in
theorem law_loop (C : cCtx p l s m c b L xs D cI cB cO cZ cJ sa acc lm rm ad g ao) (hL : L ≤ 2051) (hr : meth.sig.returnType = ret) (hlocks : meth.locks = false) : ∀ (n i cells slots : Nat), L ≤ i + n → i < 3000 → cells + n ≤ 601024 → slots + 6 * n ≤ 7293000 →
    ∀ (S : DS) (ob : Nat → Int32) (U : MS) (wk ou : Nat → Int32) (f : Nat → Int64) (w : Int32) (H : Heap) (locs : List Loc) (ls : Array Slot), cWld D cI cB cO cZ cJ acc lm rm ad g ao S ob U wk ou f w H → va_S (fun q => s.heap.size ≤ q) s.heap H locs → lv_has ls 7 [(0, .ref b), (1, .ref (ad 0)), (2, .ref (g 0)), (3, .ref ao), (4, .int (nI i))] → W p l e room_1 s m #[Value.ref b] below meth c H locs cells slots (lw_Z below #[Value.ref b] s) (F0 m 53 ls []) := by
  intro n
  induction n with
  | zero =>
    intro i cells slots h1 h2 h3 h4 S ob U wk ou f w H locs ls hI hS hl
    exact law_head C hL hr hlocks h2 (by omega) (by omega) hS hl (fun h => absurd h (by omega))
  | succ n ih =>
    intro i cells slots h1 h2 h3 h4 S ob U wk ou f w H locs ls hI hS hl
    refine law_head C hL hr hlocks h2 (by omega) (by omega) hS hl (fun h => ?_)
    refine law_switch C hL h (by omega) (by omega) ?_ hI hS hl
    intro S ob U wk ou f w H locs ls hI hS hl
    obtain ⟨hx, hb, -⟩ := id C
    refine lv_iinc (v := nI (i + 4)) (lv' := [(4, .int (nI (i + 4))), (0, .ref b), (1, .ref (ad 0)), (2, .ref (g 0)), (3, .ref ao)]) hx hb dL_law_664 hl (k := 4) rfl (nI_add i 4) (by decide) rfl (fun ls hl => ?_)
    refine lv_goto (tgt := 53) hx hb dL_law_667 (by decide) ?_
    exact ih (i + 4) (cells + 1) (slots + 6) (by omega) (by omega) (by omega) (by omega) S ob U wk ou f w H locs ls hI hS (lv_sub hl [1, 2, 3, 4, 0] rfl)
end LOOP

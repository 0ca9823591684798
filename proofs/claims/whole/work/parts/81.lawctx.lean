/-! the law's loop: what stands at its head -/
section SIM
variable {acc lm rm : Nat} {w : Int32} {S S0 : DS} {U U0 : MS}
theorem am_lm (h : Sm acc lm w S U) : U.2.1 < 2147483648 ^ lm := by rw [← h.2.1.1.2]; exact h.2.1.2.2.2.2.1
theorem am_22 (hl : lm ≤ 20) (h : Sm acc lm w S U) : U.2.1 < 2147483648 ^ 22 := by rw [← h.2.1.1.2]; exact pw22 hl (x0_ok h)
theorem sub_m (h : Sm acc lm w S U) : ∀ b, b < acc → U.2.1 ≤ U.1 0 b → U.2.1 ≤ U.1 0 24 := by
  intro b hb hx
  have e1 : sv S.1 S.2.1 b = U.1 0 b := by rw [h.2.1.2.2.2.1 b (by omega), mi_lt hb]
  have e2 : sv S.1 S.2.1 acc = U.1 0 24 := by rw [h.2.1.2.2.2.1 acc (Nat.le_refl _), mi_acc]
  rw [← e2, ← h.2.1.1.2]
  exact sub_ok h b hb (by rw [e1, h.2.1.1.2]; exact hx)
theorem bal_m (h : Sm acc lm w S U) : ∀ b, b < acc → U.1 0 b < 2147483648 ^ lm := by
  intro b hb
  have e1 : sv S.1 S.2.1 b = U.1 0 b := by rw [h.2.1.2.2.2.1 b (by omega), mi_lt hb]
  rw [← e1]; exact sv_bal h.1 hb
end SIM
/-- what does not change while the law runs -/
def cCtx (p : Program) (l : Launch) (s : State) (m : MethodId) (c : Code) (b L : Nat) (xs : Nat → Int32) (D : va_G) (cI cB cO cZ cJ : ClassId) (sa acc lm rm : Nat) (ad g : Nat → Nat) (ao : Nat) : Prop :=
  p.tables.exec = Jvm.exec ∧ c.code = cL_law ∧ c.maxLocals = 7 ∧ s.vm.findClass RL = some m.cls ∧ (∀ w ∈ wsL_law, w.before #[Value.ref b] s = true) ∧ va_X b L xs s s.heap ∧ b < s.heap.size ∧ l.stackTraces = false ∧
  va_K D vwCl [(cI, .int), (cB, .byte), (cO, .object "BigLedger$Natural"), (cZ, .boolean), (cJ, .long)] s ∧ nst s ∧ thx sa s ∧ thz (fun q => s.heap.size ≤ q) s s.heap ∧ lOk ad acc lm ∧ mOk g ∧ (1 ≤ acc ∧ acc ≤ 24 ∧ 1 ≤ lm ∧ lm ≤ 20 ∧ rm ≤ 25) ∧
  ((∀ i, i < 6 * acc + 16 → s.heap.size ≤ ad i) ∧ (∀ j, j < 9 → s.heap.size ≤ g j) ∧ s.heap.size ≤ ao) ∧ (∀ i j, i < 6 * acc + 16 → j < 9 → ad i ≠ g j) ∧ (∀ i, i < 6 * acc + 16 → ad i ≠ ao) ∧ ∀ j, j < 9 → g j ≠ ao
abbrev oC (ao : Nat) (cJ : ClassId) (f : Nat → Int64) : va_W := [(ao, .inl (cJ, 1, .inr (.inl f)))]
/-- the two worlds, side by side -/
def cWld (D : va_G) (cI cB cO cZ cJ : ClassId) (acc lm rm : Nat) (ad g : Nat → Nat) (ao : Nat) (S : DS) (ob : Nat → Int32) (U : MS) (wk ou : Nat → Int32) (f : Nat → Int64) (w : Int32) (H : Heap) : Prop :=
  va_P D vwCl (lW ad cI cB cO acc lm rm S.1 S.2.1 S.2.2 ob) H ∧ va_P D vwCl (rW g cI cZ cB acc lm rm (mF U.1 U.2.1 U.2.2.1 wk ou) U.2.2.2) H ∧ va_P D vwCl (oC ao cJ f) H ∧ Sm acc lm w S U ∧ Ou lm w ob ou
/-- the goal behind a round -/
def cNext (p : Program) (l : Launch) (e : Env) (s : State) (m : MethodId) (b : Nat) (below : List Frame) (meth : Method) (c : Code) (D : va_G) (cI cB cO cZ cJ : ClassId) (acc lm rm : Nat) (ad g : Nat → Nat) (ao : Nat) (Q : State → Prop) (cells slots : Nat) (i : Nat) : Prop :=
  ∀ (S : DS) (ob : Nat → Int32) (U : MS) (wk ou : Nat → Int32) (f : Nat → Int64) (w : Int32) (H : Heap) (locs : List Loc) (ls : Array Slot), cWld D cI cB cO cZ cJ acc lm rm ad g ao S ob U wk ou f w H → va_S (fun q => s.heap.size ≤ q) s.heap H locs → lv_has ls 7 [(0, .ref b), (1, .ref (ad 0)), (2, .ref (g 0)), (3, .ref ao), (4, .int (nI i))] →
    W p l e room_1 s m #[Value.ref b] below meth c H locs (cells + 1) (slots + 6) Q (F0 m 664 ls [])
section KEEP
variable {D : va_G} {H H1 : Heap} {cI cB cO cZ cJ : ClassId} {acc lm rm : Nat} {ad g : Nat → Nat} {ao : Nat}
theorem keepM {F : Nat → Nat → Int32} {y : Nat → Int32} (hP : va_P D vwCl (rW g cI cZ cB acc lm rm F y) H) (hk : ∀ q : Nat, q < H.size → ¬ lA ad acc q → H1[q]? = H[q]?) (h : ∀ i j, i < 6 * acc + 16 → j < 9 → ad i ≠ g j) : va_P D vwCl (rW g cI cZ cB acc lm rm F y) H1 :=
  hP.kept (fun k q hq => hk _ (hP k q hq).lt (fun n => by
    obtain ⟨h9, rfl⟩ := wl_lt hq
    obtain ⟨i, hi, e⟩ := n
    exact h i k hi h9 e.symm))
theorem keepL {N : LN} {x : Nat → Nat} {z ob : Nat → Int32} (hP : va_P D vwCl (lW ad cI cB cO acc lm rm N x z ob) H) (hk : ∀ q : Nat, q < H.size → ¬ mA g q → H1[q]? = H[q]?) (h : ∀ i j, i < 6 * acc + 16 → j < 9 → ad i ≠ g j) : va_P D vwCl (lW ad cI cB cO acc lm rm N x z ob) H1 :=
  hP.kept (fun k q hq => hk _ (hP k q hq).lt (fun n => by
    obtain ⟨h9, rfl⟩ := wl_lt hq
    obtain ⟨j, hj, e⟩ := n
    exact h k j h9 hj e))
theorem oC_at {f : Nat → Int64} {k : Nat} {q : Nat × va_E} (h : (oC ao cJ f)[k]? = some q) : q.1 = ao := by
  match k, h with
  | 0, h => cases h; rfl
  | k + 1, h => simp [oC] at h
theorem keepOl {f : Nat → Int64} (hP : va_P D vwCl (oC ao cJ f) H) (hk : ∀ q : Nat, q < H.size → ¬ lA ad acc q → H1[q]? = H[q]?) (h : ∀ i, i < 6 * acc + 16 → ad i ≠ ao) : va_P D vwCl (oC ao cJ f) H1 :=
  hP.kept (fun k q hq => hk _ (hP k q hq).lt (fun n => by
    obtain ⟨i, hi, e⟩ := n
    exact h i hi (e.symm.trans (oC_at hq))))
theorem keepOm {f : Nat → Int64} (hP : va_P D vwCl (oC ao cJ f) H) (hk : ∀ q : Nat, q < H.size → ¬ mA g q → H1[q]? = H[q]?) (h : ∀ j, j < 9 → g j ≠ ao) : va_P D vwCl (oC ao cJ f) H1 :=
  hP.kept (fun k q hq => hk _ (hP k q hq).lt (fun n => by
    obtain ⟨i, hi, e⟩ := n
    exact h i hi (e.symm.trans (oC_at hq))))
theorem keepLo {N : LN} {x : Nat → Nat} {z ob : Nat → Int32} (hP : va_P D vwCl (lW ad cI cB cO acc lm rm N x z ob) H) (hk : ∀ q : Nat, q < H.size → ¬ q = ao → H1[q]? = H[q]?) (h : ∀ i, i < 6 * acc + 16 → ad i ≠ ao) : va_P D vwCl (lW ad cI cB cO acc lm rm N x z ob) H1 :=
  hP.kept (fun k q hq => hk _ (hP k q hq).lt (fun n => by
    obtain ⟨h9, rfl⟩ := wl_lt hq
    exact h k h9 n))
theorem keepMo {F : Nat → Nat → Int32} {y : Nat → Int32} (hP : va_P D vwCl (rW g cI cZ cB acc lm rm F y) H) (hk : ∀ q : Nat, q < H.size → ¬ q = ao → H1[q]? = H[q]?) (h : ∀ j, j < 9 → g j ≠ ao) : va_P D vwCl (rW g cI cZ cB acc lm rm F y) H1 :=
  hP.kept (fun k q hq => hk _ (hP k q hq).lt (fun n => by
    obtain ⟨h9, rfl⟩ := wl_lt hq
    exact h k h9 n))
theorem lA_in {P : Nat → Prop} (h : ∀ i, i < 6 * acc + 16 → P (ad i)) : ∀ q, lA ad acc q → P q := fun q ⟨i, hi, e⟩ => by rw [e]; exact h i hi
theorem mA_in {P : Nat → Prop} (h : ∀ j, j < 9 → P (g j)) : ∀ q, mA g q → P q := fun q ⟨i, hi, e⟩ => by rw [e]; exact h i hi
end KEEP

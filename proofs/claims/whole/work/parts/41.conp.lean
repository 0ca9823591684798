/-! making: one row of each kind has one number -/
theorem ka_eq {D : va_G} {cl : List vw_C} {tys : List (ClassId × FieldType)} {U : State} (h : va_K D cl tys U) {c1 c2 : ClassId} {ty : FieldType} (i j : Nat) (h1 : tys[i]? = some (c1, ty)) (h2 : tys[j]? = some (c2, ty)) : c2 = c1 := by
  have e1 := (h.2 i _ h1).2
  have e2 := (h.2 j _ h2).2
  cases ty with
  | object C =>
    obtain ⟨_, _, _, _, _, e1⟩ := e1
    obtain ⟨_, _, _, _, _, e2⟩ := e2
    exact Option.some.inj (e2.symm.trans e1)
  | _ => exact Option.some.inj (Eq.trans (Eq.symm e2) e1)
theorem wl_push {ad : Nat → Nat} {cel : Nat → va_E} {M q : Nat} {e : va_E} : wl ad cel M ++ [(q, e)] = wl (va_up ad M q) (va_up cel M e) (M + 1) := by
  unfold wl
  rw [List.range_succ, List.map_append, List.map_cons, List.map_nil, va_up_self, va_up_self]
  congr 1
  apply List.map_congr_left
  intro i hi
  have : i ≠ M := Nat.ne_of_lt (List.mem_range.mp hi)
  rw [va_up_ne _ _ this, va_up_ne _ _ this]
def wInj (ad : Nat → Nat) (M : Nat) : Prop := ∀ i j, i < M → j < M → ad i = ad j → i = j
theorem wInj_of {A : Nat → Prop} {ad : Nat → Nat} {cel : Nat → va_E} {M : Nat} (h : va_D A (wl ad cel M)) : wInj ad M := fun i j hi hj e => h.1 i j _ _ (wl_at hi) (wl_at hj) e
theorem wInj_D {A : Nat → Prop} {ad : Nat → Nat} {cel : Nat → va_E} {M : Nat} (h : wInj ad M) (hA : ∀ i, i < M → A (ad i)) : va_D A (wl ad cel M) := by
  refine ⟨fun i j p q hi hj hpq => ?_, fun k q hk => ?_⟩
  · obtain ⟨h1, rfl⟩ := wl_lt hi
    obtain ⟨h2, rfl⟩ := wl_lt hj
    exact h i j h1 h2 hpq
  · obtain ⟨h1, rfl⟩ := wl_lt hk
    exact hA k h1
theorem wP_at {D : va_G} {ad : Nat → Nat} {cel : Nat → va_E} {M : Nat} {H : Heap} (h : va_P D vwCl (wl ad cel M) H) {i : Nat} (hi : i < M) : va_at D vwCl (ad i, cel i) H := h i _ (wl_at hi)
theorem wP_mk {D : va_G} {ad : Nat → Nat} {cel : Nat → va_E} {M : Nat} {H : Heap} (h : ∀ i, i < M → va_at D vwCl (ad i, cel i) H) : va_P D vwCl (wl ad cel M) H := fun k q hk => by
  obtain ⟨h1, rfl⟩ := wl_lt hk
  exact h k h1
/-- a row of numbers, all 0: its own cell, then two cells a number -/
def nsC (ad : Nat → Nat) (cI cO : ClassId) (n w : Nat) : Nat → va_E
  | 0 => .inl (cO, n, .inr (.inr (.inr (.inr (fun b => some (ad (2 * b + 1)))))))
  | j + 1 => if j % 2 = 0 then .inr (1, [.ref (ad (j + 2)), .int (nI (szF 0 w))]) else .inl (cI, w, .inl (lb 0))
theorem nsC_o {ad : Nat → Nat} {cI cO : ClassId} {n w : Nat} (b : Nat) : nsC ad cI cO n w (2 * b + 1) = .inr (1, [.ref (ad (2 * b + 2)), .int (nI (szF 0 w))]) := by
  show (if (2 * b) % 2 = 0 then _ else _) = _
  rw [if_pos (by omega)]
theorem nsC_a {ad : Nat → Nat} {cI cO : ClassId} {n w : Nat} (b : Nat) : nsC ad cI cO n w (2 * b + 2) = .inl (cI, w, .inl (lb 0)) := by
  show (if (2 * b + 1) % 2 = 0 then _ else _) = _
  rw [if_neg (by omega)]
/-- the words that the makers need beside the tables' -/
def mkx (U : State) : Prop := va_AO RX1 U ∧ va_Nw (.methodLinkNest RX0 9 yX2_naturals RX2) U
theorem ao_warm {C : String} {s U : State} (hW : s.WarmedH U.vm) (h : va_AO C s) : va_AO C U := va_AO.moved hW.alike h
abbrev cT (cI cB cO : ClassId) : List (ClassId × FieldType) := [(cI, .int), (cB, .byte), (cO, .object "BigLedger$Natural")]
def aPc (av : List Value) (D : va_G) (ws : va_W) (tys : List (ClassId × FieldType)) (sz : Nat) : Array Value → State → Prop := va_Pc av (fun U => U.heap.size = sz ∧ va_P D vwCl ws U.heap ∧ va_K D vwCl tys U ∧ mkx U)
theorem mkx.warm {s U : State} (hW : s.WarmedH U.vm) (h : mkx s) : mkx U := ⟨ao_warm hW h.1, h.2.warmM hW⟩
theorem aPc_blind {av : List Value} {D : va_G} {ws : va_W} {tys : List (ClassId × FieldType)} {sz : Nat} : FrameBlind (aPc av D ws tys sz) := fun a U g mk q => by
  obtain ⟨q0, qz, qP, qK, qN⟩ := q
  exact ⟨q0, qz, qP, va_K.moved (u := U) (U := U.calling g mk a) (Vm.Alike.refl U.vm) qK, ⟨va_AO.moved (Vm.Alike.refl U.vm) qN.1, qN.2.same rfl rfl⟩⟩
theorem aPc_use {av : List Value} {D : va_G} {ws : va_W} {tys : List (ClassId × FieldType)} {H : Heap} {s : State} {sz : Nat} (hP : va_P D vwCl ws H) (hKN : H.size = sz ∧ va_K D vwCl tys s ∧ mkx s) : ∀ U : State, U.heap = H → s.WarmedH U.vm → aPc av D ws tys sz av.toArray U :=
  fun U hU hW => ⟨rfl, by rw [hU]; exact hKN.1, by rw [hU]; exact hP, va_K.moved hW.alike hKN.2.1, hKN.2.2.warm hW⟩
/-- a number's own cell and whatever is new -/
def oA (o sz : Nat) : Nat → Prop := fun q => q = o ∨ sz ≤ q
def within0 (p : Int32) (m : Int32) : Int32 := if (if m < p then m else p) < 1 then 1 else (if m < p then m else p)

/-! making: one row of each kind has one number -/
theorem ka_eq {D : va_G} {cl : List vw_C} {tys : List (ClassId × FieldType)} {U : State} (h : va_K D cl tys U) {c1 c2 : ClassId} {ty : FieldType} (i j : Nat) (h1 : tys[i]? = some (c1, ty)) (h2 : tys[j]? = some (c2, ty)) : c2 = c1 := by
  have e1 := (h.2 i _ h1).2
  have e2 := (h.2 j _ h2).2
  cases ty with
  | object C =>
    obtain ⟨_, _, _, _, _, e1⟩ := e1
    obtain ⟨_, _, _, _, _, e2⟩ := e2
    exact Option.some.inj (e2.symm.trans e1)
  | _ => exact Option.some.inj (Eq.trans (Eq.symm e2) e1)
theorem wl_push {ad : Nat → Nat} {cel : Nat → va_E} {M q : Nat} {e : va_E} : wl ad cel M ++ [(q, e)] = wl (va_up ad M q) (va_up cel M e) (M + 1) := by
  unfold wl
  rw [List.range_succ, List.map_append, List.map_cons, List.map_nil, va_up_self, va_up_self]
  congr 1
  apply List.map_congr_left
  intro i hi
  have : i ≠ M := Nat.ne_of_lt (List.mem_range.mp hi)
  rw [va_up_ne _ _ this, va_up_ne _ _ this]
def wInj (ad : Nat → Nat) (M : Nat) : Prop := ∀ i j, i < M → j < M → ad i = ad j → i = j
theorem wInj_of {A : Nat → Prop} {ad : Nat → Nat} {cel : Nat → va_E} {M : Nat} (h : va_D A (wl ad cel M)) : wInj ad M := fun i j hi hj e => h.1 i j _ _ (wl_at hi) (wl_at hj) e
theorem wInj_D {A : Nat → Prop} {ad : Nat → Nat} {cel : Nat → va_E} {M : Nat} (h : wInj ad M) (hA : ∀ i, i < M → A (ad i)) : va_D A (wl ad cel M) := by
  refine ⟨fun i j p q hi hj hpq => ?_, fun k q hk => ?_⟩
  · obtain ⟨h1, rfl⟩ := wl_lt hi
    obtain ⟨h2, rfl⟩ := wl_lt hj
    exact h i j h1 h2 hpq
  · obtain ⟨h1, rfl⟩ := wl_lt hk
    exact hA k h1
theorem wP_at {D : va_G} {ad : Nat → Nat} {cel : Nat → va_E} {M : Nat} {H : Heap} (h : va_P D vwCl (wl ad cel M) H) {i : Nat} (hi : i < M) : va_at D vwCl (ad i, cel i) H := h i _ (wl_at hi)
theorem wP_mk {D : va_G} {ad : Nat → Nat} {cel : Nat → va_E} {M : Nat} {H : Heap} (h : ∀ i, i < M → va_at D vwCl (ad i, cel i) H) : va_P D vwCl (wl ad cel M) H := fun k q hk => by
  obtain ⟨h1, rfl⟩ := wl_lt hk
  exact h k h1
/-- a row of numbers, all 0: its own cell, then two cells a number -/
def nsC (ad : Nat → Nat) (cI cO : ClassId) (n w : Nat) : Nat → va_E
  | 0 => .inl (cO, n, .inr (.inr (.inr (.inr (fun b => some (ad (2 * b + 1)))))))
  | j + 1 => if j % 2 = 0 then .inr (1, [.ref (ad (j + 2)), .int (nI (szF 0 w))]) else .inl (cI, w, .inl (lb 0))
theorem nsC_o {ad : Nat → Nat} {cI cO : ClassId} {n w : Nat} (b : Nat) : nsC ad cI cO n w (2 * b + 1) = .inr (1, [.ref (ad (2 * b + 2)), .int (nI (szF 0 w))]) := by
  show (if (2 * b) % 2 = 0 then _ else _) = _
  rw [if_pos (by omega)]
theorem nsC_a {ad : Nat → Nat} {cI cO : ClassId} {n w : Nat} (b : Nat) : nsC ad cI cO n w (2 * b + 2) = .inl (cI, w, .inl (lb 0)) := by
  show (if (2 * b + 1) % 2 = 0 then _ else _) = _
  rw [if_neg (by omega)]
/-- the words that the makers need beside the tables' -/
def mkx (U : State) : Prop := va_AO RX1 U ∧ va_Nw (.methodLinkNest RX0 9 yX2_naturals RX2) U
theorem ao_warm {C : String} {s U : State} (hW : s.WarmedH U.vm) (h : va_AO C s) : va_AO C U := va_AO.moved hW.alike h
abbrev cT (cI cB cO : ClassId) : List (ClassId × FieldType) := [(cI, .int), (cB, .byte), (cO, .object "BigLedger$Natural")]
def aPc (av : List Value) (D : va_G) (ws : va_W) (tys : List (ClassId × FieldType)) (sz : Nat) : Array Value → State → Prop := va_Pc av (fun U => U.heap.size = sz ∧ va_P D vwCl ws U.heap ∧ va_K D vwCl tys U ∧ mkx U)
theorem mkx.warm {s U : State} (hW : s.WarmedH U.vm) (h : mkx s) : mkx U := ⟨ao_warm hW h.1, h.2.warmM hW⟩
theorem aPc_blind {av : List Value} {D : va_G} {ws : va_W} {tys : List (ClassId × FieldType)} {sz : Nat} : FrameBlind (aPc av D ws tys sz) := fun a U g mk q => by
  obtain ⟨q0, qz, qP, qK, qN⟩ := q
  exact ⟨q0, qz, qP, va_K.moved (u := U) (U := U.calling g mk a) (Vm.Alike.refl U.vm) qK, ⟨va_AO.moved (Vm.Alike.refl U.vm) qN.1, qN.2.same rfl rfl⟩⟩
theorem aPc_use {av : List Value} {D : va_G} {ws : va_W} {tys : List (ClassId × FieldType)} {H : Heap} {s : State} {sz : Nat} (hP : va_P D vwCl ws H) (hKN : H.size = sz ∧ va_K D vwCl tys s ∧ mkx s) : ∀ U : State, U.heap = H → s.WarmedH U.vm → aPc av D ws tys sz av.toArray U :=
  fun U hU hW => ⟨rfl, by rw [hU]; exact hKN.1, by rw [hU]; exact hP, va_K.moved hW.alike hKN.2.1, hKN.2.2.warm hW⟩
/-- a number's own cell and whatever is new -/
def oA (o sz : Nat) : Nat → Prop := fun q => q = o ∨ sz ≤ q
def within0 (p : Int32) (m : Int32) : Int32 := if (if m < p then m else p) < 1 then 1 else (if m < p then m else p)
theorem atq_congr {D : va_G} {cl : List vw_C} {a : Nat} {cA : ClassId} {n : Nat} {f h : Nat → Option Nat} {H : Heap} (hP : va_at D cl (a, .inl (cA, n, .inr (.inr (.inr (.inr f))))) H) (e : ∀ k, k < n → f k = h k) : va_at D cl (a, .inl (cA, n, .inr (.inr (.inr (.inr h))))) H := by
  have h1 : vp_cell cA (n, .inr (.inr (.inr (.inr f)))) = vp_cell cA (n, .inr (.inr (.inr (.inr h)))) := by
    rw [vp_cell_q, vp_cell_q]
    unfold arrV
    congr 1
    apply Array.ext
    · simp
    · intro i h1 h2
      simp only [Array.size_ofFn] at h1
      simp only [Array.getElem_ofFn]
      rw [e i h1]
  show H[a]? = some (vp_cell cA _)
  rw [← h1]
  exact hP
theorem mm_within (p m : Int32) : (if (1 : Int32) < (if m < p then m else p) then (if m < p then m else p) else 1) = within0 p m := by
  unfold within0
  generalize (if m < p then m else p) = q
  by_cases h1 : (1 : Int32) < q
  · rw [if_pos h1, if_neg (fa_of_lt h1).2.2.1]
  · rw [if_neg h1]
    by_cases h2 : q < 1
    · rw [if_pos h2]
    · rw [if_neg h2]
      rcases fa_three 1 q with h3 | h3 | h3
      · exact absurd h3 h1
      · exact h3
      · exact absurd h3 h2
def nsI (ad : Nat → Nat) (cI cO : ClassId) (n w i : Nat) : Nat → va_E := fun j => if j = 0 then .inl (cO, n, .inr (.inr (.inr (.inr (fun b => if b < i then some (ad (2 * b + 1)) else none))))) else nsC ad cI cO n w j
theorem nsI_up {ad ad2 : Nat → Nat} {cI cO : ClassId} {n w i j : Nat} (h : ∀ k, k < 2 * i + 1 → ad2 k = ad k) (hj : j < 2 * i + 1) : nsI ad2 cI cO n w i j = nsI ad cI cO n w i j := by
  unfold nsI
  by_cases h0 : j = 0
  · rw [if_pos h0, if_pos h0]
    congr 7
    funext b
    by_cases hb : b < i
    · rw [if_pos hb, if_pos hb, h _ (by omega)]
    · rw [if_neg hb, if_neg hb]
  · rw [if_neg h0, if_neg h0]
    obtain ⟨k, rfl⟩ : ∃ k, j = k + 1 := ⟨j - 1, by omega⟩
    show (if k % 2 = 0 then _ else _) = (if k % 2 = 0 then _ else _)
    by_cases hk : k % 2 = 0
    · rw [if_pos hk, if_pos hk, h _ (by omega)]
    · rw [if_neg hk, if_neg hk]
theorem ns_grow {D : va_G} {ad : Nat → Nat} {cI cO : ClassId} {n w i qo aa sz : Nat} {e0 : va_E} {H H1 : Heap} (hP : va_P D vwCl (wl ad (nsI ad cI cO n w i) (2 * i + 1) ++ [(qo, e0)]) H) (hD : va_D (fun q => sz ≤ q) (wl ad (nsI ad cI cO n w i) (2 * i + 1) ++ [(qo, e0)])) (h1 : H.size ≤ aa) (hk : ∀ q : Nat, q < H.size → ¬ oA qo H.size q → H1[q]? = H[q]?) (hB : va_P D vwCl (nW cI w qo aa 0) H1) (hsz : sz ≤ H.size) :
    ∃ ad2 : Nat → Nat, ad2 0 = ad 0 ∧ ad2 (2 * i + 1) = qo ∧ va_P D vwCl (wl ad2 (nsI ad2 cI cO n w i) (2 * i + 3)) H1 ∧ va_D (fun q => sz ≤ q) (wl ad2 (nsI ad2 cI cO n w i) (2 * i + 3)) := by
  rw [wl_push] at hP hD
  have hlt : ∀ j, j < 2 * i + 2 → va_up ad (2 * i + 1) qo j < H.size := fun j hj => (wP_at hP hj).lt
  have hinj := wInj_of hD
  have hqo : qo < H.size := by have := hlt (2 * i + 1) (by omega); rwa [va_up_self] at this
  refine ⟨va_up (va_up ad (2 * i + 1) qo) (2 * i + 2) aa, ?_, ?_, ?_, ?_⟩
  · rw [va_up_ne _ _ (by omega), va_up_ne _ _ (by omega)]
  · rw [va_up_ne _ _ (by omega), va_up_self]
  · refine wP_mk (fun j hj => ?_)
    by_cases e1 : j = 2 * i + 1
    · subst e1
      rw [va_up_ne _ _ (by omega), va_up_self]
      have e2 : nsI (va_up (va_up ad (2 * i + 1) qo) (2 * i + 2) aa) cI cO n w i (2 * i + 1) = .inr (1, [.ref aa, .int (nI (szF 0 w))]) := by
        unfold nsI
        rw [if_neg (by omega), nsC_o, va_up_self]
      rw [e2]
      exact hB 0 _ rfl
    · by_cases e2 : j = 2 * i + 2
      · subst e2
        rw [va_up_self]
        have e3 : nsI (va_up (va_up ad (2 * i + 1) qo) (2 * i + 2) aa) cI cO n w i (2 * i + 2) = .inl (cI, w, .inl (lb 0)) := by
          unfold nsI
          rw [if_neg (by omega), nsC_a]
        rw [e3]
        exact hB 1 _ rfl
      · have hj2 : j < 2 * i + 1 := by omega
        rw [nsI_up (ad := ad) (fun k hk => by rw [va_up_ne _ _ (by omega), va_up_ne _ _ (by omega)]) hj2, va_up_ne _ _ e2, va_up_ne _ _ e1]
        have h3 := wP_at hP (i := j) (by omega)
        rw [va_up_ne _ _ e1, va_up_ne _ _ e1] at h3
        refine h3.kept (hk _ h3.lt (fun q => ?_))
        rcases q with q | q
        · have := hinj j (2 * i + 1) (by omega) (by omega) (by rw [va_up_ne _ _ e1, va_up_self]; exact q)
          omega
        · have := h3.lt
          simp only at q this
          omega
  · have key : ∀ j, j < 2 * i + 2 → va_up (va_up ad (2 * i + 1) qo) (2 * i + 2) aa j = va_up ad (2 * i + 1) qo j := fun j hj => va_up_ne _ _ (by omega)
    refine wInj_D (fun j k hj hk' e => ?_) (fun j hj => ?_)
    · by_cases e1 : j = 2 * i + 2
      · by_cases e2 : k = 2 * i + 2
        · omega
        · rw [e1, va_up_self, key k (by omega)] at e
          have := hlt k (by omega)
          omega
      · by_cases e2 : k = 2 * i + 2
        · rw [e2, va_up_self, key j (by omega)] at e
          have := hlt j (by omega)
          omega
        · rw [key j (by omega), key k (by omega)] at e
          exact hinj j k (by omega) (by omega) e
    · by_cases e1 : j = 2 * i + 2
      · rw [e1, va_up_self]; show sz ≤ aa; omega
      · rw [key j (by omega)]
        exact hD.2 j _ (wl_at (by omega))
theorem nsI_s {ad : Nat → Nat} {cI cO : ClassId} {n w i M : Nat} (hM : 0 < M) : (wl ad (nsI ad cI cO n w i) M).set 0 (ad 0, .inl (cO, n, .inr (.inr (.inr (.inr (va_up (fun b => if b < i then some (ad (2 * b + 1)) else none) i (some (ad (2 * i + 1))))))))) = wl ad (nsI ad cI cO n w (i + 1)) M := by
  rw [wl_set _ hM]
  congr 1
  funext j
  unfold nsI
  by_cases h : j = 0
  · subst h
    rw [va_up_self, if_pos rfl]
    congr 7
    funext b
    by_cases hb : b = i
    · subst hb; rw [va_up_self, if_pos (by omega)]
    · rw [va_up_ne _ _ hb]
      by_cases hb2 : b < i
      · rw [if_pos hb2, if_pos (by omega)]
      · rw [if_neg hb2, if_neg (by omega)]
  · rw [va_up_ne _ _ h, if_neg h, if_neg h]
theorem nsI_at {ad : Nat → Nat} {cI cO : ClassId} {n w i M : Nat} (hM : 2 * i + 1 < M) : (wl ad (nsI ad cI cO n w i) M)[2 * i + 1]? = some (ad (2 * i + 1), .inr (1, [.ref (ad (2 * i + 2)), .int (nI (szF 0 w))])) := by
  rw [wl_at hM]
  unfold nsI
  rw [if_neg (by omega), nsC_o]
theorem ap_last {ad : Nat → Nat} {cel : Nat → va_E} {M : Nat} {x : Nat × va_E} : (wl ad cel M ++ [x])[M]? = some x := by
  rw [List.getElem?_append_right (by simp [wl]), show M - (wl ad cel M).length = 0 by simp [wl]]
  rfl
theorem by_i {w : Nat} (h : w ≤ 600) : w * componentBytes .int ≤ 536870912 := by
  have e : componentBytes FieldType.int = 4 := rfl
  rw [e]
  omega
theorem by_b {w : Nat} (h : w ≤ 600) : w * componentBytes .byte ≤ 536870912 := by
  have e : componentBytes FieldType.byte = 1 := rfl
  rw [e]
  omega
theorem by_z {w : Nat} (h : w ≤ 600) : w * componentBytes .boolean ≤ 536870912 := by
  have e : componentBytes FieldType.boolean = 1 := rfl
  rw [e]
  omega
theorem by_l {w : Nat} (h : w ≤ 600) : w * componentBytes .long ≤ 536870912 := by
  have e : componentBytes FieldType.long = 8 := rfl
  rw [e]
  omega
theorem nw_i (w : Nat) : ∀ cA : ClassId, vp_cell cA (w, .inl (fun _ => 0)) = arrV cA w (fun _ => defaultValue .int) := fun _ => rfl
theorem nw_b (w : Nat) : ∀ cA : ClassId, vp_cell cA (w, .inl (fun _ => 0)) = arrV cA w (fun _ => defaultValue .byte) := fun _ => rfl
theorem nw_z (w : Nat) : ∀ cA : ClassId, vp_cell cA (w, .inl (fun _ => 0)) = arrV cA w (fun _ => defaultValue .boolean) := fun _ => rfl
theorem nw_l (w : Nat) : ∀ cA : ClassId, vp_cell cA (w, .inr (.inl (fun _ => 0))) = arrV cA w (fun _ => defaultValue .long) := fun _ => rfl

/-! worlds as plain lists: premises, read-only cells, rows that agree -/
theorem ro_keep {A : Nat → Prop} {H0 H : Heap} {locs : List Loc} {D : va_G} {cl : List vw_C} {ws : va_W} (hS : va_S A H0 H locs) (hP : va_P D cl ws H0) (hn : ∀ q ∈ ws, ¬ A q.1) : va_P D cl ws H :=
  hP.kept (fun k q hk => hS.2.1 q.1 ((hP k q hk).lt) (hn q (List.mem_of_getElem? hk)))
theorem ro_kept {D : va_G} {cl : List vw_C} {ws : va_W} {H H1 : Heap} {A1 : Nat → Prop} (hP : va_P D cl ws H) (hk : ∀ q : Nat, q < H.size → ¬ A1 q → H1[q]? = H[q]?) (hn : ∀ q ∈ ws, ¬ A1 q.1) : va_P D cl ws H1 :=
  hP.kept (fun k q hq => hk q.1 ((hP k q hq).lt) (hn q (List.mem_of_getElem? hq)))
def nPc (av : List Value) (D : va_G) (ws : va_W) (tys : List (ClassId × FieldType)) : Array Value → State → Prop := va_Pc av (fun U => va_P D vwCl ws U.heap ∧ va_K D vwCl tys U)
theorem nPc_blind {av : List Value} {D : va_G} {ws : va_W} {tys : List (ClassId × FieldType)} : FrameBlind (nPc av D ws tys) := fun a U g mk q => by
  obtain ⟨q0, qP, qK⟩ := q
  exact ⟨q0, qP, va_K.moved (u := U) (U := U.calling g mk a) (Vm.Alike.refl U.vm) qK⟩
theorem nPc_use {av : List Value} {D : va_G} {ws : va_W} {tys : List (ClassId × FieldType)} {H : Heap} {s : State} (hP : va_P D vwCl ws H) (hK : va_K D vwCl tys s) : ∀ U : State, U.heap = H → s.WarmedH U.vm → nPc av D ws tys av.toArray U :=
  fun U hU hW => ⟨rfl, by rw [hU]; exact hP, va_K.moved hW.alike hK⟩
theorem arr_congr {cA : ClassId} {n : Nat} {f g : Nat → Int32} (h : ∀ k, k < n → f k = g k) : vp_cell cA (n, .inl f) = vp_cell cA (n, .inl g) := by
  rw [vp_cell_i, vp_cell_i]
  unfold arrV
  congr 1
  apply Array.ext
  · simp
  · intro i h1 h2
    simp only [Array.size_ofFn] at h1
    simp only [Array.getElem_ofFn]
    rw [h i h1]
theorem at_congr {D : va_G} {cl : List vw_C} {a : Nat} {cA : ClassId} {n : Nat} {f g : Nat → Int32} {H : Heap} (hP : va_at D cl (a, .inl (cA, n, .inl f)) H) (h : ∀ k, k < n → f k = g k) : va_at D cl (a, .inl (cA, n, .inl g)) H := by
  show H[a]? = some (vp_cell cA (n, .inl g))
  rw [← arr_congr h]
  exact hP
theorem vp_nil {D : va_G} {cl : List vw_C} {H : Heap} : va_P D cl [] H := fun k q h => by simp at h
theorem vp_cons {D : va_G} {cl : List vw_C} {q : Nat × va_E} {ws : va_W} {H : Heap} (h : va_at D cl q H) (hs : va_P D cl ws H) : va_P D cl (q :: ws) H := by
  intro k x hk
  cases k with
  | zero => cases hk; exact h
  | succ k => exact hs k x hk
theorem vd_one {A : Nat → Prop} {o : Nat} {e : va_E} (h : A o) : va_D A [(o, e)] := by
  refine ⟨fun i j p q hi hj _ => ?_, fun k q hk => ?_⟩
  · have h1 := (List.getElem?_eq_some_iff.mp hi).1
    have h2 := (List.getElem?_eq_some_iff.mp hj).1
    simp at h1 h2
    omega
  · have h1 := (List.getElem?_eq_some_iff.mp hk).1
    simp at h1
    subst h1
    cases hk
    exact h
theorem vd_two {A : Nat → Prop} {o a : Nat} {e f : va_E} (h : A o) (h2 : A a) (hn : o ≠ a) : va_D A [(o, e), (a, f)] := by
  refine ⟨fun i j p q hi hj hpq => ?_, fun k q hk => ?_⟩
  · match i, j, hi, hj with
    | 0, 0, _, _ => rfl
    | 1, 1, _, _ => rfl
    | 0, 1, hi, hj => cases hi; cases hj; exact absurd hpq hn
    | 1, 0, hi, hj => cases hi; cases hj; exact absurd hpq.symm hn
    | i + 2, _, hi, _ => simp at hi
    | 0, j + 2, _, hj => simp at hj
    | 1, j + 2, _, hj => simp at hj
  · match k, hk with
    | 0, hk => cases hk; exact h
    | 1, hk => cases hk; exact h2
    | k + 2, hk => simp at hk
/-- the two cells of a number -/
def nAd (o a : Nat) : Nat → Prop := fun q => q = o ∨ q = a
abbrev nW (cI : ClassId) (w o a v : Nat) : va_W := [(o, .inr (1, [.ref a, .int (nI (szF v w))])), (a, .inl (cI, w, .inl (lb v)))]
theorem nI_le0 {k : Nat} (h : k < 2 ^ 31) : nI k ≤ 0 ↔ k = 0 := by
  constructor
  · intro h1
    rcases Nat.eq_zero_or_pos k with q | q
    · exact q
    · exact absurd h1 (nI_nle q h)
  · intro h1
    subst h1
    exact nI_pos' (by decide)
theorem nI_eq0 {k : Nat} (h : k < 2 ^ 31) : nI k = 0 ↔ k = 0 := by
  rw [← nI_0]; exact nI_eq h (by decide)
theorem nI_of_nonneg {x : Int32} (h : ¬ x < 0) : x = nI x.toNatClampNeg ∧ x.toNatClampNeg < 2 ^ 31 := by
  obtain ⟨j, hj, rfl⟩ := nI_of h
  rw [nI_clamp hj]
  exact ⟨rfl, hj⟩
theorem lb_clamp {v k : Nat} (h : k < 2 ^ 31) : lb v (nI k).toNatClampNeg = lb v k := by rw [nI_clamp h]
theorem hp_at {D : va_G} {cl : List vw_C} {ws : va_W} {t : State} {H : Heap} (ht : t.heap = H) (h : va_P D cl ws H) : va_P D cl ws t.heap := by rw [ht]; exact h
theorem lb_eq0 {v k : Nat} : lb v k = 0 ↔ lbN v k = 0 := nI_eq0 (lbN_lt' v k)
theorem sup_end : True := trivial

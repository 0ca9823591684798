/-! the ledger's world: cells at the addresses ad 0, ad 1 .. : 0 ledger, 1 disk, 2 pending, 3 home, 4 log (rows of numbers), 5 out, 6 7 amount, 8 9 scratch, then for block b: 6b+10 11 pending, 6b+12 13 home, 6b+14 15 log -/
def wl (ad : Nat → Nat) (cel : Nat → va_E) (M : Nat) : va_W := (List.range M).map (fun i => (ad i, cel i))
theorem wl_at {ad : Nat → Nat} {cel : Nat → va_E} {M i : Nat} (h : i < M) : (wl ad cel M)[i]? = some (ad i, cel i) := by
  unfold wl
  rw [List.getElem?_map, List.getElem?_range h]
  rfl
theorem wl_lt {ad : Nat → Nat} {cel : Nat → va_E} {M k : Nat} {q : Nat × va_E} (h : (wl ad cel M)[k]? = some q) : k < M ∧ q = (ad k, cel k) := by
  have h1 := (List.getElem?_eq_some_iff.mp h).1
  have h2 : k < M := by simpa [wl] using h1
  rw [wl_at h2] at h
  exact ⟨h2, (Option.some.inj h).symm⟩
theorem wl_set {ad : Nat → Nat} {cel : Nat → va_E} {M i : Nat} (e : va_E) (h : i < M) : (wl ad cel M).set i (ad i, e) = wl ad (va_up cel i e) M := by
  apply List.ext_getElem?
  intro j
  by_cases hj : j = i
  · subst hj
    rw [List.getElem?_set_self (by simpa [wl] using h), wl_at h, va_up_self]
  · rw [List.getElem?_set_ne (Ne.symm hj)]
    by_cases hm : j < M
    · rw [wl_at hm, wl_at hm, va_up_ne _ _ hj]
    · rw [List.getElem?_eq_none (by simp [wl]; omega), List.getElem?_eq_none (by simp [wl]; omega)]
def lCel (ad : Nat → Nat) (cI cB cO : ClassId) (acc lm rm : Nat) (N : Nat → Nat → Nat) (x : Nat → Nat) (z ob : Nat → Int32) : Nat → va_E
  | 0 => .inr (2, [.int (nI acc), .int (nI lm), .int (nI rm), .ref (ad 1), .ref (ad 2), .int (nI (x 2)), .ref (ad 6), .int (z 0), .ref (ad 8), .ref (ad 5), .int (z 4)])
  | 1 => .inr (0, [.ref (ad 3), .ref (ad 4), .int (nI (x 3)), .int (z 1), .int (z 2), .int (z 3)])
  | 2 => .inl (cO, acc + 1, .inr (.inr (.inr (.inr (fun b => some (ad (6 * b + 10)))))))
  | 3 => .inl (cO, acc + 1, .inr (.inr (.inr (.inr (fun b => some (ad (6 * b + 12)))))))
  | 4 => .inl (cO, acc + 1, .inr (.inr (.inr (.inr (fun b => some (ad (6 * b + 14)))))))
  | 5 => .inl (cB, lm * 10, .inl ob)
  | 6 => .inr (1, [.ref (ad 7), .int (nI (szF (x 0) (lm + 1)))])
  | 7 => .inl (cI, lm + 1, .inl (lb (x 0)))
  | 8 => .inr (1, [.ref (ad 9), .int (nI (szF (x 1) (lm + 1)))])
  | 9 => .inl (cI, lm + 1, .inl (lb (x 1)))
  | j + 10 => if j % 2 = 0 then .inr (1, [.ref (ad (j + 11)), .int (nI (szF (N (j % 6 / 2) (j / 6)) (lm + 1)))]) else .inl (cI, lm + 1, .inl (lb (N (j % 6 / 2) (j / 6))))
abbrev lW (ad : Nat → Nat) (cI cB cO : ClassId) (acc lm rm : Nat) (N : Nat → Nat → Nat) (x : Nat → Nat) (z ob : Nat → Int32) : va_W := wl ad (lCel ad cI cB cO acc lm rm N x z ob) (6 * acc + 16)
def lOk (ad : Nat → Nat) (acc lm : Nat) : Prop := (∀ i j, i < 6 * acc + 16 → j < 6 * acc + 16 → ad i = ad j → i = j) ∧ acc ≤ 24 ∧ 1 ≤ lm ∧ lm ≤ 20
def lA (ad : Nat → Nat) (acc : Nat) : Nat → Prop := fun q => ∃ i, i < 6 * acc + 16 ∧ q = ad i
def nst (U : State) : Prop := va_Nw (.fieldLinkNest RX2 143 RX0 "writesUntilStop" "I" RX2) U ∧ va_Nw (.fieldLinkNest RX2 146 RX0 "formatted" "Z" RX2) U ∧ va_Nw (.fieldLinkNest RX2 162 RX0 "writesDone" "I" RX2) U ∧ va_Nw (.fieldLinkNest RX2 173 RX0 "home" "[LBigLedger$Natural;" RX2) U ∧ va_Nw (.fieldLinkNest RX2 75 RX1 "size" "I" RX2) U ∧ va_Nw (.methodLinkNest RX0 58 yX2_has RX2) U
theorem nst.warm {s U : State} (hW : s.WarmedH U.vm) (h : nst s) : nst U := ⟨h.1.warmF hW, h.2.1.warmF hW, h.2.2.1.warmF hW, h.2.2.2.1.warmF hW, h.2.2.2.2.1.warmF hW, h.2.2.2.2.2.warmM hW⟩
theorem nst.same {s U : State} (hW : s.vm = U.vm) (h : nst s) : nst U := ⟨h.1.same rfl hW, h.2.1.same rfl hW, h.2.2.1.same rfl hW, h.2.2.2.1.same rfl hW, h.2.2.2.2.1.same rfl hW, h.2.2.2.2.2.same rfl hW⟩
abbrev lT (cI cB cO : ClassId) : List (ClassId × FieldType) := [(cI, .int), (cB, .byte), (cO, .object "BigLedger$Natural")]
def lPc (av : List Value) (D : va_G) (ws : va_W) (tys : List (ClassId × FieldType)) : Array Value → State → Prop := va_Pc av (fun U => va_P D vwCl ws U.heap ∧ va_K D vwCl tys U ∧ nst U)
theorem lPc_blind {av : List Value} {D : va_G} {ws : va_W} {tys : List (ClassId × FieldType)} : FrameBlind (lPc av D ws tys) := fun a U g mk q => by
  obtain ⟨q0, qP, qK, qN⟩ := q
  exact ⟨q0, qP, va_K.moved (u := U) (U := U.calling g mk a) (Vm.Alike.refl U.vm) qK, qN.same rfl⟩
theorem lPc_use {av : List Value} {D : va_G} {ws : va_W} {tys : List (ClassId × FieldType)} {H : Heap} {s : State} (hP : va_P D vwCl ws H) (hKN : va_K D vwCl tys s ∧ nst s) : ∀ U : State, U.heap = H → s.WarmedH U.vm → lPc av D ws tys av.toArray U :=
  fun U hU hW => ⟨rfl, by rw [hU]; exact hP, va_K.moved hW.alike hKN.1, hKN.2.warm hW⟩
theorem cv {D : va_G} {ws ws' : va_W} {H : Heap} (h : ws = ws') (hP : va_P D vwCl ws H) : va_P D vwCl ws' H := h ▸ hP
theorem wlD {ad : Nat → Nat} {cel : Nat → va_E} {acc lm : Nat} (hok : lOk ad acc lm) : va_D (lA ad acc) (wl ad cel (6 * acc + 16)) := by
  refine ⟨fun i j p q hi hj hpq => ?_, fun k q hk => ?_⟩
  · obtain ⟨h1, rfl⟩ := wl_lt hi
    obtain ⟨h2, rfl⟩ := wl_lt hj
    exact hok.1 i j h1 h2 hpq
  · obtain ⟨h1, rfl⟩ := wl_lt hk
    exact ⟨k, h1, rfl⟩
section LW
variable {ad : Nat → Nat} {cI cB cO : ClassId} {acc lm rm : Nat} {N : Nat → Nat → Nat} {x : Nat → Nat} {z ob : Nat → Int32}
theorem lCel_o (k b : Nat) (hk : k < 3) : lCel ad cI cB cO acc lm rm N x z ob (6 * b + 2 * k + 10) = .inr (1, [.ref (ad (6 * b + 2 * k + 11)), .int (nI (szF (N k b) (lm + 1)))]) := by
  show (if (6 * b + 2 * k) % 2 = 0 then _ else _) = _
  rw [if_pos (by omega), show (6 * b + 2 * k) % 6 / 2 = k by omega, show (6 * b + 2 * k) / 6 = b by omega]
theorem lCel_a (k b : Nat) (hk : k < 3) : lCel ad cI cB cO acc lm rm N x z ob (6 * b + 2 * k + 11) = .inl (cI, lm + 1, .inl (lb (N k b))) := by
  show (if (6 * b + 2 * k + 1) % 2 = 0 then _ else _) = _
  rw [if_neg (by omega), show (6 * b + 2 * k + 1) % 6 / 2 = k by omega, show (6 * b + 2 * k + 1) / 6 = b by omega]
theorem lCel_other (k b v : Nat) (hk : k < 3) (j : Nat) (h1 : j ≠ 6 * b + 2 * k + 10) (h2 : j ≠ 6 * b + 2 * k + 11) : lCel ad cI cB cO acc lm rm (va_up N k (va_up (N k) b v)) x z ob j = lCel ad cI cB cO acc lm rm N x z ob j := by
  match j with
  | 0 | 1 | 2 | 3 | 4 | 5 | 6 | 7 | 8 | 9 => rfl
  | j + 10 =>
    have e : va_up N k (va_up (N k) b v) (j % 6 / 2) (j / 6) = N (j % 6 / 2) (j / 6) := by
      by_cases h3 : j % 6 / 2 = k
      · rw [h3, va_up_self]
        by_cases h4 : j / 6 = b
        · omega
        · rw [va_up_ne _ _ h4]
      · rw [va_up_ne _ _ h3]
    show (if j % 2 = 0 then _ else _) = (if j % 2 = 0 then _ else _)
    rw [e]
/-- a number's two cells -/
theorem ln_p {D : va_G} {H : Heap} (hP : va_P D vwCl (lW ad cI cB cO acc lm rm N x z ob) H) (k b : Nat) (hk : k < 3) (hb : b ≤ acc) : va_P D vwCl (nW cI (lm + 1) (ad (6 * b + 2 * k + 10)) (ad (6 * b + 2 * k + 11)) (N k b)) H := by
  refine vp_cons ?_ (vp_cons ?_ vp_nil)
  · have := hP _ _ (wl_at (i := 6 * b + 2 * k + 10) (by omega))
    rwa [lCel_o k b hk] at this
  · have := hP _ _ (wl_at (i := 6 * b + 2 * k + 11) (by omega))
    rwa [lCel_a k b hk] at this
theorem ln_am {D : va_G} {H : Heap} (hP : va_P D vwCl (lW ad cI cB cO acc lm rm N x z ob) H) : va_P D vwCl (nW cI (lm + 1) (ad 6) (ad 7) (x 0)) H :=
  vp_cons (hP _ _ (wl_at (i := 6) (by omega))) (vp_cons (hP _ _ (wl_at (i := 7) (by omega))) vp_nil)
theorem ln_sc {D : va_G} {H : Heap} (hP : va_P D vwCl (lW ad cI cB cO acc lm rm N x z ob) H) : va_P D vwCl (nW cI (lm + 1) (ad 8) (ad 9) (x 1)) H :=
  vp_cons (hP _ _ (wl_at (i := 8) (by omega))) (vp_cons (hP _ _ (wl_at (i := 9) (by omega))) vp_nil)
theorem lA_n {i q : Nat} (hi : i + 1 < 6 * acc + 16) (h : nAd (ad i) (ad (i + 1)) q) : lA ad acc q := by
  rcases h with rfl | rfl
  · exact ⟨i, by omega, rfl⟩
  · exact ⟨i + 1, hi, rfl⟩
theorem ln_ne {i j : Nat} (hok : lOk ad acc lm) (hi : i + 1 < 6 * acc + 16) (hj : j < 6 * acc + 16) (h1 : j ≠ i) (h2 : j ≠ i + 1) : ¬ nAd (ad i) (ad (i + 1)) (ad j) := by
  rintro (h | h)
  · exact h1 (hok.1 _ _ hj (by omega) h)
  · exact h2 (hok.1 _ _ hj hi h)
theorem ln_oa {i : Nat} (hok : lOk ad acc lm) (hi : i + 1 < 6 * acc + 16) : ad i ≠ ad (i + 1) := fun h => absurd (hok.1 _ _ (by omega) hi h) (by omega)
theorem l_back2 {D : va_G} {H H1 : Heap} {cel cel' : Nat → va_E} {i : Nat} (hok : lOk ad acc lm) (hi : i + 1 < 6 * acc + 16) (hP : va_P D vwCl (wl ad cel (6 * acc + 16)) H) (hk : ∀ q : Nat, q < H.size → ¬ nAd (ad i) (ad (i + 1)) q → H1[q]? = H[q]?)
    (h1 : va_at D vwCl (ad i, cel' i) H1) (h2 : va_at D vwCl (ad (i + 1), cel' (i + 1)) H1) (hold : ∀ j, j ≠ i → j ≠ i + 1 → cel' j = cel j) : va_P D vwCl (wl ad cel' (6 * acc + 16)) H1 := by
  intro k q hq
  obtain ⟨hk1, rfl⟩ := wl_lt hq
  by_cases e1 : k = i
  · subst e1; exact h1
  · by_cases e2 : k = i + 1
    · subst e2; exact h2
    · rw [hold k e1 e2]
      have h3 := hP k _ (wl_at hk1)
      exact h3.kept (hk _ h3.lt (ln_ne hok hi hk1 e1 e2))
theorem lk_p {D : va_G} {H H1 : Heap} {k b v : Nat} (hok : lOk ad acc lm) (hk3 : k < 3) (hb : b ≤ acc) (hP : va_P D vwCl (lW ad cI cB cO acc lm rm N x z ob) H) (hk : ∀ q : Nat, q < H.size → ¬ nAd (ad (6 * b + 2 * k + 10)) (ad (6 * b + 2 * k + 11)) q → H1[q]? = H[q]?)
    (h : va_P D vwCl (nW cI (lm + 1) (ad (6 * b + 2 * k + 10)) (ad (6 * b + 2 * k + 11)) v) H1) : va_P D vwCl (lW ad cI cB cO acc lm rm (va_up N k (va_up (N k) b v)) x z ob) H1 := by
  refine l_back2 (i := 6 * b + 2 * k + 10) hok (by omega) hP hk ?_ ?_ (fun j h1 h2 => lCel_other k b v hk3 j h1 h2)
  · rw [lCel_o k b hk3, va_up_self, va_up_self]; exact h 0 _ rfl
  · rw [lCel_a k b hk3, va_up_self, va_up_self]; exact h 1 _ rfl
theorem lk_am {D : va_G} {H H1 : Heap} {v : Nat} (hok : lOk ad acc lm) (hP : va_P D vwCl (lW ad cI cB cO acc lm rm N x z ob) H) (hk : ∀ q : Nat, q < H.size → ¬ nAd (ad 6) (ad 7) q → H1[q]? = H[q]?)
    (h : va_P D vwCl (nW cI (lm + 1) (ad 6) (ad 7) v) H1) : va_P D vwCl (lW ad cI cB cO acc lm rm N (va_up x 0 v) z ob) H1 := by
  refine l_back2 (i := 6) hok (by omega) hP hk (h 0 _ rfl) (h 1 _ rfl) (fun j h1 h2 => ?_)
  match j with
  | 0 | 1 | 2 | 3 | 4 | 5 | 8 | 9 => rfl
  | 6 => exact absurd rfl h1
  | 7 => exact absurd rfl h2
  | j + 10 => rfl
theorem lk_sc {D : va_G} {H H1 : Heap} {v : Nat} (hok : lOk ad acc lm) (hP : va_P D vwCl (lW ad cI cB cO acc lm rm N x z ob) H) (hk : ∀ q : Nat, q < H.size → ¬ nAd (ad 8) (ad 9) q → H1[q]? = H[q]?)
    (h : va_P D vwCl (nW cI (lm + 1) (ad 8) (ad 9) v) H1) : va_P D vwCl (lW ad cI cB cO acc lm rm N (va_up x 1 v) z ob) H1 := by
  refine l_back2 (i := 8) hok (by omega) hP hk (h 0 _ rfl) (h 1 _ rfl) (fun j h1 h2 => ?_)
  match j with
  | 0 | 1 | 2 | 3 | 4 | 5 | 6 | 7 => rfl
  | 8 => exact absurd rfl h1
  | 9 => exact absurd rfl h2
  | j + 10 => rfl
/-! single fields -/
theorem lset {i : Nat} {e : va_E} {N' : Nat → Nat → Nat} {x' : Nat → Nat} {z' ob' : Nat → Int32} (hi : i < 6 * acc + 16) (h : ∀ j, va_up (lCel ad cI cB cO acc lm rm N x z ob) i e j = lCel ad cI cB cO acc lm rm N' x' z' ob' j) : (lW ad cI cB cO acc lm rm N x z ob).set i (ad i, e) = lW ad cI cB cO acc lm rm N' x' z' ob' := by
  rw [wl_set e hi]
  rw [show va_up (lCel ad cI cB cO acc lm rm N x z ob) i e = lCel ad cI cB cO acc lm rm N' x' z' ob' from funext h]
theorem ls_touched (t : Nat) : (lW ad cI cB cO acc lm rm N x z ob).set 0 (ad 0, .inr (2, [.int (nI acc), .int (nI lm), .int (nI rm), .ref (ad 1), .ref (ad 2), .int (nI t), .ref (ad 6), .int (z 0), .ref (ad 8), .ref (ad 5), .int (z 4)])) = lW ad cI cB cO acc lm rm N (va_up x 2 t) z ob := by
  refine lset (by omega) (fun j => ?_)
  match j with
  | 0 | 1 | 2 | 3 | 4 | 5 | 6 | 7 | 8 | 9 => rfl
  | j + 10 => rfl
theorem ls_up (t : Int32) : (lW ad cI cB cO acc lm rm N x z ob).set 0 (ad 0, .inr (2, [.int (nI acc), .int (nI lm), .int (nI rm), .ref (ad 1), .ref (ad 2), .int (nI (x 2)), .ref (ad 6), .int t, .ref (ad 8), .ref (ad 5), .int (z 4)])) = lW ad cI cB cO acc lm rm N x (va_up z 0 t) ob := by
  refine lset (by omega) (fun j => ?_)
  match j with
  | 0 | 1 | 2 | 3 | 4 | 5 | 6 | 7 | 8 | 9 => rfl
  | j + 10 => rfl
theorem ls_outLength (t : Int32) : (lW ad cI cB cO acc lm rm N x z ob).set 0 (ad 0, .inr (2, [.int (nI acc), .int (nI lm), .int (nI rm), .ref (ad 1), .ref (ad 2), .int (nI (x 2)), .ref (ad 6), .int (z 0), .ref (ad 8), .ref (ad 5), .int t])) = lW ad cI cB cO acc lm rm N x (va_up z 4 t) ob := by
  refine lset (by omega) (fun j => ?_)
  match j with
  | 0 | 1 | 2 | 3 | 4 | 5 | 6 | 7 | 8 | 9 => rfl
  | j + 10 => rfl
theorem ls_committed (t : Nat) : (lW ad cI cB cO acc lm rm N x z ob).set 1 (ad 1, .inr (0, [.ref (ad 3), .ref (ad 4), .int (nI t), .int (z 1), .int (z 2), .int (z 3)])) = lW ad cI cB cO acc lm rm N (va_up x 3 t) z ob := by
  refine lset (by omega) (fun j => ?_)
  match j with
  | 0 | 1 | 2 | 3 | 4 | 5 | 6 | 7 | 8 | 9 => rfl
  | j + 10 => rfl
theorem ls_formatted (t : Int32) : (lW ad cI cB cO acc lm rm N x z ob).set 1 (ad 1, .inr (0, [.ref (ad 3), .ref (ad 4), .int (nI (x 3)), .int t, .int (z 2), .int (z 3)])) = lW ad cI cB cO acc lm rm N x (va_up z 1 t) ob := by
  refine lset (by omega) (fun j => ?_)
  match j with
  | 0 | 1 | 2 | 3 | 4 | 5 | 6 | 7 | 8 | 9 => rfl
  | j + 10 => rfl
theorem ls_writesDone (t : Int32) : (lW ad cI cB cO acc lm rm N x z ob).set 1 (ad 1, .inr (0, [.ref (ad 3), .ref (ad 4), .int (nI (x 3)), .int (z 1), .int t, .int (z 3)])) = lW ad cI cB cO acc lm rm N x (va_up z 2 t) ob := by
  refine lset (by omega) (fun j => ?_)
  match j with
  | 0 | 1 | 2 | 3 | 4 | 5 | 6 | 7 | 8 | 9 => rfl
  | j + 10 => rfl
theorem ls_writesUntilStop (t : Int32) : (lW ad cI cB cO acc lm rm N x z ob).set 1 (ad 1, .inr (0, [.ref (ad 3), .ref (ad 4), .int (nI (x 3)), .int (z 1), .int (z 2), .int t])) = lW ad cI cB cO acc lm rm N x (va_up z 3 t) ob := by
  refine lset (by omega) (fun j => ?_)
  match j with
  | 0 | 1 | 2 | 3 | 4 | 5 | 6 | 7 | 8 | 9 => rfl
  | j + 10 => rfl
theorem ls_out (f : Nat → Int32) : (lW ad cI cB cO acc lm rm N x z ob).set 5 (ad 5, .inl (cB, lm * 10, .inl f)) = lW ad cI cB cO acc lm rm N x z f := by
  refine lset (by omega) (fun j => ?_)
  match j with
  | 0 | 1 | 2 | 3 | 4 | 5 | 6 | 7 | 8 | 9 => rfl
  | j + 10 => rfl
end LW

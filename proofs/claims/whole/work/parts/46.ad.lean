/-! the ledger's addresses, put together from what its maker made -/
def adL (x d ou am am' sc sc' : Nat) (pa ha la : Nat → Nat) : Nat → Nat
  | 0 => x | 1 => d | 2 => pa 0 | 3 => ha 0 | 4 => la 0 | 5 => ou | 6 => am | 7 => am' | 8 => sc | 9 => sc'
  | j + 10 => if j % 6 / 2 = 0 then pa (2 * (j / 6) + 1 + j % 2) else if j % 6 / 2 = 1 then ha (2 * (j / 6) + 1 + j % 2) else la (2 * (j / 6) + 1 + j % 2)
section ADL
variable {x d ou am am' sc sc' : Nat} {pa ha la : Nat → Nat}
theorem adL_p (b r : Nat) (hr : r < 2) : adL x d ou am am' sc sc' pa ha la (6 * b + r + 10) = pa (2 * b + 1 + r) := by
  show (if (6 * b + r) % 6 / 2 = 0 then _ else _) = _
  rw [if_pos (by omega), show (6 * b + r) / 6 = b by omega, show (6 * b + r) % 2 = r by omega]
theorem adL_h (b r : Nat) (hr : r < 2) : adL x d ou am am' sc sc' pa ha la (6 * b + r + 12) = ha (2 * b + 1 + r) := by
  show (if (6 * b + r + 2) % 6 / 2 = 0 then _ else if (6 * b + r + 2) % 6 / 2 = 1 then _ else _) = _
  rw [if_neg (by omega), if_pos (by omega), show (6 * b + r + 2) / 6 = b by omega, show (6 * b + r + 2) % 2 = r by omega]
theorem adL_l (b r : Nat) (hr : r < 2) : adL x d ou am am' sc sc' pa ha la (6 * b + r + 14) = la (2 * b + 1 + r) := by
  show (if (6 * b + r + 4) % 6 / 2 = 0 then _ else if (6 * b + r + 4) % 6 / 2 = 1 then _ else _) = _
  rw [if_neg (by omega), if_neg (by omega), show (6 * b + r + 4) / 6 = b by omega, show (6 * b + r + 4) % 2 = r by omega]
def ixL (k r : Nat) : Nat := if r = 0 then 2 + k else 6 * ((r - 1) / 2) + (r - 1) % 2 + 2 * k + 10
theorem adL_kinds {acc : Nat} {b1 b2 b3 b4 : Nat} (hh : ∀ i, i < 2 * (acc + 1) + 1 → b1 ≤ ha i ∧ ha i < b2) (hl : ∀ i, i < 2 * (acc + 1) + 1 → b2 ≤ la i ∧ la i < b3) (hp : ∀ i, i < 2 * (acc + 1) + 1 → b3 ≤ pa i ∧ pa i < b4) (i : Nat) (hi : i < 6 * acc + 16) :
    (i = 0 ∧ adL x d ou am am' sc sc' pa ha la i = x) ∨ (i = 1 ∧ adL x d ou am am' sc sc' pa ha la i = d) ∨ (i = 5 ∧ adL x d ou am am' sc sc' pa ha la i = ou) ∨ (i = 6 ∧ adL x d ou am am' sc sc' pa ha la i = am) ∨ (i = 7 ∧ adL x d ou am am' sc sc' pa ha la i = am') ∨ (i = 8 ∧ adL x d ou am am' sc sc' pa ha la i = sc) ∨ (i = 9 ∧ adL x d ou am am' sc sc' pa ha la i = sc') ∨
    (∃ r, r < 2 * (acc + 1) + 1 ∧ adL x d ou am am' sc sc' pa ha la i = pa r ∧ i = ixL 0 r ∧ b3 ≤ pa r ∧ pa r < b4) ∨ (∃ r, r < 2 * (acc + 1) + 1 ∧ adL x d ou am am' sc sc' pa ha la i = ha r ∧ i = ixL 1 r ∧ b1 ≤ ha r ∧ ha r < b2) ∨ (∃ r, r < 2 * (acc + 1) + 1 ∧ adL x d ou am am' sc sc' pa ha la i = la r ∧ i = ixL 2 r ∧ b2 ≤ la r ∧ la r < b3) := by
  match i, hi with
  | 0, _ => exact Or.inl ⟨rfl, rfl⟩
  | 1, _ => exact Or.inr (Or.inl ⟨rfl, rfl⟩)
  | 2, _ => exact Or.inr (Or.inr (Or.inr (Or.inr (Or.inr (Or.inr (Or.inr (Or.inl ⟨0, by omega, rfl, rfl, hp 0 (by omega)⟩)))))))
  | 3, _ => exact Or.inr (Or.inr (Or.inr (Or.inr (Or.inr (Or.inr (Or.inr (Or.inr (Or.inl ⟨0, by omega, rfl, rfl, hh 0 (by omega)⟩))))))))
  | 4, _ => exact Or.inr (Or.inr (Or.inr (Or.inr (Or.inr (Or.inr (Or.inr (Or.inr (Or.inr ⟨0, by omega, rfl, rfl, hl 0 (by omega)⟩))))))))
  | 5, _ => exact Or.inr (Or.inr (Or.inl ⟨rfl, rfl⟩))
  | 6, _ => exact Or.inr (Or.inr (Or.inr (Or.inl ⟨rfl, rfl⟩)))
  | 7, _ => exact Or.inr (Or.inr (Or.inr (Or.inr (Or.inl ⟨rfl, rfl⟩))))
  | 8, _ => exact Or.inr (Or.inr (Or.inr (Or.inr (Or.inr (Or.inl ⟨rfl, rfl⟩)))))
  | 9, _ => exact Or.inr (Or.inr (Or.inr (Or.inr (Or.inr (Or.inr (Or.inl ⟨rfl, rfl⟩))))))
  | j + 10, hj =>
    refine Or.inr (Or.inr (Or.inr (Or.inr (Or.inr (Or.inr (Or.inr ?_))))))
    have hj2 : j < 6 * acc + 6 := by omega
    have hr : 2 * (j / 6) + 1 + j % 2 < 2 * (acc + 1) + 1 := by omega
    have hx : ∀ k, j % 6 / 2 = k → j + 10 = ixL k (2 * (j / 6) + 1 + j % 2) := by
      intro k hk
      unfold ixL
      rw [if_neg (by omega)]
      omega
    by_cases h0 : j % 6 / 2 = 0
    · refine Or.inl ⟨2 * (j / 6) + 1 + j % 2, hr, ?_, hx 0 h0, hp _ hr⟩
      show (if j % 6 / 2 = 0 then _ else _) = _
      rw [if_pos h0]
    · by_cases h1 : j % 6 / 2 = 1
      · refine Or.inr (Or.inl ⟨2 * (j / 6) + 1 + j % 2, hr, ?_, hx 1 h1, hh _ hr⟩)
        show (if j % 6 / 2 = 0 then _ else if j % 6 / 2 = 1 then _ else _) = _
        rw [if_neg h0, if_pos h1]
      · refine Or.inr (Or.inr ⟨2 * (j / 6) + 1 + j % 2, hr, ?_, hx 2 (by omega), hl _ hr⟩)
        show (if j % 6 / 2 = 0 then _ else if j % 6 / 2 = 1 then _ else _) = _
        rw [if_neg h0, if_neg h1]
theorem adL_ok {acc lm : Nat} {sz b1 b2 b3 b4 : Nat} (ha24 : acc ≤ 24) (hl1 : 1 ≤ lm) (hl2 : lm ≤ 20) (h0 : x < sz) (hd : sz ≤ d ∧ d < b1) (hh : ∀ i, i < 2 * (acc + 1) + 1 → b1 ≤ ha i ∧ ha i < b2) (hl : ∀ i, i < 2 * (acc + 1) + 1 → b2 ≤ la i ∧ la i < b3) (hp : ∀ i, i < 2 * (acc + 1) + 1 → b3 ≤ pa i ∧ pa i < b4) (ih : wInj ha (2 * (acc + 1) + 1)) (il : wInj la (2 * (acc + 1) + 1)) (ip : wInj pa (2 * (acc + 1) + 1))
    (h1 : b4 ≤ am) (h2 : am < am') (h3 : am' < sc) (h4 : sc < sc') (h5 : sc' < ou) : lOk (adL x d ou am am' sc sc' pa ha la) acc lm ∧ ∀ i, 0 < i → i < 6 * acc + 16 → sz ≤ adL x d ou am am' sc sc' pa ha la i := by
  have g1 := (hh 0 (by omega))
  have g2 := (hl 0 (by omega))
  have g3 := (hp 0 (by omega))
  refine ⟨⟨fun i j hi hj e => ?_, ha24, hl1, hl2⟩, fun i hi0 hi => ?_⟩
  · have ki := adL_kinds (x := x) (d := d) (ou := ou) (am := am) (am' := am') (sc := sc) (sc' := sc') hh hl hp i hi
    have kj := adL_kinds (x := x) (d := d) (ou := ou) (am := am) (am' := am') (sc := sc) (sc' := sc') hh hl hp j hj
    rw [e] at ki
    generalize adL x d ou am am' sc sc' pa ha la j = q at ki kj
    clear e hh hl hp
    rcases ki with ⟨a1, a2⟩ | ⟨a1, a2⟩ | ⟨a1, a2⟩ | ⟨a1, a2⟩ | ⟨a1, a2⟩ | ⟨a1, a2⟩ | ⟨a1, a2⟩ | ⟨r, a3, a2, a1, a4, a5⟩ | ⟨r, a3, a2, a1, a4, a5⟩ | ⟨r, a3, a2, a1, a4, a5⟩ <;>
    rcases kj with ⟨c1, c2⟩ | ⟨c1, c2⟩ | ⟨c1, c2⟩ | ⟨c1, c2⟩ | ⟨c1, c2⟩ | ⟨c1, c2⟩ | ⟨c1, c2⟩ | ⟨r', c3, c2, c1, c4, c5⟩ | ⟨r', c3, c2, c1, c4, c5⟩ | ⟨r', c3, c2, c1, c4, c5⟩ <;>
    first
    | omega
    | (have e9 := ip r r' a3 c3 (a2.symm.trans c2); subst e9; exact a1.trans c1.symm)
    | (have e9 := ih r r' a3 c3 (a2.symm.trans c2); subst e9; exact a1.trans c1.symm)
    | (have e9 := il r r' a3 c3 (a2.symm.trans c2); subst e9; exact a1.trans c1.symm)
  · have ki := adL_kinds (x := x) (d := d) (ou := ou) (am := am) (am' := am') (sc := sc) (sc' := sc') hh hl hp i hi
    rcases ki with ⟨a1, a2⟩ | ⟨a1, a2⟩ | ⟨a1, a2⟩ | ⟨a1, a2⟩ | ⟨a1, a2⟩ | ⟨a1, a2⟩ | ⟨a1, a2⟩ | ⟨r, a3, a2, a1, a4, a5⟩ | ⟨r, a3, a2, a1, a4, a5⟩ | ⟨r, a3, a2, a1, a4, a5⟩ <;> omega
end ADL
def zL : Nat → Int32 := va_up (fun _ => 0) 3 (-1)
abbrev NZ : LN := fun _ _ => 0
abbrev XZ : Nat → Nat := fun _ => 0
theorem lW_mk {D : va_G} {x d ou am am' sc sc' : Nat} {pa ha la : Nat → Nat} {cI cB cO : ClassId} {acc lm rm : Nat} {H : Heap} (eo : va_at D vwCl (x, .inr (2, [.int (nI acc), .int (nI lm), .int (nI rm), .ref d, .ref (pa 0), .int 0, .ref am, .int 0, .ref sc, .ref ou, .int 0])) H) (ed : va_at D vwCl (d, .inr (0, [.ref (ha 0), .ref (la 0), .int 0, .int 0, .int 0, .int (-1)])) H)
    (eh : va_P D vwCl (wl ha (nsC ha cI cO (acc + 1) (lm + 1)) (2 * (acc + 1) + 1)) H) (el : va_P D vwCl (wl la (nsC la cI cO (acc + 1) (lm + 1)) (2 * (acc + 1) + 1)) H) (ep : va_P D vwCl (wl pa (nsC pa cI cO (acc + 1) (lm + 1)) (2 * (acc + 1) + 1)) H) (ea : va_P D vwCl (nW cI (lm + 1) am am' 0) H) (es : va_P D vwCl (nW cI (lm + 1) sc sc' 0) H) (eu : va_at D vwCl (ou, .inl (cB, lm * 10, .inl (fun _ => 0))) H) :
    va_P D vwCl (lW (adL x d ou am am' sc sc' pa ha la) cI cB cO acc lm rm NZ XZ zL (fun _ => 0)) H := by
  refine wP_mk (fun i hi => ?_)
  match i, hi with
  | 0, _ => exact eo
  | 1, _ => exact ed
  | 2, _ => exact atq_congr (wP_at ep (i := 0) (by omega)) (fun k hk => by rw [show 6 * k + 10 = 6 * k + 0 + 10 by omega, adL_p k 0 (by decide)])
  | 3, _ => exact atq_congr (wP_at eh (i := 0) (by omega)) (fun k hk => by rw [show 6 * k + 12 = 6 * k + 0 + 12 by omega, adL_h k 0 (by decide)])
  | 4, _ => exact atq_congr (wP_at el (i := 0) (by omega)) (fun k hk => by rw [show 6 * k + 14 = 6 * k + 0 + 14 by omega, adL_l k 0 (by decide)])
  | 5, _ => exact eu
  | 6, _ => exact ea 0 _ rfl
  | 7, _ => exact ea 1 _ rfl
  | 8, _ => exact es 0 _ rfl
  | 9, _ => exact es 1 _ rfl
  | j + 10, hj =>
    obtain ⟨b, k, r, hb, hk, hr, rfl⟩ : ∃ b k r, b ≤ acc ∧ k < 3 ∧ r < 2 ∧ j = 6 * b + 2 * k + r := ⟨j / 6, j % 6 / 2, j % 2, by omega, by omega, by omega, by omega⟩
    have h1 : ∀ (f : Nat → Nat) (g : Nat → Nat), (∀ r, r < 2 → g (6 * b + 2 * k + r + 10) = f (2 * b + 1 + r)) → va_P D vwCl (wl f (nsC f cI cO (acc + 1) (lm + 1)) (2 * (acc + 1) + 1)) H → va_at D vwCl (g (6 * b + 2 * k + r + 10), lCel g cI cB cO acc lm rm NZ XZ zL (fun _ => 0) (6 * b + 2 * k + r + 10)) H := by
      intro f g hfg hf
      rcases (show r = 0 ∨ r = 1 by omega) with rfl | rfl
      · have h2 := wP_at hf (i := 2 * b + 1) (by omega)
        rw [nsC_o] at h2
        rw [show 6 * b + 2 * k + 0 + 10 = 6 * b + 2 * k + 10 by omega, lCel_o k b hk, show 6 * b + 2 * k + 11 = 6 * b + 2 * k + 1 + 10 by omega, hfg 1 (by decide), show 6 * b + 2 * k + 10 = 6 * b + 2 * k + 0 + 10 by omega, hfg 0 (by decide)]
        exact h2
      · have h2 := wP_at hf (i := 2 * b + 2) (by omega)
        rw [nsC_a] at h2
        rw [hfg 1 (by decide), show 6 * b + 2 * k + 1 + 10 = 6 * b + 2 * k + 11 by omega, lCel_a k b hk]
        exact h2
    rcases (show k = 0 ∨ k = 1 ∨ k = 2 by omega) with rfl | rfl | rfl
    · exact h1 pa _ (fun r hr => by rw [show 6 * b + 2 * 0 + r + 10 = 6 * b + r + 10 by omega, adL_p b r hr]) ep
    · exact h1 ha _ (fun r hr => by rw [show 6 * b + 2 * 1 + r + 10 = 6 * b + r + 12 by omega, adL_h b r hr]) eh
    · exact h1 la _ (fun r hr => by rw [show 6 * b + 2 * 2 + r + 10 = 6 * b + r + 14 by omega, adL_l b r hr]) el

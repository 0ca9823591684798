def clI (p m : Int32) : Int32 := if p < 1 then 1 else if m < p then m else p
theorem cl_ex (p : Int32) {n : Nat} (h1 : 1 ≤ n) (hn : n < 100) : ∃ a, 1 ≤ a ∧ a ≤ n ∧ clI p (nI n) = nI a ∧ within0 p (nI n) = nI a := by
  unfold clI within0
  by_cases h2 : p < 1
  · refine ⟨1, Nat.le_refl 1, h1, by rw [if_pos h2]; rfl, ?_⟩
    have h3 : ¬ nI n < p := fun q => by
      have h4 : (nI 1 : Int32) ≤ nI n := nI_le h1 (by omega)
      exact absurd (fa_trans q (fa_of_lt h2).1) (fun q2 => (fa_of_lt q2).2.1 h4)
    rw [if_neg h3, if_pos h2]
    rfl
  · rw [if_neg h2]
    have h0 : ¬ p < 0 := fun q => h2 (fa_trans q (by decide))
    obtain ⟨j, hj, rfl⟩ := nI_of h0
    have hj1 : 1 ≤ j := Nat.le_of_not_lt (fun q => h2 ((nI_ltI (b := 1) hj (by decide)).mpr q))
    by_cases h3 : nI n < nI j
    · refine ⟨n, h1, Nat.le_refl n, by rw [if_pos h3], ?_⟩
      have h5 : ¬ nI n < 1 := fun q => absurd ((nI_ltI (b := 1) (by omega) (by decide)).mp q) (by omega)
      rw [if_pos h3, if_neg h5]
    · refine ⟨j, hj1, Nat.le_of_not_lt (fun q => h3 ((nI_ltI (by omega) hj).mpr q)), by rw [if_neg h3], ?_⟩
      rw [if_neg h3, if_neg h2]
def gM (x sz : Nat) : Nat → Nat := fun i => if i = 0 then x else sz + (i - 1)
def yM : Nat → Int32 := va_up (fun _ => 0) 5 (-1)
abbrev FM : Nat → Nat → Int32 := mF (fun _ _ => 0) 0 (fun _ _ => false) (fun _ => 0) (fun _ => 0)
theorem gM_ok {x sz : Nat} (h : x < sz) : mOk (gM x sz) := by
  intro i j hi hj e
  unfold gM at e
  by_cases h1 : i = 0 <;> by_cases h2 : j = 0
  · omega
  · rw [if_pos h1, if_neg h2] at e; omega
  · rw [if_neg h1, if_pos h2] at e; omega
  · rw [if_neg h1, if_neg h2] at e; omega
theorem z_row (j : Nat) : (0 : Int32) = rowF ((fun _ _ => 0 : LN) 0) j := by
  show (0 : Int32) = nI (lbN 0 (j % 22))
  rw [lbN_of_zero, nI_0]
theorem z_lb (j : Nat) : (0 : Int32) = lb 0 j := by
  show (0 : Int32) = nI (lbN 0 j)
  rw [lbN_of_zero, nI_0]

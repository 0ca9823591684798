theorem lg_lt_iff {a b : Nat} (ha : a < 2 ^ 63) (hb : b < 2 ^ 63) : lg_cmp (lN a) (lN b) < 0 ↔ a < b := by
  unfold lg_cmp
  by_cases h1 : lN a > lN b
  · rw [if_pos h1]
    have h2 : b < a := (pk_lLT hb ha).mp h1
    exact ⟨fun q => absurd q (by decide), fun q => by omega⟩
  · rw [if_neg h1]
    have h2 : ¬ b < a := fun q => h1 ((pk_lLT hb ha).mpr q)
    by_cases h3 : lN a = lN b
    · rw [if_pos h3]
      have h4 : a = b := (pk_lEQ ha hb).mp h3
      exact ⟨fun q => absurd q (by decide), fun q => by omega⟩
    · rw [if_neg h3]
      have h4 : ¬ a = b := fun q => h3 ((pk_lEQ ha hb).mpr q)
      exact ⟨fun _ => by omega, fun _ => by decide⟩
theorem lg_ge0 {a : Nat} (ha : a < 2 ^ 63) : 0 ≤ lg_cmp (lN a) 0 := by
  have h := (lg_lt_iff (b := 0) ha (by decide))
  have h2 : ¬ lg_cmp (lN a) (lN 0) < 0 := fun q => absurd (h.mp q) (by omega)
  exact fa_of_nlt h2
theorem lg_le0_iff {a : Nat} (ha : a < 2 ^ 63) : lg_cmp (lN a) 0 ≤ 0 ↔ a = 0 := by
  show lg_cmp (lN a) (lN 0) ≤ 0 ↔ a = 0
  unfold lg_cmp
  by_cases h1 : lN a > lN 0
  · rw [if_pos h1]
    have h2 : 0 < a := (pk_lLT (by decide) ha).mp h1
    exact ⟨fun q => absurd q (by decide), fun q => by omega⟩
  · rw [if_neg h1]
    have h2 : ¬ 0 < a := fun q => h1 ((pk_lLT (by decide) ha).mpr q)
    refine ⟨fun _ => by omega, fun _ => ?_⟩
    split <;> decide
theorem l_32 {x : Int64} {n : Nat} (h : x.toInt = (n : Int)) (hn : n < 2 ^ 63) : x.toInt32 = nI n := by
  have e : x = lN n := by rw [fa_eq64, h, pk_lT hn]
  rw [e, lN_i]
theorem l_sub3 {x b a : Nat} (hx : x < 2147483648) (hb : b < 2) (ha : a < 2147483648) : (lN x + -(lN b) + -(lN a)).toInt = (x : Int) - b - a := by
  have e1 : (lN x).toInt = x := pk_lT (by omega)
  have e2 : (lN b).toInt = b := pk_lT (by omega)
  have e3 : (lN a).toInt = a := pk_lT (by omega)
  rw [← Int64.sub_eq_add_neg, ← Int64.sub_eq_add_neg]
  have e4 : (lN x - lN b).toInt = (x : Int) - b := by rw [fb_subL (by omega) (by omega), e1, e2]
  rw [fb_subL (by omega) (by omega), e4, e3]
/-- the limb that a sum keeps, and its carry -/
theorem add_val {S : Nat} (h : S < 4294967297) (c : Nat) (hc : c = S / 2147483648) : (lN S - lN c * lN 2147483648).toInt32 = nI (S % 2147483648) := by
  subst hc
  rw [lN_mul, lN_sub (by omega), lN_i]
  congr 1
  omega
theorem sub_val {x : Int64} {z : Int} (hx : x.toInt = z) (hz : -2147483649 < z) (hz2 : z < 2147483648) (b : Nat) (hb : (b = 1 ∧ z < 0) ∨ (b = 0 ∧ 0 ≤ z)) : (x - -(lN b) * lN 2147483648).toInt32 = nI (z % 2147483648).toNat := by
  have e1 : (-(lN b) * lN 2147483648).toInt = -(b : Int) * 2147483648 := by
    rcases hb with ⟨rfl, -⟩ | ⟨rfl, -⟩ <;> decide
  refine l_32 (n := (z % 2147483648).toNat) ?_ (by omega)
  rcases hb with ⟨rfl, hz0⟩ | ⟨rfl, hz0⟩
  · rw [fb_subL (by omega) (by omega), e1, hx]; omega
  · rw [fb_subL (by omega) (by omega), e1, hx]; omega
theorem ne_base : ¬ lN 2147483648 = 0 := by decide
theorem mMore_le (t : Nat → Bool) (a b : Nat) : mMore t a b ≤ 2 := by unfold mMore; split <;> split <;> omega
theorem lg_neg {x : Int64} {z : Int} (hx : x.toInt = z) (h0 : -9223372036854775808 ≤ z) (h : z < 2147483648) : lg_cmp x (lN 2147483648) < 0 := by
  unfold lg_cmp
  have e : (lN 2147483648).toInt = 2147483648 := by decide
  have h1 : ¬ x > lN 2147483648 := by
    show ¬ (lN 2147483648 < x)
    rw [fa_lt64, hx, e]
    omega
  have h2 : ¬ x = lN 2147483648 := by
    rw [fa_eq64, hx, e]
    omega
  rw [if_neg h1, if_neg h2]
  decide
theorem cmpI_le0 {a b : Nat} : cmpI a b ≤ 0 ↔ ¬ b < a := by
  unfold cmpI
  by_cases h1 : a < b
  · rw [if_pos h1]
    exact ⟨fun _ => by omega, fun _ => by decide⟩
  · rw [if_neg h1]
    by_cases h2 : a = b
    · rw [if_pos h2]
      exact ⟨fun _ => by omega, fun _ => by decide⟩
    · rw [if_neg h2]
      exact ⟨fun q => absurd q (by decide), fun q => absurd (show b < a by omega) q⟩

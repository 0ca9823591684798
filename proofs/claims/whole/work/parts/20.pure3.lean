/-! decimals -/
def isNd (v n : Nat) : Prop := 1 ≤ n ∧ v / 10 ^ n = 0 ∧ ∀ j, 1 ≤ j → j < n → v / 10 ^ j ≠ 0
def dgI (v : Nat) : Nat → Int32 := fun i => nI (48 + v / 10 ^ i % 10)
theorem isNd_one {v n m : Nat} (h1 : isNd v n) (h2 : isNd v m) : n = m := by
  rcases Nat.lt_trichotomy n m with q | q | q
  · exact absurd h1.2.1 (h2.2.2 n h1.1 q)
  · exact q
  · exact absurd h2.2.1 (h1.2.2 m h2.1 q)
theorem dec_bound {v lm : Nat} (h : v < 2147483648 ^ lm) : v / 10 ^ (lm * 10) = 0 := by
  apply Nat.div_eq_of_lt
  refine Nat.lt_of_lt_of_le h ?_
  rw [Nat.mul_comm, Nat.pow_mul]
  exact Nat.pow_le_pow_left (by decide) lm
theorem dec_step (v i : Nat) : v / 10 ^ i / 10 = v / 10 ^ (i + 1) := by rw [Nat.div_div_eq_div_mul, Nat.pow_succ]
theorem dg_byte (v i : Nat) : (nI (48 + v / 10 ^ i % 10)).toInt8.toInt32 = nI (48 + v / 10 ^ i % 10) := fa_byte_small (by omega)
theorem dg_nar (v i : Nat) : vp_nar .byte (nI (48 + v / 10 ^ i % 10)) = dgI v i := by rw [vp_nar_byte]; exact dg_byte v i
abbrev WS : Type := (Nat → Nat) × (Nat → Int32) × (Nat → Int32)
def cWr (acc lm : Nat) (p : Int32) (N : LN) (x : Nat → Nat) (z ob : Nat → Int32) (r : Int32) (u : WS) : Prop :=
  if z 0 = 0 ∨ ¬ isAcc acc p = true then r = -1 ∧ u = (x, z, ob) else
  ∃ n, isNd (sv N x p.toNatClampNeg) n ∧ n ≤ lm * 10 ∧ r = nI n ∧ u = (va_up x 1 (sv N x p.toNatClampNeg / 10 ^ n), va_up z 4 (nI n), fl (dgI (sv N x p.toNatClampNeg)) ob n)
def cmpI (a b : Nat) : Int32 := if a < b then -1 else if a = b then 0 else 1
def cCount (acc lm rm : Nat) (p : Int32) (S : DS) : Int32 :=
  if p = 0 then nI acc else if p = 1 then nI lm else if p = 2 then nI rm else if p = 3 then S.2.2 2 else if p = 4 then (if S.2.2 0 = 0 then 0 else 1) else if p = 5 then nI (ctb (S.2.1 2)) else if p = 6 then S.2.2 3 else
  if p = 7 then (if S.2.2 0 = 0 then 0 else nI (szF (sv S.1 S.2.1 acc) (lm + 1))) else if p = 8 then nI (szF (S.2.1 0) (lm + 1)) else -1
theorem szF_pos {v w : Nat} (h : v < 2147483648 ^ w) (hw : w < 2 ^ 31) : nI (szF v w) ≤ 0 ↔ v = 0 := by
  have := szF_le v w
  rw [nI_le0 (by omega)]
  exact szF_0 v w h
theorem sw_out {p : Int32} (h0 : ¬ p = 0) (h1 : ¬ p = 1) (h2 : ¬ p = 2) (h3 : ¬ p = 3) (h4 : ¬ p = 4) (h5 : ¬ p = 5) (h6 : ¬ p = 6) (h7 : ¬ p = 7) (h8 : ¬ p = 8) : p.toInt < 0 ∨ 8 < p.toInt := by
  rw [fa_eq] at h0 h1 h2 h3 h4 h5 h6 h7 h8
  have e0 : (0 : Int32).toInt = 0 := by decide
  have e1 : (1 : Int32).toInt = 1 := by decide
  have e2 : (2 : Int32).toInt = 2 := by decide
  have e3 : (3 : Int32).toInt = 3 := by decide
  have e4 : (4 : Int32).toInt = 4 := by decide
  have e5 : (5 : Int32).toInt = 5 := by decide
  have e6 : (6 : Int32).toInt = 6 := by decide
  have e7 : (7 : Int32).toInt = 7 := by decide
  have e8 : (8 : Int32).toInt = 8 := by decide
  omega
theorem cWr_no {acc lm : Nat} {p : Int32} {N : LN} {x : Nat → Nat} {z ob : Nat → Int32} (h : z 0 = 0 ∨ ¬ isAcc acc p = true) : cWr acc lm p N x z ob (-1) (x, z, ob) := by
  unfold cWr
  rw [if_pos h]
  exact ⟨rfl, rfl⟩
theorem cWr_yes {acc lm b v n : Nat} {N : LN} {x : Nat → Nat} {z ob : Nat → Int32} (h0 : ¬ z 0 = 0) (ha : isAcc acc (nI b) = true) (eb : (nI b).toNatClampNeg = b) (hv : sv N x b = v) (hn : isNd v n) (hl : n ≤ lm * 10) : cWr acc lm (nI b) N x z ob (nI n) (va_up x 1 (v / 10 ^ n), va_up z 4 (nI n), fl (dgI v) ob n) := by
  unfold cWr
  rw [if_neg (by rintro (q | q); exact h0 q; exact q ha), eb, hv]
  exact ⟨n, hn, hl, rfl, rfl⟩

def mStop (p : Int32) (S : MS) : MS := setY (setY S 0 0) 5 (if p < 0 then -1 else p)
def mClear (S : MS) : Int32 × MS := if S.2.2.2 1 = 0 then (0, setY S 0 0) else (1, S.1, 0, S.2.2.1, va_up S.2.2.2 0 0)
def mAmLimb (lm : Nat) (p : Int32) (S : MS) : Int32 × MS := if p < 0 then (0, setY S 0 0) else if S.2.2.2 1 = 0 then (0, setY S 0 0) else if lbN S.2.1 (lm - 1) = 0 then (1, S.1, S.2.1 * 2147483648 + p.toNatClampNeg, S.2.2.1, va_up S.2.2.2 0 0) else (0, setY S 0 0)
def mMore (t : Nat → Bool) (a b : Nat) : Nat := (if t a = true then 0 else 1) + (if ¬ b = a ∧ ¬ t b = true then 1 else 0)
def mInc (S : MS) (a : Nat) : MS := (va_up S.1 0 (va_up (S.1 0) a (S.1 0 a + S.2.1)), S.2.1, S.2.2.1, S.2.2.2)
def mDec (S : MS) (a : Nat) : MS := (va_up S.1 0 (va_up (S.1 0) a (S.1 0 a - S.2.1)), S.2.1, S.2.2.1, S.2.2.2)
def mTou (S : MS) (a : Nat) : MS := (S.1, S.2.1, va_up S.2.2.1 0 (va_up (S.2.2.1 0) a true), S.2.2.2)
def mDep (acc lm rm : Nat) (p : Int32) (S : MS) : Int32 × MS :=
  if S.2.2.2 1 = 0 then (6, setY S 0 0) else if ¬ isAcc acc p = true then (1, setY S 0 0) else
  if ¬ cyA (S.1 0 p.toNatClampNeg) S.2.1 lm = 0 then (3, setY S 0 0) else
  if rm < fb_ct (S.2.2.1 0) 25 + mMore (S.2.2.1 0) p.toNatClampNeg 24 then (4, setY S 0 0) else
  (0, mTou (mTou (mInc (mInc (setY S 0 0) p.toNatClampNeg) 24) p.toNatClampNeg) 24)
def mWd (acc rm : Nat) (p : Int32) (S : MS) : Int32 × MS :=
  if S.2.2.2 1 = 0 then (6, setY S 0 0) else if ¬ isAcc acc p = true then (1, setY S 0 0) else
  if S.1 0 p.toNatClampNeg < S.2.1 then (2, setY S 0 0) else
  if rm < fb_ct (S.2.2.1 0) 25 + mMore (S.2.2.1 0) p.toNatClampNeg 24 then (4, setY S 0 0) else
  (0, mTou (mTou (mDec (mDec (setY S 0 0) p.toNatClampNeg) 24) p.toNatClampNeg) 24)
def mTr (acc lm rm : Nat) (p q : Int32) (S : MS) : Int32 × MS :=
  if S.2.2.2 1 = 0 then (6, setY S 0 0) else if ¬ (isAcc acc p = true ∧ isAcc acc q = true) then (1, setY S 0 0) else
  if S.1 0 p.toNatClampNeg < S.2.1 then (2, setY S 0 0) else
  if ¬ p = q ∧ ¬ cyA (S.1 0 q.toNatClampNeg) S.2.1 lm = 0 then (3, setY S 0 0) else
  if rm < fb_ct (S.2.2.1 0) 25 + mMore (S.2.2.1 0) p.toNatClampNeg q.toNatClampNeg then (4, setY S 0 0) else
  (0, mTou (mTou (mInc (mDec (setY S 0 0) p.toNatClampNeg) q.toNatClampNeg) p.toNatClampNeg) q.toNatClampNeg)
def mPart (acc : Nat) (p q r : Int32) (S : MS) : Int32 × MS :=
  if S.2.2.2 1 = 0 then (6, setY S 0 0) else if ¬ isAcc acc p = true then (1, setY S 0 0) else
  if q < 0 ∨ r < q ∨ r < 1 then (5, setY S 0 0) else
  (0, S.1, S.1 0 p.toNatClampNeg * q.toNatClampNeg / r.toNatClampNeg, S.2.2.1, va_up S.2.2.2 0 0)
theorem app_fd {lm am x : Nat} (h1 : 1 ≤ lm) (ha : am * 2147483648 + x < 2147483648 ^ lm) (hx : x < 2147483648) : ∀ j, (if j < lm then lb (am * 2147483648 + x) j else lb am j) = lb (am * 2147483648 + x) j := by
  intro j
  by_cases h : j < lm
  · rw [if_pos h]
  · rw [if_neg h]
    show nI _ = nI _
    rw [lbN_zero ha (by omega), lbN_zero (w := lm) (by omega) (by omega)]
theorem am_small {lm am x : Nat} (h1 : 1 ≤ lm) (ha : am < 2147483648 ^ lm) (hx : x < 2147483648) (h0 : lbN am (lm - 1) = 0) : am * 2147483648 + x < 2147483648 ^ lm := by
  have h2 : am < 2147483648 ^ (lm - 1) := by
    have h3 := lbN_split am (lm - 1)
    rw [show lm - 1 + 1 = lm by omega, Nat.div_eq_of_lt ha, h0] at h3
    rcases Nat.lt_or_ge am (2147483648 ^ (lm - 1)) with q | q
    · exact q
    · have := (Nat.le_div_iff_mul_le (bp_pos (lm - 1))).mpr (by rw [Nat.one_mul]; exact q)
      omega
  have h3 : (am + 1) * 2147483648 ≤ 2147483648 ^ (lm - 1) * 2147483648 := Nat.mul_le_mul_right _ h2
  rw [← Nat.pow_succ, show (lm - 1).succ = lm by omega] at h3
  omega

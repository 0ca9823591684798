/-! counting bits as the JDK does -/
theorem and_byte {X Y : Nat} : X &&& Y = (X % 256 &&& Y % 256) + 256 * (X / 256 &&& Y / 256) := by
  have h1 : (X &&& Y) % 2 ^ 8 = X % 2 ^ 8 &&& Y % 2 ^ 8 := Nat.and_mod_two_pow
  have h2 : (X &&& Y) / 2 ^ 8 = X / 2 ^ 8 &&& Y / 2 ^ 8 := Nat.and_div_two_pow
  have h3 := Nat.mod_add_div (X &&& Y) 256
  rw [show (256 : Nat) = 2 ^ 8 by decide]
  rw [← h1, ← h2]
  exact h3.symm
theorem and_4 {X m : Nat} (hX : X < 4294967296) (a b c d : Nat) (ha : a < 256) (hb : b < 256) (hc : c < 256) (hd : d < 256) (hm : m < 256) (e : X = a + 256 * b + 65536 * c + 16777216 * d) : X &&& (m + 256 * m + 65536 * m + 16777216 * m) = (a &&& m) + 256 * (b &&& m) + 65536 * (c &&& m) + 16777216 * (d &&& m) := by
  rw [and_byte]
  rw [show X % 256 = a by omega, show X / 256 = b + 256 * c + 65536 * d by omega, show (m + 256 * m + 65536 * m + 16777216 * m) % 256 = m by omega, show (m + 256 * m + 65536 * m + 16777216 * m) / 256 = m + 256 * m + 65536 * m by omega]
  rw [and_byte (X := b + 256 * c + 65536 * d)]
  rw [show (b + 256 * c + 65536 * d) % 256 = b by omega, show (b + 256 * c + 65536 * d) / 256 = c + 256 * d by omega, show (m + 256 * m + 65536 * m) % 256 = m by omega, show (m + 256 * m + 65536 * m) / 256 = m + 256 * m by omega]
  rw [and_byte (X := c + 256 * d)]
  rw [show (c + 256 * d) % 256 = c by omega, show (c + 256 * d) / 256 = d by omega, show (m + 256 * m) % 256 = m by omega, show (m + 256 * m) / 256 = m by omega]
  generalize a &&& m = A
  generalize b &&& m = B
  generalize c &&& m = C
  generalize d &&& m = E
  omega
def ct8 (x : Nat) : Nat := fb_ct (fun i => x.testBit i) 8
theorem by1 : ∀ x, x < 256 → ∀ t, t < 2 → (x / 2 + 128 * t) &&& 85 = (x / 2) &&& 85 := by decide +kernel
theorem by1l : ∀ x, x < 256 → (x / 2) &&& 85 ≤ x := by decide +kernel
theorem by2 : ∀ x, x < 256 → ∀ t, t < 4 → (x / 4 + 64 * t) &&& 51 = (x / 4) &&& 51 := by decide +kernel
def st1 (x : Nat) : Nat := x - ((x / 2) &&& 85)
def st2 (y : Nat) : Nat := (y &&& 51) + ((y / 4) &&& 51)
theorem st1_lt : ∀ x, x < 256 → st1 x < 256 := by decide +kernel
theorem st2_le : ∀ x, x < 256 → st2 (st1 x) ≤ 68 := by decide +kernel
theorem st2_m : ∀ x, x < 256 → st2 (st1 x) % 16 ≤ 4 := by decide +kernel
theorem by3 : ∀ x, x < 256 → ∀ t, t < 16 → (st2 (st1 x) + st2 (st1 x) / 16 + 16 * t) &&& 15 = ct8 x := by decide +kernel
theorem ct8_le : ∀ x, x < 256 → ct8 x ≤ 8 := by decide +kernel
def bcn (n : Nat) : Nat := ct8 (n % 256) + ct8 (n / 256 % 256) + ct8 (n / 65536 % 256) + ct8 (n / 16777216 % 256)
theorem bc_1 {n a b c d : Nat} (ha : a < 256) (hb : b < 256) (hc : c < 256) (hd : d < 256) (e : n = a + 256 * b + 65536 * c + 16777216 * d) : n / 2 &&& 1431655765 = (a / 2 &&& 85) + 256 * (b / 2 &&& 85) + 65536 * (c / 2 &&& 85) + 16777216 * (d / 2 &&& 85) := by
  have h := and_4 (X := n / 2) (m := 85) (by omega) (a / 2 + 128 * (b % 2)) (b / 2 + 128 * (c % 2)) (c / 2 + 128 * (d % 2)) (d / 2) (by omega) (by omega) (by omega) (by omega) (by decide) (by omega)
  rw [by1 _ ha _ (by omega), by1 _ hb _ (by omega), by1 _ hc _ (by omega)] at h
  exact h
theorem bc_1b {n a b c d : Nat} (ha : a < 256) (hb : b < 256) (hc : c < 256) (hd : d < 256) (e : n = a + 256 * b + 65536 * c + 16777216 * d) : n - (n / 2 &&& 1431655765) = st1 a + 256 * st1 b + 65536 * st1 c + 16777216 * st1 d := by
  rw [bc_1 ha hb hc hd e]
  have h1 := by1l a ha
  have h2 := by1l b hb
  have h3 := by1l c hc
  have h4 := by1l d hd
  unfold st1
  generalize (a / 2 &&& 85) = A at h1
  generalize (b / 2 &&& 85) = B at h2
  generalize (c / 2 &&& 85) = C at h3
  generalize (d / 2 &&& 85) = D at h4
  omega
theorem bc_1le {n a b c d : Nat} (ha : a < 256) (hb : b < 256) (hc : c < 256) (hd : d < 256) (e : n = a + 256 * b + 65536 * c + 16777216 * d) : n / 2 &&& 1431655765 ≤ n := by
  rw [bc_1 ha hb hc hd e]
  have h1 := by1l a ha
  have h2 := by1l b hb
  have h3 := by1l c hc
  have h4 := by1l d hd
  generalize (a / 2 &&& 85) = A at h1
  generalize (b / 2 &&& 85) = B at h2
  generalize (c / 2 &&& 85) = C at h3
  generalize (d / 2 &&& 85) = D at h4
  omega
theorem bc_2 {y a b c d : Nat} (ha : a < 256) (hb : b < 256) (hc : c < 256) (hd : d < 256) (e : y = a + 256 * b + 65536 * c + 16777216 * d) : (y &&& 858993459) + (y / 4 &&& 858993459) = st2 a + 256 * st2 b + 65536 * st2 c + 16777216 * st2 d := by
  have h1 := and_4 (X := y) (m := 51) (by omega) a b c d ha hb hc hd (by decide) e
  have h2 := and_4 (X := y / 4) (m := 51) (by omega) (a / 4 + 64 * (b % 4)) (b / 4 + 64 * (c % 4)) (c / 4 + 64 * (d % 4)) (d / 4) (by omega) (by omega) (by omega) (by omega) (by decide) (by omega)
  rw [by2 _ ha _ (by omega), by2 _ hb _ (by omega), by2 _ hc _ (by omega)] at h2
  show (y &&& (51 + 256 * 51 + 65536 * 51 + 16777216 * 51)) + (y / 4 &&& (51 + 256 * 51 + 65536 * 51 + 16777216 * 51)) = _
  rw [h1, h2]
  unfold st2
  omega
theorem bc_3 {x0 x1 x2 x3 : Nat} (h0 : x0 < 256) (h1 : x1 < 256) (h2 : x2 < 256) (h3 : x3 < 256) {y : Nat} (e : y = st2 (st1 x0) + 256 * st2 (st1 x1) + 65536 * st2 (st1 x2) + 16777216 * st2 (st1 x3)) : (y + y / 16 &&& 252645135) = ct8 x0 + 256 * ct8 x1 + 65536 * ct8 x2 + 16777216 * ct8 x3 := by
  have l0 := st2_le x0 h0
  have l1 := st2_le x1 h1
  have l2 := st2_le x2 h2
  have l3 := st2_le x3 h3
  have m1 := st2_m x1 h1
  have m2 := st2_m x2 h2
  have m3 := st2_m x3 h3
  have h := and_4 (X := y + y / 16) (m := 15) (by omega) (st2 (st1 x0) + st2 (st1 x0) / 16 + 16 * (st2 (st1 x1) % 16)) (st2 (st1 x1) + st2 (st1 x1) / 16 + 16 * (st2 (st1 x2) % 16)) (st2 (st1 x2) + st2 (st1 x2) / 16 + 16 * (st2 (st1 x3) % 16)) (st2 (st1 x3) + st2 (st1 x3) / 16 + 16 * 0) (by omega) (by omega) (by omega) (by omega) (by decide) (by omega)
  rw [by3 x0 h0 _ (by omega), by3 x1 h1 _ (by omega), by3 x2 h2 _ (by omega), by3 x3 h3 _ (by omega)] at h
  exact h
theorem bc_4 {A B C D y : Nat} (hA : A ≤ 8) (hB : B ≤ 8) (hC : C ≤ 8) (hD : D ≤ 8) (e : y = A + 256 * B + 65536 * C + 16777216 * D) : ((y + y / 256) + (y + y / 256) / 65536) &&& 63 = A + B + C + D := by
  have h : ((y + y / 256) + (y + y / 256) / 65536) &&& 63 = ((y + y / 256) + (y + y / 256) / 65536) % 2 ^ 6 := Nat.and_two_pow_sub_one_eq_mod _ 6
  rw [h]
  have e1 : y / 256 = B + 256 * C + 65536 * D := by omega
  have e2 : (y + y / 256) / 65536 = C + D + 256 * D := by rw [e1, e]; omega
  rw [e2, e1, e]
  omega
theorem fb_ct_low (n m : Nat) : fb_ct (fun i => n.testBit i) m = fb_ct (fun i => (n % 2 ^ m).testBit i) m := fb_ct_cong (fun k hk => by rw [Nat.testBit_mod_two_pow]; simp [hk])
theorem bcn_ct (n : Nat) : bcn n = fb_ct (fun i => n.testBit i) 32 := by
  have key : ∀ (n m : Nat), fb_ct (fun i => n.testBit i) (8 + m) = ct8 (n % 256) + fb_ct (fun i => (n / 256).testBit i) m := by
    intro n m
    rw [fb_ct_split, fb_ct_low n 8]
    congr 1
    exact fb_ct_cong (fun k _ => by rw [show (256 : Nat) = 2 ^ 8 by decide, Nat.testBit_div_two_pow]; congr 1; omega)
  rw [show 32 = 8 + (8 + (8 + (8 + 0))) by decide, key, key, key, key]
  unfold bcn
  rw [Nat.div_div_eq_div_mul, Nat.div_div_eq_div_mul, Nat.div_div_eq_div_mul]
  simp [fb_ct]
  omega
/-! the ledger's own acts -/
def isAcc (acc : Nat) (p : Int32) : Bool := decide (¬ p < 0) && decide (¬ nI acc ≤ p)
theorem isAcc_t {acc : Nat} {p : Int32} (ha : acc < 2 ^ 31) (h : isAcc acc p = true) : ∃ b, b < acc ∧ p = nI b := by
  unfold isAcc at h
  rw [Bool.and_eq_true, decide_eq_true_eq, decide_eq_true_eq] at h
  obtain ⟨j, hj, rfl⟩ := nI_of h.1
  exact ⟨j, Nat.lt_of_not_le (fun q => h.2 (nI_le q hj)), rfl⟩
theorem isAcc_nI {acc b : Nat} (ha : acc < 2 ^ 31) (h : b < acc) : isAcc acc (nI b) = true := by
  unfold isAcc
  rw [Bool.and_eq_true, decide_eq_true_eq, decide_eq_true_eq]
  exact ⟨nI_pos (by omega), nI_ge h ha⟩
def sk (x : Nat → Nat) (b : Nat) : Nat := if (x 2).testBit b = true then 0 else 1
theorem sk_lt (x : Nat → Nat) (b : Nat) : sk x b < 2 := by unfold sk; split <;> omega
def sv (N : LN) (x : Nat → Nat) (b : Nat) : Nat := N (sk x b) b
def tN (N : LN) (x : Nat → Nat) (b : Nat) : LN := if (x 2).testBit b = true then N else va_up N 0 (va_up (N 0) b (N 1 b))
def tX (x : Nat → Nat) (b : Nat) : Nat → Nat := if (x 2).testBit b = true then x else va_up x 2 (x 2 ||| 2 ^ b)
theorem tN_at (N : LN) (x : Nat → Nat) (b : Nat) : tN N x b 0 b = sv N x b := by
  unfold tN sv sk
  split
  · rfl
  · rw [va_up_self, va_up_self]
theorem tX_ne (x : Nat → Nat) (b : Nat) {k : Nat} (h : k ≠ 2) : tX x b k = x k := by
  unfold tX
  split
  · rfl
  · rw [va_up_ne _ _ h]
theorem tX_bit (x : Nat → Nat) (b i : Nat) : (tX x b 2).testBit i = ((x 2).testBit i || decide (i = b)) := by
  unfold tX
  split
  · next h =>
    by_cases e : i = b
    · subst e; rw [h]; simp
    · simp [e]
  · rw [va_up_self, fb_bit_set]
theorem tX_lt {x : Nat → Nat} {b : Nat} (h : x 2 < 33554432) (hb : b < 25) : tX x b 2 < 33554432 := by
  unfold tX
  split
  · exact h
  · rw [va_up_self]
    exact Nat.or_lt_two_pow (n := 25) h (Nat.pow_lt_pow_right (by decide) hb)
theorem nOk_tN {lm : Nat} {N : LN} (h : nOk lm N) (x : Nat → Nat) (b : Nat) : nOk lm (tN N x b) := by
  unfold tN
  split
  · exact h
  · exact nOk_up h (h _ _)
def iN (N : LN) (x : Nat → Nat) (b : Nat) : LN := va_up (tN N x b) 0 (va_up (tN N x b 0) b (tN N x b 0 b + tX x b 0))
def eN (N : LN) (x : Nat → Nat) (b : Nat) : LN := va_up (tN N x b) 0 (va_up (tN N x b 0) b (tN N x b 0 b - tX x b 0))
theorem tN_ne (N : LN) (x : Nat → Nat) {b c : Nat} (h : c ≠ b) (k : Nat) : tN N x b k c = N k c := by
  unfold tN
  split
  · rfl
  · by_cases hk : k = 0
    · subst hk; rw [va_up_self, va_up_ne _ _ h]
    · rw [va_up_ne _ _ hk]
theorem sk_tX_ne (x : Nat → Nat) {b c : Nat} (h : c ≠ b) : sk (tX x b) c = sk x c := by
  unfold sk
  rw [tX_bit]
  simp [h]
theorem sk_tX (x : Nat → Nat) (b : Nat) : sk (tX x b) b = 0 := by
  unfold sk
  rw [tX_bit]
  simp
theorem sv_iN_ne (N : LN) (x : Nat → Nat) {b c : Nat} (h : c ≠ b) : sv (iN N x b) (tX x b) c = sv N x c := by
  unfold sv
  rw [sk_tX_ne x h]
  unfold iN
  by_cases hk : sk x c = 0
  · rw [hk, va_up_self, va_up_ne _ _ h, tN_ne N x h]
  · rw [va_up_ne _ _ hk, tN_ne N x h]
theorem sv_eN_ne (N : LN) (x : Nat → Nat) {b c : Nat} (h : c ≠ b) : sv (eN N x b) (tX x b) c = sv N x c := by
  unfold sv
  rw [sk_tX_ne x h]
  unfold eN
  by_cases hk : sk x c = 0
  · rw [hk, va_up_self, va_up_ne _ _ h, tN_ne N x h]
  · rw [va_up_ne _ _ hk, tN_ne N x h]
theorem sv_iN (N : LN) (x : Nat → Nat) (b : Nat) : sv (iN N x b) (tX x b) b = sv N x b + x 0 := by
  unfold sv
  rw [sk_tX]
  unfold iN
  rw [va_up_self, va_up_self, tN_at, tX_ne x b (by decide)]
  rfl
theorem sv_eN (N : LN) (x : Nat → Nat) (b : Nat) : sv (eN N x b) (tX x b) b = sv N x b - x 0 := by
  unfold sv
  rw [sk_tX]
  unfold eN
  rw [va_up_self, va_up_self, tN_at, tX_ne x b (by decide)]
  rfl
theorem sv_x1 (N : LN) (x : Nat → Nat) (b v : Nat) : sv N (va_up x 1 v) b = sv N x b := rfl
def ctb (T : Nat) : Nat := fb_ct (fun i => T.testBit i) 32
def cLose (x : Nat → Nat) : Nat → Nat := va_up (va_up x 2 0) 0 0
def cFormat (acc : Nat) (S : DS) : Int32 × DS := ((dLay acc (S.1, cLose S.2.1, S.2.2)).1, (dLay acc (S.1, cLose S.2.1, S.2.2)).2.1, (dLay acc (S.1, cLose S.2.1, S.2.2)).2.2.1, va_up (dLay acc (S.1, cLose S.2.1, S.2.2)).2.2.2 0 (dLay acc (S.1, cLose S.2.1, S.2.2)).1)
def cRecover (acc : Nat) (S : DS) : Int32 × DS := if S.2.2 1 = 0 then (0, S.1, cLose S.2.1, va_up S.2.2 0 0) else ((dHome acc (S.1, cLose S.2.1, S.2.2)).1, (dHome acc (S.1, cLose S.2.1, S.2.2)).2.1, (dHome acc (S.1, cLose S.2.1, S.2.2)).2.2.1, va_up (dHome acc (S.1, cLose S.2.1, S.2.2)).2.2.2 0 (dHome acc (S.1, cLose S.2.1, S.2.2)).1)
def cCommit (acc : Nat) (S : DS) : Int32 × DS := if S.2.2 0 = 0 then (6, S) else if (dLog (S.2.1 2) acc S).1 = 0 then (6, (dLog (S.2.1 2) acc S).2.1, cLose (dLog (S.2.1 2) acc S).2.2.1, va_up (dLog (S.2.1 2) acc S).2.2.2 0 0) else (0, (dLog (S.2.1 2) acc S).2.1, va_up (dLog (S.2.1 2) acc S).2.2.1 2 0, (dLog (S.2.1 2) acc S).2.2.2)
def cAbort (S : DS) : Int32 × DS := if S.2.2 0 = 0 then (0, S) else (1, S.1, va_up S.2.1 2 0, S.2.2)
def cClear (S : DS) : Int32 × DS := if S.2.2 0 = 0 then (0, S) else (1, S.1, va_up S.2.1 0 0, S.2.2)
def cAmLimb (lm : Nat) (p : Int32) (S : DS) : Int32 × DS := if S.2.2 0 = 0 then (0, S) else if p < 0 then (0, S) else if szF (S.2.1 0) (lm + 1) < lm then (1, S.1, va_up S.2.1 0 (S.2.1 0 * 2147483648 + p.toNatClampNeg), S.2.2) else (0, S)
def cDep (acc lm rm : Nat) (p : Int32) (S : DS) : Int32 × DS :=
  if S.2.2 0 = 0 then (6, S) else if ¬ isAcc acc p = true then (1, S) else
  if lm < szF (sv S.1 S.2.1 p.toNatClampNeg + S.2.1 0) (lm + 1) then (3, S.1, va_up S.2.1 1 (sv S.1 S.2.1 p.toNatClampNeg + S.2.1 0), S.2.2) else
  if ¬ ctb ((S.2.1 2 ||| 2 ^ p.toNatClampNeg) ||| 2 ^ acc) ≤ rm then (4, S.1, va_up S.2.1 1 (sv S.1 S.2.1 p.toNatClampNeg + S.2.1 0), S.2.2) else
  (0, iN (iN S.1 (va_up S.2.1 1 (sv S.1 S.2.1 p.toNatClampNeg + S.2.1 0)) p.toNatClampNeg) (tX (va_up S.2.1 1 (sv S.1 S.2.1 p.toNatClampNeg + S.2.1 0)) p.toNatClampNeg) acc, tX (tX (va_up S.2.1 1 (sv S.1 S.2.1 p.toNatClampNeg + S.2.1 0)) p.toNatClampNeg) acc, S.2.2)
def cWd (acc rm : Nat) (p : Int32) (S : DS) : Int32 × DS :=
  if S.2.2 0 = 0 then (6, S) else if ¬ isAcc acc p = true then (1, S) else
  if sv S.1 S.2.1 p.toNatClampNeg < S.2.1 0 then (2, S) else
  if ¬ ctb ((S.2.1 2 ||| 2 ^ p.toNatClampNeg) ||| 2 ^ acc) ≤ rm then (4, S) else
  (0, eN (eN S.1 S.2.1 p.toNatClampNeg) (tX S.2.1 p.toNatClampNeg) acc, tX (tX S.2.1 p.toNatClampNeg) acc, S.2.2)
def cTrX (p q : Int32) (S : DS) : Nat → Nat := if p = q then S.2.1 else va_up S.2.1 1 (sv S.1 S.2.1 q.toNatClampNeg + S.2.1 0)
def cTr (acc lm rm : Nat) (p q : Int32) (S : DS) : Int32 × DS :=
  if S.2.2 0 = 0 then (6, S) else if ¬ (isAcc acc p = true ∧ isAcc acc q = true) then (1, S) else
  if sv S.1 S.2.1 p.toNatClampNeg < S.2.1 0 then (2, S) else
  if ¬ p = q ∧ lm < szF (sv S.1 S.2.1 q.toNatClampNeg + S.2.1 0) (lm + 1) then (3, S.1, cTrX p q S, S.2.2) else
  if ¬ ctb ((S.2.1 2 ||| 2 ^ p.toNatClampNeg) ||| 2 ^ q.toNatClampNeg) ≤ rm then (4, S.1, cTrX p q S, S.2.2) else
  (0, iN (eN S.1 (cTrX p q S) p.toNatClampNeg) (tX (cTrX p q S) p.toNatClampNeg) q.toNatClampNeg, tX (tX (cTrX p q S) p.toNatClampNeg) q.toNatClampNeg, S.2.2)
def cPart (acc : Nat) (p q r : Int32) (S : DS) : Int32 × DS :=
  if S.2.2 0 = 0 then (6, S) else if ¬ isAcc acc p = true then (1, S) else
  if q < 0 ∨ r < q ∨ r < 1 then (5, S) else
  (0, S.1, va_up S.2.1 0 (sv S.1 S.2.1 p.toNatClampNeg * q.toNatClampNeg / r.toNatClampNeg), S.2.2)
def cStop (p : Int32) (S : DS) : DS := (S.1, S.2.1, va_up S.2.2 3 (if p < 0 then -1 else p))

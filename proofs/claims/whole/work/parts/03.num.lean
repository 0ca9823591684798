/-! limbs to the base 2^31 -/
def lbN (v i : Nat) : Nat := v / 2147483648 ^ i % 2147483648
def lb (v : Nat) : Nat → Int32 := fun i => nI (lbN v i)
def szF (v : Nat) : Nat → Nat
  | 0 => 0
  | n + 1 => if lbN v n = 0 then szF v n else n + 1
theorem lbN_lt (v i : Nat) : lbN v i < 2147483648 := Nat.mod_lt _ (by decide)
theorem lbN_lt' (v i : Nat) : lbN v i < 2 ^ 31 := Nat.mod_lt _ (by decide)
theorem bp_pos (i : Nat) : 0 < 2147483648 ^ i := Nat.pow_pos (by decide)
theorem lbN_split (v i : Nat) : v / 2147483648 ^ i = v / 2147483648 ^ (i + 1) * 2147483648 + lbN v i := by
  unfold lbN
  rw [Nat.pow_succ, ← Nat.div_div_eq_div_mul]
  omega
theorem lbN_mod (v i : Nat) : v % 2147483648 ^ (i + 1) = v % 2147483648 ^ i + 2147483648 ^ i * lbN v i := by
  unfold lbN
  rw [Nat.pow_succ, Nat.mod_mul]
theorem lbN_zero {v w i : Nat} (h : v < 2147483648 ^ w) (hi : w ≤ i) : lbN v i = 0 := by
  unfold lbN
  rw [Nat.div_eq_of_lt (Nat.lt_of_lt_of_le h (Nat.pow_le_pow_right (by decide) hi))]
theorem szF_le (v : Nat) : ∀ n, szF v n ≤ n
  | 0 => Nat.le_refl 0
  | n + 1 => by
    have := szF_le v n
    unfold szF
    split <;> omega
theorem szF_beyond (v : Nat) : ∀ (n i : Nat), szF v n ≤ i → i < n → lbN v i = 0
  | 0, i, _, h => absurd h (Nat.not_lt_zero i)
  | n + 1, i, h1, h2 => by
    unfold szF at h1
    split at h1
    · next h0 =>
      rcases Nat.lt_or_ge i n with q | q
      · exact szF_beyond v n i h1 q
      · have : i = n := by omega
        rw [this]; exact h0
    · omega
theorem szF_down {v n : Nat} (h : lbN v n = 0) : szF v (n + 1) = szF v n := by
  rw [szF, if_pos h]
theorem szF_stop {v n : Nat} (h : ¬ lbN v n = 0) : szF v (n + 1) = n + 1 := by
  rw [szF, if_neg h]
theorem szF_wide {v w : Nat} (h : v < 2147483648 ^ w) : ∀ k, szF v (w + k) = szF v w
  | 0 => rfl
  | k + 1 => by
    rw [show w + (k + 1) = (w + k) + 1 by omega, szF_down (lbN_zero h (by omega)), szF_wide h k]
theorem szF_lt {v : Nat} : ∀ n, v < 2147483648 ^ n → v < 2147483648 ^ szF v n
  | 0, h => h
  | n + 1, h => by
    by_cases h0 : lbN v n = 0
    · rw [szF_down h0]
      refine szF_lt n ?_
      have h1 := lbN_split v n
      rw [Nat.div_eq_of_lt h, h0] at h1
      rcases Nat.lt_or_ge v (2147483648 ^ n) with q | q
      · exact q
      · have := (Nat.le_div_iff_mul_le (bp_pos n)).mpr (by rw [Nat.one_mul]; exact q)
        omega
    · rw [szF_stop h0]; exact h
theorem szF_le_of {v : Nat} {m : Nat} (h : v < 2147483648 ^ m) : ∀ n, szF v n ≤ m
  | 0 => Nat.zero_le m
  | n + 1 => by
    by_cases h0 : lbN v n = 0
    · rw [szF_down h0]; exact szF_le_of h n
    · rw [szF_stop h0]
      rcases Nat.lt_or_ge n m with q | q
      · exact q
      · exact absurd (lbN_zero h q) h0
theorem szF_le_iff {v m n : Nat} (hv : v < 2147483648 ^ n) : szF v n ≤ m ↔ v < 2147483648 ^ m := by
  constructor
  · intro h
    exact Nat.lt_of_lt_of_le (szF_lt n hv) (Nat.pow_le_pow_right (by decide) h)
  · intro h
    exact szF_le_of h n
theorem szF_0 (v : Nat) : ∀ n, v < 2147483648 ^ n → (szF v n = 0 ↔ v = 0) := by
  intro n h
  constructor
  · intro h0
    have := szF_lt n h
    rw [h0] at this
    omega
  · intro h0
    subst h0
    have := szF_le_of (v := 0) (m := 0) (by decide) n
    omega
theorem szF_zero (n : Nat) : szF 0 n = 0 := (szF_0 0 n (bp_pos n)).mpr rfl
theorem lbN_of_zero (i : Nat) : lbN 0 i = 0 := by unfold lbN; rw [Nat.zero_div]
/-- equal limbs, equal numbers -/
theorem lbN_ext {v u : Nat} : ∀ w, v < 2147483648 ^ w → u < 2147483648 ^ w → (∀ i, i < w → lbN v i = lbN u i) → v = u := by
  intro w hv hu h
  have key : ∀ k, k ≤ w → v % 2147483648 ^ k = u % 2147483648 ^ k := by
    intro k
    induction k with
    | zero => intro _; rw [Nat.pow_zero, Nat.mod_one, Nat.mod_one]
    | succ k ih => intro hk; rw [lbN_mod, lbN_mod, ih (by omega), h k (by omega)]
  have := key w (Nat.le_refl w)
  rwa [Nat.mod_eq_of_lt hv, Nat.mod_eq_of_lt hu] at this
/-! the sum, limb by limb -/
def cyA (v a i : Nat) : Nat := (v % 2147483648 ^ i + a % 2147483648 ^ i) / 2147483648 ^ i
theorem cyA_0 (v a : Nat) : cyA v a 0 = 0 := by simp [cyA, Nat.mod_one]
theorem cyA_lt (v a i : Nat) : cyA v a i < 2 := by
  unfold cyA
  have h1 := Nat.mod_lt v (bp_pos i)
  have h2 := Nat.mod_lt a (bp_pos i)
  rw [Nat.div_lt_iff_lt_mul (bp_pos i)]
  omega
theorem add_limb (v a i : Nat) : (cyA v a i + lbN v i + lbN a i) % 2147483648 = lbN (v + a) i := by
  have hP := bp_pos i
  have h1 : (v + a) / 2147483648 ^ i = v / 2147483648 ^ i + a / 2147483648 ^ i + cyA v a i := by
    unfold cyA
    generalize 2147483648 ^ i = P at hP
    conv => lhs; rw [← Nat.div_add_mod v P, ← Nat.div_add_mod a P]
    rw [show P * (v / P) + v % P + (P * (a / P) + a % P) = (v % P + a % P) + P * (v / P + a / P) by rw [Nat.mul_add]; omega]
    rw [Nat.add_mul_div_left _ _ hP]
    omega
  unfold lbN
  rw [h1]
  omega
theorem add_carry (v a i : Nat) : (cyA v a i + lbN v i + lbN a i) / 2147483648 = cyA v a (i + 1) := by
  have hP := bp_pos i
  have e : cyA v a (i + 1) = ((v % 2147483648 ^ i + a % 2147483648 ^ i) + 2147483648 ^ i * (lbN v i + lbN a i)) / (2147483648 ^ i * 2147483648) := by
    unfold cyA
    rw [lbN_mod, lbN_mod, Nat.pow_succ, Nat.mul_add]
    congr 1
    omega
  rw [e, ← Nat.div_div_eq_div_mul, Nat.add_mul_div_left _ _ hP]
  unfold cyA
  congr 1
  omega
/-! the difference -/
def cyS (v a i : Nat) : Nat := if v % 2147483648 ^ i < a % 2147483648 ^ i then 1 else 0
theorem cyS_0 (v a : Nat) : cyS v a 0 = 0 := by simp [cyS, Nat.mod_one]
theorem cyS_lt (v a i : Nat) : cyS v a i < 2 := by unfold cyS; split <;> omega
theorem sub_quot {v a : Nat} (h : a ≤ v) (i : Nat) : (v - a) / 2147483648 ^ i + a / 2147483648 ^ i + cyS v a i = v / 2147483648 ^ i := by
  have hP := bp_pos i
  unfold cyS
  generalize 2147483648 ^ i = P at hP
  have e1 := Nat.div_add_mod v P
  have e2 := Nat.div_add_mod a P
  have l1 := Nat.mod_lt v hP
  have l2 := Nat.mod_lt a hP
  split
  · next hl =>
    have hq : a / P < v / P := by
      rcases Nat.lt_or_ge (a / P) (v / P) with q | q
      · exact q
      · have := Nat.mul_le_mul_left P q
        omega
    have e3 : v - a = P * (v / P - a / P - 1) + (v % P + P - a % P) := by
      have : P * (v / P) = P * (v / P - a / P - 1) + P * (a / P) + P := by
        conv => lhs; rw [show v / P = (v / P - a / P - 1) + a / P + 1 by omega]
        rw [Nat.mul_add, Nat.mul_add, Nat.mul_one]
      omega
    rw [e3, Nat.mul_add_div hP, Nat.div_eq_of_lt (by omega : v % P + P - a % P < P)]
    omega
  · next hl =>
    have hq : a / P ≤ v / P := Nat.div_le_div_right h
    have e3 : v - a = P * (v / P - a / P) + (v % P - a % P) := by
      have : P * (v / P) = P * (v / P - a / P) + P * (a / P) := by
        conv => lhs; rw [show v / P = (v / P - a / P) + a / P by omega]
        rw [Nat.mul_add]
      omega
    rw [e3, Nat.mul_add_div hP, Nat.div_eq_of_lt (by omega : v % P - a % P < P)]
    omega
theorem sub_limb {v a : Nat} (h : a ≤ v) (i : Nat) : ((lbN v i : Int) - lbN a i - cyS v a i) % 2147483648 = lbN (v - a) i := by
  have := sub_quot h i
  unfold lbN
  omega
theorem sub_borrow (v a i : Nat) : ((lbN v i : Int) - lbN a i - cyS v a i < 0) ↔ cyS v a (i + 1) = 1 := by
  have hP := bp_pos i
  unfold cyS
  rw [lbN_mod, lbN_mod]
  have l1 := Nat.mod_lt v hP
  have l2 := Nat.mod_lt a hP
  generalize 2147483648 ^ i = P at hP l1 l2
  generalize lbN v i = x
  generalize lbN a i = y
  rcases Nat.lt_trichotomy x y with q | q | q
  · have := Nat.mul_le_mul_left P q
    rw [Nat.mul_succ] at this
    have h1 : v % P + P * x < a % P + P * y := by omega
    rw [if_pos h1]
    split <;> omega
  · subst q
    by_cases h1 : v % P < a % P
    · rw [if_pos h1, if_pos (by omega)]; omega
    · rw [if_neg h1, if_neg (by omega)]; omega
  · have := Nat.mul_le_mul_left P q
    rw [Nat.mul_succ] at this
    have h1 : ¬ v % P + P * x < a % P + P * y := by omega
    rw [if_neg h1]
    split <;> omega
/-! the product by a small number -/
def cyM (v p i : Nat) : Nat := v % 2147483648 ^ i * p / 2147483648 ^ i
theorem cyM_0 (v p : Nat) : cyM v p 0 = 0 := by simp [cyM, Nat.mod_one]
theorem cyM_le (v p i : Nat) : cyM v p i ≤ p := by
  unfold cyM
  have h1 := Nat.mod_lt v (bp_pos i)
  have h2 : v % 2147483648 ^ i * p ≤ 2147483648 ^ i * p := Nat.mul_le_mul_right p (Nat.le_of_lt h1)
  calc v % 2147483648 ^ i * p / 2147483648 ^ i ≤ 2147483648 ^ i * p / 2147483648 ^ i := Nat.div_le_div_right h2
    _ = p := Nat.mul_div_cancel_left p (bp_pos i)
theorem mul_limb (v p i : Nat) : (lbN v i * p + cyM v p i) % 2147483648 = lbN (v * p) i := by
  have hP := bp_pos i
  have h1 : (v * p) / 2147483648 ^ i = v / 2147483648 ^ i * p + cyM v p i := by
    unfold cyM
    generalize 2147483648 ^ i = P at hP
    conv => lhs; rw [← Nat.div_add_mod v P]
    rw [Nat.add_mul, Nat.mul_assoc, Nat.mul_add_div hP]
  have h2 : lbN (v * p) i = (v / 2147483648 ^ i * p + cyM v p i) % 2147483648 := by
    show (v * p) / 2147483648 ^ i % 2147483648 = _
    rw [h1]
  rw [h2, Nat.add_mod, Nat.mul_mod, lbN, Nat.mod_mod, ← Nat.mul_mod, ← Nat.add_mod]
theorem mul_carry (v p i : Nat) : (lbN v i * p + cyM v p i) / 2147483648 = cyM v p (i + 1) := by
  have hP := bp_pos i
  have e : cyM v p (i + 1) = (v % 2147483648 ^ i * p + 2147483648 ^ i * (lbN v i * p)) / (2147483648 ^ i * 2147483648) := by
    unfold cyM
    rw [lbN_mod, Nat.pow_succ, Nat.add_mul, Nat.mul_assoc]
  rw [e, ← Nat.div_div_eq_div_mul, Nat.add_mul_div_left _ _ hP]
  unfold cyM
  rw [Nat.add_comm]
/-! the quotient, from the top -/
def rmD (v q i : Nat) : Nat := v / 2147483648 ^ i % q
theorem rmD_top {v w : Nat} (h : v < 2147483648 ^ w) (q : Nat) : rmD v q w = 0 := by
  unfold rmD
  rw [Nat.div_eq_of_lt h, Nat.zero_mod]
theorem rmD_lt (v i : Nat) {q : Nat} (hq : 0 < q) : rmD v q i < q := Nat.mod_lt _ hq
theorem div_rem (v q i : Nat) : (rmD v q (i + 1) * 2147483648 + lbN v i) % q = rmD v q i := by
  unfold rmD
  rw [lbN_split v i]
  generalize v / 2147483648 ^ (i + 1) = X
  generalize lbN v i = x
  rw [Nat.add_mod, Nat.mul_mod, Nat.mod_mod, ← Nat.mul_mod, ← Nat.add_mod]
theorem div_lt (v i : Nat) {q : Nat} (hq : 0 < q) : (rmD v q (i + 1) * 2147483648 + lbN v i) / q < 2147483648 := by
  have h1 := rmD_lt v (i + 1) hq
  have h2 := lbN_lt v i
  rw [Nat.div_lt_iff_lt_mul hq]
  have h3 : (rmD v q (i + 1) + 1) * 2147483648 ≤ q * 2147483648 := Nat.mul_le_mul_right _ h1
  rw [Nat.mul_comm 2147483648 q]
  omega
theorem div_limb (v i : Nat) {q : Nat} (hq : 0 < q) : (rmD v q (i + 1) * 2147483648 + lbN v i) / q = lbN (v / q) i := by
  have h0 := div_lt v i hq
  have e : (v / 2147483648 ^ i) / q = v / 2147483648 ^ (i + 1) / q * 2147483648 + (rmD v q (i + 1) * 2147483648 + lbN v i) / q := by
    rw [lbN_split v i]
    unfold rmD
    generalize v / 2147483648 ^ (i + 1) = X
    generalize lbN v i = x
    conv => lhs; rw [← Nat.div_add_mod X q]
    rw [show (q * (X / q) + X % q) * 2147483648 + x = (X % q * 2147483648 + x) + q * (X / q * 2147483648) by
      rw [Nat.add_mul, Nat.mul_assoc]; omega]
    rw [Nat.add_mul_div_left _ _ hq]
    omega
  have e2 : lbN (v / q) i = (v / 2147483648 ^ i) / q % 2147483648 := by
    show v / q / 2147483648 ^ i % 2147483648 = _
    rw [Nat.div_div_eq_div_mul, Nat.mul_comm q, ← Nat.div_div_eq_div_mul]
  rw [e2, e]
  generalize (rmD v q (i + 1) * 2147483648 + lbN v i) / q = y at h0 ⊢
  generalize v / 2147483648 ^ (i + 1) / q = z
  omega
theorem rmD_0 (v q : Nat) : rmD v q 0 = v % q := by simp [rmD]
/-! comparison, from the top -/
theorem cmp_lt {v u i : Nat} (h : v / 2147483648 ^ (i + 1) = u / 2147483648 ^ (i + 1)) (hl : lbN v i < lbN u i) : v < u := by
  rcases Nat.lt_or_ge v u with q | q
  · exact q
  · have h1 : u / 2147483648 ^ i ≤ v / 2147483648 ^ i := Nat.div_le_div_right q
    rw [lbN_split v i, lbN_split u i, h] at h1
    omega
theorem cmp_eq {v u i : Nat} (h : v / 2147483648 ^ (i + 1) = u / 2147483648 ^ (i + 1)) (hl : lbN v i = lbN u i) : v / 2147483648 ^ i = u / 2147483648 ^ i := by
  rw [lbN_split v i, lbN_split u i, h, hl]
theorem cmp_top {v u w : Nat} (hv : v < 2147483648 ^ w) (hu : u < 2147483648 ^ w) : v / 2147483648 ^ w = u / 2147483648 ^ w := by
  rw [Nat.div_eq_of_lt hv, Nat.div_eq_of_lt hu]
theorem cmp_0 {v u : Nat} (h : v / 2147483648 ^ 0 = u / 2147483648 ^ 0) : v = u := by simpa using h
/-! one limb more at the bottom -/
theorem app_0 (v : Nat) {x : Nat} (hx : x < 2147483648) : lbN (v * 2147483648 + x) 0 = x := by
  unfold lbN
  rw [Nat.pow_zero, Nat.div_one]
  omega
theorem app_s (v i : Nat) {x : Nat} (hx : x < 2147483648) : lbN (v * 2147483648 + x) (i + 1) = lbN v i := by
  unfold lbN
  rw [Nat.pow_succ, Nat.mul_comm (2147483648 ^ i), ← Nat.div_div_eq_div_mul]
  congr 2
  omega
/-! rows filled from below, from above -/
def fl (g f : Nat → Int32) (i : Nat) : Nat → Int32 := fun k => if k < i then g k else f k
def fd (g f : Nat → Int32) (i : Nat) : Nat → Int32 := fun k => if k < i then f k else g k
theorem fl_0 (g f : Nat → Int32) : fl g f 0 = f := by funext k; simp [fl]
theorem fl_hi {g f : Nat → Int32} {i k : Nat} (h : i ≤ k) : fl g f i k = f k := by simp [fl, Nat.not_lt.mpr h]
theorem fl_lo {g f : Nat → Int32} {i k : Nat} (h : k < i) : fl g f i k = g k := by simp [fl, h]
theorem fl_s {g f : Nat → Int32} {i : Nat} {x : Int32} (h : x = g i) : upd (fl g f i) i x = fl g f (i + 1) := by
  subst h
  funext k
  simp only [upd, fl]
  by_cases h1 : k = i
  · subst h1; simp
  · by_cases h2 : k < i
    · simp [h1, h2, Nat.lt_succ_of_lt h2]
    · have h3 : ¬ k < i + 1 := by omega
      simp [h1, h2, h3]
theorem fd_lo {g f : Nat → Int32} {i k : Nat} (h : k < i) : fd g f i k = f k := by simp [fd, h]
theorem fd_0 (g f : Nat → Int32) : fd g f 0 = g := by funext k; simp [fd]
theorem fd_s {g f : Nat → Int32} {i : Nat} {x : Int32} (h : x = g i) : upd (fd g f (i + 1)) i x = fd g f i := by
  subst h
  funext k
  simp only [upd, fd]
  by_cases h1 : k = i
  · subst h1; simp
  · by_cases h2 : k < i
    · simp [h1, h2, Nat.lt_succ_of_lt h2]
    · have h3 : ¬ k < i + 1 := by omega
      simp [h1, h2, h3]

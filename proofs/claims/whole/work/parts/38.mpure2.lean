def rvF (v n : Nat) (ou : Nat → Int32) (i : Nat) : Nat → Int32 := fun k => if k < n then (if k < i ∨ n ≤ k + i then dgI v (n - 1 - k) else dgI v k) else ou k
theorem rvF_0 (v n : Nat) (ou : Nat → Int32) : rvF v n ou 0 = fl (dgI v) ou n := by
  funext k
  unfold rvF fl
  by_cases h : k < n
  · rw [if_pos h, if_pos h, if_neg (by omega)]
  · rw [if_neg h, if_neg h]
theorem rvF_mid {v n : Nat} {ou : Nat → Int32} {i k : Nat} (hk : k < n) (h1 : ¬ k < i) (h2 : ¬ n ≤ k + i) : rvF v n ou i k = dgI v k := by
  unfold rvF
  rw [if_pos hk, if_neg (by omega)]
theorem rvF_s {v n : Nat} {ou : Nat → Int32} {i : Nat} (hi : i < n - 1 - i) : upd (upd (rvF v n ou i) i (dgI v (n - 1 - i))) (n - 1 - i) (dgI v i) = rvF v n ou (i + 1) := by
  funext k
  unfold upd rvF
  by_cases h1 : k = n - 1 - i
  · rw [if_pos h1, if_pos (by omega), if_pos (by omega)]
    congr 1
    omega
  · rw [if_neg h1]
    by_cases h2 : k = i
    · rw [if_pos h2, if_pos (by omega), if_pos (by omega), h2]
    · rw [if_neg h2]
      by_cases h3 : k < n
      · rw [if_pos h3, if_pos h3]
        by_cases h4 : k < i ∨ n ≤ k + i
        · rw [if_pos h4, if_pos (by omega)]
        · rw [if_neg h4, if_neg (by omega)]
      · rw [if_neg h3, if_neg h3]
def rvO (v n : Nat) (ou : Nat → Int32) : Nat → Int32 := fun k => if k < n then dgI v (n - 1 - k) else ou k
theorem rvF_end {v n : Nat} {ou : Nat → Int32} {i : Nat} (hi : n - 1 - i ≤ i) : rvF v n ou i = rvO v n ou := by
  funext k
  unfold rvF rvO
  by_cases h : k < n
  · rw [if_pos h, if_pos h]
    by_cases h2 : k < i ∨ n ≤ k + i
    · rw [if_pos h2]
    · rw [if_neg h2]
      congr 1
      omega
  · rw [if_neg h, if_neg h]
theorem nar_dg (v i : Nat) : vp_nar .byte (dgI v i) = dgI v i := dg_nar v i
abbrev MX : Type := MS × (Nat → Int32) × (Nat → Int32)
def mWt (acc : Nat) (p : Int32) (S : MS) (wk ou : Nat → Int32) (r : Int32) (u : MX) : Prop :=
  if S.2.2.2 1 = 0 ∨ ¬ isAcc acc p = true then r = -1 ∧ u = (setY S 0 0, wk, ou) else
  ∃ n, isNd (S.1 0 p.toNatClampNeg) n ∧ r = nI n ∧ u.1 = setY (setY S 0 0) 6 (nI n) ∧ u.2.2 = rvO (S.1 0 p.toNatClampNeg) n ou
theorem mWt_no {acc : Nat} {p : Int32} {S : MS} {wk ou : Nat → Int32} (h : S.2.2.2 1 = 0 ∨ ¬ isAcc acc p = true) : mWt acc p S wk ou (-1) (setY S 0 0, wk, ou) := by
  unfold mWt
  rw [if_pos h]
  exact ⟨rfl, rfl⟩
theorem mWt_yes {acc b n : Nat} {S : MS} {wk ou wk' : Nat → Int32} (h0 : ¬ S.2.2.2 1 = 0) (ha : isAcc acc (nI b) = true) (eb : (nI b).toNatClampNeg = b) (hn : isNd (S.1 0 b) n) : mWt acc (nI b) S wk ou (nI n) (setY (setY S 0 0) 6 (nI n), wk', rvO (S.1 0 b) n ou) := by
  unfold mWt
  rw [if_neg (by rintro (q | q); exact h0 q; exact q ha), eb]
  exact ⟨n, hn, rfl, rfl, rfl⟩
def mCount (acc lm rm : Nat) (p : Int32) (S : MS) : Int32 :=
  if p = 0 then nI acc else if p = 1 then nI lm else if p = 2 then nI rm else if p = 3 then S.2.2.2 4 else if p = 4 then (if S.2.2.2 1 = 0 then 0 else 1) else if p = 5 then nI (fb_ct (S.2.2.1 0) 25) else if p = 6 then S.2.2.2 5 else
  if p = 7 then (if S.2.2.2 1 = 0 then 0 else nI (szF (S.1 0 24) 22)) else if p = 8 then nI (szF S.2.1 22) else -1
def fm (g f : Nat → Int32) (n i : Nat) : Nat → Int32 := fun j => if i ≤ j ∧ j < n then g j else f j
theorem fm_top (g f : Nat → Int32) (n : Nat) : fm g f n n = f := by
  funext j
  unfold fm
  rw [if_neg (by omega)]
theorem fm_lo {g f : Nat → Int32} {n i k : Nat} (h : k < i) : fm g f n i k = f k := by
  unfold fm
  rw [if_neg (by omega)]
theorem fm_in {g f : Nat → Int32} {n k : Nat} (h : k < n) : fm g f n 0 k = g k := by
  unfold fm
  rw [if_pos ⟨by omega, h⟩]
theorem fm_s {g f : Nat → Int32} {n k : Nat} {x : Int32} (h : x = g k) (hk : k < n) : upd (fm g f n (k + 1)) k x = fm g f n k := by
  subst h
  funext j
  unfold upd fm
  by_cases h1 : j = k
  · subst h1; rw [if_pos rfl, if_pos ⟨by omega, hk⟩]
  · rw [if_neg h1]
    by_cases h2 : k ≤ j ∧ j < n
    · rw [if_pos h2, if_pos (by omega)]
    · rw [if_neg h2, if_neg (by omega)]
theorem dec200 {v lm : Nat} (h : v < 2147483648 ^ lm) (hl : lm ≤ 20) : v / 10 ^ 200 = 0 := by
  have h1 := dec_bound h
  have h2 : v < 10 ^ (lm * 10) := (Nat.div_eq_zero_iff_lt (Nat.pow_pos (by decide))).mp h1
  exact Nat.div_eq_of_lt (Nat.lt_of_lt_of_le h2 (Nat.pow_le_pow_right (by decide) (by omega)))

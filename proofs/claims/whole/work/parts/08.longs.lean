theorem l_mask (n : Nat) : lN n &&& 2147483647 = lN (n % 2147483648) := fb_maskL n 31
theorem l_ushr31 {n : Nat} (h : n < 2 ^ 62) : ((lN n).toUInt64 >>> ((31 : Int32).toInt64.toUInt64 &&& Int64.toUInt64 63)).toInt64 = lN (n / 2147483648) := pf_ushr (d := 31) (by decide) h
theorem l_shl31 {n : Nat} (h : n < 2 ^ 64) : lN n <<< ((31 : Int32).toInt64 &&& 63) = lN (n * 2147483648) := g_shl (k := 31) (by decide) (by decide) (by decide) h
theorem lb_l (v i : Nat) : (lb v i).toInt64 = lN (lbN v i) := nI_l (lbN_lt' v i)
/-- two's complement: the low 31 bits of a difference -/
theorem l_mask_neg {x : Int64} {z : Int} (hx : x.toInt = z) (hz : -2147483649 ≤ z) (hz2 : z < 2147483648) : (x &&& 2147483647).toInt32 = nI (z % 2147483648).toNat := by
  by_cases h0 : 0 ≤ z
  · obtain ⟨n, rfl⟩ : ∃ n : Nat, z = n := ⟨z.toNat, by omega⟩
    have e : x = lN n := by
      rw [fa_eq64, hx, pk_lT (by omega)]
    rw [e, l_mask, lN_i]
    congr 1
  · have e : x = lN (2 ^ 64 - z.natAbs) := by
      rw [fa_eq64, hx, lN_ti (by omega)]
      rw [if_neg (by omega)]
      omega
    rw [e, l_mask, lN_i]
    congr 1
    omega
theorem ro2 {A : Nat → Prop} {x y : Nat} {e f : va_E} (h1 : ¬ A x) (h2 : ¬ A y) : ∀ q ∈ ([(x, e), (y, f)] : va_W), ¬ A q.1 := by
  intro q hq
  rcases List.mem_cons.mp hq with rfl | hq
  · exact h1
  · rw [List.mem_singleton.mp hq]; exact h2
theorem pB_at {D : va_G} {cl : List vw_C} {ws : va_W} {t : State} {H : Heap} (ht : t.heap = H) (h : va_P D cl ws t.heap) : va_P D cl ws H := by rw [← ht]; exact h
theorem if_nI {v i : Nat} (h : i < 2 ^ 31) : (if nI i < 0 then (0 : Int32) else lb v (nI i).toNatClampNeg) = lb v i := by rw [if_neg (nI_pos h), nI_clamp h]
theorem lN_neg1 : (lN 0 : Int64) = 0 := rfl
theorem lbN_add_ext {r : Nat} {g : Nat → Int32} {w : Nat} (h : ∀ k, k < w → g k = lb r k) : ∀ k, k < w → g k = lb r k := h
theorem l_dif {x y b : Nat} (hx : x < 2147483648) (hy : y < 2147483648) (hb : b < 2) : (lN x - lN y - lN b).toInt = (x : Int) - y - b := by
  have e1 : (lN x).toInt = x := pk_lT (by omega)
  have e2 : (lN y).toInt = y := pk_lT (by omega)
  have e3 : (lN b).toInt = b := pk_lT (by omega)
  have e4 : (lN x - lN y).toInt = (x : Int) - y := by rw [fb_subL (by omega) (by omega), e1, e2]
  rw [fb_subL (by omega) (by omega), e4, e3]
theorem l_cmp_ge {x : Int64} {z : Int} (hx : x.toInt = z) (h : 0 ≤ lg_cmp x 0) : ¬ z < 0 := by
  intro hz
  have h1 : x < 0 := by rw [fa_lt64, hx]; exact hz
  have h2 : ¬ x > 0 := by
    show ¬ (0 < x)
    rw [fa_lt64, hx]
    show ¬ (0 < z)
    omega
  have h3 : ¬ x = 0 := by
    rw [fa_eq64, hx]
    show ¬ z = 0
    omega
  unfold lg_cmp at h
  rw [if_neg h2, if_neg h3] at h
  exact absurd h (by decide)
theorem l_cmp_lt {x : Int64} {z : Int} (hx : x.toInt = z) (h : ¬ 0 ≤ lg_cmp x 0) : z < 0 := by
  rcases Int.lt_or_le z 0 with q | q
  · exact q
  · exfalso
    apply h
    unfold lg_cmp
    by_cases h1 : x > 0
    · rw [if_pos h1]; decide
    · rw [if_neg h1]
      have h2 : x = 0 := by
        rw [fa_eq64, hx]
        show z = 0
        have h3 : ¬ (0 < z) := by
          intro h4
          apply h1
          show 0 < x
          rw [fa_lt64, hx]
          exact h4
        omega
      rw [if_pos h2]; decide
theorem cyS_z {v u i : Nat} (h : ¬ cyS v u i = 1) : cyS v u i = 0 := by
  have := cyS_lt v u i
  omega
theorem i_m1 (x : Int32) : x + Int32.ofInt (-1) = x - 1 := by
  rw [Int32.sub_eq_add_neg]
  exact congrArg (x + ·) (by decide)

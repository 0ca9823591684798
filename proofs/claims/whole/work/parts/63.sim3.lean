/-! the other acts -/
section SIM
variable {acc lm rm : Nat} {w : Int32} {S S0 : DS} {U U0 : MS}
theorem tN_1 (N : LN) (x : Nat → Nat) (b : Nat) {k : Nat} (h : k ≠ 0) : tN N x b k = N k := by
  unfold tN
  split
  · rfl
  · rw [va_up_ne _ _ h]
theorem iN_1 (N : LN) (x : Nat → Nat) (b : Nat) {k : Nat} (h : k ≠ 0) : iN N x b k = N k := by
  unfold iN
  rw [va_up_ne _ _ h, tN_1 N x b h]
theorem eN_1 (N : LN) (x : Nat → Nat) (b : Nat) {k : Nat} (h : k ≠ 0) : eN N x b k = N k := by
  unfold eN
  rw [va_up_ne _ _ h, tN_1 N x b h]
theorem iN_0 (N : LN) (x : Nat → Nat) (b c : Nat) : iN N x b 0 c = if c = b then sv N x b + x 0 else N 0 c := by
  unfold iN
  rw [va_up_self]
  by_cases h : c = b
  · subst h; rw [va_up_self, if_pos rfl, tN_at, tX_ne x c (by decide)]
  · rw [va_up_ne _ _ h, if_neg h, tN_ne N x h]
theorem eN_0 (N : LN) (x : Nat → Nat) (b c : Nat) : eN N x b 0 c = if c = b then sv N x b - x 0 else N 0 c := by
  unfold eN
  rw [va_up_self]
  by_cases h : c = b
  · subst h; rw [va_up_self, if_pos rfl, tN_at, tX_ne x c (by decide)]
  · rw [va_up_ne _ _ h, if_neg h, tN_ne N x h]
/-- the rows home and log as they were, the pending row within bounds -/
theorem Dk_p {N' : LN} {x' : Nat → Nat} {M' : LN} {am : Nat} {t : Nat → Bool} (hD : Dk acc lm w S U) (h1 : N' 1 = S.1 1) (h2 : N' 2 = S.1 2) (hx : x' 3 = S.2.1 3) (m1 : M' 1 = U.1 1) (m2 : M' 2 = U.1 2) (hb : ∀ k b, b < acc → N' k b < 2147483648 ^ lm) (hn : nOk lm N') : Dk acc lm w (N', x', S.2.2) (M', am, va_up U.2.2.1 0 t, U.2.2.2) := by
  obtain ⟨a0, b0, c, d, e, f, g, i, j⟩ := hD
  have he : ∀ k, eff N' x' k = eff S.1 S.2.1 k := fun k => by unfold eff; rw [hx, h1, h2]
  refine ⟨a0, fun b hb => ?_, ?_, ?_, ?_, hb, hn, fun a q1 q2 => ?_, fun q => ?_⟩
  · show N' 1 b = M' 1 (mi acc b)
    rw [h1, m1]; exact b0 b hb
  · show x' 3 = 0 ↔ _
    rw [hx]; exact c
  · show ¬ x' 3 = 0 → (∀ b, b ≤ acc → (x' 3).testBit b = U.2.2.1 1 (mi acc b) ∧ ((x' 3).testBit b = true → N' 2 b = M' 2 (mi acc b))) ∧ _
    rw [hx, h2, m2]; exact d
  · show x' 3 < _
    rw [hx]; exact e
  · show M' 1 a = 0
    rw [m1]; exact i a q1 q2
  · show eff N' x' acc = fb_sm (eff N' x') acc
    rw [he, j q]
    exact (fb_sm_cong (fun k _ => he k)).symm
theorem tX_2 {x : Nat → Nat} {b : Nat} {T : Nat → Bool} (ha : acc ≤ 24) (h : tRel acc (x 2) T) (hb : b ≤ acc) : tRel acc (tX x b 2) (va_up T (mi acc b) true) := by
  have h2 := tRel_set ha h hb
  unfold tX
  split
  · next q =>
    refine ⟨h.1, fun c hc => ?_, h2.2.2⟩
    rw [← h2.2.1 c hc, fb_bit_set]
    by_cases e : c = b
    · subst e; rw [q]; simp
    · simp [e]
  · rw [va_up_self]; exact h2
theorem st_inc {b : Nat} (ha : acc ≤ 24) (hD : Dk acc lm w S U) (hM : Me acc lm S U) (hb : b ≤ acc) (hl : b < acc → sv S.1 S.2.1 b + S.2.1 0 < 2147483648 ^ lm) (hl2 : sv S.1 S.2.1 b + S.2.1 0 < 2147483648 ^ (lm + 1)) :
    Dk acc lm w (iN S.1 S.2.1 b, tX S.2.1 b, S.2.2) (mTou (mInc U (mi acc b)) (mi acc b)) ∧ Me acc lm (iN S.1 S.2.1 b, tX S.2.1 b, S.2.2) (mTou (mInc U (mi acc b)) (mi acc b)) := by
  refine ⟨Dk_p hD (iN_1 _ _ _ (by decide)) (iN_1 _ _ _ (by decide)) (tX_ne _ _ (by decide)) rfl rfl (fun k c hc => ?_) (fun k c => ?_), ⟨hM.1.1, ?_⟩, tX_2 ha hM.2.1 hb, fun a q1 q2 => ?_, fun c hc => ?_, ?_, ?_⟩
  · by_cases q : k = 0
    · subst q
      rw [iN_0]
      by_cases q2 : c = b
      · rw [if_pos q2]; exact hl (by omega)
      · rw [if_neg q2]; exact hD.2.2.2.2.2.1 _ _ hc
    · rw [iN_1 _ _ _ q]; exact hD.2.2.2.2.2.1 _ _ hc
  · by_cases q : k = 0
    · subst q
      rw [iN_0]
      by_cases q2 : c = b
      · rw [if_pos q2]; exact hl2
      · rw [if_neg q2]; exact hD.2.2.2.2.2.2.1 _ _
    · rw [iN_1 _ _ _ q]; exact hD.2.2.2.2.2.2.1 _ _
  · show tX S.2.1 b 0 = _
    rw [tX_ne _ _ (by decide)]; exact hM.1.2
  · show va_up (U.1 0) (mi acc b) _ a = 0
    rw [va_up_ne _ _ (mi_un hb q1 q2)]; exact hM.2.2.1 a q1 q2
  · show sv (iN S.1 S.2.1 b) (tX S.2.1 b) c = va_up (U.1 0) (mi acc b) (U.1 0 (mi acc b) + U.2.1) (mi acc c)
    by_cases q : c = b
    · subst q; rw [sv_iN, va_up_self, hM.2.2.2.1 c hc, hM.1.2]
    · rw [sv_iN_ne _ _ q, va_up_ne _ _ (fun q2 => q (mi_inj ha hc hb q2))]; exact hM.2.2.2.1 c hc
  · show tX S.2.1 b 0 < _
    rw [tX_ne _ _ (by decide)]; exact hM.2.2.2.2.1
  · show tX S.2.1 b 1 < _
    rw [tX_ne _ _ (by decide)]; exact hM.2.2.2.2.2
theorem sv_bal (hD : Dk acc lm w S U) {b : Nat} (hb : b < acc) : sv S.1 S.2.1 b < 2147483648 ^ lm := hD.2.2.2.2.2.1 _ _ hb
theorem sv_ok (hD : Dk acc lm w S U) (b : Nat) : sv S.1 S.2.1 b < 2147483648 ^ (lm + 1) := hD.2.2.2.2.2.2.1 _ _
theorem st_dec {b : Nat} (ha : acc ≤ 24) (hD : Dk acc lm w S U) (hM : Me acc lm S U) (hb : b ≤ acc) :
    Dk acc lm w (eN S.1 S.2.1 b, tX S.2.1 b, S.2.2) (mTou (mDec U (mi acc b)) (mi acc b)) ∧ Me acc lm (eN S.1 S.2.1 b, tX S.2.1 b, S.2.2) (mTou (mDec U (mi acc b)) (mi acc b)) := by
  refine ⟨Dk_p hD (eN_1 _ _ _ (by decide)) (eN_1 _ _ _ (by decide)) (tX_ne _ _ (by decide)) rfl rfl (fun k c hc => ?_) (fun k c => ?_), ⟨hM.1.1, ?_⟩, tX_2 ha hM.2.1 hb, fun a q1 q2 => ?_, fun c hc => ?_, ?_, ?_⟩
  · by_cases q : k = 0
    · subst q
      rw [eN_0]
      by_cases q2 : c = b
      · rw [if_pos q2]; subst q2; exact Nat.lt_of_le_of_lt (Nat.sub_le _ _) (sv_bal hD hc)
      · rw [if_neg q2]; exact hD.2.2.2.2.2.1 _ _ hc
    · rw [eN_1 _ _ _ q]; exact hD.2.2.2.2.2.1 _ _ hc
  · by_cases q : k = 0
    · subst q
      rw [eN_0]
      by_cases q2 : c = b
      · rw [if_pos q2]; exact Nat.lt_of_le_of_lt (Nat.sub_le _ _) (sv_ok hD b)
      · rw [if_neg q2]; exact hD.2.2.2.2.2.2.1 _ _
    · rw [eN_1 _ _ _ q]; exact hD.2.2.2.2.2.2.1 _ _
  · show tX S.2.1 b 0 = _
    rw [tX_ne _ _ (by decide)]; exact hM.1.2
  · show va_up (U.1 0) (mi acc b) _ a = 0
    rw [va_up_ne _ _ (mi_un hb q1 q2)]; exact hM.2.2.1 a q1 q2
  · show sv (eN S.1 S.2.1 b) (tX S.2.1 b) c = va_up (U.1 0) (mi acc b) (U.1 0 (mi acc b) - U.2.1) (mi acc c)
    by_cases q : c = b
    · subst q; rw [sv_eN, va_up_self, hM.2.2.2.1 c hc, hM.1.2]
    · rw [sv_eN_ne _ _ q, va_up_ne _ _ (fun q2 => q (mi_inj ha hc hb q2))]; exact hM.2.2.2.1 c hc
  · show tX S.2.1 b 0 < _
    rw [tX_ne _ _ (by decide)]; exact hM.2.2.2.2.1
  · show tX S.2.1 b 1 < _
    rw [tX_ne _ _ (by decide)]; exact hM.2.2.2.2.2
/-- the total and the amount have room -/
theorem add_ok (ha : acc ≤ 24) (h : Sm acc lm w S U) (b : Nat) (hb : b ≤ acc) : sv S.1 S.2.1 b + S.2.1 0 < 2147483648 ^ (lm + 1) := by
  by_cases q : S.2.2 0 = 0
  · rw [(h.2.2.1 q).1]; exact sv_ok h.1 b
  · have e : 2147483648 ^ (lm + 1) = 2147483648 ^ lm * 2147483648 := Nat.pow_succ ..
    have h0 := h.2.1.2.2.2.2.1
    have hp := bp_pos lm
    have h1 : sv S.1 S.2.1 b ≤ 24 * 2147483648 ^ lm := by
      by_cases q2 : b = acc
      · subst q2
        rw [(h.2.2.2 q).2.2]
        exact Nat.le_trans (fb_sm_bound (fun k hk => Nat.le_of_lt (sv_bal h.1 hk))) (Nat.mul_le_mul_right _ ha)
      · have := sv_bal h.1 (b := b) (by omega)
        omega
    omega
theorem sub_ok (h : Sm acc lm w S U) (b : Nat) (hb : b < acc) (hx : S.2.1 0 ≤ sv S.1 S.2.1 b) : S.2.1 0 ≤ sv S.1 S.2.1 acc := by
  by_cases q : S.2.2 0 = 0
  · rw [(h.2.2.1 q).1]; exact Nat.zero_le _
  · rw [(h.2.2.2 q).2.2]
    have := fb_sm_part (sv S.1 S.2.1) hb
    omega
theorem cy_iff {v a : Nat} (hv : v < 2147483648 ^ lm) (ha : a < 2147483648 ^ lm) (hs : v + a < 2147483648 ^ (lm + 1)) : ¬ cyA v a lm = 0 ↔ lm < szF (v + a) (lm + 1) := by
  unfold cyA
  rw [Nat.mod_eq_of_lt hv, Nat.mod_eq_of_lt ha, Nat.div_eq_zero_iff_lt (bp_pos lm)]
  have := szF_le_iff (m := lm) hs
  omega
theorem sm_chg {f g : Nat → Nat} {b v n : Nat} (hb : b < n) (h1 : g b = v) (h2 : ∀ c, c < n → c ≠ b → g c = f c) : fb_sm g n + f b = fb_sm f n + v := by
  rw [← fb_sm_upd f v hb]
  congr 1
  exact fb_sm_cong (fun k hk => by
    by_cases q : k = b
    · subst q; rw [if_pos rfl]; exact h1
    · rw [if_neg q]; exact h2 k hk q)
theorem Me_x1 {v : Nat} (hM : Me acc lm S U) (hv : v < 2147483648 ^ (lm + 1)) : Me acc lm (S.1, va_up S.2.1 1 v, S.2.2) U := ⟨hM.1, hM.2.1, hM.2.2.1, hM.2.2.2.1, hM.2.2.2.2.1, hv⟩
theorem Sm_x1 {v : Nat} (h : Sm acc lm w S U) (hv : v < 2147483648 ^ (lm + 1)) : Sm acc lm w (S.1, va_up S.2.1 1 v, S.2.2) U := ⟨h.1, Me_x1 h.2.1 hv, h.2.2⟩
theorem s_deposit (ha : acc ≤ 24) (p : Int32) (h : Sm acc lm w S U) : (cDep acc lm rm p S).1 = (mDep acc lm rm p U).1 ∧ Sm acc lm w (cDep acc lm rm p S).2 (mDep acc lm rm p U).2 := by
  have hz : S.2.2 0 = U.2.2.2 1 := h.2.1.1.1
  unfold cDep mDep
  by_cases q : S.2.2 0 = 0
  · rw [if_pos q, if_pos (show U.2.2.2 1 = 0 from hz ▸ q)]; exact ⟨rfl, h⟩
  rw [if_neg q, if_neg (show ¬ U.2.2.2 1 = 0 from hz ▸ q)]
  by_cases q1 : isAcc acc p = true
  case neg => rw [if_pos q1, if_pos q1]; exact ⟨rfl, h⟩
  have nq1 : ¬ ¬ isAcc acc p = true := fun n => n q1
  rw [if_neg nq1, if_neg nq1]
  clear nq1
  obtain ⟨b, hb, rfl⟩ := isAcc_t (by omega) q1
  have eb : (nI b).toNatClampNeg = b := nI_clamp (by omega)
  rw [eb]
  have hadd := add_ok ha h b (by omega)
  have es : sv S.1 S.2.1 b = U.1 0 b := by rw [h.2.1.2.2.2.1 b (by omega), mi_lt hb]
  have em : S.2.1 0 = U.2.1 := h.2.1.1.2
  have hc := cy_iff (sv_bal h.1 hb) h.2.1.2.2.2.2.1 hadd
  rw [← es, ← em]
  by_cases q2 : lm < szF (sv S.1 S.2.1 b + S.2.1 0) (lm + 1)
  · rw [if_pos q2, if_pos (hc.mpr q2)]; exact ⟨rfl, Sm_x1 h hadd⟩
  rw [if_neg q2, if_neg (show ¬ ¬ cyA (sv S.1 S.2.1 b) (S.2.1 0) lm = 0 from fun n => q2 (hc.mp n))]
  have hct := tRel_more ha h.2.1.2.1 (b := b) (c := acc) (by omega) (Nat.le_refl _)
  rw [mi_lt hb, mi_acc] at hct
  rw [hct]
  by_cases q3 : fb_ct (U.2.2.1 0) 25 + mMore (U.2.2.1 0) b 24 ≤ rm
  case neg => rw [if_pos q3, if_pos (show rm < fb_ct (U.2.2.1 0) 25 + mMore (U.2.2.1 0) b 24 by omega)]; exact ⟨rfl, Sm_x1 h hadd⟩
  rw [if_neg (show ¬ ¬ fb_ct (U.2.2.1 0) 25 + mMore (U.2.2.1 0) b 24 ≤ rm from fun n => n q3), if_neg (show ¬ rm < fb_ct (U.2.2.1 0) 25 + mMore (U.2.2.1 0) b 24 by omega)]
  refine ⟨rfl, ?_⟩
  have h1 := Sm_x1 h hadd
  have hlt : sv S.1 S.2.1 b + S.2.1 0 < 2147483648 ^ lm := (szF_le_iff hadd).mp (by omega)
  have g1 := st_inc (U := setY U 0 0) ha h1.1 h1.2.1 (b := b) (by omega) (fun _ => hlt) hadd
  generalize hx : va_up S.2.1 1 (sv S.1 S.2.1 b + S.2.1 0) = x at g1
  have ex0 : x 0 = S.2.1 0 := by rw [← hx]; rfl
  have exs : ∀ c, sv S.1 x c = sv S.1 S.2.1 c := fun c => by rw [← hx]; rfl
  have ex3 : x 3 = S.2.1 3 := by rw [← hx]; rfl
  have g1' : sv (iN S.1 x b) (tX x b) acc + tX x b 0 < 2147483648 ^ (lm + 1) := by
    rw [sv_iN_ne _ _ (by omega), tX_ne _ _ (by decide), exs, ex0]; exact add_ok ha h acc (Nat.le_refl _)
  have g2 := st_inc ha g1.1 g1.2 (b := acc) (Nat.le_refl _) (fun n => absurd n (by omega)) g1'
  rw [mi_lt hb, mi_acc] at g2
  refine ⟨g2.1, g2.2, fun n => absurd n q, fun _ => ⟨?_, (h.2.2.2 q).2.1, ?_⟩⟩
  · show tX (tX x b) acc 3 = 0
    rw [tX_ne _ _ (by decide), tX_ne _ _ (by decide), ex3]; exact (h.2.2.2 q).1
  · show sv (iN (iN S.1 x b) (tX x b) acc) (tX (tX x b) acc) acc = fb_sm (sv (iN (iN S.1 x b) (tX x b) acc) (tX (tX x b) acc)) acc
    have h5 := sm_chg (f := sv S.1 S.2.1) (g := sv (iN (iN S.1 x b) (tX x b) acc) (tX (tX x b) acc)) (v := sv S.1 S.2.1 b + S.2.1 0) hb (by rw [sv_iN_ne _ _ (by omega), sv_iN, exs, ex0]) (fun c hc hn => by
      rw [sv_iN_ne _ _ (by omega), sv_iN_ne _ _ hn, exs])
    rw [sv_iN, sv_iN_ne _ _ (by omega), tX_ne _ _ (by decide), exs, ex0, (h.2.2.2 q).2.2]
    omega
theorem s_withdraw (ha : acc ≤ 24) (p : Int32) (h : Sm acc lm w S U) : (cWd acc rm p S).1 = (mWd acc rm p U).1 ∧ Sm acc lm w (cWd acc rm p S).2 (mWd acc rm p U).2 := by
  have hz : S.2.2 0 = U.2.2.2 1 := h.2.1.1.1
  unfold cWd mWd
  by_cases q : S.2.2 0 = 0
  · rw [if_pos q, if_pos (show U.2.2.2 1 = 0 from hz ▸ q)]; exact ⟨rfl, h⟩
  rw [if_neg q, if_neg (show ¬ U.2.2.2 1 = 0 from hz ▸ q)]
  by_cases q1 : isAcc acc p = true
  case neg => rw [if_pos q1, if_pos q1]; exact ⟨rfl, h⟩
  have nq1 : ¬ ¬ isAcc acc p = true := fun n => n q1
  rw [if_neg nq1, if_neg nq1]
  clear nq1
  obtain ⟨b, hb, rfl⟩ := isAcc_t (by omega) q1
  have eb : (nI b).toNatClampNeg = b := nI_clamp (by omega)
  rw [eb]
  have es : sv S.1 S.2.1 b = U.1 0 b := by rw [h.2.1.2.2.2.1 b (by omega), mi_lt hb]
  have em : S.2.1 0 = U.2.1 := h.2.1.1.2
  rw [← es, ← em]
  by_cases q2 : sv S.1 S.2.1 b < S.2.1 0
  · rw [if_pos q2, if_pos q2]; exact ⟨rfl, h⟩
  rw [if_neg q2, if_neg q2]
  have hct := tRel_more ha h.2.1.2.1 (b := b) (c := acc) (by omega) (Nat.le_refl _)
  rw [mi_lt hb, mi_acc] at hct
  rw [hct]
  by_cases q3 : fb_ct (U.2.2.1 0) 25 + mMore (U.2.2.1 0) b 24 ≤ rm
  case neg => rw [if_pos q3, if_pos (show rm < fb_ct (U.2.2.1 0) 25 + mMore (U.2.2.1 0) b 24 by omega)]; exact ⟨rfl, h⟩
  rw [if_neg (show ¬ ¬ fb_ct (U.2.2.1 0) 25 + mMore (U.2.2.1 0) b 24 ≤ rm from fun n => n q3), if_neg (show ¬ rm < fb_ct (U.2.2.1 0) 25 + mMore (U.2.2.1 0) b 24 by omega)]
  refine ⟨rfl, ?_⟩
  have g1 := st_dec (U := setY U 0 0) ha h.1 h.2.1 (b := b) (by omega)
  have g2 := st_dec ha g1.1 g1.2 (b := acc) (Nat.le_refl _)
  rw [mi_lt hb, mi_acc] at g2
  refine ⟨g2.1, g2.2, fun n => absurd n q, fun _ => ⟨?_, (h.2.2.2 q).2.1, ?_⟩⟩
  · show tX (tX S.2.1 b) acc 3 = 0
    rw [tX_ne _ _ (by decide), tX_ne _ _ (by decide)]; exact (h.2.2.2 q).1
  · show sv (eN (eN S.1 S.2.1 b) (tX S.2.1 b) acc) (tX (tX S.2.1 b) acc) acc = fb_sm (sv (eN (eN S.1 S.2.1 b) (tX S.2.1 b) acc) (tX (tX S.2.1 b) acc)) acc
    have h5 := sm_chg (f := sv S.1 S.2.1) (g := sv (eN (eN S.1 S.2.1 b) (tX S.2.1 b) acc) (tX (tX S.2.1 b) acc)) (v := sv S.1 S.2.1 b - S.2.1 0) hb (by rw [sv_eN_ne _ _ (by omega), sv_eN]) (fun c hc hn => by
      rw [sv_eN_ne _ _ (by omega), sv_eN_ne _ _ hn])
    rw [sv_eN, sv_eN_ne _ _ (by omega), tX_ne _ _ (by decide), (h.2.2.2 q).2.2]
    omega
theorem s_transfer (ha : acc ≤ 24) (p r : Int32) (h : Sm acc lm w S U) : (cTr acc lm rm p r S).1 = (mTr acc lm rm p r U).1 ∧ Sm acc lm w (cTr acc lm rm p r S).2 (mTr acc lm rm p r U).2 := by
  have hz : S.2.2 0 = U.2.2.2 1 := h.2.1.1.1
  unfold cTr mTr
  by_cases q : S.2.2 0 = 0
  · rw [if_pos q, if_pos (show U.2.2.2 1 = 0 from hz ▸ q)]; exact ⟨rfl, h⟩
  rw [if_neg q, if_neg (show ¬ U.2.2.2 1 = 0 from hz ▸ q)]
  by_cases q1 : isAcc acc p = true ∧ isAcc acc r = true
  case neg => rw [if_pos q1, if_pos q1]; exact ⟨rfl, h⟩
  have nq1 : ¬ ¬ (isAcc acc p = true ∧ isAcc acc r = true) := fun n => n q1
  rw [if_neg nq1, if_neg nq1]
  clear nq1
  obtain ⟨b, hb, rfl⟩ := isAcc_t (by omega) q1.1
  obtain ⟨c, hc, rfl⟩ := isAcc_t (by omega) q1.2
  have eb : (nI b).toNatClampNeg = b := nI_clamp (by omega)
  have ec : (nI c).toNatClampNeg = c := nI_clamp (by omega)
  have ebc : nI b = nI c ↔ b = c := ⟨fun e => by rw [← eb, ← ec, e], fun e => by rw [e]⟩
  have esb : sv S.1 S.2.1 b = U.1 0 b := by rw [h.2.1.2.2.2.1 b (by omega), mi_lt hb]
  have esc : sv S.1 S.2.1 c = U.1 0 c := by rw [h.2.1.2.2.2.1 c (by omega), mi_lt hc]
  have em : S.2.1 0 = U.2.1 := h.2.1.1.2
  have hadd := add_ok ha h c (by omega)
  have hcy := cy_iff (sv_bal h.1 hc) h.2.1.2.2.2.2.1 hadd
  have hX : ∃ v, v < 2147483648 ^ (lm + 1) ∧ cTrX (nI b) (nI c) S = va_up S.2.1 1 v := by
    unfold cTrX
    by_cases e : nI b = nI c
    · rw [if_pos e]
      refine ⟨S.2.1 1, h.2.1.2.2.2.2.2, ?_⟩
      funext k
      by_cases q3 : k = 1
      · subst q3; rw [va_up_self]
      · rw [va_up_ne _ _ q3]
    · rw [if_neg e, ec]; exact ⟨_, hadd, rfl⟩
  obtain ⟨v, hv, eX⟩ := hX
  rw [eX, eb, ec, ← esb, ← esc, ← em]
  by_cases q2 : sv S.1 S.2.1 b < S.2.1 0
  · rw [if_pos q2, if_pos q2]; exact ⟨rfl, h⟩
  rw [if_neg q2, if_neg q2]
  have h1 := Sm_x1 h hv
  by_cases q4 : ¬ nI b = nI c ∧ lm < szF (sv S.1 S.2.1 c + S.2.1 0) (lm + 1)
  · rw [if_pos q4, if_pos (show ¬ nI b = nI c ∧ ¬ cyA (sv S.1 S.2.1 c) (S.2.1 0) lm = 0 from ⟨q4.1, hcy.mpr q4.2⟩)]; exact ⟨rfl, h1⟩
  rw [if_neg q4, if_neg (show ¬ (¬ nI b = nI c ∧ ¬ cyA (sv S.1 S.2.1 c) (S.2.1 0) lm = 0) from fun n => q4 ⟨n.1, hcy.mp n.2⟩)]
  have hct := tRel_more ha h.2.1.2.1 (b := b) (c := c) (by omega) (by omega)
  rw [mi_lt hb, mi_lt hc] at hct
  rw [hct]
  by_cases q3 : fb_ct (U.2.2.1 0) 25 + mMore (U.2.2.1 0) b c ≤ rm
  case neg => rw [if_pos q3, if_pos (show rm < fb_ct (U.2.2.1 0) 25 + mMore (U.2.2.1 0) b c by omega)]; exact ⟨rfl, h1⟩
  rw [if_neg (show ¬ ¬ fb_ct (U.2.2.1 0) 25 + mMore (U.2.2.1 0) b c ≤ rm from fun n => n q3), if_neg (show ¬ rm < fb_ct (U.2.2.1 0) 25 + mMore (U.2.2.1 0) b c by omega)]
  refine ⟨rfl, ?_⟩
  have g1 := st_dec (U := setY U 0 0) ha h1.1 h1.2.1 (b := b) (by omega)
  generalize hx : va_up S.2.1 1 v = x at g1 ⊢
  have ex0 : x 0 = S.2.1 0 := by rw [← hx]; rfl
  have exs : ∀ c, sv S.1 x c = sv S.1 S.2.1 c := fun c => by rw [← hx]; rfl
  have ex3 : x 3 = S.2.1 3 := by rw [← hx]; rfl
  have hlt : sv (eN S.1 x b) (tX x b) c + tX x b 0 < 2147483648 ^ lm := by
    rw [tX_ne _ _ (by decide), ex0]
    by_cases e : c = b
    · subst e; rw [sv_eN, exs, ex0, Nat.sub_add_cancel (by omega)]; exact sv_bal h.1 hb
    · rw [sv_eN_ne _ _ e, exs]
      exact (szF_le_iff hadd).mp (Nat.le_of_not_lt (fun n => q4 ⟨fun e2 => e (ebc.mp e2).symm, n⟩))
  have hpw : 2147483648 ^ lm ≤ 2147483648 ^ (lm + 1) := Nat.pow_le_pow_right (by decide) (by omega)
  have g2 := st_inc ha g1.1 g1.2 (b := c) (by omega) (fun _ => hlt) (Nat.lt_of_lt_of_le hlt hpw)
  rw [mi_lt hb, mi_lt hc] at g2
  refine ⟨g2.1, g2.2, fun n => absurd n q, fun _ => ⟨?_, (h.2.2.2 q).2.1, ?_⟩⟩
  · show tX (tX x b) c 3 = 0
    rw [tX_ne _ _ (by decide), tX_ne _ _ (by decide), ex3]; exact (h.2.2.2 q).1
  · show sv (iN (eN S.1 x b) (tX x b) c) (tX (tX x b) c) acc = fb_sm (sv (iN (eN S.1 x b) (tX x b) c) (tX (tX x b) c)) acc
    have h5 := sm_chg (f := sv S.1 S.2.1) (g := sv (eN S.1 x b) (tX x b)) (v := sv S.1 S.2.1 b - S.2.1 0) hb (by rw [sv_eN, exs, ex0]) (fun k hk hn => by rw [sv_eN_ne _ _ hn, exs])
    have h6 := sm_chg (f := sv (eN S.1 x b) (tX x b)) (g := sv (iN (eN S.1 x b) (tX x b) c) (tX (tX x b) c)) (v := sv (eN S.1 x b) (tX x b) c + S.2.1 0) hc (by rw [sv_iN, tX_ne _ _ (by decide), ex0]) (fun k hk hn => by rw [sv_iN_ne _ _ hn])
    rw [sv_iN_ne _ _ (by omega), sv_eN_ne _ _ (by omega), exs, (h.2.2.2 q).2.2]
    omega
theorem i_lt1 {p q r : Int32} (h : ¬ (q < 0 ∨ r < q ∨ r < 1)) : ∃ a b, a < 2 ^ 31 ∧ b < 2 ^ 31 ∧ q = nI a ∧ r = nI b ∧ a ≤ b ∧ 1 ≤ b := by
  have h1 : ¬ q < 0 := fun n => h (Or.inl n)
  have h2 : ¬ r < q := fun n => h (Or.inr (Or.inl n))
  have h3 : ¬ r < 1 := fun n => h (Or.inr (Or.inr n))
  obtain ⟨a, ha, rfl⟩ := nI_of h1
  have h0 : ¬ r < 0 := fun n => h3 (fa_trans n (by decide))
  obtain ⟨b, hb, rfl⟩ := nI_of h0
  exact ⟨a, b, ha, hb, rfl, rfl, Nat.le_of_not_lt (fun n => h2 ((nI_ltI hb ha).mpr n)), Nat.le_of_not_lt (fun n => h3 ((nI_ltI (b := 1) hb (by decide)).mpr n))⟩
theorem Sm_am {v : Nat} (h : Sm acc lm w S U) (q : ¬ S.2.2 0 = 0) (hv : v < 2147483648 ^ lm) : Sm acc lm w (S.1, va_up S.2.1 0 v, S.2.2) (U.1, v, U.2.2.1, va_up U.2.2.2 0 0) :=
  ⟨h.1, ⟨⟨h.2.1.1.1, rfl⟩, h.2.1.2.1, h.2.1.2.2.1, h.2.1.2.2.2.1, hv, h.2.1.2.2.2.2.2⟩, fun n => absurd n q, fun n => h.2.2.2 n⟩
theorem s_part (ha : acc ≤ 24) (p r t : Int32) (h : Sm acc lm w S U) : (cPart acc p r t S).1 = (mPart acc p r t U).1 ∧ Sm acc lm w (cPart acc p r t S).2 (mPart acc p r t U).2 := by
  have hz : S.2.2 0 = U.2.2.2 1 := h.2.1.1.1
  unfold cPart mPart
  by_cases q : S.2.2 0 = 0
  · rw [if_pos q, if_pos (show U.2.2.2 1 = 0 from hz ▸ q)]; exact ⟨rfl, h⟩
  rw [if_neg q, if_neg (show ¬ U.2.2.2 1 = 0 from hz ▸ q)]
  by_cases q1 : isAcc acc p = true
  case neg => rw [if_pos q1, if_pos q1]; exact ⟨rfl, h⟩
  have nq1 : ¬ ¬ isAcc acc p = true := fun n => n q1
  rw [if_neg nq1, if_neg nq1]
  clear nq1
  by_cases q2 : r < 0 ∨ t < r ∨ t < 1
  · rw [if_pos q2, if_pos q2]; exact ⟨rfl, h⟩
  rw [if_neg q2, if_neg q2]
  obtain ⟨b, hb, rfl⟩ := isAcc_t (by omega) q1
  have eb : (nI b).toNatClampNeg = b := nI_clamp (by omega)
  have es : sv S.1 S.2.1 b = U.1 0 b := by rw [h.2.1.2.2.2.1 b (by omega), mi_lt hb]
  obtain ⟨c, d, hc, hd, rfl, rfl, hcd, hd1⟩ := i_lt1 (p := r) q2
  rw [eb, nI_clamp hc, nI_clamp hd, ← es]
  refine ⟨rfl, Sm_am h q ?_⟩
  refine Nat.lt_of_le_of_lt ?_ (sv_bal h.1 hb)
  exact Nat.div_le_of_le_mul (by rw [Nat.mul_comm]; exact Nat.mul_le_mul_right _ hcd)
theorem s_clear (h : Sm acc lm w S U) : (cClear S).1 = (mClear U).1 ∧ Sm acc lm w (cClear S).2 (mClear U).2 := by
  have hz : S.2.2 0 = U.2.2.2 1 := h.2.1.1.1
  unfold cClear mClear
  by_cases q : S.2.2 0 = 0
  · rw [if_pos q, if_pos (show U.2.2.2 1 = 0 from hz ▸ q)]; exact ⟨rfl, h⟩
  rw [if_neg q, if_neg (show ¬ U.2.2.2 1 = 0 from hz ▸ q)]
  exact ⟨rfl, Sm_am h q (bp_pos _)⟩
theorem s_amLimb (hl : 1 ≤ lm) (p : Int32) (h : Sm acc lm w S U) : (cAmLimb lm p S).1 = (mAmLimb lm p U).1 ∧ Sm acc lm w (cAmLimb lm p S).2 (mAmLimb lm p U).2 := by
  have hz : S.2.2 0 = U.2.2.2 1 := h.2.1.1.1
  have em : S.2.1 0 = U.2.1 := h.2.1.1.2
  have h0 := h.2.1.2.2.2.2.1
  unfold cAmLimb mAmLimb
  by_cases q1 : p < 0
  · rw [if_pos q1, if_pos q1, ite_self]; exact ⟨rfl, h⟩
  rw [if_neg q1, if_neg q1]
  by_cases q : S.2.2 0 = 0
  · rw [if_pos q, if_pos (show U.2.2.2 1 = 0 from hz ▸ q)]; exact ⟨rfl, h⟩
  rw [if_neg q, if_neg (show ¬ U.2.2.2 1 = 0 from hz ▸ q), ← em]
  have hp : 2147483648 ^ lm ≤ 2147483648 ^ (lm + 1) := Nat.pow_le_pow_right (by decide) (by omega)
  have e1 : szF (S.2.1 0) (lm + 1) < lm ↔ S.2.1 0 < 2147483648 ^ (lm - 1) := by
    rw [← szF_le_iff (n := lm + 1) (Nat.lt_of_lt_of_le h0 hp)]
    omega
  have e2 : lbN (S.2.1 0) (lm - 1) = 0 ↔ S.2.1 0 < 2147483648 ^ (lm - 1) := by
    have h3 := lbN_split (S.2.1 0) (lm - 1)
    rw [show lm - 1 + 1 = lm by omega, Nat.div_eq_of_lt h0] at h3
    rw [← Nat.div_eq_zero_iff_lt (bp_pos (lm - 1))]
    omega
  obtain ⟨k, hk, rfl⟩ := nI_of q1
  by_cases q2 : S.2.1 0 < 2147483648 ^ (lm - 1)
  · rw [if_pos (e1.mpr q2), if_pos (e2.mpr q2), nI_clamp hk]
    exact ⟨rfl, Sm_am h q (am_small hl h0 (by omega) (e2.mpr q2))⟩
  · rw [if_neg (fun n => q2 (e1.mp n)), if_neg (show ¬ lbN (S.2.1 0) (lm - 1) = 0 from fun n => q2 (e2.mp n))]
    exact ⟨rfl, h⟩
theorem s_stop (p : Int32) (h : Sm acc lm w S U) : Sm acc lm w (cStop p S) (mStop p U) := by
  obtain ⟨⟨⟨a1, a2, a3, a4, a5⟩, b⟩, c⟩ := h
  exact ⟨⟨⟨a1, a2, rfl, a4, a5⟩, b⟩, c⟩
theorem pw22 (hl : lm ≤ 20) {v : Nat} (h : v < 2147483648 ^ (lm + 1)) : v < 2147483648 ^ 22 := Nat.lt_of_lt_of_le h (Nat.pow_le_pow_right (by decide) (by omega))
theorem sz22 (hl : lm ≤ 20) {v : Nat} (h : v < 2147483648 ^ (lm + 1)) : szF v 22 = szF v (lm + 1) := by
  have := szF_wide h (21 - lm)
  rw [← this]
  congr 1
  omega
theorem x0_ok (h : Sm acc lm w S U) : S.2.1 0 < 2147483648 ^ (lm + 1) := Nat.lt_of_lt_of_le h.2.1.2.2.2.2.1 (Nat.pow_le_pow_right (by decide) (by omega))
theorem now_ok (hl : lm ≤ 20) (ha : acc ≤ 24) (h : Sm acc lm w S U) : ∀ a, a < 25 → U.1 0 a < 2147483648 ^ 22 := by
  intro a q
  rcases mi_cov (acc := acc) (a := a) (by omega) with ⟨q3, q4⟩ | ⟨b, hb, rfl⟩
  · rw [h.2.1.2.2.1 a q3 q4]; exact bp_pos _
  · rw [← h.2.1.2.2.2.1 b hb]; exact pw22 hl (sv_ok h.1 b)
theorem nad_ok (hl : lm ≤ 20) (ha : acc ≤ 24) (h : Sm acc lm w S U) : ∀ a, a < 25 → U.1 0 a + U.2.1 < 2147483648 ^ 22 := by
  intro a q
  rw [← h.2.1.1.2]
  rcases mi_cov (acc := acc) (a := a) (by omega) with ⟨q3, q4⟩ | ⟨b, hb, rfl⟩
  · rw [h.2.1.2.2.1 a q3 q4, Nat.zero_add]; exact pw22 hl (x0_ok h)
  · rw [← h.2.1.2.2.2.1 b hb]; exact pw22 hl (add_ok ha h b hb)
theorem s_count (ha : acc ≤ 24) (hl : lm ≤ 20) (p : Int32) (h : Sm acc lm w S U) : cCount acc lm rm p S = mCount acc lm rm p U := by
  unfold cCount mCount
  have e3 : S.2.2 2 = U.2.2.2 4 := h.1.1.2.1
  have e4 : S.2.2 0 = U.2.2.2 1 := h.2.1.1.1
  have e5 := tRel_ct ha h.2.1.2.1
  have e6 : S.2.2 3 = U.2.2.2 5 := h.1.1.2.2.1
  have e7 : sv S.1 S.2.1 acc = U.1 0 24 := by rw [h.2.1.2.2.2.1 acc (Nat.le_refl _), mi_acc]
  rw [e3, e4, e5, e6, ← e7, ← h.2.1.1.2, sz22 hl (sv_ok h.1 acc), sz22 hl (x0_ok h)]
theorem s_bsize (hl : lm ≤ 20) (ha : acc ≤ 24) (p : Int32) (h : Sm acc lm w S U) : (if S.2.2 0 = 0 then (-1 : Int32) else if ¬ isAcc acc p = true then -1 else nI (szF (sv S.1 S.2.1 p.toNatClampNeg) (lm + 1))) = (if U.2.2.2 1 = 0 then -1 else if ¬ isAcc acc p = true then -1 else nI (szF (U.1 0 p.toNatClampNeg) 22)) := by
  rw [show S.2.2 0 = U.2.2.2 1 from h.2.1.1.1]
  by_cases q1 : isAcc acc p = true
  · obtain ⟨b, hb, rfl⟩ := isAcc_t (by omega) q1
    rw [nI_clamp (by omega), sz22 hl (by rw [← mi_lt (acc := acc) hb, ← h.2.1.2.2.2.1 b (by omega)]; exact sv_ok h.1 b), h.2.1.2.2.2.1 b (by omega), mi_lt hb]
  · rw [if_pos q1, if_pos q1]
theorem s_blimb (ha : acc ≤ 24) (p r : Int32) (h : Sm acc lm w S U) : (if S.2.2 0 = 0 then (-1 : Int32) else if ¬ isAcc acc p = true then -1 else if r < 0 then -1 else lb (sv S.1 S.2.1 p.toNatClampNeg) r.toNatClampNeg) = (if U.2.2.2 1 = 0 then -1 else if ¬ isAcc acc p = true then -1 else if r < 0 then -1 else lb (U.1 0 p.toNatClampNeg) r.toNatClampNeg) := by
  rw [show S.2.2 0 = U.2.2.2 1 from h.2.1.1.1]
  by_cases q1 : isAcc acc p = true
  · obtain ⟨b, hb, rfl⟩ := isAcc_t (by omega) q1
    rw [nI_clamp (by omega), h.2.1.2.2.2.1 b (by omega), mi_lt hb]
  · rw [if_pos q1, if_pos q1]
theorem s_tlimb (r : Int32) (h : Sm acc lm w S U) : (if S.2.2 0 = 0 then (-1 : Int32) else if r < 0 then -1 else lb (sv S.1 S.2.1 acc) r.toNatClampNeg) = (if U.2.2.2 1 = 0 then -1 else if r < 0 then -1 else lb (U.1 0 24) r.toNatClampNeg) := by
  rw [show S.2.2 0 = U.2.2.2 1 from h.2.1.1.1, h.2.1.2.2.2.1 acc (Nat.le_refl _), mi_acc]
theorem s_amount (r : Int32) (h : Sm acc lm w S U) : (if S.2.2 0 = 0 then (-1 : Int32) else if r < 0 then -1 else lb (S.2.1 0) r.toNatClampNeg) = (if U.2.2.2 1 = 0 then -1 else if r < 0 then -1 else lb U.2.1 r.toNatClampNeg) := by
  rw [show S.2.2 0 = U.2.2.2 1 from h.2.1.1.1, h.2.1.1.2]
theorem s_compare (ha : acc ≤ 24) (p r : Int32) (h : Sm acc lm w S U) : (if S.2.2 0 = 0 then (-2 : Int32) else if ¬ (isAcc acc p = true ∧ isAcc acc r = true) then -2 else cmpI (sv S.1 S.2.1 p.toNatClampNeg) (sv S.1 S.2.1 r.toNatClampNeg)) = (if U.2.2.2 1 = 0 then -2 else if ¬ (isAcc acc p = true ∧ isAcc acc r = true) then -2 else cmpI (U.1 0 p.toNatClampNeg) (U.1 0 r.toNatClampNeg)) := by
  rw [show S.2.2 0 = U.2.2.2 1 from h.2.1.1.1]
  by_cases q1 : isAcc acc p = true ∧ isAcc acc r = true
  · obtain ⟨b, hb, rfl⟩ := isAcc_t (by omega) q1.1
    obtain ⟨c, hc, rfl⟩ := isAcc_t (by omega) q1.2
    rw [nI_clamp (by omega), nI_clamp (by omega), h.2.1.2.2.2.1 b (by omega), mi_lt hb, h.2.1.2.2.2.1 c (by omega), mi_lt hc]
  · rw [if_pos q1, if_pos q1]
/-- what was written last stands in both -/
def Ou (lm : Nat) (w : Int32) (ob ou : Nat → Int32) : Prop := ∃ n, n ≤ lm * 10 ∧ w = nI n ∧ ∀ k, k < n → ob (n - 1 - k) = ou k
theorem Sm_w {v : Int32} (h : Sm acc lm w S U) : Sm acc lm v (S.1, S.2.1, va_up S.2.2 4 v) (setY (setY U 0 0) 6 v) := by
  obtain ⟨⟨⟨a1, a2, a3, a4, a5⟩, b⟩, c⟩ := h
  exact ⟨⟨⟨a1, a2, a3, rfl, rfl⟩, b⟩, c⟩
theorem s_write (ha : acc ≤ 24) (p : Int32) (h : Sm acc lm w S U) {ob ou wk : Nat → Int32} (ho : Ou lm w ob ou) {r r' : Int32} {u : WS} {u' : MX} (h1 : cWr acc lm p S.1 S.2.1 S.2.2 ob r u) (h2 : mWt acc p U wk ou r' u') :
    r = r' ∧ ∃ w', Sm acc lm w' (S.1, u.1, u.2.1) u'.1 ∧ Ou lm w' u.2.2 u'.2.2 := by
  have hz : S.2.2 0 = U.2.2.2 1 := h.2.1.1.1
  unfold cWr at h1
  unfold mWt at h2
  by_cases q : S.2.2 0 = 0 ∨ ¬ isAcc acc p = true
  · rw [if_pos q] at h1
    rw [if_pos (hz ▸ q)] at h2
    obtain ⟨rfl, rfl⟩ := h1
    obtain ⟨rfl, rfl⟩ := h2
    exact ⟨rfl, w, h, ho⟩
  · rw [if_neg q] at h1
    rw [if_neg (hz ▸ q)] at h2
    have q1 : isAcc acc p = true := Classical.byContradiction (fun n => q (Or.inr n))
    obtain ⟨b, hb, rfl⟩ := isAcc_t (by omega) q1
    have es : U.1 0 b = sv S.1 S.2.1 b := by rw [h.2.1.2.2.2.1 b (by omega), mi_lt hb]
    rw [nI_clamp (by omega)] at h1 h2
    rw [es] at h2
    obtain ⟨n, n1, n2, rfl, rfl⟩ := h1
    obtain ⟨m, m1, rfl, m2, m3⟩ := h2
    have e := isNd_one n1 m1
    subst e
    refine ⟨rfl, nI n, ?_, n, n2, rfl, fun k hk => ?_⟩
    · rw [m2]
      refine Sm_w (S := (S.1, va_up S.2.1 1 (sv S.1 S.2.1 b / 10 ^ n), S.2.2)) (Sm_x1 h ?_)
      exact Nat.lt_of_le_of_lt (Nat.div_le_self _ _) (sv_ok h.1 b)
    · rw [m3]
      unfold rvO fl
      rw [if_pos hk]
      exact if_pos (by omega)
theorem tb25 {T : Nat → Bool} {X : Nat} (ha : acc ≤ 24) (h : tRel acc X T) : X < 33554432 := Nat.lt_of_lt_of_le h.1 (show 2 ^ (acc + 1) ≤ 2 ^ 25 from Nat.pow_le_pow_right (by decide) (by omega))
theorem x3_25 (ha : acc ≤ 24) (h : Sm acc lm w S U) : S.2.1 3 < 33554432 := Nat.lt_of_lt_of_le h.1.2.2.2.2.1 (show 2 ^ (acc + 1) ≤ 2 ^ 25 from Nat.pow_le_pow_right (by decide) (by omega))
end SIM
theorem s_start (acc lm : Nat) (ha : acc ≤ 24) : Sm acc lm 0 (NZ, XZ, zL) ((fun _ _ => 0 : LN), 0, (fun _ _ => false : BN), yM) := by
  refine sm_drop ⟨⟨rfl, rfl, rfl, rfl, rfl⟩, fun _ _ => rfl, ⟨fun _ => rfl, fun _ => rfl⟩, fun q => absurd rfl q, Nat.two_pow_pos _, fun _ _ _ => bp_pos _, fun _ _ => bp_pos _, fun _ _ _ => rfl, fun q => absurd rfl q⟩ rfl (fun _ _ => rfl) (fun _ _ => rfl) ha rfl rfl (bp_pos _) (bp_pos _) (fun _ => rfl) (fun q => absurd rfl q)
theorem o_start (lm : Nat) : Ou lm 0 (fun _ => 0) (fun _ => 0) := ⟨0, Nat.zero_le _, rfl, fun k hk => absurd hk (by omega)⟩

/-! format and commit -/
section SIM
variable {acc lm : Nat} {w : Int32} {S S0 : DS} {U U0 : MS}
theorem Dk_zero {b : Nat} (ha : acc ≤ 24) (hD : Dk acc lm w S U) (h3 : S.2.1 3 = 0) (hz : S.2.2 1 = 0) (hb : b ≤ acc) : Dk acc lm w (va_up S.1 1 (va_up (S.1 1) b 0), S.2.1, S.2.2) (zeN U (mi acc b)) := by
  obtain ⟨a0, b0, c, d, e, f, g, i, j⟩ := hD
  refine ⟨a0, fun k hk => ?_, c, fun q => absurd h3 q, e, fun k m hm => ?_, nOk_up g (bp_pos _), fun a h1 h2 => ?_, fun q => absurd hz q⟩
  · show va_up S.1 1 (va_up (S.1 1) b 0) 1 k = va_up U.1 1 (va_up (U.1 1) (mi acc b) 0) 1 (mi acc k)
    rw [va_up_self, va_up_self]
    by_cases q : k = b
    · subst q; rw [va_up_self, va_up_self]
    · rw [va_up_ne _ _ q, va_up_ne _ _ (fun q2 => q (mi_inj ha hk hb q2))]; exact b0 k hk
  · show va_up S.1 1 (va_up (S.1 1) b 0) k m < _
    by_cases q : k = 1
    · subst q
      rw [va_up_self]
      by_cases q2 : m = b
      · subst q2; rw [va_up_self]; exact bp_pos _
      · rw [va_up_ne _ _ q2]; exact f _ _ hm
    · rw [va_up_ne _ _ q]; exact f _ _ hm
  · show va_up U.1 1 (va_up (U.1 1) (mi acc b) 0) 1 a = 0
    rw [va_up_self, va_up_ne _ _ (mi_un hb h1 h2)]; exact i a h1 h2
theorem Dk_f0 (hD : Dk acc lm w S U) : Dk acc lm w (S.1, S.2.1, va_up S.2.2 1 0) (setY U 2 0) := by
  obtain ⟨⟨a1, a2, a3, a4, a5⟩, b, c, d, e, f, g, i, j⟩ := hD
  exact ⟨⟨rfl, a2, a3, a4, a5⟩, b, c, d, e, f, g, i, fun q => absurd rfl q⟩
theorem sm_zero {f : Nat → Nat} {n : Nat} (h : ∀ k, k < n → f k = 0) : fb_sm f n = 0 := by
  have := fb_sm_bound (f := f) (c := 0) (n := n) (fun k hk => by rw [h k hk]; exact Nat.le_refl _)
  omega
theorem Dk_f1 (hD : Dk acc lm w S U) (h3 : S.2.1 3 = 0) (hz : ∀ c, c ≤ acc → S.1 1 c = 0) : Dk acc lm w (S.1, S.2.1, va_up S.2.2 1 1) (setY U 2 1) := by
  obtain ⟨⟨a1, a2, a3, a4, a5⟩, b, c, d, e, f, g, i, j⟩ := hD
  refine ⟨⟨rfl, a2, a3, a4, a5⟩, b, c, d, e, f, g, i, fun q => ?_⟩
  show eff S.1 S.2.1 acc = fb_sm (eff S.1 S.2.1) acc
  rw [eff_0 h3, hz acc (Nat.le_refl _), sm_zero (fun k hk => by rw [eff_0 h3]; exact hz k (by omega))]
theorem s_format (ha : acc ≤ 24) (ha1 : 1 ≤ acc) (h : Sm acc lm w S U) : (cFormat acc S).1 = (mFormat acc U).1 ∧ Sm acc lm w (cFormat acc S).2 (mFormat acc U).2 := by
  obtain ⟨hD, hM, hU⟩ := h
  have h1 : S.2.1 1 < 2147483648 ^ (lm + 1) := hM.2.2.2.2.2
  have hs : simR (fun S' U'' => ∃ U', (Dk acc lm w S' (setY U' 2 1) ∧ Kp (S.1, cLose S.2.1, S.2.2) (setY U 0 0) S' U' ∧ S'.2.1 3 = 0 ∧ S'.2.2 1 = 1) ∧ U'' = setY (mForget (setY U' 2 1)) 1 1) (Fl acc lm w (S.1, cLose S.2.1, S.2.2)) (dLay acc (S.1, cLose S.2.1, S.2.2)) (mFormat acc U) := by
    unfold dLay mFormat
    refine and_sim (P := fun S' U' => Dk acc lm w S' (setY U' 2 0) ∧ Kp (S.1, cLose S.2.1, S.2.2) (setY U 0 0) S' U' ∧ S'.2.2 1 = 0) ?_ ?_
    · unfold dWF
      rcases wr_sim (S := (S.1, cLose S.2.1, S.2.2)) (U := setY U 0 0) (Dk_x hD rfl) (Kp_rf _ _) with ⟨g1, g2, g3⟩ | ⟨g1, g2, g3, g4, g5, -⟩
      · rw [if_pos g1]; exact Or.inl ⟨rfl, g2, g3⟩
      · rw [if_neg g1]; exact Or.inr ⟨rfl, g2, Dk_f0 g3, g4, rfl⟩
    · rintro S1 U1 ⟨k1, k2, k3⟩
      refine and_sim (P := fun S' U' => Dk acc lm w S' U' ∧ Kp (S.1, cLose S.2.1, S.2.2) (setY U 0 0) S' U' ∧ S'.2.1 3 = 0 ∧ S'.2.2 1 = 0) ?_ ?_
      · rcases emp_sim k1 (show Kp _ _ S1 (setY U1 2 0) from k2) (fun q => absurd k3 q) with ⟨g1, g2, g3⟩ | ⟨g1, g2, g3, g4, g5, g6, g7⟩
        · exact Or.inl ⟨g1, g2, g3⟩
        · exact Or.inr ⟨g1, g2, g3, g4, g5, g7.trans k3⟩
      · rintro S2 U2 ⟨p1, p2, p3, p4⟩
        refine and_sim (P := fun S' U' => Dk acc lm w S' U' ∧ Kp (S.1, cLose S.2.1, S.2.2) (setY U 0 0) S' U' ∧ S'.2.1 3 = 0 ∧ ∀ c, c ≤ acc → S'.1 1 c = 0) ?_ ?_
        · have hl := lp_sim ha (cC := fun _ => true) (fC := fun N b => va_up N 1 (va_up (N 1) b 0)) (cM := fun _ a => !(decide (acc ≤ a ∧ a < 24))) (fM := zeN)
            (fun b N z U' => Dk acc lm w (N, S2.2.1, z) U' ∧ Kp (S.1, cLose S.2.1, S.2.2) (setY U 0 0) (N, S2.2.1, z) U' ∧ z 1 = 0 ∧ ∀ c, c < b → N 1 c = 0)
            (fun N z U' => Fl acc lm w (S.1, cLose S.2.1, S.2.2) (N, S2.2.1, z) U')
            (fun b N z U' hb hI => by
              have : ¬ (acc ≤ mi acc b ∧ mi acc b < 24) := fun q => mi_un hb q.1 q.2 rfl
              rw [decide_eq_false this]; rfl)
            (fun b N z U' hb hI hf => absurd hf (by decide))
            (fun N z U' a hI q1 q2 => by rw [decide_eq_true ⟨q1, q2⟩]; rfl)
            (fun b N z U' hb hI hc hz => by
              rcases wr_sim hI.1 hI.2.1 with ⟨g1, g2, g3⟩ | ⟨g1, -⟩
              · exact ⟨g2, g3⟩
              · exact absurd hz g1)
            (fun b N z U' hb hI hc hz => by
              rcases wr_sim hI.1 hI.2.1 with ⟨g1, -⟩ | ⟨g1, g2, g4, g5, g6, -⟩
              · exact absurd g1 hz
              · refine ⟨by rw [g2]; decide, Dk_zero ha g4 p3 (g6.trans hI.2.2.1) hb, g5, g6.trans hI.2.2.1, fun c hc => ?_⟩
                show va_up N 1 (va_up (N 1) b 0) 1 c = 0
                rw [va_up_self]
                by_cases q : c = b
                · subst q; rw [va_up_self]
                · rw [va_up_ne _ _ q]; exact hI.2.2.2 c (by omega))
            (acc + 1) 0 S2.1 S2.2.2 U2 (by omega) ⟨p1, p2, p4, fun c hc => absurd hc (by omega)⟩
          rw [mp_0 ha1, ← clH_g, ← fLp_g] at hl
          rcases hl with ⟨g1, g2, g3⟩ | ⟨g1, g2, g3, g4, g5, g6⟩
          · exact Or.inl ⟨g1, g2, g3⟩
          · exact Or.inr ⟨g1, g2, g3, g4, p3, fun c hc => g6 c (by omega)⟩
        · rintro S3 U3 ⟨r1, r2, r3, r4⟩
          refine and_last (P := fun S' U' => Dk acc lm w S' (setY U' 2 1) ∧ Kp (S.1, cLose S.2.1, S.2.2) (setY U 0 0) S' U' ∧ S'.2.1 3 = 0 ∧ S'.2.2 1 = 1) ?_
          unfold dWF
          rcases wr_sim r1 r2 with ⟨g1, g2, g3⟩ | ⟨g1, g2, g3, g4, g5, -⟩
          · rw [if_pos g1]; exact Or.inl ⟨rfl, g2, g3⟩
          · rw [if_neg g1]; exact Or.inr ⟨rfl, g2, Dk_f1 g3 r3 r4, g4, r3, rfl⟩
  unfold cFormat
  rcases hs with ⟨g1, g2, g3⟩ | ⟨g1, g2, U', ⟨g3, g4, g5, g6⟩, g8⟩
  · refine ⟨by rw [g2]; exact g1, ?_⟩
    rw [g1]
    have k := g3.1
    exact fin_fail ha g3 rfl k.1 k.2.2 (by rw [k.2.1]; exact h1)
  · refine ⟨by rw [g2]; exact g1, ?_⟩
    rw [g1, g8]
    have k := g4.1
    exact fin_up ha g3 g5 (by rw [g6]; decide) rfl k.1 k.2.2.1 (by rw [k.2.1]; exact h1)
theorem Dk_lg {b : Nat} (ha : acc ≤ 24) (hD : Dk acc lm w S U) (h3 : S.2.1 3 = 0) : Dk acc lm w (va_up S.1 2 (va_up (S.1 2) b (S.1 0 b)), S.2.1, S.2.2) (lgN U (mi acc b)) := by
  obtain ⟨a0, b0, c, d, e, f, g, i, j⟩ := hD
  refine ⟨a0, b0, c, fun q => absurd h3 q, e, fun k m hm => ?_, nOk_up g (g _ _), i, fun q => ?_⟩
  · show va_up S.1 2 (va_up (S.1 2) b (S.1 0 b)) k m < _
    by_cases q : k = 2
    · subst q
      rw [va_up_self]
      by_cases q2 : m = b
      · subst q2; rw [va_up_self]; exact f _ _ hm
      · rw [va_up_ne _ _ q2]; exact f _ _ hm
    · rw [va_up_ne _ _ q]; exact f _ _ hm
  · have he : ∀ k, eff (va_up S.1 2 (va_up (S.1 2) b (S.1 0 b))) S.2.1 k = eff S.1 S.2.1 k := fun k => by rw [eff_0 h3, eff_0 h3]; rfl
    show eff (va_up S.1 2 (va_up (S.1 2) b (S.1 0 b))) S.2.1 acc = fb_sm (eff (va_up S.1 2 (va_up (S.1 2) b (S.1 0 b))) S.2.1) acc
    rw [he, j q]
    exact (fb_sm_cong (fun k _ => he k)).symm
theorem com_sim (ha : acc ≤ 24) (ha1 : 1 ≤ acc) (h : Sm acc lm w S U) (hup : ¬ S.2.2 0 = 0) (h2 : ¬ S.2.1 2 = 0) :
    simR (fun S' U'' => ∃ U', (Dk acc lm w S' U' ∧ Kp S (setY U 0 0) S' U' ∧ S'.2.1 3 = 0 ∧ (∀ c, c ≤ acc → S'.1 1 c = sv S.1 S.2.1 c) ∧ S'.2.2 1 = S.2.2 1) ∧ U'' = setT U' 0 (fun _ => false)) (Fl acc lm w S) (dLog (S.2.1 2) acc S) (mCom1 (setY U 0 0)) := by
  obtain ⟨hD, hM, hU⟩ := h
  have hx3 := (hU.2 hup).1
  have hT : ∀ c, c ≤ acc → (S.2.1 2).testBit c = U.2.2.1 0 (mi acc c) := hM.2.1.2.1
  have hsv : ∀ c, c ≤ acc → (S.2.1 2).testBit c = true → U.1 0 (mi acc c) = S.1 0 c := fun c hc q => by rw [← hM.2.2.2.1 c hc, sv_t q]
  have e0 : dLog (S.2.1 2) acc S = andD (dWB 2 0 (S.2.1 2) acc) (andD (dWL (S.2.1 2)) (dHome acc)) S := if_neg h2
  rw [e0]
  unfold mCom1
  refine and_sim (P := fun S' U' => Dk acc lm w S' U' ∧ Kp S (setY U 0 0) S' U' ∧ S'.2.1 = S.2.1 ∧ S'.2.2 1 = S.2.2 1 ∧ S'.1 1 = S.1 1 ∧ (∀ c, c ≤ acc → U'.2.2.1 1 (mi acc c) = (S.2.1 2).testBit c ∧ ((S.2.1 2).testBit c = true → S'.1 2 c = S.1 0 c ∧ U'.1 2 (mi acc c) = S.1 0 c)) ∧ ∀ a, acc ≤ a → a < 24 → U'.2.2.1 1 a = false) ?_ ?_
  · have hD1 : Dk acc lm w S (setT (setY U 0 0) 1 (fun _ => false)) := by
      obtain ⟨a0, b0, c, d, e, f, g, i, j⟩ := hD
      exact ⟨a0, b0, c, fun q => absurd hx3 q, e, f, g, i, j⟩
    have hl := lp_sim ha (cC := fun b => (S.2.1 2).testBit b) (fC := fun N b => va_up N 2 (va_up (N 2) b (N 0 b))) (cM := fun S a => S.2.2.1 0 a) (fM := lgN)
      (fun b N z U' => Dk acc lm w (N, S.2.1, z) U' ∧ Kp S (setY U 0 0) (N, S.2.1, z) U' ∧ z 1 = S.2.2 1 ∧ (N 0 = S.1 0 ∧ N 1 = S.1 1) ∧ (∀ c, c ≤ acc → U'.2.2.1 1 (mi acc c) = (decide (c < b) && (S.2.1 2).testBit c) ∧ (c < b → (S.2.1 2).testBit c = true → N 2 c = S.1 0 c ∧ U'.1 2 (mi acc c) = S.1 0 c)) ∧ ∀ a, acc ≤ a → a < 24 → U'.2.2.1 1 a = false)
      (fun N z U' => Fl acc lm w S (N, S.2.1, z) U')
      (fun b N z U' hb hI => by
        show (S.2.1 2).testBit b = U'.2.2.1 0 (mi acc b)
        rw [hI.2.1.2.2.2.1]; exact hT b hb)
      (fun b N z U' hb hI hf => ⟨hI.1, hI.2.1, hI.2.2.1, hI.2.2.2.1, fun c hc => ⟨by
        rw [(hI.2.2.2.2.1 c hc).1]
        by_cases q : c = b
        · subst q; rw [hf]; simp
        · rw [decide_eq_decide.mpr (show c < b ↔ c < b + 1 by omega)], fun q1 q2 => (hI.2.2.2.2.1 c hc).2 (by
            by_cases q : c = b
            · subst q; rw [q2] at hf; exact absurd hf (by decide)
            · omega) q2⟩, hI.2.2.2.2.2⟩)
      (fun N z U' a hI q1 q2 => by
        show U'.2.2.1 0 a = false
        rw [hI.2.1.2.2.2.1]; exact hM.2.1.2.2 a q1 q2)
      (fun b N z U' hb hI hc hz => by
        rcases wr_sim hI.1 hI.2.1 with ⟨g1, g2, g3⟩ | ⟨g1, -⟩
        · exact ⟨g2, g3⟩
        · exact absurd hz g1)
      (fun b N z U' hb hI hc hz => by
        rcases wr_sim hI.1 hI.2.1 with ⟨g1, -⟩ | ⟨g1, g2, g4, g5, g6, g7⟩
        · exact absurd g1 hz
        · rw [g7] at g4 g5 ⊢
          refine ⟨by rw [g2]; decide, Dk_lg ha g4 hx3, g5, g6.trans hI.2.2.1, hI.2.2.2.1, fun c hcc => ⟨?_, fun q1 q2 => ?_⟩, fun a q1 q2 => ?_⟩
          · show va_up (U'.2.2.1 1) (mi acc b) true (mi acc c) = _
            by_cases q : c = b
            · subst q; rw [va_up_self, hc]; simp
            · rw [va_up_ne _ _ (fun q2 => q (mi_inj ha hcc hb q2)), (hI.2.2.2.2.1 c hcc).1, decide_eq_decide.mpr (show c < b ↔ c < b + 1 by omega)]
          · show va_up (N 2) b (N 0 b) c = S.1 0 c ∧ va_up (U'.1 2) (mi acc b) (U'.1 0 (mi acc b)) (mi acc c) = S.1 0 c
            by_cases q : c = b
            · subst q
              rw [va_up_self, va_up_self]
              refine ⟨by rw [hI.2.2.2.1.1], ?_⟩
              rw [hI.2.1.2.1]; exact hsv c hcc q2
            · rw [va_up_ne _ _ q, va_up_ne _ _ (fun q3 => q (mi_inj ha hcc hb q3))]
              exact (hI.2.2.2.2.1 c hcc).2 (by omega) q2
          · show va_up (U'.2.2.1 1) (mi acc b) true a = false
            rw [va_up_ne _ _ (mi_un hb q1 q2)]; exact hI.2.2.2.2.2 a q1 q2)
      (acc + 1) 0 S.1 S.2.2 (setT (setY U 0 0) 1 (fun _ => false)) (by omega) ⟨hD1, Kp_rf _ _, rfl, ⟨rfl, rfl⟩, fun c hc => ⟨by show (false : Bool) = (decide (c < 0) && (S.2.1 2).testBit c); simp, fun q => absurd q (by omega)⟩, fun a _ _ => rfl⟩
    rw [mp_0 ha1, ← wBl_g, ← cLp_g] at hl
    rcases hl with ⟨g1, g2, g3⟩ | ⟨g1, g2, g3, g4, g5, g6, g7, g8⟩
    · exact Or.inl ⟨g1, g2, g3⟩
    · refine Or.inr ⟨g1, g2, g3, g4, rfl, g5, g6.2, fun c hc => ⟨?_, fun q => (g7 c hc).2 (by omega) q⟩, g8⟩
      rw [(g7 c hc).1, decide_eq_true (by omega)]; simp
  · rintro S1 U1 ⟨k1, k2, k3, k4, k5, k6, k7⟩
    refine and_sim (P := fun S' U' => Dk acc lm w S' (setY U' 3 1) ∧ Kp S (setY U 0 0) S' U' ∧ ¬ S'.2.1 3 = 0 ∧ (∀ c, c ≤ acc → eff S'.1 S'.2.1 c = sv S.1 S.2.1 c) ∧ S'.2.2 1 = S.2.2 1) ?_ ?_
    · unfold dWL
      rcases wr_sim k1 k2 with ⟨g1, g2, g3⟩ | ⟨g1, g2, g3, g4, g5, g6⟩
      · rw [if_pos g1]; exact Or.inl ⟨rfl, g2, g3⟩
      · rw [if_neg g1]
        rw [g6] at g3 g4
        have g9 : mWr U1 = (1, U1.1, U1.2.1, U1.2.2.1, mZ U1.2.2.2) := Prod.ext g2 g6
        rw [g9]
        have he : ∀ c, c ≤ acc → eff S1.1 (va_up S1.2.1 3 (S.2.1 2)) c = sv S.1 S.2.1 c := by
          intro c hc
          unfold eff
          rw [va_up_self]
          by_cases q : (S.2.1 2).testBit c = true
          · rw [if_pos q, sv_t q]; exact ((k6 c hc).2 q).1
          · rw [if_neg q, sv_f q, k5]
        obtain ⟨a0, b0, c, d, e, f, g, i, j⟩ := g3
        refine Or.inr ⟨rfl, rfl, ⟨a0, b0, ⟨fun q => absurd q h2, fun q => absurd (show (1 : Int32) = 0 from q) (by decide)⟩, fun _ => ⟨fun c hc => ⟨(k6 c hc).1.symm, fun q => ?_⟩, k7⟩, hM.2.1.1, f, g, i, fun q => ?_⟩, g4, h2, he, g5.trans k4⟩
        · exact ((k6 c hc).2 q).1.trans ((k6 c hc).2 q).2.symm
        · show eff S1.1 (va_up S1.2.1 3 (S.2.1 2)) acc = fb_sm (eff S1.1 (va_up S1.2.1 3 (S.2.1 2))) acc
          rw [he acc (Nat.le_refl _), (hU.2 hup).2.2]
          exact (fb_sm_cong (fun k hk => he k (by omega))).symm
    · rintro S2 U2 ⟨p1, p2, p3, p4, p5⟩
      refine and_last (P := fun S' U' => Dk acc lm w S' U' ∧ Kp S (setY U 0 0) S' U' ∧ S'.2.1 3 = 0 ∧ (∀ c, c ≤ acc → S'.1 1 c = sv S.1 S.2.1 c) ∧ S'.2.2 1 = S.2.2 1) ?_
      rcases home_sim ha ha1 p1 (show Kp S (setY U 0 0) S2 (setY U2 3 1) from p2) p3 with ⟨g1, g2, g3⟩ | ⟨g1, g2, g3, g4, g5, g6, g7⟩
      · exact Or.inl ⟨g1, g2, g3⟩
      · exact Or.inr ⟨g1, g2, g3, g4, g5, fun c hc => (g6 c hc).trans (p4 c hc), g7.trans p5⟩
theorem s_commit (ha : acc ≤ 24) (ha1 : 1 ≤ acc) (h : Sm acc lm w S U) : (cCommit acc S).1 = (mCommit U).1 ∧ Sm acc lm w (cCommit acc S).2 (mCommit U).2 := by
  have hz : S.2.2 0 = U.2.2.2 1 := h.2.1.1.1
  have h1 : S.2.1 1 < 2147483648 ^ (lm + 1) := h.2.1.2.2.2.2.2
  unfold cCommit mCommit
  by_cases q : S.2.2 0 = 0
  · rw [if_pos q, if_pos (show U.2.2.2 1 = 0 from hz ▸ q)]; exact ⟨rfl, h⟩
  · rw [if_neg q, if_neg (show ¬ U.2.2.2 1 = 0 from hz ▸ q)]
    by_cases q2 : S.2.1 2 = 0
    · rw [if_pos ((tRel_zero ha h.2.1.2.1).mp q2)]
      have e : dLog (S.2.1 2) acc S = (1, S) := if_pos q2
      rw [e, if_neg (show ¬ (1 : Int32) = 0 by decide)]
      refine ⟨rfl, ?_⟩
      have e2 : va_up S.2.1 2 0 = S.2.1 := by
        funext k
        by_cases q3 : k = 2
        · subst q3; rw [va_up_self, q2]
        · rw [va_up_ne _ _ q3]
      show Sm acc lm w (S.1, va_up S.2.1 2 0, S.2.2) (setY U 0 0)
      rw [e2]; exact h
    · rw [if_neg (fun q3 => q2 ((tRel_zero ha h.2.1.2.1).mpr q3))]
      rcases com_sim ha ha1 h q q2 with ⟨g1, g2, g3⟩ | ⟨g1, g2, U', ⟨g3, g4, g5, g6, g7⟩, g8⟩
      · rw [if_pos g1, if_pos g2]
        refine ⟨rfl, ?_⟩
        exact fin_fail ha g3 rfl rfl rfl (by show (dLog (S.2.1 2) acc S).2.2.1 1 < _; rw [g3.1.2.1]; exact h1)
      · rw [if_neg (show ¬ (dLog (S.2.1 2) acc S).1 = 0 by rw [g1]; decide), if_neg (show ¬ (mCom1 (setY U 0 0)).1 = 0 by rw [g2]; decide), g8]
        refine ⟨rfl, ?_⟩
        have e0 : (dLog (S.2.1 2) acc S).2.2.2 0 = S.2.2 0 := g4.1.2.2.2
        refine sm_drop (U := setT U' 0 (fun _ => false)) (Dk_x g3 rfl) rfl (fun a hal => ?_) (fun a _ => rfl) ha ?_ ?_ ?_ ?_ (fun q3 => absurd (e0 ▸ q3) q) (fun _ => ⟨g5, ?_⟩)
        · show U'.1 0 a = U'.1 1 a
          rw [g4.2.1]
          rcases mi_cov (acc := acc) hal with ⟨q3, q4⟩ | ⟨b, hb, rfl⟩
          · rw [g3.2.2.2.2.2.2.2.1 a q3 q4]; exact h.2.1.2.2.1 a q3 q4
          · rw [← g3.2.1 b hb, g6 b hb]; exact (h.2.1.2.2.2.1 b hb).symm
        · show (dLog (S.2.1 2) acc S).2.2.2 0 = U'.2.2.2 1
          rw [e0, g4.2.2.2.2]; exact hz
        · show (dLog (S.2.1 2) acc S).2.2.1 0 = U'.2.1
          rw [g4.1.1, g4.2.2.1]; exact h.2.1.1.2
        · show (dLog (S.2.1 2) acc S).2.2.1 0 < _
          rw [g4.1.1]; exact h.2.1.2.2.2.2.1
        · show (dLog (S.2.1 2) acc S).2.2.1 1 < _
          rw [g4.1.2.1]; exact h1
        · show ¬ (dLog (S.2.1 2) acc S).2.2.2 1 = 0
          rw [g7]; exact (h.2.2.2 q).2.1
theorem s_abort (ha : acc ≤ 24) (h : Sm acc lm w S U) : (cAbort S).1 = (mAbort U).1 ∧ Sm acc lm w (cAbort S).2 (mAbort U).2 := by
  have hz : S.2.2 0 = U.2.2.2 1 := h.2.1.1.1
  unfold cAbort mAbort
  by_cases q : S.2.2 0 = 0
  · rw [if_pos q, if_pos (show U.2.2.2 1 = 0 from hz ▸ q)]; exact ⟨rfl, h⟩
  · rw [if_neg q, if_neg (show ¬ U.2.2.2 1 = 0 from hz ▸ q)]
    exact ⟨rfl, sm_drop (Dk_x h.1 rfl) rfl (fun a _ => rfl) (fun a _ => rfl) ha hz h.2.1.1.2 h.2.1.2.2.2.2.1 h.2.1.2.2.2.2.2 (fun q2 => absurd q2 q) (fun _ => ⟨(h.2.2.2 q).1, (h.2.2.2 q).2.1⟩)⟩
end SIM

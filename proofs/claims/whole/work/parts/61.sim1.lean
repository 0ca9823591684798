/-! acts on the disk, side by side -/
def simR (P F : DS → MS → Prop) (r : Int32 × DS) (q : Int32 × MS) : Prop := (r.1 = 0 ∧ q.1 = 0 ∧ F r.2 q.2) ∨ (r.1 = 1 ∧ q.1 = 1 ∧ P r.2 q.2)
theorem and_sim {P Q F : DS → MS → Prop} {f g : DS → Int32 × DS} {h k : MS → Int32 × MS} {S : DS} {U : MS} (h1 : simR P F (f S) (h U)) (h2 : ∀ S' U', P S' U' → simR Q F (g S') (k U')) : simR Q F (andD f g S) (andM h k U) := by
  unfold andD andM
  rcases h1 with ⟨a, b, c⟩ | ⟨a, b, c⟩
  · rw [if_pos a, if_pos b]; exact Or.inl ⟨rfl, rfl, c⟩
  · rw [if_neg (by rw [a]; decide), if_neg (by rw [b]; decide)]; exact h2 _ _ c
theorem and_last {P F : DS → MS → Prop} {r : Int32 × DS} {h : MS → Int32 × MS} {k : MS → MS} {U : MS} (h1 : simR P F r (h U)) : simR (fun S' U'' => ∃ U', P S' U' ∧ U'' = k U') F r (andM h (fun S => (1, k S)) U) := by
  unfold andM
  rcases h1 with ⟨a, b, c⟩ | ⟨a, b, c⟩
  · rw [if_pos b]; exact Or.inl ⟨a, rfl, c⟩
  · rw [if_neg (by rw [b]; decide)]; exact Or.inr ⟨a, rfl, _, c, rfl⟩
def Kp (S0 : DS) (U0 : MS) (S : DS) (U : MS) : Prop := (S.2.1 0 = S0.2.1 0 ∧ S.2.1 1 = S0.2.1 1 ∧ S.2.1 2 = S0.2.1 2 ∧ S.2.2 0 = S0.2.2 0) ∧ (U.1 0 = U0.1 0 ∧ U.2.1 = U0.2.1 ∧ U.2.2.1 0 = U0.2.2.1 0 ∧ U.2.2.2 1 = U0.2.2.2 1)
def Fl (acc lm : Nat) (w : Int32) (S0 : DS) (S : DS) (U : MS) : Prop := (S.2.1 0 = S0.2.1 0 ∧ S.2.1 1 = S0.2.1 1 ∧ S.2.1 2 = S0.2.1 2) ∧ ∃ U1, U = mDown U1 ∧ Dk acc lm w S U1
theorem Kp_rf (S : DS) (U : MS) : Kp S U S U := ⟨⟨rfl, rfl, rfl, rfl⟩, rfl, rfl, rfl, rfl⟩
section SIM
variable {acc lm : Nat} {w : Int32} {S S0 : DS} {U U0 : MS}
theorem wr_sim (hD : Dk acc lm w S U) (hK : Kp S0 U0 S U) : (S.2.2 3 = 0 ∧ (mWr U).1 = 0 ∧ Fl acc lm w S0 (S.1, S.2.1, psZ S.2.2) (mWr U).2) ∨ (¬ S.2.2 3 = 0 ∧ (mWr U).1 = 1 ∧ Dk acc lm w (S.1, S.2.1, psZ S.2.2) (mWr U).2 ∧ Kp S0 U0 (S.1, S.2.1, psZ S.2.2) (mWr U).2 ∧ psZ S.2.2 1 = S.2.2 1 ∧ (mWr U).2 = (U.1, U.2.1, U.2.2.1, mZ U.2.2.2)) := by
  have h3 : S.2.2 3 = U.2.2.2 5 := hD.1.2.2.1
  by_cases h : S.2.2 3 = 0
  · rw [mWr_0 (h3 ▸ h), psZ_0 h]
    exact Or.inl ⟨h, rfl, ⟨hK.1.1, hK.1.2.1, hK.1.2.2.1⟩, _, rfl, Dk_stop hD⟩
  · rw [mWr_1 (h3 ▸ h)]
    refine Or.inr ⟨h, rfl, Dk_pass hD h, ⟨⟨hK.1.1, hK.1.2.1, hK.1.2.2.1, ?_⟩, hK.2.1, hK.2.2.1, hK.2.2.2.1, ?_⟩, psZ_k (by decide) (by decide), rfl⟩
    · show psZ S.2.2 0 = _
      rw [psZ_k (by decide) (by decide)]; exact hK.1.2.2.2
    · show mZ U.2.2.2 1 = _
      rw [mZ_k (by decide) (by decide)]; exact hK.2.2.2.2
theorem Dk_log0 (hD : Dk acc lm w S U) (hE : ¬ S.2.2 1 = 0 → ∀ c, c ≤ acc → S.1 1 c = eff S.1 S.2.1 c) : Dk acc lm w (S.1, va_up S.2.1 3 0, S.2.2) (setY U 3 0) := by
  obtain ⟨⟨a1, a2, a3, a4, a5⟩, b, c, d, e, f, g, i, j⟩ := hD
  refine ⟨⟨a1, a2, a3, a4, a5⟩, b, ⟨fun _ => rfl, fun _ => rfl⟩, fun q => absurd rfl q, Nat.two_pow_pos _, f, g, i, fun q => ?_⟩
  have h0 : ∀ c, eff S.1 (va_up S.2.1 3 0) c = S.1 1 c := eff_0 rfl
  show eff S.1 (va_up S.2.1 3 0) acc = fb_sm (eff S.1 (va_up S.2.1 3 0)) acc
  rw [h0, hE q acc (Nat.le_refl _), j q]
  exact fb_sm_cong (fun k hk => by rw [h0, hE q k (by omega)])
theorem emp_sim (hD : Dk acc lm w S U) (hK : Kp S0 U0 S U) (hE : ¬ S.2.2 1 = 0 → ∀ c, c ≤ acc → S.1 1 c = eff S.1 S.2.1 c) :
    simR (fun S' U' => Dk acc lm w S' U' ∧ Kp S0 U0 S' U' ∧ S'.2.1 3 = 0 ∧ S'.1 = S.1 ∧ S'.2.2 1 = S.2.2 1) (Fl acc lm w S0) (dWL 0 S) (mEmp U) := by
  unfold dWL mEmp
  rcases wr_sim hD hK with ⟨h1, h2, h3⟩ | ⟨h1, h2, h3, h4, h5, -⟩
  · rw [if_pos h1, if_pos h2]; exact Or.inl ⟨rfl, rfl, h3⟩
  · rw [if_neg h1, if_neg (by rw [h2]; decide)]
    exact Or.inr ⟨rfl, rfl, Dk_log0 h3 (fun q => hE (by rw [← h5]; exact q)), h4, rfl, rfl, h5⟩
theorem Dk_home {b : Nat} (ha : acc ≤ 24) (hD : Dk acc lm w S U) (h3 : ¬ S.2.1 3 = 0) (hb : b ≤ acc) (hbit : (S.2.1 3).testBit b = true) : Dk acc lm w (va_up S.1 1 (va_up (S.1 1) b (S.1 2 b)), S.2.1, S.2.2) (cpN U 1 2 (mi acc b)) := by
  obtain ⟨a0, b0, c, d, e, f, g, i, j⟩ := hD
  have he : ∀ k, eff (va_up S.1 1 (va_up (S.1 1) b (S.1 2 b))) S.2.1 k = eff S.1 S.2.1 k := by
    intro k
    unfold eff
    by_cases q : (S.2.1 3).testBit k = true
    · rw [if_pos q, if_pos q, va_up_ne _ _ (by decide)]
    · rw [if_neg q, if_neg q, va_up_self, va_up_ne _ _ (show k ≠ b from fun q2 => q (q2 ▸ hbit))]
  refine ⟨a0, fun k hk => ?_, c, d, e, fun k m hm => ?_, nOk_up g (g _ _), fun a h1 h2 => ?_, fun q => ?_⟩
  · show va_up S.1 1 (va_up (S.1 1) b (S.1 2 b)) 1 k = va_up U.1 1 (va_up (U.1 1) (mi acc b) (U.1 2 (mi acc b))) 1 (mi acc k)
    rw [va_up_self, va_up_self]
    by_cases q : k = b
    · subst q; rw [va_up_self, va_up_self]; exact ((d h3).1 k hk).2 hbit
    · rw [va_up_ne _ _ q, va_up_ne _ _ (fun q2 => q (mi_inj ha hk hb q2))]; exact b0 k hk
  · show va_up S.1 1 (va_up (S.1 1) b (S.1 2 b)) k m < _
    by_cases q : k = 1
    · subst q
      rw [va_up_self]
      by_cases q2 : m = b
      · subst q2; rw [va_up_self]; exact f _ _ hm
      · rw [va_up_ne _ _ q2]; exact f _ _ hm
    · rw [va_up_ne _ _ q]; exact f _ _ hm
  · show va_up U.1 1 (va_up (U.1 1) (mi acc b) (U.1 2 (mi acc b))) 1 a = 0
    rw [va_up_self, va_up_ne _ _ (mi_un hb h1 h2)]; exact i a h1 h2
  · show eff (va_up S.1 1 (va_up (S.1 1) b (S.1 2 b))) S.2.1 acc = fb_sm (eff (va_up S.1 1 (va_up (S.1 1) b (S.1 2 b))) S.2.1) acc
    rw [he, j q]
    exact (fb_sm_cong (fun k _ => he k)).symm
theorem home_sim (ha : acc ≤ 24) (ha1 : 1 ≤ acc) (hD : Dk acc lm w S U) (hK : Kp S0 U0 S U) (h3 : ¬ S.2.1 3 = 0) :
    simR (fun S' U' => Dk acc lm w S' U' ∧ Kp S0 U0 S' U' ∧ S'.2.1 3 = 0 ∧ (∀ c, c ≤ acc → S'.1 1 c = eff S.1 S.2.1 c) ∧ S'.2.2 1 = S.2.2 1) (Fl acc lm w S0) (dHome acc S) (mGo U) := by
  have e1 : dHome acc S = andD (dWB 1 2 (S.2.1 3) acc) (dWL 0) S := if_neg h3
  have e2 : mGo U = andM (gHl 25 0) mEmp U := rfl
  rw [e1, e2]
  refine and_sim (P := fun S' U' => Dk acc lm w S' U' ∧ Kp S0 U0 S' U' ∧ S'.2.1 = S.2.1 ∧ S'.2.2 1 = S.2.2 1 ∧ (∀ c, S'.1 1 c = eff S.1 S.2.1 c ∨ acc < c) ∧ (∀ c, c ≤ acc → eff S'.1 S'.2.1 c = eff S.1 S.2.1 c)) ?_ ?_
  · have hl := lp_sim ha (cC := fun b => (S.2.1 3).testBit b) (fC := fun N b => va_up N 1 (va_up (N 1) b (N 2 b))) (cM := fun S a => S.2.2.1 1 a) (fM := fun S a => cpN S 1 2 a)
      (fun b N z U' => Dk acc lm w (N, S.2.1, z) U' ∧ Kp S0 U0 (N, S.2.1, z) U' ∧ z 1 = S.2.2 1 ∧ N 2 = S.1 2 ∧ ∀ c, N 1 c = if c < b ∧ (S.2.1 3).testBit c = true then S.1 2 c else S.1 1 c)
      (fun N z U' => Fl acc lm w S0 (N, S.2.1, z) U')
      (fun b N z U' hb hI => ((hI.1.2.2.2.1 h3).1 b hb).1)
      (fun b N z U' hb hI hf => ⟨hI.1, hI.2.1, hI.2.2.1, hI.2.2.2.1, fun c => by
        rw [hI.2.2.2.2 c]
        by_cases q : c < b ∧ (S.2.1 3).testBit c = true
        · rw [if_pos q, if_pos ⟨by omega, q.2⟩]
        · rw [if_neg q, if_neg (fun q2 => by
            by_cases q3 : c = b
            · subst q3; rw [q2.2] at hf; exact absurd hf (by decide)
            · exact q ⟨by omega, q2.2⟩)]⟩)
      (fun N z U' a hI q1 q2 => (hI.1.2.2.2.1 h3).2 a q1 q2)
      (fun b N z U' hb hI hc hz => by
        rcases wr_sim hI.1 hI.2.1 with ⟨h1, h2, h3⟩ | ⟨h1, -⟩
        · exact ⟨h2, h3⟩
        · exact absurd hz h1)
      (fun b N z U' hb hI hc hz => by
        rcases wr_sim hI.1 hI.2.1 with ⟨h1, -⟩ | ⟨h1, h2, h4, h5, h6, -⟩
        · exact absurd h1 hz
        · refine ⟨by rw [h2]; decide, Dk_home ha h4 h3 hb hc, h5, h6.trans hI.2.2.1, hI.2.2.2.1, fun c => ?_⟩
          show va_up N 1 (va_up (N 1) b (N 2 b)) 1 c = _
          rw [va_up_self]
          by_cases q : c = b
          · subst q; rw [va_up_self, if_pos ⟨by omega, hc⟩, hI.2.2.2.1]
          · rw [va_up_ne _ _ q, hI.2.2.2.2 c]
            by_cases q2 : c < b ∧ (S.2.1 3).testBit c = true
            · rw [if_pos q2, if_pos ⟨by omega, q2.2⟩]
            · rw [if_neg q2, if_neg (fun q3 => q2 ⟨by omega, q3.2⟩)])
      (acc + 1) 0 S.1 S.2.2 U (by omega) ⟨hD, hK, rfl, rfl, fun c => by rw [if_neg (by omega)]⟩
    rw [mp_0 ha1, ← wBl_g, ← gHl_g] at hl
    rcases hl with ⟨h1, h2, h4⟩ | ⟨h1, h2, h4, h5, h6, h7, h8⟩
    · exact Or.inl ⟨h1, h2, h4⟩
    · refine Or.inr ⟨h1, h2, h4, h5, rfl, h6, fun c => ?_, fun c hc => ?_⟩
      · by_cases q : c ≤ acc
        · refine Or.inl ?_
          show (wBl 1 2 (S.2.1 3) (acc + 1) 0 S.1 S.2.2).2.1 1 c = _
          rw [h8 c]
          unfold eff
          by_cases q2 : (S.2.1 3).testBit c = true
          · rw [if_pos ⟨by omega, q2⟩, if_pos q2]
          · rw [if_neg (fun q3 => q2 q3.2), if_neg q2]
        · exact Or.inr (by omega)
      · show eff (wBl 1 2 (S.2.1 3) (acc + 1) 0 S.1 S.2.2).2.1 S.2.1 c = _
        unfold eff
        rw [h7]
        by_cases q2 : (S.2.1 3).testBit c = true
        · rw [if_pos q2, if_pos q2]
        · rw [if_neg q2, if_neg q2, h8 c, if_neg (fun q3 => q2 q3.2)]
  · rintro S' U' ⟨h1, h2, h4, h5, h6, h7⟩
    have h8 : ∀ c, c ≤ acc → S'.1 1 c = eff S.1 S.2.1 c := fun c hc => (h6 c).resolve_right (by omega)
    rcases emp_sim h1 h2 (fun _ c hc => by rw [h7 c hc]; exact h8 c hc) with ⟨g1, g2, g3⟩ | ⟨g1, g2, g3, g4, g5, g6, g7⟩
    · exact Or.inl ⟨g1, g2, g3⟩
    · exact Or.inr ⟨g1, g2, g3, g4, g5, fun c hc => by rw [g6]; exact h8 c hc, g7.trans h5⟩
theorem Dk_x {x' : Nat → Nat} (hD : Dk acc lm w S U) (hx : x' 3 = S.2.1 3) : Dk acc lm w (S.1, x', S.2.2) U := by
  obtain ⟨a0, b0, c, d, e, f, g, i, j⟩ := hD
  have he : ∀ k, eff S.1 x' k = eff S.1 S.2.1 k := fun k => by unfold eff; rw [hx]
  refine ⟨a0, b0, ?_, ?_, ?_, f, g, i, fun q => ?_⟩
  · show x' 3 = 0 ↔ _
    rw [hx]; exact c
  · show ¬ x' 3 = 0 → (∀ b, b ≤ acc → (x' 3).testBit b = _ ∧ ((x' 3).testBit b = true → _)) ∧ _
    rw [hx]; exact d
  · show x' 3 < _
    rw [hx]; exact e
  · show eff S.1 x' acc = fb_sm (eff S.1 x') acc
    rw [he, j q]
    exact (fb_sm_cong (fun k _ => he k)).symm
theorem fin_fail {x' : Nat → Nat} (ha : acc ≤ 24) (h : Fl acc lm w S0 S U) (hx : x' 3 = S.2.1 3) (h0 : x' 0 = 0) (h2 : x' 2 = 0) (h1 : x' 1 < 2147483648 ^ (lm + 1)) : Sm acc lm w (S.1, x', va_up S.2.2 0 0) U := by
  obtain ⟨-, U1, rfl, hD⟩ := h
  refine sm_drop (U := mDown U1) (Dk_x hD hx) h2 (fun a _ => rfl) (fun a _ => rfl) ha rfl h0 ?_ h1 (fun _ => h0) (fun q => absurd rfl q)
  show x' 0 < _
  rw [h0]; exact bp_pos _
theorem fin_up {x' : Nat → Nat} (ha : acc ≤ 24) (hD : Dk acc lm w S U) (h3 : S.2.1 3 = 0) (hz : ¬ S.2.2 1 = 0) (hx : x' 3 = S.2.1 3) (h0 : x' 0 = 0) (h2 : x' 2 = 0) (h1 : x' 1 < 2147483648 ^ (lm + 1)) : Sm acc lm w (S.1, x', va_up S.2.2 0 1) (setY (mForget U) 1 1) := by
  refine sm_drop (U := setY (mForget U) 1 1) (Dk_x hD hx) h2 (fun a _ => rfl) (fun a _ => rfl) ha rfl h0 ?_ h1 (fun _ => h0) (fun q => ⟨hx.trans h3, hz⟩)
  show x' 0 < _
  rw [h0]; exact bp_pos _
theorem s_recover (ha : acc ≤ 24) (ha1 : 1 ≤ acc) (h : Sm acc lm w S U) : (cRecover acc S).1 = (mRecover U).1 ∧ Sm acc lm w (cRecover acc S).2 (mRecover U).2 := by
  obtain ⟨hD, hM, hU⟩ := h
  unfold cRecover mRecover
  have e2 : S.2.2 1 = U.2.2.2 2 := hD.1.1
  have e3 : S.2.1 3 = 0 ↔ U.2.2.2 3 = 0 := hD.2.2.1
  have h1 : S.2.1 1 < 2147483648 ^ (lm + 1) := hM.2.2.2.2.2
  by_cases q : S.2.2 1 = 0
  · rw [if_pos q, if_pos (e2 ▸ q)]
    exact ⟨rfl, fin_fail (S := S) (U := mDown (setY U 0 0)) (S0 := S) ha ⟨⟨rfl, rfl, rfl⟩, _, rfl, hD⟩ rfl rfl rfl h1⟩
  · rw [if_neg q, if_neg (e2 ▸ q)]
    by_cases q3 : S.2.1 3 = 0
    · rw [if_pos (e3.mp q3)]
      have e : dHome acc (S.1, cLose S.2.1, S.2.2) = (1, S.1, cLose S.2.1, S.2.2) := if_pos q3
      rw [e]
      exact ⟨rfl, fin_up (S := S) (U := setY U 0 0) ha hD q3 q rfl rfl rfl h1⟩
    · rw [if_neg (fun q2 => q3 (e3.mpr q2))]
      have hs := and_last (k := fun S => setY (mForget S) 1 1) (home_sim (S := (S.1, cLose S.2.1, S.2.2)) (U := setY U 0 0) (S0 := (S.1, cLose S.2.1, S.2.2)) (U0 := setY U 0 0) ha ha1 (Dk_x hD rfl) (Kp_rf _ _) q3)
      rcases hs with ⟨g1, g2, g3⟩ | ⟨g1, g2, U', ⟨g3, g4, g5, g6, g7⟩, g8⟩
      · refine ⟨by rw [g2]; exact g1, ?_⟩
        rw [g1]
        have k := g3.1
        exact fin_fail ha g3 rfl k.1 k.2.2 (by rw [k.2.1]; exact h1)
      · refine ⟨by rw [g2]; exact g1, ?_⟩
        rw [g1, g8]
        have k := g4.1
        exact fin_up ha g3 g5 (by rw [g7]; exact q) rfl k.1 k.2.2.1 (by rw [k.2.1]; exact h1)
end SIM

/-! class and reference side by side, no machine: block b of the class is number mi b of the reference -/
def mi (acc b : Nat) : Nat := if b = acc then 24 else b
theorem mi_lt {acc b : Nat} (h : b < acc) : mi acc b = b := if_neg (by omega)
theorem mi_acc (acc : Nat) : mi acc acc = 24 := if_pos rfl
theorem mi_le {acc b : Nat} (ha : acc ≤ 24) (h : b ≤ acc) : mi acc b ≤ 24 := by unfold mi; split <;> omega
theorem mi_inj {acc b c : Nat} (ha : acc ≤ 24) (hb : b ≤ acc) (hc : c ≤ acc) (h : mi acc b = mi acc c) : b = c := by unfold mi at h; split at h <;> split at h <;> omega
theorem mi_un {acc b a : Nat} (hb : b ≤ acc) (h1 : acc ≤ a) (h2 : a < 24) : a ≠ mi acc b := by unfold mi; split <;> omega
theorem mi_cov {acc a : Nat} (h : a ≤ 24) : (acc ≤ a ∧ a < 24) ∨ ∃ b, b ≤ acc ∧ a = mi acc b := by
  by_cases h1 : a < acc
  · exact Or.inr ⟨a, by omega, (mi_lt h1).symm⟩
  · by_cases h2 : a < 24
    · exact Or.inl ⟨by omega, h2⟩
    · exact Or.inr ⟨acc, Nat.le_refl _, by rw [mi_acc]; omega⟩
def eff (N : LN) (x : Nat → Nat) (b : Nat) : Nat := if (x 3).testBit b = true then N 2 b else N 1 b
theorem eff_0 {N : LN} {x : Nat → Nat} (h : x 3 = 0) (b : Nat) : eff N x b = N 1 b := by
  unfold eff
  rw [h, Nat.zero_testBit, if_neg (by decide)]
theorem sv_0 {N : LN} {x : Nat → Nat} (h : x 2 = 0) (b : Nat) : sv N x b = N 1 b := by
  unfold sv sk
  rw [h, Nat.zero_testBit, if_neg (by decide)]
theorem sv_t {N : LN} {x : Nat → Nat} {b : Nat} (h : (x 2).testBit b = true) : sv N x b = N 0 b := by
  unfold sv sk
  rw [if_pos h]
theorem sv_f {N : LN} {x : Nat → Nat} {b : Nat} (h : ¬ (x 2).testBit b = true) : sv N x b = N 1 b := by
  unfold sv sk
  rw [if_neg h]
/-! sets of blocks -/
def tRel (acc X : Nat) (T : Nat → Bool) : Prop := X < 2 ^ (acc + 1) ∧ (∀ b, b ≤ acc → X.testBit b = T (mi acc b)) ∧ ∀ a, acc ≤ a → a < 24 → T a = false
theorem tRel_set {acc X b : Nat} {T : Nat → Bool} (ha : acc ≤ 24) (h : tRel acc X T) (hb : b ≤ acc) : tRel acc (X ||| 2 ^ b) (va_up T (mi acc b) true) := by
  refine ⟨Nat.or_lt_two_pow h.1 (Nat.pow_lt_pow_right (by decide) (by omega)), fun c hc => ?_, fun a h1 h2 => ?_⟩
  · rw [fb_bit_set, h.2.1 c hc]
    by_cases e : c = b
    · subst e; rw [va_up_self]; simp
    · rw [va_up_ne _ _ (fun q => e (mi_inj ha hc hb q))]; simp [e]
  · rw [va_up_ne _ _ (mi_un hb h1 h2)]; exact h.2.2 a h1 h2
theorem ct_gap {T : Nat → Bool} {m : Nat} : ∀ k, (∀ a, m ≤ a → a < m + k → T a = false) → fb_ct T (m + k) = fb_ct T m
  | 0, _ => rfl
  | k + 1, h => by
    show fb_ct T (m + k + 1) = _
    rw [fb_ct_succ, ct_gap k (fun a h1 h2 => h a h1 (by omega)), h (m + k) (by omega) (by omega)]
    rfl
theorem tRel_ct {acc X : Nat} {T : Nat → Bool} (ha : acc ≤ 24) (h : tRel acc X T) : ctb X = fb_ct T 25 := by
  unfold ctb
  have e1 : fb_ct (fun i => X.testBit i) 32 = fb_ct (fun i => X.testBit i) (acc + 1) := by
    have := ct_gap (T := fun i => X.testBit i) (m := acc + 1) (31 - acc) (fun a h1 _ => Nat.testBit_lt_two_pow (Nat.lt_of_lt_of_le h.1 (Nat.pow_le_pow_right (by decide) h1)))
    rw [← this]
    congr 1
    omega
  have e2 : fb_ct T 24 = fb_ct T acc := by
    have := ct_gap (T := T) (m := acc) (24 - acc) (fun a h1 h2 => h.2.2 a h1 (by omega))
    rw [← this]
    congr 1
    omega
  rw [e1, fb_ct_succ, fb_ct_succ T 24, e2, h.2.1 acc (Nat.le_refl _), mi_acc]
  congr 1
  exact fb_ct_cong (fun k hk => by rw [h.2.1 k (by omega), mi_lt hk])
theorem tRel_zero {acc X : Nat} {T : Nat → Bool} (ha : acc ≤ 24) (h : tRel acc X T) : X = 0 ↔ fb_ct T 25 = 0 := by
  rw [fb_ct_zero]
  constructor
  · intro h0 k hk
    rcases mi_cov (acc := acc) (a := k) (by omega) with q | ⟨b, hb, rfl⟩
    · exact h.2.2 k q.1 q.2
    · rw [← h.2.1 b hb, h0, Nat.zero_testBit]
  · intro h0
    apply Nat.eq_of_testBit_eq
    intro i
    rw [Nat.zero_testBit]
    by_cases hi : i ≤ acc
    · rw [h.2.1 i hi]; exact h0 _ (by have := mi_le ha hi; omega)
    · exact Nat.testBit_lt_two_pow (Nat.lt_of_lt_of_le h.1 (Nat.pow_le_pow_right (by decide) (by omega)))
theorem ct_up {T : Nat → Bool} {a : Nat} (h : a < 25) : fb_ct (va_up T a true) 25 = fb_ct T 25 + (if T a = true then 0 else 1) := by
  have h1 := fb_ct_upd T true (i := a) (n := 25) h
  have h2 : fb_ct (va_up T a true) 25 = fb_ct (fun k => if k = a then true else T k) 25 := rfl
  rw [h2]
  cases e : T a
  · rw [e] at h1; simp at h1 ⊢; omega
  · rw [e] at h1; simp at h1 ⊢; omega
theorem tRel_more {acc X b c : Nat} {T : Nat → Bool} (ha : acc ≤ 24) (h : tRel acc X T) (hb : b ≤ acc) (hc : c ≤ acc) : ctb (X ||| 2 ^ b ||| 2 ^ c) = fb_ct T 25 + mMore T (mi acc b) (mi acc c) := by
  rw [tRel_ct ha (tRel_set ha (tRel_set ha h hb) hc), ct_up (by have := mi_le ha hc; omega), ct_up (by have := mi_le ha hb; omega)]
  unfold mMore
  by_cases e : mi acc c = mi acc b
  · rw [e, va_up_self]; simp
  · rw [va_up_ne _ _ e]
    cases T (mi acc c) <;> simp [e, Nat.add_assoc]
/-! the relation -/
def Dk (acc lm : Nat) (w : Int32) (S : DS) (U : MS) : Prop :=
  (S.2.2 1 = U.2.2.2 2 ∧ S.2.2 2 = U.2.2.2 4 ∧ S.2.2 3 = U.2.2.2 5 ∧ S.2.2 4 = w ∧ U.2.2.2 6 = w) ∧
  (∀ b, b ≤ acc → S.1 1 b = U.1 1 (mi acc b)) ∧
  (S.2.1 3 = 0 ↔ U.2.2.2 3 = 0) ∧
  (¬ S.2.1 3 = 0 → (∀ b, b ≤ acc → (S.2.1 3).testBit b = U.2.2.1 1 (mi acc b) ∧ ((S.2.1 3).testBit b = true → S.1 2 b = U.1 2 (mi acc b))) ∧ ∀ a, acc ≤ a → a < 24 → U.2.2.1 1 a = false) ∧
  S.2.1 3 < 2 ^ (acc + 1) ∧
  (∀ k b, b < acc → S.1 k b < 2147483648 ^ lm) ∧ nOk lm S.1 ∧
  (∀ a, acc ≤ a → a < 24 → U.1 1 a = 0) ∧
  (¬ S.2.2 1 = 0 → eff S.1 S.2.1 acc = fb_sm (eff S.1 S.2.1) acc)
def Me (acc lm : Nat) (S : DS) (U : MS) : Prop :=
  (S.2.2 0 = U.2.2.2 1 ∧ S.2.1 0 = U.2.1) ∧ tRel acc (S.2.1 2) (U.2.2.1 0) ∧ (∀ a, acc ≤ a → a < 24 → U.1 0 a = 0) ∧
  (∀ b, b ≤ acc → sv S.1 S.2.1 b = U.1 0 (mi acc b)) ∧ S.2.1 0 < 2147483648 ^ lm ∧ S.2.1 1 < 2147483648 ^ (lm + 1)
def Ud (acc : Nat) (S : DS) : Prop := (S.2.2 0 = 0 → S.2.1 0 = 0 ∧ S.2.1 2 = 0) ∧ (¬ S.2.2 0 = 0 → S.2.1 3 = 0 ∧ ¬ S.2.2 1 = 0 ∧ sv S.1 S.2.1 acc = fb_sm (sv S.1 S.2.1) acc)
def Sm (acc lm : Nat) (w : Int32) (S : DS) (U : MS) : Prop := Dk acc lm w S U ∧ Me acc lm S U ∧ Ud acc S
theorem sm_drop {acc lm : Nat} {w : Int32} {S : DS} {U : MS} (hD : Dk acc lm w S U) (h2 : S.2.1 2 = 0) (h0 : ∀ a, a ≤ 24 → U.1 0 a = U.1 1 a) (hT : ∀ a, a ≤ 24 → U.2.2.1 0 a = false) (ha : acc ≤ 24)
    (hz : S.2.2 0 = U.2.2.2 1) (hm : S.2.1 0 = U.2.1) (hl : S.2.1 0 < 2147483648 ^ lm) (h1 : S.2.1 1 < 2147483648 ^ (lm + 1)) (hd : S.2.2 0 = 0 → S.2.1 0 = 0) (hu : ¬ S.2.2 0 = 0 → S.2.1 3 = 0 ∧ ¬ S.2.2 1 = 0) : Sm acc lm w S U := by
  refine ⟨hD, ⟨⟨hz, hm⟩, ⟨by rw [h2]; exact Nat.two_pow_pos _, fun b hb => ?_, fun a _ q => hT a (by omega)⟩, fun a q1 q2 => ?_, fun b hb => ?_, hl, h1⟩, fun q => ⟨hd q, h2⟩, fun q => ⟨(hu q).1, (hu q).2, ?_⟩⟩
  · rw [h2, Nat.zero_testBit, hT _ (mi_le ha hb)]
  · rw [h0 a (by omega)]; exact hD.2.2.2.2.2.2.2.1 a q1 q2
  · rw [sv_0 h2, h0 _ (mi_le ha hb)]; exact hD.2.1 b hb
  · have h3 := hD.2.2.2.2.2.2.2.2 (hu q).2
    rw [eff_0 (hu q).1] at h3
    rw [sv_0 h2, h3]
    exact fb_sm_cong (fun k _ => by rw [eff_0 (hu q).1, sv_0 h2])
/-! one write to the disk -/
theorem mWr_0 {U : MS} (h : U.2.2.2 5 = 0) : mWr U = (0, mDown (U.1, U.2.1, U.2.2.1, va_up U.2.2.2 5 (-1))) := if_pos h
theorem mWr_1 {U : MS} (h : ¬ U.2.2.2 5 = 0) : mWr U = (1, U.1, U.2.1, U.2.2.1, mZ U.2.2.2) := if_neg h
theorem psZ_0 {z : Nat → Int32} (h : z 3 = 0) : psZ z = va_up z 3 (-1) := if_pos h
theorem psZ_k {z : Nat → Int32} {k : Nat} (h2 : k ≠ 2) (h3 : k ≠ 3) : psZ z k = z k := by
  unfold psZ
  split
  · rw [va_up_ne _ _ h3]
  · split
    · rw [va_up_ne _ _ h2]
    · rw [va_up_ne _ _ h2, va_up_ne _ _ h3]
theorem mZ_k {y : Nat → Int32} {k : Nat} (h2 : k ≠ 4) (h3 : k ≠ 5) : mZ y k = y k := by
  unfold mZ
  split
  · rw [va_up_ne _ _ h2]
  · rw [va_up_ne _ _ h2, va_up_ne _ _ h3]
theorem psZ_mZ {z y : Nat → Int32} (h : ¬ z 3 = 0) (h2 : z 2 = y 4) (h3 : z 3 = y 5) : psZ z 2 = mZ y 4 ∧ psZ z 3 = mZ y 5 := by
  unfold psZ mZ
  rw [if_neg h, ← h3]
  split
  · exact ⟨by rw [va_up_self, va_up_self, h2], by rw [va_up_ne _ _ (by decide), va_up_ne _ _ (by decide), h3]⟩
  · exact ⟨by rw [va_up_self, va_up_self, h2], rfl⟩
theorem Dk_pass {acc lm : Nat} {w : Int32} {S : DS} {U : MS} (hD : Dk acc lm w S U) (h : ¬ S.2.2 3 = 0) : Dk acc lm w (S.1, S.2.1, psZ S.2.2) (U.1, U.2.1, U.2.2.1, mZ U.2.2.2) := by
  obtain ⟨⟨a1, a2, a3, a4, a5⟩, b, c, d, e, f, g, i, j⟩ := hD
  have k := psZ_mZ h a2 a3
  refine ⟨⟨?_, k.1, k.2, ?_, ?_⟩, b, ?_, d, e, f, g, i, fun q => j ?_⟩
  · show psZ S.2.2 1 = mZ U.2.2.2 2
    rw [psZ_k (by decide) (by decide), mZ_k (by decide) (by decide)]; exact a1
  · show psZ S.2.2 4 = w
    rw [psZ_k (by decide) (by decide)]; exact a4
  · show mZ U.2.2.2 6 = w
    rw [mZ_k (by decide) (by decide)]; exact a5
  · show S.2.1 3 = 0 ↔ mZ U.2.2.2 3 = 0
    rw [mZ_k (by decide) (by decide)]; exact c
  · have q' : ¬ psZ S.2.2 1 = 0 := q
    rwa [psZ_k (by decide) (by decide)] at q'
theorem Dk_stop {acc lm : Nat} {w : Int32} {S : DS} {U : MS} (hD : Dk acc lm w S U) : Dk acc lm w (S.1, S.2.1, va_up S.2.2 3 (-1)) (U.1, U.2.1, U.2.2.1, va_up U.2.2.2 5 (-1)) := by
  obtain ⟨⟨a1, a2, a3, a4, a5⟩, b, c, d, e, f, g, i, j⟩ := hD
  exact ⟨⟨a1, a2, rfl, a4, a5⟩, b, c, d, e, f, g, i, j⟩
/-! loops over the blocks -/
def gC (c : Nat → Bool) (f : LN → Nat → LN) : Nat → Nat → LN → (Nat → Int32) → Int32 × LN × (Nat → Int32)
  | 0, _, N, z => (1, N, z)
  | n + 1, b, N, z => if c b = true then (if z 3 = 0 then (0, N, psZ z) else gC c f n (b + 1) (f N b) (psZ z)) else gC c f n (b + 1) N z
def gLm (c : MS → Nat → Bool) (f : MS → Nat → MS) : Nat → Nat → MS → Int32 × MS
  | 0, _, S => (1, S)
  | n + 1, a, S => if c S a = true then (if (mWr S).1 = 0 then (0, (mWr S).2) else gLm c f n (a + 1) (f (mWr S).2 a)) else gLm c f n (a + 1) S
theorem clH_g : ∀ (n b : Nat) (N : LN) (z : Nat → Int32), clH n b N z = gC (fun _ => true) (fun N b => va_up N 1 (va_up (N 1) b 0)) n b N z
  | 0, _, _, _ => rfl
  | n + 1, b, N, z => by
    show (if _ then _ else clH n _ _ _) = if true = true then (if _ then _ else gC _ _ n _ _ _) else _
    rw [if_pos rfl, clH_g n]
theorem wBl_g (k1 k2 T : Nat) : ∀ (n b : Nat) (N : LN) (z : Nat → Int32), wBl k1 k2 T n b N z = gC (fun b => T.testBit b) (fun N b => va_up N k1 (va_up (N k1) b (N k2 b))) n b N z
  | 0, _, _, _ => rfl
  | n + 1, b, N, z => by
    show (if _ then (if _ then _ else wBl k1 k2 T n _ _ _) else wBl k1 k2 T n _ _ _) = if _ then (if _ then _ else gC _ _ n _ _ _) else gC _ _ n _ _ _
    rw [wBl_g k1 k2 T n, wBl_g k1 k2 T n]
theorem gHl_g : ∀ (n a : Nat) (S : MS), gHl n a S = gLm (fun S a => S.2.2.1 1 a) (fun S a => cpN S 1 2 a) n a S
  | 0, _, _ => rfl
  | n + 1, a, S => by
    show (if _ then (if _ then _ else gHl n _ _) else gHl n _ _) = if _ then (if _ then _ else gLm _ _ n _ _) else gLm _ _ n _ _
    rw [gHl_g n, gHl_g n]
theorem cLp_g : ∀ (n a : Nat) (S : MS), cLp n a S = gLm (fun S a => S.2.2.1 0 a) lgN n a S
  | 0, _, _ => rfl
  | n + 1, a, S => by
    show (if _ then (if _ then _ else cLp n _ _) else cLp n _ _) = if _ then (if _ then _ else gLm _ _ n _ _) else gLm _ _ n _ _
    rw [cLp_g n, cLp_g n]
theorem fLp_g (acc : Nat) : ∀ (n a : Nat) (S : MS), fLp acc n a S = gLm (fun _ a => !(decide (acc ≤ a ∧ a < 24))) zeN n a S
  | 0, _, _ => rfl
  | n + 1, a, S => by
    show (if _ then fLp acc n _ _ else if _ then _ else fLp acc n _ _) = if _ then (if _ then _ else gLm _ _ n _ _) else gLm _ _ n _ _
    rw [fLp_g acc n, fLp_g acc n]
    by_cases h : acc ≤ a ∧ a < 24
    · rw [if_pos h, if_neg (show ¬ (!decide (acc ≤ a ∧ a < 24)) = true by simp [h])]
    · rw [if_neg h, if_pos (show (!decide (acc ≤ a ∧ a < 24)) = true by simp; omega)]
theorem gLm_skip {c : MS → Nat → Bool} {f : MS → Nat → MS} {U : MS} : ∀ (k a : Nat), a + k = 24 → (∀ a', a ≤ a' → a' < 24 → c U a' = false) → gLm c f (k + 1) a U = gLm c f 1 24 U
  | 0, a, h, _ => by rw [show a = 24 by omega]
  | k + 1, a, h, hc => by
    have e : gLm c f (k + 1 + 1) a U = gLm c f (k + 1) (a + 1) U := by
      show (if _ then _ else _) = _
      rw [if_neg (by rw [hc a (Nat.le_refl _) (by omega)]; decide)]
    rw [e]
    exact gLm_skip k (a + 1) (by omega) (fun a' h1 h2 => hc a' (by omega) h2)
def mp (acc b : Nat) : Nat := if b < acc then b else if b = acc then 24 else 25
def lpR (J F : LN → (Nat → Int32) → MS → Prop) (r : Int32 × LN × (Nat → Int32)) (q : Int32 × MS) : Prop := (r.1 = 0 ∧ q.1 = 0 ∧ F r.2.1 r.2.2 q.2) ∨ (r.1 = 1 ∧ q.1 = 1 ∧ J r.2.1 r.2.2 q.2)
theorem gLm_next {acc : Nat} (ha : acc ≤ 24) {c : MS → Nat → Bool} {f : MS → Nat → MS} {U : MS} {b : Nat} (hb : b ≤ acc) (hc : b + 1 = acc → ∀ a, acc ≤ a → a < 24 → c U a = false) : gLm c f (24 - mi acc b) (mi acc b + 1) U = gLm c f (25 - mp acc (b + 1)) (mp acc (b + 1)) U := by
  unfold mp
  by_cases h1 : b = acc
  · subst h1
    rw [mi_acc, if_neg (by omega), if_neg (by omega)]
  · rw [mi_lt (by omega)]
    by_cases h2 : b + 1 = acc
    · rw [if_neg (by omega), if_pos h2]
      have := gLm_skip (f := f) (24 - (b + 1)) (b + 1) (by omega) (fun a h3 h4 => hc h2 a (by omega) h4)
      rw [show 24 - b = 24 - (b + 1) + 1 by omega, this]
    · rw [if_pos (by omega), show 25 - (b + 1) = 24 - b by omega]
theorem lp_sim {acc : Nat} (ha : acc ≤ 24) {cC : Nat → Bool} {fC : LN → Nat → LN} {cM : MS → Nat → Bool} {fM : MS → Nat → MS} (I : Nat → LN → (Nat → Int32) → MS → Prop) (F : LN → (Nat → Int32) → MS → Prop)
    (hc : ∀ b N z U, b ≤ acc → I b N z U → cC b = cM U (mi acc b)) (hs : ∀ b N z U, b ≤ acc → I b N z U → cC b = false → I (b + 1) N z U) (hu : ∀ N z U a, I acc N z U → acc ≤ a → a < 24 → cM U a = false)
    (h0 : ∀ b N z U, b ≤ acc → I b N z U → cC b = true → z 3 = 0 → (mWr U).1 = 0 ∧ F N (psZ z) (mWr U).2)
    (h1 : ∀ b N z U, b ≤ acc → I b N z U → cC b = true → ¬ z 3 = 0 → ¬ (mWr U).1 = 0 ∧ I (b + 1) (fC N b) (psZ z) (fM (mWr U).2 (mi acc b))) :
    ∀ (n b : Nat) (N : LN) (z : Nat → Int32) (U : MS), b + n = acc + 1 → I b N z U → lpR (I (acc + 1)) F (gC cC fC n b N z) (gLm cM fM (25 - mp acc b) (mp acc b) U)
  | 0, b, N, z, U, hn, hI => by
    have e : b = acc + 1 := by omega
    subst e
    have e2 : mp acc (acc + 1) = 25 := by unfold mp; rw [if_neg (by omega), if_neg (by omega)]
    rw [e2]
    exact Or.inr ⟨rfl, rfl, hI⟩
  | n + 1, b, N, z, U, hn, hI => by
    have hb : b ≤ acc := by omega
    have e2 : mp acc b = mi acc b := by
      unfold mp mi
      by_cases q : b = acc
      · rw [if_neg (by omega), if_pos q, if_pos q]
      · rw [if_pos (by omega), if_neg q]
    have hml := mi_le ha hb
    rw [e2, show 25 - mi acc b = (24 - mi acc b) + 1 by omega]
    show lpR _ F (if _ then (if _ then _ else gC cC fC n _ _ _) else gC cC fC n _ _ _) (if _ then (if _ then _ else gLm cM fM _ _ _) else gLm cM fM _ _ _)
    rw [← hc b N z U hb hI]
    cases hcb : cC b
    · rw [if_neg (by decide), if_neg (by decide)]
      have hI' := hs b N z U hb hI hcb
      rw [gLm_next ha hb (fun q a q1 q2 => hu N z U a (q ▸ hI') q1 q2)]
      exact lp_sim ha I F hc hs hu h0 h1 n (b + 1) N z U (by omega) hI'
    · rw [if_pos rfl, if_pos rfl]
      by_cases hz : z 3 = 0
      · have h := h0 b N z U hb hI hcb hz
        rw [if_pos hz, if_pos h.1]
        exact Or.inl ⟨rfl, rfl, h.2⟩
      · have h := h1 b N z U hb hI hcb hz
        rw [if_neg hz, if_neg h.1]
        have hI' := h.2
        rw [gLm_next ha hb (fun q a q1 q2 => hu _ _ _ a (q ▸ hI') q1 q2)]
        exact lp_sim ha I F hc hs hu h0 h1 n (b + 1) _ _ _ (by omega) hI'
theorem mp_0 {acc : Nat} (h : 1 ≤ acc) : mp acc 0 = 0 := by unfold mp; rw [if_pos (by omega)]

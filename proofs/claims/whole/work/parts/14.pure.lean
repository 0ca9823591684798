/-! what the methods of the class do, on plain states: N (0 pending, 1 home, 2 log: numbers of blocks), x (0 amount, 1 scratch, 2 touched, 3 committed), z (0 up, 1 formatted, 2 writes done, 3 writes until the stop, 4 length of out) -/
abbrev LN : Type := Nat → Nat → Nat
abbrev DS : Type := LN × (Nat → Nat) × (Nat → Int32)
def nOk (lm : Nat) (N : LN) : Prop := ∀ k b, N k b < 2147483648 ^ (lm + 1)
theorem nOk_up {lm : Nat} {N : LN} (h : nOk lm N) {k b v : Nat} (hv : v < 2147483648 ^ (lm + 1)) : nOk lm (va_up N k (va_up (N k) b v)) := by
  intro k' b'
  by_cases h1 : k' = k
  · subst h1
    rw [va_up_self]
    by_cases h2 : b' = b
    · subst h2; rw [va_up_self]; exact hv
    · rw [va_up_ne _ _ h2]; exact h _ _
  · rw [va_up_ne _ _ h1]; exact h _ _
def psZ (z : Nat → Int32) : Nat → Int32 := if z 3 = 0 then va_up z 3 (-1) else if z 3 ≤ 0 then va_up z 2 (z 2 + 1) else va_up (va_up z 3 (z 3 - 1)) 2 (z 2 + 1)
def psB (z : Nat → Int32) : Int32 := if z 3 = 0 then 0 else 1
def dWF (v : Int32) (S : DS) : Int32 × DS := if S.2.2 3 = 0 then (0, S.1, S.2.1, psZ S.2.2) else (1, S.1, S.2.1, va_up (psZ S.2.2) 1 v)
def dWL (t : Nat) (S : DS) : Int32 × DS := if S.2.2 3 = 0 then (0, S.1, S.2.1, psZ S.2.2) else (1, S.1, va_up S.2.1 3 t, psZ S.2.2)
def clH : Nat → Nat → LN → (Nat → Int32) → Int32 × LN × (Nat → Int32)
  | 0, _, N, z => (1, N, z)
  | n + 1, b, N, z => if z 3 = 0 then (0, N, psZ z) else clH n (b + 1) (va_up N 1 (va_up (N 1) b 0)) (psZ z)
def wBl (k1 k2 T : Nat) : Nat → Nat → LN → (Nat → Int32) → Int32 × LN × (Nat → Int32)
  | 0, _, N, z => (1, N, z)
  | n + 1, b, N, z => if T.testBit b = true then (if z 3 = 0 then (0, N, psZ z) else wBl k1 k2 T n (b + 1) (va_up N k1 (va_up (N k1) b (N k2 b))) (psZ z)) else wBl k1 k2 T n (b + 1) N z
def dCl (acc : Nat) (S : DS) : Int32 × DS := ((clH (acc + 1) 0 S.1 S.2.2).1, (clH (acc + 1) 0 S.1 S.2.2).2.1, S.2.1, (clH (acc + 1) 0 S.1 S.2.2).2.2)
def dWB (k1 k2 T acc : Nat) (S : DS) : Int32 × DS := ((wBl k1 k2 T (acc + 1) 0 S.1 S.2.2).1, (wBl k1 k2 T (acc + 1) 0 S.1 S.2.2).2.1, S.2.1, (wBl k1 k2 T (acc + 1) 0 S.1 S.2.2).2.2)
def andD (f g : DS → Int32 × DS) (S : DS) : Int32 × DS := if (f S).1 = 0 then (0, (f S).2) else g (f S).2
def dHome (acc : Nat) (S : DS) : Int32 × DS := if S.2.1 3 = 0 then (1, S) else andD (dWB 1 2 (S.2.1 3) acc) (dWL 0) S
def dLog (T acc : Nat) (S : DS) : Int32 × DS := if T = 0 then (1, S) else andD (dWB 2 0 T acc) (andD (dWL T) (dHome acc)) S
def dLay (acc : Nat) (S : DS) : Int32 × DS := andD (dWF 0) (andD (dWL 0) (andD (dCl acc) (dWF 1))) S
theorem bo {r : Int32} (h : r = 0 ∨ r = 1) : narrow .boolean (.int r) = .int r ∧ fits .boolean (.int r) = true := by
  rcases h with rfl | rfl <;> exact ⟨rfl, rfl⟩
theorem bo_1 {r : Int32} (h : r = 0 ∨ r = 1) (h0 : ¬ r = 0) : r = 1 := h.resolve_left h0
theorem clH_b : ∀ (n b : Nat) (N : LN) (z : Nat → Int32), (clH n b N z).1 = 0 ∨ (clH n b N z).1 = 1
  | 0, _, _, _ => Or.inr rfl
  | n + 1, b, N, z => by
    unfold clH
    split
    · exact Or.inl rfl
    · exact clH_b n _ _ _
theorem wBl_b (k1 k2 T : Nat) : ∀ (n b : Nat) (N : LN) (z : Nat → Int32), (wBl k1 k2 T n b N z).1 = 0 ∨ (wBl k1 k2 T n b N z).1 = 1
  | 0, _, _, _ => Or.inr rfl
  | n + 1, b, N, z => by
    unfold wBl
    split
    · split
      · exact Or.inl rfl
      · exact wBl_b k1 k2 T n _ _ _
    · exact wBl_b k1 k2 T n _ _ _
theorem dWF_b (v : Int32) (S : DS) : (dWF v S).1 = 0 ∨ (dWF v S).1 = 1 := by unfold dWF; split <;> simp
theorem dWL_b (t : Nat) (S : DS) : (dWL t S).1 = 0 ∨ (dWL t S).1 = 1 := by unfold dWL; split <;> simp
theorem andD_b {f g : DS → Int32 × DS} (S : DS) (hg : ∀ S, (g S).1 = 0 ∨ (g S).1 = 1) : (andD f g S).1 = 0 ∨ (andD f g S).1 = 1 := by
  unfold andD
  split
  · exact Or.inl rfl
  · exact hg _
theorem dHome_b (acc : Nat) (S : DS) : (dHome acc S).1 = 0 ∨ (dHome acc S).1 = 1 := by
  unfold dHome
  split
  · exact Or.inr rfl
  · exact andD_b S (dWL_b 0)
theorem dLog_b (T acc : Nat) (S : DS) : (dLog T acc S).1 = 0 ∨ (dLog T acc S).1 = 1 := by
  unfold dLog
  split
  · exact Or.inr rfl
  · exact andD_b S (fun S => andD_b S (dHome_b acc))
theorem dLay_b (acc : Nat) (S : DS) : (dLay acc S).1 = 0 ∨ (dLay acc S).1 = 1 := andD_b S (fun S => andD_b S (fun S => andD_b S (dWF_b 1)))
theorem clH_ok {lm : Nat} : ∀ (n b : Nat) (N : LN) (z : Nat → Int32), nOk lm N → nOk lm (clH n b N z).2.1
  | 0, _, _, _, h => h
  | n + 1, b, N, z, h => by
    unfold clH
    split
    · exact h
    · exact clH_ok n _ _ _ (nOk_up h (bp_pos _))
theorem wBl_ok {lm : Nat} (k1 k2 T : Nat) : ∀ (n b : Nat) (N : LN) (z : Nat → Int32), nOk lm N → nOk lm (wBl k1 k2 T n b N z).2.1
  | 0, _, _, _, h => h
  | n + 1, b, N, z, h => by
    unfold wBl
    split
    · split
      · exact h
      · exact wBl_ok k1 k2 T n _ _ _ (nOk_up h (h _ _))
    · exact wBl_ok k1 k2 T n _ _ _ h
theorem dWB_x (k1 k2 T acc : Nat) (S : DS) : (dWB k1 k2 T acc S).2.2.1 = S.2.1 := rfl
theorem i_sh : ∀ b, b < 31 → (1 : Int32) <<< (nI b &&& 31) = nI (2 ^ b) := by decide +kernel
theorem has_bit {T b : Nat} (hb : b < 31) : (nI T &&& ((1 : Int32) <<< (nI b &&& 31)) = 0) ↔ ¬ T.testBit b = true := by
  rw [i_sh b hb, fa_bit hb]
  simp
section LV
variable {p : Program} {l : Launch} {e : Env} {R : Room} {s : State} {m : MethodId} {args : Array Value} {below : List Frame} {meth : Method} {c : Code} {H : Heap} {locs : List Loc} {cells slots : Nat} {Q : State → Prop} {pc : Nat} {ls : Array Slot} {rest : List Value}
theorem lv_topv {x y : Value} (h : x = y) (k : W p l e R s m args below meth c H locs cells slots Q (F0 m pc ls (y :: rest))) : W p l e R s m args below meth c H locs cells slots Q (F0 m pc ls (x :: rest)) := by subst h; exact k
end LV
section LWA
variable {ad : Nat → Nat} {cI cB cO : ClassId} {acc lm rm : Nat} {N : Nat → Nat → Nat} {x : Nat → Nat} {z ob : Nat → Int32}
theorem l_arr (k : Nat) (hk : k < 3) : (lW ad cI cB cO acc lm rm N x z ob)[k + 2]? = some (ad (k + 2), .inl (cO, acc + 1, .inr (.inr (.inr (.inr (fun b => some (ad (6 * b + 2 * k + 10)))))))) := by
  rw [wl_at (by omega)]
  match k, hk with
  | 0, _ => rfl
  | 1, _ => rfl
  | 2, _ => rfl
end LWA

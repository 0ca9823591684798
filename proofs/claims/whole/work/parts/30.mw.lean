/-! the reference's world: its object at g 0, its rows at g 1 .. g 8 (now, home, log, amount, work, touched, logged, out); y: 0 thrown, 1 up, 2 formatted, 3 committed, 4 writes, 5 left, 6 outMany -/
def mLen (k : Nat) : Nat := if k < 4 then 550 else if k = 4 then 22 else if k = 5 then 44 else if k < 8 then 25 else 300
def mCel (g : Nat → Nat) (cI cZ cB : ClassId) (acc lm rm : Nat) (F : Nat → Nat → Int32) (y : Nat → Int32) : Nat → va_E
  | 0 => .inr (3, [.int (y 0), .int (nI acc), .int (nI lm), .int (nI rm), .ref (g 1), .ref (g 2), .ref (g 3), .ref (g 4), .ref (g 5), .ref (g 6), .ref (g 7), .int (y 1), .int (y 2), .int (y 3), .int (y 4), .int (y 5), .ref (g 8), .int (y 6)])
  | 1 => .inl (cI, 550, .inl (F 1))
  | 2 => .inl (cI, 550, .inl (F 2))
  | 3 => .inl (cI, 550, .inl (F 3))
  | 4 => .inl (cI, 22, .inl (F 4))
  | 5 => .inl (cI, 44, .inl (F 5))
  | 6 => .inl (cZ, 25, .inl (F 6))
  | 7 => .inl (cZ, 25, .inl (F 7))
  | _ => .inl (cB, 300, .inl (F 8))
abbrev rW (g : Nat → Nat) (cI cZ cB : ClassId) (acc lm rm : Nat) (F : Nat → Nat → Int32) (y : Nat → Int32) : va_W := wl g (mCel g cI cZ cB acc lm rm F y) 9
def mOk (g : Nat → Nat) : Prop := ∀ i j, i < 9 → j < 9 → g i = g j → i = j
def mA (g : Nat → Nat) : Nat → Prop := fun q => ∃ i, i < 9 ∧ q = g i
theorem mlD {g : Nat → Nat} {cel : Nat → va_E} (hok : mOk g) : va_D (mA g) (wl g cel 9) := by
  refine ⟨fun i j p q hi hj hpq => ?_, fun k q hk => ?_⟩
  · obtain ⟨h1, rfl⟩ := wl_lt hi
    obtain ⟨h2, rfl⟩ := wl_lt hj
    exact hok i j h1 h2 hpq
  · obtain ⟨h1, rfl⟩ := wl_lt hk
    exact ⟨k, h1, rfl⟩
def rowF (nm : Nat → Nat) : Nat → Int32 := fun j => lb (nm (j / 22)) (j % 22)
def tb (t : Nat → Bool) : Nat → Int32 := fun a => if t a = true then 1 else 0
abbrev BN : Type := Nat → Nat → Bool
def mF (N : LN) (am : Nat) (T : BN) (wk ou : Nat → Int32) : Nat → Nat → Int32
  | 1 => rowF (N 0)
  | 2 => rowF (N 1)
  | 3 => rowF (N 2)
  | 4 => lb am
  | 5 => wk
  | 6 => tb (T 0)
  | 7 => tb (T 1)
  | _ => ou
section MW
variable {g : Nat → Nat} {cI cZ cB : ClassId} {acc lm rm : Nat} {F : Nat → Nat → Int32} {y : Nat → Int32}
theorem mset {i : Nat} {e : va_E} {F' : Nat → Nat → Int32} {y' : Nat → Int32} (hi : i < 9) (h : ∀ j, j < 9 → va_up (mCel g cI cZ cB acc lm rm F y) i e j = mCel g cI cZ cB acc lm rm F' y' j) : (rW g cI cZ cB acc lm rm F y).set i (g i, e) = rW g cI cZ cB acc lm rm F' y' := by
  rw [wl_set e hi]
  unfold wl
  exact List.map_congr_left (fun j hj => by rw [h j (List.mem_range.mp hj)])
theorem ms_f (k : Nat) (t : Int32) (hk : k < 7) : (rW g cI cZ cB acc lm rm F y).set 0 (g 0, mCel g cI cZ cB acc lm rm F (va_up y k t) 0) = rW g cI cZ cB acc lm rm F (va_up y k t) := by
  refine mset (by omega) (fun j hj => ?_)
  match j with
  | 0 => rw [va_up_self]
  | 1 | 2 | 3 | 4 | 5 | 6 | 7 => rfl
  | j + 8 => rfl
theorem ms_a1 (f : Nat → Int32) : (rW g cI cZ cB acc lm rm F y).set 1 (g 1, .inl (cI, 550, .inl f)) = rW g cI cZ cB acc lm rm (va_up F 1 f) y := by
  refine mset (by omega) (fun j hj => ?_)
  match j with
  | 0 | 1 | 2 | 3 | 4 | 5 | 6 | 7 => rfl
  | j + 8 => rfl
theorem ms_a2 (f : Nat → Int32) : (rW g cI cZ cB acc lm rm F y).set 2 (g 2, .inl (cI, 550, .inl f)) = rW g cI cZ cB acc lm rm (va_up F 2 f) y := by
  refine mset (by omega) (fun j hj => ?_)
  match j with
  | 0 | 1 | 2 | 3 | 4 | 5 | 6 | 7 => rfl
  | j + 8 => rfl
theorem ms_a3 (f : Nat → Int32) : (rW g cI cZ cB acc lm rm F y).set 3 (g 3, .inl (cI, 550, .inl f)) = rW g cI cZ cB acc lm rm (va_up F 3 f) y := by
  refine mset (by omega) (fun j hj => ?_)
  match j with
  | 0 | 1 | 2 | 3 | 4 | 5 | 6 | 7 => rfl
  | j + 8 => rfl
theorem ms_a4 (f : Nat → Int32) : (rW g cI cZ cB acc lm rm F y).set 4 (g 4, .inl (cI, 22, .inl f)) = rW g cI cZ cB acc lm rm (va_up F 4 f) y := by
  refine mset (by omega) (fun j hj => ?_)
  match j with
  | 0 | 1 | 2 | 3 | 4 | 5 | 6 | 7 => rfl
  | j + 8 => rfl
theorem ms_a5 (f : Nat → Int32) : (rW g cI cZ cB acc lm rm F y).set 5 (g 5, .inl (cI, 44, .inl f)) = rW g cI cZ cB acc lm rm (va_up F 5 f) y := by
  refine mset (by omega) (fun j hj => ?_)
  match j with
  | 0 | 1 | 2 | 3 | 4 | 5 | 6 | 7 => rfl
  | j + 8 => rfl
theorem ms_a6 (f : Nat → Int32) : (rW g cI cZ cB acc lm rm F y).set 6 (g 6, .inl (cZ, 25, .inl f)) = rW g cI cZ cB acc lm rm (va_up F 6 f) y := by
  refine mset (by omega) (fun j hj => ?_)
  match j with
  | 0 | 1 | 2 | 3 | 4 | 5 | 6 | 7 => rfl
  | j + 8 => rfl
theorem ms_a7 (f : Nat → Int32) : (rW g cI cZ cB acc lm rm F y).set 7 (g 7, .inl (cZ, 25, .inl f)) = rW g cI cZ cB acc lm rm (va_up F 7 f) y := by
  refine mset (by omega) (fun j hj => ?_)
  match j with
  | 0 | 1 | 2 | 3 | 4 | 5 | 6 | 7 => rfl
  | j + 8 => rfl
theorem ms_a8 (f : Nat → Int32) : (rW g cI cZ cB acc lm rm F y).set 8 (g 8, .inl (cB, 300, .inl f)) = rW g cI cZ cB acc lm rm (va_up F 8 f) y := by
  refine mset (by omega) (fun j hj => ?_)
  match j with
  | 0 | 1 | 2 | 3 | 4 | 5 | 6 | 7 => rfl
  | 8 => rfl
  | j + 9 => omega
/-- rows that agree as far as they reach -/
theorem rW_congr {D : va_G} {H : Heap} {F' : Nat → Nat → Int32} (hP : va_P D vwCl (rW g cI cZ cB acc lm rm F y) H) (h : ∀ k, 1 ≤ k → k ≤ 8 → ∀ j, j < mLen k → F k j = F' k j) : va_P D vwCl (rW g cI cZ cB acc lm rm F' y) H := by
  intro k q hk
  obtain ⟨h9, rfl⟩ := wl_lt hk
  have hq := hP k _ (wl_at h9)
  match k, h9, hq with
  | 0, _, hq => exact hq
  | 1, _, hq => exact at_congr hq (h 1 (by decide) (by decide))
  | 2, _, hq => exact at_congr hq (h 2 (by decide) (by decide))
  | 3, _, hq => exact at_congr hq (h 3 (by decide) (by decide))
  | 4, _, hq => exact at_congr hq (h 4 (by decide) (by decide))
  | 5, _, hq => exact at_congr hq (h 5 (by decide) (by decide))
  | 6, _, hq => exact at_congr hq (h 6 (by decide) (by decide))
  | 7, _, hq => exact at_congr hq (h 7 (by decide) (by decide))
  | 8, _, hq => exact at_congr hq (h 8 (by decide) (by decide))
  | k + 9, h9, _ => omega
end MW
abbrev mT (cI cZ cB : ClassId) : List (ClassId × FieldType) := [(cI, .int), (cZ, .boolean), (cB, .byte)]
/-! one number's limbs in a row of numbers -/
def pr (nm : Nat → Nat) (a v k : Nat) : Nat → Int32 := fun j => if 22 * a ≤ j ∧ j < 22 * a + k then lb v (j - 22 * a) else rowF nm j
theorem pr_0 (nm : Nat → Nat) (a v : Nat) : pr nm a v 0 = rowF nm := by
  funext j
  unfold pr
  rw [if_neg (by omega)]
theorem pr_s {nm : Nat → Nat} {a v k : Nat} {x : Int32} (h : x = lb v k) : upd (pr nm a v k) (22 * a + k) x = pr nm a v (k + 1) := by
  subst h
  funext j
  unfold upd pr
  by_cases h1 : j = 22 * a + k
  · subst h1
    rw [if_pos rfl, if_pos (by omega), show 22 * a + k - 22 * a = k by omega]
  · rw [if_neg h1]
    by_cases h2 : 22 * a ≤ j ∧ j < 22 * a + k
    · rw [if_pos h2, if_pos (by omega)]
    · rw [if_neg h2, if_neg (by omega)]
theorem pr_end (nm : Nat → Nat) (a v : Nat) : pr nm a v 22 = rowF (va_up nm a v) := by
  funext j
  unfold pr rowF
  by_cases h2 : 22 * a ≤ j ∧ j < 22 * a + 22
  · rw [if_pos h2, show j / 22 = a by omega, show j % 22 = j - 22 * a by omega, va_up_self]
  · rw [if_neg h2, va_up_ne _ _ (by omega)]
theorem pr_hi {nm : Nat → Nat} {a v k : Nat} (hk : k < 22) : pr nm a v k (22 * a + k) = lb (nm a) k := by
  unfold pr rowF
  rw [if_neg (by omega), show (22 * a + k) / 22 = a by omega, show (22 * a + k) % 22 = k by omega]
theorem rowF_at (nm : Nat → Nat) {a k : Nat} (hk : k < 22) : rowF nm (22 * a + k) = lb (nm a) k := by
  unfold rowF
  rw [show (22 * a + k) / 22 = a by omega, show (22 * a + k) % 22 = k by omega]
theorem tb_up (t : Nat → Bool) (a : Nat) (b : Bool) {v : Int32} (hv : v = if b = true then 1 else 0) : upd (tb t) a v = tb (va_up t a b) := by
  subst hv
  funext j
  unfold upd tb
  by_cases h1 : j = a
  · subst h1; rw [if_pos rfl, va_up_self]
  · rw [if_neg h1, va_up_ne _ _ h1]
theorem tb_ne0 {t : Nat → Bool} {a : Nat} : ¬ tb t a = 0 ↔ t a = true := by
  unfold tb
  cases t a <;> decide
theorem tb_eq0 {t : Nat → Bool} {a : Nat} : tb t a = 0 ↔ ¬ t a = true := by
  unfold tb
  cases t a <;> decide
/-! what the reference does, on plain states -/
abbrev MS : Type := LN × Nat × BN × (Nat → Int32)
def mForget (S : MS) : MS := (va_up S.1 0 (S.1 1), 0, va_up S.2.2.1 0 (fun _ => false), S.2.2.2)
def mDown (S : MS) : MS := mForget (S.1, S.2.1, S.2.2.1, va_up S.2.2.2 1 0)
def mZ (y : Nat → Int32) : Nat → Int32 := if y 5 ≤ 0 then va_up y 4 (y 4 + 1) else va_up (va_up y 5 (y 5 - 1)) 4 (y 4 + 1)
def mWr (S : MS) : Int32 × MS := if S.2.2.2 5 = 0 then (0, mDown (S.1, S.2.1, S.2.2.1, va_up S.2.2.2 5 (-1))) else (1, S.1, S.2.1, S.2.2.1, mZ S.2.2.2)
def setY (S : MS) (k : Nat) (v : Int32) : MS := (S.1, S.2.1, S.2.2.1, va_up S.2.2.2 k v)
def mEmp (S : MS) : Int32 × MS := if (mWr S).1 = 0 then (0, (mWr S).2) else (1, setY (mWr S).2 3 0)
def cpN (S : MS) (k1 k2 a : Nat) : MS := (va_up S.1 k1 (va_up (S.1 k1) a (S.1 k2 a)), S.2.1, S.2.2.1, S.2.2.2)
def gHl : Nat → Nat → MS → Int32 × MS
  | 0, _, S => (1, S)
  | n + 1, a, S => if S.2.2.1 1 a = true then (if (mWr S).1 = 0 then (0, (mWr S).2) else gHl n (a + 1) (cpN (mWr S).2 1 2 a)) else gHl n (a + 1) S
def mGo (S : MS) : Int32 × MS := if (gHl 25 0 S).1 = 0 then (0, (gHl 25 0 S).2) else mEmp (gHl 25 0 S).2
def zeN (S : MS) (a : Nat) : MS := (va_up S.1 1 (va_up (S.1 1) a 0), S.2.1, S.2.2.1, S.2.2.2)
def fLp (acc : Nat) : Nat → Nat → MS → Int32 × MS
  | 0, _, S => (1, S)
  | n + 1, a, S => if acc ≤ a ∧ a < 24 then fLp acc n (a + 1) S else if (mWr S).1 = 0 then (0, (mWr S).2) else fLp acc n (a + 1) (zeN (mWr S).2 a)
def andM (f h : MS → Int32 × MS) (S : MS) : Int32 × MS := if (f S).1 = 0 then (0, (f S).2) else h (f S).2
def mFormat (acc : Nat) (S : MS) : Int32 × MS := andM mWr (fun S => andM mEmp (andM (fLp acc 25 0) (andM mWr (fun S => (1, setY (mForget (setY S 2 1)) 1 1)))) (setY S 2 0)) (setY S 0 0)
def lgN (S : MS) (a : Nat) : MS := (va_up S.1 2 (va_up (S.1 2) a (S.1 0 a)), S.2.1, va_up S.2.2.1 1 (va_up (S.2.2.1 1) a true), S.2.2.2)
def cLp : Nat → Nat → MS → Int32 × MS
  | 0, _, S => (1, S)
  | n + 1, a, S => if S.2.2.1 0 a = true then (if (mWr S).1 = 0 then (0, (mWr S).2) else cLp n (a + 1) (lgN (mWr S).2 a)) else cLp n (a + 1) S
def setT (S : MS) (k : Nat) (t : Nat → Bool) : MS := (S.1, S.2.1, va_up S.2.2.1 k t, S.2.2.2)
def mCom1 (S : MS) : Int32 × MS := andM (cLp 25 0) (andM mWr (fun S => andM mGo (fun S => (1, setT S 0 (fun _ => false))) (setY S 3 1))) (setT S 1 (fun _ => false))
def mCommit (S : MS) : Int32 × MS := if S.2.2.2 1 = 0 then (6, setY S 0 0) else if fb_ct (S.2.2.1 0) 25 = 0 then (0, setY S 0 0) else if (mCom1 (setY S 0 0)).1 = 0 then (6, (mCom1 (setY S 0 0)).2) else (0, (mCom1 (setY S 0 0)).2)
def mRecover (S : MS) : Int32 × MS := if S.2.2.2 2 = 0 then (0, mDown (setY S 0 0)) else if S.2.2.2 3 = 0 then (1, setY (mForget (setY S 0 0)) 1 1) else andM mGo (fun S => (1, setY (mForget S) 1 1)) (setY S 0 0)
def mAbort (S : MS) : Int32 × MS := if S.2.2.2 1 = 0 then (0, setY S 0 0) else (1, va_up S.1 0 (S.1 1), S.2.1, va_up S.2.2.1 0 (fun _ => false), va_up S.2.2.2 0 0)
theorem mWr_b (S : MS) : (mWr S).1 = 0 ∨ (mWr S).1 = 1 := by unfold mWr; split <;> simp
theorem mEmp_b (S : MS) : (mEmp S).1 = 0 ∨ (mEmp S).1 = 1 := by unfold mEmp; split <;> simp
theorem mGo_b (S : MS) : (mGo S).1 = 0 ∨ (mGo S).1 = 1 := by
  unfold mGo
  split
  · exact Or.inl rfl
  · exact mEmp_b _
theorem i_1ne0 : ¬ (1 : Int32) = 0 := by decide

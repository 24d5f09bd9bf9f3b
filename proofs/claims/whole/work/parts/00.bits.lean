/-! ===== Int32 by its bits: bt x i ===== -/
def bt (x : Int32) (i : Nat) : Bool := x.toBitVec.getLsbD i
theorem b_ext {x y : Int32} (h : ∀ i, i < 32 → bt x i = bt y i) : x = y := Int32.toBitVec_inj.mp (BitVec.eq_of_getLsbD_eq (fun i hi => h i hi))
theorem b_or (x y : Int32) (i : Nat) : bt (x ||| y) i = (bt x i || bt y i) := by unfold bt; rw [Int32.toBitVec_or, BitVec.getLsbD_or]
theorem b_and (x y : Int32) (i : Nat) : bt (x &&& y) i = (bt x i && bt y i) := by unfold bt; rw [Int32.toBitVec_and, BitVec.getLsbD_and]
theorem b_xor (x y : Int32) (i : Nat) : bt (x ^^^ y) i = (bt x i ^^ bt y i) := by unfold bt; rw [Int32.toBitVec_xor, BitVec.getLsbD_xor]
theorem b_big {x : Int32} {i : Nat} (h : 32 ≤ i) : bt x i = false := BitVec.getLsbD_of_ge _ _ h
theorem b_255 (i : Nat) : bt 255 i = decide (i < 8) := by
  rcases Nat.lt_or_ge i 32 with h | h
  · exact (by decide +kernel : ∀ i, i < 32 → bt 255 i = decide (i < 8)) i h
  · rw [b_big h, decide_eq_false (by omega)]
theorem b_65535 (i : Nat) : bt 65535 i = decide (i < 16) := by
  rcases Nat.lt_or_ge i 32 with h | h
  · exact (by decide +kernel : ∀ i, i < 32 → bt 65535 i = decide (i < 16)) i h
  · rw [b_big h, decide_eq_false (by omega)]
theorem b_m1 : ∀ i, i < 32 → bt (-1) i = true := by decide +kernel
theorem b_0 (i : Nat) : bt 0 i = false := BitVec.getLsbD_zero
theorem s_l : ∀ n, n < 32 → ((nI n &&& 31).toBitVec.smod 32).toNat = n := by decide +kernel
theorem s_u : ∀ n, n < 32 → (((nI n).toUInt32 &&& Int32.toUInt32 31).toBitVec % 32).toNat = n := by decide +kernel
theorem b_shl (n : Nat) (hn : n < 32) (x : Int32) {i : Nat} (hi : i < 32) : bt (x <<< (nI n &&& 31)) i = (decide (n ≤ i) && bt x (i - n)) := by
  unfold bt
  rw [Int32.toBitVec_shiftLeft]
  show (x.toBitVec <<< ((nI n &&& 31).toBitVec.smod 32).toNat).getLsbD i = _
  rw [s_l n hn, BitVec.getLsbD_shiftLeft]
  rcases Nat.lt_or_ge i n with h | h
  · simp [h, Nat.not_le.mpr h]
  · simp [hi, h, Nat.not_lt.mpr h]
theorem b_ushr (n : Nat) (hn : n < 32) (x : Int32) (i : Nat) : bt ((x.toUInt32 >>> ((nI n).toUInt32 &&& Int32.toUInt32 31)).toInt32) i = bt x (n + i) := by
  show (x.toUInt32 >>> ((nI n).toUInt32 &&& Int32.toUInt32 31)).toBitVec.getLsbD i = x.toUInt32.toBitVec.getLsbD (n + i)
  rw [UInt32.toBitVec_shiftRight]
  show (x.toUInt32.toBitVec >>> (((nI n).toUInt32 &&& Int32.toUInt32 31).toBitVec % 32).toNat).getLsbD i = _
  rw [s_u n hn, BitVec.getLsbD_ushiftRight]
theorem b_sshr (n : Nat) (hn : n < 32) (x : Int32) {i : Nat} (hi : i < 32) : bt (x >>> (nI n &&& 31)) i = if n + i < 32 then bt x (n + i) else bt x 31 := by
  unfold bt
  rw [Int32.toBitVec_shiftRight]
  show (x.toBitVec.sshiftRight ((nI n &&& 31).toBitVec.smod 32).toNat).getLsbD i = _
  rw [s_l n hn, BitVec.getLsbD_sshiftRight, BitVec.msb_eq_getLsbD_last]
  simp [hi]
theorem b_shl8 (x : Int32) {i : Nat} (hi : i < 32) : bt (x <<< ((8 : Int32) &&& 31)) i = (decide (8 ≤ i) && bt x (i - 8)) := b_shl 8 (by omega) x hi
theorem b_shl16 (x : Int32) {i : Nat} (hi : i < 32) : bt (x <<< ((16 : Int32) &&& 31)) i = (decide (16 ≤ i) && bt x (i - 16)) := b_shl 16 (by omega) x hi
theorem b_shl24 (x : Int32) {i : Nat} (hi : i < 32) : bt (x <<< ((24 : Int32) &&& 31)) i = (decide (24 ≤ i) && bt x (i - 24)) := b_shl 24 (by omega) x hi
theorem b_sshr8 (x : Int32) {i : Nat} (hi : i < 32) : bt (x >>> ((8 : Int32) &&& 31)) i = if 8 + i < 32 then bt x (8 + i) else bt x 31 := b_sshr 8 (by omega) x hi
theorem nx_and (a b : Nat) : nI a &&& nI b = nI (a &&& b) := by
  apply Int32.toBitVec_inj.1
  show BitVec.ofNat 32 a &&& BitVec.ofNat 32 b = BitVec.ofNat 32 (a &&& b)
  apply BitVec.eq_of_getLsbD_eq
  intro i hi
  simp [hi]
/-! ===== from here on my own rows ===== -/
/-- a truth value as the machine has it -/
def bI (b : Bool) : Int32 := if b = true then 1 else 0
theorem bI_0 {b : Bool} : bI b = 0 ↔ b = false := by cases b <;> decide
theorem bI_n0 {b : Bool} : ¬ bI b = 0 ↔ b = true := by cases b <;> decide
theorem bI_1 {b : Bool} : bI b = 1 ↔ b = true := by cases b <;> decide
theorem bI_inj {a b : Bool} : bI a = bI b ↔ a = b := by cases a <;> cases b <;> decide
theorem bI_nI (b : Bool) : bI b = nI (if b = true then 1 else 0) := by cases b <;> rfl
theorem bt_bI (b : Bool) (i : Nat) : bt (bI b) i = (b && decide (i = 0)) := by
  rcases Nat.lt_or_ge i 32 with h | h
  · cases b
    · simp [bI, b_0]
    · exact (by decide +kernel : ∀ i, i < 32 → bt (bI true) i = (true && decide (i = 0))) i h
  · rw [b_big h, decide_eq_false (by omega), Bool.and_false]
/-- the mask of one pair -/
def bm (k : Nat) : Int32 := nI 1 <<< (nI k &&& 31)
theorem bt_1 (i : Nat) : bt (nI 1) i = decide (i = 0) := by
  have := bt_bI true i
  rwa [Bool.true_and] at this
theorem bt_bm {k : Nat} (hk : k < 32) (i : Nat) : bt (bm k) i = decide (i = k) := by
  rcases Nat.lt_or_ge i 32 with h | h
  · unfold bm
    rw [b_shl k hk _ h, bt_1]
    by_cases e : i = k
    · subst e; simp
    · simp only [decide_eq_false e]
      rcases Nat.lt_or_ge i k with q | q
      · rw [decide_eq_false (by omega : ¬ k ≤ i), Bool.false_and]
      · rw [decide_eq_false (by omega : ¬ i - k = 0), Bool.and_false]
  · rw [b_big h, decide_eq_false (by omega)]
/-- one bit of a mask, as the class and the reference read it -/
theorem bt_read (m : Int32) {k : Nat} (hk : k < 32) : (m >>> (nI k &&& 31)) &&& nI 1 = bI (bt m k) := by
  apply b_ext
  intro i hi
  rw [b_and, bt_1, bt_bI, b_sshr k hk m hi]
  by_cases e : i = 0
  · subst e; simp [hk]
  · simp [e]
theorem bt_not (m : Int32) {i : Nat} (hi : i < 32) : bt (m ^^^ (-1)) i = !bt m i := by
  rw [b_xor, b_m1 i hi, Bool.xor_true]
/-- a set of pairs: no bit beyond the 25 -/
def lt25 (m : Int32) : Prop := ∀ i, 25 ≤ i → bt m i = false
theorem lt25_0 : lt25 0 := fun i _ => b_0 i
theorem lt25_or {a b : Int32} (ha : lt25 a) (hb : lt25 b) : lt25 (a ||| b) := fun i hi => by rw [b_or, ha i hi, hb i hi]; rfl
theorem lt25_and {a : Int32} (b : Int32) (ha : lt25 a) : lt25 (a &&& b) := fun i hi => by rw [b_and, ha i hi]; rfl
theorem lt25_bm {k : Nat} (hk : k < 25) : lt25 (bm k) := fun i hi => by rw [bt_bm (by omega), decide_eq_false (by omega)]
theorem lt25_ext {a b : Int32} (ha : lt25 a) (hb : lt25 b) (h : ∀ i, i < 25 → bt a i = bt b i) : a = b := by
  apply b_ext
  intro i _
  rcases Nat.lt_or_ge i 25 with q | q
  · exact h i q
  · rw [ha i q, hb i q]
theorem bt_if (c : Bool) (a b : Int32) (i : Nat) : bt (if c = true then a else b) i = if c = true then bt a i else bt b i := by cases c <;> rfl
/-! turned, joined: what their loops make -/
def tuIn (p : Int32) (x : Nat) : Nat → Nat → Int32 → Int32
  | 0, _, r => r
  | n + 1, y, r => tuIn p x n (y + 1) (if bt p (5 * y + x) = true then r ||| bm (5 * x + y) else r)
def tuOut (p : Int32) : Nat → Nat → Int32 → Int32
  | 0, _, r => r
  | n + 1, x, r => tuOut p n (x + 1) (tuIn p x 5 0 r)
def turnM (p : Int32) : Int32 := tuOut p 5 0 0
theorem bt_tuIn (p : Int32) (x : Nat) : ∀ (n y : Nat) (r : Int32) (i : Nat), 5 * x + y + n ≤ 32 → bt (tuIn p x n y r) i = (bt r i || (decide (5 * x + y ≤ i ∧ i < 5 * x + y + n) && bt p (5 * (i - 5 * x) + x))) := by
  intro n
  induction n with
  | zero => intro y r i _; rw [tuIn, decide_eq_false (by omega), Bool.false_and, Bool.or_false]
  | succ n ih =>
    intro y r i h
    rw [tuIn, ih _ _ _ (by omega), bt_if, b_or, bt_bm (by omega)]
    by_cases e : i = 5 * x + y
    · subst e
      rw [decide_eq_false (by omega : ¬ (5 * x + (y + 1) ≤ 5 * x + y ∧ 5 * x + y < 5 * x + (y + 1) + n)), decide_eq_true (by omega : 5 * x + y ≤ 5 * x + y ∧ 5 * x + y < 5 * x + y + (n + 1)), show 5 * (5 * x + y - 5 * x) + x = 5 * y + x by omega]
      cases bt p (5 * y + x) <;> simp
    · rw [decide_eq_false e, Bool.or_false, ite_self]
      congr 2
      exact decide_eq_decide.mpr (by omega)
theorem bt_tuOut (p : Int32) : ∀ (n x : Nat) (r : Int32) (i : Nat), x + n ≤ 5 → bt (tuOut p n x r) i = (bt r i || (decide (5 * x ≤ i ∧ i < 5 * (x + n)) && bt p (5 * (i % 5) + i / 5))) := by
  intro n
  induction n with
  | zero => intro x r i _; rw [tuOut, decide_eq_false (by omega), Bool.false_and, Bool.or_false]
  | succ n ih =>
    intro x r i h
    rw [tuOut, ih _ _ _ (by omega), bt_tuIn _ _ _ _ _ _ (by omega)]
    by_cases e : 5 * x ≤ i ∧ i < 5 * x + 5
    · rw [decide_eq_true (by omega : 5 * x + 0 ≤ i ∧ i < 5 * x + 0 + 5), decide_eq_false (by omega : ¬ (5 * (x + 1) ≤ i ∧ i < 5 * (x + 1 + n))), decide_eq_true (by omega : 5 * x ≤ i ∧ i < 5 * (x + (n + 1))), show 5 * (i - 5 * x) + x = 5 * (i % 5) + i / 5 by omega]
      simp
    · rw [decide_eq_false (by omega : ¬ (5 * x + 0 ≤ i ∧ i < 5 * x + 0 + 5)), Bool.false_and, Bool.or_false]
      congr 2
      exact decide_eq_decide.mpr (by omega)
theorem bt_turn (p : Int32) (i : Nat) : bt (turnM p) i = (decide (i < 25) && bt p (5 * (i % 5) + i / 5)) := by
  unfold turnM
  rw [bt_tuOut _ _ _ _ _ (by omega), b_0, Bool.false_or]
  congr 1
  exact decide_eq_decide.mpr (by omega)
def rowM (m : Int32) (z : Nat) : Int32 := (m >>> (nI (5 * z) &&& 31)) &&& nI 31
theorem bt_31 (i : Nat) : bt (nI 31) i = decide (i < 5) := by
  rcases Nat.lt_or_ge i 32 with h | h
  · exact (by decide +kernel : ∀ i, i < 32 → bt (nI 31) i = decide (i < 5)) i h
  · rw [b_big h, decide_eq_false (by omega)]
theorem bt_row (m : Int32) {z : Nat} (hz : z < 5) {i : Nat} (hi : i < 32) : bt (rowM m z) i = (decide (i < 5) && bt m (5 * z + i)) := by
  unfold rowM
  rw [b_and, bt_31, b_sshr _ (by omega) _ hi]
  by_cases h : i < 5
  · rw [if_pos (by omega), Bool.and_comm]
  · rw [decide_eq_false h, Bool.and_false, Bool.false_and]
def joIn (l r : Int32) (x : Nat) : Nat → Nat → Int32 → Int32
  | 0, _, v => v
  | n + 1, z, v => joIn l r x n (z + 1) (if bt l (5 * x + z) = true then v ||| (rowM r z <<< (nI (5 * x) &&& 31)) else v)
def joOut (l r : Int32) : Nat → Nat → Int32 → Int32
  | 0, _, v => v
  | n + 1, x, v => joOut l r n (x + 1) (joIn l r x 5 0 v)
def joinM (l r : Int32) : Int32 := joOut l r 5 0 0
/-- some z from a on, n of them -/
def anyN (f : Nat → Bool) : Nat → Nat → Bool
  | 0, _ => false
  | n + 1, a => f a || anyN f n (a + 1)
theorem anyN_iff (f : Nat → Bool) : ∀ (n a : Nat), anyN f n a = true ↔ ∃ z, a ≤ z ∧ z < a + n ∧ f z = true := by
  intro n
  induction n with
  | zero => intro a; exact ⟨fun h => absurd h (by simp [anyN]), fun ⟨z, h1, h2, _⟩ => absurd h2 (by omega)⟩
  | succ n ih =>
    intro a
    rw [anyN, Bool.or_eq_true, ih]
    constructor
    · rintro (h | ⟨z, h1, h2, h3⟩)
      · exact ⟨a, Nat.le_refl _, by omega, h⟩
      · exact ⟨z, by omega, by omega, h3⟩
    · rintro ⟨z, h1, h2, h3⟩
      by_cases e : z = a
      · subst e; exact Or.inl h3
      · exact Or.inr ⟨z, by omega, by omega, h3⟩
theorem bt_joIn (l r : Int32) (x : Nat) (hx : x < 5) : ∀ (n z : Nat) (v : Int32) (i : Nat), z + n ≤ 5 → i < 32 → bt (joIn l r x n z v) i = (bt v i || (decide (5 * x ≤ i ∧ i < 5 * x + 5) && anyN (fun z => bt l (5 * x + z) && bt r (5 * z + (i - 5 * x))) n z)) := by
  intro n
  induction n with
  | zero => intro z v i _ _; rw [joIn, anyN, Bool.and_false, Bool.or_false]
  | succ n ih =>
    intro z v i h hi
    rw [joIn, ih _ _ _ (by omega) hi, bt_if, b_or, b_shl _ (by omega) _ hi, anyN]
    by_cases e : 5 * x ≤ i ∧ i < 5 * x + 5
    · rw [bt_row _ (by omega) (by omega), decide_eq_true e, decide_eq_true e.1, decide_eq_true (by omega : i - 5 * x < 5)]
      simp only [Bool.true_and]
      cases bt l (5 * x + z) <;> simp [Bool.or_assoc]
    · rw [decide_eq_false e, Bool.false_and, Bool.false_and, Bool.or_false, Bool.or_false]
      rcases Nat.lt_or_ge i (5 * x) with q | q
      · rw [decide_eq_false (by omega : ¬ 5 * x ≤ i), Bool.false_and, Bool.or_false, ite_self]
      · rw [bt_row _ (by omega) (by omega), decide_eq_false (by omega : ¬ i - 5 * x < 5), Bool.false_and, Bool.and_false, Bool.or_false, ite_self]
theorem bt_joOut (l r : Int32) : ∀ (n x : Nat) (v : Int32) (i : Nat), x + n ≤ 5 → i < 32 → bt (joOut l r n x v) i = (bt v i || (decide (5 * x ≤ i ∧ i < 5 * (x + n)) && anyN (fun z => bt l (5 * (i / 5) + z) && bt r (5 * z + i % 5)) 5 0)) := by
  intro n
  induction n with
  | zero => intro x v i _ _; rw [joOut, decide_eq_false (by omega), Bool.false_and, Bool.or_false]
  | succ n ih =>
    intro x v i h hi
    rw [joOut, ih _ _ _ (by omega) hi, bt_joIn _ _ _ (by omega) _ _ _ _ (by omega) hi]
    by_cases e : 5 * x ≤ i ∧ i < 5 * x + 5
    · rw [decide_eq_true e, decide_eq_false (by omega : ¬ (5 * (x + 1) ≤ i ∧ i < 5 * (x + 1 + n))), decide_eq_true (by omega : 5 * x ≤ i ∧ i < 5 * (x + (n + 1))), show i - 5 * x = i % 5 by omega, show x = i / 5 by omega]
      simp
    · rw [decide_eq_false e, Bool.false_and, Bool.or_false]
      congr 2
      exact decide_eq_decide.mpr (by omega)
theorem bt_join (l r : Int32) (i : Nat) : bt (joinM l r) i = (decide (i < 25) && anyN (fun z => bt l (5 * (i / 5) + z) && bt r (5 * z + i % 5)) 5 0) := by
  rcases Nat.lt_or_ge i 32 with h | h
  · unfold joinM
    rw [bt_joOut _ _ _ _ _ _ (by omega) h, b_0, Bool.false_or]
    congr 1
    exact decide_eq_decide.mpr (by omega)
  · rw [b_big h, decide_eq_false (by omega), Bool.false_and]

section
/-! ===== Int32 by its bits: bt x i ===== -/
def bt (x : Int32) (i : Nat) : Bool := x.toBitVec.getLsbD i
theorem b_ext {x y : Int32} (h : ∀ i, i < 32 → bt x i = bt y i) : x = y := Int32.toBitVec_inj.mp (BitVec.eq_of_getLsbD_eq (fun i hi => h i hi))
theorem b_or (x y : Int32) (i : Nat) : bt (x ||| y) i = (bt x i || bt y i) := by unfold bt; rw [Int32.toBitVec_or, BitVec.getLsbD_or]
theorem b_and (x y : Int32) (i : Nat) : bt (x &&& y) i = (bt x i && bt y i) := by unfold bt; rw [Int32.toBitVec_and, BitVec.getLsbD_and]
theorem b_xor (x y : Int32) (i : Nat) : bt (x ^^^ y) i = (bt x i ^^ bt y i) := by unfold bt; rw [Int32.toBitVec_xor, BitVec.getLsbD_xor]
theorem b_big {x : Int32} {i : Nat} (h : 32 ≤ i) : bt x i = false := BitVec.getLsbD_of_ge _ _ h
theorem b_255 (i : Nat) : bt 255 i = decide (i < 8) := by
  rcases Nat.lt_or_ge i 32 with h | h
  · exact (by decide +kernel : ∀ i, i < 32 → bt 255 i = decide (i < 8)) i h
  · rw [b_big h, decide_eq_false (by omega)]
theorem b_65535 (i : Nat) : bt 65535 i = decide (i < 16) := by
  rcases Nat.lt_or_ge i 32 with h | h
  · exact (by decide +kernel : ∀ i, i < 32 → bt 65535 i = decide (i < 16)) i h
  · rw [b_big h, decide_eq_false (by omega)]
theorem b_m1 : ∀ i, i < 32 → bt (-1) i = true := by decide +kernel
theorem b_0 (i : Nat) : bt 0 i = false := BitVec.getLsbD_zero
theorem s_l : ∀ n, n < 32 → ((nI n &&& 31).toBitVec.smod 32).toNat = n := by decide +kernel
theorem s_u : ∀ n, n < 32 → (((nI n).toUInt32 &&& Int32.toUInt32 31).toBitVec % 32).toNat = n := by decide +kernel
theorem b_shl (n : Nat) (hn : n < 32) (x : Int32) {i : Nat} (hi : i < 32) : bt (x <<< (nI n &&& 31)) i = (decide (n ≤ i) && bt x (i - n)) := by
  unfold bt
  rw [Int32.toBitVec_shiftLeft]
  show (x.toBitVec <<< ((nI n &&& 31).toBitVec.smod 32).toNat).getLsbD i = _
  rw [s_l n hn, BitVec.getLsbD_shiftLeft]
  rcases Nat.lt_or_ge i n with h | h
  · simp [h, Nat.not_le.mpr h]
  · simp [hi, h, Nat.not_lt.mpr h]
theorem b_ushr (n : Nat) (hn : n < 32) (x : Int32) (i : Nat) : bt ((x.toUInt32 >>> ((nI n).toUInt32 &&& Int32.toUInt32 31)).toInt32) i = bt x (n + i) := by
  show (x.toUInt32 >>> ((nI n).toUInt32 &&& Int32.toUInt32 31)).toBitVec.getLsbD i = x.toUInt32.toBitVec.getLsbD (n + i)
  rw [UInt32.toBitVec_shiftRight]
  show (x.toUInt32.toBitVec >>> (((nI n).toUInt32 &&& Int32.toUInt32 31).toBitVec % 32).toNat).getLsbD i = _
  rw [s_u n hn, BitVec.getLsbD_ushiftRight]
theorem b_sshr (n : Nat) (hn : n < 32) (x : Int32) {i : Nat} (hi : i < 32) : bt (x >>> (nI n &&& 31)) i = if n + i < 32 then bt x (n + i) else bt x 31 := by
  unfold bt
  rw [Int32.toBitVec_shiftRight]
  show (x.toBitVec.sshiftRight ((nI n &&& 31).toBitVec.smod 32).toNat).getLsbD i = _
  rw [s_l n hn, BitVec.getLsbD_sshiftRight, BitVec.msb_eq_getLsbD_last]
  simp [hi]
theorem b_shl8 (x : Int32) {i : Nat} (hi : i < 32) : bt (x <<< ((8 : Int32) &&& 31)) i = (decide (8 ≤ i) && bt x (i - 8)) := b_shl 8 (by omega) x hi
theorem b_shl16 (x : Int32) {i : Nat} (hi : i < 32) : bt (x <<< ((16 : Int32) &&& 31)) i = (decide (16 ≤ i) && bt x (i - 16)) := b_shl 16 (by omega) x hi
theorem b_shl24 (x : Int32) {i : Nat} (hi : i < 32) : bt (x <<< ((24 : Int32) &&& 31)) i = (decide (24 ≤ i) && bt x (i - 24)) := b_shl 24 (by omega) x hi
theorem b_sshr8 (x : Int32) {i : Nat} (hi : i < 32) : bt (x >>> ((8 : Int32) &&& 31)) i = if 8 + i < 32 then bt x (8 + i) else bt x 31 := b_sshr 8 (by omega) x hi
theorem nx_and (a b : Nat) : nI a &&& nI b = nI (a &&& b) := by
  apply Int32.toBitVec_inj.1
  show BitVec.ofNat 32 a &&& BitVec.ofNat 32 b = BitVec.ofNat 32 (a &&& b)
  apply BitVec.eq_of_getLsbD_eq
  intro i hi
  simp [hi]
/-! ===== from here on my own rows ===== -/
/-- a truth value as the machine has it -/
def bI (b : Bool) : Int32 := if b = true then 1 else 0
theorem bI_0 {b : Bool} : bI b = 0 ↔ b = false := by cases b <;> decide
theorem bI_n0 {b : Bool} : ¬ bI b = 0 ↔ b = true := by cases b <;> decide
theorem bI_1 {b : Bool} : bI b = 1 ↔ b = true := by cases b <;> decide
theorem bI_inj {a b : Bool} : bI a = bI b ↔ a = b := by cases a <;> cases b <;> decide
theorem bI_nI (b : Bool) : bI b = nI (if b = true then 1 else 0) := by cases b <;> rfl
theorem bt_bI (b : Bool) (i : Nat) : bt (bI b) i = (b && decide (i = 0)) := by
  rcases Nat.lt_or_ge i 32 with h | h
  · cases b
    · simp [bI, b_0]
    · exact (by decide +kernel : ∀ i, i < 32 → bt (bI true) i = (true && decide (i = 0))) i h
  · rw [b_big h, decide_eq_false (by omega), Bool.and_false]
/-- the mask of one pair -/
def bm (k : Nat) : Int32 := nI 1 <<< (nI k &&& 31)
theorem bt_1 (i : Nat) : bt (nI 1) i = decide (i = 0) := by
  have := bt_bI true i
  rwa [Bool.true_and] at this
theorem bt_bm {k : Nat} (hk : k < 32) (i : Nat) : bt (bm k) i = decide (i = k) := by
  rcases Nat.lt_or_ge i 32 with h | h
  · unfold bm
    rw [b_shl k hk _ h, bt_1]
    by_cases e : i = k
    · subst e; simp
    · simp only [decide_eq_false e]
      rcases Nat.lt_or_ge i k with q | q
      · rw [decide_eq_false (by omega : ¬ k ≤ i), Bool.false_and]
      · rw [decide_eq_false (by omega : ¬ i - k = 0), Bool.and_false]
  · rw [b_big h, decide_eq_false (by omega)]
/-- one bit of a mask, as the class and the reference read it -/
theorem bt_read (m : Int32) {k : Nat} (hk : k < 32) : (m >>> (nI k &&& 31)) &&& nI 1 = bI (bt m k) := by
  apply b_ext
  intro i hi
  rw [b_and, bt_1, bt_bI, b_sshr k hk m hi]
  by_cases e : i = 0
  · subst e; simp [hk]
  · simp [e]
theorem bt_not (m : Int32) {i : Nat} (hi : i < 32) : bt (m ^^^ (-1)) i = !bt m i := by
  rw [b_xor, b_m1 i hi, Bool.xor_true]
/-- a set of pairs: no bit beyond the 25 -/
def lt25 (m : Int32) : Prop := ∀ i, 25 ≤ i → bt m i = false
theorem lt25_0 : lt25 0 := fun i _ => b_0 i
theorem lt25_or {a b : Int32} (ha : lt25 a) (hb : lt25 b) : lt25 (a ||| b) := fun i hi => by rw [b_or, ha i hi, hb i hi]; rfl
theorem lt25_and {a : Int32} (b : Int32) (ha : lt25 a) : lt25 (a &&& b) := fun i hi => by rw [b_and, ha i hi]; rfl
theorem lt25_bm {k : Nat} (hk : k < 25) : lt25 (bm k) := fun i hi => by rw [bt_bm (by omega), decide_eq_false (by omega)]
theorem lt25_ext {a b : Int32} (ha : lt25 a) (hb : lt25 b) (h : ∀ i, i < 25 → bt a i = bt b i) : a = b := by
  apply b_ext
  intro i _
  rcases Nat.lt_or_ge i 25 with q | q
  · exact h i q
  · rw [ha i q, hb i q]
theorem bt_if (c : Bool) (a b : Int32) (i : Nat) : bt (if c = true then a else b) i = if c = true then bt a i else bt b i := by cases c <;> rfl
/-! turned, joined: what their loops make -/
def tuIn (p : Int32) (x : Nat) : Nat → Nat → Int32 → Int32
  | 0, _, r => r
  | n + 1, y, r => tuIn p x n (y + 1) (if bt p (5 * y + x) = true then r ||| bm (5 * x + y) else r)
def tuOut (p : Int32) : Nat → Nat → Int32 → Int32
  | 0, _, r => r
  | n + 1, x, r => tuOut p n (x + 1) (tuIn p x 5 0 r)
def turnM (p : Int32) : Int32 := tuOut p 5 0 0
theorem bt_tuIn (p : Int32) (x : Nat) : ∀ (n y : Nat) (r : Int32) (i : Nat), 5 * x + y + n ≤ 32 → bt (tuIn p x n y r) i = (bt r i || (decide (5 * x + y ≤ i ∧ i < 5 * x + y + n) && bt p (5 * (i - 5 * x) + x))) := by
  intro n
  induction n with
  | zero => intro y r i _; rw [tuIn, decide_eq_false (by omega), Bool.false_and, Bool.or_false]
  | succ n ih =>
    intro y r i h
    rw [tuIn, ih _ _ _ (by omega), bt_if, b_or, bt_bm (by omega)]
    by_cases e : i = 5 * x + y
    · subst e
      rw [decide_eq_false (by omega : ¬ (5 * x + (y + 1) ≤ 5 * x + y ∧ 5 * x + y < 5 * x + (y + 1) + n)), decide_eq_true (by omega : 5 * x + y ≤ 5 * x + y ∧ 5 * x + y < 5 * x + y + (n + 1)), show 5 * (5 * x + y - 5 * x) + x = 5 * y + x by omega]
      cases bt p (5 * y + x) <;> simp
    · rw [decide_eq_false e, Bool.or_false, ite_self]
      congr 2
      exact decide_eq_decide.mpr (by omega)
theorem bt_tuOut (p : Int32) : ∀ (n x : Nat) (r : Int32) (i : Nat), x + n ≤ 5 → bt (tuOut p n x r) i = (bt r i || (decide (5 * x ≤ i ∧ i < 5 * (x + n)) && bt p (5 * (i % 5) + i / 5))) := by
  intro n
  induction n with
  | zero => intro x r i _; rw [tuOut, decide_eq_false (by omega), Bool.false_and, Bool.or_false]
  | succ n ih =>
    intro x r i h
    rw [tuOut, ih _ _ _ (by omega), bt_tuIn _ _ _ _ _ _ (by omega)]
    by_cases e : 5 * x ≤ i ∧ i < 5 * x + 5
    · rw [decide_eq_true (by omega : 5 * x + 0 ≤ i ∧ i < 5 * x + 0 + 5), decide_eq_false (by omega : ¬ (5 * (x + 1) ≤ i ∧ i < 5 * (x + 1 + n))), decide_eq_true (by omega : 5 * x ≤ i ∧ i < 5 * (x + (n + 1))), show 5 * (i - 5 * x) + x = 5 * (i % 5) + i / 5 by omega]
      simp
    · rw [decide_eq_false (by omega : ¬ (5 * x + 0 ≤ i ∧ i < 5 * x + 0 + 5)), Bool.false_and, Bool.or_false]
      congr 2
      exact decide_eq_decide.mpr (by omega)
theorem bt_turn (p : Int32) (i : Nat) : bt (turnM p) i = (decide (i < 25) && bt p (5 * (i % 5) + i / 5)) := by
  unfold turnM
  rw [bt_tuOut _ _ _ _ _ (by omega), b_0, Bool.false_or]
  congr 1
  exact decide_eq_decide.mpr (by omega)
def rowM (m : Int32) (z : Nat) : Int32 := (m >>> (nI (5 * z) &&& 31)) &&& nI 31
theorem bt_31 (i : Nat) : bt (nI 31) i = decide (i < 5) := by
  rcases Nat.lt_or_ge i 32 with h | h
  · exact (by decide +kernel : ∀ i, i < 32 → bt (nI 31) i = decide (i < 5)) i h
  · rw [b_big h, decide_eq_false (by omega)]
theorem bt_row (m : Int32) {z : Nat} (hz : z < 5) {i : Nat} (hi : i < 32) : bt (rowM m z) i = (decide (i < 5) && bt m (5 * z + i)) := by
  unfold rowM
  rw [b_and, bt_31, b_sshr _ (by omega) _ hi]
  by_cases h : i < 5
  · rw [if_pos (by omega), Bool.and_comm]
  · rw [decide_eq_false h, Bool.and_false, Bool.false_and]
def joIn (l r : Int32) (x : Nat) : Nat → Nat → Int32 → Int32
  | 0, _, v => v
  | n + 1, z, v => joIn l r x n (z + 1) (if bt l (5 * x + z) = true then v ||| (rowM r z <<< (nI (5 * x) &&& 31)) else v)
def joOut (l r : Int32) : Nat → Nat → Int32 → Int32
  | 0, _, v => v
  | n + 1, x, v => joOut l r n (x + 1) (joIn l r x 5 0 v)
def joinM (l r : Int32) : Int32 := joOut l r 5 0 0
/-- some z from a on, n of them -/
def anyN (f : Nat → Bool) : Nat → Nat → Bool
  | 0, _ => false
  | n + 1, a => f a || anyN f n (a + 1)
theorem anyN_iff (f : Nat → Bool) : ∀ (n a : Nat), anyN f n a = true ↔ ∃ z, a ≤ z ∧ z < a + n ∧ f z = true := by
  intro n
  induction n with
  | zero => intro a; exact ⟨fun h => absurd h (by simp [anyN]), fun ⟨z, h1, h2, _⟩ => absurd h2 (by omega)⟩
  | succ n ih =>
    intro a
    rw [anyN, Bool.or_eq_true, ih]
    constructor
    · rintro (h | ⟨z, h1, h2, h3⟩)
      · exact ⟨a, Nat.le_refl _, by omega, h⟩
      · exact ⟨z, by omega, by omega, h3⟩
    · rintro ⟨z, h1, h2, h3⟩
      by_cases e : z = a
      · subst e; exact Or.inl h3
      · exact Or.inr ⟨z, by omega, by omega, h3⟩
theorem bt_joIn (l r : Int32) (x : Nat) (hx : x < 5) : ∀ (n z : Nat) (v : Int32) (i : Nat), z + n ≤ 5 → i < 32 → bt (joIn l r x n z v) i = (bt v i || (decide (5 * x ≤ i ∧ i < 5 * x + 5) && anyN (fun z => bt l (5 * x + z) && bt r (5 * z + (i - 5 * x))) n z)) := by
  intro n
  induction n with
  | zero => intro z v i _ _; rw [joIn, anyN, Bool.and_false, Bool.or_false]
  | succ n ih =>
    intro z v i h hi
    rw [joIn, ih _ _ _ (by omega) hi, bt_if, b_or, b_shl _ (by omega) _ hi, anyN]
    by_cases e : 5 * x ≤ i ∧ i < 5 * x + 5
    · rw [bt_row _ (by omega) (by omega), decide_eq_true e, decide_eq_true e.1, decide_eq_true (by omega : i - 5 * x < 5)]
      simp only [Bool.true_and]
      cases bt l (5 * x + z) <;> simp [Bool.or_assoc]
    · rw [decide_eq_false e, Bool.false_and, Bool.false_and, Bool.or_false, Bool.or_false]
      rcases Nat.lt_or_ge i (5 * x) with q | q
      · rw [decide_eq_false (by omega : ¬ 5 * x ≤ i), Bool.false_and, Bool.or_false, ite_self]
      · rw [bt_row _ (by omega) (by omega), decide_eq_false (by omega : ¬ i - 5 * x < 5), Bool.false_and, Bool.and_false, Bool.or_false, ite_self]
theorem bt_joOut (l r : Int32) : ∀ (n x : Nat) (v : Int32) (i : Nat), x + n ≤ 5 → i < 32 → bt (joOut l r n x v) i = (bt v i || (decide (5 * x ≤ i ∧ i < 5 * (x + n)) && anyN (fun z => bt l (5 * (i / 5) + z) && bt r (5 * z + i % 5)) 5 0)) := by
  intro n
  induction n with
  | zero => intro x v i _ _; rw [joOut, decide_eq_false (by omega), Bool.false_and, Bool.or_false]
  | succ n ih =>
    intro x v i h hi
    rw [joOut, ih _ _ _ (by omega) hi, bt_joIn _ _ _ (by omega) _ _ _ _ (by omega) hi]
    by_cases e : 5 * x ≤ i ∧ i < 5 * x + 5
    · rw [decide_eq_true e, decide_eq_false (by omega : ¬ (5 * (x + 1) ≤ i ∧ i < 5 * (x + 1 + n))), decide_eq_true (by omega : 5 * x ≤ i ∧ i < 5 * (x + (n + 1))), show i - 5 * x = i % 5 by omega, show x = i / 5 by omega]
      simp
    · rw [decide_eq_false e, Bool.false_and, Bool.or_false]
      congr 2
      exact decide_eq_decide.mpr (by omega)
theorem bt_join (l r : Int32) (i : Nat) : bt (joinM l r) i = (decide (i < 25) && anyN (fun z => bt l (5 * (i / 5) + z) && bt r (5 * z + i % 5)) 5 0) := by
  rcases Nat.lt_or_ge i 32 with h | h
  · unfold joinM
    rw [bt_joOut _ _ _ _ _ _ (by omega) h, b_0, Bool.false_or]
    congr 1
    exact decide_eq_decide.mpr (by omega)
  · rw [b_big h, decide_eq_false (by omega), Bool.false_and]
end
section
/-! THE VIEWS AS SETS: a state says of a relation and of a pair's number 5x + y whether the pair is in; what a rule gives; which states are what the rules make of the facts; two such states with the same facts are the same -/
def gvP (f p q : Nat) (S : Nat → Nat → Prop) (i : Nat) : Prop :=
  (f = 0 ∧ S p i) ∨ (f = 1 ∧ S p (5 * (i % 5) + i / 5)) ∨ (f = 2 ∧ ∃ z, z < 5 ∧ S p (5 * (i / 5) + z) ∧ S q (5 * z + i % 5)) ∨ (f = 3 ∧ S p i ∧ S q i) ∨ (f = 4 ∧ S p i ∧ ¬ S q i)
theorem gvP_mono {f p q : Nat} {S T : Nat → Nat → Prop} {i : Nat} (hi : i < 25) (h1 : ∀ j, j < 25 → S p j → T p j) (h2 : f = 2 ∨ f = 3 → ∀ j, j < 25 → S q j → T q j) (h3 : f = 4 → ∀ j, j < 25 → T q j → S q j) (h : gvP f p q S i) : gvP f p q T i := by
  rcases h with ⟨rfl, a⟩ | ⟨rfl, a⟩ | ⟨rfl, z, hz, a, b⟩ | ⟨rfl, a, b⟩ | ⟨rfl, a, b⟩
  · exact Or.inl ⟨rfl, h1 _ hi a⟩
  · exact Or.inr (Or.inl ⟨rfl, h1 _ (by omega) a⟩)
  · exact Or.inr (Or.inr (Or.inl ⟨rfl, z, hz, h1 _ (by omega) a, h2 (Or.inl rfl) _ (by omega) b⟩))
  · exact Or.inr (Or.inr (Or.inr (Or.inl ⟨rfl, h1 _ hi a, h2 (Or.inr rfl) _ hi b⟩)))
  · exact Or.inr (Or.inr (Or.inr (Or.inr ⟨rfl, h1 _ hi a, fun c => b (h3 rfl _ hi c)⟩)))
/-- what the rules (n of them: head, form, p, q) and what needs what (nb) keep to -/
def EnvOk (n : Nat) (hd fm rp rq : Nat → Nat) (nb : Nat → Nat → Bool) : Prop :=
  (∀ k, k < n → nb (hd k) (rp k) = true) ∧ (∀ k, k < n → 2 ≤ fm k → nb (hd k) (rq k) = true) ∧ (∀ a b c, nb a b = true → nb b c = true → nb a c = true) ∧ (∀ k, k < n → fm k = 4 → rq k ≠ hd k ∧ ¬ nb (rq k) (hd k) = true) ∧ (∀ a b, nb a b = true → 2 ≤ a ∧ a < 7 ∧ b < 7) ∧ (∀ k, k < n → fm k ≤ 4 ∧ 2 ≤ hd k ∧ hd k < 7 ∧ rp k < 7 ∧ rq k < 7)
def togP (nb : Nat → Nat → Bool) (v w : Nat) : Prop := v = w ∨ (nb v w = true ∧ nb w v = true)
theorem togP.need {n : Nat} {hd fm rp rq : Nat → Nat} {nb : Nat → Nat → Bool} (E : EnvOk n hd fm rp rq nb) {v h p : Nat} (t : togP nb v h) (hp : nb h p = true) : nb v p = true := by
  rcases t with rfl | t
  · exact hp
  · exact E.2.2.1 _ _ _ t.1 hp
theorem togP.back {n : Nat} {hd fm rp rq : Nat → Nat} {nb : Nat → Nat → Bool} (E : EnvOk n hd fm rp rq nb) {v h q : Nat} (t : togP nb v h) (hq : togP nb v q) : q = h ∨ nb q h = true := by
  rcases t with rfl | t
  · rcases hq with rfl | hq
    · exact Or.inl rfl
    · exact Or.inr hq.2
  · rcases hq with rfl | hq
    · exact Or.inr t.1
    · exact Or.inr (E.2.2.1 _ _ _ hq.2 t.1)
theorem togP.symm {nb : Nat → Nat → Bool} {v w : Nat} (t : togP nb v w) : togP nb w v := by
  rcases t with rfl | t
  · exact Or.inl rfl
  · exact Or.inr ⟨t.2, t.1⟩
theorem togP.trans {n : Nat} {hd fm rp rq : Nat → Nat} {nb : Nat → Nat → Bool} (E : EnvOk n hd fm rp rq nb) {u v w : Nat} (s : togP nb u v) (t : togP nb v w) : togP nb u w := by
  rcases s with rfl | s
  · exact t
  · rcases t with rfl | t
    · exact Or.inr s
    · exact Or.inr ⟨E.2.2.1 _ _ _ s.1 t.1, E.2.2.1 _ _ _ t.2 s.2⟩
/-- the views that need one another with v: closed under their rules, and within every closed state that has the same of what else v needs -/
def MdAt (n : Nat) (hd fm rp rq : Nat → Nat) (nb : Nat → Nat → Bool) (v : Nat) (S : Nat → Nat → Prop) : Prop :=
  (∀ k, k < n → togP nb v (hd k) → ∀ i, i < 25 → gvP (fm k) (rp k) (rq k) S i → S (hd k) i) ∧
  ∀ X : Nat → Nat → Prop, (∀ w, nb v w = true → ¬ togP nb v w → ∀ i, i < 25 → (X w i ↔ S w i)) → (∀ k, k < n → togP nb v (hd k) → ∀ i, i < 25 → gvP (fm k) (rp k) (rq k) X i → X (hd k) i) → ∀ w, togP nb v w → ∀ i, i < 25 → S w i → X w i
theorem MdAt.le {n : Nat} {hd fm rp rq : Nat → Nat} {nb : Nat → Nat → Bool} {v : Nat} {S T : Nat → Nat → Prop} (hS : MdAt n hd fm rp rq nb v S) (hT : MdAt n hd fm rp rq nb v T) (h : ∀ w, nb v w = true → ¬ togP nb v w → ∀ i, i < 25 → (S w i ↔ T w i)) : ∀ w, togP nb v w → ∀ i, i < 25 → S w i → T w i :=
  hS.2 T (fun w a b i hi => (h w a b i hi).symm) hT.1
/-- only what v needs counts -/
theorem MdAt.congr {n : Nat} {hd fm rp rq : Nat → Nat} {nb : Nat → Nat → Bool} (E : EnvOk n hd fm rp rq nb) {v : Nat} {S T : Nat → Nat → Prop} (hS : MdAt n hd fm rp rq nb v S) (h : ∀ w, v = w ∨ nb v w = true → ∀ i, i < 25 → (S w i ↔ T w i)) : MdAt n hd fm rp rq nb v T := by
  have tn : ∀ w, togP nb v w → v = w ∨ nb v w = true := fun w t => t.elim Or.inl (fun q => Or.inr q.1)
  refine ⟨fun k hk ht i hi g => ?_, fun X hX hc w ht i hi hs => ?_⟩
  · refine (h _ (tn _ ht) i hi).mp (hS.1 k hk ht i hi (gvP_mono hi (fun j hj a => ?_) (fun hf j hj a => ?_) (fun hf j hj a => ?_) g))
    · exact (h _ (Or.inr (ht.need E (E.1 k hk))) j hj).mpr a
    · exact (h _ (Or.inr (ht.need E (E.2.1 k hk (by omega)))) j hj).mpr a
    · exact (h _ (Or.inr (ht.need E (E.2.1 k hk (by omega)))) j hj).mp a
  · exact hS.2 X (fun w a b i hi => (hX w a b i hi).trans (h w (Or.inr a) i hi).symm) hc w ht i hi ((h w (tn _ ht) i hi).mpr hs)
/-- how many relations v needs, itself with them -/
def rkF (nb : Nat → Nat → Bool) (v r : Nat) : Nat := if nb v r = true ∨ r = v then 1 else 0
def rkN (nb : Nat → Nat → Bool) (v : Nat) : Nat := rkF nb v 0 + rkF nb v 1 + rkF nb v 2 + rkF nb v 3 + rkF nb v 4 + rkF nb v 5 + rkF nb v 6
theorem rkF_01 (nb : Nat → Nat → Bool) (v r : Nat) : rkF nb v r ≤ 1 := by unfold rkF; split <;> omega
theorem rkF_le {n : Nat} {hd fm rp rq : Nat → Nat} {nb : Nat → Nat → Bool} (E : EnvOk n hd fm rp rq nb) {v w : Nat} (h : nb v w = true) (r : Nat) : rkF nb w r ≤ rkF nb v r := by
  unfold rkF
  split
  · next a =>
    have : nb v r = true ∨ r = v := by
      rcases a with a | rfl
      · exact Or.inl (E.2.2.1 _ _ _ h a)
      · exact Or.inl h
    rw [if_pos this]
    exact Nat.le_refl 1
  · exact Nat.zero_le _
theorem rkN_le {n : Nat} {hd fm rp rq : Nat → Nat} {nb : Nat → Nat → Bool} (E : EnvOk n hd fm rp rq nb) {v w : Nat} (h : nb v w = true) : rkN nb w ≤ rkN nb v := by
  have a0 := rkF_le E h 0; have a1 := rkF_le E h 1; have a2 := rkF_le E h 2; have a3 := rkF_le E h 3; have a4 := rkF_le E h 4; have a5 := rkF_le E h 5; have a6 := rkF_le E h 6
  unfold rkN
  omega
theorem rkN_lt {n : Nat} {hd fm rp rq : Nat → Nat} {nb : Nat → Nat → Bool} (E : EnvOk n hd fm rp rq nb) {v w : Nat} (h : nb v w = true) (hn : ¬ nb w v = true) : rkN nb w < rkN nb v := by
  have hv : v < 7 := (E.2.2.2.2.1 _ _ h).2.1
  have hvw : v ≠ w := fun q => by subst q; exact hn h
  have a0 := rkF_le E h 0; have a1 := rkF_le E h 1; have a2 := rkF_le E h 2; have a3 := rkF_le E h 3; have a4 := rkF_le E h 4; have a5 := rkF_le E h 5; have a6 := rkF_le E h 6
  have b0 : rkF nb w v = 0 := by unfold rkF; rw [if_neg (fun q => q.elim hn hvw)]
  have b1 : rkF nb v v = 1 := by unfold rkF; rw [if_pos (Or.inr rfl)]
  unfold rkN
  rcases (show v = 0 ∨ v = 1 ∨ v = 2 ∨ v = 3 ∨ v = 4 ∨ v = 5 ∨ v = 6 by omega) with q | q | q | q | q | q | q <;> (rw [q] at b0 b1 a0 a1 a2 a3 a4 a5 a6 ⊢; omega)
theorem rkN_tog {n : Nat} {hd fm rp rq : Nat → Nat} {nb : Nat → Nat → Bool} (E : EnvOk n hd fm rp rq nb) {v w : Nat} (h : togP nb v w) : rkN nb v = rkN nb w := by
  rcases h with rfl | h
  · rfl
  · exact Nat.le_antisymm (rkN_le E h.2) (rkN_le E h.1)
/-- two states that are what the rules make of the same facts are the same -/
theorem md_all {n : Nat} {hd fm rp rq : Nat → Nat} {nb : Nat → Nat → Bool} (E : EnvOk n hd fm rp rq nb) {S T : Nat → Nat → Prop} (hS : ∀ v, 2 ≤ v → v < 7 → MdAt n hd fm rp rq nb v S) (hT : ∀ v, 2 ≤ v → v < 7 → MdAt n hd fm rp rq nb v T) (hf : ∀ r, r < 2 → ∀ i, i < 25 → (S r i ↔ T r i)) : ∀ v, v < 7 → ∀ i, i < 25 → (S v i ↔ T v i) := by
  have key : ∀ (d v : Nat), rkN nb v < d → v < 7 → ∀ i, i < 25 → (S v i ↔ T v i) := by
    intro d
    induction d with
    | zero => intro v h; exact absurd h (Nat.not_lt_zero _)
    | succ d ih =>
      intro v hd7 hv7 i hi
      rcases Nat.lt_or_ge v 2 with h2 | h2
      · exact hf v h2 i hi
      · have low : ∀ w, nb v w = true → ¬ togP nb v w → ∀ i, i < 25 → (S w i ↔ T w i) := by
          intro w hw ht
          have hn : ¬ nb w v = true := fun q => ht (Or.inr ⟨hw, q⟩)
          have := rkN_lt E hw hn
          exact ih w (by omega) (E.2.2.2.2.1 _ _ hw).2.2
        exact ⟨(hS v h2 hv7).le (hT v h2 hv7) low v (Or.inl rfl) i hi, (hT v h2 hv7).le (hS v h2 hv7) (fun w a b i hi => (low w a b i hi).symm) v (Or.inl rfl) i hi⟩
  exact fun v hv => key (rkN nb v + 1) v (Nat.lt_succ_self _) hv
/-- S is within X on the views together with v, and the same as X in what else v needs -/
def SubAt (nb : Nat → Nat → Bool) (v : Nat) (X S : Nat → Nat → Prop) : Prop := (∀ w, togP nb v w → ∀ i, i < 25 → S w i → X w i) ∧ ∀ w, nb v w = true → ¬ togP nb v w → ∀ i, i < 25 → (X w i ↔ S w i)
theorem SubAt.give {n : Nat} {hd fm rp rq : Nat → Nat} {nb : Nat → Nat → Bool} (E : EnvOk n hd fm rp rq nb) {v : Nat} {X S : Nat → Nat → Prop} (h : SubAt nb v X S) (hc : ∀ k, k < n → togP nb v (hd k) → ∀ i, i < 25 → gvP (fm k) (rp k) (rq k) X i → X (hd k) i) {k : Nat} (hk : k < n) (ht : togP nb v (hd k)) {i : Nat} (hi : i < 25) (g : gvP (fm k) (rp k) (rq k) S i) : X (hd k) i := by
  have one : ∀ r, nb v r = true → ∀ j, j < 25 → S r j → X r j := by
    intro r hr j hj a
    by_cases q : togP nb v r
    · exact h.1 r q j hj a
    · exact (h.2 r hr q j hj).mpr a
  refine hc k hk ht i hi (gvP_mono hi (one _ (ht.need E (E.1 k hk))) (fun hf => one _ (ht.need E (E.2.1 k hk (by omega)))) (fun hf j hj a => ?_) g)
  have hq := E.2.2.2.1 k hk hf
  have hnt : ¬ togP nb v (rq k) := fun q => (ht.back E q).elim hq.1 hq.2
  exact (h.2 _ (ht.need E (E.2.1 k hk (by omega))) hnt j hj).mp a
/-! THE SUSPECTS: B the state before, S the state after -/
def loP (nb : Nat → Nat → Bool) (B S D : Nat → Nat → Prop) (v r i : Nat) : Prop := (nb r v = true ∧ D r i) ∨ (¬ nb r v = true ∧ B r i ∧ ¬ S r i)
/-- an instance of a rule (head v) in the state before, that leans on a lost pair -/
def dbP (nb : Nat → Nat → Bool) (B S D : Nat → Nat → Prop) (v f p q i : Nat) : Prop :=
  (f = 0 ∧ B p i ∧ loP nb B S D v p i) ∨ (f = 1 ∧ B p (5 * (i % 5) + i / 5) ∧ loP nb B S D v p (5 * (i % 5) + i / 5)) ∨
  (f = 2 ∧ ∃ z, z < 5 ∧ (B p (5 * (i / 5) + z) ∧ B q (5 * z + i % 5)) ∧ (loP nb B S D v p (5 * (i / 5) + z) ∨ loP nb B S D v q (5 * z + i % 5))) ∨
  (f = 3 ∧ (B p i ∧ B q i) ∧ (loP nb B S D v p i ∨ loP nb B S D v q i)) ∨ (f = 4 ∧ (B p i ∧ ¬ B q i) ∧ (loP nb B S D v p i ∨ (S q i ∧ ¬ B q i)))
theorem dbP_gives {nb : Nat → Nat → Bool} {B S D : Nat → Nat → Prop} {v f p q i : Nat} (h : dbP nb B S D v f p q i) : gvP f p q B i := by
  rcases h with ⟨rfl, a, _⟩ | ⟨rfl, a, _⟩ | ⟨rfl, z, hz, a, _⟩ | ⟨rfl, a, _⟩ | ⟨rfl, a, _⟩
  · exact Or.inl ⟨rfl, a⟩
  · exact Or.inr (Or.inl ⟨rfl, a⟩)
  · exact Or.inr (Or.inr (Or.inl ⟨rfl, z, hz, a.1, a.2⟩))
  · exact Or.inr (Or.inr (Or.inr (Or.inl ⟨rfl, a⟩)))
  · exact Or.inr (Or.inr (Or.inr (Or.inr ⟨rfl, a⟩)))
/-- THE HEART OF THE TAKING OUT: before, the views were what the rules make; what is no suspect is within every closed state after -/
theorem keeps {n : Nat} {hd fm rp rq : Nat → Nat} {nb : Nat → Nat → Bool} (E : EnvOk n hd fm rp rq nb) {v : Nat} {B S D X : Nat → Nat → Prop} (hB : MdAt n hd fm rp rq nb v B) (hv : nb v v = true)
    (hDB : ∀ w, togP nb v w → ∀ i, i < 25 → D w i → B w i) (hD : ∀ k, k < n → togP nb v (hd k) → ∀ i, i < 25 → dbP nb B S D (hd k) (fm k) (rp k) (rq k) i → D (hd k) i)
    (hX : ∀ w, nb v w = true → ¬ togP nb v w → ∀ i, i < 25 → (X w i ↔ S w i)) (hc : ∀ k, k < n → togP nb v (hd k) → ∀ i, i < 25 → gvP (fm k) (rp k) (rq k) X i → X (hd k) i) : ∀ w, togP nb v w → ∀ i, i < 25 → B w i → ¬ D w i → X w i := by
  let Y : Nat → Nat → Prop := fun w i => (togP nb v w ∧ ((B w i ∧ X w i) ∨ D w i)) ∨ (¬ togP nb v w ∧ B w i)
  have YB : ∀ w i, i < 25 → Y w i → B w i := fun w i hi y => y.elim (fun y => y.2.elim (fun a => a.1) (fun a => hDB w y.1 i hi a)) (fun y => y.2)
  have hback : ∀ k, k < n → togP nb v (hd k) → ∀ r, nb v r = true → (togP nb v r ↔ nb r (hd k) = true) := by
    intro k hk ht r hr
    constructor
    · intro t
      rcases ht.back E t with q | q
      · subst q
        rcases ht with q2 | q2
        · rw [← q2]; exact hv
        · exact E.2.2.1 _ _ _ q2.2 q2.1
      · exact q
    · intro t
      refine Or.inr ⟨hr, ?_⟩
      rcases ht with q2 | q2
      · rw [q2]; exact t
      · exact E.2.2.1 _ _ _ t q2.2
  have main := hB.2 Y (fun w hw hn i hi => ⟨fun y => YB w i hi y, fun b => Or.inr ⟨hn, b⟩⟩) (fun k hk ht i hi g => by
    have gB : gvP (fm k) (rp k) (rq k) B i := gvP_mono hi (fun j hj => YB _ j hj) (fun _ j hj => YB _ j hj) (fun hf j hj b => by
      have hq := E.2.2.2.1 k hk hf
      exact Or.inr ⟨fun q => (ht.back E q).elim hq.1 hq.2, b⟩) g
    have hb := hB.1 k hk ht i hi gB
    by_cases hdd : D (hd k) i
    · exact Or.inl ⟨ht, Or.inr hdd⟩
    · have nd : ¬ dbP nb B S D (hd k) (fm k) (rp k) (rq k) i := fun q => hdd (hD k hk ht i hi q)
      have hp := ht.need E (E.1 k hk)
      -- a pair that the instance uses, and that is not lost, is in X
      have use : ∀ r, nb v r = true → ∀ j, j < 25 → Y r j → ¬ loP nb B S D (hd k) r j → X r j := by
        intro r hr j hj y nl
        by_cases tr : togP nb v r
        · rcases y with y | y
          · rcases y.2 with a | a
            · exact a.2
            · exact absurd (Or.inl ⟨(hback k hk ht r hr).mp tr, a⟩) nl
          · exact absurd tr y.1
        · have nr : ¬ nb r (hd k) = true := fun q => tr ((hback k hk ht r hr).mpr q)
          refine (hX r hr tr j hj).mpr ?_
          by_cases s : S r j
          · exact s
          · exact absurd (Or.inr ⟨nr, YB r j hj y, s⟩) nl
      refine Or.inl ⟨ht, Or.inl ⟨hb, hc k hk ht i hi ?_⟩⟩
      rcases g with ⟨f0, a⟩ | ⟨f0, a⟩ | ⟨f0, z, hz, a, b⟩ | ⟨f0, a, b⟩ | ⟨f0, a, b⟩
      · exact Or.inl ⟨f0, use _ hp _ hi a (fun l => nd (Or.inl ⟨f0, YB _ _ hi a, l⟩))⟩
      · exact Or.inr (Or.inl ⟨f0, use _ hp _ (by omega) a (fun l => nd (Or.inr (Or.inl ⟨f0, YB _ _ (by omega) a, l⟩)))⟩)
      · have hq := ht.need E (E.2.1 k hk (by omega))
        have ab := And.intro (YB _ _ (by omega) a) (YB _ _ (by omega) b)
        exact Or.inr (Or.inr (Or.inl ⟨f0, z, hz, use _ hp _ (by omega) a (fun l => nd (Or.inr (Or.inr (Or.inl ⟨f0, z, hz, ab, Or.inl l⟩)))), use _ hq _ (by omega) b (fun l => nd (Or.inr (Or.inr (Or.inl ⟨f0, z, hz, ab, Or.inr l⟩))))⟩))
      · have hq := ht.need E (E.2.1 k hk (by omega))
        have ab := And.intro (YB _ _ hi a) (YB _ _ hi b)
        exact Or.inr (Or.inr (Or.inr (Or.inl ⟨f0, use _ hp _ hi a (fun l => nd (Or.inr (Or.inr (Or.inr (Or.inl ⟨f0, ab, Or.inl l⟩))))), use _ hq _ hi b (fun l => nd (Or.inr (Or.inr (Or.inr (Or.inl ⟨f0, ab, Or.inr l⟩)))))⟩)))
      · have hq := ht.need E (E.2.1 k hk (by omega))
        have hqn := E.2.2.2.1 k hk f0
        have tq : ¬ togP nb v (rq k) := fun q => (ht.back E q).elim hqn.1 hqn.2
        have bq : ¬ B (rq k) i := fun q => b (Or.inr ⟨tq, q⟩)
        have ab := And.intro (YB _ _ hi a) bq
        refine Or.inr (Or.inr (Or.inr (Or.inr ⟨f0, use _ hp _ hi a (fun l => nd (Or.inr (Or.inr (Or.inr (Or.inr ⟨f0, ab, Or.inl l⟩))))), fun x => ?_⟩)))
        have s := (hX _ hq tq i hi).mp x
        exact nd (Or.inr (Or.inr (Or.inr (Or.inr ⟨f0, ab, Or.inr ⟨s, bq⟩⟩)))))
  intro w hw i hi hb hnd
  rcases main w hw i hi hb with y | y
  · rcases y.2 with a | a
    · exact a.2
    · exact absurd a hnd
  · exact absurd hw y.1
end
section
-- ===== PART A: goes FIRST, ahead of the names: the tables' words, and 'selects' of the private methods out of them =====
/-- a private method of a class that the tables say can be made, by its rows of tables_1 -/
def lw_okq (q : MethodName × Nat) : Prop := (q.1.cls ≠ "java/lang/invoke/MethodHandle" ∧ q.1.cls ≠ "java/lang/invoke/VarHandle") ∧ Cond.instantiable q.1.cls q.2 ∈ tables_1 ∧ Cond.privateMethod q.1 ∈ tables_1 ∧ Cond.instanceMethod q.1 ∈ tables_1
theorem lw_p0 : lw_okq (⟨"ViewKeeper$RuleBook", "write", "(IIII)V"⟩, 3) := ⟨⟨by decide +kernel, by decide +kernel⟩, List.mem_of_getElem? (i := 17) (by decide +kernel), List.mem_of_getElem? (i := 92) (by decide +kernel), List.mem_of_getElem? (i := 93) (by decide +kernel)⟩
theorem lw_p1 : lw_okq (⟨"ViewKeeper$RuleBook", "findNeeded", "()V"⟩, 3) := ⟨⟨by decide +kernel, by decide +kernel⟩, List.mem_of_getElem? (i := 17) (by decide +kernel), List.mem_of_getElem? (i := 96) (by decide +kernel), List.mem_of_getElem? (i := 97) (by decide +kernel)⟩
theorem lw_p2 : lw_okq (⟨"ViewKeeper$Rule", "body", "()I"⟩, 4) := ⟨⟨by decide +kernel, by decide +kernel⟩, List.mem_of_getElem? (i := 24) (by decide +kernel), List.mem_of_getElem? (i := 103) (by decide +kernel), List.mem_of_getElem? (i := 104) (by decide +kernel)⟩
theorem lw_p3 : lw_okq (⟨"ViewKeeper$RuleBook", "leadsTo", "(II)Z"⟩, 3) := ⟨⟨by decide +kernel, by decide +kernel⟩, List.mem_of_getElem? (i := 17) (by decide +kernel), List.mem_of_getElem? (i := 107) (by decide +kernel), List.mem_of_getElem? (i := 108) (by decide +kernel)⟩
theorem lw_p4 : lw_okq (⟨"ViewKeeper$RuleBook", "hasCycle", "()Z"⟩, 3) := ⟨⟨by decide +kernel, by decide +kernel⟩, List.mem_of_getElem? (i := 17) (by decide +kernel), List.mem_of_getElem? (i := 111) (by decide +kernel), List.mem_of_getElem? (i := 112) (by decide +kernel)⟩
theorem lw_p5 : lw_okq (⟨"ViewKeeper$RuleBook", "strikeLast", "()V"⟩, 3) := ⟨⟨by decide +kernel, by decide +kernel⟩, List.mem_of_getElem? (i := 17) (by decide +kernel), List.mem_of_getElem? (i := 115) (by decide +kernel), List.mem_of_getElem? (i := 116) (by decide +kernel)⟩
theorem lw_p6 : lw_okq (⟨"ViewKeeper", "remakeViews", "()V"⟩, 6) := ⟨⟨by decide +kernel, by decide +kernel⟩, List.mem_of_getElem? (i := 9) (by decide +kernel), List.mem_of_getElem? (i := 119) (by decide +kernel), List.mem_of_getElem? (i := 120) (by decide +kernel)⟩
theorem lw_p7 : lw_okq (⟨"ViewKeeper", "fill", "(I)V"⟩, 6) := ⟨⟨by decide +kernel, by decide +kernel⟩, List.mem_of_getElem? (i := 9) (by decide +kernel), List.mem_of_getElem? (i := 123) (by decide +kernel), List.mem_of_getElem? (i := 124) (by decide +kernel)⟩
theorem lw_p8 : lw_okq (⟨"ViewKeeper", "fillOnce", "(I)Z"⟩, 6) := ⟨⟨by decide +kernel, by decide +kernel⟩, List.mem_of_getElem? (i := 9) (by decide +kernel), List.mem_of_getElem? (i := 127) (by decide +kernel), List.mem_of_getElem? (i := 128) (by decide +kernel)⟩
theorem lw_p9 : lw_okq (⟨"ViewKeeper$RuleBook", "layerOf", "(I)I"⟩, 3) := ⟨⟨by decide +kernel, by decide +kernel⟩, List.mem_of_getElem? (i := 17) (by decide +kernel), List.mem_of_getElem? (i := 131) (by decide +kernel), List.mem_of_getElem? (i := 132) (by decide +kernel)⟩
theorem lw_p10 : lw_okq (⟨"ViewKeeper$Rule", "given", "([I)I"⟩, 4) := ⟨⟨by decide +kernel, by decide +kernel⟩, List.mem_of_getElem? (i := 24) (by decide +kernel), List.mem_of_getElem? (i := 141) (by decide +kernel), List.mem_of_getElem? (i := 142) (by decide +kernel)⟩
theorem lw_p11 : lw_okq (⟨"ViewKeeper", "forgetChanges", "()V"⟩, 6) := ⟨⟨by decide +kernel, by decide +kernel⟩, List.mem_of_getElem? (i := 9) (by decide +kernel), List.mem_of_getElem? (i := 160) (by decide +kernel), List.mem_of_getElem? (i := 161) (by decide +kernel)⟩
theorem lw_p12 : lw_okq (⟨"ViewKeeper", "doStaged", "()V"⟩, 6) := ⟨⟨by decide +kernel, by decide +kernel⟩, List.mem_of_getElem? (i := 9) (by decide +kernel), List.mem_of_getElem? (i := 183) (by decide +kernel), List.mem_of_getElem? (i := 184) (by decide +kernel)⟩
theorem lw_p13 : lw_okq (⟨"ViewKeeper", "clearStaged", "()V"⟩, 6) := ⟨⟨by decide +kernel, by decide +kernel⟩, List.mem_of_getElem? (i := 9) (by decide +kernel), List.mem_of_getElem? (i := 187) (by decide +kernel), List.mem_of_getElem? (i := 188) (by decide +kernel)⟩
theorem lw_p14 : lw_okq (⟨"ViewKeeper", "findSuspects", "(I)V"⟩, 6) := ⟨⟨by decide +kernel, by decide +kernel⟩, List.mem_of_getElem? (i := 9) (by decide +kernel), List.mem_of_getElem? (i := 191) (by decide +kernel), List.mem_of_getElem? (i := 192) (by decide +kernel)⟩
theorem lw_p15 : lw_okq (⟨"ViewKeeper", "suspectOnce", "(I)Z"⟩, 6) := ⟨⟨by decide +kernel, by decide +kernel⟩, List.mem_of_getElem? (i := 9) (by decide +kernel), List.mem_of_getElem? (i := 195) (by decide +kernel), List.mem_of_getElem? (i := 196) (by decide +kernel)⟩
def lw_privs_1 : List (MethodName × Nat) := [(⟨"ViewKeeper$RuleBook", "write", "(IIII)V"⟩, 3), (⟨"ViewKeeper$RuleBook", "findNeeded", "()V"⟩, 3), (⟨"ViewKeeper$Rule", "body", "()I"⟩, 4), (⟨"ViewKeeper$RuleBook", "leadsTo", "(II)Z"⟩, 3), (⟨"ViewKeeper$RuleBook", "hasCycle", "()Z"⟩, 3), (⟨"ViewKeeper$RuleBook", "strikeLast", "()V"⟩, 3), (⟨"ViewKeeper", "remakeViews", "()V"⟩, 6), (⟨"ViewKeeper", "fill", "(I)V"⟩, 6), (⟨"ViewKeeper", "fillOnce", "(I)Z"⟩, 6), (⟨"ViewKeeper$RuleBook", "layerOf", "(I)I"⟩, 3), (⟨"ViewKeeper$Rule", "given", "([I)I"⟩, 4), (⟨"ViewKeeper", "forgetChanges", "()V"⟩, 6), (⟨"ViewKeeper", "doStaged", "()V"⟩, 6), (⟨"ViewKeeper", "clearStaged", "()V"⟩, 6), (⟨"ViewKeeper", "findSuspects", "(I)V"⟩, 6), (⟨"ViewKeeper", "suspectOnce", "(I)Z"⟩, 6)]
theorem lw_r1 : ∀ q ∈ lw_privs_1, lw_okq q := List.forall_mem_cons.mpr ⟨lw_p0, List.forall_mem_cons.mpr ⟨lw_p1, List.forall_mem_cons.mpr ⟨lw_p2, List.forall_mem_cons.mpr ⟨lw_p3, List.forall_mem_cons.mpr ⟨lw_p4, List.forall_mem_cons.mpr ⟨lw_p5, List.forall_mem_cons.mpr ⟨lw_p6, List.forall_mem_cons.mpr ⟨lw_p7, List.forall_mem_cons.mpr ⟨lw_p8, List.forall_mem_cons.mpr ⟨lw_p9, List.forall_mem_cons.mpr ⟨lw_p10, List.forall_mem_cons.mpr ⟨lw_p11, List.forall_mem_cons.mpr ⟨lw_p12, List.forall_mem_cons.mpr ⟨lw_p13, List.forall_mem_cons.mpr ⟨lw_p14, List.forall_mem_cons.mpr ⟨lw_p15, fun _ h => absurd h List.not_mem_nil⟩⟩⟩⟩⟩⟩⟩⟩⟩⟩⟩⟩⟩⟩⟩⟩
theorem lw_p16 : lw_okq (⟨"ViewKeeper", "suspectsBy", "(LViewKeeper$Rule;)I"⟩, 6) := ⟨⟨by decide +kernel, by decide +kernel⟩, List.mem_of_getElem? (i := 9) (by decide +kernel), List.mem_of_getElem? (i := 200) (by decide +kernel), List.mem_of_getElem? (i := 201) (by decide +kernel)⟩
theorem lw_p17 : lw_okq (⟨"ViewKeeper", "lostFor", "(II)I"⟩, 6) := ⟨⟨by decide +kernel, by decide +kernel⟩, List.mem_of_getElem? (i := 9) (by decide +kernel), List.mem_of_getElem? (i := 204) (by decide +kernel), List.mem_of_getElem? (i := 205) (by decide +kernel)⟩
theorem lw_p18 : lw_okq (⟨"ViewKeeper", "takenOutOf", "(I)I"⟩, 6) := ⟨⟨by decide +kernel, by decide +kernel⟩, List.mem_of_getElem? (i := 9) (by decide +kernel), List.mem_of_getElem? (i := 208) (by decide +kernel), List.mem_of_getElem? (i := 209) (by decide +kernel)⟩
theorem lw_p19 : lw_okq (⟨"ViewKeeper", "putInto", "(I)I"⟩, 6) := ⟨⟨by decide +kernel, by decide +kernel⟩, List.mem_of_getElem? (i := 9) (by decide +kernel), List.mem_of_getElem? (i := 214) (by decide +kernel), List.mem_of_getElem? (i := 215) (by decide +kernel)⟩
theorem lw_p20 : lw_okq (⟨"ViewKeeper", "takeOutDoubtful", "(I)V"⟩, 6) := ⟨⟨by decide +kernel, by decide +kernel⟩, List.mem_of_getElem? (i := 9) (by decide +kernel), List.mem_of_getElem? (i := 218) (by decide +kernel), List.mem_of_getElem? (i := 219) (by decide +kernel)⟩
theorem lw_p21 : lw_okq (⟨"ViewKeeper$Rule", "instances", "([III)I"⟩, 4) := ⟨⟨by decide +kernel, by decide +kernel⟩, List.mem_of_getElem? (i := 24) (by decide +kernel), List.mem_of_getElem? (i := 235) (by decide +kernel), List.mem_of_getElem? (i := 236) (by decide +kernel)⟩
theorem lw_p22 : lw_okq (⟨"ViewKeeperModel", "findNeeds", "()V"⟩, 12) := ⟨⟨by decide +kernel, by decide +kernel⟩, List.mem_of_getElem? (i := 265) (by decide +kernel), List.mem_of_getElem? (i := 316) (by decide +kernel), List.mem_of_getElem? (i := 317) (by decide +kernel)⟩
theorem lw_p23 : lw_okq (⟨"ViewKeeperModel", "cyclic", "()Z"⟩, 12) := ⟨⟨by decide +kernel, by decide +kernel⟩, List.mem_of_getElem? (i := 265) (by decide +kernel), List.mem_of_getElem? (i := 320) (by decide +kernel), List.mem_of_getElem? (i := 321) (by decide +kernel)⟩
theorem lw_p24 : lw_okq (⟨"ViewKeeperModel", "anew", "()V"⟩, 12) := ⟨⟨by decide +kernel, by decide +kernel⟩, List.mem_of_getElem? (i := 265) (by decide +kernel), List.mem_of_getElem? (i := 324) (by decide +kernel), List.mem_of_getElem? (i := 325) (by decide +kernel)⟩
theorem lw_p25 : lw_okq (⟨"ViewKeeperModel", "makeAll", "()V"⟩, 12) := ⟨⟨by decide +kernel, by decide +kernel⟩, List.mem_of_getElem? (i := 265) (by decide +kernel), List.mem_of_getElem? (i := 328) (by decide +kernel), List.mem_of_getElem? (i := 329) (by decide +kernel)⟩
theorem lw_p26 : lw_okq (⟨"ViewKeeperModel", "due", "(I)Z"⟩, 12) := ⟨⟨by decide +kernel, by decide +kernel⟩, List.mem_of_getElem? (i := 265) (by decide +kernel), List.mem_of_getElem? (i := 332) (by decide +kernel), List.mem_of_getElem? (i := 333) (by decide +kernel)⟩
theorem lw_p27 : lw_okq (⟨"ViewKeeperModel", "together", "(II)Z"⟩, 12) := ⟨⟨by decide +kernel, by decide +kernel⟩, List.mem_of_getElem? (i := 265) (by decide +kernel), List.mem_of_getElem? (i := 336) (by decide +kernel), List.mem_of_getElem? (i := 337) (by decide +kernel)⟩
theorem lw_p28 : lw_okq (⟨"ViewKeeperModel", "make", "(I)V"⟩, 12) := ⟨⟨by decide +kernel, by decide +kernel⟩, List.mem_of_getElem? (i := 265) (by decide +kernel), List.mem_of_getElem? (i := 340) (by decide +kernel), List.mem_of_getElem? (i := 341) (by decide +kernel)⟩
theorem lw_p29 : lw_okq (⟨"ViewKeeperModel", "grow", "(I)Z"⟩, 12) := ⟨⟨by decide +kernel, by decide +kernel⟩, List.mem_of_getElem? (i := 265) (by decide +kernel), List.mem_of_getElem? (i := 344) (by decide +kernel), List.mem_of_getElem? (i := 345) (by decide +kernel)⟩
theorem lw_p30 : lw_okq (⟨"ViewKeeperModel", "instancesOf", "(III)I"⟩, 12) := ⟨⟨by decide +kernel, by decide +kernel⟩, List.mem_of_getElem? (i := 265) (by decide +kernel), List.mem_of_getElem? (i := 348) (by decide +kernel), List.mem_of_getElem? (i := 349) (by decide +kernel)⟩
theorem lw_p31 : lw_okq (⟨"ViewKeeperModel", "instances", "(III)I"⟩, 12) := ⟨⟨by decide +kernel, by decide +kernel⟩, List.mem_of_getElem? (i := 265) (by decide +kernel), List.mem_of_getElem? (i := 352) (by decide +kernel), List.mem_of_getElem? (i := 353) (by decide +kernel)⟩
def lw_privs_2 : List (MethodName × Nat) := [(⟨"ViewKeeper", "suspectsBy", "(LViewKeeper$Rule;)I"⟩, 6), (⟨"ViewKeeper", "lostFor", "(II)I"⟩, 6), (⟨"ViewKeeper", "takenOutOf", "(I)I"⟩, 6), (⟨"ViewKeeper", "putInto", "(I)I"⟩, 6), (⟨"ViewKeeper", "takeOutDoubtful", "(I)V"⟩, 6), (⟨"ViewKeeper$Rule", "instances", "([III)I"⟩, 4), (⟨"ViewKeeperModel", "findNeeds", "()V"⟩, 12), (⟨"ViewKeeperModel", "cyclic", "()Z"⟩, 12), (⟨"ViewKeeperModel", "anew", "()V"⟩, 12), (⟨"ViewKeeperModel", "makeAll", "()V"⟩, 12), (⟨"ViewKeeperModel", "due", "(I)Z"⟩, 12), (⟨"ViewKeeperModel", "together", "(II)Z"⟩, 12), (⟨"ViewKeeperModel", "make", "(I)V"⟩, 12), (⟨"ViewKeeperModel", "grow", "(I)Z"⟩, 12), (⟨"ViewKeeperModel", "instancesOf", "(III)I"⟩, 12), (⟨"ViewKeeperModel", "instances", "(III)I"⟩, 12)]
theorem lw_r2 : ∀ q ∈ lw_privs_2, lw_okq q := List.forall_mem_cons.mpr ⟨lw_p16, List.forall_mem_cons.mpr ⟨lw_p17, List.forall_mem_cons.mpr ⟨lw_p18, List.forall_mem_cons.mpr ⟨lw_p19, List.forall_mem_cons.mpr ⟨lw_p20, List.forall_mem_cons.mpr ⟨lw_p21, List.forall_mem_cons.mpr ⟨lw_p22, List.forall_mem_cons.mpr ⟨lw_p23, List.forall_mem_cons.mpr ⟨lw_p24, List.forall_mem_cons.mpr ⟨lw_p25, List.forall_mem_cons.mpr ⟨lw_p26, List.forall_mem_cons.mpr ⟨lw_p27, List.forall_mem_cons.mpr ⟨lw_p28, List.forall_mem_cons.mpr ⟨lw_p29, List.forall_mem_cons.mpr ⟨lw_p30, List.forall_mem_cons.mpr ⟨lw_p31, fun _ h => absurd h List.not_mem_nil⟩⟩⟩⟩⟩⟩⟩⟩⟩⟩⟩⟩⟩⟩⟩⟩
theorem lw_p32 : lw_okq (⟨"ViewKeeperModel", "suspectMore", "()Z"⟩, 12) := ⟨⟨by decide +kernel, by decide +kernel⟩, List.mem_of_getElem? (i := 265) (by decide +kernel), List.mem_of_getElem? (i := 374) (by decide +kernel), List.mem_of_getElem? (i := 375) (by decide +kernel)⟩
theorem lw_p33 : lw_okq (⟨"ViewKeeperModel", "doubtful", "(III)Z"⟩, 12) := ⟨⟨by decide +kernel, by decide +kernel⟩, List.mem_of_getElem? (i := 265) (by decide +kernel), List.mem_of_getElem? (i := 378) (by decide +kernel), List.mem_of_getElem? (i := 379) (by decide +kernel)⟩
theorem lw_p34 : lw_okq (⟨"ViewKeeperModel", "lost", "(IIII)Z"⟩, 12) := ⟨⟨by decide +kernel, by decide +kernel⟩, List.mem_of_getElem? (i := 265) (by decide +kernel), List.mem_of_getElem? (i := 382) (by decide +kernel), List.mem_of_getElem? (i := 383) (by decide +kernel)⟩
theorem lw_p35 : lw_okq (⟨"ViewKeeperModel", "taken", "(I)I"⟩, 12) := ⟨⟨by decide +kernel, by decide +kernel⟩, List.mem_of_getElem? (i := 265) (by decide +kernel), List.mem_of_getElem? (i := 386) (by decide +kernel), List.mem_of_getElem? (i := 387) (by decide +kernel)⟩
theorem lw_p36 : lw_okq (⟨"ViewKeeperModel", "added", "(I)I"⟩, 12) := ⟨⟨by decide +kernel, by decide +kernel⟩, List.mem_of_getElem? (i := 265) (by decide +kernel), List.mem_of_getElem? (i := 390) (by decide +kernel), List.mem_of_getElem? (i := 391) (by decide +kernel)⟩
def lw_privs_3 : List (MethodName × Nat) := [(⟨"ViewKeeperModel", "suspectMore", "()Z"⟩, 12), (⟨"ViewKeeperModel", "doubtful", "(III)Z"⟩, 12), (⟨"ViewKeeperModel", "lost", "(IIII)Z"⟩, 12), (⟨"ViewKeeperModel", "taken", "(I)I"⟩, 12), (⟨"ViewKeeperModel", "added", "(I)I"⟩, 12)]
theorem lw_r3 : ∀ q ∈ lw_privs_3, lw_okq q := List.forall_mem_cons.mpr ⟨lw_p32, List.forall_mem_cons.mpr ⟨lw_p33, List.forall_mem_cons.mpr ⟨lw_p34, List.forall_mem_cons.mpr ⟨lw_p35, List.forall_mem_cons.mpr ⟨lw_p36, fun _ h => absurd h List.not_mem_nil⟩⟩⟩⟩⟩
def lw_privs : List (MethodName × Nat) := lw_privs_1 ++ (lw_privs_2 ++ (lw_privs_3))
def lw_tbl : List Cond := k2_sels lw_privs ++ tables_1
theorem lw_privs_ok : ∀ q ∈ lw_privs, lw_okq q := by
  show ∀ q ∈ lw_privs_1 ++ (lw_privs_2 ++ (lw_privs_3)), lw_okq q
  exact List.forall_mem_append.mpr ⟨lw_r1, List.forall_mem_append.mpr ⟨lw_r2, lw_r3⟩⟩
-- ===== end of PART A; then your names; then what follows =====
end
section
/-! ===== BEGIN words of one list among another's, by their places ===== -/
theorem goodIn_r {big : List Cond} (ws : List Cond) (ps : List Nat) (hp : ws = ps.filterMap (fun i => big[i]?)) (h : ws.all goodWord = true) : GoodIn big ws := by
  intro w hw
  have h1 := List.all_eq_true.mp h w hw
  rw [hp] at hw
  obtain ⟨i, -, hi⟩ := List.mem_filterMap.mp hw
  have hm : w ∈ big := by first | exact List.mem_of_getElem? hi | exact List.getElem?_mem hi
  exact ⟨hm, good_of_word h1⟩
theorem goodIn_app {big a b : List Cond} (ha : GoodIn big a) (hb : GoodIn big b) : GoodIn big (a ++ b) := fun w h => (List.mem_append.mp h).elim (ha w) (hb w)
theorem goodIn_ca {big a b : List Cond} {c : Cond} (ha : GoodIn big (c :: a)) (hb : GoodIn big b) : GoodIn big (c :: (a ++ b)) := fun w h => (List.mem_cons.mp h).elim (fun e => ha w (List.mem_cons.mpr (Or.inl e))) (fun h => (List.mem_append.mp h).elim (fun h => ha w (List.mem_cons.mpr (Or.inr h))) (hb w))
theorem goodIn_sub {big ws : List Cond} (hm : ∀ w ∈ ws, w ∈ big) (h : ws.all goodWord = true) : GoodIn big ws := fun w hw => ⟨hm w hw, good_of_word (List.all_eq_true.mp h w hw)⟩
/-! ===== END ===== -/

/-! ===== BEGIN printed: names, fields, word lists, decode rows ===== -/
def RX0 : String := "ViewKeeper$Rule"
def TX0 : u_T := fun k => match k with
  | 0 => ("ViewKeeper$Rule", "head", "I", false)
  | 1 => ("ViewKeeper$Rule", "form", "I", false)
  | 2 => ("ViewKeeper$Rule", "p", "I", false)
  | _ => ("ViewKeeper$Rule", "q", "I", false)
def tyX0 : Nat → FieldType := fun k => match k with
  | 0 => .int
  | 1 => .int
  | 2 => .int
  | _ => .int
abbrev wsX00 : List Cond := u_ws RX0 TX0 4
theorem nmX0 : ∀ a, a < 4 → ∀ b, b < 4 → a ≠ b → (TX0 a).2.1 ≠ (TX0 b).2.1 := by decide +kernel
theorem tyX0_ok : ∀ k, k < 4 → parseFieldDescriptor (TX0 k).2.2.1 = some (tyX0 k) := by decide +kernel
abbrev cX0_init : ByteArray := prog_2_method_1_code
def yX0_init : MethodName := ⟨RX0, "<init>", "()V"⟩
abbrev cX0_body : ByteArray := prog_2_method_2_code
def yX0_body : MethodName := ⟨RX0, "body", "()I"⟩
abbrev cX0_given : ByteArray := prog_2_method_3_code
def yX0_given : MethodName := ⟨RX0, "given", "([I)I"⟩
abbrev cX0_instances : ByteArray := prog_2_method_4_code
def yX0_instances : MethodName := ⟨RX0, "instances", "([III)I"⟩
def RX1 : String := "ViewKeeper$RuleBook"
def TX1 : u_T := fun k => match k with
  | 0 => ("ViewKeeper$RuleBook", "rows", "[LViewKeeper$Rule;", true)
  | 1 => ("ViewKeeper$RuleBook", "needed", "[I", true)
  | _ => ("ViewKeeper$RuleBook", "made", "I", false)
def tyX1 : Nat → FieldType := fun k => match k with
  | 0 => .array (.object "ViewKeeper$Rule")
  | 1 => .array .int
  | _ => .int
abbrev wsX10 : List Cond := u_ws RX1 TX1 3
theorem nmX1 : ∀ a, a < 3 → ∀ b, b < 3 → a ≠ b → (TX1 a).2.1 ≠ (TX1 b).2.1 := by decide +kernel
theorem tyX1_ok : ∀ k, k < 3 → parseFieldDescriptor (TX1 k).2.2.1 = some (tyX1 k) := by decide +kernel
abbrev cX1_init : ByteArray := prog_3_method_1_code
def yX1_init : MethodName := ⟨RX1, "<init>", "()V"⟩
abbrev cX1_write : ByteArray := prog_3_method_2_code
def yX1_write : MethodName := ⟨RX1, "write", "(IIII)V"⟩
abbrev cX1_strikeLast : ByteArray := prog_3_method_3_code
def yX1_strikeLast : MethodName := ⟨RX1, "strikeLast", "()V"⟩
abbrev cX1_findNeeded : ByteArray := prog_3_method_4_code
def yX1_findNeeded : MethodName := ⟨RX1, "findNeeded", "()V"⟩
abbrev cX1_leadsTo : ByteArray := prog_3_method_5_code
def yX1_leadsTo : MethodName := ⟨RX1, "leadsTo", "(II)Z"⟩
abbrev cX1_hasCycle : ByteArray := prog_3_method_6_code
def yX1_hasCycle : MethodName := ⟨RX1, "hasCycle", "()Z"⟩
abbrev cX1_layerOf : ByteArray := prog_3_method_7_code
def yX1_layerOf : MethodName := ⟨RX1, "layerOf", "(I)I"⟩
def RX2 : String := "ViewKeeper"
def TX2 : u_T := fun k => match k with
  | 0 => ("ViewKeeper", "book", "LViewKeeper$RuleBook;", true)
  | 1 => ("ViewKeeper", "now", "[I", true)
  | 2 => ("ViewKeeper", "before", "[I", true)
  | 3 => ("ViewKeeper", "suspects", "[I", true)
  | 4 => ("ViewKeeper", "stagedIn", "[I", true)
  | _ => ("ViewKeeper", "stagedOut", "[I", true)
def tyX2 : Nat → FieldType := fun k => match k with
  | 0 => .object "ViewKeeper$RuleBook"
  | 1 => .array .int
  | 2 => .array .int
  | 3 => .array .int
  | 4 => .array .int
  | _ => .array .int
abbrev wsX20 : List Cond := u_ws RX2 TX2 6
theorem nmX2 : ∀ a, a < 6 → ∀ b, b < 6 → a ≠ b → (TX2 a).2.1 ≠ (TX2 b).2.1 := by decide +kernel
theorem tyX2_ok : ∀ k, k < 6 → parseFieldDescriptor (TX2 k).2.2.1 = some (tyX2 k) := by decide +kernel
abbrev cX2_init : ByteArray := prog_1_method_1_code
def yX2_init : MethodName := ⟨RX2, "<init>", "()V"⟩
abbrev cX2_rule : ByteArray := prog_1_method_2_code
def yX2_rule : MethodName := ⟨RX2, "rule", "(IIII)I"⟩
abbrev cX2_undo : ByteArray := prog_1_method_3_code
def yX2_undo : MethodName := ⟨RX2, "undo", "()I"⟩
abbrev cX2_stage : ByteArray := prog_1_method_4_code
def yX2_stage : MethodName := ⟨RX2, "stage", "(IIIZ)Z"⟩
abbrev cX2_commit : ByteArray := prog_1_method_5_code
def yX2_commit : MethodName := ⟨RX2, "commit", "()I"⟩
abbrev cX2_abort : ByteArray := prog_1_method_6_code
def yX2_abort : MethodName := ⟨RX2, "abort", "()I"⟩
abbrev cX2_has : ByteArray := prog_1_method_7_code
def yX2_has : MethodName := ⟨RX2, "has", "(III)Z"⟩
abbrev cX2_count : ByteArray := prog_1_method_8_code
def yX2_count : MethodName := ⟨RX2, "count", "(III)I"⟩
abbrev cX2_size : ByteArray := prog_1_method_9_code
def yX2_size : MethodName := ⟨RX2, "size", "(I)I"⟩
abbrev cX2_recursive : ByteArray := prog_1_method_10_code
def yX2_recursive : MethodName := ⟨RX2, "recursive", "(I)Z"⟩
abbrev cX2_needs : ByteArray := prog_1_method_11_code
def yX2_needs : MethodName := ⟨RX2, "needs", "(II)Z"⟩
abbrev cX2_rules : ByteArray := prog_1_method_12_code
def yX2_rules : MethodName := ⟨RX2, "rules", "()I"⟩
abbrev cX2_changed : ByteArray := prog_1_method_13_code
def yX2_changed : MethodName := ⟨RX2, "changed", "(II)I"⟩
abbrev cX2_suspect : ByteArray := prog_1_method_14_code
def yX2_suspect : MethodName := ⟨RX2, "suspect", "(III)Z"⟩
abbrev cX2_isRelation : ByteArray := prog_1_method_15_code
def yX2_isRelation : MethodName := ⟨RX2, "isRelation", "(I)Z"⟩
abbrev cX2_isView : ByteArray := prog_1_method_16_code
def yX2_isView : MethodName := ⟨RX2, "isView", "(I)Z"⟩
abbrev cX2_isThing : ByteArray := prog_1_method_17_code
def yX2_isThing : MethodName := ⟨RX2, "isThing", "(I)Z"⟩
abbrev cX2_bit : ByteArray := prog_1_method_18_code
def yX2_bit : MethodName := ⟨RX2, "bit", "(II)I"⟩
abbrev cX2_holds : ByteArray := prog_1_method_19_code
def yX2_holds : MethodName := ⟨RX2, "holds", "(III)Z"⟩
abbrev cX2_row : ByteArray := prog_1_method_20_code
def yX2_row : MethodName := ⟨RX2, "row", "(II)I"⟩
abbrev cX2_turned : ByteArray := prog_1_method_21_code
def yX2_turned : MethodName := ⟨RX2, "turned", "(I)I"⟩
abbrev cX2_joined : ByteArray := prog_1_method_22_code
def yX2_joined : MethodName := ⟨RX2, "joined", "(II)I"⟩
abbrev cX2_remakeViews : ByteArray := prog_1_method_23_code
def yX2_remakeViews : MethodName := ⟨RX2, "remakeViews", "()V"⟩
abbrev cX2_forgetChanges : ByteArray := prog_1_method_24_code
def yX2_forgetChanges : MethodName := ⟨RX2, "forgetChanges", "()V"⟩
abbrev cX2_doStaged : ByteArray := prog_1_method_25_code
def yX2_doStaged : MethodName := ⟨RX2, "doStaged", "()V"⟩
abbrev cX2_clearStaged : ByteArray := prog_1_method_26_code
def yX2_clearStaged : MethodName := ⟨RX2, "clearStaged", "()V"⟩
abbrev cX2_putInto : ByteArray := prog_1_method_27_code
def yX2_putInto : MethodName := ⟨RX2, "putInto", "(I)I"⟩
abbrev cX2_takenOutOf : ByteArray := prog_1_method_28_code
def yX2_takenOutOf : MethodName := ⟨RX2, "takenOutOf", "(I)I"⟩
abbrev cX2_findSuspects : ByteArray := prog_1_method_29_code
def yX2_findSuspects : MethodName := ⟨RX2, "findSuspects", "(I)V"⟩
abbrev cX2_suspectOnce : ByteArray := prog_1_method_30_code
def yX2_suspectOnce : MethodName := ⟨RX2, "suspectOnce", "(I)Z"⟩
abbrev cX2_suspectsBy : ByteArray := prog_1_method_31_code
def yX2_suspectsBy : MethodName := ⟨RX2, "suspectsBy", "(LViewKeeper$Rule;)I"⟩
abbrev cX2_lostFor : ByteArray := prog_1_method_32_code
def yX2_lostFor : MethodName := ⟨RX2, "lostFor", "(II)I"⟩
abbrev cX2_takeOutDoubtful : ByteArray := prog_1_method_33_code
def yX2_takeOutDoubtful : MethodName := ⟨RX2, "takeOutDoubtful", "(I)V"⟩
abbrev cX2_fill : ByteArray := prog_1_method_34_code
def yX2_fill : MethodName := ⟨RX2, "fill", "(I)V"⟩
abbrev cX2_fillOnce : ByteArray := prog_1_method_35_code
def yX2_fillOnce : MethodName := ⟨RX2, "fillOnce", "(I)Z"⟩
def RX3 : String := "ViewKeeperModel"
def TX3 : u_T := fun k => match k with
  | 0 => ("ViewKeeperModel", "count", "I", false)
  | 1 => ("ViewKeeperModel", "heads", "[I", false)
  | 2 => ("ViewKeeperModel", "forms", "[I", false)
  | 3 => ("ViewKeeperModel", "first", "[I", false)
  | 4 => ("ViewKeeperModel", "second", "[I", false)
  | 5 => ("ViewKeeperModel", "now", "[I", false)
  | 6 => ("ViewKeeperModel", "before", "[I", false)
  | 7 => ("ViewKeeperModel", "doubt", "[I", false)
  | 8 => ("ViewKeeperModel", "staged", "[I", false)
  | 9 => ("ViewKeeperModel", "wanted", "[I", false)
  | 10 => ("ViewKeeperModel", "need", "[Z", false)
  | _ => ("ViewKeeperModel", "done", "[Z", false)
def tyX3 : Nat → FieldType := fun k => match k with
  | 0 => .int
  | 1 => .array .int
  | 2 => .array .int
  | 3 => .array .int
  | 4 => .array .int
  | 5 => .array .int
  | 6 => .array .int
  | 7 => .array .int
  | 8 => .array .int
  | 9 => .array .int
  | 10 => .array .boolean
  | _ => .array .boolean
abbrev wsX30 : List Cond := u_ws RX3 TX3 12
theorem nmX3 : ∀ a, a < 12 → ∀ b, b < 12 → a ≠ b → (TX3 a).2.1 ≠ (TX3 b).2.1 := by decide +kernel
theorem tyX3_ok : ∀ k, k < 12 → parseFieldDescriptor (TX3 k).2.2.1 = some (tyX3 k) := by decide +kernel
abbrev cX3_init : ByteArray := prog_5_method_1_code
def yX3_init : MethodName := ⟨RX3, "<init>", "()V"⟩
abbrev cX3_within : ByteArray := prog_5_method_2_code
def yX3_within : MethodName := ⟨RX3, "within", "(III)Z"⟩
abbrev cX3_bit : ByteArray := prog_5_method_3_code
def yX3_bit : MethodName := ⟨RX3, "bit", "(II)I"⟩
abbrev cX3_ones : ByteArray := prog_5_method_4_code
def yX3_ones : MethodName := ⟨RX3, "ones", "(I)I"⟩
abbrev cX3_in : ByteArray := prog_5_method_5_code
def yX3_in : MethodName := ⟨RX3, "in", "(III)Z"⟩
abbrev cX3_findNeeds : ByteArray := prog_5_method_6_code
def yX3_findNeeds : MethodName := ⟨RX3, "findNeeds", "()V"⟩
abbrev cX3_cyclic : ByteArray := prog_5_method_7_code
def yX3_cyclic : MethodName := ⟨RX3, "cyclic", "()Z"⟩
abbrev cX3_instances : ByteArray := prog_5_method_8_code
def yX3_instances : MethodName := ⟨RX3, "instances", "(III)I"⟩
abbrev cX3_instancesOf : ByteArray := prog_5_method_9_code
def yX3_instancesOf : MethodName := ⟨RX3, "instancesOf", "(III)I"⟩
abbrev cX3_grow : ByteArray := prog_5_method_10_code
def yX3_grow : MethodName := ⟨RX3, "grow", "(I)Z"⟩
abbrev cX3_together : ByteArray := prog_5_method_11_code
def yX3_together : MethodName := ⟨RX3, "together", "(II)Z"⟩
abbrev cX3_due : ByteArray := prog_5_method_12_code
def yX3_due : MethodName := ⟨RX3, "due", "(I)Z"⟩
abbrev cX3_make : ByteArray := prog_5_method_13_code
def yX3_make : MethodName := ⟨RX3, "make", "(I)V"⟩
abbrev cX3_makeAll : ByteArray := prog_5_method_14_code
def yX3_makeAll : MethodName := ⟨RX3, "makeAll", "()V"⟩
abbrev cX3_anew : ByteArray := prog_5_method_15_code
def yX3_anew : MethodName := ⟨RX3, "anew", "()V"⟩
abbrev cX3_rule : ByteArray := prog_5_method_16_code
def yX3_rule : MethodName := ⟨RX3, "rule", "(IIII)I"⟩
abbrev cX3_undo : ByteArray := prog_5_method_17_code
def yX3_undo : MethodName := ⟨RX3, "undo", "()I"⟩
abbrev cX3_stage : ByteArray := prog_5_method_18_code
def yX3_stage : MethodName := ⟨RX3, "stage", "(IIIZ)Z"⟩
abbrev cX3_taken : ByteArray := prog_5_method_19_code
def yX3_taken : MethodName := ⟨RX3, "taken", "(I)I"⟩
abbrev cX3_added : ByteArray := prog_5_method_20_code
def yX3_added : MethodName := ⟨RX3, "added", "(I)I"⟩
abbrev cX3_lost : ByteArray := prog_5_method_21_code
def yX3_lost : MethodName := ⟨RX3, "lost", "(IIII)Z"⟩
abbrev cX3_doubtful : ByteArray := prog_5_method_22_code
def yX3_doubtful : MethodName := ⟨RX3, "doubtful", "(III)Z"⟩
abbrev cX3_suspectMore : ByteArray := prog_5_method_23_code
def yX3_suspectMore : MethodName := ⟨RX3, "suspectMore", "()Z"⟩
abbrev cX3_commit : ByteArray := prog_5_method_24_code
def yX3_commit : MethodName := ⟨RX3, "commit", "()I"⟩
abbrev cX3_abort : ByteArray := prog_5_method_25_code
def yX3_abort : MethodName := ⟨RX3, "abort", "()I"⟩
abbrev cX3_isPair : ByteArray := prog_5_method_26_code
def yX3_isPair : MethodName := ⟨RX3, "isPair", "(III)Z"⟩
abbrev cX3_has : ByteArray := prog_5_method_27_code
def yX3_has : MethodName := ⟨RX3, "has", "(III)Z"⟩
abbrev cX3_count : ByteArray := prog_5_method_28_code
def yX3_count : MethodName := ⟨RX3, "count", "(III)I"⟩
abbrev cX3_size : ByteArray := prog_5_method_29_code
def yX3_size : MethodName := ⟨RX3, "size", "(I)I"⟩
abbrev cX3_recursive : ByteArray := prog_5_method_30_code
def yX3_recursive : MethodName := ⟨RX3, "recursive", "(I)Z"⟩
abbrev cX3_needs : ByteArray := prog_5_method_31_code
def yX3_needs : MethodName := ⟨RX3, "needs", "(II)Z"⟩
abbrev cX3_rules : ByteArray := prog_5_method_32_code
def yX3_rules : MethodName := ⟨RX3, "rules", "()I"⟩
abbrev cX3_changed : ByteArray := prog_5_method_33_code
def yX3_changed : MethodName := ⟨RX3, "changed", "(II)I"⟩
abbrev cX3_suspect : ByteArray := prog_5_method_34_code
def yX3_suspect : MethodName := ⟨RX3, "suspect", "(III)Z"⟩
def RJ6 : String := "java/lang/Integer"
def TJ6 : u_T := fun k => match k with
  | _ => ("", "", "", false)
def tyJ6 : Nat → FieldType := fun k => match k with
  | _ => .int
abbrev wsJ60 : List Cond := u_ws RJ6 TJ6 0
theorem nmJ6 : ∀ a, a < 0 → ∀ b, b < 0 → a ≠ b → (TJ6 a).2.1 ≠ (TJ6 b).2.1 := by decide +kernel
theorem tyJ6_ok : ∀ k, k < 0 → parseFieldDescriptor (TJ6 k).2.2.1 = some (tyJ6 k) := by decide +kernel
abbrev cJ6_bitCount_0f7a4 : ByteArray := prog_6_method_49_code
def yJ6_bitCount_0f7a4 : MethodName := ⟨RJ6, "bitCount", "(I)I"⟩
def RJ10 : String := "java/lang/System"
def TJ10 : u_T := fun k => match k with
  | _ => ("", "", "", false)
def tyJ10 : Nat → FieldType := fun k => match k with
  | _ => .int
abbrev wsJ100 : List Cond := u_ws RJ10 TJ10 0
theorem nmJ10 : ∀ a, a < 0 → ∀ b, b < 0 → a ≠ b → (TJ10 a).2.1 ≠ (TJ10 b).2.1 := by decide +kernel
theorem tyJ10_ok : ∀ k, k < 0 → parseFieldDescriptor (TJ10 k).2.2.1 = some (tyJ10 k) := by decide +kernel
def RJ7 : String := "java/util/Arrays"
def TJ7 : u_T := fun k => match k with
  | _ => ("", "", "", false)
def tyJ7 : Nat → FieldType := fun k => match k with
  | _ => .int
abbrev wsJ70 : List Cond := u_ws RJ7 TJ7 0
theorem nmJ7 : ∀ a, a < 0 → ∀ b, b < 0 → a ≠ b → (TJ7 a).2.1 ≠ (TJ7 b).2.1 := by decide +kernel
theorem tyJ7_ok : ∀ k, k < 0 → parseFieldDescriptor (TJ7 k).2.2.1 = some (tyJ7 k) := by decide +kernel
abbrev cJ7_fill_53178 : ByteArray := prog_8_method_103_code
def yJ7_fill_53178 : MethodName := ⟨RJ7, "fill", "([II)V"⟩
def RL : String := "ViewKeeperLaw"
abbrev cL_law : ByteArray := code
def yL_law : MethodName := ⟨RL, "law", "([I)Z"⟩
def wsX0_init : List Cond := .code yX0_init cX0_init 1 none :: ([.methodLink RX0 3 objectInit, .instanceMethod objectInit, .code objectInit ⟨#[0xb1]⟩ 1 none])
def wsX0_body : List Cond := .code yX0_body cX0_body 1 (some .int) :: ([.fieldLink RX0 9 "ViewKeeper$Rule" "form" "I", .fieldLink RX0 15 "ViewKeeper$Rule" "p" "I", .fieldLink RX0 18 "ViewKeeper$Rule" "q" "I"] ++ wsX00)
def wsX2_holds : List Cond := .code yX2_holds cX2_holds 3 (some .boolean) :: ([])
def wsX2_bit : List Cond := .code yX2_bit cX2_bit 2 (some .int) :: ([])
def wsX2_turned : List Cond := .code yX2_turned cX2_turned 4 (some .int) :: ([.methodLink RX2 95 yX2_holds, .static yX2_holds, .initialized RX2, .code yX2_holds cX2_holds 3 (some .boolean), .methodLink RX2 60 yX2_bit, .static yX2_bit, .code yX2_bit cX2_bit 2 (some .int)])
def wsX2_row : List Cond := .code yX2_row cX2_row 2 (some .int) :: ([])
def wsX2_joined : List Cond := .code yX2_joined cX2_joined 5 (some .int) :: ([.methodLink RX2 95 yX2_holds, .static yX2_holds, .initialized RX2, .code yX2_holds cX2_holds 3 (some .boolean), .methodLink RX2 116 yX2_row, .static yX2_row, .code yX2_row cX2_row 2 (some .int)])
def wsX0_given : List Cond := .code yX0_given cX0_given 2 (some .int) :: ([.fieldLink RX0 9 "ViewKeeper$Rule" "form" "I", .fieldLink RX0 15 "ViewKeeper$Rule" "p" "I", .fieldLink RX0 18 "ViewKeeper$Rule" "q" "I", .static yX2_turned, .initialized RX2, .code yX2_turned cX2_turned 4 (some .int), .methodLink RX2 95 yX2_holds, .static yX2_holds, .code yX2_holds cX2_holds 3 (some .boolean), .methodLink RX2 60 yX2_bit, .static yX2_bit, .code yX2_bit cX2_bit 2 (some .int), .static yX2_joined, .code yX2_joined cX2_joined 5 (some .int), .methodLink RX2 116 yX2_row, .static yX2_row, .code yX2_row cX2_row 2 (some .int)] ++ wsX00)
def wsX0_instances : List Cond := .code yX0_instances cX0_instances 6 (some .int) :: ([.fieldLink RX0 9 "ViewKeeper$Rule" "form" "I", .fieldLink RX0 15 "ViewKeeper$Rule" "p" "I", .fieldLink RX0 18 "ViewKeeper$Rule" "q" "I", .methodLink RX0 29 yX0_given, .instanceMethod yX0_given, .selects RX0 yX0_given yX0_given, .initialized RX0, .code yX0_given cX0_given 2 (some .int), .static yX2_turned, .initialized RX2, .code yX2_turned cX2_turned 4 (some .int), .methodLink RX2 95 yX2_holds, .static yX2_holds, .code yX2_holds cX2_holds 3 (some .boolean), .methodLink RX2 60 yX2_bit, .static yX2_bit, .code yX2_bit cX2_bit 2 (some .int), .static yX2_joined, .code yX2_joined cX2_joined 5 (some .int), .methodLink RX2 116 yX2_row, .static yX2_row, .code yX2_row cX2_row 2 (some .int)] ++ wsX00)
def wsX1_init : List Cond := .code yX1_init cX1_init 2 none :: ([.methodLink RX1 3 objectInit, .instanceMethod objectInit, .code objectInit ⟨#[0xb1]⟩ 1 none, .classLink RX1 9 RX0, .fieldLink RX1 11 "ViewKeeper$RuleBook" "rows" "[LViewKeeper$Rule;", .instantiable RX0 4, .initialized RX0, .arrayClass .int, .fieldLink RX1 18 "ViewKeeper$RuleBook" "needed" "[I", .fieldLink RX1 22 "ViewKeeper$RuleBook" "made" "I", .instanceMethod yX0_init, .code yX0_init cX0_init 1 none, .methodLink RX0 3 objectInit] ++ wsX10 ++ wsX00)
def wsJ7_fill_53178 : List Cond := .code yJ7_fill_53178 cJ7_fill_53178 4 none :: ([])
def wsX1_leadsTo : List Cond := .code yX1_leadsTo cX1_leadsTo 3 (some .boolean) :: ([.fieldLink RX1 18 "ViewKeeper$RuleBook" "needed" "[I"] ++ wsX10)
def wsX1_findNeeded : List Cond := .code yX1_findNeeded cX1_findNeeded 3 none :: ([.fieldLink RX1 18 "ViewKeeper$RuleBook" "needed" "[I", .fieldLink RX1 22 "ViewKeeper$RuleBook" "made" "I", .fieldLink RX1 11 "ViewKeeper$RuleBook" "rows" "[LViewKeeper$Rule;", .methodLink RX1 41 yJ7_fill_53178, .static yJ7_fill_53178, .initialized RJ7, .code yJ7_fill_53178 cJ7_fill_53178 4 none, .instanceMethod yX0_body, .initialized RX0, .selects RX0 yX0_body yX0_body, .code yX0_body cX0_body 1 (some .int), .fieldLink RX0 9 "ViewKeeper$Rule" "form" "I", .fieldLink RX0 15 "ViewKeeper$Rule" "p" "I", .fieldLink RX0 18 "ViewKeeper$Rule" "q" "I", .methodLink RX1 51 yX1_leadsTo, .instanceMethod yX1_leadsTo, .selects RX1 yX1_leadsTo yX1_leadsTo, .initialized RX1, .code yX1_leadsTo cX1_leadsTo 3 (some .boolean)] ++ wsX10 ++ wsX00)
def wsX1_write : List Cond := .code yX1_write cX1_write 6 none :: ([.fieldLink RX1 11 "ViewKeeper$RuleBook" "rows" "[LViewKeeper$Rule;", .fieldLink RX1 22 "ViewKeeper$RuleBook" "made" "I", .methodLink RX1 38 yX1_findNeeded, .instanceMethod yX1_findNeeded, .selects RX1 yX1_findNeeded yX1_findNeeded, .initialized RX1, .code yX1_findNeeded cX1_findNeeded 3 none, .fieldLink RX1 18 "ViewKeeper$RuleBook" "needed" "[I", .methodLink RX1 41 yJ7_fill_53178, .static yJ7_fill_53178, .initialized RJ7, .code yJ7_fill_53178 cJ7_fill_53178 4 none, .instanceMethod yX0_body, .initialized RX0, .selects RX0 yX0_body yX0_body, .code yX0_body cX0_body 1 (some .int), .fieldLink RX0 9 "ViewKeeper$Rule" "form" "I", .fieldLink RX0 15 "ViewKeeper$Rule" "p" "I", .fieldLink RX0 18 "ViewKeeper$Rule" "q" "I", .methodLink RX1 51 yX1_leadsTo, .instanceMethod yX1_leadsTo, .selects RX1 yX1_leadsTo yX1_leadsTo, .code yX1_leadsTo cX1_leadsTo 3 (some .boolean)] ++ wsX10 ++ wsX00)
def wsX1_strikeLast : List Cond := .code yX1_strikeLast cX1_strikeLast 1 none :: ([.fieldLink RX1 22 "ViewKeeper$RuleBook" "made" "I", .methodLink RX1 38 yX1_findNeeded, .instanceMethod yX1_findNeeded, .selects RX1 yX1_findNeeded yX1_findNeeded, .initialized RX1, .code yX1_findNeeded cX1_findNeeded 3 none, .fieldLink RX1 18 "ViewKeeper$RuleBook" "needed" "[I", .fieldLink RX1 11 "ViewKeeper$RuleBook" "rows" "[LViewKeeper$Rule;", .methodLink RX1 41 yJ7_fill_53178, .static yJ7_fill_53178, .initialized RJ7, .code yJ7_fill_53178 cJ7_fill_53178 4 none, .instanceMethod yX0_body, .initialized RX0, .selects RX0 yX0_body yX0_body, .code yX0_body cX0_body 1 (some .int), .fieldLink RX0 9 "ViewKeeper$Rule" "form" "I", .fieldLink RX0 15 "ViewKeeper$Rule" "p" "I", .fieldLink RX0 18 "ViewKeeper$Rule" "q" "I", .methodLink RX1 51 yX1_leadsTo, .instanceMethod yX1_leadsTo, .selects RX1 yX1_leadsTo yX1_leadsTo, .code yX1_leadsTo cX1_leadsTo 3 (some .boolean)] ++ wsX10 ++ wsX00)
def wsX1_hasCycle : List Cond := .code yX1_hasCycle cX1_hasCycle 3 (some .boolean) :: ([.fieldLink RX1 22 "ViewKeeper$RuleBook" "made" "I", .fieldLink RX1 11 "ViewKeeper$RuleBook" "rows" "[LViewKeeper$Rule;", .methodLink RX1 51 yX1_leadsTo, .instanceMethod yX1_leadsTo, .selects RX1 yX1_leadsTo yX1_leadsTo, .initialized RX1, .code yX1_leadsTo cX1_leadsTo 3 (some .boolean), .fieldLink RX1 18 "ViewKeeper$RuleBook" "needed" "[I"] ++ wsX10 ++ wsX00)
def wsJ6_bitCount_0f7a4 : List Cond := .code yJ6_bitCount_0f7a4 cJ6_bitCount_0f7a4 1 (some .int) :: ([.constant RJ6 265 (1431655765), .constant RJ6 266 (858993459), .constant RJ6 267 (252645135)])
def wsX1_layerOf : List Cond := .code yX1_layerOf cX1_layerOf 2 (some .int) :: ([.fieldLink RX1 18 "ViewKeeper$RuleBook" "needed" "[I", .methodLink RX1 55 yJ6_bitCount_0f7a4, .static yJ6_bitCount_0f7a4, .initialized RJ6, .code yJ6_bitCount_0f7a4 cJ6_bitCount_0f7a4 1 (some .int), .constant RJ6 265 (1431655765), .constant RJ6 266 (858993459), .constant RJ6 267 (252645135)] ++ wsX10)
def wsX2_init_r1 : List Cond := [Cond.methodLink RX2 1 objectInit, Cond.instanceMethod objectInit, Cond.code objectInit ⟨#[0xb1]⟩ 1 none, Cond.classLink RX2 7 RX1, Cond.instantiable RX1 3, Cond.initialized RX1, Cond.fieldLink RX2 10 "ViewKeeper" "book" "LViewKeeper$RuleBook;", Cond.arrayClass .int, Cond.fieldLink RX2 16 "ViewKeeper" "now" "[I", Cond.fieldLink RX2 20 "ViewKeeper" "before" "[I", Cond.fieldLink RX2 23 "ViewKeeper" "suspects" "[I", Cond.fieldLink RX2 26 "ViewKeeper" "stagedIn" "[I", Cond.fieldLink RX2 29 "ViewKeeper" "stagedOut" "[I", Cond.instanceMethod yX1_init, Cond.code yX1_init cX1_init 2 none, Cond.methodLink RX1 3 objectInit, Cond.classLink RX1 9 RX0, Cond.fieldLink RX1 11 "ViewKeeper$RuleBook" "rows" "[LViewKeeper$Rule;", Cond.instantiable RX0 4, Cond.initialized RX0, Cond.fieldLink RX1 18 "ViewKeeper$RuleBook" "needed" "[I", Cond.fieldLink RX1 22 "ViewKeeper$RuleBook" "made" "I", Cond.instanceMethod yX0_init, Cond.code yX0_init cX0_init 1 none]
def wsX2_init_r2 : List Cond := [Cond.methodLink RX0 3 objectInit]
def wsX2_init : List Cond := .code yX2_init cX2_init 1 none :: ((wsX2_init_r1 ++ wsX2_init_r2) ++ wsX10 ++ wsX20 ++ wsX00)
def wsX2_isView : List Cond := .code yX2_isView cX2_isView 1 (some .boolean) :: ([])
def wsX2_isRelation : List Cond := .code yX2_isRelation cX2_isRelation 1 (some .boolean) :: ([])
def wsX2_fillOnce_r1 : List Cond := [Cond.fieldLink RX2 10 "ViewKeeper" "book" "LViewKeeper$RuleBook;", Cond.fieldLink RX2 16 "ViewKeeper" "now" "[I", Cond.instanceMethod yX1_layerOf, Cond.initialized RX1, Cond.selects RX1 yX1_layerOf yX1_layerOf, Cond.code yX1_layerOf cX1_layerOf 2 (some .int), Cond.fieldLink RX1 18 "ViewKeeper$RuleBook" "needed" "[I", Cond.methodLink RX1 55 yJ6_bitCount_0f7a4, Cond.static yJ6_bitCount_0f7a4, Cond.initialized RJ6, Cond.code yJ6_bitCount_0f7a4 cJ6_bitCount_0f7a4 1 (some .int), Cond.constant RJ6 265 (1431655765), Cond.constant RJ6 266 (858993459), Cond.constant RJ6 267 (252645135), Cond.instanceMethod yX0_given, Cond.initialized RX0, Cond.selects RX0 yX0_given yX0_given, Cond.code yX0_given cX0_given 2 (some .int), Cond.fieldLink RX0 9 "ViewKeeper$Rule" "form" "I", Cond.fieldLink RX0 15 "ViewKeeper$Rule" "p" "I", Cond.fieldLink RX0 18 "ViewKeeper$Rule" "q" "I", Cond.static yX2_turned, Cond.initialized RX2, Cond.code yX2_turned cX2_turned 4 (some .int)]
def wsX2_fillOnce_r2 : List Cond := [Cond.methodLink RX2 95 yX2_holds, Cond.static yX2_holds, Cond.code yX2_holds cX2_holds 3 (some .boolean), Cond.methodLink RX2 60 yX2_bit, Cond.static yX2_bit, Cond.code yX2_bit cX2_bit 2 (some .int), Cond.static yX2_joined, Cond.code yX2_joined cX2_joined 5 (some .int), Cond.methodLink RX2 116 yX2_row, Cond.static yX2_row, Cond.code yX2_row cX2_row 2 (some .int)]
def wsX2_fillOnce : List Cond := .code yX2_fillOnce cX2_fillOnce 6 (some .boolean) :: ((wsX2_fillOnce_r1 ++ wsX2_fillOnce_r2) ++ wsX20 ++ wsX10 ++ wsX00)
def wsX2_fill_r1 : List Cond := [Cond.methodLink RX2 158 yX2_fillOnce, Cond.instanceMethod yX2_fillOnce, Cond.selects RX2 yX2_fillOnce yX2_fillOnce, Cond.initialized RX2, Cond.code yX2_fillOnce cX2_fillOnce 6 (some .boolean), Cond.fieldLink RX2 10 "ViewKeeper" "book" "LViewKeeper$RuleBook;", Cond.fieldLink RX2 16 "ViewKeeper" "now" "[I", Cond.instanceMethod yX1_layerOf, Cond.initialized RX1, Cond.selects RX1 yX1_layerOf yX1_layerOf, Cond.code yX1_layerOf cX1_layerOf 2 (some .int), Cond.fieldLink RX1 18 "ViewKeeper$RuleBook" "needed" "[I", Cond.methodLink RX1 55 yJ6_bitCount_0f7a4, Cond.static yJ6_bitCount_0f7a4, Cond.initialized RJ6, Cond.code yJ6_bitCount_0f7a4 cJ6_bitCount_0f7a4 1 (some .int), Cond.constant RJ6 265 (1431655765), Cond.constant RJ6 266 (858993459), Cond.constant RJ6 267 (252645135), Cond.instanceMethod yX0_given, Cond.initialized RX0, Cond.selects RX0 yX0_given yX0_given, Cond.code yX0_given cX0_given 2 (some .int), Cond.fieldLink RX0 9 "ViewKeeper$Rule" "form" "I"]
def wsX2_fill_r2 : List Cond := [Cond.fieldLink RX0 15 "ViewKeeper$Rule" "p" "I", Cond.fieldLink RX0 18 "ViewKeeper$Rule" "q" "I", Cond.static yX2_turned, Cond.code yX2_turned cX2_turned 4 (some .int), Cond.methodLink RX2 95 yX2_holds, Cond.static yX2_holds, Cond.code yX2_holds cX2_holds 3 (some .boolean), Cond.methodLink RX2 60 yX2_bit, Cond.static yX2_bit, Cond.code yX2_bit cX2_bit 2 (some .int), Cond.static yX2_joined, Cond.code yX2_joined cX2_joined 5 (some .int), Cond.methodLink RX2 116 yX2_row, Cond.static yX2_row, Cond.code yX2_row cX2_row 2 (some .int)]
def wsX2_fill : List Cond := .code yX2_fill cX2_fill 4 none :: ((wsX2_fill_r1 ++ wsX2_fill_r2) ++ wsX20 ++ wsX10 ++ wsX00)
def wsX2_forgetChanges : List Cond := .code yX2_forgetChanges cX2_forgetChanges 1 none :: ([.fieldLink RX2 16 "ViewKeeper" "now" "[I", .fieldLink RX2 20 "ViewKeeper" "before" "[I", .methodLink RX2 119 arraycopyName, .native arraycopyName, .static arraycopyName, .initialized "java/lang/System", .fieldLink RX2 23 "ViewKeeper" "suspects" "[I", .methodLink RX2 125 yJ7_fill_53178, .static yJ7_fill_53178, .initialized RJ7, .code yJ7_fill_53178 cJ7_fill_53178 4 none] ++ wsX20)
def wsX2_remakeViews_r1 : List Cond := [Cond.fieldLink RX2 16 "ViewKeeper" "now" "[I", Cond.methodLink RX2 77 yX2_fill, Cond.instanceMethod yX2_fill, Cond.selects RX2 yX2_fill yX2_fill, Cond.initialized RX2, Cond.code yX2_fill cX2_fill 4 none, Cond.methodLink RX2 158 yX2_fillOnce, Cond.instanceMethod yX2_fillOnce, Cond.selects RX2 yX2_fillOnce yX2_fillOnce, Cond.code yX2_fillOnce cX2_fillOnce 6 (some .boolean), Cond.fieldLink RX2 10 "ViewKeeper" "book" "LViewKeeper$RuleBook;", Cond.instanceMethod yX1_layerOf, Cond.initialized RX1, Cond.selects RX1 yX1_layerOf yX1_layerOf, Cond.code yX1_layerOf cX1_layerOf 2 (some .int), Cond.fieldLink RX1 18 "ViewKeeper$RuleBook" "needed" "[I", Cond.methodLink RX1 55 yJ6_bitCount_0f7a4, Cond.static yJ6_bitCount_0f7a4, Cond.initialized RJ6, Cond.code yJ6_bitCount_0f7a4 cJ6_bitCount_0f7a4 1 (some .int), Cond.constant RJ6 265 (1431655765), Cond.constant RJ6 266 (858993459), Cond.constant RJ6 267 (252645135), Cond.instanceMethod yX0_given]
def wsX2_remakeViews_r2 : List Cond := [Cond.initialized RX0, Cond.selects RX0 yX0_given yX0_given, Cond.code yX0_given cX0_given 2 (some .int), Cond.fieldLink RX0 9 "ViewKeeper$Rule" "form" "I", Cond.fieldLink RX0 15 "ViewKeeper$Rule" "p" "I", Cond.fieldLink RX0 18 "ViewKeeper$Rule" "q" "I", Cond.static yX2_turned, Cond.code yX2_turned cX2_turned 4 (some .int), Cond.methodLink RX2 95 yX2_holds, Cond.static yX2_holds, Cond.code yX2_holds cX2_holds 3 (some .boolean), Cond.methodLink RX2 60 yX2_bit, Cond.static yX2_bit, Cond.code yX2_bit cX2_bit 2 (some .int), Cond.static yX2_joined, Cond.code yX2_joined cX2_joined 5 (some .int), Cond.methodLink RX2 116 yX2_row, Cond.static yX2_row, Cond.code yX2_row cX2_row 2 (some .int), Cond.methodLink RX2 64 yX2_forgetChanges, Cond.instanceMethod yX2_forgetChanges, Cond.selects RX2 yX2_forgetChanges yX2_forgetChanges, Cond.code yX2_forgetChanges cX2_forgetChanges 1 none, Cond.fieldLink RX2 20 "ViewKeeper" "before" "[I"]
def wsX2_remakeViews_r3 : List Cond := [Cond.methodLink RX2 119 arraycopyName, Cond.native arraycopyName, Cond.static arraycopyName, Cond.initialized "java/lang/System", Cond.fieldLink RX2 23 "ViewKeeper" "suspects" "[I", Cond.methodLink RX2 125 yJ7_fill_53178, Cond.static yJ7_fill_53178, Cond.initialized RJ7, Cond.code yJ7_fill_53178 cJ7_fill_53178 4 none]
def wsX2_remakeViews : List Cond := .code yX2_remakeViews cX2_remakeViews 2 none :: ((wsX2_remakeViews_r1 ++ (wsX2_remakeViews_r2 ++ wsX2_remakeViews_r3)) ++ wsX20 ++ wsX10 ++ wsX00)
def wsX2_rule_r1 : List Cond := [Cond.fieldLink RX2 10 "ViewKeeper" "book" "LViewKeeper$RuleBook;", Cond.methodLink RX2 32 yX2_isView, Cond.static yX2_isView, Cond.initialized RX2, Cond.code yX2_isView cX2_isView 1 (some .boolean), Cond.methodLink RX2 36 yX2_isRelation, Cond.static yX2_isRelation, Cond.code yX2_isRelation cX2_isRelation 1 (some .boolean), Cond.instanceMethod yX1_write, Cond.initialized RX1, Cond.selects RX1 yX1_write yX1_write, Cond.code yX1_write cX1_write 6 none, Cond.fieldLink RX1 11 "ViewKeeper$RuleBook" "rows" "[LViewKeeper$Rule;", Cond.fieldLink RX1 22 "ViewKeeper$RuleBook" "made" "I", Cond.methodLink RX1 38 yX1_findNeeded, Cond.instanceMethod yX1_findNeeded, Cond.selects RX1 yX1_findNeeded yX1_findNeeded, Cond.code yX1_findNeeded cX1_findNeeded 3 none, Cond.fieldLink RX1 18 "ViewKeeper$RuleBook" "needed" "[I", Cond.methodLink RX1 41 yJ7_fill_53178, Cond.static yJ7_fill_53178, Cond.initialized RJ7, Cond.code yJ7_fill_53178 cJ7_fill_53178 4 none, Cond.instanceMethod yX0_body]
def wsX2_rule_r2 : List Cond := [Cond.initialized RX0, Cond.selects RX0 yX0_body yX0_body, Cond.code yX0_body cX0_body 1 (some .int), Cond.fieldLink RX0 9 "ViewKeeper$Rule" "form" "I", Cond.fieldLink RX0 15 "ViewKeeper$Rule" "p" "I", Cond.fieldLink RX0 18 "ViewKeeper$Rule" "q" "I", Cond.methodLink RX1 51 yX1_leadsTo, Cond.instanceMethod yX1_leadsTo, Cond.selects RX1 yX1_leadsTo yX1_leadsTo, Cond.code yX1_leadsTo cX1_leadsTo 3 (some .boolean), Cond.instanceMethod yX1_hasCycle, Cond.selects RX1 yX1_hasCycle yX1_hasCycle, Cond.code yX1_hasCycle cX1_hasCycle 3 (some .boolean), Cond.instanceMethod yX1_strikeLast, Cond.selects RX1 yX1_strikeLast yX1_strikeLast, Cond.code yX1_strikeLast cX1_strikeLast 1 none, Cond.methodLink RX2 54 yX2_remakeViews, Cond.instanceMethod yX2_remakeViews, Cond.selects RX2 yX2_remakeViews yX2_remakeViews, Cond.code yX2_remakeViews cX2_remakeViews 2 none, Cond.fieldLink RX2 16 "ViewKeeper" "now" "[I", Cond.methodLink RX2 77 yX2_fill, Cond.instanceMethod yX2_fill, Cond.selects RX2 yX2_fill yX2_fill]
def wsX2_rule_r3 : List Cond := [Cond.code yX2_fill cX2_fill 4 none, Cond.methodLink RX2 158 yX2_fillOnce, Cond.instanceMethod yX2_fillOnce, Cond.selects RX2 yX2_fillOnce yX2_fillOnce, Cond.code yX2_fillOnce cX2_fillOnce 6 (some .boolean), Cond.instanceMethod yX1_layerOf, Cond.selects RX1 yX1_layerOf yX1_layerOf, Cond.code yX1_layerOf cX1_layerOf 2 (some .int), Cond.methodLink RX1 55 yJ6_bitCount_0f7a4, Cond.static yJ6_bitCount_0f7a4, Cond.initialized RJ6, Cond.code yJ6_bitCount_0f7a4 cJ6_bitCount_0f7a4 1 (some .int), Cond.constant RJ6 265 (1431655765), Cond.constant RJ6 266 (858993459), Cond.constant RJ6 267 (252645135), Cond.instanceMethod yX0_given, Cond.selects RX0 yX0_given yX0_given, Cond.code yX0_given cX0_given 2 (some .int), Cond.static yX2_turned, Cond.code yX2_turned cX2_turned 4 (some .int), Cond.methodLink RX2 95 yX2_holds, Cond.static yX2_holds, Cond.code yX2_holds cX2_holds 3 (some .boolean), Cond.methodLink RX2 60 yX2_bit]
def wsX2_rule_r4 : List Cond := [Cond.static yX2_bit, Cond.code yX2_bit cX2_bit 2 (some .int), Cond.static yX2_joined, Cond.code yX2_joined cX2_joined 5 (some .int), Cond.methodLink RX2 116 yX2_row, Cond.static yX2_row, Cond.code yX2_row cX2_row 2 (some .int), Cond.methodLink RX2 64 yX2_forgetChanges, Cond.instanceMethod yX2_forgetChanges, Cond.selects RX2 yX2_forgetChanges yX2_forgetChanges, Cond.code yX2_forgetChanges cX2_forgetChanges 1 none, Cond.fieldLink RX2 20 "ViewKeeper" "before" "[I", Cond.methodLink RX2 119 arraycopyName, Cond.native arraycopyName, Cond.static arraycopyName, Cond.initialized "java/lang/System", Cond.fieldLink RX2 23 "ViewKeeper" "suspects" "[I", Cond.methodLink RX2 125 yJ7_fill_53178]
def wsX2_rule : List Cond := .code yX2_rule cX2_rule 5 (some .int) :: ((wsX2_rule_r1 ++ (wsX2_rule_r2 ++ (wsX2_rule_r3 ++ wsX2_rule_r4))) ++ wsX20 ++ wsX10 ++ wsX00)
def wsX2_undo_r1 : List Cond := [Cond.fieldLink RX2 10 "ViewKeeper" "book" "LViewKeeper$RuleBook;", Cond.instanceMethod yX1_strikeLast, Cond.initialized RX1, Cond.selects RX1 yX1_strikeLast yX1_strikeLast, Cond.code yX1_strikeLast cX1_strikeLast 1 none, Cond.fieldLink RX1 22 "ViewKeeper$RuleBook" "made" "I", Cond.methodLink RX1 38 yX1_findNeeded, Cond.instanceMethod yX1_findNeeded, Cond.selects RX1 yX1_findNeeded yX1_findNeeded, Cond.code yX1_findNeeded cX1_findNeeded 3 none, Cond.fieldLink RX1 18 "ViewKeeper$RuleBook" "needed" "[I", Cond.fieldLink RX1 11 "ViewKeeper$RuleBook" "rows" "[LViewKeeper$Rule;", Cond.methodLink RX1 41 yJ7_fill_53178, Cond.static yJ7_fill_53178, Cond.initialized RJ7, Cond.code yJ7_fill_53178 cJ7_fill_53178 4 none, Cond.instanceMethod yX0_body, Cond.initialized RX0, Cond.selects RX0 yX0_body yX0_body, Cond.code yX0_body cX0_body 1 (some .int), Cond.fieldLink RX0 9 "ViewKeeper$Rule" "form" "I", Cond.fieldLink RX0 15 "ViewKeeper$Rule" "p" "I", Cond.fieldLink RX0 18 "ViewKeeper$Rule" "q" "I", Cond.methodLink RX1 51 yX1_leadsTo]
def wsX2_undo_r2 : List Cond := [Cond.instanceMethod yX1_leadsTo, Cond.selects RX1 yX1_leadsTo yX1_leadsTo, Cond.code yX1_leadsTo cX1_leadsTo 3 (some .boolean), Cond.methodLink RX2 54 yX2_remakeViews, Cond.instanceMethod yX2_remakeViews, Cond.selects RX2 yX2_remakeViews yX2_remakeViews, Cond.initialized RX2, Cond.code yX2_remakeViews cX2_remakeViews 2 none, Cond.fieldLink RX2 16 "ViewKeeper" "now" "[I", Cond.methodLink RX2 77 yX2_fill, Cond.instanceMethod yX2_fill, Cond.selects RX2 yX2_fill yX2_fill, Cond.code yX2_fill cX2_fill 4 none, Cond.methodLink RX2 158 yX2_fillOnce, Cond.instanceMethod yX2_fillOnce, Cond.selects RX2 yX2_fillOnce yX2_fillOnce, Cond.code yX2_fillOnce cX2_fillOnce 6 (some .boolean), Cond.instanceMethod yX1_layerOf, Cond.selects RX1 yX1_layerOf yX1_layerOf, Cond.code yX1_layerOf cX1_layerOf 2 (some .int), Cond.methodLink RX1 55 yJ6_bitCount_0f7a4, Cond.static yJ6_bitCount_0f7a4, Cond.initialized RJ6, Cond.code yJ6_bitCount_0f7a4 cJ6_bitCount_0f7a4 1 (some .int)]
def wsX2_undo_r3 : List Cond := [Cond.constant RJ6 265 (1431655765), Cond.constant RJ6 266 (858993459), Cond.constant RJ6 267 (252645135), Cond.instanceMethod yX0_given, Cond.selects RX0 yX0_given yX0_given, Cond.code yX0_given cX0_given 2 (some .int), Cond.static yX2_turned, Cond.code yX2_turned cX2_turned 4 (some .int), Cond.methodLink RX2 95 yX2_holds, Cond.static yX2_holds, Cond.code yX2_holds cX2_holds 3 (some .boolean), Cond.methodLink RX2 60 yX2_bit, Cond.static yX2_bit, Cond.code yX2_bit cX2_bit 2 (some .int), Cond.static yX2_joined, Cond.code yX2_joined cX2_joined 5 (some .int), Cond.methodLink RX2 116 yX2_row, Cond.static yX2_row, Cond.code yX2_row cX2_row 2 (some .int), Cond.methodLink RX2 64 yX2_forgetChanges, Cond.instanceMethod yX2_forgetChanges, Cond.selects RX2 yX2_forgetChanges yX2_forgetChanges, Cond.code yX2_forgetChanges cX2_forgetChanges 1 none, Cond.fieldLink RX2 20 "ViewKeeper" "before" "[I"]
def wsX2_undo_r4 : List Cond := [Cond.methodLink RX2 119 arraycopyName, Cond.native arraycopyName, Cond.static arraycopyName, Cond.initialized "java/lang/System", Cond.fieldLink RX2 23 "ViewKeeper" "suspects" "[I", Cond.methodLink RX2 125 yJ7_fill_53178]
def wsX2_undo : List Cond := .code yX2_undo cX2_undo 1 (some .int) :: ((wsX2_undo_r1 ++ (wsX2_undo_r2 ++ (wsX2_undo_r3 ++ wsX2_undo_r4))) ++ wsX20 ++ wsX10 ++ wsX00)
def wsX2_isThing : List Cond := .code yX2_isThing cX2_isThing 1 (some .boolean) :: ([])
def wsX2_stage : List Cond := .code yX2_stage cX2_stage 6 (some .boolean) :: ([.fieldLink RX2 26 "ViewKeeper" "stagedIn" "[I", .fieldLink RX2 29 "ViewKeeper" "stagedOut" "[I", .methodLink RX2 36 yX2_isRelation, .static yX2_isRelation, .initialized RX2, .code yX2_isRelation cX2_isRelation 1 (some .boolean), .methodLink RX2 32 yX2_isView, .static yX2_isView, .code yX2_isView cX2_isView 1 (some .boolean), .methodLink RX2 57 yX2_isThing, .static yX2_isThing, .code yX2_isThing cX2_isThing 1 (some .boolean), .methodLink RX2 60 yX2_bit, .static yX2_bit, .code yX2_bit cX2_bit 2 (some .int)] ++ wsX20)
def wsX2_clearStaged : List Cond := .code yX2_clearStaged cX2_clearStaged 1 none :: ([.fieldLink RX2 26 "ViewKeeper" "stagedIn" "[I", .fieldLink RX2 29 "ViewKeeper" "stagedOut" "[I", .methodLink RX2 125 yJ7_fill_53178, .static yJ7_fill_53178, .initialized RJ7, .code yJ7_fill_53178 cJ7_fill_53178 4 none] ++ wsX20)
def wsX2_doStaged : List Cond := .code yX2_doStaged cX2_doStaged 2 none :: ([.fieldLink RX2 16 "ViewKeeper" "now" "[I", .fieldLink RX2 26 "ViewKeeper" "stagedIn" "[I", .fieldLink RX2 29 "ViewKeeper" "stagedOut" "[I", .methodLink RX2 92 yX2_clearStaged, .instanceMethod yX2_clearStaged, .selects RX2 yX2_clearStaged yX2_clearStaged, .initialized RX2, .code yX2_clearStaged cX2_clearStaged 1 none, .methodLink RX2 125 yJ7_fill_53178, .static yJ7_fill_53178, .initialized RJ7, .code yJ7_fill_53178 cJ7_fill_53178 4 none] ++ wsX20)
def wsX2_takenOutOf : List Cond := .code yX2_takenOutOf cX2_takenOutOf 2 (some .int) :: ([.fieldLink RX2 20 "ViewKeeper" "before" "[I", .fieldLink RX2 16 "ViewKeeper" "now" "[I"] ++ wsX20)
def wsX2_lostFor : List Cond := .code yX2_lostFor cX2_lostFor 3 (some .int) :: ([.fieldLink RX2 10 "ViewKeeper" "book" "LViewKeeper$RuleBook;", .fieldLink RX2 23 "ViewKeeper" "suspects" "[I", .instanceMethod yX1_leadsTo, .initialized RX1, .selects RX1 yX1_leadsTo yX1_leadsTo, .code yX1_leadsTo cX1_leadsTo 3 (some .boolean), .fieldLink RX1 18 "ViewKeeper$RuleBook" "needed" "[I", .methodLink RX2 89 yX2_takenOutOf, .instanceMethod yX2_takenOutOf, .selects RX2 yX2_takenOutOf yX2_takenOutOf, .initialized RX2, .code yX2_takenOutOf cX2_takenOutOf 2 (some .int), .fieldLink RX2 20 "ViewKeeper" "before" "[I", .fieldLink RX2 16 "ViewKeeper" "now" "[I"] ++ wsX20 ++ wsX10)
def wsX2_putInto : List Cond := .code yX2_putInto cX2_putInto 2 (some .int) :: ([.fieldLink RX2 16 "ViewKeeper" "now" "[I", .fieldLink RX2 20 "ViewKeeper" "before" "[I"] ++ wsX20)
def wsX2_suspectsBy_r1 : List Cond := [Cond.fieldLink RX2 20 "ViewKeeper" "before" "[I", Cond.methodLink RX2 146 yX2_lostFor, Cond.instanceMethod yX2_lostFor, Cond.selects RX2 yX2_lostFor yX2_lostFor, Cond.initialized RX2, Cond.code yX2_lostFor cX2_lostFor 3 (some .int), Cond.fieldLink RX2 10 "ViewKeeper" "book" "LViewKeeper$RuleBook;", Cond.fieldLink RX2 23 "ViewKeeper" "suspects" "[I", Cond.instanceMethod yX1_leadsTo, Cond.initialized RX1, Cond.selects RX1 yX1_leadsTo yX1_leadsTo, Cond.code yX1_leadsTo cX1_leadsTo 3 (some .boolean), Cond.fieldLink RX1 18 "ViewKeeper$RuleBook" "needed" "[I", Cond.methodLink RX2 89 yX2_takenOutOf, Cond.instanceMethod yX2_takenOutOf, Cond.selects RX2 yX2_takenOutOf yX2_takenOutOf, Cond.code yX2_takenOutOf cX2_takenOutOf 2 (some .int), Cond.fieldLink RX2 16 "ViewKeeper" "now" "[I", Cond.methodLink RX2 152 yX2_turned, Cond.static yX2_turned, Cond.code yX2_turned cX2_turned 4 (some .int), Cond.methodLink RX2 95 yX2_holds, Cond.static yX2_holds, Cond.code yX2_holds cX2_holds 3 (some .boolean)]
def wsX2_suspectsBy_r2 : List Cond := [Cond.methodLink RX2 60 yX2_bit, Cond.static yX2_bit, Cond.code yX2_bit cX2_bit 2 (some .int), Cond.methodLink RX2 155 yX2_joined, Cond.static yX2_joined, Cond.code yX2_joined cX2_joined 5 (some .int), Cond.methodLink RX2 116 yX2_row, Cond.static yX2_row, Cond.code yX2_row cX2_row 2 (some .int), Cond.methodLink RX2 80 yX2_putInto, Cond.instanceMethod yX2_putInto, Cond.selects RX2 yX2_putInto yX2_putInto, Cond.code yX2_putInto cX2_putInto 2 (some .int)]
def wsX2_suspectsBy : List Cond := .code yX2_suspectsBy cX2_suspectsBy 6 (some .int) :: ((wsX2_suspectsBy_r1 ++ wsX2_suspectsBy_r2) ++ wsX20 ++ wsX00 ++ wsX10)
def wsX2_suspectOnce_r1 : List Cond := [Cond.fieldLink RX2 10 "ViewKeeper" "book" "LViewKeeper$RuleBook;", Cond.fieldLink RX2 23 "ViewKeeper" "suspects" "[I", Cond.instanceMethod yX1_layerOf, Cond.initialized RX1, Cond.selects RX1 yX1_layerOf yX1_layerOf, Cond.code yX1_layerOf cX1_layerOf 2 (some .int), Cond.fieldLink RX1 18 "ViewKeeper$RuleBook" "needed" "[I", Cond.methodLink RX1 55 yJ6_bitCount_0f7a4, Cond.static yJ6_bitCount_0f7a4, Cond.initialized RJ6, Cond.code yJ6_bitCount_0f7a4 cJ6_bitCount_0f7a4 1 (some .int), Cond.constant RJ6 265 (1431655765), Cond.constant RJ6 266 (858993459), Cond.constant RJ6 267 (252645135), Cond.instanceMethod yX1_leadsTo, Cond.selects RX1 yX1_leadsTo yX1_leadsTo, Cond.code yX1_leadsTo cX1_leadsTo 3 (some .boolean), Cond.methodLink RX2 136 yX2_suspectsBy, Cond.instanceMethod yX2_suspectsBy, Cond.selects RX2 yX2_suspectsBy yX2_suspectsBy, Cond.initialized RX2, Cond.code yX2_suspectsBy cX2_suspectsBy 6 (some .int), Cond.fieldLink RX2 20 "ViewKeeper" "before" "[I", Cond.methodLink RX2 146 yX2_lostFor]
def wsX2_suspectOnce_r2 : List Cond := [Cond.instanceMethod yX2_lostFor, Cond.selects RX2 yX2_lostFor yX2_lostFor, Cond.code yX2_lostFor cX2_lostFor 3 (some .int), Cond.methodLink RX2 89 yX2_takenOutOf, Cond.instanceMethod yX2_takenOutOf, Cond.selects RX2 yX2_takenOutOf yX2_takenOutOf, Cond.code yX2_takenOutOf cX2_takenOutOf 2 (some .int), Cond.fieldLink RX2 16 "ViewKeeper" "now" "[I", Cond.methodLink RX2 152 yX2_turned, Cond.static yX2_turned, Cond.code yX2_turned cX2_turned 4 (some .int), Cond.methodLink RX2 95 yX2_holds, Cond.static yX2_holds, Cond.code yX2_holds cX2_holds 3 (some .boolean), Cond.methodLink RX2 60 yX2_bit, Cond.static yX2_bit, Cond.code yX2_bit cX2_bit 2 (some .int), Cond.methodLink RX2 155 yX2_joined, Cond.static yX2_joined, Cond.code yX2_joined cX2_joined 5 (some .int), Cond.methodLink RX2 116 yX2_row, Cond.static yX2_row, Cond.code yX2_row cX2_row 2 (some .int), Cond.methodLink RX2 80 yX2_putInto]
def wsX2_suspectOnce_r3 : List Cond := [Cond.instanceMethod yX2_putInto, Cond.selects RX2 yX2_putInto yX2_putInto, Cond.code yX2_putInto cX2_putInto 2 (some .int)]
def wsX2_suspectOnce : List Cond := .code yX2_suspectOnce cX2_suspectOnce 6 (some .boolean) :: ((wsX2_suspectOnce_r1 ++ (wsX2_suspectOnce_r2 ++ wsX2_suspectOnce_r3)) ++ wsX20 ++ wsX10 ++ wsX00)
def wsX2_findSuspects_r1 : List Cond := [Cond.methodLink RX2 130 yX2_suspectOnce, Cond.instanceMethod yX2_suspectOnce, Cond.selects RX2 yX2_suspectOnce yX2_suspectOnce, Cond.initialized RX2, Cond.code yX2_suspectOnce cX2_suspectOnce 6 (some .boolean), Cond.fieldLink RX2 10 "ViewKeeper" "book" "LViewKeeper$RuleBook;", Cond.fieldLink RX2 23 "ViewKeeper" "suspects" "[I", Cond.instanceMethod yX1_layerOf, Cond.initialized RX1, Cond.selects RX1 yX1_layerOf yX1_layerOf, Cond.code yX1_layerOf cX1_layerOf 2 (some .int), Cond.fieldLink RX1 18 "ViewKeeper$RuleBook" "needed" "[I", Cond.methodLink RX1 55 yJ6_bitCount_0f7a4, Cond.static yJ6_bitCount_0f7a4, Cond.initialized RJ6, Cond.code yJ6_bitCount_0f7a4 cJ6_bitCount_0f7a4 1 (some .int), Cond.constant RJ6 265 (1431655765), Cond.constant RJ6 266 (858993459), Cond.constant RJ6 267 (252645135), Cond.instanceMethod yX1_leadsTo, Cond.selects RX1 yX1_leadsTo yX1_leadsTo, Cond.code yX1_leadsTo cX1_leadsTo 3 (some .boolean), Cond.methodLink RX2 136 yX2_suspectsBy, Cond.instanceMethod yX2_suspectsBy]
def wsX2_findSuspects_r2 : List Cond := [Cond.selects RX2 yX2_suspectsBy yX2_suspectsBy, Cond.code yX2_suspectsBy cX2_suspectsBy 6 (some .int), Cond.fieldLink RX2 20 "ViewKeeper" "before" "[I", Cond.methodLink RX2 146 yX2_lostFor, Cond.instanceMethod yX2_lostFor, Cond.selects RX2 yX2_lostFor yX2_lostFor, Cond.code yX2_lostFor cX2_lostFor 3 (some .int), Cond.methodLink RX2 89 yX2_takenOutOf, Cond.instanceMethod yX2_takenOutOf, Cond.selects RX2 yX2_takenOutOf yX2_takenOutOf, Cond.code yX2_takenOutOf cX2_takenOutOf 2 (some .int), Cond.fieldLink RX2 16 "ViewKeeper" "now" "[I", Cond.methodLink RX2 152 yX2_turned, Cond.static yX2_turned, Cond.code yX2_turned cX2_turned 4 (some .int), Cond.methodLink RX2 95 yX2_holds, Cond.static yX2_holds, Cond.code yX2_holds cX2_holds 3 (some .boolean), Cond.methodLink RX2 60 yX2_bit, Cond.static yX2_bit, Cond.code yX2_bit cX2_bit 2 (some .int), Cond.methodLink RX2 155 yX2_joined, Cond.static yX2_joined, Cond.code yX2_joined cX2_joined 5 (some .int)]
def wsX2_findSuspects_r3 : List Cond := [Cond.methodLink RX2 116 yX2_row, Cond.static yX2_row, Cond.code yX2_row cX2_row 2 (some .int), Cond.methodLink RX2 80 yX2_putInto, Cond.instanceMethod yX2_putInto, Cond.selects RX2 yX2_putInto yX2_putInto, Cond.code yX2_putInto cX2_putInto 2 (some .int)]
def wsX2_findSuspects : List Cond := .code yX2_findSuspects cX2_findSuspects 4 none :: ((wsX2_findSuspects_r1 ++ (wsX2_findSuspects_r2 ++ wsX2_findSuspects_r3)) ++ wsX20 ++ wsX10 ++ wsX00)
def wsX2_takeOutDoubtful : List Cond := .code yX2_takeOutDoubtful cX2_takeOutDoubtful 3 none :: ([.fieldLink RX2 10 "ViewKeeper" "book" "LViewKeeper$RuleBook;", .fieldLink RX2 16 "ViewKeeper" "now" "[I", .fieldLink RX2 23 "ViewKeeper" "suspects" "[I", .instanceMethod yX1_layerOf, .initialized RX1, .selects RX1 yX1_layerOf yX1_layerOf, .code yX1_layerOf cX1_layerOf 2 (some .int), .fieldLink RX1 18 "ViewKeeper$RuleBook" "needed" "[I", .methodLink RX1 55 yJ6_bitCount_0f7a4, .static yJ6_bitCount_0f7a4, .initialized RJ6, .code yJ6_bitCount_0f7a4 cJ6_bitCount_0f7a4 1 (some .int), .constant RJ6 265 (1431655765), .constant RJ6 266 (858993459), .constant RJ6 267 (252645135), .instanceMethod yX1_leadsTo, .selects RX1 yX1_leadsTo yX1_leadsTo, .code yX1_leadsTo cX1_leadsTo 3 (some .boolean)] ++ wsX20 ++ wsX10)
def wsX2_commit_r1 : List Cond := [Cond.methodLink RX2 64 yX2_forgetChanges, Cond.instanceMethod yX2_forgetChanges, Cond.selects RX2 yX2_forgetChanges yX2_forgetChanges, Cond.initialized RX2, Cond.code yX2_forgetChanges cX2_forgetChanges 1 none, Cond.fieldLink RX2 16 "ViewKeeper" "now" "[I", Cond.fieldLink RX2 20 "ViewKeeper" "before" "[I", Cond.methodLink RX2 119 arraycopyName, Cond.native arraycopyName, Cond.static arraycopyName, Cond.initialized "java/lang/System", Cond.fieldLink RX2 23 "ViewKeeper" "suspects" "[I", Cond.methodLink RX2 125 yJ7_fill_53178, Cond.static yJ7_fill_53178, Cond.initialized RJ7, Cond.code yJ7_fill_53178 cJ7_fill_53178 4 none, Cond.methodLink RX2 67 yX2_doStaged, Cond.instanceMethod yX2_doStaged, Cond.selects RX2 yX2_doStaged yX2_doStaged, Cond.code yX2_doStaged cX2_doStaged 2 none, Cond.fieldLink RX2 26 "ViewKeeper" "stagedIn" "[I", Cond.fieldLink RX2 29 "ViewKeeper" "stagedOut" "[I", Cond.methodLink RX2 92 yX2_clearStaged, Cond.instanceMethod yX2_clearStaged]
def wsX2_commit_r2 : List Cond := [Cond.selects RX2 yX2_clearStaged yX2_clearStaged, Cond.code yX2_clearStaged cX2_clearStaged 1 none, Cond.methodLink RX2 70 yX2_findSuspects, Cond.instanceMethod yX2_findSuspects, Cond.selects RX2 yX2_findSuspects yX2_findSuspects, Cond.code yX2_findSuspects cX2_findSuspects 4 none, Cond.methodLink RX2 130 yX2_suspectOnce, Cond.instanceMethod yX2_suspectOnce, Cond.selects RX2 yX2_suspectOnce yX2_suspectOnce, Cond.code yX2_suspectOnce cX2_suspectOnce 6 (some .boolean), Cond.fieldLink RX2 10 "ViewKeeper" "book" "LViewKeeper$RuleBook;", Cond.instanceMethod yX1_layerOf, Cond.initialized RX1, Cond.selects RX1 yX1_layerOf yX1_layerOf, Cond.code yX1_layerOf cX1_layerOf 2 (some .int), Cond.fieldLink RX1 18 "ViewKeeper$RuleBook" "needed" "[I", Cond.methodLink RX1 55 yJ6_bitCount_0f7a4, Cond.static yJ6_bitCount_0f7a4, Cond.initialized RJ6, Cond.code yJ6_bitCount_0f7a4 cJ6_bitCount_0f7a4 1 (some .int), Cond.constant RJ6 265 (1431655765), Cond.constant RJ6 266 (858993459), Cond.constant RJ6 267 (252645135), Cond.instanceMethod yX1_leadsTo]
def wsX2_commit_r3 : List Cond := [Cond.selects RX1 yX1_leadsTo yX1_leadsTo, Cond.code yX1_leadsTo cX1_leadsTo 3 (some .boolean), Cond.methodLink RX2 136 yX2_suspectsBy, Cond.instanceMethod yX2_suspectsBy, Cond.selects RX2 yX2_suspectsBy yX2_suspectsBy, Cond.code yX2_suspectsBy cX2_suspectsBy 6 (some .int), Cond.methodLink RX2 146 yX2_lostFor, Cond.instanceMethod yX2_lostFor, Cond.selects RX2 yX2_lostFor yX2_lostFor, Cond.code yX2_lostFor cX2_lostFor 3 (some .int), Cond.methodLink RX2 89 yX2_takenOutOf, Cond.instanceMethod yX2_takenOutOf, Cond.selects RX2 yX2_takenOutOf yX2_takenOutOf, Cond.code yX2_takenOutOf cX2_takenOutOf 2 (some .int), Cond.methodLink RX2 152 yX2_turned, Cond.static yX2_turned, Cond.code yX2_turned cX2_turned 4 (some .int), Cond.methodLink RX2 95 yX2_holds, Cond.static yX2_holds, Cond.code yX2_holds cX2_holds 3 (some .boolean), Cond.methodLink RX2 60 yX2_bit, Cond.static yX2_bit, Cond.code yX2_bit cX2_bit 2 (some .int), Cond.methodLink RX2 155 yX2_joined]
def wsX2_commit_r4 : List Cond := [Cond.static yX2_joined, Cond.code yX2_joined cX2_joined 5 (some .int), Cond.methodLink RX2 116 yX2_row, Cond.static yX2_row, Cond.code yX2_row cX2_row 2 (some .int), Cond.methodLink RX2 80 yX2_putInto, Cond.instanceMethod yX2_putInto, Cond.selects RX2 yX2_putInto yX2_putInto, Cond.code yX2_putInto cX2_putInto 2 (some .int), Cond.methodLink RX2 74 yX2_takeOutDoubtful, Cond.instanceMethod yX2_takeOutDoubtful, Cond.selects RX2 yX2_takeOutDoubtful yX2_takeOutDoubtful, Cond.code yX2_takeOutDoubtful cX2_takeOutDoubtful 3 none, Cond.methodLink RX2 77 yX2_fill, Cond.instanceMethod yX2_fill, Cond.selects RX2 yX2_fill yX2_fill, Cond.code yX2_fill cX2_fill 4 none, Cond.methodLink RX2 158 yX2_fillOnce, Cond.instanceMethod yX2_fillOnce, Cond.selects RX2 yX2_fillOnce yX2_fillOnce, Cond.code yX2_fillOnce cX2_fillOnce 6 (some .boolean), Cond.instanceMethod yX0_given, Cond.initialized RX0, Cond.selects RX0 yX0_given yX0_given]
def wsX2_commit_r5 : List Cond := [Cond.code yX0_given cX0_given 2 (some .int), Cond.fieldLink RX0 9 "ViewKeeper$Rule" "form" "I", Cond.fieldLink RX0 15 "ViewKeeper$Rule" "p" "I", Cond.fieldLink RX0 18 "ViewKeeper$Rule" "q" "I", Cond.methodLink RX2 84 yJ6_bitCount_0f7a4]
def wsX2_commit : List Cond := .code yX2_commit cX2_commit 3 (some .int) :: ((wsX2_commit_r1 ++ (wsX2_commit_r2 ++ (wsX2_commit_r3 ++ (wsX2_commit_r4 ++ wsX2_commit_r5)))) ++ wsX20 ++ wsX10 ++ wsX00)
def wsX2_abort : List Cond := .code yX2_abort cX2_abort 3 (some .int) :: ([.fieldLink RX2 26 "ViewKeeper" "stagedIn" "[I", .fieldLink RX2 29 "ViewKeeper" "stagedOut" "[I", .methodLink RX2 84 yJ6_bitCount_0f7a4, .static yJ6_bitCount_0f7a4, .initialized RJ6, .code yJ6_bitCount_0f7a4 cJ6_bitCount_0f7a4 1 (some .int), .constant RJ6 265 (1431655765), .constant RJ6 266 (858993459), .constant RJ6 267 (252645135), .methodLink RX2 92 yX2_clearStaged, .instanceMethod yX2_clearStaged, .selects RX2 yX2_clearStaged yX2_clearStaged, .initialized RX2, .code yX2_clearStaged cX2_clearStaged 1 none, .methodLink RX2 125 yJ7_fill_53178, .static yJ7_fill_53178, .initialized RJ7, .code yJ7_fill_53178 cJ7_fill_53178 4 none] ++ wsX20)
def wsX2_has : List Cond := .code yX2_has cX2_has 4 (some .boolean) :: ([.fieldLink RX2 16 "ViewKeeper" "now" "[I", .methodLink RX2 36 yX2_isRelation, .static yX2_isRelation, .initialized RX2, .code yX2_isRelation cX2_isRelation 1 (some .boolean), .methodLink RX2 57 yX2_isThing, .static yX2_isThing, .code yX2_isThing cX2_isThing 1 (some .boolean), .methodLink RX2 95 yX2_holds, .static yX2_holds, .code yX2_holds cX2_holds 3 (some .boolean)] ++ wsX20)
def wsX2_count_r1 : List Cond := [Cond.fieldLink RX2 10 "ViewKeeper" "book" "LViewKeeper$RuleBook;", Cond.fieldLink RX2 16 "ViewKeeper" "now" "[I", Cond.methodLink RX2 36 yX2_isRelation, Cond.static yX2_isRelation, Cond.initialized RX2, Cond.code yX2_isRelation cX2_isRelation 1 (some .boolean), Cond.methodLink RX2 57 yX2_isThing, Cond.static yX2_isThing, Cond.code yX2_isThing cX2_isThing 1 (some .boolean), Cond.instanceMethod yX1_leadsTo, Cond.initialized RX1, Cond.selects RX1 yX1_leadsTo yX1_leadsTo, Cond.code yX1_leadsTo cX1_leadsTo 3 (some .boolean), Cond.fieldLink RX1 18 "ViewKeeper$RuleBook" "needed" "[I", Cond.methodLink RX2 32 yX2_isView, Cond.static yX2_isView, Cond.code yX2_isView cX2_isView 1 (some .boolean), Cond.methodLink RX2 95 yX2_holds, Cond.static yX2_holds, Cond.code yX2_holds cX2_holds 3 (some .boolean), Cond.instanceMethod yX0_instances, Cond.initialized RX0, Cond.selects RX0 yX0_instances yX0_instances, Cond.code yX0_instances cX0_instances 6 (some .int)]
def wsX2_count_r2 : List Cond := [Cond.fieldLink RX0 9 "ViewKeeper$Rule" "form" "I", Cond.fieldLink RX0 15 "ViewKeeper$Rule" "p" "I", Cond.fieldLink RX0 18 "ViewKeeper$Rule" "q" "I", Cond.methodLink RX0 29 yX0_given, Cond.instanceMethod yX0_given, Cond.selects RX0 yX0_given yX0_given, Cond.code yX0_given cX0_given 2 (some .int), Cond.static yX2_turned, Cond.code yX2_turned cX2_turned 4 (some .int), Cond.methodLink RX2 60 yX2_bit, Cond.static yX2_bit, Cond.code yX2_bit cX2_bit 2 (some .int), Cond.static yX2_joined, Cond.code yX2_joined cX2_joined 5 (some .int), Cond.methodLink RX2 116 yX2_row, Cond.static yX2_row, Cond.code yX2_row cX2_row 2 (some .int)]
def wsX2_count : List Cond := .code yX2_count cX2_count 6 (some .int) :: ((wsX2_count_r1 ++ wsX2_count_r2) ++ wsX20 ++ wsX10 ++ wsX00)
def wsX2_size : List Cond := .code yX2_size cX2_size 2 (some .int) :: ([.fieldLink RX2 16 "ViewKeeper" "now" "[I", .methodLink RX2 36 yX2_isRelation, .static yX2_isRelation, .initialized RX2, .code yX2_isRelation cX2_isRelation 1 (some .boolean), .methodLink RX2 84 yJ6_bitCount_0f7a4, .static yJ6_bitCount_0f7a4, .initialized RJ6, .code yJ6_bitCount_0f7a4 cJ6_bitCount_0f7a4 1 (some .int), .constant RJ6 265 (1431655765), .constant RJ6 266 (858993459), .constant RJ6 267 (252645135)] ++ wsX20)
def wsX2_recursive : List Cond := .code yX2_recursive cX2_recursive 2 (some .boolean) :: ([.fieldLink RX2 10 "ViewKeeper" "book" "LViewKeeper$RuleBook;", .methodLink RX2 36 yX2_isRelation, .static yX2_isRelation, .initialized RX2, .code yX2_isRelation cX2_isRelation 1 (some .boolean), .instanceMethod yX1_leadsTo, .initialized RX1, .selects RX1 yX1_leadsTo yX1_leadsTo, .code yX1_leadsTo cX1_leadsTo 3 (some .boolean), .fieldLink RX1 18 "ViewKeeper$RuleBook" "needed" "[I"] ++ wsX20 ++ wsX10)
def wsX2_needs : List Cond := .code yX2_needs cX2_needs 3 (some .boolean) :: ([.fieldLink RX2 10 "ViewKeeper" "book" "LViewKeeper$RuleBook;", .methodLink RX2 32 yX2_isView, .static yX2_isView, .initialized RX2, .code yX2_isView cX2_isView 1 (some .boolean), .methodLink RX2 36 yX2_isRelation, .static yX2_isRelation, .code yX2_isRelation cX2_isRelation 1 (some .boolean), .instanceMethod yX1_leadsTo, .initialized RX1, .selects RX1 yX1_leadsTo yX1_leadsTo, .code yX1_leadsTo cX1_leadsTo 3 (some .boolean), .fieldLink RX1 18 "ViewKeeper$RuleBook" "needed" "[I"] ++ wsX20 ++ wsX10)
def wsX2_rules : List Cond := .code yX2_rules cX2_rules 1 (some .int) :: ([.fieldLink RX2 10 "ViewKeeper" "book" "LViewKeeper$RuleBook;"] ++ wsX20 ++ wsX10)
def wsX2_changed : List Cond := .code yX2_changed cX2_changed 3 (some .int) :: ([.fieldLink RX2 23 "ViewKeeper" "suspects" "[I", .fieldLink RX2 16 "ViewKeeper" "now" "[I", .methodLink RX2 36 yX2_isRelation, .static yX2_isRelation, .initialized RX2, .code yX2_isRelation cX2_isRelation 1 (some .boolean), .methodLink RX2 80 yX2_putInto, .instanceMethod yX2_putInto, .selects RX2 yX2_putInto yX2_putInto, .code yX2_putInto cX2_putInto 2 (some .int), .fieldLink RX2 20 "ViewKeeper" "before" "[I", .methodLink RX2 84 yJ6_bitCount_0f7a4, .static yJ6_bitCount_0f7a4, .initialized RJ6, .code yJ6_bitCount_0f7a4 cJ6_bitCount_0f7a4 1 (some .int), .constant RJ6 265 (1431655765), .constant RJ6 266 (858993459), .constant RJ6 267 (252645135), .methodLink RX2 89 yX2_takenOutOf, .instanceMethod yX2_takenOutOf, .selects RX2 yX2_takenOutOf yX2_takenOutOf, .code yX2_takenOutOf cX2_takenOutOf 2 (some .int)] ++ wsX20)
def wsX2_suspect : List Cond := .code yX2_suspect cX2_suspect 4 (some .boolean) :: ([.fieldLink RX2 23 "ViewKeeper" "suspects" "[I", .methodLink RX2 36 yX2_isRelation, .static yX2_isRelation, .initialized RX2, .code yX2_isRelation cX2_isRelation 1 (some .boolean), .methodLink RX2 57 yX2_isThing, .static yX2_isThing, .code yX2_isThing cX2_isThing 1 (some .boolean), .methodLink RX2 95 yX2_holds, .static yX2_holds, .code yX2_holds cX2_holds 3 (some .boolean)] ++ wsX20)
def wsX3_init : List Cond := .code yX3_init cX3_init 1 none :: ([.methodLink RX3 1 objectInit, .instanceMethod objectInit, .code objectInit ⟨#[0xb1]⟩ 1 none, .arrayClass .int, .fieldLink RX3 7 "ViewKeeperModel" "heads" "[I", .fieldLink RX3 13 "ViewKeeperModel" "forms" "[I", .fieldLink RX3 16 "ViewKeeperModel" "first" "[I", .fieldLink RX3 19 "ViewKeeperModel" "second" "[I", .fieldLink RX3 22 "ViewKeeperModel" "now" "[I", .fieldLink RX3 25 "ViewKeeperModel" "before" "[I", .fieldLink RX3 28 "ViewKeeperModel" "doubt" "[I", .fieldLink RX3 31 "ViewKeeperModel" "staged" "[I", .fieldLink RX3 34 "ViewKeeperModel" "wanted" "[I", .arrayClass .boolean, .fieldLink RX3 37 "ViewKeeperModel" "need" "[Z", .fieldLink RX3 41 "ViewKeeperModel" "done" "[Z"] ++ wsX30)
def wsX3_within : List Cond := .code yX3_within cX3_within 3 (some .boolean) :: ([])
def wsX3_bit : List Cond := .code yX3_bit cX3_bit 2 (some .int) :: ([])
def wsX3_ones : List Cond := .code yX3_ones cX3_ones 3 (some .int) :: ([])
def wsX3_in : List Cond := .code yX3_in cX3_in 3 (some .boolean) :: ([])
def wsX3_findNeeds : List Cond := .code yX3_findNeeds cX3_findNeeds 4 none :: ([.fieldLink RX3 37 "ViewKeeperModel" "need" "[Z", .fieldLink RX3 44 "ViewKeeperModel" "count" "I", .fieldLink RX3 7 "ViewKeeperModel" "heads" "[I", .fieldLink RX3 16 "ViewKeeperModel" "first" "[I", .fieldLink RX3 19 "ViewKeeperModel" "second" "[I", .fieldLink RX3 13 "ViewKeeperModel" "forms" "[I"] ++ wsX30)
def wsX3_cyclic : List Cond := .code yX3_cyclic cX3_cyclic 3 (some .boolean) :: ([.fieldLink RX3 44 "ViewKeeperModel" "count" "I", .fieldLink RX3 13 "ViewKeeperModel" "forms" "[I", .fieldLink RX3 19 "ViewKeeperModel" "second" "[I", .fieldLink RX3 7 "ViewKeeperModel" "heads" "[I", .fieldLink RX3 37 "ViewKeeperModel" "need" "[Z"] ++ wsX30)
def wsX3_instances : List Cond := .code yX3_instances cX3_instances 8 (some .int) :: ([.fieldLink RX3 22 "ViewKeeperModel" "now" "[I", .fieldLink RX3 16 "ViewKeeperModel" "first" "[I", .fieldLink RX3 19 "ViewKeeperModel" "second" "[I", .fieldLink RX3 13 "ViewKeeperModel" "forms" "[I", .methodLink RX3 48 yX3_in, .static yX3_in, .initialized RX3, .code yX3_in cX3_in 3 (some .boolean)] ++ wsX30)
def wsX3_instancesOf : List Cond := .code yX3_instancesOf cX3_instancesOf 6 (some .int) :: ([.fieldLink RX3 44 "ViewKeeperModel" "count" "I", .fieldLink RX3 7 "ViewKeeperModel" "heads" "[I", .methodLink RX3 52 yX3_instances, .instanceMethod yX3_instances, .selects RX3 yX3_instances yX3_instances, .initialized RX3, .code yX3_instances cX3_instances 8 (some .int), .fieldLink RX3 22 "ViewKeeperModel" "now" "[I", .fieldLink RX3 16 "ViewKeeperModel" "first" "[I", .fieldLink RX3 19 "ViewKeeperModel" "second" "[I", .fieldLink RX3 13 "ViewKeeperModel" "forms" "[I", .methodLink RX3 48 yX3_in, .static yX3_in, .code yX3_in cX3_in 3 (some .boolean)] ++ wsX30)
def wsX3_grow : List Cond := .code yX3_grow cX3_grow 5 (some .boolean) :: ([.fieldLink RX3 22 "ViewKeeperModel" "now" "[I", .methodLink RX3 56 yX3_instancesOf, .instanceMethod yX3_instancesOf, .selects RX3 yX3_instancesOf yX3_instancesOf, .initialized RX3, .code yX3_instancesOf cX3_instancesOf 6 (some .int), .fieldLink RX3 44 "ViewKeeperModel" "count" "I", .fieldLink RX3 7 "ViewKeeperModel" "heads" "[I", .methodLink RX3 52 yX3_instances, .instanceMethod yX3_instances, .selects RX3 yX3_instances yX3_instances, .code yX3_instances cX3_instances 8 (some .int), .fieldLink RX3 16 "ViewKeeperModel" "first" "[I", .fieldLink RX3 19 "ViewKeeperModel" "second" "[I", .fieldLink RX3 13 "ViewKeeperModel" "forms" "[I", .methodLink RX3 48 yX3_in, .static yX3_in, .code yX3_in cX3_in 3 (some .boolean), .methodLink RX3 59 yX3_bit, .static yX3_bit, .code yX3_bit cX3_bit 2 (some .int)] ++ wsX30)
def wsX3_together : List Cond := .code yX3_together cX3_together 3 (some .boolean) :: ([.fieldLink RX3 37 "ViewKeeperModel" "need" "[Z"] ++ wsX30)
def wsX3_due : List Cond := .code yX3_due cX3_due 4 (some .boolean) :: ([.fieldLink RX3 41 "ViewKeeperModel" "done" "[Z", .fieldLink RX3 37 "ViewKeeperModel" "need" "[Z", .methodLink RX3 63 yX3_together, .instanceMethod yX3_together, .selects RX3 yX3_together yX3_together, .initialized RX3, .code yX3_together cX3_together 3 (some .boolean)] ++ wsX30)
def wsX3_make_r1 : List Cond := [Cond.fieldLink RX3 41 "ViewKeeperModel" "done" "[Z", Cond.methodLink RX3 63 yX3_together, Cond.instanceMethod yX3_together, Cond.selects RX3 yX3_together yX3_together, Cond.initialized RX3, Cond.code yX3_together cX3_together 3 (some .boolean), Cond.fieldLink RX3 37 "ViewKeeperModel" "need" "[Z", Cond.methodLink RX3 67 yX3_grow, Cond.instanceMethod yX3_grow, Cond.selects RX3 yX3_grow yX3_grow, Cond.code yX3_grow cX3_grow 5 (some .boolean), Cond.fieldLink RX3 22 "ViewKeeperModel" "now" "[I", Cond.methodLink RX3 56 yX3_instancesOf, Cond.instanceMethod yX3_instancesOf, Cond.selects RX3 yX3_instancesOf yX3_instancesOf, Cond.code yX3_instancesOf cX3_instancesOf 6 (some .int), Cond.fieldLink RX3 44 "ViewKeeperModel" "count" "I", Cond.fieldLink RX3 7 "ViewKeeperModel" "heads" "[I", Cond.methodLink RX3 52 yX3_instances, Cond.instanceMethod yX3_instances, Cond.selects RX3 yX3_instances yX3_instances, Cond.code yX3_instances cX3_instances 8 (some .int), Cond.fieldLink RX3 16 "ViewKeeperModel" "first" "[I", Cond.fieldLink RX3 19 "ViewKeeperModel" "second" "[I"]
def wsX3_make_r2 : List Cond := [Cond.fieldLink RX3 13 "ViewKeeperModel" "forms" "[I", Cond.methodLink RX3 48 yX3_in, Cond.static yX3_in, Cond.code yX3_in cX3_in 3 (some .boolean), Cond.methodLink RX3 59 yX3_bit, Cond.static yX3_bit, Cond.code yX3_bit cX3_bit 2 (some .int)]
def wsX3_make : List Cond := .code yX3_make cX3_make 4 none :: ((wsX3_make_r1 ++ wsX3_make_r2) ++ wsX30)
def wsX3_makeAll_r1 : List Cond := [Cond.fieldLink RX3 22 "ViewKeeperModel" "now" "[I", Cond.fieldLink RX3 41 "ViewKeeperModel" "done" "[Z", Cond.methodLink RX3 71 yX3_due, Cond.instanceMethod yX3_due, Cond.selects RX3 yX3_due yX3_due, Cond.initialized RX3, Cond.code yX3_due cX3_due 4 (some .boolean), Cond.fieldLink RX3 37 "ViewKeeperModel" "need" "[Z", Cond.methodLink RX3 63 yX3_together, Cond.instanceMethod yX3_together, Cond.selects RX3 yX3_together yX3_together, Cond.code yX3_together cX3_together 3 (some .boolean), Cond.methodLink RX3 74 yX3_make, Cond.instanceMethod yX3_make, Cond.selects RX3 yX3_make yX3_make, Cond.code yX3_make cX3_make 4 none, Cond.methodLink RX3 67 yX3_grow, Cond.instanceMethod yX3_grow, Cond.selects RX3 yX3_grow yX3_grow, Cond.code yX3_grow cX3_grow 5 (some .boolean), Cond.methodLink RX3 56 yX3_instancesOf, Cond.instanceMethod yX3_instancesOf, Cond.selects RX3 yX3_instancesOf yX3_instancesOf, Cond.code yX3_instancesOf cX3_instancesOf 6 (some .int)]
def wsX3_makeAll_r2 : List Cond := [Cond.fieldLink RX3 44 "ViewKeeperModel" "count" "I", Cond.fieldLink RX3 7 "ViewKeeperModel" "heads" "[I", Cond.methodLink RX3 52 yX3_instances, Cond.instanceMethod yX3_instances, Cond.selects RX3 yX3_instances yX3_instances, Cond.code yX3_instances cX3_instances 8 (some .int), Cond.fieldLink RX3 16 "ViewKeeperModel" "first" "[I", Cond.fieldLink RX3 19 "ViewKeeperModel" "second" "[I", Cond.fieldLink RX3 13 "ViewKeeperModel" "forms" "[I", Cond.methodLink RX3 48 yX3_in, Cond.static yX3_in, Cond.code yX3_in cX3_in 3 (some .boolean), Cond.methodLink RX3 59 yX3_bit, Cond.static yX3_bit, Cond.code yX3_bit cX3_bit 2 (some .int)]
def wsX3_makeAll : List Cond := .code yX3_makeAll cX3_makeAll 3 none :: ((wsX3_makeAll_r1 ++ wsX3_makeAll_r2) ++ wsX30)
def wsX3_anew_r1 : List Cond := [Cond.fieldLink RX3 25 "ViewKeeperModel" "before" "[I", Cond.fieldLink RX3 22 "ViewKeeperModel" "now" "[I", Cond.fieldLink RX3 28 "ViewKeeperModel" "doubt" "[I", Cond.methodLink RX3 78 yX3_makeAll, Cond.instanceMethod yX3_makeAll, Cond.selects RX3 yX3_makeAll yX3_makeAll, Cond.initialized RX3, Cond.code yX3_makeAll cX3_makeAll 3 none, Cond.fieldLink RX3 41 "ViewKeeperModel" "done" "[Z", Cond.methodLink RX3 71 yX3_due, Cond.instanceMethod yX3_due, Cond.selects RX3 yX3_due yX3_due, Cond.code yX3_due cX3_due 4 (some .boolean), Cond.fieldLink RX3 37 "ViewKeeperModel" "need" "[Z", Cond.methodLink RX3 63 yX3_together, Cond.instanceMethod yX3_together, Cond.selects RX3 yX3_together yX3_together, Cond.code yX3_together cX3_together 3 (some .boolean), Cond.methodLink RX3 74 yX3_make, Cond.instanceMethod yX3_make, Cond.selects RX3 yX3_make yX3_make, Cond.code yX3_make cX3_make 4 none, Cond.methodLink RX3 67 yX3_grow, Cond.instanceMethod yX3_grow]
def wsX3_anew_r2 : List Cond := [Cond.selects RX3 yX3_grow yX3_grow, Cond.code yX3_grow cX3_grow 5 (some .boolean), Cond.methodLink RX3 56 yX3_instancesOf, Cond.instanceMethod yX3_instancesOf, Cond.selects RX3 yX3_instancesOf yX3_instancesOf, Cond.code yX3_instancesOf cX3_instancesOf 6 (some .int), Cond.fieldLink RX3 44 "ViewKeeperModel" "count" "I", Cond.fieldLink RX3 7 "ViewKeeperModel" "heads" "[I", Cond.methodLink RX3 52 yX3_instances, Cond.instanceMethod yX3_instances, Cond.selects RX3 yX3_instances yX3_instances, Cond.code yX3_instances cX3_instances 8 (some .int), Cond.fieldLink RX3 16 "ViewKeeperModel" "first" "[I", Cond.fieldLink RX3 19 "ViewKeeperModel" "second" "[I", Cond.fieldLink RX3 13 "ViewKeeperModel" "forms" "[I", Cond.methodLink RX3 48 yX3_in, Cond.static yX3_in, Cond.code yX3_in cX3_in 3 (some .boolean), Cond.methodLink RX3 59 yX3_bit, Cond.static yX3_bit, Cond.code yX3_bit cX3_bit 2 (some .int)]
def wsX3_anew : List Cond := .code yX3_anew cX3_anew 2 none :: ((wsX3_anew_r1 ++ wsX3_anew_r2) ++ wsX30)
def wsX3_rule_r1 : List Cond := [Cond.fieldLink RX3 44 "ViewKeeperModel" "count" "I", Cond.fieldLink RX3 7 "ViewKeeperModel" "heads" "[I", Cond.fieldLink RX3 13 "ViewKeeperModel" "forms" "[I", Cond.fieldLink RX3 16 "ViewKeeperModel" "first" "[I", Cond.fieldLink RX3 19 "ViewKeeperModel" "second" "[I", Cond.methodLink RX3 81 yX3_within, Cond.static yX3_within, Cond.initialized RX3, Cond.code yX3_within cX3_within 3 (some .boolean), Cond.methodLink RX3 84 yX3_findNeeds, Cond.instanceMethod yX3_findNeeds, Cond.selects RX3 yX3_findNeeds yX3_findNeeds, Cond.code yX3_findNeeds cX3_findNeeds 4 none, Cond.fieldLink RX3 37 "ViewKeeperModel" "need" "[Z", Cond.methodLink RX3 87 yX3_cyclic, Cond.instanceMethod yX3_cyclic, Cond.selects RX3 yX3_cyclic yX3_cyclic, Cond.code yX3_cyclic cX3_cyclic 3 (some .boolean), Cond.methodLink RX3 91 yX3_anew, Cond.instanceMethod yX3_anew, Cond.selects RX3 yX3_anew yX3_anew, Cond.code yX3_anew cX3_anew 2 none, Cond.fieldLink RX3 25 "ViewKeeperModel" "before" "[I", Cond.fieldLink RX3 22 "ViewKeeperModel" "now" "[I"]
def wsX3_rule_r2 : List Cond := [Cond.fieldLink RX3 28 "ViewKeeperModel" "doubt" "[I", Cond.methodLink RX3 78 yX3_makeAll, Cond.instanceMethod yX3_makeAll, Cond.selects RX3 yX3_makeAll yX3_makeAll, Cond.code yX3_makeAll cX3_makeAll 3 none, Cond.fieldLink RX3 41 "ViewKeeperModel" "done" "[Z", Cond.methodLink RX3 71 yX3_due, Cond.instanceMethod yX3_due, Cond.selects RX3 yX3_due yX3_due, Cond.code yX3_due cX3_due 4 (some .boolean), Cond.methodLink RX3 63 yX3_together, Cond.instanceMethod yX3_together, Cond.selects RX3 yX3_together yX3_together, Cond.code yX3_together cX3_together 3 (some .boolean), Cond.methodLink RX3 74 yX3_make, Cond.instanceMethod yX3_make, Cond.selects RX3 yX3_make yX3_make, Cond.code yX3_make cX3_make 4 none, Cond.methodLink RX3 67 yX3_grow, Cond.instanceMethod yX3_grow, Cond.selects RX3 yX3_grow yX3_grow, Cond.code yX3_grow cX3_grow 5 (some .boolean), Cond.methodLink RX3 56 yX3_instancesOf, Cond.instanceMethod yX3_instancesOf]
def wsX3_rule_r3 : List Cond := [Cond.selects RX3 yX3_instancesOf yX3_instancesOf, Cond.code yX3_instancesOf cX3_instancesOf 6 (some .int), Cond.methodLink RX3 52 yX3_instances, Cond.instanceMethod yX3_instances, Cond.selects RX3 yX3_instances yX3_instances, Cond.code yX3_instances cX3_instances 8 (some .int), Cond.methodLink RX3 48 yX3_in, Cond.static yX3_in, Cond.code yX3_in cX3_in 3 (some .boolean), Cond.methodLink RX3 59 yX3_bit, Cond.static yX3_bit, Cond.code yX3_bit cX3_bit 2 (some .int)]
def wsX3_rule : List Cond := .code yX3_rule cX3_rule 5 (some .int) :: ((wsX3_rule_r1 ++ (wsX3_rule_r2 ++ wsX3_rule_r3)) ++ wsX30)
def wsX3_undo_r1 : List Cond := [Cond.fieldLink RX3 44 "ViewKeeperModel" "count" "I", Cond.methodLink RX3 84 yX3_findNeeds, Cond.instanceMethod yX3_findNeeds, Cond.selects RX3 yX3_findNeeds yX3_findNeeds, Cond.initialized RX3, Cond.code yX3_findNeeds cX3_findNeeds 4 none, Cond.fieldLink RX3 37 "ViewKeeperModel" "need" "[Z", Cond.fieldLink RX3 7 "ViewKeeperModel" "heads" "[I", Cond.fieldLink RX3 16 "ViewKeeperModel" "first" "[I", Cond.fieldLink RX3 19 "ViewKeeperModel" "second" "[I", Cond.fieldLink RX3 13 "ViewKeeperModel" "forms" "[I", Cond.methodLink RX3 91 yX3_anew, Cond.instanceMethod yX3_anew, Cond.selects RX3 yX3_anew yX3_anew, Cond.code yX3_anew cX3_anew 2 none, Cond.fieldLink RX3 25 "ViewKeeperModel" "before" "[I", Cond.fieldLink RX3 22 "ViewKeeperModel" "now" "[I", Cond.fieldLink RX3 28 "ViewKeeperModel" "doubt" "[I", Cond.methodLink RX3 78 yX3_makeAll, Cond.instanceMethod yX3_makeAll, Cond.selects RX3 yX3_makeAll yX3_makeAll, Cond.code yX3_makeAll cX3_makeAll 3 none, Cond.fieldLink RX3 41 "ViewKeeperModel" "done" "[Z", Cond.methodLink RX3 71 yX3_due]
def wsX3_undo_r2 : List Cond := [Cond.instanceMethod yX3_due, Cond.selects RX3 yX3_due yX3_due, Cond.code yX3_due cX3_due 4 (some .boolean), Cond.methodLink RX3 63 yX3_together, Cond.instanceMethod yX3_together, Cond.selects RX3 yX3_together yX3_together, Cond.code yX3_together cX3_together 3 (some .boolean), Cond.methodLink RX3 74 yX3_make, Cond.instanceMethod yX3_make, Cond.selects RX3 yX3_make yX3_make, Cond.code yX3_make cX3_make 4 none, Cond.methodLink RX3 67 yX3_grow, Cond.instanceMethod yX3_grow, Cond.selects RX3 yX3_grow yX3_grow, Cond.code yX3_grow cX3_grow 5 (some .boolean), Cond.methodLink RX3 56 yX3_instancesOf, Cond.instanceMethod yX3_instancesOf, Cond.selects RX3 yX3_instancesOf yX3_instancesOf, Cond.code yX3_instancesOf cX3_instancesOf 6 (some .int), Cond.methodLink RX3 52 yX3_instances, Cond.instanceMethod yX3_instances, Cond.selects RX3 yX3_instances yX3_instances, Cond.code yX3_instances cX3_instances 8 (some .int), Cond.methodLink RX3 48 yX3_in]
def wsX3_undo_r3 : List Cond := [Cond.static yX3_in, Cond.code yX3_in cX3_in 3 (some .boolean), Cond.methodLink RX3 59 yX3_bit, Cond.static yX3_bit, Cond.code yX3_bit cX3_bit 2 (some .int)]
def wsX3_undo : List Cond := .code yX3_undo cX3_undo 1 (some .int) :: ((wsX3_undo_r1 ++ (wsX3_undo_r2 ++ wsX3_undo_r3)) ++ wsX30)
def wsX3_stage : List Cond := .code yX3_stage cX3_stage 5 (some .boolean) :: ([.fieldLink RX3 31 "ViewKeeperModel" "staged" "[I", .fieldLink RX3 34 "ViewKeeperModel" "wanted" "[I", .methodLink RX3 81 yX3_within, .static yX3_within, .initialized RX3, .code yX3_within cX3_within 3 (some .boolean), .methodLink RX3 59 yX3_bit, .static yX3_bit, .code yX3_bit cX3_bit 2 (some .int)] ++ wsX30)
def wsX3_taken : List Cond := .code yX3_taken cX3_taken 2 (some .int) :: ([.fieldLink RX3 25 "ViewKeeperModel" "before" "[I", .fieldLink RX3 22 "ViewKeeperModel" "now" "[I"] ++ wsX30)
def wsX3_added : List Cond := .code yX3_added cX3_added 2 (some .int) :: ([.fieldLink RX3 22 "ViewKeeperModel" "now" "[I", .fieldLink RX3 25 "ViewKeeperModel" "before" "[I"] ++ wsX30)
def wsX3_lost : List Cond := .code yX3_lost cX3_lost 6 (some .boolean) :: ([.fieldLink RX3 37 "ViewKeeperModel" "need" "[Z", .fieldLink RX3 28 "ViewKeeperModel" "doubt" "[I", .methodLink RX3 94 yX3_taken, .instanceMethod yX3_taken, .selects RX3 yX3_taken yX3_taken, .initialized RX3, .code yX3_taken cX3_taken 2 (some .int), .fieldLink RX3 25 "ViewKeeperModel" "before" "[I", .fieldLink RX3 22 "ViewKeeperModel" "now" "[I", .methodLink RX3 48 yX3_in, .static yX3_in, .code yX3_in cX3_in 3 (some .boolean)] ++ wsX30)
def wsX3_doubtful : List Cond := .code yX3_doubtful cX3_doubtful 10 (some .boolean) :: ([.fieldLink RX3 7 "ViewKeeperModel" "heads" "[I", .fieldLink RX3 16 "ViewKeeperModel" "first" "[I", .fieldLink RX3 19 "ViewKeeperModel" "second" "[I", .fieldLink RX3 13 "ViewKeeperModel" "forms" "[I", .fieldLink RX3 25 "ViewKeeperModel" "before" "[I", .methodLink RX3 48 yX3_in, .static yX3_in, .initialized RX3, .code yX3_in cX3_in 3 (some .boolean), .methodLink RX3 98 yX3_lost, .instanceMethod yX3_lost, .selects RX3 yX3_lost yX3_lost, .code yX3_lost cX3_lost 6 (some .boolean), .fieldLink RX3 37 "ViewKeeperModel" "need" "[Z", .fieldLink RX3 28 "ViewKeeperModel" "doubt" "[I", .methodLink RX3 94 yX3_taken, .instanceMethod yX3_taken, .selects RX3 yX3_taken yX3_taken, .code yX3_taken cX3_taken 2 (some .int), .fieldLink RX3 22 "ViewKeeperModel" "now" "[I", .methodLink RX3 102 yX3_added, .instanceMethod yX3_added, .selects RX3 yX3_added yX3_added, .code yX3_added cX3_added 2 (some .int)] ++ wsX30)
def wsX3_suspectMore_r1 : List Cond := [Cond.fieldLink RX3 44 "ViewKeeperModel" "count" "I", Cond.fieldLink RX3 7 "ViewKeeperModel" "heads" "[I", Cond.fieldLink RX3 37 "ViewKeeperModel" "need" "[Z", Cond.fieldLink RX3 28 "ViewKeeperModel" "doubt" "[I", Cond.methodLink RX3 48 yX3_in, Cond.static yX3_in, Cond.initialized RX3, Cond.code yX3_in cX3_in 3 (some .boolean), Cond.methodLink RX3 105 yX3_doubtful, Cond.instanceMethod yX3_doubtful, Cond.selects RX3 yX3_doubtful yX3_doubtful, Cond.code yX3_doubtful cX3_doubtful 10 (some .boolean), Cond.fieldLink RX3 16 "ViewKeeperModel" "first" "[I", Cond.fieldLink RX3 19 "ViewKeeperModel" "second" "[I", Cond.fieldLink RX3 13 "ViewKeeperModel" "forms" "[I", Cond.fieldLink RX3 25 "ViewKeeperModel" "before" "[I", Cond.methodLink RX3 98 yX3_lost, Cond.instanceMethod yX3_lost, Cond.selects RX3 yX3_lost yX3_lost, Cond.code yX3_lost cX3_lost 6 (some .boolean), Cond.methodLink RX3 94 yX3_taken, Cond.instanceMethod yX3_taken, Cond.selects RX3 yX3_taken yX3_taken, Cond.code yX3_taken cX3_taken 2 (some .int)]
def wsX3_suspectMore_r2 : List Cond := [Cond.fieldLink RX3 22 "ViewKeeperModel" "now" "[I", Cond.methodLink RX3 102 yX3_added, Cond.instanceMethod yX3_added, Cond.selects RX3 yX3_added yX3_added, Cond.code yX3_added cX3_added 2 (some .int), Cond.methodLink RX3 59 yX3_bit, Cond.static yX3_bit, Cond.code yX3_bit cX3_bit 2 (some .int)]
def wsX3_suspectMore : List Cond := .code yX3_suspectMore cX3_suspectMore 6 (some .boolean) :: ((wsX3_suspectMore_r1 ++ wsX3_suspectMore_r2) ++ wsX30)
def wsX3_commit_r1 : List Cond := [Cond.fieldLink RX3 25 "ViewKeeperModel" "before" "[I", Cond.fieldLink RX3 22 "ViewKeeperModel" "now" "[I", Cond.fieldLink RX3 28 "ViewKeeperModel" "doubt" "[I", Cond.fieldLink RX3 31 "ViewKeeperModel" "staged" "[I", Cond.fieldLink RX3 34 "ViewKeeperModel" "wanted" "[I", Cond.methodLink RX3 78 yX3_makeAll, Cond.instanceMethod yX3_makeAll, Cond.selects RX3 yX3_makeAll yX3_makeAll, Cond.initialized RX3, Cond.code yX3_makeAll cX3_makeAll 3 none, Cond.fieldLink RX3 41 "ViewKeeperModel" "done" "[Z", Cond.methodLink RX3 71 yX3_due, Cond.instanceMethod yX3_due, Cond.selects RX3 yX3_due yX3_due, Cond.code yX3_due cX3_due 4 (some .boolean), Cond.fieldLink RX3 37 "ViewKeeperModel" "need" "[Z", Cond.methodLink RX3 63 yX3_together, Cond.instanceMethod yX3_together, Cond.selects RX3 yX3_together yX3_together, Cond.code yX3_together cX3_together 3 (some .boolean), Cond.methodLink RX3 74 yX3_make, Cond.instanceMethod yX3_make, Cond.selects RX3 yX3_make yX3_make, Cond.code yX3_make cX3_make 4 none]
def wsX3_commit_r2 : List Cond := [Cond.methodLink RX3 67 yX3_grow, Cond.instanceMethod yX3_grow, Cond.selects RX3 yX3_grow yX3_grow, Cond.code yX3_grow cX3_grow 5 (some .boolean), Cond.methodLink RX3 56 yX3_instancesOf, Cond.instanceMethod yX3_instancesOf, Cond.selects RX3 yX3_instancesOf yX3_instancesOf, Cond.code yX3_instancesOf cX3_instancesOf 6 (some .int), Cond.fieldLink RX3 44 "ViewKeeperModel" "count" "I", Cond.fieldLink RX3 7 "ViewKeeperModel" "heads" "[I", Cond.methodLink RX3 52 yX3_instances, Cond.instanceMethod yX3_instances, Cond.selects RX3 yX3_instances yX3_instances, Cond.code yX3_instances cX3_instances 8 (some .int), Cond.fieldLink RX3 16 "ViewKeeperModel" "first" "[I", Cond.fieldLink RX3 19 "ViewKeeperModel" "second" "[I", Cond.fieldLink RX3 13 "ViewKeeperModel" "forms" "[I", Cond.methodLink RX3 48 yX3_in, Cond.static yX3_in, Cond.code yX3_in cX3_in 3 (some .boolean), Cond.methodLink RX3 59 yX3_bit, Cond.static yX3_bit, Cond.code yX3_bit cX3_bit 2 (some .int), Cond.methodLink RX3 108 yX3_suspectMore]
def wsX3_commit_r3 : List Cond := [Cond.instanceMethod yX3_suspectMore, Cond.selects RX3 yX3_suspectMore yX3_suspectMore, Cond.code yX3_suspectMore cX3_suspectMore 6 (some .boolean), Cond.methodLink RX3 105 yX3_doubtful, Cond.instanceMethod yX3_doubtful, Cond.selects RX3 yX3_doubtful yX3_doubtful, Cond.code yX3_doubtful cX3_doubtful 10 (some .boolean), Cond.methodLink RX3 98 yX3_lost, Cond.instanceMethod yX3_lost, Cond.selects RX3 yX3_lost yX3_lost, Cond.code yX3_lost cX3_lost 6 (some .boolean), Cond.methodLink RX3 94 yX3_taken, Cond.instanceMethod yX3_taken, Cond.selects RX3 yX3_taken yX3_taken, Cond.code yX3_taken cX3_taken 2 (some .int), Cond.methodLink RX3 102 yX3_added, Cond.instanceMethod yX3_added, Cond.selects RX3 yX3_added yX3_added, Cond.code yX3_added cX3_added 2 (some .int), Cond.methodLink RX3 111 yX3_ones, Cond.static yX3_ones, Cond.code yX3_ones cX3_ones 3 (some .int)]
def wsX3_commit : List Cond := .code yX3_commit cX3_commit 4 (some .int) :: ((wsX3_commit_r1 ++ (wsX3_commit_r2 ++ wsX3_commit_r3)) ++ wsX30)
def wsX3_abort : List Cond := .code yX3_abort cX3_abort 3 (some .int) :: ([.fieldLink RX3 31 "ViewKeeperModel" "staged" "[I", .fieldLink RX3 34 "ViewKeeperModel" "wanted" "[I", .methodLink RX3 111 yX3_ones, .static yX3_ones, .initialized RX3, .code yX3_ones cX3_ones 3 (some .int)] ++ wsX30)
def wsX3_isPair : List Cond := .code yX3_isPair cX3_isPair 3 (some .boolean) :: ([.methodLink RX3 81 yX3_within, .static yX3_within, .initialized RX3, .code yX3_within cX3_within 3 (some .boolean)])
def wsX3_has : List Cond := .code yX3_has cX3_has 4 (some .boolean) :: ([.fieldLink RX3 22 "ViewKeeperModel" "now" "[I", .methodLink RX3 114 yX3_isPair, .static yX3_isPair, .initialized RX3, .code yX3_isPair cX3_isPair 3 (some .boolean), .methodLink RX3 81 yX3_within, .static yX3_within, .code yX3_within cX3_within 3 (some .boolean), .methodLink RX3 48 yX3_in, .static yX3_in, .code yX3_in cX3_in 3 (some .boolean)] ++ wsX30)
def wsX3_count_r1 : List Cond := [Cond.fieldLink RX3 37 "ViewKeeperModel" "need" "[Z", Cond.fieldLink RX3 22 "ViewKeeperModel" "now" "[I", Cond.methodLink RX3 114 yX3_isPair, Cond.static yX3_isPair, Cond.initialized RX3, Cond.code yX3_isPair cX3_isPair 3 (some .boolean), Cond.methodLink RX3 81 yX3_within, Cond.static yX3_within, Cond.code yX3_within cX3_within 3 (some .boolean), Cond.methodLink RX3 56 yX3_instancesOf, Cond.instanceMethod yX3_instancesOf, Cond.selects RX3 yX3_instancesOf yX3_instancesOf, Cond.code yX3_instancesOf cX3_instancesOf 6 (some .int), Cond.fieldLink RX3 44 "ViewKeeperModel" "count" "I", Cond.fieldLink RX3 7 "ViewKeeperModel" "heads" "[I", Cond.methodLink RX3 52 yX3_instances, Cond.instanceMethod yX3_instances, Cond.selects RX3 yX3_instances yX3_instances, Cond.code yX3_instances cX3_instances 8 (some .int), Cond.fieldLink RX3 16 "ViewKeeperModel" "first" "[I", Cond.fieldLink RX3 19 "ViewKeeperModel" "second" "[I", Cond.fieldLink RX3 13 "ViewKeeperModel" "forms" "[I", Cond.methodLink RX3 48 yX3_in, Cond.static yX3_in]
def wsX3_count_r2 : List Cond := [Cond.code yX3_in cX3_in 3 (some .boolean)]
def wsX3_count : List Cond := .code yX3_count cX3_count 4 (some .int) :: ((wsX3_count_r1 ++ wsX3_count_r2) ++ wsX30)
def wsX3_size : List Cond := .code yX3_size cX3_size 2 (some .int) :: ([.fieldLink RX3 22 "ViewKeeperModel" "now" "[I", .methodLink RX3 81 yX3_within, .static yX3_within, .initialized RX3, .code yX3_within cX3_within 3 (some .boolean), .methodLink RX3 111 yX3_ones, .static yX3_ones, .code yX3_ones cX3_ones 3 (some .int)] ++ wsX30)
def wsX3_recursive : List Cond := .code yX3_recursive cX3_recursive 2 (some .boolean) :: ([.fieldLink RX3 37 "ViewKeeperModel" "need" "[Z", .methodLink RX3 81 yX3_within, .static yX3_within, .initialized RX3, .code yX3_within cX3_within 3 (some .boolean)] ++ wsX30)
def wsX3_needs : List Cond := .code yX3_needs cX3_needs 3 (some .boolean) :: ([.fieldLink RX3 37 "ViewKeeperModel" "need" "[Z", .methodLink RX3 81 yX3_within, .static yX3_within, .initialized RX3, .code yX3_within cX3_within 3 (some .boolean)] ++ wsX30)
def wsX3_rules : List Cond := .code yX3_rules cX3_rules 1 (some .int) :: ([.fieldLink RX3 44 "ViewKeeperModel" "count" "I"] ++ wsX30)
def wsX3_changed : List Cond := .code yX3_changed cX3_changed 3 (some .int) :: ([.fieldLink RX3 28 "ViewKeeperModel" "doubt" "[I", .fieldLink RX3 22 "ViewKeeperModel" "now" "[I", .methodLink RX3 81 yX3_within, .static yX3_within, .initialized RX3, .code yX3_within cX3_within 3 (some .boolean), .methodLink RX3 102 yX3_added, .instanceMethod yX3_added, .selects RX3 yX3_added yX3_added, .code yX3_added cX3_added 2 (some .int), .fieldLink RX3 25 "ViewKeeperModel" "before" "[I", .methodLink RX3 94 yX3_taken, .instanceMethod yX3_taken, .selects RX3 yX3_taken yX3_taken, .code yX3_taken cX3_taken 2 (some .int), .methodLink RX3 111 yX3_ones, .static yX3_ones, .code yX3_ones cX3_ones 3 (some .int)] ++ wsX30)
def wsX3_suspect : List Cond := .code yX3_suspect cX3_suspect 4 (some .boolean) :: ([.fieldLink RX3 28 "ViewKeeperModel" "doubt" "[I", .methodLink RX3 114 yX3_isPair, .static yX3_isPair, .initialized RX3, .code yX3_isPair cX3_isPair 3 (some .boolean), .methodLink RX3 81 yX3_within, .static yX3_within, .code yX3_within cX3_within 3 (some .boolean), .methodLink RX3 48 yX3_in, .static yX3_in, .code yX3_in cX3_in 3 (some .boolean)] ++ wsX30)
def wsL_law_r1 : List Cond := [Cond.classLink RL 7 RX2, Cond.instantiable RX2 6, Cond.initialized RX2, Cond.classLink RL 10 RX3, Cond.instantiable RX3 12, Cond.initialized RX3, Cond.methodLink RL 9 yX2_init, Cond.instanceMethod yX2_init, Cond.code yX2_init cX2_init 1 none, Cond.methodLink RX2 1 objectInit, Cond.instanceMethod objectInit, Cond.code objectInit ⟨#[0xb1]⟩ 1 none, Cond.classLink RX2 7 RX1, Cond.instantiable RX1 3, Cond.initialized RX1, Cond.fieldLink RX2 10 "ViewKeeper" "book" "LViewKeeper$RuleBook;", Cond.arrayClass .int, Cond.fieldLink RX2 16 "ViewKeeper" "now" "[I", Cond.fieldLink RX2 20 "ViewKeeper" "before" "[I", Cond.fieldLink RX2 23 "ViewKeeper" "suspects" "[I", Cond.fieldLink RX2 26 "ViewKeeper" "stagedIn" "[I", Cond.fieldLink RX2 29 "ViewKeeper" "stagedOut" "[I", Cond.instanceMethod yX1_init, Cond.code yX1_init cX1_init 2 none]
def wsL_law_r2 : List Cond := [Cond.methodLink RX1 3 objectInit, Cond.classLink RX1 9 RX0, Cond.fieldLink RX1 11 "ViewKeeper$RuleBook" "rows" "[LViewKeeper$Rule;", Cond.instantiable RX0 4, Cond.initialized RX0, Cond.fieldLink RX1 18 "ViewKeeper$RuleBook" "needed" "[I", Cond.fieldLink RX1 22 "ViewKeeper$RuleBook" "made" "I", Cond.instanceMethod yX0_init, Cond.code yX0_init cX0_init 1 none, Cond.methodLink RX0 3 objectInit, Cond.methodLink RL 12 yX3_init, Cond.instanceMethod yX3_init, Cond.code yX3_init cX3_init 1 none, Cond.methodLink RX3 1 objectInit, Cond.fieldLink RX3 7 "ViewKeeperModel" "heads" "[I", Cond.fieldLink RX3 13 "ViewKeeperModel" "forms" "[I", Cond.fieldLink RX3 16 "ViewKeeperModel" "first" "[I", Cond.fieldLink RX3 19 "ViewKeeperModel" "second" "[I", Cond.fieldLink RX3 22 "ViewKeeperModel" "now" "[I", Cond.fieldLink RX3 25 "ViewKeeperModel" "before" "[I", Cond.fieldLink RX3 28 "ViewKeeperModel" "doubt" "[I", Cond.fieldLink RX3 31 "ViewKeeperModel" "staged" "[I", Cond.fieldLink RX3 34 "ViewKeeperModel" "wanted" "[I", Cond.arrayClass .boolean]
def wsL_law_r3 : List Cond := [Cond.fieldLink RX3 37 "ViewKeeperModel" "need" "[Z", Cond.fieldLink RX3 41 "ViewKeeperModel" "done" "[Z", Cond.methodLink RL 13 yX2_rule, Cond.instanceMethod yX2_rule, Cond.selects RX2 yX2_rule yX2_rule, Cond.code yX2_rule cX2_rule 5 (some .int), Cond.methodLink RX2 32 yX2_isView, Cond.static yX2_isView, Cond.code yX2_isView cX2_isView 1 (some .boolean), Cond.methodLink RX2 36 yX2_isRelation, Cond.static yX2_isRelation, Cond.code yX2_isRelation cX2_isRelation 1 (some .boolean), Cond.instanceMethod yX1_write, Cond.selects RX1 yX1_write yX1_write, Cond.code yX1_write cX1_write 6 none, Cond.methodLink RX1 38 yX1_findNeeded, Cond.instanceMethod yX1_findNeeded, Cond.selects RX1 yX1_findNeeded yX1_findNeeded, Cond.code yX1_findNeeded cX1_findNeeded 3 none, Cond.methodLink RX1 41 yJ7_fill_53178, Cond.static yJ7_fill_53178, Cond.initialized RJ7, Cond.code yJ7_fill_53178 cJ7_fill_53178 4 none, Cond.instanceMethod yX0_body]
def wsL_law_r4 : List Cond := [Cond.selects RX0 yX0_body yX0_body, Cond.code yX0_body cX0_body 1 (some .int), Cond.fieldLink RX0 9 "ViewKeeper$Rule" "form" "I", Cond.fieldLink RX0 15 "ViewKeeper$Rule" "p" "I", Cond.fieldLink RX0 18 "ViewKeeper$Rule" "q" "I", Cond.methodLink RX1 51 yX1_leadsTo, Cond.instanceMethod yX1_leadsTo, Cond.selects RX1 yX1_leadsTo yX1_leadsTo, Cond.code yX1_leadsTo cX1_leadsTo 3 (some .boolean), Cond.instanceMethod yX1_hasCycle, Cond.selects RX1 yX1_hasCycle yX1_hasCycle, Cond.code yX1_hasCycle cX1_hasCycle 3 (some .boolean), Cond.instanceMethod yX1_strikeLast, Cond.selects RX1 yX1_strikeLast yX1_strikeLast, Cond.code yX1_strikeLast cX1_strikeLast 1 none, Cond.methodLink RX2 54 yX2_remakeViews, Cond.instanceMethod yX2_remakeViews, Cond.selects RX2 yX2_remakeViews yX2_remakeViews, Cond.code yX2_remakeViews cX2_remakeViews 2 none, Cond.methodLink RX2 77 yX2_fill, Cond.instanceMethod yX2_fill, Cond.selects RX2 yX2_fill yX2_fill, Cond.code yX2_fill cX2_fill 4 none, Cond.methodLink RX2 158 yX2_fillOnce]
def wsL_law_r5 : List Cond := [Cond.instanceMethod yX2_fillOnce, Cond.selects RX2 yX2_fillOnce yX2_fillOnce, Cond.code yX2_fillOnce cX2_fillOnce 6 (some .boolean), Cond.instanceMethod yX1_layerOf, Cond.selects RX1 yX1_layerOf yX1_layerOf, Cond.code yX1_layerOf cX1_layerOf 2 (some .int), Cond.methodLink RX1 55 yJ6_bitCount_0f7a4, Cond.static yJ6_bitCount_0f7a4, Cond.initialized RJ6, Cond.code yJ6_bitCount_0f7a4 cJ6_bitCount_0f7a4 1 (some .int), Cond.constant RJ6 265 (1431655765), Cond.constant RJ6 266 (858993459), Cond.constant RJ6 267 (252645135), Cond.instanceMethod yX0_given, Cond.selects RX0 yX0_given yX0_given, Cond.code yX0_given cX0_given 2 (some .int), Cond.static yX2_turned, Cond.code yX2_turned cX2_turned 4 (some .int), Cond.methodLink RX2 95 yX2_holds, Cond.static yX2_holds, Cond.code yX2_holds cX2_holds 3 (some .boolean), Cond.methodLink RX2 60 yX2_bit, Cond.static yX2_bit, Cond.code yX2_bit cX2_bit 2 (some .int)]
def wsL_law_r6 : List Cond := [Cond.static yX2_joined, Cond.code yX2_joined cX2_joined 5 (some .int), Cond.methodLink RX2 116 yX2_row, Cond.static yX2_row, Cond.code yX2_row cX2_row 2 (some .int), Cond.methodLink RX2 64 yX2_forgetChanges, Cond.instanceMethod yX2_forgetChanges, Cond.selects RX2 yX2_forgetChanges yX2_forgetChanges, Cond.code yX2_forgetChanges cX2_forgetChanges 1 none, Cond.methodLink RX2 119 arraycopyName, Cond.native arraycopyName, Cond.static arraycopyName, Cond.initialized "java/lang/System", Cond.methodLink RX2 125 yJ7_fill_53178, Cond.methodLink RL 17 yX3_rule, Cond.instanceMethod yX3_rule, Cond.selects RX3 yX3_rule yX3_rule, Cond.code yX3_rule cX3_rule 5 (some .int), Cond.fieldLink RX3 44 "ViewKeeperModel" "count" "I", Cond.methodLink RX3 81 yX3_within, Cond.static yX3_within, Cond.code yX3_within cX3_within 3 (some .boolean), Cond.methodLink RX3 84 yX3_findNeeds, Cond.instanceMethod yX3_findNeeds]
def wsL_law_r7 : List Cond := [Cond.selects RX3 yX3_findNeeds yX3_findNeeds, Cond.code yX3_findNeeds cX3_findNeeds 4 none, Cond.methodLink RX3 87 yX3_cyclic, Cond.instanceMethod yX3_cyclic, Cond.selects RX3 yX3_cyclic yX3_cyclic, Cond.code yX3_cyclic cX3_cyclic 3 (some .boolean), Cond.methodLink RX3 91 yX3_anew, Cond.instanceMethod yX3_anew, Cond.selects RX3 yX3_anew yX3_anew, Cond.code yX3_anew cX3_anew 2 none, Cond.methodLink RX3 78 yX3_makeAll, Cond.instanceMethod yX3_makeAll, Cond.selects RX3 yX3_makeAll yX3_makeAll, Cond.code yX3_makeAll cX3_makeAll 3 none, Cond.methodLink RX3 71 yX3_due, Cond.instanceMethod yX3_due, Cond.selects RX3 yX3_due yX3_due, Cond.code yX3_due cX3_due 4 (some .boolean), Cond.methodLink RX3 63 yX3_together, Cond.instanceMethod yX3_together, Cond.selects RX3 yX3_together yX3_together, Cond.code yX3_together cX3_together 3 (some .boolean), Cond.methodLink RX3 74 yX3_make, Cond.instanceMethod yX3_make]
def wsL_law_r8 : List Cond := [Cond.selects RX3 yX3_make yX3_make, Cond.code yX3_make cX3_make 4 none, Cond.methodLink RX3 67 yX3_grow, Cond.instanceMethod yX3_grow, Cond.selects RX3 yX3_grow yX3_grow, Cond.code yX3_grow cX3_grow 5 (some .boolean), Cond.methodLink RX3 56 yX3_instancesOf, Cond.instanceMethod yX3_instancesOf, Cond.selects RX3 yX3_instancesOf yX3_instancesOf, Cond.code yX3_instancesOf cX3_instancesOf 6 (some .int), Cond.methodLink RX3 52 yX3_instances, Cond.instanceMethod yX3_instances, Cond.selects RX3 yX3_instances yX3_instances, Cond.code yX3_instances cX3_instances 8 (some .int), Cond.methodLink RX3 48 yX3_in, Cond.static yX3_in, Cond.code yX3_in cX3_in 3 (some .boolean), Cond.methodLink RX3 59 yX3_bit, Cond.static yX3_bit, Cond.code yX3_bit cX3_bit 2 (some .int), Cond.methodLink RL 18 yX2_undo, Cond.instanceMethod yX2_undo, Cond.selects RX2 yX2_undo yX2_undo, Cond.code yX2_undo cX2_undo 1 (some .int)]
def wsL_law_r9 : List Cond := [Cond.methodLink RL 22 yX3_undo, Cond.instanceMethod yX3_undo, Cond.selects RX3 yX3_undo yX3_undo, Cond.code yX3_undo cX3_undo 1 (some .int), Cond.methodLink RL 23 yX2_stage, Cond.instanceMethod yX2_stage, Cond.selects RX2 yX2_stage yX2_stage, Cond.code yX2_stage cX2_stage 6 (some .boolean), Cond.methodLink RX2 57 yX2_isThing, Cond.static yX2_isThing, Cond.code yX2_isThing cX2_isThing 1 (some .boolean), Cond.methodLink RL 27 yX3_stage, Cond.instanceMethod yX3_stage, Cond.selects RX3 yX3_stage yX3_stage, Cond.code yX3_stage cX3_stage 5 (some .boolean), Cond.methodLink RL 28 yX2_commit, Cond.instanceMethod yX2_commit, Cond.selects RX2 yX2_commit yX2_commit, Cond.code yX2_commit cX2_commit 3 (some .int), Cond.methodLink RX2 67 yX2_doStaged, Cond.instanceMethod yX2_doStaged, Cond.selects RX2 yX2_doStaged yX2_doStaged, Cond.code yX2_doStaged cX2_doStaged 2 none, Cond.methodLink RX2 92 yX2_clearStaged]
def wsL_law_r10 : List Cond := [Cond.instanceMethod yX2_clearStaged, Cond.selects RX2 yX2_clearStaged yX2_clearStaged, Cond.code yX2_clearStaged cX2_clearStaged 1 none, Cond.methodLink RX2 70 yX2_findSuspects, Cond.instanceMethod yX2_findSuspects, Cond.selects RX2 yX2_findSuspects yX2_findSuspects, Cond.code yX2_findSuspects cX2_findSuspects 4 none, Cond.methodLink RX2 130 yX2_suspectOnce, Cond.instanceMethod yX2_suspectOnce, Cond.selects RX2 yX2_suspectOnce yX2_suspectOnce, Cond.code yX2_suspectOnce cX2_suspectOnce 6 (some .boolean), Cond.methodLink RX2 136 yX2_suspectsBy, Cond.instanceMethod yX2_suspectsBy, Cond.selects RX2 yX2_suspectsBy yX2_suspectsBy, Cond.code yX2_suspectsBy cX2_suspectsBy 6 (some .int), Cond.methodLink RX2 146 yX2_lostFor, Cond.instanceMethod yX2_lostFor, Cond.selects RX2 yX2_lostFor yX2_lostFor, Cond.code yX2_lostFor cX2_lostFor 3 (some .int), Cond.methodLink RX2 89 yX2_takenOutOf, Cond.instanceMethod yX2_takenOutOf, Cond.selects RX2 yX2_takenOutOf yX2_takenOutOf, Cond.code yX2_takenOutOf cX2_takenOutOf 2 (some .int), Cond.methodLink RX2 152 yX2_turned]
def wsL_law_r11 : List Cond := [Cond.methodLink RX2 155 yX2_joined, Cond.methodLink RX2 80 yX2_putInto, Cond.instanceMethod yX2_putInto, Cond.selects RX2 yX2_putInto yX2_putInto, Cond.code yX2_putInto cX2_putInto 2 (some .int), Cond.methodLink RX2 74 yX2_takeOutDoubtful, Cond.instanceMethod yX2_takeOutDoubtful, Cond.selects RX2 yX2_takeOutDoubtful yX2_takeOutDoubtful, Cond.code yX2_takeOutDoubtful cX2_takeOutDoubtful 3 none, Cond.methodLink RX2 84 yJ6_bitCount_0f7a4, Cond.methodLink RL 31 yX3_commit, Cond.instanceMethod yX3_commit, Cond.selects RX3 yX3_commit yX3_commit, Cond.code yX3_commit cX3_commit 4 (some .int), Cond.methodLink RX3 108 yX3_suspectMore, Cond.instanceMethod yX3_suspectMore, Cond.selects RX3 yX3_suspectMore yX3_suspectMore, Cond.code yX3_suspectMore cX3_suspectMore 6 (some .boolean), Cond.methodLink RX3 105 yX3_doubtful, Cond.instanceMethod yX3_doubtful, Cond.selects RX3 yX3_doubtful yX3_doubtful, Cond.code yX3_doubtful cX3_doubtful 10 (some .boolean), Cond.methodLink RX3 98 yX3_lost, Cond.instanceMethod yX3_lost]
def wsL_law_r12 : List Cond := [Cond.selects RX3 yX3_lost yX3_lost, Cond.code yX3_lost cX3_lost 6 (some .boolean), Cond.methodLink RX3 94 yX3_taken, Cond.instanceMethod yX3_taken, Cond.selects RX3 yX3_taken yX3_taken, Cond.code yX3_taken cX3_taken 2 (some .int), Cond.methodLink RX3 102 yX3_added, Cond.instanceMethod yX3_added, Cond.selects RX3 yX3_added yX3_added, Cond.code yX3_added cX3_added 2 (some .int), Cond.methodLink RX3 111 yX3_ones, Cond.static yX3_ones, Cond.code yX3_ones cX3_ones 3 (some .int), Cond.methodLink RL 32 yX2_abort, Cond.instanceMethod yX2_abort, Cond.selects RX2 yX2_abort yX2_abort, Cond.code yX2_abort cX2_abort 3 (some .int), Cond.methodLink RL 35 yX3_abort, Cond.instanceMethod yX3_abort, Cond.selects RX3 yX3_abort yX3_abort, Cond.code yX3_abort cX3_abort 3 (some .int), Cond.methodLink RL 36 yX2_has, Cond.instanceMethod yX2_has, Cond.selects RX2 yX2_has yX2_has]
def wsL_law_r13 : List Cond := [Cond.code yX2_has cX2_has 4 (some .boolean), Cond.methodLink RL 40 yX3_has, Cond.instanceMethod yX3_has, Cond.selects RX3 yX3_has yX3_has, Cond.code yX3_has cX3_has 4 (some .boolean), Cond.methodLink RX3 114 yX3_isPair, Cond.static yX3_isPair, Cond.code yX3_isPair cX3_isPair 3 (some .boolean), Cond.methodLink RL 41 yX2_count, Cond.instanceMethod yX2_count, Cond.selects RX2 yX2_count yX2_count, Cond.code yX2_count cX2_count 6 (some .int), Cond.instanceMethod yX0_instances, Cond.selects RX0 yX0_instances yX0_instances, Cond.code yX0_instances cX0_instances 6 (some .int), Cond.methodLink RX0 29 yX0_given, Cond.methodLink RL 45 yX3_count, Cond.instanceMethod yX3_count, Cond.selects RX3 yX3_count yX3_count, Cond.code yX3_count cX3_count 4 (some .int), Cond.methodLink RL 46 yX2_size, Cond.instanceMethod yX2_size, Cond.selects RX2 yX2_size yX2_size, Cond.code yX2_size cX2_size 2 (some .int)]
def wsL_law_r14 : List Cond := [Cond.methodLink RL 50 yX3_size, Cond.instanceMethod yX3_size, Cond.selects RX3 yX3_size yX3_size, Cond.code yX3_size cX3_size 2 (some .int), Cond.methodLink RL 51 yX2_recursive, Cond.instanceMethod yX2_recursive, Cond.selects RX2 yX2_recursive yX2_recursive, Cond.code yX2_recursive cX2_recursive 2 (some .boolean), Cond.methodLink RL 55 yX3_recursive, Cond.instanceMethod yX3_recursive, Cond.selects RX3 yX3_recursive yX3_recursive, Cond.code yX3_recursive cX3_recursive 2 (some .boolean), Cond.methodLink RL 56 yX2_needs, Cond.instanceMethod yX2_needs, Cond.selects RX2 yX2_needs yX2_needs, Cond.code yX2_needs cX2_needs 3 (some .boolean), Cond.methodLink RL 60 yX3_needs, Cond.instanceMethod yX3_needs, Cond.selects RX3 yX3_needs yX3_needs, Cond.code yX3_needs cX3_needs 3 (some .boolean), Cond.methodLink RL 61 yX2_rules, Cond.instanceMethod yX2_rules, Cond.selects RX2 yX2_rules yX2_rules, Cond.code yX2_rules cX2_rules 1 (some .int)]
def wsL_law_r15 : List Cond := [Cond.methodLink RL 64 yX3_rules, Cond.instanceMethod yX3_rules, Cond.selects RX3 yX3_rules yX3_rules, Cond.code yX3_rules cX3_rules 1 (some .int), Cond.methodLink RL 65 yX2_changed, Cond.instanceMethod yX2_changed, Cond.selects RX2 yX2_changed yX2_changed, Cond.code yX2_changed cX2_changed 3 (some .int), Cond.methodLink RL 69 yX3_changed, Cond.instanceMethod yX3_changed, Cond.selects RX3 yX3_changed yX3_changed, Cond.code yX3_changed cX3_changed 3 (some .int), Cond.methodLink RL 70 yX2_suspect, Cond.instanceMethod yX2_suspect, Cond.selects RX2 yX2_suspect yX2_suspect, Cond.code yX2_suspect cX2_suspect 4 (some .boolean), Cond.methodLink RL 73 yX3_suspect, Cond.instanceMethod yX3_suspect, Cond.selects RX3 yX3_suspect yX3_suspect, Cond.code yX3_suspect cX3_suspect 4 (some .boolean)]
abbrev vwCl : List vw_C := [(RX0, TX0, 4), (RX1, TX1, 3), (RX2, TX2, 6), (RX3, TX3, 12)]
end
section
theorem dX0_init_0 : decode cX0_init 0 = .ok (.aload_n 0, 1) := by decide +kernel
theorem dX0_init_1 : decode cX0_init 1 = .ok (.invokespecial 3, 3) := by decide +kernel
theorem dX0_init_4 : decode cX0_init 4 = .ok (.return_, 1) := by decide +kernel
theorem dX0_body_0 : decode cX0_body 0 = .ok (.aload_n 0, 1) := by decide +kernel
theorem dX0_body_1 : decode cX0_body 1 = .ok (.getfield 9, 3) := by decide +kernel
theorem dX0_body_4 : decode cX0_body 4 = .ok (.ifCond .eq 11, 3) := by decide +kernel
theorem dX0_body_7 : decode cX0_body 7 = .ok (.aload_n 0, 1) := by decide +kernel
theorem dX0_body_8 : decode cX0_body 8 = .ok (.getfield 9, 3) := by decide +kernel
theorem dX0_body_11 : decode cX0_body 11 = .ok (.iconst 1, 1) := by decide +kernel
theorem dX0_body_12 : decode cX0_body 12 = .ok (.if_icmp .ne 12, 3) := by decide +kernel
theorem dX0_body_15 : decode cX0_body 15 = .ok (.iconst 1, 1) := by decide +kernel
theorem dX0_body_16 : decode cX0_body 16 = .ok (.aload_n 0, 1) := by decide +kernel
theorem dX0_body_17 : decode cX0_body 17 = .ok (.getfield 15, 3) := by decide +kernel
theorem dX0_body_20 : decode cX0_body 20 = .ok (.ishl, 1) := by decide +kernel
theorem dX0_body_21 : decode cX0_body 21 = .ok (.goto 16, 3) := by decide +kernel
theorem dX0_body_24 : decode cX0_body 24 = .ok (.iconst 1, 1) := by decide +kernel
theorem dX0_body_25 : decode cX0_body 25 = .ok (.aload_n 0, 1) := by decide +kernel
theorem dX0_body_26 : decode cX0_body 26 = .ok (.getfield 15, 3) := by decide +kernel
theorem dX0_body_29 : decode cX0_body 29 = .ok (.ishl, 1) := by decide +kernel
theorem dX0_body_30 : decode cX0_body 30 = .ok (.iconst 1, 1) := by decide +kernel
theorem dX0_body_31 : decode cX0_body 31 = .ok (.aload_n 0, 1) := by decide +kernel
theorem dX0_body_32 : decode cX0_body 32 = .ok (.getfield 18, 3) := by decide +kernel
theorem dX0_body_35 : decode cX0_body 35 = .ok (.ishl, 1) := by decide +kernel
theorem dX0_body_36 : decode cX0_body 36 = .ok (.ior, 1) := by decide +kernel
theorem dX0_body_37 : decode cX0_body 37 = .ok (.ireturn, 1) := by decide +kernel
set_option maxRecDepth 20000 in
theorem ggX0_given_X2_turned : GoodIn wsX0_given wsX2_turned := goodIn_r _ [6, 7, 8, 5, 9, 10, 11, 12] (by decide +kernel) (by decide +kernel)
set_option maxRecDepth 20000 in
theorem gX0_given_X2_turned_n21 : GoodIn wsX0_given (wsX2_turned) := ggX0_given_X2_turned
set_option maxRecDepth 20000 in
theorem ggX0_given_X2_joined : GoodIn wsX0_given wsX2_joined := goodIn_r _ [14, 7, 8, 5, 9, 15, 16, 17] (by decide +kernel) (by decide +kernel)
set_option maxRecDepth 20000 in
theorem gX0_given_X2_joined_n25 : GoodIn wsX0_given (wsX2_joined) := ggX0_given_X2_joined
theorem dX0_given_0 : decode cX0_given 0 = .ok (.aload_n 0, 1) := by decide +kernel
theorem dX0_given_1 : decode cX0_given 1 = .ok (.getfield 9, 3) := by decide +kernel
theorem dX0_given_4 : decode cX0_given 4 = .ok (.tableswitch 79 0 3 #[32, 39, 49, 65], 32) := by decide +kernel
theorem dX0_given_36 : decode cX0_given 36 = .ok (.aload_n 1, 1) := by decide +kernel
theorem dX0_given_37 : decode cX0_given 37 = .ok (.aload_n 0, 1) := by decide +kernel
theorem dX0_given_38 : decode cX0_given 38 = .ok (.getfield 15, 3) := by decide +kernel
theorem dX0_given_41 : decode cX0_given 41 = .ok (.iaload, 1) := by decide +kernel
theorem dX0_given_42 : decode cX0_given 42 = .ok (.ireturn, 1) := by decide +kernel
theorem dX0_given_43 : decode cX0_given 43 = .ok (.aload_n 1, 1) := by decide +kernel
theorem dX0_given_44 : decode cX0_given 44 = .ok (.aload_n 0, 1) := by decide +kernel
theorem dX0_given_45 : decode cX0_given 45 = .ok (.getfield 15, 3) := by decide +kernel
theorem dX0_given_48 : decode cX0_given 48 = .ok (.iaload, 1) := by decide +kernel
theorem dX0_given_49 : decode cX0_given 49 = .ok (.invokestatic 21, 3) := by decide +kernel
theorem dX0_given_52 : decode cX0_given 52 = .ok (.ireturn, 1) := by decide +kernel
theorem dX0_given_53 : decode cX0_given 53 = .ok (.aload_n 1, 1) := by decide +kernel
theorem dX0_given_54 : decode cX0_given 54 = .ok (.aload_n 0, 1) := by decide +kernel
theorem dX0_given_55 : decode cX0_given 55 = .ok (.getfield 15, 3) := by decide +kernel
theorem dX0_given_58 : decode cX0_given 58 = .ok (.iaload, 1) := by decide +kernel
theorem dX0_given_59 : decode cX0_given 59 = .ok (.aload_n 1, 1) := by decide +kernel
theorem dX0_given_60 : decode cX0_given 60 = .ok (.aload_n 0, 1) := by decide +kernel
theorem dX0_given_61 : decode cX0_given 61 = .ok (.getfield 18, 3) := by decide +kernel
theorem dX0_given_64 : decode cX0_given 64 = .ok (.iaload, 1) := by decide +kernel
theorem dX0_given_65 : decode cX0_given 65 = .ok (.invokestatic 25, 3) := by decide +kernel
theorem dX0_given_68 : decode cX0_given 68 = .ok (.ireturn, 1) := by decide +kernel
theorem dX0_given_69 : decode cX0_given 69 = .ok (.aload_n 1, 1) := by decide +kernel
theorem dX0_given_70 : decode cX0_given 70 = .ok (.aload_n 0, 1) := by decide +kernel
theorem dX0_given_71 : decode cX0_given 71 = .ok (.getfield 15, 3) := by decide +kernel
theorem dX0_given_74 : decode cX0_given 74 = .ok (.iaload, 1) := by decide +kernel
theorem dX0_given_75 : decode cX0_given 75 = .ok (.aload_n 1, 1) := by decide +kernel
theorem dX0_given_76 : decode cX0_given 76 = .ok (.aload_n 0, 1) := by decide +kernel
theorem dX0_given_77 : decode cX0_given 77 = .ok (.getfield 18, 3) := by decide +kernel
theorem dX0_given_80 : decode cX0_given 80 = .ok (.iaload, 1) := by decide +kernel
theorem dX0_given_81 : decode cX0_given 81 = .ok (.iand, 1) := by decide +kernel
theorem dX0_given_82 : decode cX0_given 82 = .ok (.ireturn, 1) := by decide +kernel
theorem dX0_given_83 : decode cX0_given 83 = .ok (.aload_n 1, 1) := by decide +kernel
theorem dX0_given_84 : decode cX0_given 84 = .ok (.aload_n 0, 1) := by decide +kernel
theorem dX0_given_85 : decode cX0_given 85 = .ok (.getfield 15, 3) := by decide +kernel
theorem dX0_given_88 : decode cX0_given 88 = .ok (.iaload, 1) := by decide +kernel
theorem dX0_given_89 : decode cX0_given 89 = .ok (.aload_n 1, 1) := by decide +kernel
theorem dX0_given_90 : decode cX0_given 90 = .ok (.aload_n 0, 1) := by decide +kernel
theorem dX0_given_91 : decode cX0_given 91 = .ok (.getfield 18, 3) := by decide +kernel
theorem dX0_given_94 : decode cX0_given 94 = .ok (.iaload, 1) := by decide +kernel
theorem dX0_given_95 : decode cX0_given 95 = .ok (.iconst (-1), 1) := by decide +kernel
theorem dX0_given_96 : decode cX0_given 96 = .ok (.ixor, 1) := by decide +kernel
theorem dX0_given_97 : decode cX0_given 97 = .ok (.iand, 1) := by decide +kernel
theorem dX0_given_98 : decode cX0_given 98 = .ok (.ireturn, 1) := by decide +kernel
set_option maxRecDepth 20000 in
theorem ggX0_instances_X0_given : GoodIn wsX0_instances wsX0_given := goodIn_r _ [8, 1, 2, 3, 9, 10, 11, 12, 13, 14, 15, 16, 17, 18, 19, 20, 21, 22, 23, 24, 25, 26] (by decide +kernel) (by decide +kernel)
set_option maxRecDepth 20000 in
theorem gX0_instances_X0_given : GoodIn wsX0_instances (wsV RX0 29 RX0 yX0_given wsX0_given) := goodIn_app (goodIn_of _ (by decide +kernel)) ggX0_instances_X0_given
set_option maxRecDepth 20000 in
theorem ggX0_instances_X2_holds : GoodIn wsX0_instances wsX2_holds := goodIn_r _ [14] (by decide +kernel) (by decide +kernel)
set_option maxRecDepth 20000 in
theorem gX0_instances_X2_holds_n33 : GoodIn wsX0_instances (wsX2_holds) := ggX0_instances_X2_holds
theorem dX0_instances_0 : decode cX0_instances 0 = .ok (.aload_n 0, 1) := by decide +kernel
theorem dX0_instances_1 : decode cX0_instances 1 = .ok (.getfield 9, 3) := by decide +kernel
theorem dX0_instances_4 : decode cX0_instances 4 = .ok (.iconst 2, 1) := by decide +kernel
theorem dX0_instances_5 : decode cX0_instances 5 = .ok (.if_icmp .eq 22, 3) := by decide +kernel
theorem dX0_instances_8 : decode cX0_instances 8 = .ok (.aload_n 0, 1) := by decide +kernel
theorem dX0_instances_9 : decode cX0_instances 9 = .ok (.aload_n 1, 1) := by decide +kernel
theorem dX0_instances_10 : decode cX0_instances 10 = .ok (.invokevirtual 29, 3) := by decide +kernel
theorem dX0_instances_13 : decode cX0_instances 13 = .ok (.iload_n 2, 1) := by decide +kernel
theorem dX0_instances_14 : decode cX0_instances 14 = .ok (.iload_n 3, 1) := by decide +kernel
theorem dX0_instances_15 : decode cX0_instances 15 = .ok (.invokestatic 33, 3) := by decide +kernel
theorem dX0_instances_18 : decode cX0_instances 18 = .ok (.ifCond .eq 7, 3) := by decide +kernel
theorem dX0_instances_21 : decode cX0_instances 21 = .ok (.iconst 1, 1) := by decide +kernel
theorem dX0_instances_22 : decode cX0_instances 22 = .ok (.goto 4, 3) := by decide +kernel
theorem dX0_instances_25 : decode cX0_instances 25 = .ok (.iconst 0, 1) := by decide +kernel
theorem dX0_instances_26 : decode cX0_instances 26 = .ok (.ireturn, 1) := by decide +kernel
theorem dX0_instances_27 : decode cX0_instances 27 = .ok (.iconst 0, 1) := by decide +kernel
theorem dX0_instances_28 : decode cX0_instances 28 = .ok (.istore 4, 2) := by decide +kernel
theorem dX0_instances_30 : decode cX0_instances 30 = .ok (.iconst 0, 1) := by decide +kernel
theorem dX0_instances_31 : decode cX0_instances 31 = .ok (.istore 5, 2) := by decide +kernel
theorem dX0_instances_33 : decode cX0_instances 33 = .ok (.iload 5, 2) := by decide +kernel
theorem dX0_instances_35 : decode cX0_instances 35 = .ok (.iconst 5, 1) := by decide +kernel
theorem dX0_instances_36 : decode cX0_instances 36 = .ok (.if_icmp .ge 42, 3) := by decide +kernel
theorem dX0_instances_39 : decode cX0_instances 39 = .ok (.aload_n 1, 1) := by decide +kernel
theorem dX0_instances_40 : decode cX0_instances 40 = .ok (.aload_n 0, 1) := by decide +kernel
theorem dX0_instances_41 : decode cX0_instances 41 = .ok (.getfield 15, 3) := by decide +kernel
theorem dX0_instances_44 : decode cX0_instances 44 = .ok (.iaload, 1) := by decide +kernel
theorem dX0_instances_45 : decode cX0_instances 45 = .ok (.iload_n 2, 1) := by decide +kernel
theorem dX0_instances_46 : decode cX0_instances 46 = .ok (.iload 5, 2) := by decide +kernel
theorem dX0_instances_48 : decode cX0_instances 48 = .ok (.invokestatic 33, 3) := by decide +kernel
theorem dX0_instances_51 : decode cX0_instances 51 = .ok (.ifCond .eq 21, 3) := by decide +kernel
theorem dX0_instances_54 : decode cX0_instances 54 = .ok (.aload_n 1, 1) := by decide +kernel
theorem dX0_instances_55 : decode cX0_instances 55 = .ok (.aload_n 0, 1) := by decide +kernel
theorem dX0_instances_56 : decode cX0_instances 56 = .ok (.getfield 18, 3) := by decide +kernel
theorem dX0_instances_59 : decode cX0_instances 59 = .ok (.iaload, 1) := by decide +kernel
theorem dX0_instances_60 : decode cX0_instances 60 = .ok (.iload 5, 2) := by decide +kernel
theorem dX0_instances_62 : decode cX0_instances 62 = .ok (.iload_n 3, 1) := by decide +kernel
theorem dX0_instances_63 : decode cX0_instances 63 = .ok (.invokestatic 33, 3) := by decide +kernel
theorem dX0_instances_66 : decode cX0_instances 66 = .ok (.ifCond .eq 6, 3) := by decide +kernel
theorem dX0_instances_69 : decode cX0_instances 69 = .ok (.iinc 4 1, 3) := by decide +kernel
theorem dX0_instances_72 : decode cX0_instances 72 = .ok (.iinc 5 1, 3) := by decide +kernel
theorem dX0_instances_75 : decode cX0_instances 75 = .ok (.goto (-42), 3) := by decide +kernel
theorem dX0_instances_78 : decode cX0_instances 78 = .ok (.iload 4, 2) := by decide +kernel
theorem dX0_instances_80 : decode cX0_instances 80 = .ok (.ireturn, 1) := by decide +kernel
set_option maxRecDepth 20000 in
theorem ggX1_init_X0_init : GoodIn wsX1_init wsX0_init := goodIn_r _ [12, 13, 2, 3] (by decide +kernel) (by decide +kernel)
set_option maxRecDepth 20000 in
theorem gX1_init_X0_init_n17 : GoodIn wsX1_init (wsX0_init) := ggX1_init_X0_init
theorem dX1_init_0 : decode cX1_init 0 = .ok (.aload_n 0, 1) := by decide +kernel
theorem dX1_init_1 : decode cX1_init 1 = .ok (.invokespecial 3, 3) := by decide +kernel
theorem dX1_init_4 : decode cX1_init 4 = .ok (.aload_n 0, 1) := by decide +kernel
theorem dX1_init_5 : decode cX1_init 5 = .ok (.bipush 12, 2) := by decide +kernel
theorem dX1_init_7 : decode cX1_init 7 = .ok (.anewarray 9, 3) := by decide +kernel
theorem dX1_init_10 : decode cX1_init 10 = .ok (.putfield 11, 3) := by decide +kernel
theorem dX1_init_13 : decode cX1_init 13 = .ok (.iconst 0, 1) := by decide +kernel
theorem dX1_init_14 : decode cX1_init 14 = .ok (.istore_n 1, 1) := by decide +kernel
theorem dX1_init_15 : decode cX1_init 15 = .ok (.iload_n 1, 1) := by decide +kernel
theorem dX1_init_16 : decode cX1_init 16 = .ok (.bipush 12, 2) := by decide +kernel
theorem dX1_init_18 : decode cX1_init 18 = .ok (.if_icmp .ge 22, 3) := by decide +kernel
theorem dX1_init_21 : decode cX1_init 21 = .ok (.aload_n 0, 1) := by decide +kernel
theorem dX1_init_22 : decode cX1_init 22 = .ok (.getfield 11, 3) := by decide +kernel
theorem dX1_init_25 : decode cX1_init 25 = .ok (.iload_n 1, 1) := by decide +kernel
theorem dX1_init_26 : decode cX1_init 26 = .ok (.new 9, 3) := by decide +kernel
theorem dX1_init_29 : decode cX1_init 29 = .ok (.dup, 1) := by decide +kernel
theorem dX1_init_30 : decode cX1_init 30 = .ok (.invokespecial 17, 3) := by decide +kernel
theorem dX1_init_33 : decode cX1_init 33 = .ok (.aastore, 1) := by decide +kernel
theorem dX1_init_34 : decode cX1_init 34 = .ok (.iinc 1 1, 3) := by decide +kernel
theorem dX1_init_37 : decode cX1_init 37 = .ok (.goto (-22), 3) := by decide +kernel
theorem dX1_init_40 : decode cX1_init 40 = .ok (.aload_n 0, 1) := by decide +kernel
theorem dX1_init_41 : decode cX1_init 41 = .ok (.bipush 7, 2) := by decide +kernel
theorem dX1_init_43 : decode cX1_init 43 = .ok (.newarray .int, 2) := by decide +kernel
theorem dX1_init_45 : decode cX1_init 45 = .ok (.putfield 18, 3) := by decide +kernel
theorem dX1_init_48 : decode cX1_init 48 = .ok (.aload_n 0, 1) := by decide +kernel
theorem dX1_init_49 : decode cX1_init 49 = .ok (.iconst 0, 1) := by decide +kernel
theorem dX1_init_50 : decode cX1_init 50 = .ok (.putfield 22, 3) := by decide +kernel
theorem dX1_init_53 : decode cX1_init 53 = .ok (.return_, 1) := by decide +kernel
set_option maxRecDepth 20000 in
theorem ggX1_write_X1_findNeeded : GoodIn wsX1_write wsX1_findNeeded := goodIn_r _ [7, 8, 2, 1, 9, 10, 11, 12, 13, 14, 15, 16, 17, 18, 19, 20, 21, 22, 6, 23, 24, 25, 26, 27, 28, 29, 30] (by decide +kernel) (by decide +kernel)
set_option maxRecDepth 20000 in
theorem gX1_write_X1_findNeeded : GoodIn wsX1_write (wsV RX1 38 RX1 yX1_findNeeded wsX1_findNeeded) := goodIn_app (goodIn_of _ (by decide +kernel)) ggX1_write_X1_findNeeded
theorem dX1_write_0 : decode cX1_write 0 = .ok (.aload_n 0, 1) := by decide +kernel
theorem dX1_write_1 : decode cX1_write 1 = .ok (.getfield 11, 3) := by decide +kernel
theorem dX1_write_4 : decode cX1_write 4 = .ok (.aload_n 0, 1) := by decide +kernel
theorem dX1_write_5 : decode cX1_write 5 = .ok (.getfield 22, 3) := by decide +kernel
theorem dX1_write_8 : decode cX1_write 8 = .ok (.aaload, 1) := by decide +kernel
theorem dX1_write_9 : decode cX1_write 9 = .ok (.astore 5, 2) := by decide +kernel
theorem dX1_write_11 : decode cX1_write 11 = .ok (.aload 5, 2) := by decide +kernel
theorem dX1_write_13 : decode cX1_write 13 = .ok (.iload_n 1, 1) := by decide +kernel
theorem dX1_write_14 : decode cX1_write 14 = .ok (.putfield 26, 3) := by decide +kernel
theorem dX1_write_17 : decode cX1_write 17 = .ok (.aload 5, 2) := by decide +kernel
theorem dX1_write_19 : decode cX1_write 19 = .ok (.iload_n 2, 1) := by decide +kernel
theorem dX1_write_20 : decode cX1_write 20 = .ok (.putfield 29, 3) := by decide +kernel
theorem dX1_write_23 : decode cX1_write 23 = .ok (.aload 5, 2) := by decide +kernel
theorem dX1_write_25 : decode cX1_write 25 = .ok (.iload_n 3, 1) := by decide +kernel
theorem dX1_write_26 : decode cX1_write 26 = .ok (.putfield 32, 3) := by decide +kernel
theorem dX1_write_29 : decode cX1_write 29 = .ok (.aload 5, 2) := by decide +kernel
theorem dX1_write_31 : decode cX1_write 31 = .ok (.iload 4, 2) := by decide +kernel
theorem dX1_write_33 : decode cX1_write 33 = .ok (.putfield 35, 3) := by decide +kernel
theorem dX1_write_36 : decode cX1_write 36 = .ok (.aload_n 0, 1) := by decide +kernel
theorem dX1_write_37 : decode cX1_write 37 = .ok (.dup, 1) := by decide +kernel
theorem dX1_write_38 : decode cX1_write 38 = .ok (.getfield 22, 3) := by decide +kernel
theorem dX1_write_41 : decode cX1_write 41 = .ok (.iconst 1, 1) := by decide +kernel
theorem dX1_write_42 : decode cX1_write 42 = .ok (.iadd, 1) := by decide +kernel
theorem dX1_write_43 : decode cX1_write 43 = .ok (.putfield 22, 3) := by decide +kernel
theorem dX1_write_46 : decode cX1_write 46 = .ok (.aload_n 0, 1) := by decide +kernel
theorem dX1_write_47 : decode cX1_write 47 = .ok (.invokevirtual 38, 3) := by decide +kernel
theorem dX1_write_50 : decode cX1_write 50 = .ok (.return_, 1) := by decide +kernel
set_option maxRecDepth 20000 in
theorem ggX1_strikeLast_X1_findNeeded : GoodIn wsX1_strikeLast wsX1_findNeeded := goodIn_r _ [6, 7, 1, 8, 9, 10, 11, 12, 13, 14, 15, 16, 17, 18, 19, 20, 21, 22, 5, 23, 24, 25, 26, 27, 28, 29, 30] (by decide +kernel) (by decide +kernel)
set_option maxRecDepth 20000 in
theorem gX1_strikeLast_X1_findNeeded : GoodIn wsX1_strikeLast (wsV RX1 38 RX1 yX1_findNeeded wsX1_findNeeded) := goodIn_app (goodIn_of _ (by decide +kernel)) ggX1_strikeLast_X1_findNeeded
theorem dX1_strikeLast_0 : decode cX1_strikeLast 0 = .ok (.aload_n 0, 1) := by decide +kernel
theorem dX1_strikeLast_1 : decode cX1_strikeLast 1 = .ok (.dup, 1) := by decide +kernel
theorem dX1_strikeLast_2 : decode cX1_strikeLast 2 = .ok (.getfield 22, 3) := by decide +kernel
theorem dX1_strikeLast_5 : decode cX1_strikeLast 5 = .ok (.iconst 1, 1) := by decide +kernel
theorem dX1_strikeLast_6 : decode cX1_strikeLast 6 = .ok (.isub, 1) := by decide +kernel
theorem dX1_strikeLast_7 : decode cX1_strikeLast 7 = .ok (.putfield 22, 3) := by decide +kernel
theorem dX1_strikeLast_10 : decode cX1_strikeLast 10 = .ok (.aload_n 0, 1) := by decide +kernel
theorem dX1_strikeLast_11 : decode cX1_strikeLast 11 = .ok (.invokevirtual 38, 3) := by decide +kernel
theorem dX1_strikeLast_14 : decode cX1_strikeLast 14 = .ok (.return_, 1) := by decide +kernel
set_option maxRecDepth 20000 in
theorem ggX1_findNeeded_J7_fill_53178 : GoodIn wsX1_findNeeded wsJ7_fill_53178 := goodIn_r _ [7] (by decide +kernel) (by decide +kernel)
set_option maxRecDepth 20000 in
theorem gX1_findNeeded_J7_fill_53178 : GoodIn wsX1_findNeeded (va_wsS RX1 41 yJ7_fill_53178 wsJ7_fill_53178) := goodIn_app (goodIn_of _ (by decide +kernel)) ggX1_findNeeded_J7_fill_53178
set_option maxRecDepth 20000 in
theorem ggX1_findNeeded_X0_body : GoodIn wsX1_findNeeded wsX0_body := goodIn_r _ [11, 12, 13, 14, 23, 24, 25, 26] (by decide +kernel) (by decide +kernel)
set_option maxRecDepth 20000 in
theorem gX1_findNeeded_X0_body_n47 : GoodIn wsX1_findNeeded (wsX0_body) := ggX1_findNeeded_X0_body
set_option maxRecDepth 20000 in
theorem ggX1_findNeeded_X1_leadsTo : GoodIn wsX1_findNeeded wsX1_leadsTo := goodIn_r _ [19, 1, 20, 21, 22] (by decide +kernel) (by decide +kernel)
set_option maxRecDepth 20000 in
theorem gX1_findNeeded_X1_leadsTo : GoodIn wsX1_findNeeded (wsV RX1 51 RX1 yX1_leadsTo wsX1_leadsTo) := goodIn_app (goodIn_of _ (by decide +kernel)) ggX1_findNeeded_X1_leadsTo
theorem dX1_findNeeded_0 : decode cX1_findNeeded 0 = .ok (.aload_n 0, 1) := by decide +kernel
theorem dX1_findNeeded_1 : decode cX1_findNeeded 1 = .ok (.getfield 18, 3) := by decide +kernel
theorem dX1_findNeeded_4 : decode cX1_findNeeded 4 = .ok (.iconst 0, 1) := by decide +kernel
theorem dX1_findNeeded_5 : decode cX1_findNeeded 5 = .ok (.invokestatic 41, 3) := by decide +kernel
theorem dX1_findNeeded_8 : decode cX1_findNeeded 8 = .ok (.iconst 0, 1) := by decide +kernel
theorem dX1_findNeeded_9 : decode cX1_findNeeded 9 = .ok (.istore_n 1, 1) := by decide +kernel
theorem dX1_findNeeded_10 : decode cX1_findNeeded 10 = .ok (.iload_n 1, 1) := by decide +kernel
theorem dX1_findNeeded_11 : decode cX1_findNeeded 11 = .ok (.aload_n 0, 1) := by decide +kernel
theorem dX1_findNeeded_12 : decode cX1_findNeeded 12 = .ok (.getfield 22, 3) := by decide +kernel
theorem dX1_findNeeded_15 : decode cX1_findNeeded 15 = .ok (.if_icmp .ge 35, 3) := by decide +kernel
theorem dX1_findNeeded_18 : decode cX1_findNeeded 18 = .ok (.aload_n 0, 1) := by decide +kernel
theorem dX1_findNeeded_19 : decode cX1_findNeeded 19 = .ok (.getfield 18, 3) := by decide +kernel
theorem dX1_findNeeded_22 : decode cX1_findNeeded 22 = .ok (.aload_n 0, 1) := by decide +kernel
theorem dX1_findNeeded_23 : decode cX1_findNeeded 23 = .ok (.getfield 11, 3) := by decide +kernel
theorem dX1_findNeeded_26 : decode cX1_findNeeded 26 = .ok (.iload_n 1, 1) := by decide +kernel
theorem dX1_findNeeded_27 : decode cX1_findNeeded 27 = .ok (.aaload, 1) := by decide +kernel
theorem dX1_findNeeded_28 : decode cX1_findNeeded 28 = .ok (.getfield 26, 3) := by decide +kernel
theorem dX1_findNeeded_31 : decode cX1_findNeeded 31 = .ok (.dup2, 1) := by decide +kernel
theorem dX1_findNeeded_32 : decode cX1_findNeeded 32 = .ok (.iaload, 1) := by decide +kernel
theorem dX1_findNeeded_33 : decode cX1_findNeeded 33 = .ok (.aload_n 0, 1) := by decide +kernel
theorem dX1_findNeeded_34 : decode cX1_findNeeded 34 = .ok (.getfield 11, 3) := by decide +kernel
theorem dX1_findNeeded_37 : decode cX1_findNeeded 37 = .ok (.iload_n 1, 1) := by decide +kernel
theorem dX1_findNeeded_38 : decode cX1_findNeeded 38 = .ok (.aaload, 1) := by decide +kernel
theorem dX1_findNeeded_39 : decode cX1_findNeeded 39 = .ok (.invokevirtual 47, 3) := by decide +kernel
theorem dX1_findNeeded_42 : decode cX1_findNeeded 42 = .ok (.ior, 1) := by decide +kernel
theorem dX1_findNeeded_43 : decode cX1_findNeeded 43 = .ok (.iastore, 1) := by decide +kernel
theorem dX1_findNeeded_44 : decode cX1_findNeeded 44 = .ok (.iinc 1 1, 3) := by decide +kernel
theorem dX1_findNeeded_47 : decode cX1_findNeeded 47 = .ok (.goto (-37), 3) := by decide +kernel
theorem dX1_findNeeded_50 : decode cX1_findNeeded 50 = .ok (.iconst 2, 1) := by decide +kernel
theorem dX1_findNeeded_51 : decode cX1_findNeeded 51 = .ok (.istore_n 1, 1) := by decide +kernel
theorem dX1_findNeeded_52 : decode cX1_findNeeded 52 = .ok (.iload_n 1, 1) := by decide +kernel
theorem dX1_findNeeded_53 : decode cX1_findNeeded 53 = .ok (.bipush 7, 2) := by decide +kernel
theorem dX1_findNeeded_55 : decode cX1_findNeeded 55 = .ok (.if_icmp .ge 47, 3) := by decide +kernel
theorem dX1_findNeeded_58 : decode cX1_findNeeded 58 = .ok (.iconst 2, 1) := by decide +kernel
theorem dX1_findNeeded_59 : decode cX1_findNeeded 59 = .ok (.istore_n 2, 1) := by decide +kernel
theorem dX1_findNeeded_60 : decode cX1_findNeeded 60 = .ok (.iload_n 2, 1) := by decide +kernel
theorem dX1_findNeeded_61 : decode cX1_findNeeded 61 = .ok (.bipush 7, 2) := by decide +kernel
theorem dX1_findNeeded_63 : decode cX1_findNeeded 63 = .ok (.if_icmp .ge 33, 3) := by decide +kernel
theorem dX1_findNeeded_66 : decode cX1_findNeeded 66 = .ok (.aload_n 0, 1) := by decide +kernel
theorem dX1_findNeeded_67 : decode cX1_findNeeded 67 = .ok (.iload_n 2, 1) := by decide +kernel
theorem dX1_findNeeded_68 : decode cX1_findNeeded 68 = .ok (.iload_n 1, 1) := by decide +kernel
theorem dX1_findNeeded_69 : decode cX1_findNeeded 69 = .ok (.invokevirtual 51, 3) := by decide +kernel
theorem dX1_findNeeded_72 : decode cX1_findNeeded 72 = .ok (.ifCond .eq 18, 3) := by decide +kernel
theorem dX1_findNeeded_75 : decode cX1_findNeeded 75 = .ok (.aload_n 0, 1) := by decide +kernel
theorem dX1_findNeeded_76 : decode cX1_findNeeded 76 = .ok (.getfield 18, 3) := by decide +kernel
theorem dX1_findNeeded_79 : decode cX1_findNeeded 79 = .ok (.iload_n 2, 1) := by decide +kernel
theorem dX1_findNeeded_80 : decode cX1_findNeeded 80 = .ok (.dup2, 1) := by decide +kernel
theorem dX1_findNeeded_81 : decode cX1_findNeeded 81 = .ok (.iaload, 1) := by decide +kernel
theorem dX1_findNeeded_82 : decode cX1_findNeeded 82 = .ok (.aload_n 0, 1) := by decide +kernel
theorem dX1_findNeeded_83 : decode cX1_findNeeded 83 = .ok (.getfield 18, 3) := by decide +kernel
theorem dX1_findNeeded_86 : decode cX1_findNeeded 86 = .ok (.iload_n 1, 1) := by decide +kernel
theorem dX1_findNeeded_87 : decode cX1_findNeeded 87 = .ok (.iaload, 1) := by decide +kernel
theorem dX1_findNeeded_88 : decode cX1_findNeeded 88 = .ok (.ior, 1) := by decide +kernel
theorem dX1_findNeeded_89 : decode cX1_findNeeded 89 = .ok (.iastore, 1) := by decide +kernel
theorem dX1_findNeeded_90 : decode cX1_findNeeded 90 = .ok (.iinc 2 1, 3) := by decide +kernel
theorem dX1_findNeeded_93 : decode cX1_findNeeded 93 = .ok (.goto (-33), 3) := by decide +kernel
theorem dX1_findNeeded_96 : decode cX1_findNeeded 96 = .ok (.iinc 1 1, 3) := by decide +kernel
theorem dX1_findNeeded_99 : decode cX1_findNeeded 99 = .ok (.goto (-47), 3) := by decide +kernel
theorem dX1_findNeeded_102 : decode cX1_findNeeded 102 = .ok (.return_, 1) := by decide +kernel
theorem dX1_leadsTo_0 : decode cX1_leadsTo 0 = .ok (.aload_n 0, 1) := by decide +kernel
theorem dX1_leadsTo_1 : decode cX1_leadsTo 1 = .ok (.getfield 18, 3) := by decide +kernel
theorem dX1_leadsTo_4 : decode cX1_leadsTo 4 = .ok (.iload_n 1, 1) := by decide +kernel
theorem dX1_leadsTo_5 : decode cX1_leadsTo 5 = .ok (.iaload, 1) := by decide +kernel
theorem dX1_leadsTo_6 : decode cX1_leadsTo 6 = .ok (.iconst 1, 1) := by decide +kernel
theorem dX1_leadsTo_7 : decode cX1_leadsTo 7 = .ok (.iload_n 2, 1) := by decide +kernel
theorem dX1_leadsTo_8 : decode cX1_leadsTo 8 = .ok (.ishl, 1) := by decide +kernel
theorem dX1_leadsTo_9 : decode cX1_leadsTo 9 = .ok (.iand, 1) := by decide +kernel
theorem dX1_leadsTo_10 : decode cX1_leadsTo 10 = .ok (.ifCond .eq 7, 3) := by decide +kernel
theorem dX1_leadsTo_13 : decode cX1_leadsTo 13 = .ok (.iconst 1, 1) := by decide +kernel
theorem dX1_leadsTo_14 : decode cX1_leadsTo 14 = .ok (.goto 4, 3) := by decide +kernel
theorem dX1_leadsTo_17 : decode cX1_leadsTo 17 = .ok (.iconst 0, 1) := by decide +kernel
theorem dX1_leadsTo_18 : decode cX1_leadsTo 18 = .ok (.ireturn, 1) := by decide +kernel
set_option maxRecDepth 20000 in
theorem ggX1_hasCycle_X1_leadsTo : GoodIn wsX1_hasCycle wsX1_leadsTo := goodIn_r _ [7, 8, 9, 10, 11] (by decide +kernel) (by decide +kernel)
set_option maxRecDepth 20000 in
theorem gX1_hasCycle_X1_leadsTo : GoodIn wsX1_hasCycle (wsV RX1 51 RX1 yX1_leadsTo wsX1_leadsTo) := goodIn_app (goodIn_of _ (by decide +kernel)) ggX1_hasCycle_X1_leadsTo
theorem dX1_hasCycle_0 : decode cX1_hasCycle 0 = .ok (.iconst 0, 1) := by decide +kernel
theorem dX1_hasCycle_1 : decode cX1_hasCycle 1 = .ok (.istore_n 1, 1) := by decide +kernel
theorem dX1_hasCycle_2 : decode cX1_hasCycle 2 = .ok (.iload_n 1, 1) := by decide +kernel
theorem dX1_hasCycle_3 : decode cX1_hasCycle 3 = .ok (.aload_n 0, 1) := by decide +kernel
theorem dX1_hasCycle_4 : decode cX1_hasCycle 4 = .ok (.getfield 22, 3) := by decide +kernel
theorem dX1_hasCycle_7 : decode cX1_hasCycle 7 = .ok (.if_icmp .ge 52, 3) := by decide +kernel
theorem dX1_hasCycle_10 : decode cX1_hasCycle 10 = .ok (.aload_n 0, 1) := by decide +kernel
theorem dX1_hasCycle_11 : decode cX1_hasCycle 11 = .ok (.getfield 11, 3) := by decide +kernel
theorem dX1_hasCycle_14 : decode cX1_hasCycle 14 = .ok (.iload_n 1, 1) := by decide +kernel
theorem dX1_hasCycle_15 : decode cX1_hasCycle 15 = .ok (.aaload, 1) := by decide +kernel
theorem dX1_hasCycle_16 : decode cX1_hasCycle 16 = .ok (.astore_n 2, 1) := by decide +kernel
theorem dX1_hasCycle_17 : decode cX1_hasCycle 17 = .ok (.aload_n 2, 1) := by decide +kernel
theorem dX1_hasCycle_18 : decode cX1_hasCycle 18 = .ok (.getfield 29, 3) := by decide +kernel
theorem dX1_hasCycle_21 : decode cX1_hasCycle 21 = .ok (.iconst 4, 1) := by decide +kernel
theorem dX1_hasCycle_22 : decode cX1_hasCycle 22 = .ok (.if_icmp .ne 31, 3) := by decide +kernel
theorem dX1_hasCycle_25 : decode cX1_hasCycle 25 = .ok (.aload_n 2, 1) := by decide +kernel
theorem dX1_hasCycle_26 : decode cX1_hasCycle 26 = .ok (.getfield 35, 3) := by decide +kernel
theorem dX1_hasCycle_29 : decode cX1_hasCycle 29 = .ok (.aload_n 2, 1) := by decide +kernel
theorem dX1_hasCycle_30 : decode cX1_hasCycle 30 = .ok (.getfield 26, 3) := by decide +kernel
theorem dX1_hasCycle_33 : decode cX1_hasCycle 33 = .ok (.if_icmp .eq 18, 3) := by decide +kernel
theorem dX1_hasCycle_36 : decode cX1_hasCycle 36 = .ok (.aload_n 0, 1) := by decide +kernel
theorem dX1_hasCycle_37 : decode cX1_hasCycle 37 = .ok (.aload_n 2, 1) := by decide +kernel
theorem dX1_hasCycle_38 : decode cX1_hasCycle 38 = .ok (.getfield 35, 3) := by decide +kernel
theorem dX1_hasCycle_41 : decode cX1_hasCycle 41 = .ok (.aload_n 2, 1) := by decide +kernel
theorem dX1_hasCycle_42 : decode cX1_hasCycle 42 = .ok (.getfield 26, 3) := by decide +kernel
theorem dX1_hasCycle_45 : decode cX1_hasCycle 45 = .ok (.invokevirtual 51, 3) := by decide +kernel
theorem dX1_hasCycle_48 : decode cX1_hasCycle 48 = .ok (.ifCond .eq 5, 3) := by decide +kernel
theorem dX1_hasCycle_51 : decode cX1_hasCycle 51 = .ok (.iconst 1, 1) := by decide +kernel
theorem dX1_hasCycle_52 : decode cX1_hasCycle 52 = .ok (.ireturn, 1) := by decide +kernel
theorem dX1_hasCycle_53 : decode cX1_hasCycle 53 = .ok (.iinc 1 1, 3) := by decide +kernel
theorem dX1_hasCycle_56 : decode cX1_hasCycle 56 = .ok (.goto (-54), 3) := by decide +kernel
theorem dX1_hasCycle_59 : decode cX1_hasCycle 59 = .ok (.iconst 0, 1) := by decide +kernel
theorem dX1_hasCycle_60 : decode cX1_hasCycle 60 = .ok (.ireturn, 1) := by decide +kernel
set_option maxRecDepth 20000 in
theorem ggX1_layerOf_J6_bitCount_0f7a4 : GoodIn wsX1_layerOf wsJ6_bitCount_0f7a4 := goodIn_r _ [5, 6, 7, 8] (by decide +kernel) (by decide +kernel)
set_option maxRecDepth 20000 in
theorem gX1_layerOf_J6_bitCount_0f7a4 : GoodIn wsX1_layerOf (va_wsS RX1 55 yJ6_bitCount_0f7a4 wsJ6_bitCount_0f7a4) := goodIn_app (goodIn_of _ (by decide +kernel)) ggX1_layerOf_J6_bitCount_0f7a4
theorem dX1_layerOf_0 : decode cX1_layerOf 0 = .ok (.aload_n 0, 1) := by decide +kernel
theorem dX1_layerOf_1 : decode cX1_layerOf 1 = .ok (.getfield 18, 3) := by decide +kernel
theorem dX1_layerOf_4 : decode cX1_layerOf 4 = .ok (.iload_n 1, 1) := by decide +kernel
theorem dX1_layerOf_5 : decode cX1_layerOf 5 = .ok (.iaload, 1) := by decide +kernel
theorem dX1_layerOf_6 : decode cX1_layerOf 6 = .ok (.iconst 1, 1) := by decide +kernel
theorem dX1_layerOf_7 : decode cX1_layerOf 7 = .ok (.iload_n 1, 1) := by decide +kernel
theorem dX1_layerOf_8 : decode cX1_layerOf 8 = .ok (.ishl, 1) := by decide +kernel
theorem dX1_layerOf_9 : decode cX1_layerOf 9 = .ok (.ior, 1) := by decide +kernel
theorem dX1_layerOf_10 : decode cX1_layerOf 10 = .ok (.invokestatic 55, 3) := by decide +kernel
theorem dX1_layerOf_13 : decode cX1_layerOf 13 = .ok (.ireturn, 1) := by decide +kernel
end
section
set_option maxRecDepth 20000 in
theorem ggX2_init_X1_init : GoodIn wsX2_init wsX1_init := goodIn_r _ [15, 16, 2, 3, 17, 18, 19, 20, 8, 21, 22, 23, 24, 25, 26, 27, 28, 35, 36, 37, 38] (by decide +kernel) (by decide +kernel)
set_option maxRecDepth 20000 in
theorem gX2_init_X1_init_n9 : GoodIn wsX2_init (wsX1_init) := ggX2_init_X1_init
theorem dX2_init_0 : decode cX2_init 0 = .ok (.aload_n 0, 1) := by decide +kernel
theorem dX2_init_1 : decode cX2_init 1 = .ok (.invokespecial 1, 3) := by decide +kernel
theorem dX2_init_4 : decode cX2_init 4 = .ok (.aload_n 0, 1) := by decide +kernel
theorem dX2_init_5 : decode cX2_init 5 = .ok (.new 7, 3) := by decide +kernel
theorem dX2_init_8 : decode cX2_init 8 = .ok (.dup, 1) := by decide +kernel
theorem dX2_init_9 : decode cX2_init 9 = .ok (.invokespecial 9, 3) := by decide +kernel
theorem dX2_init_12 : decode cX2_init 12 = .ok (.putfield 10, 3) := by decide +kernel
theorem dX2_init_15 : decode cX2_init 15 = .ok (.aload_n 0, 1) := by decide +kernel
theorem dX2_init_16 : decode cX2_init 16 = .ok (.bipush 7, 2) := by decide +kernel
theorem dX2_init_18 : decode cX2_init 18 = .ok (.newarray .int, 2) := by decide +kernel
theorem dX2_init_20 : decode cX2_init 20 = .ok (.putfield 16, 3) := by decide +kernel
theorem dX2_init_23 : decode cX2_init 23 = .ok (.aload_n 0, 1) := by decide +kernel
theorem dX2_init_24 : decode cX2_init 24 = .ok (.bipush 7, 2) := by decide +kernel
theorem dX2_init_26 : decode cX2_init 26 = .ok (.newarray .int, 2) := by decide +kernel
theorem dX2_init_28 : decode cX2_init 28 = .ok (.putfield 20, 3) := by decide +kernel
theorem dX2_init_31 : decode cX2_init 31 = .ok (.aload_n 0, 1) := by decide +kernel
theorem dX2_init_32 : decode cX2_init 32 = .ok (.bipush 7, 2) := by decide +kernel
theorem dX2_init_34 : decode cX2_init 34 = .ok (.newarray .int, 2) := by decide +kernel
theorem dX2_init_36 : decode cX2_init 36 = .ok (.putfield 23, 3) := by decide +kernel
theorem dX2_init_39 : decode cX2_init 39 = .ok (.aload_n 0, 1) := by decide +kernel
theorem dX2_init_40 : decode cX2_init 40 = .ok (.iconst 2, 1) := by decide +kernel
theorem dX2_init_41 : decode cX2_init 41 = .ok (.newarray .int, 2) := by decide +kernel
theorem dX2_init_43 : decode cX2_init 43 = .ok (.putfield 26, 3) := by decide +kernel
theorem dX2_init_46 : decode cX2_init 46 = .ok (.aload_n 0, 1) := by decide +kernel
theorem dX2_init_47 : decode cX2_init 47 = .ok (.iconst 2, 1) := by decide +kernel
theorem dX2_init_48 : decode cX2_init 48 = .ok (.newarray .int, 2) := by decide +kernel
theorem dX2_init_50 : decode cX2_init 50 = .ok (.putfield 29, 3) := by decide +kernel
theorem dX2_init_53 : decode cX2_init 53 = .ok (.return_, 1) := by decide +kernel
set_option maxRecDepth 20000 in
theorem ggX2_rule_X2_isView : GoodIn wsX2_rule wsX2_isView := goodIn_r _ [5] (by decide +kernel) (by decide +kernel)
set_option maxRecDepth 20000 in
theorem gX2_rule_X2_isView : GoodIn wsX2_rule (va_wsS RX2 32 yX2_isView wsX2_isView) := goodIn_app (goodIn_of _ (by decide +kernel)) ggX2_rule_X2_isView
set_option maxRecDepth 20000 in
theorem ggX2_rule_X2_isRelation : GoodIn wsX2_rule wsX2_isRelation := goodIn_r _ [8] (by decide +kernel) (by decide +kernel)
set_option maxRecDepth 20000 in
theorem gX2_rule_X2_isRelation : GoodIn wsX2_rule (va_wsS RX2 36 yX2_isRelation wsX2_isRelation) := goodIn_app (goodIn_of _ (by decide +kernel)) ggX2_rule_X2_isRelation
set_option maxRecDepth 20000 in
theorem ggX2_rule_X1_write : GoodIn wsX2_rule wsX1_write := goodIn_r _ [12, 13, 14, 15, 16, 17, 10, 18, 19, 20, 21, 22, 23, 24, 25, 26, 27, 28, 29, 30, 31, 32, 33, 34, 97, 98, 99, 100, 101, 102, 103] (by decide +kernel) (by decide +kernel)
set_option maxRecDepth 20000 in
theorem gX2_rule_X1_write_n43 : GoodIn wsX2_rule (wsX1_write) := ggX2_rule_X1_write
set_option maxRecDepth 20000 in
theorem ggX2_rule_X1_hasCycle : GoodIn wsX2_rule wsX1_hasCycle := goodIn_r _ [37, 14, 13, 31, 32, 33, 10, 34, 19, 97, 98, 99, 100, 101, 102, 103] (by decide +kernel) (by decide +kernel)
set_option maxRecDepth 20000 in
theorem gX2_rule_X1_hasCycle_n47 : GoodIn wsX2_rule (wsX1_hasCycle) := ggX2_rule_X1_hasCycle
set_option maxRecDepth 20000 in
theorem ggX2_rule_X1_strikeLast : GoodIn wsX2_rule wsX1_strikeLast := goodIn_r _ [40, 14, 15, 16, 17, 10, 18, 19, 13, 20, 21, 22, 23, 24, 25, 26, 27, 28, 29, 30, 31, 32, 33, 34, 97, 98, 99, 100, 101, 102, 103] (by decide +kernel) (by decide +kernel)
set_option maxRecDepth 20000 in
theorem gX2_rule_X1_strikeLast_n51 : GoodIn wsX2_rule (wsX1_strikeLast) := ggX2_rule_X1_strikeLast
set_option maxRecDepth 20000 in
theorem ggX2_rule_X2_remakeViews : GoodIn wsX2_rule wsX2_remakeViews := goodIn_r _ [44, 45, 46, 47, 48, 4, 49, 50, 51, 52, 53, 1, 54, 10, 55, 56, 19, 57, 58, 59, 60, 61, 62, 63, 64, 25, 65, 66, 28, 29, 30, 67, 68, 69, 70, 71, 72, 73, 74, 75, 76, 77, 78, 79, 80, 81, 82, 83, 84, 85, 86, 87, 88, 89, 90, 21, 22, 23, 91, 92, 93, 94, 95, 96, 97, 98, 99, 100, 101, 102, 103] (by decide +kernel) (by decide +kernel)
set_option maxRecDepth 20000 in
theorem gX2_rule_X2_remakeViews : GoodIn wsX2_rule (wsV RX2 54 RX2 yX2_remakeViews wsX2_remakeViews) := goodIn_app (goodIn_of _ (by decide +kernel)) ggX2_rule_X2_remakeViews
theorem dX2_rule_0 : decode cX2_rule 0 = .ok (.iload_n 1, 1) := by decide +kernel
theorem dX2_rule_1 : decode cX2_rule 1 = .ok (.invokestatic 32, 3) := by decide +kernel
theorem dX2_rule_4 : decode cX2_rule 4 = .ok (.ifCond .eq 27, 3) := by decide +kernel
theorem dX2_rule_7 : decode cX2_rule 7 = .ok (.iload_n 2, 1) := by decide +kernel
theorem dX2_rule_8 : decode cX2_rule 8 = .ok (.ifCond .lt 23, 3) := by decide +kernel
theorem dX2_rule_11 : decode cX2_rule 11 = .ok (.iload_n 2, 1) := by decide +kernel
theorem dX2_rule_12 : decode cX2_rule 12 = .ok (.iconst 4, 1) := by decide +kernel
theorem dX2_rule_13 : decode cX2_rule 13 = .ok (.if_icmp .gt 18, 3) := by decide +kernel
theorem dX2_rule_16 : decode cX2_rule 16 = .ok (.iload_n 3, 1) := by decide +kernel
theorem dX2_rule_17 : decode cX2_rule 17 = .ok (.invokestatic 36, 3) := by decide +kernel
theorem dX2_rule_20 : decode cX2_rule 20 = .ok (.ifCond .eq 11, 3) := by decide +kernel
theorem dX2_rule_23 : decode cX2_rule 23 = .ok (.iload 4, 2) := by decide +kernel
theorem dX2_rule_25 : decode cX2_rule 25 = .ok (.invokestatic 36, 3) := by decide +kernel
theorem dX2_rule_28 : decode cX2_rule 28 = .ok (.ifCond .ne 5, 3) := by decide +kernel
theorem dX2_rule_31 : decode cX2_rule 31 = .ok (.iconst (-1), 1) := by decide +kernel
theorem dX2_rule_32 : decode cX2_rule 32 = .ok (.ireturn, 1) := by decide +kernel
theorem dX2_rule_33 : decode cX2_rule 33 = .ok (.aload_n 0, 1) := by decide +kernel
theorem dX2_rule_34 : decode cX2_rule 34 = .ok (.getfield 10, 3) := by decide +kernel
theorem dX2_rule_37 : decode cX2_rule 37 = .ok (.getfield 39, 3) := by decide +kernel
theorem dX2_rule_40 : decode cX2_rule 40 = .ok (.bipush 12, 2) := by decide +kernel
theorem dX2_rule_42 : decode cX2_rule 42 = .ok (.if_icmp .lt 6, 3) := by decide +kernel
theorem dX2_rule_45 : decode cX2_rule 45 = .ok (.bipush (-2), 2) := by decide +kernel
theorem dX2_rule_47 : decode cX2_rule 47 = .ok (.ireturn, 1) := by decide +kernel
theorem dX2_rule_48 : decode cX2_rule 48 = .ok (.aload_n 0, 1) := by decide +kernel
theorem dX2_rule_49 : decode cX2_rule 49 = .ok (.getfield 10, 3) := by decide +kernel
theorem dX2_rule_52 : decode cX2_rule 52 = .ok (.iload_n 1, 1) := by decide +kernel
theorem dX2_rule_53 : decode cX2_rule 53 = .ok (.iload_n 2, 1) := by decide +kernel
theorem dX2_rule_54 : decode cX2_rule 54 = .ok (.iload_n 3, 1) := by decide +kernel
theorem dX2_rule_55 : decode cX2_rule 55 = .ok (.iload 4, 2) := by decide +kernel
theorem dX2_rule_57 : decode cX2_rule 57 = .ok (.invokevirtual 43, 3) := by decide +kernel
theorem dX2_rule_60 : decode cX2_rule 60 = .ok (.aload_n 0, 1) := by decide +kernel
theorem dX2_rule_61 : decode cX2_rule 61 = .ok (.getfield 10, 3) := by decide +kernel
theorem dX2_rule_64 : decode cX2_rule 64 = .ok (.invokevirtual 47, 3) := by decide +kernel
theorem dX2_rule_67 : decode cX2_rule 67 = .ok (.ifCond .eq 13, 3) := by decide +kernel
theorem dX2_rule_70 : decode cX2_rule 70 = .ok (.aload_n 0, 1) := by decide +kernel
theorem dX2_rule_71 : decode cX2_rule 71 = .ok (.getfield 10, 3) := by decide +kernel
theorem dX2_rule_74 : decode cX2_rule 74 = .ok (.invokevirtual 51, 3) := by decide +kernel
theorem dX2_rule_77 : decode cX2_rule 77 = .ok (.bipush (-3), 2) := by decide +kernel
theorem dX2_rule_79 : decode cX2_rule 79 = .ok (.ireturn, 1) := by decide +kernel
theorem dX2_rule_80 : decode cX2_rule 80 = .ok (.aload_n 0, 1) := by decide +kernel
theorem dX2_rule_81 : decode cX2_rule 81 = .ok (.invokevirtual 54, 3) := by decide +kernel
theorem dX2_rule_84 : decode cX2_rule 84 = .ok (.aload_n 0, 1) := by decide +kernel
theorem dX2_rule_85 : decode cX2_rule 85 = .ok (.getfield 10, 3) := by decide +kernel
theorem dX2_rule_88 : decode cX2_rule 88 = .ok (.getfield 39, 3) := by decide +kernel
theorem dX2_rule_91 : decode cX2_rule 91 = .ok (.iconst 1, 1) := by decide +kernel
theorem dX2_rule_92 : decode cX2_rule 92 = .ok (.isub, 1) := by decide +kernel
theorem dX2_rule_93 : decode cX2_rule 93 = .ok (.ireturn, 1) := by decide +kernel
set_option maxRecDepth 20000 in
theorem ggX2_undo_X1_strikeLast : GoodIn wsX2_undo wsX1_strikeLast := goodIn_r _ [5, 6, 7, 8, 9, 3, 10, 11, 12, 13, 14, 15, 16, 17, 18, 19, 20, 21, 22, 23, 24, 25, 26, 27, 85, 86, 87, 88, 89, 90, 91] (by decide +kernel) (by decide +kernel)
set_option maxRecDepth 20000 in
theorem gX2_undo_X1_strikeLast_n51 : GoodIn wsX2_undo (wsX1_strikeLast) := ggX2_undo_X1_strikeLast
set_option maxRecDepth 20000 in
theorem ggX2_undo_X2_remakeViews : GoodIn wsX2_undo wsX2_remakeViews := goodIn_r _ [32, 33, 34, 35, 36, 31, 37, 38, 39, 40, 41, 1, 42, 3, 43, 44, 11, 45, 46, 47, 48, 49, 50, 51, 52, 18, 53, 54, 21, 22, 23, 55, 56, 57, 58, 59, 60, 61, 62, 63, 64, 65, 66, 67, 68, 69, 70, 71, 72, 73, 74, 75, 76, 77, 78, 14, 15, 16, 79, 80, 81, 82, 83, 84, 85, 86, 87, 88, 89, 90, 91] (by decide +kernel) (by decide +kernel)
set_option maxRecDepth 20000 in
theorem gX2_undo_X2_remakeViews : GoodIn wsX2_undo (wsV RX2 54 RX2 yX2_remakeViews wsX2_remakeViews) := goodIn_app (goodIn_of _ (by decide +kernel)) ggX2_undo_X2_remakeViews
theorem dX2_undo_0 : decode cX2_undo 0 = .ok (.aload_n 0, 1) := by decide +kernel
theorem dX2_undo_1 : decode cX2_undo 1 = .ok (.getfield 10, 3) := by decide +kernel
theorem dX2_undo_4 : decode cX2_undo 4 = .ok (.getfield 39, 3) := by decide +kernel
theorem dX2_undo_7 : decode cX2_undo 7 = .ok (.ifCond .ne 5, 3) := by decide +kernel
theorem dX2_undo_10 : decode cX2_undo 10 = .ok (.iconst (-1), 1) := by decide +kernel
theorem dX2_undo_11 : decode cX2_undo 11 = .ok (.ireturn, 1) := by decide +kernel
theorem dX2_undo_12 : decode cX2_undo 12 = .ok (.aload_n 0, 1) := by decide +kernel
theorem dX2_undo_13 : decode cX2_undo 13 = .ok (.getfield 10, 3) := by decide +kernel
theorem dX2_undo_16 : decode cX2_undo 16 = .ok (.invokevirtual 51, 3) := by decide +kernel
theorem dX2_undo_19 : decode cX2_undo 19 = .ok (.aload_n 0, 1) := by decide +kernel
theorem dX2_undo_20 : decode cX2_undo 20 = .ok (.invokevirtual 54, 3) := by decide +kernel
theorem dX2_undo_23 : decode cX2_undo 23 = .ok (.aload_n 0, 1) := by decide +kernel
theorem dX2_undo_24 : decode cX2_undo 24 = .ok (.getfield 10, 3) := by decide +kernel
theorem dX2_undo_27 : decode cX2_undo 27 = .ok (.getfield 39, 3) := by decide +kernel
theorem dX2_undo_30 : decode cX2_undo 30 = .ok (.ireturn, 1) := by decide +kernel
set_option maxRecDepth 20000 in
theorem ggX2_stage_X2_isRelation : GoodIn wsX2_stage wsX2_isRelation := goodIn_r _ [6] (by decide +kernel) (by decide +kernel)
set_option maxRecDepth 20000 in
theorem gX2_stage_X2_isRelation : GoodIn wsX2_stage (va_wsS RX2 36 yX2_isRelation wsX2_isRelation) := goodIn_app (goodIn_of _ (by decide +kernel)) ggX2_stage_X2_isRelation
set_option maxRecDepth 20000 in
theorem ggX2_stage_X2_isView : GoodIn wsX2_stage wsX2_isView := goodIn_r _ [9] (by decide +kernel) (by decide +kernel)
set_option maxRecDepth 20000 in
theorem gX2_stage_X2_isView : GoodIn wsX2_stage (va_wsS RX2 32 yX2_isView wsX2_isView) := goodIn_app (goodIn_of _ (by decide +kernel)) ggX2_stage_X2_isView
set_option maxRecDepth 20000 in
theorem ggX2_stage_X2_isThing : GoodIn wsX2_stage wsX2_isThing := goodIn_r _ [12] (by decide +kernel) (by decide +kernel)
set_option maxRecDepth 20000 in
theorem gX2_stage_X2_isThing : GoodIn wsX2_stage (va_wsS RX2 57 yX2_isThing wsX2_isThing) := goodIn_app (goodIn_of _ (by decide +kernel)) ggX2_stage_X2_isThing
set_option maxRecDepth 20000 in
theorem ggX2_stage_X2_bit : GoodIn wsX2_stage wsX2_bit := goodIn_r _ [15] (by decide +kernel) (by decide +kernel)
set_option maxRecDepth 20000 in
theorem gX2_stage_X2_bit : GoodIn wsX2_stage (va_wsS RX2 60 yX2_bit wsX2_bit) := goodIn_app (goodIn_of _ (by decide +kernel)) ggX2_stage_X2_bit
theorem dX2_stage_0 : decode cX2_stage 0 = .ok (.iload_n 1, 1) := by decide +kernel
theorem dX2_stage_1 : decode cX2_stage 1 = .ok (.invokestatic 36, 3) := by decide +kernel
theorem dX2_stage_4 : decode cX2_stage 4 = .ok (.ifCond .eq 24, 3) := by decide +kernel
theorem dX2_stage_7 : decode cX2_stage 7 = .ok (.iload_n 1, 1) := by decide +kernel
theorem dX2_stage_8 : decode cX2_stage 8 = .ok (.invokestatic 32, 3) := by decide +kernel
theorem dX2_stage_11 : decode cX2_stage 11 = .ok (.ifCond .ne 17, 3) := by decide +kernel
theorem dX2_stage_14 : decode cX2_stage 14 = .ok (.iload_n 2, 1) := by decide +kernel
theorem dX2_stage_15 : decode cX2_stage 15 = .ok (.invokestatic 57, 3) := by decide +kernel
theorem dX2_stage_18 : decode cX2_stage 18 = .ok (.ifCond .eq 10, 3) := by decide +kernel
theorem dX2_stage_21 : decode cX2_stage 21 = .ok (.iload_n 3, 1) := by decide +kernel
theorem dX2_stage_22 : decode cX2_stage 22 = .ok (.invokestatic 57, 3) := by decide +kernel
theorem dX2_stage_25 : decode cX2_stage 25 = .ok (.ifCond .ne 5, 3) := by decide +kernel
theorem dX2_stage_28 : decode cX2_stage 28 = .ok (.iconst 0, 1) := by decide +kernel
theorem dX2_stage_29 : decode cX2_stage 29 = .ok (.ireturn, 1) := by decide +kernel
theorem dX2_stage_30 : decode cX2_stage 30 = .ok (.iload_n 2, 1) := by decide +kernel
theorem dX2_stage_31 : decode cX2_stage 31 = .ok (.iload_n 3, 1) := by decide +kernel
theorem dX2_stage_32 : decode cX2_stage 32 = .ok (.invokestatic 60, 3) := by decide +kernel
theorem dX2_stage_35 : decode cX2_stage 35 = .ok (.istore 5, 2) := by decide +kernel
theorem dX2_stage_37 : decode cX2_stage 37 = .ok (.aload_n 0, 1) := by decide +kernel
theorem dX2_stage_38 : decode cX2_stage 38 = .ok (.getfield 26, 3) := by decide +kernel
theorem dX2_stage_41 : decode cX2_stage 41 = .ok (.iload_n 1, 1) := by decide +kernel
theorem dX2_stage_42 : decode cX2_stage 42 = .ok (.iload 4, 2) := by decide +kernel
theorem dX2_stage_44 : decode cX2_stage 44 = .ok (.ifCond .eq 15, 3) := by decide +kernel
theorem dX2_stage_47 : decode cX2_stage 47 = .ok (.aload_n 0, 1) := by decide +kernel
theorem dX2_stage_48 : decode cX2_stage 48 = .ok (.getfield 26, 3) := by decide +kernel
theorem dX2_stage_51 : decode cX2_stage 51 = .ok (.iload_n 1, 1) := by decide +kernel
theorem dX2_stage_52 : decode cX2_stage 52 = .ok (.iaload, 1) := by decide +kernel
theorem dX2_stage_53 : decode cX2_stage 53 = .ok (.iload 5, 2) := by decide +kernel
theorem dX2_stage_55 : decode cX2_stage 55 = .ok (.ior, 1) := by decide +kernel
theorem dX2_stage_56 : decode cX2_stage 56 = .ok (.goto 14, 3) := by decide +kernel
theorem dX2_stage_59 : decode cX2_stage 59 = .ok (.aload_n 0, 1) := by decide +kernel
theorem dX2_stage_60 : decode cX2_stage 60 = .ok (.getfield 26, 3) := by decide +kernel
theorem dX2_stage_63 : decode cX2_stage 63 = .ok (.iload_n 1, 1) := by decide +kernel
theorem dX2_stage_64 : decode cX2_stage 64 = .ok (.iaload, 1) := by decide +kernel
theorem dX2_stage_65 : decode cX2_stage 65 = .ok (.iload 5, 2) := by decide +kernel
theorem dX2_stage_67 : decode cX2_stage 67 = .ok (.iconst (-1), 1) := by decide +kernel
theorem dX2_stage_68 : decode cX2_stage 68 = .ok (.ixor, 1) := by decide +kernel
theorem dX2_stage_69 : decode cX2_stage 69 = .ok (.iand, 1) := by decide +kernel
theorem dX2_stage_70 : decode cX2_stage 70 = .ok (.iastore, 1) := by decide +kernel
theorem dX2_stage_71 : decode cX2_stage 71 = .ok (.aload_n 0, 1) := by decide +kernel
theorem dX2_stage_72 : decode cX2_stage 72 = .ok (.getfield 29, 3) := by decide +kernel
theorem dX2_stage_75 : decode cX2_stage 75 = .ok (.iload_n 1, 1) := by decide +kernel
theorem dX2_stage_76 : decode cX2_stage 76 = .ok (.iload 4, 2) := by decide +kernel
theorem dX2_stage_78 : decode cX2_stage 78 = .ok (.ifCond .eq 17, 3) := by decide +kernel
theorem dX2_stage_81 : decode cX2_stage 81 = .ok (.aload_n 0, 1) := by decide +kernel
theorem dX2_stage_82 : decode cX2_stage 82 = .ok (.getfield 29, 3) := by decide +kernel
theorem dX2_stage_85 : decode cX2_stage 85 = .ok (.iload_n 1, 1) := by decide +kernel
theorem dX2_stage_86 : decode cX2_stage 86 = .ok (.iaload, 1) := by decide +kernel
theorem dX2_stage_87 : decode cX2_stage 87 = .ok (.iload 5, 2) := by decide +kernel
theorem dX2_stage_89 : decode cX2_stage 89 = .ok (.iconst (-1), 1) := by decide +kernel
theorem dX2_stage_90 : decode cX2_stage 90 = .ok (.ixor, 1) := by decide +kernel
theorem dX2_stage_91 : decode cX2_stage 91 = .ok (.iand, 1) := by decide +kernel
theorem dX2_stage_92 : decode cX2_stage 92 = .ok (.goto 12, 3) := by decide +kernel
theorem dX2_stage_95 : decode cX2_stage 95 = .ok (.aload_n 0, 1) := by decide +kernel
theorem dX2_stage_96 : decode cX2_stage 96 = .ok (.getfield 29, 3) := by decide +kernel
theorem dX2_stage_99 : decode cX2_stage 99 = .ok (.iload_n 1, 1) := by decide +kernel
theorem dX2_stage_100 : decode cX2_stage 100 = .ok (.iaload, 1) := by decide +kernel
theorem dX2_stage_101 : decode cX2_stage 101 = .ok (.iload 5, 2) := by decide +kernel
theorem dX2_stage_103 : decode cX2_stage 103 = .ok (.ior, 1) := by decide +kernel
theorem dX2_stage_104 : decode cX2_stage 104 = .ok (.iastore, 1) := by decide +kernel
theorem dX2_stage_105 : decode cX2_stage 105 = .ok (.iconst 1, 1) := by decide +kernel
theorem dX2_stage_106 : decode cX2_stage 106 = .ok (.ireturn, 1) := by decide +kernel
set_option maxRecDepth 20000 in
theorem ggX2_commit_X2_forgetChanges : GoodIn wsX2_commit wsX2_forgetChanges := goodIn_r _ [5, 6, 7, 8, 9, 10, 11, 12, 13, 14, 15, 16, 102, 103, 104, 105, 106, 107] (by decide +kernel) (by decide +kernel)
set_option maxRecDepth 20000 in
theorem gX2_commit_X2_forgetChanges : GoodIn wsX2_commit (wsV RX2 64 RX2 yX2_forgetChanges wsX2_forgetChanges) := goodIn_app (goodIn_of _ (by decide +kernel)) ggX2_commit_X2_forgetChanges
set_option maxRecDepth 20000 in
theorem ggX2_commit_X2_doStaged : GoodIn wsX2_commit wsX2_doStaged := goodIn_r _ [20, 6, 21, 22, 23, 24, 25, 4, 26, 13, 14, 15, 16, 102, 103, 104, 105, 106, 107] (by decide +kernel) (by decide +kernel)
set_option maxRecDepth 20000 in
theorem gX2_commit_X2_doStaged : GoodIn wsX2_commit (wsV RX2 67 RX2 yX2_doStaged wsX2_doStaged) := goodIn_app (goodIn_of _ (by decide +kernel)) ggX2_commit_X2_doStaged
set_option maxRecDepth 20000 in
theorem ggX2_commit_X2_findSuspects : GoodIn wsX2_commit wsX2_findSuspects := goodIn_r _ [30, 31, 32, 33, 4, 34, 35, 12, 36, 37, 38, 39, 40, 41, 42, 43, 44, 45, 46, 47, 48, 49, 50, 51, 52, 53, 54, 7, 55, 56, 57, 58, 59, 60, 61, 62, 6, 63, 64, 65, 66, 67, 68, 69, 70, 71, 72, 73, 74, 75, 76, 77, 78, 79, 80, 81, 102, 103, 104, 105, 106, 107, 108, 109, 110, 111, 112, 113, 114] (by decide +kernel) (by decide +kernel)
set_option maxRecDepth 20000 in
theorem gX2_commit_X2_findSuspects : GoodIn wsX2_commit (wsV RX2 70 RX2 yX2_findSuspects wsX2_findSuspects) := goodIn_app (goodIn_of _ (by decide +kernel)) ggX2_commit_X2_findSuspects
set_option maxRecDepth 20000 in
theorem ggX2_commit_X2_takeOutDoubtful : GoodIn wsX2_commit wsX2_takeOutDoubtful := goodIn_r _ [85, 35, 6, 12, 36, 37, 38, 39, 40, 41, 42, 43, 44, 45, 46, 47, 48, 49, 50, 102, 103, 104, 105, 106, 107, 108, 109, 110] (by decide +kernel) (by decide +kernel)
set_option maxRecDepth 20000 in
theorem gX2_commit_X2_takeOutDoubtful : GoodIn wsX2_commit (wsV RX2 74 RX2 yX2_takeOutDoubtful wsX2_takeOutDoubtful) := goodIn_app (goodIn_of _ (by decide +kernel)) ggX2_commit_X2_takeOutDoubtful
set_option maxRecDepth 20000 in
theorem ggX2_commit_X2_fill : GoodIn wsX2_commit wsX2_fill := goodIn_r _ [89, 90, 91, 92, 4, 93, 35, 6, 36, 37, 38, 39, 40, 41, 42, 43, 44, 45, 46, 47, 94, 95, 96, 97, 98, 99, 100, 64, 65, 66, 67, 68, 69, 70, 71, 73, 74, 75, 76, 77, 102, 103, 104, 105, 106, 107, 108, 109, 110, 111, 112, 113, 114] (by decide +kernel) (by decide +kernel)
set_option maxRecDepth 20000 in
theorem gX2_commit_X2_fill : GoodIn wsX2_commit (wsV RX2 77 RX2 yX2_fill wsX2_fill) := goodIn_app (goodIn_of _ (by decide +kernel)) ggX2_commit_X2_fill
set_option maxRecDepth 20000 in
theorem ggX2_commit_X2_putInto : GoodIn wsX2_commit wsX2_putInto := goodIn_r _ [81, 6, 7, 102, 103, 104, 105, 106, 107] (by decide +kernel) (by decide +kernel)
set_option maxRecDepth 20000 in
theorem gX2_commit_X2_putInto : GoodIn wsX2_commit (wsV RX2 80 RX2 yX2_putInto wsX2_putInto) := goodIn_app (goodIn_of _ (by decide +kernel)) ggX2_commit_X2_putInto
set_option maxRecDepth 20000 in
theorem ggX2_commit_J6_bitCount_0f7a4 : GoodIn wsX2_commit wsJ6_bitCount_0f7a4 := goodIn_r _ [44, 45, 46, 47] (by decide +kernel) (by decide +kernel)
set_option maxRecDepth 20000 in
theorem gX2_commit_J6_bitCount_0f7a4 : GoodIn wsX2_commit (va_wsS RX2 84 yJ6_bitCount_0f7a4 wsJ6_bitCount_0f7a4) := goodIn_app (goodIn_of _ (by decide +kernel)) ggX2_commit_J6_bitCount_0f7a4
set_option maxRecDepth 20000 in
theorem ggX2_commit_X2_takenOutOf : GoodIn wsX2_commit wsX2_takenOutOf := goodIn_r _ [62, 7, 6, 102, 103, 104, 105, 106, 107] (by decide +kernel) (by decide +kernel)
set_option maxRecDepth 20000 in
theorem gX2_commit_X2_takenOutOf : GoodIn wsX2_commit (wsV RX2 89 RX2 yX2_takenOutOf wsX2_takenOutOf) := goodIn_app (goodIn_of _ (by decide +kernel)) ggX2_commit_X2_takenOutOf
theorem dX2_commit_0 : decode cX2_commit 0 = .ok (.aload_n 0, 1) := by decide +kernel
theorem dX2_commit_1 : decode cX2_commit 1 = .ok (.invokevirtual 64, 3) := by decide +kernel
theorem dX2_commit_4 : decode cX2_commit 4 = .ok (.aload_n 0, 1) := by decide +kernel
theorem dX2_commit_5 : decode cX2_commit 5 = .ok (.invokevirtual 67, 3) := by decide +kernel
theorem dX2_commit_8 : decode cX2_commit 8 = .ok (.iconst 1, 1) := by decide +kernel
theorem dX2_commit_9 : decode cX2_commit 9 = .ok (.istore_n 1, 1) := by decide +kernel
theorem dX2_commit_10 : decode cX2_commit 10 = .ok (.iload_n 1, 1) := by decide +kernel
theorem dX2_commit_11 : decode cX2_commit 11 = .ok (.bipush 7, 2) := by decide +kernel
theorem dX2_commit_13 : decode cX2_commit 13 = .ok (.if_icmp .gt 24, 3) := by decide +kernel
theorem dX2_commit_16 : decode cX2_commit 16 = .ok (.aload_n 0, 1) := by decide +kernel
theorem dX2_commit_17 : decode cX2_commit 17 = .ok (.iload_n 1, 1) := by decide +kernel
theorem dX2_commit_18 : decode cX2_commit 18 = .ok (.invokevirtual 70, 3) := by decide +kernel
theorem dX2_commit_21 : decode cX2_commit 21 = .ok (.aload_n 0, 1) := by decide +kernel
theorem dX2_commit_22 : decode cX2_commit 22 = .ok (.iload_n 1, 1) := by decide +kernel
theorem dX2_commit_23 : decode cX2_commit 23 = .ok (.invokevirtual 74, 3) := by decide +kernel
theorem dX2_commit_26 : decode cX2_commit 26 = .ok (.aload_n 0, 1) := by decide +kernel
theorem dX2_commit_27 : decode cX2_commit 27 = .ok (.iload_n 1, 1) := by decide +kernel
theorem dX2_commit_28 : decode cX2_commit 28 = .ok (.invokevirtual 77, 3) := by decide +kernel
theorem dX2_commit_31 : decode cX2_commit 31 = .ok (.iinc 1 1, 3) := by decide +kernel
theorem dX2_commit_34 : decode cX2_commit 34 = .ok (.goto (-24), 3) := by decide +kernel
theorem dX2_commit_37 : decode cX2_commit 37 = .ok (.iconst 0, 1) := by decide +kernel
theorem dX2_commit_38 : decode cX2_commit 38 = .ok (.istore_n 1, 1) := by decide +kernel
theorem dX2_commit_39 : decode cX2_commit 39 = .ok (.iconst 0, 1) := by decide +kernel
theorem dX2_commit_40 : decode cX2_commit 40 = .ok (.istore_n 2, 1) := by decide +kernel
theorem dX2_commit_41 : decode cX2_commit 41 = .ok (.iload_n 2, 1) := by decide +kernel
theorem dX2_commit_42 : decode cX2_commit 42 = .ok (.bipush 7, 2) := by decide +kernel
theorem dX2_commit_44 : decode cX2_commit 44 = .ok (.if_icmp .ge 29, 3) := by decide +kernel
theorem dX2_commit_47 : decode cX2_commit 47 = .ok (.iload_n 1, 1) := by decide +kernel
theorem dX2_commit_48 : decode cX2_commit 48 = .ok (.aload_n 0, 1) := by decide +kernel
theorem dX2_commit_49 : decode cX2_commit 49 = .ok (.iload_n 2, 1) := by decide +kernel
theorem dX2_commit_50 : decode cX2_commit 50 = .ok (.invokevirtual 80, 3) := by decide +kernel
theorem dX2_commit_53 : decode cX2_commit 53 = .ok (.invokestatic 84, 3) := by decide +kernel
theorem dX2_commit_56 : decode cX2_commit 56 = .ok (.aload_n 0, 1) := by decide +kernel
theorem dX2_commit_57 : decode cX2_commit 57 = .ok (.iload_n 2, 1) := by decide +kernel
theorem dX2_commit_58 : decode cX2_commit 58 = .ok (.invokevirtual 89, 3) := by decide +kernel
theorem dX2_commit_61 : decode cX2_commit 61 = .ok (.invokestatic 84, 3) := by decide +kernel
theorem dX2_commit_64 : decode cX2_commit 64 = .ok (.iadd, 1) := by decide +kernel
theorem dX2_commit_65 : decode cX2_commit 65 = .ok (.iadd, 1) := by decide +kernel
theorem dX2_commit_66 : decode cX2_commit 66 = .ok (.istore_n 1, 1) := by decide +kernel
theorem dX2_commit_67 : decode cX2_commit 67 = .ok (.iinc 2 1, 3) := by decide +kernel
theorem dX2_commit_70 : decode cX2_commit 70 = .ok (.goto (-29), 3) := by decide +kernel
theorem dX2_commit_73 : decode cX2_commit 73 = .ok (.iload_n 1, 1) := by decide +kernel
theorem dX2_commit_74 : decode cX2_commit 74 = .ok (.ireturn, 1) := by decide +kernel
set_option maxRecDepth 20000 in
theorem ggX2_abort_J6_bitCount_0f7a4 : GoodIn wsX2_abort wsJ6_bitCount_0f7a4 := goodIn_r _ [6, 7, 8, 9] (by decide +kernel) (by decide +kernel)
set_option maxRecDepth 20000 in
theorem gX2_abort_J6_bitCount_0f7a4 : GoodIn wsX2_abort (va_wsS RX2 84 yJ6_bitCount_0f7a4 wsJ6_bitCount_0f7a4) := goodIn_app (goodIn_of _ (by decide +kernel)) ggX2_abort_J6_bitCount_0f7a4
set_option maxRecDepth 20000 in
theorem ggX2_abort_X2_clearStaged : GoodIn wsX2_abort wsX2_clearStaged := goodIn_r _ [14, 1, 2, 15, 16, 17, 18, 19, 20, 21, 22, 23, 24] (by decide +kernel) (by decide +kernel)
set_option maxRecDepth 20000 in
theorem gX2_abort_X2_clearStaged : GoodIn wsX2_abort (wsV RX2 92 RX2 yX2_clearStaged wsX2_clearStaged) := goodIn_app (goodIn_of _ (by decide +kernel)) ggX2_abort_X2_clearStaged
theorem dX2_abort_0 : decode cX2_abort 0 = .ok (.iconst 0, 1) := by decide +kernel
theorem dX2_abort_1 : decode cX2_abort 1 = .ok (.istore_n 1, 1) := by decide +kernel
theorem dX2_abort_2 : decode cX2_abort 2 = .ok (.iconst 0, 1) := by decide +kernel
theorem dX2_abort_3 : decode cX2_abort 3 = .ok (.istore_n 2, 1) := by decide +kernel
theorem dX2_abort_4 : decode cX2_abort 4 = .ok (.iload_n 2, 1) := by decide +kernel
theorem dX2_abort_5 : decode cX2_abort 5 = .ok (.iconst 2, 1) := by decide +kernel
theorem dX2_abort_6 : decode cX2_abort 6 = .ok (.if_icmp .ge 31, 3) := by decide +kernel
theorem dX2_abort_9 : decode cX2_abort 9 = .ok (.iload_n 1, 1) := by decide +kernel
theorem dX2_abort_10 : decode cX2_abort 10 = .ok (.aload_n 0, 1) := by decide +kernel
theorem dX2_abort_11 : decode cX2_abort 11 = .ok (.getfield 26, 3) := by decide +kernel
theorem dX2_abort_14 : decode cX2_abort 14 = .ok (.iload_n 2, 1) := by decide +kernel
theorem dX2_abort_15 : decode cX2_abort 15 = .ok (.iaload, 1) := by decide +kernel
theorem dX2_abort_16 : decode cX2_abort 16 = .ok (.invokestatic 84, 3) := by decide +kernel
theorem dX2_abort_19 : decode cX2_abort 19 = .ok (.aload_n 0, 1) := by decide +kernel
theorem dX2_abort_20 : decode cX2_abort 20 = .ok (.getfield 29, 3) := by decide +kernel
theorem dX2_abort_23 : decode cX2_abort 23 = .ok (.iload_n 2, 1) := by decide +kernel
theorem dX2_abort_24 : decode cX2_abort 24 = .ok (.iaload, 1) := by decide +kernel
theorem dX2_abort_25 : decode cX2_abort 25 = .ok (.invokestatic 84, 3) := by decide +kernel
theorem dX2_abort_28 : decode cX2_abort 28 = .ok (.iadd, 1) := by decide +kernel
theorem dX2_abort_29 : decode cX2_abort 29 = .ok (.iadd, 1) := by decide +kernel
theorem dX2_abort_30 : decode cX2_abort 30 = .ok (.istore_n 1, 1) := by decide +kernel
theorem dX2_abort_31 : decode cX2_abort 31 = .ok (.iinc 2 1, 3) := by decide +kernel
theorem dX2_abort_34 : decode cX2_abort 34 = .ok (.goto (-30), 3) := by decide +kernel
theorem dX2_abort_37 : decode cX2_abort 37 = .ok (.aload_n 0, 1) := by decide +kernel
theorem dX2_abort_38 : decode cX2_abort 38 = .ok (.invokevirtual 92, 3) := by decide +kernel
theorem dX2_abort_41 : decode cX2_abort 41 = .ok (.iload_n 1, 1) := by decide +kernel
theorem dX2_abort_42 : decode cX2_abort 42 = .ok (.ireturn, 1) := by decide +kernel
set_option maxRecDepth 20000 in
theorem ggX2_has_X2_isRelation : GoodIn wsX2_has wsX2_isRelation := goodIn_r _ [5] (by decide +kernel) (by decide +kernel)
set_option maxRecDepth 20000 in
theorem gX2_has_X2_isRelation : GoodIn wsX2_has (va_wsS RX2 36 yX2_isRelation wsX2_isRelation) := goodIn_app (goodIn_of _ (by decide +kernel)) ggX2_has_X2_isRelation
set_option maxRecDepth 20000 in
theorem ggX2_has_X2_isThing : GoodIn wsX2_has wsX2_isThing := goodIn_r _ [8] (by decide +kernel) (by decide +kernel)
set_option maxRecDepth 20000 in
theorem gX2_has_X2_isThing : GoodIn wsX2_has (va_wsS RX2 57 yX2_isThing wsX2_isThing) := goodIn_app (goodIn_of _ (by decide +kernel)) ggX2_has_X2_isThing
set_option maxRecDepth 20000 in
theorem ggX2_has_X2_holds : GoodIn wsX2_has wsX2_holds := goodIn_r _ [11] (by decide +kernel) (by decide +kernel)
set_option maxRecDepth 20000 in
theorem gX2_has_X2_holds : GoodIn wsX2_has (va_wsS RX2 95 yX2_holds wsX2_holds) := goodIn_app (goodIn_of _ (by decide +kernel)) ggX2_has_X2_holds
theorem dX2_has_0 : decode cX2_has 0 = .ok (.iload_n 1, 1) := by decide +kernel
theorem dX2_has_1 : decode cX2_has 1 = .ok (.invokestatic 36, 3) := by decide +kernel
theorem dX2_has_4 : decode cX2_has 4 = .ok (.ifCond .eq 35, 3) := by decide +kernel
theorem dX2_has_7 : decode cX2_has 7 = .ok (.iload_n 2, 1) := by decide +kernel
theorem dX2_has_8 : decode cX2_has 8 = .ok (.invokestatic 57, 3) := by decide +kernel
theorem dX2_has_11 : decode cX2_has 11 = .ok (.ifCond .eq 28, 3) := by decide +kernel
theorem dX2_has_14 : decode cX2_has 14 = .ok (.iload_n 3, 1) := by decide +kernel
theorem dX2_has_15 : decode cX2_has 15 = .ok (.invokestatic 57, 3) := by decide +kernel
theorem dX2_has_18 : decode cX2_has 18 = .ok (.ifCond .eq 21, 3) := by decide +kernel
theorem dX2_has_21 : decode cX2_has 21 = .ok (.aload_n 0, 1) := by decide +kernel
theorem dX2_has_22 : decode cX2_has 22 = .ok (.getfield 16, 3) := by decide +kernel
theorem dX2_has_25 : decode cX2_has 25 = .ok (.iload_n 1, 1) := by decide +kernel
theorem dX2_has_26 : decode cX2_has 26 = .ok (.iaload, 1) := by decide +kernel
theorem dX2_has_27 : decode cX2_has 27 = .ok (.iload_n 2, 1) := by decide +kernel
theorem dX2_has_28 : decode cX2_has 28 = .ok (.iload_n 3, 1) := by decide +kernel
theorem dX2_has_29 : decode cX2_has 29 = .ok (.invokestatic 95, 3) := by decide +kernel
theorem dX2_has_32 : decode cX2_has 32 = .ok (.ifCond .eq 7, 3) := by decide +kernel
theorem dX2_has_35 : decode cX2_has 35 = .ok (.iconst 1, 1) := by decide +kernel
theorem dX2_has_36 : decode cX2_has 36 = .ok (.goto 4, 3) := by decide +kernel
theorem dX2_has_39 : decode cX2_has 39 = .ok (.iconst 0, 1) := by decide +kernel
theorem dX2_has_40 : decode cX2_has 40 = .ok (.ireturn, 1) := by decide +kernel
set_option maxRecDepth 20000 in
theorem ggX2_count_X2_isRelation : GoodIn wsX2_count wsX2_isRelation := goodIn_r _ [6] (by decide +kernel) (by decide +kernel)
set_option maxRecDepth 20000 in
theorem gX2_count_X2_isRelation : GoodIn wsX2_count (va_wsS RX2 36 yX2_isRelation wsX2_isRelation) := goodIn_app (goodIn_of _ (by decide +kernel)) ggX2_count_X2_isRelation
set_option maxRecDepth 20000 in
theorem ggX2_count_X2_isThing : GoodIn wsX2_count wsX2_isThing := goodIn_r _ [9] (by decide +kernel) (by decide +kernel)
set_option maxRecDepth 20000 in
theorem gX2_count_X2_isThing : GoodIn wsX2_count (va_wsS RX2 57 yX2_isThing wsX2_isThing) := goodIn_app (goodIn_of _ (by decide +kernel)) ggX2_count_X2_isThing
set_option maxRecDepth 20000 in
theorem ggX2_count_X1_leadsTo : GoodIn wsX2_count wsX1_leadsTo := goodIn_r _ [13, 14, 48, 49, 50] (by decide +kernel) (by decide +kernel)
set_option maxRecDepth 20000 in
theorem gX2_count_X1_leadsTo_n99 : GoodIn wsX2_count (wsX1_leadsTo) := ggX2_count_X1_leadsTo
set_option maxRecDepth 20000 in
theorem ggX2_count_X2_isView : GoodIn wsX2_count wsX2_isView := goodIn_r _ [17] (by decide +kernel) (by decide +kernel)
set_option maxRecDepth 20000 in
theorem gX2_count_X2_isView : GoodIn wsX2_count (va_wsS RX2 32 yX2_isView wsX2_isView) := goodIn_app (goodIn_of _ (by decide +kernel)) ggX2_count_X2_isView
set_option maxRecDepth 20000 in
theorem ggX2_count_X2_holds : GoodIn wsX2_count wsX2_holds := goodIn_r _ [20] (by decide +kernel) (by decide +kernel)
set_option maxRecDepth 20000 in
theorem gX2_count_X2_holds : GoodIn wsX2_count (va_wsS RX2 95 yX2_holds wsX2_holds) := goodIn_app (goodIn_of _ (by decide +kernel)) ggX2_count_X2_holds
set_option maxRecDepth 20000 in
theorem ggX2_count_X0_instances : GoodIn wsX2_count wsX0_instances := goodIn_r _ [24, 25, 26, 27, 28, 29, 30, 22, 31, 32, 5, 33, 18, 19, 20, 34, 35, 36, 37, 38, 39, 40, 41, 51, 52, 53, 54] (by decide +kernel) (by decide +kernel)
set_option maxRecDepth 20000 in
theorem gX2_count_X0_instances_n112 : GoodIn wsX2_count (wsX0_instances) := ggX2_count_X0_instances
theorem dX2_count_0 : decode cX2_count 0 = .ok (.iload_n 1, 1) := by decide +kernel
theorem dX2_count_1 : decode cX2_count 1 = .ok (.invokestatic 36, 3) := by decide +kernel
theorem dX2_count_4 : decode cX2_count 4 = .ok (.ifCond .eq 29, 3) := by decide +kernel
theorem dX2_count_7 : decode cX2_count 7 = .ok (.iload_n 2, 1) := by decide +kernel
theorem dX2_count_8 : decode cX2_count 8 = .ok (.invokestatic 57, 3) := by decide +kernel
theorem dX2_count_11 : decode cX2_count 11 = .ok (.ifCond .eq 22, 3) := by decide +kernel
theorem dX2_count_14 : decode cX2_count 14 = .ok (.iload_n 3, 1) := by decide +kernel
theorem dX2_count_15 : decode cX2_count 15 = .ok (.invokestatic 57, 3) := by decide +kernel
theorem dX2_count_18 : decode cX2_count 18 = .ok (.ifCond .eq 15, 3) := by decide +kernel
theorem dX2_count_21 : decode cX2_count 21 = .ok (.aload_n 0, 1) := by decide +kernel
theorem dX2_count_22 : decode cX2_count 22 = .ok (.getfield 10, 3) := by decide +kernel
theorem dX2_count_25 : decode cX2_count 25 = .ok (.iload_n 1, 1) := by decide +kernel
theorem dX2_count_26 : decode cX2_count 26 = .ok (.iload_n 1, 1) := by decide +kernel
theorem dX2_count_27 : decode cX2_count 27 = .ok (.invokevirtual 99, 3) := by decide +kernel
theorem dX2_count_30 : decode cX2_count 30 = .ok (.ifCond .eq 5, 3) := by decide +kernel
theorem dX2_count_33 : decode cX2_count 33 = .ok (.iconst (-1), 1) := by decide +kernel
theorem dX2_count_34 : decode cX2_count 34 = .ok (.ireturn, 1) := by decide +kernel
theorem dX2_count_35 : decode cX2_count 35 = .ok (.iload_n 1, 1) := by decide +kernel
theorem dX2_count_36 : decode cX2_count 36 = .ok (.invokestatic 32, 3) := by decide +kernel
theorem dX2_count_39 : decode cX2_count 39 = .ok (.ifCond .ne 23, 3) := by decide +kernel
theorem dX2_count_42 : decode cX2_count 42 = .ok (.aload_n 0, 1) := by decide +kernel
theorem dX2_count_43 : decode cX2_count 43 = .ok (.getfield 16, 3) := by decide +kernel
theorem dX2_count_46 : decode cX2_count 46 = .ok (.iload_n 1, 1) := by decide +kernel
theorem dX2_count_47 : decode cX2_count 47 = .ok (.iaload, 1) := by decide +kernel
theorem dX2_count_48 : decode cX2_count 48 = .ok (.iload_n 2, 1) := by decide +kernel
theorem dX2_count_49 : decode cX2_count 49 = .ok (.iload_n 3, 1) := by decide +kernel
theorem dX2_count_50 : decode cX2_count 50 = .ok (.invokestatic 95, 3) := by decide +kernel
theorem dX2_count_53 : decode cX2_count 53 = .ok (.ifCond .eq 7, 3) := by decide +kernel
theorem dX2_count_56 : decode cX2_count 56 = .ok (.iconst 1, 1) := by decide +kernel
theorem dX2_count_57 : decode cX2_count 57 = .ok (.goto 4, 3) := by decide +kernel
theorem dX2_count_60 : decode cX2_count 60 = .ok (.iconst 0, 1) := by decide +kernel
theorem dX2_count_61 : decode cX2_count 61 = .ok (.ireturn, 1) := by decide +kernel
theorem dX2_count_62 : decode cX2_count 62 = .ok (.iconst 0, 1) := by decide +kernel
theorem dX2_count_63 : decode cX2_count 63 = .ok (.istore 4, 2) := by decide +kernel
theorem dX2_count_65 : decode cX2_count 65 = .ok (.iconst 0, 1) := by decide +kernel
theorem dX2_count_66 : decode cX2_count 66 = .ok (.istore 5, 2) := by decide +kernel
theorem dX2_count_68 : decode cX2_count 68 = .ok (.iload 5, 2) := by decide +kernel
theorem dX2_count_70 : decode cX2_count 70 = .ok (.aload_n 0, 1) := by decide +kernel
theorem dX2_count_71 : decode cX2_count 71 = .ok (.getfield 10, 3) := by decide +kernel
theorem dX2_count_74 : decode cX2_count 74 = .ok (.getfield 39, 3) := by decide +kernel
theorem dX2_count_77 : decode cX2_count 77 = .ok (.if_icmp .ge 50, 3) := by decide +kernel
theorem dX2_count_80 : decode cX2_count 80 = .ok (.aload_n 0, 1) := by decide +kernel
theorem dX2_count_81 : decode cX2_count 81 = .ok (.getfield 10, 3) := by decide +kernel
theorem dX2_count_84 : decode cX2_count 84 = .ok (.getfield 103, 3) := by decide +kernel
theorem dX2_count_87 : decode cX2_count 87 = .ok (.iload 5, 2) := by decide +kernel
theorem dX2_count_89 : decode cX2_count 89 = .ok (.aaload, 1) := by decide +kernel
theorem dX2_count_90 : decode cX2_count 90 = .ok (.getfield 107, 3) := by decide +kernel
theorem dX2_count_93 : decode cX2_count 93 = .ok (.iload_n 1, 1) := by decide +kernel
theorem dX2_count_94 : decode cX2_count 94 = .ok (.if_icmp .ne 27, 3) := by decide +kernel
theorem dX2_count_97 : decode cX2_count 97 = .ok (.iload 4, 2) := by decide +kernel
theorem dX2_count_99 : decode cX2_count 99 = .ok (.aload_n 0, 1) := by decide +kernel
theorem dX2_count_100 : decode cX2_count 100 = .ok (.getfield 10, 3) := by decide +kernel
theorem dX2_count_103 : decode cX2_count 103 = .ok (.getfield 103, 3) := by decide +kernel
theorem dX2_count_106 : decode cX2_count 106 = .ok (.iload 5, 2) := by decide +kernel
theorem dX2_count_108 : decode cX2_count 108 = .ok (.aaload, 1) := by decide +kernel
theorem dX2_count_109 : decode cX2_count 109 = .ok (.aload_n 0, 1) := by decide +kernel
theorem dX2_count_110 : decode cX2_count 110 = .ok (.getfield 16, 3) := by decide +kernel
theorem dX2_count_113 : decode cX2_count 113 = .ok (.iload_n 2, 1) := by decide +kernel
theorem dX2_count_114 : decode cX2_count 114 = .ok (.iload_n 3, 1) := by decide +kernel
theorem dX2_count_115 : decode cX2_count 115 = .ok (.invokevirtual 112, 3) := by decide +kernel
theorem dX2_count_118 : decode cX2_count 118 = .ok (.iadd, 1) := by decide +kernel
theorem dX2_count_119 : decode cX2_count 119 = .ok (.istore 4, 2) := by decide +kernel
theorem dX2_count_121 : decode cX2_count 121 = .ok (.iinc 5 1, 3) := by decide +kernel
theorem dX2_count_124 : decode cX2_count 124 = .ok (.goto (-56), 3) := by decide +kernel
theorem dX2_count_127 : decode cX2_count 127 = .ok (.iload 4, 2) := by decide +kernel
theorem dX2_count_129 : decode cX2_count 129 = .ok (.ireturn, 1) := by decide +kernel
set_option maxRecDepth 20000 in
theorem ggX2_size_X2_isRelation : GoodIn wsX2_size wsX2_isRelation := goodIn_r _ [5] (by decide +kernel) (by decide +kernel)
set_option maxRecDepth 20000 in
theorem gX2_size_X2_isRelation : GoodIn wsX2_size (va_wsS RX2 36 yX2_isRelation wsX2_isRelation) := goodIn_app (goodIn_of _ (by decide +kernel)) ggX2_size_X2_isRelation
set_option maxRecDepth 20000 in
theorem ggX2_size_J6_bitCount_0f7a4 : GoodIn wsX2_size wsJ6_bitCount_0f7a4 := goodIn_r _ [9, 10, 11, 12] (by decide +kernel) (by decide +kernel)
set_option maxRecDepth 20000 in
theorem gX2_size_J6_bitCount_0f7a4 : GoodIn wsX2_size (va_wsS RX2 84 yJ6_bitCount_0f7a4 wsJ6_bitCount_0f7a4) := goodIn_app (goodIn_of _ (by decide +kernel)) ggX2_size_J6_bitCount_0f7a4
theorem dX2_size_0 : decode cX2_size 0 = .ok (.iload_n 1, 1) := by decide +kernel
theorem dX2_size_1 : decode cX2_size 1 = .ok (.invokestatic 36, 3) := by decide +kernel
theorem dX2_size_4 : decode cX2_size 4 = .ok (.ifCond .eq 15, 3) := by decide +kernel
theorem dX2_size_7 : decode cX2_size 7 = .ok (.aload_n 0, 1) := by decide +kernel
theorem dX2_size_8 : decode cX2_size 8 = .ok (.getfield 16, 3) := by decide +kernel
theorem dX2_size_11 : decode cX2_size 11 = .ok (.iload_n 1, 1) := by decide +kernel
theorem dX2_size_12 : decode cX2_size 12 = .ok (.iaload, 1) := by decide +kernel
theorem dX2_size_13 : decode cX2_size 13 = .ok (.invokestatic 84, 3) := by decide +kernel
theorem dX2_size_16 : decode cX2_size 16 = .ok (.goto 4, 3) := by decide +kernel
theorem dX2_size_19 : decode cX2_size 19 = .ok (.iconst (-1), 1) := by decide +kernel
theorem dX2_size_20 : decode cX2_size 20 = .ok (.ireturn, 1) := by decide +kernel
set_option maxRecDepth 20000 in
theorem ggX2_recursive_X2_isRelation : GoodIn wsX2_recursive wsX2_isRelation := goodIn_r _ [5] (by decide +kernel) (by decide +kernel)
set_option maxRecDepth 20000 in
theorem gX2_recursive_X2_isRelation : GoodIn wsX2_recursive (va_wsS RX2 36 yX2_isRelation wsX2_isRelation) := goodIn_app (goodIn_of _ (by decide +kernel)) ggX2_recursive_X2_isRelation
set_option maxRecDepth 20000 in
theorem ggX2_recursive_X1_leadsTo : GoodIn wsX2_recursive wsX1_leadsTo := goodIn_r _ [9, 10, 17, 18, 19] (by decide +kernel) (by decide +kernel)
set_option maxRecDepth 20000 in
theorem gX2_recursive_X1_leadsTo_n99 : GoodIn wsX2_recursive (wsX1_leadsTo) := ggX2_recursive_X1_leadsTo
theorem dX2_recursive_0 : decode cX2_recursive 0 = .ok (.iload_n 1, 1) := by decide +kernel
theorem dX2_recursive_1 : decode cX2_recursive 1 = .ok (.invokestatic 36, 3) := by decide +kernel
theorem dX2_recursive_4 : decode cX2_recursive 4 = .ok (.ifCond .eq 19, 3) := by decide +kernel
theorem dX2_recursive_7 : decode cX2_recursive 7 = .ok (.aload_n 0, 1) := by decide +kernel
theorem dX2_recursive_8 : decode cX2_recursive 8 = .ok (.getfield 10, 3) := by decide +kernel
theorem dX2_recursive_11 : decode cX2_recursive 11 = .ok (.iload_n 1, 1) := by decide +kernel
theorem dX2_recursive_12 : decode cX2_recursive 12 = .ok (.iload_n 1, 1) := by decide +kernel
theorem dX2_recursive_13 : decode cX2_recursive 13 = .ok (.invokevirtual 99, 3) := by decide +kernel
theorem dX2_recursive_16 : decode cX2_recursive 16 = .ok (.ifCond .eq 7, 3) := by decide +kernel
theorem dX2_recursive_19 : decode cX2_recursive 19 = .ok (.iconst 1, 1) := by decide +kernel
theorem dX2_recursive_20 : decode cX2_recursive 20 = .ok (.goto 4, 3) := by decide +kernel
theorem dX2_recursive_23 : decode cX2_recursive 23 = .ok (.iconst 0, 1) := by decide +kernel
theorem dX2_recursive_24 : decode cX2_recursive 24 = .ok (.ireturn, 1) := by decide +kernel
set_option maxRecDepth 20000 in
theorem ggX2_needs_X2_isView : GoodIn wsX2_needs wsX2_isView := goodIn_r _ [5] (by decide +kernel) (by decide +kernel)
set_option maxRecDepth 20000 in
theorem gX2_needs_X2_isView : GoodIn wsX2_needs (va_wsS RX2 32 yX2_isView wsX2_isView) := goodIn_app (goodIn_of _ (by decide +kernel)) ggX2_needs_X2_isView
set_option maxRecDepth 20000 in
theorem ggX2_needs_X2_isRelation : GoodIn wsX2_needs wsX2_isRelation := goodIn_r _ [8] (by decide +kernel) (by decide +kernel)
set_option maxRecDepth 20000 in
theorem gX2_needs_X2_isRelation : GoodIn wsX2_needs (va_wsS RX2 36 yX2_isRelation wsX2_isRelation) := goodIn_app (goodIn_of _ (by decide +kernel)) ggX2_needs_X2_isRelation
set_option maxRecDepth 20000 in
theorem ggX2_needs_X1_leadsTo : GoodIn wsX2_needs wsX1_leadsTo := goodIn_r _ [12, 13, 20, 21, 22] (by decide +kernel) (by decide +kernel)
set_option maxRecDepth 20000 in
theorem gX2_needs_X1_leadsTo_n99 : GoodIn wsX2_needs (wsX1_leadsTo) := ggX2_needs_X1_leadsTo
theorem dX2_needs_0 : decode cX2_needs 0 = .ok (.iload_n 1, 1) := by decide +kernel
theorem dX2_needs_1 : decode cX2_needs 1 = .ok (.invokestatic 32, 3) := by decide +kernel
theorem dX2_needs_4 : decode cX2_needs 4 = .ok (.ifCond .eq 26, 3) := by decide +kernel
theorem dX2_needs_7 : decode cX2_needs 7 = .ok (.iload_n 2, 1) := by decide +kernel
theorem dX2_needs_8 : decode cX2_needs 8 = .ok (.invokestatic 36, 3) := by decide +kernel
theorem dX2_needs_11 : decode cX2_needs 11 = .ok (.ifCond .eq 19, 3) := by decide +kernel
theorem dX2_needs_14 : decode cX2_needs 14 = .ok (.aload_n 0, 1) := by decide +kernel
theorem dX2_needs_15 : decode cX2_needs 15 = .ok (.getfield 10, 3) := by decide +kernel
theorem dX2_needs_18 : decode cX2_needs 18 = .ok (.iload_n 1, 1) := by decide +kernel
theorem dX2_needs_19 : decode cX2_needs 19 = .ok (.iload_n 2, 1) := by decide +kernel
theorem dX2_needs_20 : decode cX2_needs 20 = .ok (.invokevirtual 99, 3) := by decide +kernel
theorem dX2_needs_23 : decode cX2_needs 23 = .ok (.ifCond .eq 7, 3) := by decide +kernel
theorem dX2_needs_26 : decode cX2_needs 26 = .ok (.iconst 1, 1) := by decide +kernel
theorem dX2_needs_27 : decode cX2_needs 27 = .ok (.goto 4, 3) := by decide +kernel
theorem dX2_needs_30 : decode cX2_needs 30 = .ok (.iconst 0, 1) := by decide +kernel
theorem dX2_needs_31 : decode cX2_needs 31 = .ok (.ireturn, 1) := by decide +kernel
theorem dX2_rules_0 : decode cX2_rules 0 = .ok (.aload_n 0, 1) := by decide +kernel
theorem dX2_rules_1 : decode cX2_rules 1 = .ok (.getfield 10, 3) := by decide +kernel
theorem dX2_rules_4 : decode cX2_rules 4 = .ok (.getfield 39, 3) := by decide +kernel
theorem dX2_rules_7 : decode cX2_rules 7 = .ok (.ireturn, 1) := by decide +kernel
set_option maxRecDepth 20000 in
theorem ggX2_changed_X2_isRelation : GoodIn wsX2_changed wsX2_isRelation := goodIn_r _ [6] (by decide +kernel) (by decide +kernel)
set_option maxRecDepth 20000 in
theorem gX2_changed_X2_isRelation : GoodIn wsX2_changed (va_wsS RX2 36 yX2_isRelation wsX2_isRelation) := goodIn_app (goodIn_of _ (by decide +kernel)) ggX2_changed_X2_isRelation
set_option maxRecDepth 20000 in
theorem ggX2_changed_X2_putInto : GoodIn wsX2_changed wsX2_putInto := goodIn_r _ [10, 2, 11, 23, 24, 25, 26, 27, 28] (by decide +kernel) (by decide +kernel)
set_option maxRecDepth 20000 in
theorem gX2_changed_X2_putInto : GoodIn wsX2_changed (wsV RX2 80 RX2 yX2_putInto wsX2_putInto) := goodIn_app (goodIn_of _ (by decide +kernel)) ggX2_changed_X2_putInto
set_option maxRecDepth 20000 in
theorem ggX2_changed_J6_bitCount_0f7a4 : GoodIn wsX2_changed wsJ6_bitCount_0f7a4 := goodIn_r _ [15, 16, 17, 18] (by decide +kernel) (by decide +kernel)
set_option maxRecDepth 20000 in
theorem gX2_changed_J6_bitCount_0f7a4 : GoodIn wsX2_changed (va_wsS RX2 84 yJ6_bitCount_0f7a4 wsJ6_bitCount_0f7a4) := goodIn_app (goodIn_of _ (by decide +kernel)) ggX2_changed_J6_bitCount_0f7a4
set_option maxRecDepth 20000 in
theorem ggX2_changed_X2_takenOutOf : GoodIn wsX2_changed wsX2_takenOutOf := goodIn_r _ [22, 11, 2, 23, 24, 25, 26, 27, 28] (by decide +kernel) (by decide +kernel)
set_option maxRecDepth 20000 in
theorem gX2_changed_X2_takenOutOf : GoodIn wsX2_changed (wsV RX2 89 RX2 yX2_takenOutOf wsX2_takenOutOf) := goodIn_app (goodIn_of _ (by decide +kernel)) ggX2_changed_X2_takenOutOf
theorem dX2_changed_0 : decode cX2_changed 0 = .ok (.iload_n 1, 1) := by decide +kernel
theorem dX2_changed_1 : decode cX2_changed 1 = .ok (.invokestatic 36, 3) := by decide +kernel
theorem dX2_changed_4 : decode cX2_changed 4 = .ok (.ifCond .ne 5, 3) := by decide +kernel
theorem dX2_changed_7 : decode cX2_changed 7 = .ok (.iconst (-1), 1) := by decide +kernel
theorem dX2_changed_8 : decode cX2_changed 8 = .ok (.ireturn, 1) := by decide +kernel
theorem dX2_changed_9 : decode cX2_changed 9 = .ok (.iload_n 2, 1) := by decide +kernel
theorem dX2_changed_10 : decode cX2_changed 10 = .ok (.tableswitch 75 0 3 #[30, 39, 48, 58], 30) := by decide +kernel
theorem dX2_changed_40 : decode cX2_changed 40 = .ok (.aload_n 0, 1) := by decide +kernel
theorem dX2_changed_41 : decode cX2_changed 41 = .ok (.iload_n 1, 1) := by decide +kernel
theorem dX2_changed_42 : decode cX2_changed 42 = .ok (.invokevirtual 80, 3) := by decide +kernel
theorem dX2_changed_45 : decode cX2_changed 45 = .ok (.invokestatic 84, 3) := by decide +kernel
theorem dX2_changed_48 : decode cX2_changed 48 = .ok (.ireturn, 1) := by decide +kernel
theorem dX2_changed_49 : decode cX2_changed 49 = .ok (.aload_n 0, 1) := by decide +kernel
theorem dX2_changed_50 : decode cX2_changed 50 = .ok (.iload_n 1, 1) := by decide +kernel
theorem dX2_changed_51 : decode cX2_changed 51 = .ok (.invokevirtual 89, 3) := by decide +kernel
theorem dX2_changed_54 : decode cX2_changed 54 = .ok (.invokestatic 84, 3) := by decide +kernel
theorem dX2_changed_57 : decode cX2_changed 57 = .ok (.ireturn, 1) := by decide +kernel
theorem dX2_changed_58 : decode cX2_changed 58 = .ok (.aload_n 0, 1) := by decide +kernel
theorem dX2_changed_59 : decode cX2_changed 59 = .ok (.getfield 23, 3) := by decide +kernel
theorem dX2_changed_62 : decode cX2_changed 62 = .ok (.iload_n 1, 1) := by decide +kernel
theorem dX2_changed_63 : decode cX2_changed 63 = .ok (.iaload, 1) := by decide +kernel
theorem dX2_changed_64 : decode cX2_changed 64 = .ok (.invokestatic 84, 3) := by decide +kernel
theorem dX2_changed_67 : decode cX2_changed 67 = .ok (.ireturn, 1) := by decide +kernel
theorem dX2_changed_68 : decode cX2_changed 68 = .ok (.aload_n 0, 1) := by decide +kernel
theorem dX2_changed_69 : decode cX2_changed 69 = .ok (.getfield 23, 3) := by decide +kernel
theorem dX2_changed_72 : decode cX2_changed 72 = .ok (.iload_n 1, 1) := by decide +kernel
theorem dX2_changed_73 : decode cX2_changed 73 = .ok (.iaload, 1) := by decide +kernel
theorem dX2_changed_74 : decode cX2_changed 74 = .ok (.aload_n 0, 1) := by decide +kernel
theorem dX2_changed_75 : decode cX2_changed 75 = .ok (.getfield 16, 3) := by decide +kernel
theorem dX2_changed_78 : decode cX2_changed 78 = .ok (.iload_n 1, 1) := by decide +kernel
theorem dX2_changed_79 : decode cX2_changed 79 = .ok (.iaload, 1) := by decide +kernel
theorem dX2_changed_80 : decode cX2_changed 80 = .ok (.iand, 1) := by decide +kernel
theorem dX2_changed_81 : decode cX2_changed 81 = .ok (.invokestatic 84, 3) := by decide +kernel
theorem dX2_changed_84 : decode cX2_changed 84 = .ok (.ireturn, 1) := by decide +kernel
theorem dX2_changed_85 : decode cX2_changed 85 = .ok (.iconst (-1), 1) := by decide +kernel
theorem dX2_changed_86 : decode cX2_changed 86 = .ok (.ireturn, 1) := by decide +kernel
set_option maxRecDepth 20000 in
theorem ggX2_suspect_X2_isRelation : GoodIn wsX2_suspect wsX2_isRelation := goodIn_r _ [5] (by decide +kernel) (by decide +kernel)
set_option maxRecDepth 20000 in
theorem gX2_suspect_X2_isRelation : GoodIn wsX2_suspect (va_wsS RX2 36 yX2_isRelation wsX2_isRelation) := goodIn_app (goodIn_of _ (by decide +kernel)) ggX2_suspect_X2_isRelation
set_option maxRecDepth 20000 in
theorem ggX2_suspect_X2_isThing : GoodIn wsX2_suspect wsX2_isThing := goodIn_r _ [8] (by decide +kernel) (by decide +kernel)
set_option maxRecDepth 20000 in
theorem gX2_suspect_X2_isThing : GoodIn wsX2_suspect (va_wsS RX2 57 yX2_isThing wsX2_isThing) := goodIn_app (goodIn_of _ (by decide +kernel)) ggX2_suspect_X2_isThing
set_option maxRecDepth 20000 in
theorem ggX2_suspect_X2_holds : GoodIn wsX2_suspect wsX2_holds := goodIn_r _ [11] (by decide +kernel) (by decide +kernel)
set_option maxRecDepth 20000 in
theorem gX2_suspect_X2_holds : GoodIn wsX2_suspect (va_wsS RX2 95 yX2_holds wsX2_holds) := goodIn_app (goodIn_of _ (by decide +kernel)) ggX2_suspect_X2_holds
theorem dX2_suspect_0 : decode cX2_suspect 0 = .ok (.iload_n 1, 1) := by decide +kernel
theorem dX2_suspect_1 : decode cX2_suspect 1 = .ok (.invokestatic 36, 3) := by decide +kernel
theorem dX2_suspect_4 : decode cX2_suspect 4 = .ok (.ifCond .eq 35, 3) := by decide +kernel
theorem dX2_suspect_7 : decode cX2_suspect 7 = .ok (.iload_n 2, 1) := by decide +kernel
theorem dX2_suspect_8 : decode cX2_suspect 8 = .ok (.invokestatic 57, 3) := by decide +kernel
theorem dX2_suspect_11 : decode cX2_suspect 11 = .ok (.ifCond .eq 28, 3) := by decide +kernel
theorem dX2_suspect_14 : decode cX2_suspect 14 = .ok (.iload_n 3, 1) := by decide +kernel
theorem dX2_suspect_15 : decode cX2_suspect 15 = .ok (.invokestatic 57, 3) := by decide +kernel
theorem dX2_suspect_18 : decode cX2_suspect 18 = .ok (.ifCond .eq 21, 3) := by decide +kernel
theorem dX2_suspect_21 : decode cX2_suspect 21 = .ok (.aload_n 0, 1) := by decide +kernel
theorem dX2_suspect_22 : decode cX2_suspect 22 = .ok (.getfield 23, 3) := by decide +kernel
theorem dX2_suspect_25 : decode cX2_suspect 25 = .ok (.iload_n 1, 1) := by decide +kernel
theorem dX2_suspect_26 : decode cX2_suspect 26 = .ok (.iaload, 1) := by decide +kernel
theorem dX2_suspect_27 : decode cX2_suspect 27 = .ok (.iload_n 2, 1) := by decide +kernel
theorem dX2_suspect_28 : decode cX2_suspect 28 = .ok (.iload_n 3, 1) := by decide +kernel
theorem dX2_suspect_29 : decode cX2_suspect 29 = .ok (.invokestatic 95, 3) := by decide +kernel
theorem dX2_suspect_32 : decode cX2_suspect 32 = .ok (.ifCond .eq 7, 3) := by decide +kernel
theorem dX2_suspect_35 : decode cX2_suspect 35 = .ok (.iconst 1, 1) := by decide +kernel
theorem dX2_suspect_36 : decode cX2_suspect 36 = .ok (.goto 4, 3) := by decide +kernel
theorem dX2_suspect_39 : decode cX2_suspect 39 = .ok (.iconst 0, 1) := by decide +kernel
theorem dX2_suspect_40 : decode cX2_suspect 40 = .ok (.ireturn, 1) := by decide +kernel
theorem dX2_isRelation_0 : decode cX2_isRelation 0 = .ok (.iload_n 0, 1) := by decide +kernel
theorem dX2_isRelation_1 : decode cX2_isRelation 1 = .ok (.ifCond .lt 13, 3) := by decide +kernel
theorem dX2_isRelation_4 : decode cX2_isRelation 4 = .ok (.iload_n 0, 1) := by decide +kernel
theorem dX2_isRelation_5 : decode cX2_isRelation 5 = .ok (.bipush 7, 2) := by decide +kernel
theorem dX2_isRelation_7 : decode cX2_isRelation 7 = .ok (.if_icmp .ge 7, 3) := by decide +kernel
theorem dX2_isRelation_10 : decode cX2_isRelation 10 = .ok (.iconst 1, 1) := by decide +kernel
end
section
theorem dX2_isRelation_11 : decode cX2_isRelation 11 = .ok (.goto 4, 3) := by decide +kernel
theorem dX2_isRelation_14 : decode cX2_isRelation 14 = .ok (.iconst 0, 1) := by decide +kernel
theorem dX2_isRelation_15 : decode cX2_isRelation 15 = .ok (.ireturn, 1) := by decide +kernel
theorem dX2_isView_0 : decode cX2_isView 0 = .ok (.iload_n 0, 1) := by decide +kernel
theorem dX2_isView_1 : decode cX2_isView 1 = .ok (.iconst 2, 1) := by decide +kernel
theorem dX2_isView_2 : decode cX2_isView 2 = .ok (.if_icmp .lt 13, 3) := by decide +kernel
theorem dX2_isView_5 : decode cX2_isView 5 = .ok (.iload_n 0, 1) := by decide +kernel
theorem dX2_isView_6 : decode cX2_isView 6 = .ok (.bipush 7, 2) := by decide +kernel
theorem dX2_isView_8 : decode cX2_isView 8 = .ok (.if_icmp .ge 7, 3) := by decide +kernel
theorem dX2_isView_11 : decode cX2_isView 11 = .ok (.iconst 1, 1) := by decide +kernel
theorem dX2_isView_12 : decode cX2_isView 12 = .ok (.goto 4, 3) := by decide +kernel
theorem dX2_isView_15 : decode cX2_isView 15 = .ok (.iconst 0, 1) := by decide +kernel
theorem dX2_isView_16 : decode cX2_isView 16 = .ok (.ireturn, 1) := by decide +kernel
theorem dX2_isThing_0 : decode cX2_isThing 0 = .ok (.iload_n 0, 1) := by decide +kernel
theorem dX2_isThing_1 : decode cX2_isThing 1 = .ok (.ifCond .lt 12, 3) := by decide +kernel
theorem dX2_isThing_4 : decode cX2_isThing 4 = .ok (.iload_n 0, 1) := by decide +kernel
theorem dX2_isThing_5 : decode cX2_isThing 5 = .ok (.iconst 5, 1) := by decide +kernel
theorem dX2_isThing_6 : decode cX2_isThing 6 = .ok (.if_icmp .ge 7, 3) := by decide +kernel
theorem dX2_isThing_9 : decode cX2_isThing 9 = .ok (.iconst 1, 1) := by decide +kernel
theorem dX2_isThing_10 : decode cX2_isThing 10 = .ok (.goto 4, 3) := by decide +kernel
theorem dX2_isThing_13 : decode cX2_isThing 13 = .ok (.iconst 0, 1) := by decide +kernel
theorem dX2_isThing_14 : decode cX2_isThing 14 = .ok (.ireturn, 1) := by decide +kernel
theorem dX2_bit_0 : decode cX2_bit 0 = .ok (.iconst 1, 1) := by decide +kernel
theorem dX2_bit_1 : decode cX2_bit 1 = .ok (.iconst 5, 1) := by decide +kernel
theorem dX2_bit_2 : decode cX2_bit 2 = .ok (.iload_n 0, 1) := by decide +kernel
theorem dX2_bit_3 : decode cX2_bit 3 = .ok (.imul, 1) := by decide +kernel
theorem dX2_bit_4 : decode cX2_bit 4 = .ok (.iload_n 1, 1) := by decide +kernel
theorem dX2_bit_5 : decode cX2_bit 5 = .ok (.iadd, 1) := by decide +kernel
theorem dX2_bit_6 : decode cX2_bit 6 = .ok (.ishl, 1) := by decide +kernel
theorem dX2_bit_7 : decode cX2_bit 7 = .ok (.ireturn, 1) := by decide +kernel
theorem dX2_holds_0 : decode cX2_holds 0 = .ok (.iload_n 0, 1) := by decide +kernel
theorem dX2_holds_1 : decode cX2_holds 1 = .ok (.iconst 5, 1) := by decide +kernel
theorem dX2_holds_2 : decode cX2_holds 2 = .ok (.iload_n 1, 1) := by decide +kernel
theorem dX2_holds_3 : decode cX2_holds 3 = .ok (.imul, 1) := by decide +kernel
theorem dX2_holds_4 : decode cX2_holds 4 = .ok (.iload_n 2, 1) := by decide +kernel
theorem dX2_holds_5 : decode cX2_holds 5 = .ok (.iadd, 1) := by decide +kernel
theorem dX2_holds_6 : decode cX2_holds 6 = .ok (.ishr, 1) := by decide +kernel
theorem dX2_holds_7 : decode cX2_holds 7 = .ok (.iconst 1, 1) := by decide +kernel
theorem dX2_holds_8 : decode cX2_holds 8 = .ok (.iand, 1) := by decide +kernel
theorem dX2_holds_9 : decode cX2_holds 9 = .ok (.ifCond .eq 7, 3) := by decide +kernel
theorem dX2_holds_12 : decode cX2_holds 12 = .ok (.iconst 1, 1) := by decide +kernel
theorem dX2_holds_13 : decode cX2_holds 13 = .ok (.goto 4, 3) := by decide +kernel
theorem dX2_holds_16 : decode cX2_holds 16 = .ok (.iconst 0, 1) := by decide +kernel
theorem dX2_holds_17 : decode cX2_holds 17 = .ok (.ireturn, 1) := by decide +kernel
theorem dX2_row_0 : decode cX2_row 0 = .ok (.iload_n 0, 1) := by decide +kernel
theorem dX2_row_1 : decode cX2_row 1 = .ok (.iconst 5, 1) := by decide +kernel
theorem dX2_row_2 : decode cX2_row 2 = .ok (.iload_n 1, 1) := by decide +kernel
theorem dX2_row_3 : decode cX2_row 3 = .ok (.imul, 1) := by decide +kernel
theorem dX2_row_4 : decode cX2_row 4 = .ok (.ishr, 1) := by decide +kernel
theorem dX2_row_5 : decode cX2_row 5 = .ok (.bipush 31, 2) := by decide +kernel
theorem dX2_row_7 : decode cX2_row 7 = .ok (.iand, 1) := by decide +kernel
theorem dX2_row_8 : decode cX2_row 8 = .ok (.ireturn, 1) := by decide +kernel
set_option maxRecDepth 20000 in
theorem ggX2_turned_X2_holds : GoodIn wsX2_turned wsX2_holds := goodIn_r _ [4] (by decide +kernel) (by decide +kernel)
set_option maxRecDepth 20000 in
theorem gX2_turned_X2_holds : GoodIn wsX2_turned (va_wsS RX2 95 yX2_holds wsX2_holds) := goodIn_app (goodIn_of _ (by decide +kernel)) ggX2_turned_X2_holds
set_option maxRecDepth 20000 in
theorem ggX2_turned_X2_bit : GoodIn wsX2_turned wsX2_bit := goodIn_r _ [7] (by decide +kernel) (by decide +kernel)
set_option maxRecDepth 20000 in
theorem gX2_turned_X2_bit : GoodIn wsX2_turned (va_wsS RX2 60 yX2_bit wsX2_bit) := goodIn_app (goodIn_of _ (by decide +kernel)) ggX2_turned_X2_bit
theorem dX2_turned_0 : decode cX2_turned 0 = .ok (.iconst 0, 1) := by decide +kernel
theorem dX2_turned_1 : decode cX2_turned 1 = .ok (.istore_n 1, 1) := by decide +kernel
theorem dX2_turned_2 : decode cX2_turned 2 = .ok (.iconst 0, 1) := by decide +kernel
theorem dX2_turned_3 : decode cX2_turned 3 = .ok (.istore_n 2, 1) := by decide +kernel
theorem dX2_turned_4 : decode cX2_turned 4 = .ok (.iload_n 2, 1) := by decide +kernel
theorem dX2_turned_5 : decode cX2_turned 5 = .ok (.iconst 5, 1) := by decide +kernel
theorem dX2_turned_6 : decode cX2_turned 6 = .ok (.if_icmp .ge 39, 3) := by decide +kernel
theorem dX2_turned_9 : decode cX2_turned 9 = .ok (.iconst 0, 1) := by decide +kernel
theorem dX2_turned_10 : decode cX2_turned 10 = .ok (.istore_n 3, 1) := by decide +kernel
theorem dX2_turned_11 : decode cX2_turned 11 = .ok (.iload_n 3, 1) := by decide +kernel
theorem dX2_turned_12 : decode cX2_turned 12 = .ok (.iconst 5, 1) := by decide +kernel
theorem dX2_turned_13 : decode cX2_turned 13 = .ok (.if_icmp .ge 26, 3) := by decide +kernel
theorem dX2_turned_16 : decode cX2_turned 16 = .ok (.iload_n 0, 1) := by decide +kernel
theorem dX2_turned_17 : decode cX2_turned 17 = .ok (.iload_n 3, 1) := by decide +kernel
theorem dX2_turned_18 : decode cX2_turned 18 = .ok (.iload_n 2, 1) := by decide +kernel
theorem dX2_turned_19 : decode cX2_turned 19 = .ok (.invokestatic 95, 3) := by decide +kernel
theorem dX2_turned_22 : decode cX2_turned 22 = .ok (.ifCond .eq 11, 3) := by decide +kernel
theorem dX2_turned_25 : decode cX2_turned 25 = .ok (.iload_n 1, 1) := by decide +kernel
theorem dX2_turned_26 : decode cX2_turned 26 = .ok (.iload_n 2, 1) := by decide +kernel
theorem dX2_turned_27 : decode cX2_turned 27 = .ok (.iload_n 3, 1) := by decide +kernel
theorem dX2_turned_28 : decode cX2_turned 28 = .ok (.invokestatic 60, 3) := by decide +kernel
theorem dX2_turned_31 : decode cX2_turned 31 = .ok (.ior, 1) := by decide +kernel
theorem dX2_turned_32 : decode cX2_turned 32 = .ok (.istore_n 1, 1) := by decide +kernel
theorem dX2_turned_33 : decode cX2_turned 33 = .ok (.iinc 3 1, 3) := by decide +kernel
theorem dX2_turned_36 : decode cX2_turned 36 = .ok (.goto (-25), 3) := by decide +kernel
theorem dX2_turned_39 : decode cX2_turned 39 = .ok (.iinc 2 1, 3) := by decide +kernel
theorem dX2_turned_42 : decode cX2_turned 42 = .ok (.goto (-38), 3) := by decide +kernel
theorem dX2_turned_45 : decode cX2_turned 45 = .ok (.iload_n 1, 1) := by decide +kernel
theorem dX2_turned_46 : decode cX2_turned 46 = .ok (.ireturn, 1) := by decide +kernel
set_option maxRecDepth 20000 in
theorem ggX2_joined_X2_holds : GoodIn wsX2_joined wsX2_holds := goodIn_r _ [4] (by decide +kernel) (by decide +kernel)
set_option maxRecDepth 20000 in
theorem gX2_joined_X2_holds : GoodIn wsX2_joined (va_wsS RX2 95 yX2_holds wsX2_holds) := goodIn_app (goodIn_of _ (by decide +kernel)) ggX2_joined_X2_holds
set_option maxRecDepth 20000 in
theorem ggX2_joined_X2_row : GoodIn wsX2_joined wsX2_row := goodIn_r _ [7] (by decide +kernel) (by decide +kernel)
set_option maxRecDepth 20000 in
theorem gX2_joined_X2_row : GoodIn wsX2_joined (va_wsS RX2 116 yX2_row wsX2_row) := goodIn_app (goodIn_of _ (by decide +kernel)) ggX2_joined_X2_row
theorem dX2_joined_0 : decode cX2_joined 0 = .ok (.iconst 0, 1) := by decide +kernel
theorem dX2_joined_1 : decode cX2_joined 1 = .ok (.istore_n 2, 1) := by decide +kernel
theorem dX2_joined_2 : decode cX2_joined 2 = .ok (.iconst 0, 1) := by decide +kernel
theorem dX2_joined_3 : decode cX2_joined 3 = .ok (.istore_n 3, 1) := by decide +kernel
theorem dX2_joined_4 : decode cX2_joined 4 = .ok (.iload_n 3, 1) := by decide +kernel
theorem dX2_joined_5 : decode cX2_joined 5 = .ok (.iconst 5, 1) := by decide +kernel
theorem dX2_joined_6 : decode cX2_joined 6 = .ok (.if_icmp .ge 47, 3) := by decide +kernel
theorem dX2_joined_9 : decode cX2_joined 9 = .ok (.iconst 0, 1) := by decide +kernel
theorem dX2_joined_10 : decode cX2_joined 10 = .ok (.istore 4, 2) := by decide +kernel
theorem dX2_joined_12 : decode cX2_joined 12 = .ok (.iload 4, 2) := by decide +kernel
theorem dX2_joined_14 : decode cX2_joined 14 = .ok (.iconst 5, 1) := by decide +kernel
theorem dX2_joined_15 : decode cX2_joined 15 = .ok (.if_icmp .ge 32, 3) := by decide +kernel
theorem dX2_joined_18 : decode cX2_joined 18 = .ok (.iload_n 0, 1) := by decide +kernel
theorem dX2_joined_19 : decode cX2_joined 19 = .ok (.iload_n 3, 1) := by decide +kernel
theorem dX2_joined_20 : decode cX2_joined 20 = .ok (.iload 4, 2) := by decide +kernel
theorem dX2_joined_22 : decode cX2_joined 22 = .ok (.invokestatic 95, 3) := by decide +kernel
theorem dX2_joined_25 : decode cX2_joined 25 = .ok (.ifCond .eq 16, 3) := by decide +kernel
theorem dX2_joined_28 : decode cX2_joined 28 = .ok (.iload_n 2, 1) := by decide +kernel
theorem dX2_joined_29 : decode cX2_joined 29 = .ok (.iload_n 1, 1) := by decide +kernel
theorem dX2_joined_30 : decode cX2_joined 30 = .ok (.iload 4, 2) := by decide +kernel
theorem dX2_joined_32 : decode cX2_joined 32 = .ok (.invokestatic 116, 3) := by decide +kernel
theorem dX2_joined_35 : decode cX2_joined 35 = .ok (.iconst 5, 1) := by decide +kernel
theorem dX2_joined_36 : decode cX2_joined 36 = .ok (.iload_n 3, 1) := by decide +kernel
theorem dX2_joined_37 : decode cX2_joined 37 = .ok (.imul, 1) := by decide +kernel
theorem dX2_joined_38 : decode cX2_joined 38 = .ok (.ishl, 1) := by decide +kernel
theorem dX2_joined_39 : decode cX2_joined 39 = .ok (.ior, 1) := by decide +kernel
theorem dX2_joined_40 : decode cX2_joined 40 = .ok (.istore_n 2, 1) := by decide +kernel
theorem dX2_joined_41 : decode cX2_joined 41 = .ok (.iinc 4 1, 3) := by decide +kernel
theorem dX2_joined_44 : decode cX2_joined 44 = .ok (.goto (-32), 3) := by decide +kernel
theorem dX2_joined_47 : decode cX2_joined 47 = .ok (.iinc 3 1, 3) := by decide +kernel
theorem dX2_joined_50 : decode cX2_joined 50 = .ok (.goto (-46), 3) := by decide +kernel
theorem dX2_joined_53 : decode cX2_joined 53 = .ok (.iload_n 2, 1) := by decide +kernel
theorem dX2_joined_54 : decode cX2_joined 54 = .ok (.ireturn, 1) := by decide +kernel
set_option maxRecDepth 20000 in
theorem ggX2_remakeViews_X2_fill : GoodIn wsX2_remakeViews wsX2_fill := goodIn_r _ [6, 7, 8, 9, 5, 10, 11, 1, 12, 13, 14, 15, 16, 17, 18, 19, 20, 21, 22, 23, 24, 25, 26, 27, 28, 29, 30, 31, 32, 33, 34, 35, 36, 37, 38, 39, 40, 41, 42, 43, 58, 59, 60, 61, 62, 63, 64, 65, 66, 67, 68, 69, 70] (by decide +kernel) (by decide +kernel)
set_option maxRecDepth 20000 in
theorem gX2_remakeViews_X2_fill : GoodIn wsX2_remakeViews (wsV RX2 77 RX2 yX2_fill wsX2_fill) := goodIn_app (goodIn_of _ (by decide +kernel)) ggX2_remakeViews_X2_fill
set_option maxRecDepth 20000 in
theorem ggX2_remakeViews_X2_forgetChanges : GoodIn wsX2_remakeViews wsX2_forgetChanges := goodIn_r _ [47, 1, 48, 49, 50, 51, 52, 53, 54, 55, 56, 57, 58, 59, 60, 61, 62, 63] (by decide +kernel) (by decide +kernel)
set_option maxRecDepth 20000 in
theorem gX2_remakeViews_X2_forgetChanges : GoodIn wsX2_remakeViews (wsV RX2 64 RX2 yX2_forgetChanges wsX2_forgetChanges) := goodIn_app (goodIn_of _ (by decide +kernel)) ggX2_remakeViews_X2_forgetChanges
theorem dX2_remakeViews_0 : decode cX2_remakeViews 0 = .ok (.iconst 2, 1) := by decide +kernel
theorem dX2_remakeViews_1 : decode cX2_remakeViews 1 = .ok (.istore_n 1, 1) := by decide +kernel
theorem dX2_remakeViews_2 : decode cX2_remakeViews 2 = .ok (.iload_n 1, 1) := by decide +kernel
theorem dX2_remakeViews_3 : decode cX2_remakeViews 3 = .ok (.bipush 7, 2) := by decide +kernel
theorem dX2_remakeViews_5 : decode cX2_remakeViews 5 = .ok (.if_icmp .ge 16, 3) := by decide +kernel
theorem dX2_remakeViews_8 : decode cX2_remakeViews 8 = .ok (.aload_n 0, 1) := by decide +kernel
theorem dX2_remakeViews_9 : decode cX2_remakeViews 9 = .ok (.getfield 16, 3) := by decide +kernel
theorem dX2_remakeViews_12 : decode cX2_remakeViews 12 = .ok (.iload_n 1, 1) := by decide +kernel
theorem dX2_remakeViews_13 : decode cX2_remakeViews 13 = .ok (.iconst 0, 1) := by decide +kernel
theorem dX2_remakeViews_14 : decode cX2_remakeViews 14 = .ok (.iastore, 1) := by decide +kernel
theorem dX2_remakeViews_15 : decode cX2_remakeViews 15 = .ok (.iinc 1 1, 3) := by decide +kernel
theorem dX2_remakeViews_18 : decode cX2_remakeViews 18 = .ok (.goto (-16), 3) := by decide +kernel
theorem dX2_remakeViews_21 : decode cX2_remakeViews 21 = .ok (.iconst 1, 1) := by decide +kernel
theorem dX2_remakeViews_22 : decode cX2_remakeViews 22 = .ok (.istore_n 1, 1) := by decide +kernel
theorem dX2_remakeViews_23 : decode cX2_remakeViews 23 = .ok (.iload_n 1, 1) := by decide +kernel
theorem dX2_remakeViews_24 : decode cX2_remakeViews 24 = .ok (.bipush 7, 2) := by decide +kernel
theorem dX2_remakeViews_26 : decode cX2_remakeViews 26 = .ok (.if_icmp .gt 14, 3) := by decide +kernel
theorem dX2_remakeViews_29 : decode cX2_remakeViews 29 = .ok (.aload_n 0, 1) := by decide +kernel
theorem dX2_remakeViews_30 : decode cX2_remakeViews 30 = .ok (.iload_n 1, 1) := by decide +kernel
theorem dX2_remakeViews_31 : decode cX2_remakeViews 31 = .ok (.invokevirtual 77, 3) := by decide +kernel
theorem dX2_remakeViews_34 : decode cX2_remakeViews 34 = .ok (.iinc 1 1, 3) := by decide +kernel
theorem dX2_remakeViews_37 : decode cX2_remakeViews 37 = .ok (.goto (-14), 3) := by decide +kernel
theorem dX2_remakeViews_40 : decode cX2_remakeViews 40 = .ok (.aload_n 0, 1) := by decide +kernel
theorem dX2_remakeViews_41 : decode cX2_remakeViews 41 = .ok (.invokevirtual 64, 3) := by decide +kernel
theorem dX2_remakeViews_44 : decode cX2_remakeViews 44 = .ok (.return_, 1) := by decide +kernel
set_option maxRecDepth 20000 in
theorem ggX2_forgetChanges_J7_fill_53178 : GoodIn wsX2_forgetChanges wsJ7_fill_53178 := goodIn_r _ [11] (by decide +kernel) (by decide +kernel)
set_option maxRecDepth 20000 in
theorem gX2_forgetChanges_J7_fill_53178 : GoodIn wsX2_forgetChanges (va_wsS RX2 125 yJ7_fill_53178 wsJ7_fill_53178) := goodIn_app (goodIn_of _ (by decide +kernel)) ggX2_forgetChanges_J7_fill_53178
theorem dX2_forgetChanges_0 : decode cX2_forgetChanges 0 = .ok (.aload_n 0, 1) := by decide +kernel
theorem dX2_forgetChanges_1 : decode cX2_forgetChanges 1 = .ok (.getfield 16, 3) := by decide +kernel
theorem dX2_forgetChanges_4 : decode cX2_forgetChanges 4 = .ok (.iconst 0, 1) := by decide +kernel
theorem dX2_forgetChanges_5 : decode cX2_forgetChanges 5 = .ok (.aload_n 0, 1) := by decide +kernel
theorem dX2_forgetChanges_6 : decode cX2_forgetChanges 6 = .ok (.getfield 20, 3) := by decide +kernel
theorem dX2_forgetChanges_9 : decode cX2_forgetChanges 9 = .ok (.iconst 0, 1) := by decide +kernel
theorem dX2_forgetChanges_10 : decode cX2_forgetChanges 10 = .ok (.bipush 7, 2) := by decide +kernel
theorem dX2_forgetChanges_12 : decode cX2_forgetChanges 12 = .ok (.invokestatic 119, 3) := by decide +kernel
theorem dX2_forgetChanges_15 : decode cX2_forgetChanges 15 = .ok (.aload_n 0, 1) := by decide +kernel
theorem dX2_forgetChanges_16 : decode cX2_forgetChanges 16 = .ok (.getfield 23, 3) := by decide +kernel
theorem dX2_forgetChanges_19 : decode cX2_forgetChanges 19 = .ok (.iconst 0, 1) := by decide +kernel
theorem dX2_forgetChanges_20 : decode cX2_forgetChanges 20 = .ok (.invokestatic 125, 3) := by decide +kernel
theorem dX2_forgetChanges_23 : decode cX2_forgetChanges 23 = .ok (.return_, 1) := by decide +kernel
set_option maxRecDepth 20000 in
theorem ggX2_doStaged_X2_clearStaged : GoodIn wsX2_doStaged wsX2_clearStaged := goodIn_r _ [8, 2, 3, 9, 10, 11, 12, 13, 14, 15, 16, 17, 18] (by decide +kernel) (by decide +kernel)
set_option maxRecDepth 20000 in
theorem gX2_doStaged_X2_clearStaged : GoodIn wsX2_doStaged (wsV RX2 92 RX2 yX2_clearStaged wsX2_clearStaged) := goodIn_app (goodIn_of _ (by decide +kernel)) ggX2_doStaged_X2_clearStaged
theorem dX2_doStaged_0 : decode cX2_doStaged 0 = .ok (.iconst 0, 1) := by decide +kernel
theorem dX2_doStaged_1 : decode cX2_doStaged 1 = .ok (.istore_n 1, 1) := by decide +kernel
theorem dX2_doStaged_2 : decode cX2_doStaged 2 = .ok (.iload_n 1, 1) := by decide +kernel
theorem dX2_doStaged_3 : decode cX2_doStaged 3 = .ok (.iconst 2, 1) := by decide +kernel
theorem dX2_doStaged_4 : decode cX2_doStaged 4 = .ok (.if_icmp .ge 37, 3) := by decide +kernel
theorem dX2_doStaged_7 : decode cX2_doStaged 7 = .ok (.aload_n 0, 1) := by decide +kernel
theorem dX2_doStaged_8 : decode cX2_doStaged 8 = .ok (.getfield 16, 3) := by decide +kernel
theorem dX2_doStaged_11 : decode cX2_doStaged 11 = .ok (.iload_n 1, 1) := by decide +kernel
theorem dX2_doStaged_12 : decode cX2_doStaged 12 = .ok (.aload_n 0, 1) := by decide +kernel
theorem dX2_doStaged_13 : decode cX2_doStaged 13 = .ok (.getfield 16, 3) := by decide +kernel
theorem dX2_doStaged_16 : decode cX2_doStaged 16 = .ok (.iload_n 1, 1) := by decide +kernel
theorem dX2_doStaged_17 : decode cX2_doStaged 17 = .ok (.iaload, 1) := by decide +kernel
theorem dX2_doStaged_18 : decode cX2_doStaged 18 = .ok (.aload_n 0, 1) := by decide +kernel
theorem dX2_doStaged_19 : decode cX2_doStaged 19 = .ok (.getfield 26, 3) := by decide +kernel
theorem dX2_doStaged_22 : decode cX2_doStaged 22 = .ok (.iload_n 1, 1) := by decide +kernel
theorem dX2_doStaged_23 : decode cX2_doStaged 23 = .ok (.iaload, 1) := by decide +kernel
theorem dX2_doStaged_24 : decode cX2_doStaged 24 = .ok (.ior, 1) := by decide +kernel
theorem dX2_doStaged_25 : decode cX2_doStaged 25 = .ok (.aload_n 0, 1) := by decide +kernel
theorem dX2_doStaged_26 : decode cX2_doStaged 26 = .ok (.getfield 29, 3) := by decide +kernel
theorem dX2_doStaged_29 : decode cX2_doStaged 29 = .ok (.iload_n 1, 1) := by decide +kernel
theorem dX2_doStaged_30 : decode cX2_doStaged 30 = .ok (.iaload, 1) := by decide +kernel
theorem dX2_doStaged_31 : decode cX2_doStaged 31 = .ok (.iconst (-1), 1) := by decide +kernel
theorem dX2_doStaged_32 : decode cX2_doStaged 32 = .ok (.ixor, 1) := by decide +kernel
theorem dX2_doStaged_33 : decode cX2_doStaged 33 = .ok (.iand, 1) := by decide +kernel
theorem dX2_doStaged_34 : decode cX2_doStaged 34 = .ok (.iastore, 1) := by decide +kernel
theorem dX2_doStaged_35 : decode cX2_doStaged 35 = .ok (.iinc 1 1, 3) := by decide +kernel
theorem dX2_doStaged_38 : decode cX2_doStaged 38 = .ok (.goto (-36), 3) := by decide +kernel
theorem dX2_doStaged_41 : decode cX2_doStaged 41 = .ok (.aload_n 0, 1) := by decide +kernel
theorem dX2_doStaged_42 : decode cX2_doStaged 42 = .ok (.invokevirtual 92, 3) := by decide +kernel
theorem dX2_doStaged_45 : decode cX2_doStaged 45 = .ok (.return_, 1) := by decide +kernel
set_option maxRecDepth 20000 in
theorem ggX2_clearStaged_J7_fill_53178 : GoodIn wsX2_clearStaged wsJ7_fill_53178 := goodIn_r _ [6] (by decide +kernel) (by decide +kernel)
set_option maxRecDepth 20000 in
theorem gX2_clearStaged_J7_fill_53178 : GoodIn wsX2_clearStaged (va_wsS RX2 125 yJ7_fill_53178 wsJ7_fill_53178) := goodIn_app (goodIn_of _ (by decide +kernel)) ggX2_clearStaged_J7_fill_53178
theorem dX2_clearStaged_0 : decode cX2_clearStaged 0 = .ok (.aload_n 0, 1) := by decide +kernel
theorem dX2_clearStaged_1 : decode cX2_clearStaged 1 = .ok (.getfield 26, 3) := by decide +kernel
theorem dX2_clearStaged_4 : decode cX2_clearStaged 4 = .ok (.iconst 0, 1) := by decide +kernel
theorem dX2_clearStaged_5 : decode cX2_clearStaged 5 = .ok (.invokestatic 125, 3) := by decide +kernel
theorem dX2_clearStaged_8 : decode cX2_clearStaged 8 = .ok (.aload_n 0, 1) := by decide +kernel
theorem dX2_clearStaged_9 : decode cX2_clearStaged 9 = .ok (.getfield 29, 3) := by decide +kernel
theorem dX2_clearStaged_12 : decode cX2_clearStaged 12 = .ok (.iconst 0, 1) := by decide +kernel
theorem dX2_clearStaged_13 : decode cX2_clearStaged 13 = .ok (.invokestatic 125, 3) := by decide +kernel
theorem dX2_clearStaged_16 : decode cX2_clearStaged 16 = .ok (.return_, 1) := by decide +kernel
theorem dX2_putInto_0 : decode cX2_putInto 0 = .ok (.aload_n 0, 1) := by decide +kernel
theorem dX2_putInto_1 : decode cX2_putInto 1 = .ok (.getfield 16, 3) := by decide +kernel
theorem dX2_putInto_4 : decode cX2_putInto 4 = .ok (.iload_n 1, 1) := by decide +kernel
theorem dX2_putInto_5 : decode cX2_putInto 5 = .ok (.iaload, 1) := by decide +kernel
theorem dX2_putInto_6 : decode cX2_putInto 6 = .ok (.aload_n 0, 1) := by decide +kernel
theorem dX2_putInto_7 : decode cX2_putInto 7 = .ok (.getfield 20, 3) := by decide +kernel
theorem dX2_putInto_10 : decode cX2_putInto 10 = .ok (.iload_n 1, 1) := by decide +kernel
theorem dX2_putInto_11 : decode cX2_putInto 11 = .ok (.iaload, 1) := by decide +kernel
theorem dX2_putInto_12 : decode cX2_putInto 12 = .ok (.iconst (-1), 1) := by decide +kernel
theorem dX2_putInto_13 : decode cX2_putInto 13 = .ok (.ixor, 1) := by decide +kernel
theorem dX2_putInto_14 : decode cX2_putInto 14 = .ok (.iand, 1) := by decide +kernel
theorem dX2_putInto_15 : decode cX2_putInto 15 = .ok (.ireturn, 1) := by decide +kernel
theorem dX2_takenOutOf_0 : decode cX2_takenOutOf 0 = .ok (.aload_n 0, 1) := by decide +kernel
theorem dX2_takenOutOf_1 : decode cX2_takenOutOf 1 = .ok (.getfield 20, 3) := by decide +kernel
theorem dX2_takenOutOf_4 : decode cX2_takenOutOf 4 = .ok (.iload_n 1, 1) := by decide +kernel
theorem dX2_takenOutOf_5 : decode cX2_takenOutOf 5 = .ok (.iaload, 1) := by decide +kernel
theorem dX2_takenOutOf_6 : decode cX2_takenOutOf 6 = .ok (.aload_n 0, 1) := by decide +kernel
theorem dX2_takenOutOf_7 : decode cX2_takenOutOf 7 = .ok (.getfield 16, 3) := by decide +kernel
theorem dX2_takenOutOf_10 : decode cX2_takenOutOf 10 = .ok (.iload_n 1, 1) := by decide +kernel
theorem dX2_takenOutOf_11 : decode cX2_takenOutOf 11 = .ok (.iaload, 1) := by decide +kernel
theorem dX2_takenOutOf_12 : decode cX2_takenOutOf 12 = .ok (.iconst (-1), 1) := by decide +kernel
theorem dX2_takenOutOf_13 : decode cX2_takenOutOf 13 = .ok (.ixor, 1) := by decide +kernel
theorem dX2_takenOutOf_14 : decode cX2_takenOutOf 14 = .ok (.iand, 1) := by decide +kernel
theorem dX2_takenOutOf_15 : decode cX2_takenOutOf 15 = .ok (.ireturn, 1) := by decide +kernel
set_option maxRecDepth 20000 in
theorem ggX2_findSuspects_X2_suspectOnce : GoodIn wsX2_findSuspects wsX2_suspectOnce := goodIn_r _ [5, 6, 7, 8, 9, 10, 11, 12, 13, 14, 15, 16, 17, 18, 19, 20, 21, 22, 23, 24, 25, 4, 26, 27, 28, 29, 30, 31, 32, 33, 34, 35, 36, 37, 38, 39, 40, 41, 42, 43, 44, 45, 46, 47, 48, 49, 50, 51, 52, 53, 54, 55, 56, 57, 58, 59, 60, 61, 62, 63, 64, 65, 66, 67, 68] (by decide +kernel) (by decide +kernel)
set_option maxRecDepth 20000 in
theorem gX2_findSuspects_X2_suspectOnce : GoodIn wsX2_findSuspects (wsV RX2 130 RX2 yX2_suspectOnce wsX2_suspectOnce) := goodIn_app (goodIn_of _ (by decide +kernel)) ggX2_findSuspects_X2_suspectOnce
theorem dX2_findSuspects_0 : decode cX2_findSuspects 0 = .ok (.iconst 1, 1) := by decide +kernel
theorem dX2_findSuspects_1 : decode cX2_findSuspects 1 = .ok (.istore_n 2, 1) := by decide +kernel
theorem dX2_findSuspects_2 : decode cX2_findSuspects 2 = .ok (.iconst 0, 1) := by decide +kernel
theorem dX2_findSuspects_3 : decode cX2_findSuspects 3 = .ok (.istore_n 3, 1) := by decide +kernel
theorem dX2_findSuspects_4 : decode cX2_findSuspects 4 = .ok (.iload_n 2, 1) := by decide +kernel
theorem dX2_findSuspects_5 : decode cX2_findSuspects 5 = .ok (.ifCond .eq 21, 3) := by decide +kernel
theorem dX2_findSuspects_8 : decode cX2_findSuspects 8 = .ok (.iload_n 3, 1) := by decide +kernel
theorem dX2_findSuspects_9 : decode cX2_findSuspects 9 = .ok (.bipush 126, 2) := by decide +kernel
theorem dX2_findSuspects_11 : decode cX2_findSuspects 11 = .ok (.if_icmp .ge 15, 3) := by decide +kernel
theorem dX2_findSuspects_14 : decode cX2_findSuspects 14 = .ok (.aload_n 0, 1) := by decide +kernel
theorem dX2_findSuspects_15 : decode cX2_findSuspects 15 = .ok (.iload_n 1, 1) := by decide +kernel
theorem dX2_findSuspects_16 : decode cX2_findSuspects 16 = .ok (.invokevirtual 130, 3) := by decide +kernel
theorem dX2_findSuspects_19 : decode cX2_findSuspects 19 = .ok (.istore_n 2, 1) := by decide +kernel
theorem dX2_findSuspects_20 : decode cX2_findSuspects 20 = .ok (.iinc 3 1, 3) := by decide +kernel
theorem dX2_findSuspects_23 : decode cX2_findSuspects 23 = .ok (.goto (-19), 3) := by decide +kernel
theorem dX2_findSuspects_26 : decode cX2_findSuspects 26 = .ok (.return_, 1) := by decide +kernel
set_option maxRecDepth 20000 in
theorem ggX2_suspectOnce_X1_layerOf : GoodIn wsX2_suspectOnce wsX1_layerOf := goodIn_r _ [6, 7, 8, 9, 10, 11, 12, 13, 14, 58, 59, 60] (by decide +kernel) (by decide +kernel)
set_option maxRecDepth 20000 in
theorem gX2_suspectOnce_X1_layerOf_n133 : GoodIn wsX2_suspectOnce (wsX1_layerOf) := ggX2_suspectOnce_X1_layerOf
set_option maxRecDepth 20000 in
theorem ggX2_suspectOnce_X1_leadsTo : GoodIn wsX2_suspectOnce wsX1_leadsTo := goodIn_r _ [17, 7, 58, 59, 60] (by decide +kernel) (by decide +kernel)
set_option maxRecDepth 20000 in
theorem gX2_suspectOnce_X1_leadsTo_n99 : GoodIn wsX2_suspectOnce (wsX1_leadsTo) := ggX2_suspectOnce_X1_leadsTo
set_option maxRecDepth 20000 in
theorem ggX2_suspectOnce_X2_suspectsBy : GoodIn wsX2_suspectOnce wsX2_suspectsBy := goodIn_r _ [22, 23, 24, 25, 26, 21, 27, 1, 2, 15, 4, 16, 17, 7, 28, 29, 30, 31, 32, 33, 34, 35, 36, 37, 38, 39, 40, 41, 42, 43, 44, 45, 46, 47, 48, 49, 50, 51, 52, 53, 54, 55, 56, 57, 61, 62, 63, 64, 58, 59, 60] (by decide +kernel) (by decide +kernel)
set_option maxRecDepth 20000 in
theorem gX2_suspectOnce_X2_suspectsBy : GoodIn wsX2_suspectOnce (wsV RX2 136 RX2 yX2_suspectsBy wsX2_suspectsBy) := goodIn_app (goodIn_of _ (by decide +kernel)) ggX2_suspectOnce_X2_suspectsBy
theorem dX2_suspectOnce_0 : decode cX2_suspectOnce 0 = .ok (.iconst 0, 1) := by decide +kernel
theorem dX2_suspectOnce_1 : decode cX2_suspectOnce 1 = .ok (.istore_n 2, 1) := by decide +kernel
theorem dX2_suspectOnce_2 : decode cX2_suspectOnce 2 = .ok (.iconst 0, 1) := by decide +kernel
theorem dX2_suspectOnce_3 : decode cX2_suspectOnce 3 = .ok (.istore_n 3, 1) := by decide +kernel
theorem dX2_suspectOnce_4 : decode cX2_suspectOnce 4 = .ok (.iload_n 3, 1) := by decide +kernel
theorem dX2_suspectOnce_5 : decode cX2_suspectOnce 5 = .ok (.aload_n 0, 1) := by decide +kernel
theorem dX2_suspectOnce_6 : decode cX2_suspectOnce 6 = .ok (.getfield 10, 3) := by decide +kernel
theorem dX2_suspectOnce_9 : decode cX2_suspectOnce 9 = .ok (.getfield 39, 3) := by decide +kernel
theorem dX2_suspectOnce_12 : decode cX2_suspectOnce 12 = .ok (.if_icmp .ge 107, 3) := by decide +kernel
theorem dX2_suspectOnce_15 : decode cX2_suspectOnce 15 = .ok (.aload_n 0, 1) := by decide +kernel
theorem dX2_suspectOnce_16 : decode cX2_suspectOnce 16 = .ok (.getfield 10, 3) := by decide +kernel
theorem dX2_suspectOnce_19 : decode cX2_suspectOnce 19 = .ok (.getfield 103, 3) := by decide +kernel
theorem dX2_suspectOnce_22 : decode cX2_suspectOnce 22 = .ok (.iload_n 3, 1) := by decide +kernel
theorem dX2_suspectOnce_23 : decode cX2_suspectOnce 23 = .ok (.aaload, 1) := by decide +kernel
theorem dX2_suspectOnce_24 : decode cX2_suspectOnce 24 = .ok (.astore 4, 2) := by decide +kernel
theorem dX2_suspectOnce_26 : decode cX2_suspectOnce 26 = .ok (.aload_n 0, 1) := by decide +kernel
theorem dX2_suspectOnce_27 : decode cX2_suspectOnce 27 = .ok (.getfield 10, 3) := by decide +kernel
theorem dX2_suspectOnce_30 : decode cX2_suspectOnce 30 = .ok (.aload 4, 2) := by decide +kernel
theorem dX2_suspectOnce_32 : decode cX2_suspectOnce 32 = .ok (.getfield 107, 3) := by decide +kernel
theorem dX2_suspectOnce_35 : decode cX2_suspectOnce 35 = .ok (.invokevirtual 133, 3) := by decide +kernel
theorem dX2_suspectOnce_38 : decode cX2_suspectOnce 38 = .ok (.iload_n 1, 1) := by decide +kernel
theorem dX2_suspectOnce_39 : decode cX2_suspectOnce 39 = .ok (.if_icmp .ne 74, 3) := by decide +kernel
theorem dX2_suspectOnce_42 : decode cX2_suspectOnce 42 = .ok (.aload_n 0, 1) := by decide +kernel
theorem dX2_suspectOnce_43 : decode cX2_suspectOnce 43 = .ok (.getfield 10, 3) := by decide +kernel
theorem dX2_suspectOnce_46 : decode cX2_suspectOnce 46 = .ok (.aload 4, 2) := by decide +kernel
theorem dX2_suspectOnce_48 : decode cX2_suspectOnce 48 = .ok (.getfield 107, 3) := by decide +kernel
theorem dX2_suspectOnce_51 : decode cX2_suspectOnce 51 = .ok (.aload 4, 2) := by decide +kernel
theorem dX2_suspectOnce_53 : decode cX2_suspectOnce 53 = .ok (.getfield 107, 3) := by decide +kernel
theorem dX2_suspectOnce_56 : decode cX2_suspectOnce 56 = .ok (.invokevirtual 99, 3) := by decide +kernel
theorem dX2_suspectOnce_59 : decode cX2_suspectOnce 59 = .ok (.ifCond .eq 54, 3) := by decide +kernel
theorem dX2_suspectOnce_62 : decode cX2_suspectOnce 62 = .ok (.aload_n 0, 1) := by decide +kernel
theorem dX2_suspectOnce_63 : decode cX2_suspectOnce 63 = .ok (.aload 4, 2) := by decide +kernel
theorem dX2_suspectOnce_65 : decode cX2_suspectOnce 65 = .ok (.invokevirtual 136, 3) := by decide +kernel
theorem dX2_suspectOnce_68 : decode cX2_suspectOnce 68 = .ok (.aload_n 0, 1) := by decide +kernel
theorem dX2_suspectOnce_69 : decode cX2_suspectOnce 69 = .ok (.getfield 23, 3) := by decide +kernel
theorem dX2_suspectOnce_72 : decode cX2_suspectOnce 72 = .ok (.aload 4, 2) := by decide +kernel
theorem dX2_suspectOnce_74 : decode cX2_suspectOnce 74 = .ok (.getfield 107, 3) := by decide +kernel
theorem dX2_suspectOnce_77 : decode cX2_suspectOnce 77 = .ok (.iaload, 1) := by decide +kernel
theorem dX2_suspectOnce_78 : decode cX2_suspectOnce 78 = .ok (.iconst (-1), 1) := by decide +kernel
theorem dX2_suspectOnce_79 : decode cX2_suspectOnce 79 = .ok (.ixor, 1) := by decide +kernel
theorem dX2_suspectOnce_80 : decode cX2_suspectOnce 80 = .ok (.iand, 1) := by decide +kernel
theorem dX2_suspectOnce_81 : decode cX2_suspectOnce 81 = .ok (.istore 5, 2) := by decide +kernel
theorem dX2_suspectOnce_83 : decode cX2_suspectOnce 83 = .ok (.aload_n 0, 1) := by decide +kernel
theorem dX2_suspectOnce_84 : decode cX2_suspectOnce 84 = .ok (.getfield 23, 3) := by decide +kernel
theorem dX2_suspectOnce_87 : decode cX2_suspectOnce 87 = .ok (.aload 4, 2) := by decide +kernel
theorem dX2_suspectOnce_89 : decode cX2_suspectOnce 89 = .ok (.getfield 107, 3) := by decide +kernel
theorem dX2_suspectOnce_92 : decode cX2_suspectOnce 92 = .ok (.dup2, 1) := by decide +kernel
theorem dX2_suspectOnce_93 : decode cX2_suspectOnce 93 = .ok (.iaload, 1) := by decide +kernel
theorem dX2_suspectOnce_94 : decode cX2_suspectOnce 94 = .ok (.iload 5, 2) := by decide +kernel
theorem dX2_suspectOnce_96 : decode cX2_suspectOnce 96 = .ok (.ior, 1) := by decide +kernel
theorem dX2_suspectOnce_97 : decode cX2_suspectOnce 97 = .ok (.iastore, 1) := by decide +kernel
theorem dX2_suspectOnce_98 : decode cX2_suspectOnce 98 = .ok (.iload_n 2, 1) := by decide +kernel
theorem dX2_suspectOnce_99 : decode cX2_suspectOnce 99 = .ok (.ifCond .ne 8, 3) := by decide +kernel
theorem dX2_suspectOnce_102 : decode cX2_suspectOnce 102 = .ok (.iload 5, 2) := by decide +kernel
theorem dX2_suspectOnce_104 : decode cX2_suspectOnce 104 = .ok (.ifCond .eq 7, 3) := by decide +kernel
theorem dX2_suspectOnce_107 : decode cX2_suspectOnce 107 = .ok (.iconst 1, 1) := by decide +kernel
theorem dX2_suspectOnce_108 : decode cX2_suspectOnce 108 = .ok (.goto 4, 3) := by decide +kernel
theorem dX2_suspectOnce_111 : decode cX2_suspectOnce 111 = .ok (.iconst 0, 1) := by decide +kernel
theorem dX2_suspectOnce_112 : decode cX2_suspectOnce 112 = .ok (.istore_n 2, 1) := by decide +kernel
theorem dX2_suspectOnce_113 : decode cX2_suspectOnce 113 = .ok (.iinc 3 1, 3) := by decide +kernel
theorem dX2_suspectOnce_116 : decode cX2_suspectOnce 116 = .ok (.goto (-112), 3) := by decide +kernel
theorem dX2_suspectOnce_119 : decode cX2_suspectOnce 119 = .ok (.iload_n 2, 1) := by decide +kernel
theorem dX2_suspectOnce_120 : decode cX2_suspectOnce 120 = .ok (.ireturn, 1) := by decide +kernel
set_option maxRecDepth 20000 in
theorem ggX2_suspectsBy_X2_lostFor : GoodIn wsX2_suspectsBy wsX2_lostFor := goodIn_r _ [6, 7, 8, 9, 10, 11, 12, 13, 14, 15, 16, 5, 17, 1, 18, 38, 39, 40, 41, 42, 43, 48, 49, 50] (by decide +kernel) (by decide +kernel)
set_option maxRecDepth 20000 in
theorem gX2_suspectsBy_X2_lostFor : GoodIn wsX2_suspectsBy (wsV RX2 146 RX2 yX2_lostFor wsX2_lostFor) := goodIn_app (goodIn_of _ (by decide +kernel)) ggX2_suspectsBy_X2_lostFor
set_option maxRecDepth 20000 in
theorem ggX2_suspectsBy_X2_turned : GoodIn wsX2_suspectsBy wsX2_turned := goodIn_r _ [21, 22, 23, 5, 24, 25, 26, 27] (by decide +kernel) (by decide +kernel)
set_option maxRecDepth 20000 in
theorem gX2_suspectsBy_X2_turned : GoodIn wsX2_suspectsBy (va_wsS RX2 152 yX2_turned wsX2_turned) := goodIn_app (goodIn_of _ (by decide +kernel)) ggX2_suspectsBy_X2_turned
set_option maxRecDepth 20000 in
theorem ggX2_suspectsBy_X2_joined : GoodIn wsX2_suspectsBy wsX2_joined := goodIn_r _ [30, 22, 23, 5, 24, 31, 32, 33] (by decide +kernel) (by decide +kernel)
set_option maxRecDepth 20000 in
theorem gX2_suspectsBy_X2_joined : GoodIn wsX2_suspectsBy (va_wsS RX2 155 yX2_joined wsX2_joined) := goodIn_app (goodIn_of _ (by decide +kernel)) ggX2_suspectsBy_X2_joined
set_option maxRecDepth 20000 in
theorem ggX2_suspectsBy_X2_putInto : GoodIn wsX2_suspectsBy wsX2_putInto := goodIn_r _ [37, 18, 1, 38, 39, 40, 41, 42, 43] (by decide +kernel) (by decide +kernel)
set_option maxRecDepth 20000 in
theorem gX2_suspectsBy_X2_putInto : GoodIn wsX2_suspectsBy (wsV RX2 80 RX2 yX2_putInto wsX2_putInto) := goodIn_app (goodIn_of _ (by decide +kernel)) ggX2_suspectsBy_X2_putInto
theorem dX2_suspectsBy_0 : decode cX2_suspectsBy 0 = .ok (.aload_n 0, 1) := by decide +kernel
theorem dX2_suspectsBy_1 : decode cX2_suspectsBy 1 = .ok (.getfield 20, 3) := by decide +kernel
theorem dX2_suspectsBy_4 : decode cX2_suspectsBy 4 = .ok (.aload_n 1, 1) := by decide +kernel
theorem dX2_suspectsBy_5 : decode cX2_suspectsBy 5 = .ok (.getfield 140, 3) := by decide +kernel
theorem dX2_suspectsBy_8 : decode cX2_suspectsBy 8 = .ok (.iaload, 1) := by decide +kernel
theorem dX2_suspectsBy_9 : decode cX2_suspectsBy 9 = .ok (.istore_n 2, 1) := by decide +kernel
theorem dX2_suspectsBy_10 : decode cX2_suspectsBy 10 = .ok (.aload_n 0, 1) := by decide +kernel
theorem dX2_suspectsBy_11 : decode cX2_suspectsBy 11 = .ok (.getfield 20, 3) := by decide +kernel
theorem dX2_suspectsBy_14 : decode cX2_suspectsBy 14 = .ok (.aload_n 1, 1) := by decide +kernel
theorem dX2_suspectsBy_15 : decode cX2_suspectsBy 15 = .ok (.getfield 143, 3) := by decide +kernel
theorem dX2_suspectsBy_18 : decode cX2_suspectsBy 18 = .ok (.iaload, 1) := by decide +kernel
theorem dX2_suspectsBy_19 : decode cX2_suspectsBy 19 = .ok (.istore_n 3, 1) := by decide +kernel
theorem dX2_suspectsBy_20 : decode cX2_suspectsBy 20 = .ok (.aload_n 0, 1) := by decide +kernel
theorem dX2_suspectsBy_21 : decode cX2_suspectsBy 21 = .ok (.aload_n 1, 1) := by decide +kernel
theorem dX2_suspectsBy_22 : decode cX2_suspectsBy 22 = .ok (.getfield 107, 3) := by decide +kernel
theorem dX2_suspectsBy_25 : decode cX2_suspectsBy 25 = .ok (.aload_n 1, 1) := by decide +kernel
theorem dX2_suspectsBy_26 : decode cX2_suspectsBy 26 = .ok (.getfield 140, 3) := by decide +kernel
theorem dX2_suspectsBy_29 : decode cX2_suspectsBy 29 = .ok (.invokevirtual 146, 3) := by decide +kernel
theorem dX2_suspectsBy_32 : decode cX2_suspectsBy 32 = .ok (.istore 4, 2) := by decide +kernel
theorem dX2_suspectsBy_34 : decode cX2_suspectsBy 34 = .ok (.aload_n 0, 1) := by decide +kernel
theorem dX2_suspectsBy_35 : decode cX2_suspectsBy 35 = .ok (.aload_n 1, 1) := by decide +kernel
theorem dX2_suspectsBy_36 : decode cX2_suspectsBy 36 = .ok (.getfield 107, 3) := by decide +kernel
theorem dX2_suspectsBy_39 : decode cX2_suspectsBy 39 = .ok (.aload_n 1, 1) := by decide +kernel
theorem dX2_suspectsBy_40 : decode cX2_suspectsBy 40 = .ok (.getfield 143, 3) := by decide +kernel
theorem dX2_suspectsBy_43 : decode cX2_suspectsBy 43 = .ok (.invokevirtual 146, 3) := by decide +kernel
theorem dX2_suspectsBy_46 : decode cX2_suspectsBy 46 = .ok (.istore 5, 2) := by decide +kernel
theorem dX2_suspectsBy_48 : decode cX2_suspectsBy 48 = .ok (.aload_n 1, 1) := by decide +kernel
theorem dX2_suspectsBy_49 : decode cX2_suspectsBy 49 = .ok (.getfield 149, 3) := by decide +kernel
theorem dX2_suspectsBy_52 : decode cX2_suspectsBy 52 = .ok (.tableswitch 65 0 3 #[32, 35, 41, 55], 32) := by decide +kernel
theorem dX2_suspectsBy_84 : decode cX2_suspectsBy 84 = .ok (.iload 4, 2) := by decide +kernel
theorem dX2_suspectsBy_86 : decode cX2_suspectsBy 86 = .ok (.ireturn, 1) := by decide +kernel
theorem dX2_suspectsBy_87 : decode cX2_suspectsBy 87 = .ok (.iload 4, 2) := by decide +kernel
theorem dX2_suspectsBy_89 : decode cX2_suspectsBy 89 = .ok (.invokestatic 152, 3) := by decide +kernel
theorem dX2_suspectsBy_92 : decode cX2_suspectsBy 92 = .ok (.ireturn, 1) := by decide +kernel
theorem dX2_suspectsBy_93 : decode cX2_suspectsBy 93 = .ok (.iload 4, 2) := by decide +kernel
theorem dX2_suspectsBy_95 : decode cX2_suspectsBy 95 = .ok (.iload_n 3, 1) := by decide +kernel
theorem dX2_suspectsBy_96 : decode cX2_suspectsBy 96 = .ok (.invokestatic 155, 3) := by decide +kernel
theorem dX2_suspectsBy_99 : decode cX2_suspectsBy 99 = .ok (.iload_n 2, 1) := by decide +kernel
theorem dX2_suspectsBy_100 : decode cX2_suspectsBy 100 = .ok (.iload 5, 2) := by decide +kernel
theorem dX2_suspectsBy_102 : decode cX2_suspectsBy 102 = .ok (.invokestatic 155, 3) := by decide +kernel
theorem dX2_suspectsBy_105 : decode cX2_suspectsBy 105 = .ok (.ior, 1) := by decide +kernel
theorem dX2_suspectsBy_106 : decode cX2_suspectsBy 106 = .ok (.ireturn, 1) := by decide +kernel
theorem dX2_suspectsBy_107 : decode cX2_suspectsBy 107 = .ok (.iload 4, 2) := by decide +kernel
theorem dX2_suspectsBy_109 : decode cX2_suspectsBy 109 = .ok (.iload_n 3, 1) := by decide +kernel
theorem dX2_suspectsBy_110 : decode cX2_suspectsBy 110 = .ok (.iand, 1) := by decide +kernel
theorem dX2_suspectsBy_111 : decode cX2_suspectsBy 111 = .ok (.iload_n 2, 1) := by decide +kernel
theorem dX2_suspectsBy_112 : decode cX2_suspectsBy 112 = .ok (.iload 5, 2) := by decide +kernel
theorem dX2_suspectsBy_114 : decode cX2_suspectsBy 114 = .ok (.iand, 1) := by decide +kernel
theorem dX2_suspectsBy_115 : decode cX2_suspectsBy 115 = .ok (.ior, 1) := by decide +kernel
theorem dX2_suspectsBy_116 : decode cX2_suspectsBy 116 = .ok (.ireturn, 1) := by decide +kernel
theorem dX2_suspectsBy_117 : decode cX2_suspectsBy 117 = .ok (.iload_n 2, 1) := by decide +kernel
theorem dX2_suspectsBy_118 : decode cX2_suspectsBy 118 = .ok (.iload_n 3, 1) := by decide +kernel
theorem dX2_suspectsBy_119 : decode cX2_suspectsBy 119 = .ok (.iconst (-1), 1) := by decide +kernel
theorem dX2_suspectsBy_120 : decode cX2_suspectsBy 120 = .ok (.ixor, 1) := by decide +kernel
theorem dX2_suspectsBy_121 : decode cX2_suspectsBy 121 = .ok (.iand, 1) := by decide +kernel
theorem dX2_suspectsBy_122 : decode cX2_suspectsBy 122 = .ok (.iload 4, 2) := by decide +kernel
theorem dX2_suspectsBy_124 : decode cX2_suspectsBy 124 = .ok (.aload_n 0, 1) := by decide +kernel
theorem dX2_suspectsBy_125 : decode cX2_suspectsBy 125 = .ok (.aload_n 1, 1) := by decide +kernel
theorem dX2_suspectsBy_126 : decode cX2_suspectsBy 126 = .ok (.getfield 143, 3) := by decide +kernel
theorem dX2_suspectsBy_129 : decode cX2_suspectsBy 129 = .ok (.invokevirtual 80, 3) := by decide +kernel
theorem dX2_suspectsBy_132 : decode cX2_suspectsBy 132 = .ok (.ior, 1) := by decide +kernel
theorem dX2_suspectsBy_133 : decode cX2_suspectsBy 133 = .ok (.iand, 1) := by decide +kernel
theorem dX2_suspectsBy_134 : decode cX2_suspectsBy 134 = .ok (.ireturn, 1) := by decide +kernel
set_option maxRecDepth 20000 in
theorem ggX2_lostFor_X1_leadsTo : GoodIn wsX2_lostFor wsX1_leadsTo := goodIn_r _ [6, 7, 21, 22, 23] (by decide +kernel) (by decide +kernel)
set_option maxRecDepth 20000 in
theorem gX2_lostFor_X1_leadsTo_n99 : GoodIn wsX2_lostFor (wsX1_leadsTo) := ggX2_lostFor_X1_leadsTo
set_option maxRecDepth 20000 in
theorem ggX2_lostFor_X2_takenOutOf : GoodIn wsX2_lostFor wsX2_takenOutOf := goodIn_r _ [12, 13, 14, 15, 16, 17, 18, 19, 20] (by decide +kernel) (by decide +kernel)
set_option maxRecDepth 20000 in
theorem gX2_lostFor_X2_takenOutOf : GoodIn wsX2_lostFor (wsV RX2 89 RX2 yX2_takenOutOf wsX2_takenOutOf) := goodIn_app (goodIn_of _ (by decide +kernel)) ggX2_lostFor_X2_takenOutOf
theorem dX2_lostFor_0 : decode cX2_lostFor 0 = .ok (.aload_n 0, 1) := by decide +kernel
theorem dX2_lostFor_1 : decode cX2_lostFor 1 = .ok (.getfield 10, 3) := by decide +kernel
theorem dX2_lostFor_4 : decode cX2_lostFor 4 = .ok (.iload_n 2, 1) := by decide +kernel
theorem dX2_lostFor_5 : decode cX2_lostFor 5 = .ok (.iload_n 1, 1) := by decide +kernel
theorem dX2_lostFor_6 : decode cX2_lostFor 6 = .ok (.invokevirtual 99, 3) := by decide +kernel
theorem dX2_lostFor_9 : decode cX2_lostFor 9 = .ok (.ifCond .eq 12, 3) := by decide +kernel
theorem dX2_lostFor_12 : decode cX2_lostFor 12 = .ok (.aload_n 0, 1) := by decide +kernel
theorem dX2_lostFor_13 : decode cX2_lostFor 13 = .ok (.getfield 23, 3) := by decide +kernel
theorem dX2_lostFor_16 : decode cX2_lostFor 16 = .ok (.iload_n 2, 1) := by decide +kernel
theorem dX2_lostFor_17 : decode cX2_lostFor 17 = .ok (.iaload, 1) := by decide +kernel
theorem dX2_lostFor_18 : decode cX2_lostFor 18 = .ok (.goto 8, 3) := by decide +kernel
theorem dX2_lostFor_21 : decode cX2_lostFor 21 = .ok (.aload_n 0, 1) := by decide +kernel
theorem dX2_lostFor_22 : decode cX2_lostFor 22 = .ok (.iload_n 2, 1) := by decide +kernel
theorem dX2_lostFor_23 : decode cX2_lostFor 23 = .ok (.invokevirtual 89, 3) := by decide +kernel
theorem dX2_lostFor_26 : decode cX2_lostFor 26 = .ok (.ireturn, 1) := by decide +kernel
set_option maxRecDepth 20000 in
theorem ggX2_takeOutDoubtful_X1_layerOf : GoodIn wsX2_takeOutDoubtful wsX1_layerOf := goodIn_r _ [7, 8, 9, 10, 11, 12, 13, 14, 15, 25, 26, 27] (by decide +kernel) (by decide +kernel)
set_option maxRecDepth 20000 in
theorem gX2_takeOutDoubtful_X1_layerOf_n133 : GoodIn wsX2_takeOutDoubtful (wsX1_layerOf) := ggX2_takeOutDoubtful_X1_layerOf
set_option maxRecDepth 20000 in
theorem ggX2_takeOutDoubtful_X1_leadsTo : GoodIn wsX2_takeOutDoubtful wsX1_leadsTo := goodIn_r _ [18, 8, 25, 26, 27] (by decide +kernel) (by decide +kernel)
set_option maxRecDepth 20000 in
theorem gX2_takeOutDoubtful_X1_leadsTo_n99 : GoodIn wsX2_takeOutDoubtful (wsX1_leadsTo) := ggX2_takeOutDoubtful_X1_leadsTo
theorem dX2_takeOutDoubtful_0 : decode cX2_takeOutDoubtful 0 = .ok (.iconst 2, 1) := by decide +kernel
theorem dX2_takeOutDoubtful_1 : decode cX2_takeOutDoubtful 1 = .ok (.istore_n 2, 1) := by decide +kernel
theorem dX2_takeOutDoubtful_2 : decode cX2_takeOutDoubtful 2 = .ok (.iload_n 2, 1) := by decide +kernel
theorem dX2_takeOutDoubtful_3 : decode cX2_takeOutDoubtful 3 = .ok (.bipush 7, 2) := by decide +kernel
theorem dX2_takeOutDoubtful_5 : decode cX2_takeOutDoubtful 5 = .ok (.if_icmp .ge 58, 3) := by decide +kernel
theorem dX2_takeOutDoubtful_8 : decode cX2_takeOutDoubtful 8 = .ok (.aload_n 0, 1) := by decide +kernel
theorem dX2_takeOutDoubtful_9 : decode cX2_takeOutDoubtful 9 = .ok (.getfield 10, 3) := by decide +kernel
theorem dX2_takeOutDoubtful_12 : decode cX2_takeOutDoubtful 12 = .ok (.iload_n 2, 1) := by decide +kernel
theorem dX2_takeOutDoubtful_13 : decode cX2_takeOutDoubtful 13 = .ok (.invokevirtual 133, 3) := by decide +kernel
theorem dX2_takeOutDoubtful_16 : decode cX2_takeOutDoubtful 16 = .ok (.iload_n 1, 1) := by decide +kernel
theorem dX2_takeOutDoubtful_17 : decode cX2_takeOutDoubtful 17 = .ok (.if_icmp .ne 40, 3) := by decide +kernel
theorem dX2_takeOutDoubtful_20 : decode cX2_takeOutDoubtful 20 = .ok (.aload_n 0, 1) := by decide +kernel
theorem dX2_takeOutDoubtful_21 : decode cX2_takeOutDoubtful 21 = .ok (.getfield 16, 3) := by decide +kernel
theorem dX2_takeOutDoubtful_24 : decode cX2_takeOutDoubtful 24 = .ok (.iload_n 2, 1) := by decide +kernel
theorem dX2_takeOutDoubtful_25 : decode cX2_takeOutDoubtful 25 = .ok (.aload_n 0, 1) := by decide +kernel
theorem dX2_takeOutDoubtful_26 : decode cX2_takeOutDoubtful 26 = .ok (.getfield 10, 3) := by decide +kernel
theorem dX2_takeOutDoubtful_29 : decode cX2_takeOutDoubtful 29 = .ok (.iload_n 2, 1) := by decide +kernel
theorem dX2_takeOutDoubtful_30 : decode cX2_takeOutDoubtful 30 = .ok (.iload_n 2, 1) := by decide +kernel
theorem dX2_takeOutDoubtful_31 : decode cX2_takeOutDoubtful 31 = .ok (.invokevirtual 99, 3) := by decide +kernel
theorem dX2_takeOutDoubtful_34 : decode cX2_takeOutDoubtful 34 = .ok (.ifCond .eq 21, 3) := by decide +kernel
theorem dX2_takeOutDoubtful_37 : decode cX2_takeOutDoubtful 37 = .ok (.aload_n 0, 1) := by decide +kernel
theorem dX2_takeOutDoubtful_38 : decode cX2_takeOutDoubtful 38 = .ok (.getfield 16, 3) := by decide +kernel
theorem dX2_takeOutDoubtful_41 : decode cX2_takeOutDoubtful 41 = .ok (.iload_n 2, 1) := by decide +kernel
theorem dX2_takeOutDoubtful_42 : decode cX2_takeOutDoubtful 42 = .ok (.iaload, 1) := by decide +kernel
theorem dX2_takeOutDoubtful_43 : decode cX2_takeOutDoubtful 43 = .ok (.aload_n 0, 1) := by decide +kernel
theorem dX2_takeOutDoubtful_44 : decode cX2_takeOutDoubtful 44 = .ok (.getfield 23, 3) := by decide +kernel
theorem dX2_takeOutDoubtful_47 : decode cX2_takeOutDoubtful 47 = .ok (.iload_n 2, 1) := by decide +kernel
theorem dX2_takeOutDoubtful_48 : decode cX2_takeOutDoubtful 48 = .ok (.iaload, 1) := by decide +kernel
theorem dX2_takeOutDoubtful_49 : decode cX2_takeOutDoubtful 49 = .ok (.iconst (-1), 1) := by decide +kernel
theorem dX2_takeOutDoubtful_50 : decode cX2_takeOutDoubtful 50 = .ok (.ixor, 1) := by decide +kernel
theorem dX2_takeOutDoubtful_51 : decode cX2_takeOutDoubtful 51 = .ok (.iand, 1) := by decide +kernel
theorem dX2_takeOutDoubtful_52 : decode cX2_takeOutDoubtful 52 = .ok (.goto 4, 3) := by decide +kernel
theorem dX2_takeOutDoubtful_55 : decode cX2_takeOutDoubtful 55 = .ok (.iconst 0, 1) := by decide +kernel
theorem dX2_takeOutDoubtful_56 : decode cX2_takeOutDoubtful 56 = .ok (.iastore, 1) := by decide +kernel
theorem dX2_takeOutDoubtful_57 : decode cX2_takeOutDoubtful 57 = .ok (.iinc 2 1, 3) := by decide +kernel
theorem dX2_takeOutDoubtful_60 : decode cX2_takeOutDoubtful 60 = .ok (.goto (-58), 3) := by decide +kernel
theorem dX2_takeOutDoubtful_63 : decode cX2_takeOutDoubtful 63 = .ok (.return_, 1) := by decide +kernel
set_option maxRecDepth 20000 in
theorem ggX2_fill_X2_fillOnce : GoodIn wsX2_fill wsX2_fillOnce := goodIn_r _ [5, 6, 7, 8, 9, 10, 11, 12, 13, 14, 15, 16, 17, 18, 19, 20, 21, 22, 23, 24, 25, 26, 27, 4, 28, 29, 30, 31, 32, 33, 34, 35, 36, 37, 38, 39, 40, 41, 42, 43, 44, 45, 46, 47, 48, 49, 50, 51, 52] (by decide +kernel) (by decide +kernel)
set_option maxRecDepth 20000 in
theorem gX2_fill_X2_fillOnce : GoodIn wsX2_fill (wsV RX2 158 RX2 yX2_fillOnce wsX2_fillOnce) := goodIn_app (goodIn_of _ (by decide +kernel)) ggX2_fill_X2_fillOnce
theorem dX2_fill_0 : decode cX2_fill 0 = .ok (.iconst 1, 1) := by decide +kernel
theorem dX2_fill_1 : decode cX2_fill 1 = .ok (.istore_n 2, 1) := by decide +kernel
theorem dX2_fill_2 : decode cX2_fill 2 = .ok (.iconst 0, 1) := by decide +kernel
theorem dX2_fill_3 : decode cX2_fill 3 = .ok (.istore_n 3, 1) := by decide +kernel
theorem dX2_fill_4 : decode cX2_fill 4 = .ok (.iload_n 2, 1) := by decide +kernel
theorem dX2_fill_5 : decode cX2_fill 5 = .ok (.ifCond .eq 21, 3) := by decide +kernel
theorem dX2_fill_8 : decode cX2_fill 8 = .ok (.iload_n 3, 1) := by decide +kernel
theorem dX2_fill_9 : decode cX2_fill 9 = .ok (.bipush 126, 2) := by decide +kernel
theorem dX2_fill_11 : decode cX2_fill 11 = .ok (.if_icmp .ge 15, 3) := by decide +kernel
theorem dX2_fill_14 : decode cX2_fill 14 = .ok (.aload_n 0, 1) := by decide +kernel
theorem dX2_fill_15 : decode cX2_fill 15 = .ok (.iload_n 1, 1) := by decide +kernel
theorem dX2_fill_16 : decode cX2_fill 16 = .ok (.invokevirtual 158, 3) := by decide +kernel
theorem dX2_fill_19 : decode cX2_fill 19 = .ok (.istore_n 2, 1) := by decide +kernel
theorem dX2_fill_20 : decode cX2_fill 20 = .ok (.iinc 3 1, 3) := by decide +kernel
theorem dX2_fill_23 : decode cX2_fill 23 = .ok (.goto (-19), 3) := by decide +kernel
theorem dX2_fill_26 : decode cX2_fill 26 = .ok (.return_, 1) := by decide +kernel
set_option maxRecDepth 20000 in
theorem ggX2_fillOnce_X1_layerOf : GoodIn wsX2_fillOnce wsX1_layerOf := goodIn_r _ [6, 7, 8, 9, 10, 11, 12, 13, 14, 42, 43, 44] (by decide +kernel) (by decide +kernel)
set_option maxRecDepth 20000 in
theorem gX2_fillOnce_X1_layerOf_n133 : GoodIn wsX2_fillOnce (wsX1_layerOf) := ggX2_fillOnce_X1_layerOf
set_option maxRecDepth 20000 in
theorem ggX2_fillOnce_X0_given : GoodIn wsX2_fillOnce wsX0_given := goodIn_r _ [18, 19, 20, 21, 22, 23, 24, 25, 26, 27, 28, 29, 30, 31, 32, 33, 34, 35, 45, 46, 47, 48] (by decide +kernel) (by decide +kernel)
set_option maxRecDepth 20000 in
theorem gX2_fillOnce_X0_given_n161 : GoodIn wsX2_fillOnce (wsX0_given) := ggX2_fillOnce_X0_given
theorem dX2_fillOnce_0 : decode cX2_fillOnce 0 = .ok (.iconst 0, 1) := by decide +kernel
theorem dX2_fillOnce_1 : decode cX2_fillOnce 1 = .ok (.istore_n 2, 1) := by decide +kernel
theorem dX2_fillOnce_2 : decode cX2_fillOnce 2 = .ok (.iconst 0, 1) := by decide +kernel
theorem dX2_fillOnce_3 : decode cX2_fillOnce 3 = .ok (.istore_n 3, 1) := by decide +kernel
theorem dX2_fillOnce_4 : decode cX2_fillOnce 4 = .ok (.iload_n 3, 1) := by decide +kernel
theorem dX2_fillOnce_5 : decode cX2_fillOnce 5 = .ok (.aload_n 0, 1) := by decide +kernel
theorem dX2_fillOnce_6 : decode cX2_fillOnce 6 = .ok (.getfield 10, 3) := by decide +kernel
theorem dX2_fillOnce_9 : decode cX2_fillOnce 9 = .ok (.getfield 39, 3) := by decide +kernel
theorem dX2_fillOnce_12 : decode cX2_fillOnce 12 = .ok (.if_icmp .ge 90, 3) := by decide +kernel
theorem dX2_fillOnce_15 : decode cX2_fillOnce 15 = .ok (.aload_n 0, 1) := by decide +kernel
theorem dX2_fillOnce_16 : decode cX2_fillOnce 16 = .ok (.getfield 10, 3) := by decide +kernel
theorem dX2_fillOnce_19 : decode cX2_fillOnce 19 = .ok (.getfield 103, 3) := by decide +kernel
theorem dX2_fillOnce_22 : decode cX2_fillOnce 22 = .ok (.iload_n 3, 1) := by decide +kernel
theorem dX2_fillOnce_23 : decode cX2_fillOnce 23 = .ok (.aaload, 1) := by decide +kernel
theorem dX2_fillOnce_24 : decode cX2_fillOnce 24 = .ok (.astore 4, 2) := by decide +kernel
theorem dX2_fillOnce_26 : decode cX2_fillOnce 26 = .ok (.aload_n 0, 1) := by decide +kernel
theorem dX2_fillOnce_27 : decode cX2_fillOnce 27 = .ok (.getfield 10, 3) := by decide +kernel
theorem dX2_fillOnce_30 : decode cX2_fillOnce 30 = .ok (.aload 4, 2) := by decide +kernel
theorem dX2_fillOnce_32 : decode cX2_fillOnce 32 = .ok (.getfield 107, 3) := by decide +kernel
theorem dX2_fillOnce_35 : decode cX2_fillOnce 35 = .ok (.invokevirtual 133, 3) := by decide +kernel
theorem dX2_fillOnce_38 : decode cX2_fillOnce 38 = .ok (.iload_n 1, 1) := by decide +kernel
theorem dX2_fillOnce_39 : decode cX2_fillOnce 39 = .ok (.if_icmp .ne 57, 3) := by decide +kernel
theorem dX2_fillOnce_42 : decode cX2_fillOnce 42 = .ok (.aload 4, 2) := by decide +kernel
theorem dX2_fillOnce_44 : decode cX2_fillOnce 44 = .ok (.aload_n 0, 1) := by decide +kernel
theorem dX2_fillOnce_45 : decode cX2_fillOnce 45 = .ok (.getfield 16, 3) := by decide +kernel
theorem dX2_fillOnce_48 : decode cX2_fillOnce 48 = .ok (.invokevirtual 161, 3) := by decide +kernel
theorem dX2_fillOnce_51 : decode cX2_fillOnce 51 = .ok (.aload_n 0, 1) := by decide +kernel
theorem dX2_fillOnce_52 : decode cX2_fillOnce 52 = .ok (.getfield 16, 3) := by decide +kernel
theorem dX2_fillOnce_55 : decode cX2_fillOnce 55 = .ok (.aload 4, 2) := by decide +kernel
theorem dX2_fillOnce_57 : decode cX2_fillOnce 57 = .ok (.getfield 107, 3) := by decide +kernel
theorem dX2_fillOnce_60 : decode cX2_fillOnce 60 = .ok (.iaload, 1) := by decide +kernel
theorem dX2_fillOnce_61 : decode cX2_fillOnce 61 = .ok (.iconst (-1), 1) := by decide +kernel
theorem dX2_fillOnce_62 : decode cX2_fillOnce 62 = .ok (.ixor, 1) := by decide +kernel
theorem dX2_fillOnce_63 : decode cX2_fillOnce 63 = .ok (.iand, 1) := by decide +kernel
theorem dX2_fillOnce_64 : decode cX2_fillOnce 64 = .ok (.istore 5, 2) := by decide +kernel
theorem dX2_fillOnce_66 : decode cX2_fillOnce 66 = .ok (.aload_n 0, 1) := by decide +kernel
theorem dX2_fillOnce_67 : decode cX2_fillOnce 67 = .ok (.getfield 16, 3) := by decide +kernel
theorem dX2_fillOnce_70 : decode cX2_fillOnce 70 = .ok (.aload 4, 2) := by decide +kernel
theorem dX2_fillOnce_72 : decode cX2_fillOnce 72 = .ok (.getfield 107, 3) := by decide +kernel
theorem dX2_fillOnce_75 : decode cX2_fillOnce 75 = .ok (.dup2, 1) := by decide +kernel
theorem dX2_fillOnce_76 : decode cX2_fillOnce 76 = .ok (.iaload, 1) := by decide +kernel
theorem dX2_fillOnce_77 : decode cX2_fillOnce 77 = .ok (.iload 5, 2) := by decide +kernel
theorem dX2_fillOnce_79 : decode cX2_fillOnce 79 = .ok (.ior, 1) := by decide +kernel
theorem dX2_fillOnce_80 : decode cX2_fillOnce 80 = .ok (.iastore, 1) := by decide +kernel
theorem dX2_fillOnce_81 : decode cX2_fillOnce 81 = .ok (.iload_n 2, 1) := by decide +kernel
theorem dX2_fillOnce_82 : decode cX2_fillOnce 82 = .ok (.ifCond .ne 8, 3) := by decide +kernel
theorem dX2_fillOnce_85 : decode cX2_fillOnce 85 = .ok (.iload 5, 2) := by decide +kernel
theorem dX2_fillOnce_87 : decode cX2_fillOnce 87 = .ok (.ifCond .eq 7, 3) := by decide +kernel
theorem dX2_fillOnce_90 : decode cX2_fillOnce 90 = .ok (.iconst 1, 1) := by decide +kernel
theorem dX2_fillOnce_91 : decode cX2_fillOnce 91 = .ok (.goto 4, 3) := by decide +kernel
theorem dX2_fillOnce_94 : decode cX2_fillOnce 94 = .ok (.iconst 0, 1) := by decide +kernel
theorem dX2_fillOnce_95 : decode cX2_fillOnce 95 = .ok (.istore_n 2, 1) := by decide +kernel
theorem dX2_fillOnce_96 : decode cX2_fillOnce 96 = .ok (.iinc 3 1, 3) := by decide +kernel
theorem dX2_fillOnce_99 : decode cX2_fillOnce 99 = .ok (.goto (-95), 3) := by decide +kernel
theorem dX2_fillOnce_102 : decode cX2_fillOnce 102 = .ok (.iload_n 2, 1) := by decide +kernel
theorem dX2_fillOnce_103 : decode cX2_fillOnce 103 = .ok (.ireturn, 1) := by decide +kernel
end
section
theorem dX3_init_0 : decode cX3_init 0 = .ok (.aload_n 0, 1) := by decide +kernel
theorem dX3_init_1 : decode cX3_init 1 = .ok (.invokespecial 1, 3) := by decide +kernel
theorem dX3_init_4 : decode cX3_init 4 = .ok (.aload_n 0, 1) := by decide +kernel
theorem dX3_init_5 : decode cX3_init 5 = .ok (.bipush 13, 2) := by decide +kernel
theorem dX3_init_7 : decode cX3_init 7 = .ok (.newarray .int, 2) := by decide +kernel
theorem dX3_init_9 : decode cX3_init 9 = .ok (.putfield 7, 3) := by decide +kernel
theorem dX3_init_12 : decode cX3_init 12 = .ok (.aload_n 0, 1) := by decide +kernel
theorem dX3_init_13 : decode cX3_init 13 = .ok (.bipush 13, 2) := by decide +kernel
theorem dX3_init_15 : decode cX3_init 15 = .ok (.newarray .int, 2) := by decide +kernel
theorem dX3_init_17 : decode cX3_init 17 = .ok (.putfield 13, 3) := by decide +kernel
theorem dX3_init_20 : decode cX3_init 20 = .ok (.aload_n 0, 1) := by decide +kernel
theorem dX3_init_21 : decode cX3_init 21 = .ok (.bipush 13, 2) := by decide +kernel
theorem dX3_init_23 : decode cX3_init 23 = .ok (.newarray .int, 2) := by decide +kernel
theorem dX3_init_25 : decode cX3_init 25 = .ok (.putfield 16, 3) := by decide +kernel
theorem dX3_init_28 : decode cX3_init 28 = .ok (.aload_n 0, 1) := by decide +kernel
theorem dX3_init_29 : decode cX3_init 29 = .ok (.bipush 13, 2) := by decide +kernel
theorem dX3_init_31 : decode cX3_init 31 = .ok (.newarray .int, 2) := by decide +kernel
theorem dX3_init_33 : decode cX3_init 33 = .ok (.putfield 19, 3) := by decide +kernel
theorem dX3_init_36 : decode cX3_init 36 = .ok (.aload_n 0, 1) := by decide +kernel
theorem dX3_init_37 : decode cX3_init 37 = .ok (.bipush 7, 2) := by decide +kernel
theorem dX3_init_39 : decode cX3_init 39 = .ok (.newarray .int, 2) := by decide +kernel
theorem dX3_init_41 : decode cX3_init 41 = .ok (.putfield 22, 3) := by decide +kernel
theorem dX3_init_44 : decode cX3_init 44 = .ok (.aload_n 0, 1) := by decide +kernel
theorem dX3_init_45 : decode cX3_init 45 = .ok (.bipush 7, 2) := by decide +kernel
theorem dX3_init_47 : decode cX3_init 47 = .ok (.newarray .int, 2) := by decide +kernel
theorem dX3_init_49 : decode cX3_init 49 = .ok (.putfield 25, 3) := by decide +kernel
theorem dX3_init_52 : decode cX3_init 52 = .ok (.aload_n 0, 1) := by decide +kernel
theorem dX3_init_53 : decode cX3_init 53 = .ok (.bipush 7, 2) := by decide +kernel
theorem dX3_init_55 : decode cX3_init 55 = .ok (.newarray .int, 2) := by decide +kernel
theorem dX3_init_57 : decode cX3_init 57 = .ok (.putfield 28, 3) := by decide +kernel
theorem dX3_init_60 : decode cX3_init 60 = .ok (.aload_n 0, 1) := by decide +kernel
theorem dX3_init_61 : decode cX3_init 61 = .ok (.iconst 2, 1) := by decide +kernel
theorem dX3_init_62 : decode cX3_init 62 = .ok (.newarray .int, 2) := by decide +kernel
theorem dX3_init_64 : decode cX3_init 64 = .ok (.putfield 31, 3) := by decide +kernel
theorem dX3_init_67 : decode cX3_init 67 = .ok (.aload_n 0, 1) := by decide +kernel
theorem dX3_init_68 : decode cX3_init 68 = .ok (.iconst 2, 1) := by decide +kernel
theorem dX3_init_69 : decode cX3_init 69 = .ok (.newarray .int, 2) := by decide +kernel
theorem dX3_init_71 : decode cX3_init 71 = .ok (.putfield 34, 3) := by decide +kernel
theorem dX3_init_74 : decode cX3_init 74 = .ok (.aload_n 0, 1) := by decide +kernel
theorem dX3_init_75 : decode cX3_init 75 = .ok (.bipush 49, 2) := by decide +kernel
theorem dX3_init_77 : decode cX3_init 77 = .ok (.newarray .boolean, 2) := by decide +kernel
theorem dX3_init_79 : decode cX3_init 79 = .ok (.putfield 37, 3) := by decide +kernel
theorem dX3_init_82 : decode cX3_init 82 = .ok (.aload_n 0, 1) := by decide +kernel
theorem dX3_init_83 : decode cX3_init 83 = .ok (.bipush 7, 2) := by decide +kernel
theorem dX3_init_85 : decode cX3_init 85 = .ok (.newarray .boolean, 2) := by decide +kernel
theorem dX3_init_87 : decode cX3_init 87 = .ok (.putfield 41, 3) := by decide +kernel
theorem dX3_init_90 : decode cX3_init 90 = .ok (.return_, 1) := by decide +kernel
theorem dX3_within_0 : decode cX3_within 0 = .ok (.iload_n 0, 1) := by decide +kernel
theorem dX3_within_1 : decode cX3_within 1 = .ok (.iload_n 1, 1) := by decide +kernel
theorem dX3_within_2 : decode cX3_within 2 = .ok (.if_icmp .lt 12, 3) := by decide +kernel
theorem dX3_within_5 : decode cX3_within 5 = .ok (.iload_n 0, 1) := by decide +kernel
theorem dX3_within_6 : decode cX3_within 6 = .ok (.iload_n 2, 1) := by decide +kernel
theorem dX3_within_7 : decode cX3_within 7 = .ok (.if_icmp .gt 7, 3) := by decide +kernel
theorem dX3_within_10 : decode cX3_within 10 = .ok (.iconst 1, 1) := by decide +kernel
theorem dX3_within_11 : decode cX3_within 11 = .ok (.goto 4, 3) := by decide +kernel
theorem dX3_within_14 : decode cX3_within 14 = .ok (.iconst 0, 1) := by decide +kernel
theorem dX3_within_15 : decode cX3_within 15 = .ok (.ireturn, 1) := by decide +kernel
theorem dX3_bit_0 : decode cX3_bit 0 = .ok (.iconst 1, 1) := by decide +kernel
theorem dX3_bit_1 : decode cX3_bit 1 = .ok (.iconst 5, 1) := by decide +kernel
theorem dX3_bit_2 : decode cX3_bit 2 = .ok (.iload_n 0, 1) := by decide +kernel
theorem dX3_bit_3 : decode cX3_bit 3 = .ok (.imul, 1) := by decide +kernel
theorem dX3_bit_4 : decode cX3_bit 4 = .ok (.iload_n 1, 1) := by decide +kernel
theorem dX3_bit_5 : decode cX3_bit 5 = .ok (.iadd, 1) := by decide +kernel
theorem dX3_bit_6 : decode cX3_bit 6 = .ok (.ishl, 1) := by decide +kernel
theorem dX3_bit_7 : decode cX3_bit 7 = .ok (.ireturn, 1) := by decide +kernel
theorem dX3_ones_0 : decode cX3_ones 0 = .ok (.iconst 0, 1) := by decide +kernel
theorem dX3_ones_1 : decode cX3_ones 1 = .ok (.istore_n 1, 1) := by decide +kernel
theorem dX3_ones_2 : decode cX3_ones 2 = .ok (.iconst 0, 1) := by decide +kernel
theorem dX3_ones_3 : decode cX3_ones 3 = .ok (.istore_n 2, 1) := by decide +kernel
theorem dX3_ones_4 : decode cX3_ones 4 = .ok (.iload_n 2, 1) := by decide +kernel
theorem dX3_ones_5 : decode cX3_ones 5 = .ok (.bipush 25, 2) := by decide +kernel
theorem dX3_ones_7 : decode cX3_ones 7 = .ok (.if_icmp .ge 17, 3) := by decide +kernel
theorem dX3_ones_10 : decode cX3_ones 10 = .ok (.iload_n 1, 1) := by decide +kernel
theorem dX3_ones_11 : decode cX3_ones 11 = .ok (.iload_n 0, 1) := by decide +kernel
theorem dX3_ones_12 : decode cX3_ones 12 = .ok (.iload_n 2, 1) := by decide +kernel
theorem dX3_ones_13 : decode cX3_ones 13 = .ok (.ishr, 1) := by decide +kernel
theorem dX3_ones_14 : decode cX3_ones 14 = .ok (.iconst 1, 1) := by decide +kernel
theorem dX3_ones_15 : decode cX3_ones 15 = .ok (.iand, 1) := by decide +kernel
theorem dX3_ones_16 : decode cX3_ones 16 = .ok (.iadd, 1) := by decide +kernel
theorem dX3_ones_17 : decode cX3_ones 17 = .ok (.istore_n 1, 1) := by decide +kernel
theorem dX3_ones_18 : decode cX3_ones 18 = .ok (.iinc 2 1, 3) := by decide +kernel
theorem dX3_ones_21 : decode cX3_ones 21 = .ok (.goto (-17), 3) := by decide +kernel
theorem dX3_ones_24 : decode cX3_ones 24 = .ok (.iload_n 1, 1) := by decide +kernel
theorem dX3_ones_25 : decode cX3_ones 25 = .ok (.ireturn, 1) := by decide +kernel
theorem dX3_in_0 : decode cX3_in 0 = .ok (.iload_n 0, 1) := by decide +kernel
theorem dX3_in_1 : decode cX3_in 1 = .ok (.iconst 5, 1) := by decide +kernel
theorem dX3_in_2 : decode cX3_in 2 = .ok (.iload_n 1, 1) := by decide +kernel
theorem dX3_in_3 : decode cX3_in 3 = .ok (.imul, 1) := by decide +kernel
theorem dX3_in_4 : decode cX3_in 4 = .ok (.iload_n 2, 1) := by decide +kernel
theorem dX3_in_5 : decode cX3_in 5 = .ok (.iadd, 1) := by decide +kernel
theorem dX3_in_6 : decode cX3_in 6 = .ok (.ishr, 1) := by decide +kernel
theorem dX3_in_7 : decode cX3_in 7 = .ok (.iconst 1, 1) := by decide +kernel
theorem dX3_in_8 : decode cX3_in 8 = .ok (.iand, 1) := by decide +kernel
theorem dX3_in_9 : decode cX3_in 9 = .ok (.iconst 1, 1) := by decide +kernel
theorem dX3_in_10 : decode cX3_in 10 = .ok (.if_icmp .ne 7, 3) := by decide +kernel
theorem dX3_in_13 : decode cX3_in 13 = .ok (.iconst 1, 1) := by decide +kernel
theorem dX3_in_14 : decode cX3_in 14 = .ok (.goto 4, 3) := by decide +kernel
theorem dX3_in_17 : decode cX3_in 17 = .ok (.iconst 0, 1) := by decide +kernel
theorem dX3_in_18 : decode cX3_in 18 = .ok (.ireturn, 1) := by decide +kernel
theorem dX3_findNeeds_0 : decode cX3_findNeeds 0 = .ok (.iconst 0, 1) := by decide +kernel
theorem dX3_findNeeds_1 : decode cX3_findNeeds 1 = .ok (.istore_n 1, 1) := by decide +kernel
theorem dX3_findNeeds_2 : decode cX3_findNeeds 2 = .ok (.iload_n 1, 1) := by decide +kernel
theorem dX3_findNeeds_3 : decode cX3_findNeeds 3 = .ok (.bipush 49, 2) := by decide +kernel
theorem dX3_findNeeds_5 : decode cX3_findNeeds 5 = .ok (.if_icmp .ge 16, 3) := by decide +kernel
theorem dX3_findNeeds_8 : decode cX3_findNeeds 8 = .ok (.aload_n 0, 1) := by decide +kernel
theorem dX3_findNeeds_9 : decode cX3_findNeeds 9 = .ok (.getfield 37, 3) := by decide +kernel
theorem dX3_findNeeds_12 : decode cX3_findNeeds 12 = .ok (.iload_n 1, 1) := by decide +kernel
theorem dX3_findNeeds_13 : decode cX3_findNeeds 13 = .ok (.iconst 0, 1) := by decide +kernel
theorem dX3_findNeeds_14 : decode cX3_findNeeds 14 = .ok (.bastore, 1) := by decide +kernel
theorem dX3_findNeeds_15 : decode cX3_findNeeds 15 = .ok (.iinc 1 1, 3) := by decide +kernel
theorem dX3_findNeeds_18 : decode cX3_findNeeds 18 = .ok (.goto (-16), 3) := by decide +kernel
theorem dX3_findNeeds_21 : decode cX3_findNeeds 21 = .ok (.iconst 0, 1) := by decide +kernel
theorem dX3_findNeeds_22 : decode cX3_findNeeds 22 = .ok (.istore_n 1, 1) := by decide +kernel
theorem dX3_findNeeds_23 : decode cX3_findNeeds 23 = .ok (.iload_n 1, 1) := by decide +kernel
theorem dX3_findNeeds_24 : decode cX3_findNeeds 24 = .ok (.aload_n 0, 1) := by decide +kernel
theorem dX3_findNeeds_25 : decode cX3_findNeeds 25 = .ok (.getfield 44, 3) := by decide +kernel
theorem dX3_findNeeds_28 : decode cX3_findNeeds 28 = .ok (.if_icmp .ge 91, 3) := by decide +kernel
theorem dX3_findNeeds_31 : decode cX3_findNeeds 31 = .ok (.aload_n 0, 1) := by decide +kernel
theorem dX3_findNeeds_32 : decode cX3_findNeeds 32 = .ok (.getfield 37, 3) := by decide +kernel
theorem dX3_findNeeds_35 : decode cX3_findNeeds 35 = .ok (.bipush 7, 2) := by decide +kernel
theorem dX3_findNeeds_37 : decode cX3_findNeeds 37 = .ok (.aload_n 0, 1) := by decide +kernel
theorem dX3_findNeeds_38 : decode cX3_findNeeds 38 = .ok (.getfield 7, 3) := by decide +kernel
theorem dX3_findNeeds_41 : decode cX3_findNeeds 41 = .ok (.iload_n 1, 1) := by decide +kernel
theorem dX3_findNeeds_42 : decode cX3_findNeeds 42 = .ok (.iaload, 1) := by decide +kernel
theorem dX3_findNeeds_43 : decode cX3_findNeeds 43 = .ok (.imul, 1) := by decide +kernel
theorem dX3_findNeeds_44 : decode cX3_findNeeds 44 = .ok (.aload_n 0, 1) := by decide +kernel
theorem dX3_findNeeds_45 : decode cX3_findNeeds 45 = .ok (.getfield 16, 3) := by decide +kernel
theorem dX3_findNeeds_48 : decode cX3_findNeeds 48 = .ok (.iload_n 1, 1) := by decide +kernel
theorem dX3_findNeeds_49 : decode cX3_findNeeds 49 = .ok (.iaload, 1) := by decide +kernel
theorem dX3_findNeeds_50 : decode cX3_findNeeds 50 = .ok (.iadd, 1) := by decide +kernel
theorem dX3_findNeeds_51 : decode cX3_findNeeds 51 = .ok (.iconst 1, 1) := by decide +kernel
theorem dX3_findNeeds_52 : decode cX3_findNeeds 52 = .ok (.bastore, 1) := by decide +kernel
theorem dX3_findNeeds_53 : decode cX3_findNeeds 53 = .ok (.aload_n 0, 1) := by decide +kernel
theorem dX3_findNeeds_54 : decode cX3_findNeeds 54 = .ok (.getfield 37, 3) := by decide +kernel
theorem dX3_findNeeds_57 : decode cX3_findNeeds 57 = .ok (.bipush 7, 2) := by decide +kernel
theorem dX3_findNeeds_59 : decode cX3_findNeeds 59 = .ok (.aload_n 0, 1) := by decide +kernel
theorem dX3_findNeeds_60 : decode cX3_findNeeds 60 = .ok (.getfield 7, 3) := by decide +kernel
theorem dX3_findNeeds_63 : decode cX3_findNeeds 63 = .ok (.iload_n 1, 1) := by decide +kernel
theorem dX3_findNeeds_64 : decode cX3_findNeeds 64 = .ok (.iaload, 1) := by decide +kernel
theorem dX3_findNeeds_65 : decode cX3_findNeeds 65 = .ok (.imul, 1) := by decide +kernel
theorem dX3_findNeeds_66 : decode cX3_findNeeds 66 = .ok (.aload_n 0, 1) := by decide +kernel
theorem dX3_findNeeds_67 : decode cX3_findNeeds 67 = .ok (.getfield 19, 3) := by decide +kernel
theorem dX3_findNeeds_70 : decode cX3_findNeeds 70 = .ok (.iload_n 1, 1) := by decide +kernel
theorem dX3_findNeeds_71 : decode cX3_findNeeds 71 = .ok (.iaload, 1) := by decide +kernel
theorem dX3_findNeeds_72 : decode cX3_findNeeds 72 = .ok (.iadd, 1) := by decide +kernel
theorem dX3_findNeeds_73 : decode cX3_findNeeds 73 = .ok (.aload_n 0, 1) := by decide +kernel
theorem dX3_findNeeds_74 : decode cX3_findNeeds 74 = .ok (.getfield 37, 3) := by decide +kernel
theorem dX3_findNeeds_77 : decode cX3_findNeeds 77 = .ok (.bipush 7, 2) := by decide +kernel
theorem dX3_findNeeds_79 : decode cX3_findNeeds 79 = .ok (.aload_n 0, 1) := by decide +kernel
theorem dX3_findNeeds_80 : decode cX3_findNeeds 80 = .ok (.getfield 7, 3) := by decide +kernel
theorem dX3_findNeeds_83 : decode cX3_findNeeds 83 = .ok (.iload_n 1, 1) := by decide +kernel
theorem dX3_findNeeds_84 : decode cX3_findNeeds 84 = .ok (.iaload, 1) := by decide +kernel
theorem dX3_findNeeds_85 : decode cX3_findNeeds 85 = .ok (.imul, 1) := by decide +kernel
theorem dX3_findNeeds_86 : decode cX3_findNeeds 86 = .ok (.aload_n 0, 1) := by decide +kernel
theorem dX3_findNeeds_87 : decode cX3_findNeeds 87 = .ok (.getfield 19, 3) := by decide +kernel
theorem dX3_findNeeds_90 : decode cX3_findNeeds 90 = .ok (.iload_n 1, 1) := by decide +kernel
theorem dX3_findNeeds_91 : decode cX3_findNeeds 91 = .ok (.iaload, 1) := by decide +kernel
theorem dX3_findNeeds_92 : decode cX3_findNeeds 92 = .ok (.iadd, 1) := by decide +kernel
theorem dX3_findNeeds_93 : decode cX3_findNeeds 93 = .ok (.baload, 1) := by decide +kernel
theorem dX3_findNeeds_94 : decode cX3_findNeeds 94 = .ok (.ifCond .ne 13, 3) := by decide +kernel
theorem dX3_findNeeds_97 : decode cX3_findNeeds 97 = .ok (.aload_n 0, 1) := by decide +kernel
theorem dX3_findNeeds_98 : decode cX3_findNeeds 98 = .ok (.getfield 13, 3) := by decide +kernel
theorem dX3_findNeeds_101 : decode cX3_findNeeds 101 = .ok (.iload_n 1, 1) := by decide +kernel
theorem dX3_findNeeds_102 : decode cX3_findNeeds 102 = .ok (.iaload, 1) := by decide +kernel
theorem dX3_findNeeds_103 : decode cX3_findNeeds 103 = .ok (.iconst 1, 1) := by decide +kernel
theorem dX3_findNeeds_104 : decode cX3_findNeeds 104 = .ok (.if_icmp .le 7, 3) := by decide +kernel
theorem dX3_findNeeds_107 : decode cX3_findNeeds 107 = .ok (.iconst 1, 1) := by decide +kernel
theorem dX3_findNeeds_108 : decode cX3_findNeeds 108 = .ok (.goto 4, 3) := by decide +kernel
theorem dX3_findNeeds_111 : decode cX3_findNeeds 111 = .ok (.iconst 0, 1) := by decide +kernel
theorem dX3_findNeeds_112 : decode cX3_findNeeds 112 = .ok (.bastore, 1) := by decide +kernel
theorem dX3_findNeeds_113 : decode cX3_findNeeds 113 = .ok (.iinc 1 1, 3) := by decide +kernel
theorem dX3_findNeeds_116 : decode cX3_findNeeds 116 = .ok (.goto (-93), 3) := by decide +kernel
theorem dX3_findNeeds_119 : decode cX3_findNeeds 119 = .ok (.iconst 0, 1) := by decide +kernel
theorem dX3_findNeeds_120 : decode cX3_findNeeds 120 = .ok (.istore_n 1, 1) := by decide +kernel
theorem dX3_findNeeds_121 : decode cX3_findNeeds 121 = .ok (.iload_n 1, 1) := by decide +kernel
theorem dX3_findNeeds_122 : decode cX3_findNeeds 122 = .ok (.bipush 7, 2) := by decide +kernel
theorem dX3_findNeeds_124 : decode cX3_findNeeds 124 = .ok (.if_icmp .ge 95, 3) := by decide +kernel
theorem dX3_findNeeds_127 : decode cX3_findNeeds 127 = .ok (.iconst 0, 1) := by decide +kernel
theorem dX3_findNeeds_128 : decode cX3_findNeeds 128 = .ok (.istore_n 2, 1) := by decide +kernel
theorem dX3_findNeeds_129 : decode cX3_findNeeds 129 = .ok (.iload_n 2, 1) := by decide +kernel
theorem dX3_findNeeds_130 : decode cX3_findNeeds 130 = .ok (.bipush 7, 2) := by decide +kernel
theorem dX3_findNeeds_132 : decode cX3_findNeeds 132 = .ok (.if_icmp .ge 81, 3) := by decide +kernel
theorem dX3_findNeeds_135 : decode cX3_findNeeds 135 = .ok (.iconst 0, 1) := by decide +kernel
theorem dX3_findNeeds_136 : decode cX3_findNeeds 136 = .ok (.istore_n 3, 1) := by decide +kernel
theorem dX3_findNeeds_137 : decode cX3_findNeeds 137 = .ok (.iload_n 3, 1) := by decide +kernel
theorem dX3_findNeeds_138 : decode cX3_findNeeds 138 = .ok (.bipush 7, 2) := by decide +kernel
theorem dX3_findNeeds_140 : decode cX3_findNeeds 140 = .ok (.if_icmp .ge 67, 3) := by decide +kernel
theorem dX3_findNeeds_143 : decode cX3_findNeeds 143 = .ok (.aload_n 0, 1) := by decide +kernel
theorem dX3_findNeeds_144 : decode cX3_findNeeds 144 = .ok (.getfield 37, 3) := by decide +kernel
theorem dX3_findNeeds_147 : decode cX3_findNeeds 147 = .ok (.bipush 7, 2) := by decide +kernel
theorem dX3_findNeeds_149 : decode cX3_findNeeds 149 = .ok (.iload_n 2, 1) := by decide +kernel
theorem dX3_findNeeds_150 : decode cX3_findNeeds 150 = .ok (.imul, 1) := by decide +kernel
theorem dX3_findNeeds_151 : decode cX3_findNeeds 151 = .ok (.iload_n 3, 1) := by decide +kernel
theorem dX3_findNeeds_152 : decode cX3_findNeeds 152 = .ok (.iadd, 1) := by decide +kernel
theorem dX3_findNeeds_153 : decode cX3_findNeeds 153 = .ok (.aload_n 0, 1) := by decide +kernel
theorem dX3_findNeeds_154 : decode cX3_findNeeds 154 = .ok (.getfield 37, 3) := by decide +kernel
theorem dX3_findNeeds_157 : decode cX3_findNeeds 157 = .ok (.bipush 7, 2) := by decide +kernel
theorem dX3_findNeeds_159 : decode cX3_findNeeds 159 = .ok (.iload_n 2, 1) := by decide +kernel
theorem dX3_findNeeds_160 : decode cX3_findNeeds 160 = .ok (.imul, 1) := by decide +kernel
theorem dX3_findNeeds_161 : decode cX3_findNeeds 161 = .ok (.iload_n 3, 1) := by decide +kernel
theorem dX3_findNeeds_162 : decode cX3_findNeeds 162 = .ok (.iadd, 1) := by decide +kernel
theorem dX3_findNeeds_163 : decode cX3_findNeeds 163 = .ok (.baload, 1) := by decide +kernel
theorem dX3_findNeeds_164 : decode cX3_findNeeds 164 = .ok (.ifCond .ne 31, 3) := by decide +kernel
theorem dX3_findNeeds_167 : decode cX3_findNeeds 167 = .ok (.aload_n 0, 1) := by decide +kernel
theorem dX3_findNeeds_168 : decode cX3_findNeeds 168 = .ok (.getfield 37, 3) := by decide +kernel
theorem dX3_findNeeds_171 : decode cX3_findNeeds 171 = .ok (.bipush 7, 2) := by decide +kernel
theorem dX3_findNeeds_173 : decode cX3_findNeeds 173 = .ok (.iload_n 2, 1) := by decide +kernel
theorem dX3_findNeeds_174 : decode cX3_findNeeds 174 = .ok (.imul, 1) := by decide +kernel
theorem dX3_findNeeds_175 : decode cX3_findNeeds 175 = .ok (.iload_n 1, 1) := by decide +kernel
theorem dX3_findNeeds_176 : decode cX3_findNeeds 176 = .ok (.iadd, 1) := by decide +kernel
theorem dX3_findNeeds_177 : decode cX3_findNeeds 177 = .ok (.baload, 1) := by decide +kernel
theorem dX3_findNeeds_178 : decode cX3_findNeeds 178 = .ok (.ifCond .eq 21, 3) := by decide +kernel
theorem dX3_findNeeds_181 : decode cX3_findNeeds 181 = .ok (.aload_n 0, 1) := by decide +kernel
theorem dX3_findNeeds_182 : decode cX3_findNeeds 182 = .ok (.getfield 37, 3) := by decide +kernel
theorem dX3_findNeeds_185 : decode cX3_findNeeds 185 = .ok (.bipush 7, 2) := by decide +kernel
theorem dX3_findNeeds_187 : decode cX3_findNeeds 187 = .ok (.iload_n 1, 1) := by decide +kernel
theorem dX3_findNeeds_188 : decode cX3_findNeeds 188 = .ok (.imul, 1) := by decide +kernel
theorem dX3_findNeeds_189 : decode cX3_findNeeds 189 = .ok (.iload_n 3, 1) := by decide +kernel
theorem dX3_findNeeds_190 : decode cX3_findNeeds 190 = .ok (.iadd, 1) := by decide +kernel
theorem dX3_findNeeds_191 : decode cX3_findNeeds 191 = .ok (.baload, 1) := by decide +kernel
theorem dX3_findNeeds_192 : decode cX3_findNeeds 192 = .ok (.ifCond .eq 7, 3) := by decide +kernel
theorem dX3_findNeeds_195 : decode cX3_findNeeds 195 = .ok (.iconst 1, 1) := by decide +kernel
theorem dX3_findNeeds_196 : decode cX3_findNeeds 196 = .ok (.goto 4, 3) := by decide +kernel
theorem dX3_findNeeds_199 : decode cX3_findNeeds 199 = .ok (.iconst 0, 1) := by decide +kernel
theorem dX3_findNeeds_200 : decode cX3_findNeeds 200 = .ok (.bastore, 1) := by decide +kernel
theorem dX3_findNeeds_201 : decode cX3_findNeeds 201 = .ok (.iinc 3 1, 3) := by decide +kernel
theorem dX3_findNeeds_204 : decode cX3_findNeeds 204 = .ok (.goto (-67), 3) := by decide +kernel
theorem dX3_findNeeds_207 : decode cX3_findNeeds 207 = .ok (.iinc 2 1, 3) := by decide +kernel
theorem dX3_findNeeds_210 : decode cX3_findNeeds 210 = .ok (.goto (-81), 3) := by decide +kernel
theorem dX3_findNeeds_213 : decode cX3_findNeeds 213 = .ok (.iinc 1 1, 3) := by decide +kernel
theorem dX3_findNeeds_216 : decode cX3_findNeeds 216 = .ok (.goto (-95), 3) := by decide +kernel
theorem dX3_findNeeds_219 : decode cX3_findNeeds 219 = .ok (.return_, 1) := by decide +kernel
theorem dX3_cyclic_0 : decode cX3_cyclic 0 = .ok (.iconst 0, 1) := by decide +kernel
theorem dX3_cyclic_1 : decode cX3_cyclic 1 = .ok (.istore_n 1, 1) := by decide +kernel
theorem dX3_cyclic_2 : decode cX3_cyclic 2 = .ok (.iconst 0, 1) := by decide +kernel
theorem dX3_cyclic_3 : decode cX3_cyclic 3 = .ok (.istore_n 2, 1) := by decide +kernel
theorem dX3_cyclic_4 : decode cX3_cyclic 4 = .ok (.iload_n 2, 1) := by decide +kernel
theorem dX3_cyclic_5 : decode cX3_cyclic 5 = .ok (.aload_n 0, 1) := by decide +kernel
theorem dX3_cyclic_6 : decode cX3_cyclic 6 = .ok (.getfield 44, 3) := by decide +kernel
theorem dX3_cyclic_9 : decode cX3_cyclic 9 = .ok (.if_icmp .ge 68, 3) := by decide +kernel
theorem dX3_cyclic_12 : decode cX3_cyclic 12 = .ok (.iload_n 1, 1) := by decide +kernel
theorem dX3_cyclic_13 : decode cX3_cyclic 13 = .ok (.ifCond .ne 52, 3) := by decide +kernel
theorem dX3_cyclic_16 : decode cX3_cyclic 16 = .ok (.aload_n 0, 1) := by decide +kernel
theorem dX3_cyclic_17 : decode cX3_cyclic 17 = .ok (.getfield 13, 3) := by decide +kernel
theorem dX3_cyclic_20 : decode cX3_cyclic 20 = .ok (.iload_n 2, 1) := by decide +kernel
theorem dX3_cyclic_21 : decode cX3_cyclic 21 = .ok (.iaload, 1) := by decide +kernel
theorem dX3_cyclic_22 : decode cX3_cyclic 22 = .ok (.iconst 4, 1) := by decide +kernel
theorem dX3_cyclic_23 : decode cX3_cyclic 23 = .ok (.if_icmp .ne 46, 3) := by decide +kernel
theorem dX3_cyclic_26 : decode cX3_cyclic 26 = .ok (.aload_n 0, 1) := by decide +kernel
theorem dX3_cyclic_27 : decode cX3_cyclic 27 = .ok (.getfield 19, 3) := by decide +kernel
theorem dX3_cyclic_30 : decode cX3_cyclic 30 = .ok (.iload_n 2, 1) := by decide +kernel
theorem dX3_cyclic_31 : decode cX3_cyclic 31 = .ok (.iaload, 1) := by decide +kernel
theorem dX3_cyclic_32 : decode cX3_cyclic 32 = .ok (.aload_n 0, 1) := by decide +kernel
theorem dX3_cyclic_33 : decode cX3_cyclic 33 = .ok (.getfield 7, 3) := by decide +kernel
theorem dX3_cyclic_36 : decode cX3_cyclic 36 = .ok (.iload_n 2, 1) := by decide +kernel
theorem dX3_cyclic_37 : decode cX3_cyclic 37 = .ok (.iaload, 1) := by decide +kernel
theorem dX3_cyclic_38 : decode cX3_cyclic 38 = .ok (.if_icmp .eq 27, 3) := by decide +kernel
theorem dX3_cyclic_41 : decode cX3_cyclic 41 = .ok (.aload_n 0, 1) := by decide +kernel
theorem dX3_cyclic_42 : decode cX3_cyclic 42 = .ok (.getfield 37, 3) := by decide +kernel
theorem dX3_cyclic_45 : decode cX3_cyclic 45 = .ok (.bipush 7, 2) := by decide +kernel
theorem dX3_cyclic_47 : decode cX3_cyclic 47 = .ok (.aload_n 0, 1) := by decide +kernel
theorem dX3_cyclic_48 : decode cX3_cyclic 48 = .ok (.getfield 19, 3) := by decide +kernel
theorem dX3_cyclic_51 : decode cX3_cyclic 51 = .ok (.iload_n 2, 1) := by decide +kernel
theorem dX3_cyclic_52 : decode cX3_cyclic 52 = .ok (.iaload, 1) := by decide +kernel
theorem dX3_cyclic_53 : decode cX3_cyclic 53 = .ok (.imul, 1) := by decide +kernel
theorem dX3_cyclic_54 : decode cX3_cyclic 54 = .ok (.aload_n 0, 1) := by decide +kernel
theorem dX3_cyclic_55 : decode cX3_cyclic 55 = .ok (.getfield 7, 3) := by decide +kernel
theorem dX3_cyclic_58 : decode cX3_cyclic 58 = .ok (.iload_n 2, 1) := by decide +kernel
theorem dX3_cyclic_59 : decode cX3_cyclic 59 = .ok (.iaload, 1) := by decide +kernel
theorem dX3_cyclic_60 : decode cX3_cyclic 60 = .ok (.iadd, 1) := by decide +kernel
theorem dX3_cyclic_61 : decode cX3_cyclic 61 = .ok (.baload, 1) := by decide +kernel
theorem dX3_cyclic_62 : decode cX3_cyclic 62 = .ok (.ifCond .eq 7, 3) := by decide +kernel
theorem dX3_cyclic_65 : decode cX3_cyclic 65 = .ok (.iconst 1, 1) := by decide +kernel
theorem dX3_cyclic_66 : decode cX3_cyclic 66 = .ok (.goto 4, 3) := by decide +kernel
theorem dX3_cyclic_69 : decode cX3_cyclic 69 = .ok (.iconst 0, 1) := by decide +kernel
theorem dX3_cyclic_70 : decode cX3_cyclic 70 = .ok (.istore_n 1, 1) := by decide +kernel
theorem dX3_cyclic_71 : decode cX3_cyclic 71 = .ok (.iinc 2 1, 3) := by decide +kernel
theorem dX3_cyclic_74 : decode cX3_cyclic 74 = .ok (.goto (-70), 3) := by decide +kernel
theorem dX3_cyclic_77 : decode cX3_cyclic 77 = .ok (.iload_n 1, 1) := by decide +kernel
theorem dX3_cyclic_78 : decode cX3_cyclic 78 = .ok (.ireturn, 1) := by decide +kernel
set_option maxRecDepth 20000 in
theorem ggX3_instances_X3_in : GoodIn wsX3_instances wsX3_in := goodIn_r _ [8] (by decide +kernel) (by decide +kernel)
set_option maxRecDepth 20000 in
theorem gX3_instances_X3_in : GoodIn wsX3_instances (va_wsS RX3 48 yX3_in wsX3_in) := goodIn_app (goodIn_of _ (by decide +kernel)) ggX3_instances_X3_in
theorem dX3_instances_0 : decode cX3_instances 0 = .ok (.aload_n 0, 1) := by decide +kernel
theorem dX3_instances_1 : decode cX3_instances 1 = .ok (.getfield 22, 3) := by decide +kernel
theorem dX3_instances_4 : decode cX3_instances 4 = .ok (.aload_n 0, 1) := by decide +kernel
theorem dX3_instances_5 : decode cX3_instances 5 = .ok (.getfield 16, 3) := by decide +kernel
theorem dX3_instances_8 : decode cX3_instances 8 = .ok (.iload_n 1, 1) := by decide +kernel
theorem dX3_instances_9 : decode cX3_instances 9 = .ok (.iaload, 1) := by decide +kernel
theorem dX3_instances_10 : decode cX3_instances 10 = .ok (.iaload, 1) := by decide +kernel
theorem dX3_instances_11 : decode cX3_instances 11 = .ok (.istore 4, 2) := by decide +kernel
theorem dX3_instances_13 : decode cX3_instances 13 = .ok (.aload_n 0, 1) := by decide +kernel
theorem dX3_instances_14 : decode cX3_instances 14 = .ok (.getfield 22, 3) := by decide +kernel
theorem dX3_instances_17 : decode cX3_instances 17 = .ok (.aload_n 0, 1) := by decide +kernel
theorem dX3_instances_18 : decode cX3_instances 18 = .ok (.getfield 19, 3) := by decide +kernel
theorem dX3_instances_21 : decode cX3_instances 21 = .ok (.iload_n 1, 1) := by decide +kernel
theorem dX3_instances_22 : decode cX3_instances 22 = .ok (.iaload, 1) := by decide +kernel
theorem dX3_instances_23 : decode cX3_instances 23 = .ok (.iaload, 1) := by decide +kernel
theorem dX3_instances_24 : decode cX3_instances 24 = .ok (.istore 5, 2) := by decide +kernel
theorem dX3_instances_26 : decode cX3_instances 26 = .ok (.aload_n 0, 1) := by decide +kernel
theorem dX3_instances_27 : decode cX3_instances 27 = .ok (.getfield 13, 3) := by decide +kernel
theorem dX3_instances_30 : decode cX3_instances 30 = .ok (.iload_n 1, 1) := by decide +kernel
theorem dX3_instances_31 : decode cX3_instances 31 = .ok (.iaload, 1) := by decide +kernel
theorem dX3_instances_32 : decode cX3_instances 32 = .ok (.tableswitch 144 0 3 #[32, 48, 64, 118], 32) := by decide +kernel
theorem dX3_instances_64 : decode cX3_instances 64 = .ok (.iload 4, 2) := by decide +kernel
theorem dX3_instances_66 : decode cX3_instances 66 = .ok (.iload_n 2, 1) := by decide +kernel
theorem dX3_instances_67 : decode cX3_instances 67 = .ok (.iload_n 3, 1) := by decide +kernel
theorem dX3_instances_68 : decode cX3_instances 68 = .ok (.invokestatic 48, 3) := by decide +kernel
theorem dX3_instances_71 : decode cX3_instances 71 = .ok (.ifCond .eq 7, 3) := by decide +kernel
theorem dX3_instances_74 : decode cX3_instances 74 = .ok (.iconst 1, 1) := by decide +kernel
theorem dX3_instances_75 : decode cX3_instances 75 = .ok (.goto 4, 3) := by decide +kernel
theorem dX3_instances_78 : decode cX3_instances 78 = .ok (.iconst 0, 1) := by decide +kernel
theorem dX3_instances_79 : decode cX3_instances 79 = .ok (.ireturn, 1) := by decide +kernel
theorem dX3_instances_80 : decode cX3_instances 80 = .ok (.iload 4, 2) := by decide +kernel
theorem dX3_instances_82 : decode cX3_instances 82 = .ok (.iload_n 3, 1) := by decide +kernel
theorem dX3_instances_83 : decode cX3_instances 83 = .ok (.iload_n 2, 1) := by decide +kernel
theorem dX3_instances_84 : decode cX3_instances 84 = .ok (.invokestatic 48, 3) := by decide +kernel
theorem dX3_instances_87 : decode cX3_instances 87 = .ok (.ifCond .eq 7, 3) := by decide +kernel
theorem dX3_instances_90 : decode cX3_instances 90 = .ok (.iconst 1, 1) := by decide +kernel
theorem dX3_instances_91 : decode cX3_instances 91 = .ok (.goto 4, 3) := by decide +kernel
theorem dX3_instances_94 : decode cX3_instances 94 = .ok (.iconst 0, 1) := by decide +kernel
theorem dX3_instances_95 : decode cX3_instances 95 = .ok (.ireturn, 1) := by decide +kernel
theorem dX3_instances_96 : decode cX3_instances 96 = .ok (.iconst 0, 1) := by decide +kernel
theorem dX3_instances_97 : decode cX3_instances 97 = .ok (.istore 6, 2) := by decide +kernel
theorem dX3_instances_99 : decode cX3_instances 99 = .ok (.iconst 0, 1) := by decide +kernel
theorem dX3_instances_100 : decode cX3_instances 100 = .ok (.istore 7, 2) := by decide +kernel
theorem dX3_instances_102 : decode cX3_instances 102 = .ok (.iload 7, 2) := by decide +kernel
theorem dX3_instances_104 : decode cX3_instances 104 = .ok (.iconst 5, 1) := by decide +kernel
theorem dX3_instances_105 : decode cX3_instances 105 = .ok (.if_icmp .ge 42, 3) := by decide +kernel
theorem dX3_instances_108 : decode cX3_instances 108 = .ok (.iload 4, 2) := by decide +kernel
theorem dX3_instances_110 : decode cX3_instances 110 = .ok (.iload_n 2, 1) := by decide +kernel
theorem dX3_instances_111 : decode cX3_instances 111 = .ok (.iload 7, 2) := by decide +kernel
theorem dX3_instances_113 : decode cX3_instances 113 = .ok (.invokestatic 48, 3) := by decide +kernel
theorem dX3_instances_116 : decode cX3_instances 116 = .ok (.ifCond .eq 21, 3) := by decide +kernel
theorem dX3_instances_119 : decode cX3_instances 119 = .ok (.iload 5, 2) := by decide +kernel
theorem dX3_instances_121 : decode cX3_instances 121 = .ok (.iload 7, 2) := by decide +kernel
theorem dX3_instances_123 : decode cX3_instances 123 = .ok (.iload_n 3, 1) := by decide +kernel
theorem dX3_instances_124 : decode cX3_instances 124 = .ok (.invokestatic 48, 3) := by decide +kernel
theorem dX3_instances_127 : decode cX3_instances 127 = .ok (.ifCond .eq 10, 3) := by decide +kernel
theorem dX3_instances_130 : decode cX3_instances 130 = .ok (.iload 6, 2) := by decide +kernel
theorem dX3_instances_132 : decode cX3_instances 132 = .ok (.iconst 1, 1) := by decide +kernel
theorem dX3_instances_133 : decode cX3_instances 133 = .ok (.iadd, 1) := by decide +kernel
theorem dX3_instances_134 : decode cX3_instances 134 = .ok (.goto 5, 3) := by decide +kernel
theorem dX3_instances_137 : decode cX3_instances 137 = .ok (.iload 6, 2) := by decide +kernel
theorem dX3_instances_139 : decode cX3_instances 139 = .ok (.istore 6, 2) := by decide +kernel
theorem dX3_instances_141 : decode cX3_instances 141 = .ok (.iinc 7 1, 3) := by decide +kernel
theorem dX3_instances_144 : decode cX3_instances 144 = .ok (.goto (-42), 3) := by decide +kernel
theorem dX3_instances_147 : decode cX3_instances 147 = .ok (.iload 6, 2) := by decide +kernel
theorem dX3_instances_149 : decode cX3_instances 149 = .ok (.ireturn, 1) := by decide +kernel
theorem dX3_instances_150 : decode cX3_instances 150 = .ok (.iload 4, 2) := by decide +kernel
theorem dX3_instances_152 : decode cX3_instances 152 = .ok (.iload_n 2, 1) := by decide +kernel
theorem dX3_instances_153 : decode cX3_instances 153 = .ok (.iload_n 3, 1) := by decide +kernel
theorem dX3_instances_154 : decode cX3_instances 154 = .ok (.invokestatic 48, 3) := by decide +kernel
theorem dX3_instances_157 : decode cX3_instances 157 = .ok (.ifCond .eq 17, 3) := by decide +kernel
theorem dX3_instances_160 : decode cX3_instances 160 = .ok (.iload 5, 2) := by decide +kernel
theorem dX3_instances_162 : decode cX3_instances 162 = .ok (.iload_n 2, 1) := by decide +kernel
theorem dX3_instances_163 : decode cX3_instances 163 = .ok (.iload_n 3, 1) := by decide +kernel
theorem dX3_instances_164 : decode cX3_instances 164 = .ok (.invokestatic 48, 3) := by decide +kernel
theorem dX3_instances_167 : decode cX3_instances 167 = .ok (.ifCond .eq 7, 3) := by decide +kernel
theorem dX3_instances_170 : decode cX3_instances 170 = .ok (.iconst 1, 1) := by decide +kernel
theorem dX3_instances_171 : decode cX3_instances 171 = .ok (.goto 4, 3) := by decide +kernel
theorem dX3_instances_174 : decode cX3_instances 174 = .ok (.iconst 0, 1) := by decide +kernel
theorem dX3_instances_175 : decode cX3_instances 175 = .ok (.ireturn, 1) := by decide +kernel
theorem dX3_instances_176 : decode cX3_instances 176 = .ok (.iload 4, 2) := by decide +kernel
theorem dX3_instances_178 : decode cX3_instances 178 = .ok (.iload_n 2, 1) := by decide +kernel
theorem dX3_instances_179 : decode cX3_instances 179 = .ok (.iload_n 3, 1) := by decide +kernel
theorem dX3_instances_180 : decode cX3_instances 180 = .ok (.invokestatic 48, 3) := by decide +kernel
theorem dX3_instances_183 : decode cX3_instances 183 = .ok (.ifCond .eq 17, 3) := by decide +kernel
theorem dX3_instances_186 : decode cX3_instances 186 = .ok (.iload 5, 2) := by decide +kernel
theorem dX3_instances_188 : decode cX3_instances 188 = .ok (.iload_n 2, 1) := by decide +kernel
theorem dX3_instances_189 : decode cX3_instances 189 = .ok (.iload_n 3, 1) := by decide +kernel
theorem dX3_instances_190 : decode cX3_instances 190 = .ok (.invokestatic 48, 3) := by decide +kernel
theorem dX3_instances_193 : decode cX3_instances 193 = .ok (.ifCond .ne 7, 3) := by decide +kernel
theorem dX3_instances_196 : decode cX3_instances 196 = .ok (.iconst 1, 1) := by decide +kernel
theorem dX3_instances_197 : decode cX3_instances 197 = .ok (.goto 4, 3) := by decide +kernel
theorem dX3_instances_200 : decode cX3_instances 200 = .ok (.iconst 0, 1) := by decide +kernel
theorem dX3_instances_201 : decode cX3_instances 201 = .ok (.ireturn, 1) := by decide +kernel
set_option maxRecDepth 20000 in
theorem ggX3_instancesOf_X3_instances : GoodIn wsX3_instancesOf wsX3_instances := goodIn_r _ [7, 8, 9, 10, 11, 12, 13, 6, 14, 15, 16, 17, 18, 19, 20, 21, 22, 23, 24, 25, 26] (by decide +kernel) (by decide +kernel)
set_option maxRecDepth 20000 in
theorem gX3_instancesOf_X3_instances : GoodIn wsX3_instancesOf (wsV RX3 52 RX3 yX3_instances wsX3_instances) := goodIn_app (goodIn_of _ (by decide +kernel)) ggX3_instancesOf_X3_instances
theorem dX3_instancesOf_0 : decode cX3_instancesOf 0 = .ok (.iconst 0, 1) := by decide +kernel
theorem dX3_instancesOf_1 : decode cX3_instancesOf 1 = .ok (.istore 4, 2) := by decide +kernel
theorem dX3_instancesOf_3 : decode cX3_instancesOf 3 = .ok (.iconst 0, 1) := by decide +kernel
theorem dX3_instancesOf_4 : decode cX3_instancesOf 4 = .ok (.istore 5, 2) := by decide +kernel
theorem dX3_instancesOf_6 : decode cX3_instancesOf 6 = .ok (.iload 5, 2) := by decide +kernel
theorem dX3_instancesOf_8 : decode cX3_instancesOf 8 = .ok (.aload_n 0, 1) := by decide +kernel
theorem dX3_instancesOf_9 : decode cX3_instancesOf 9 = .ok (.getfield 44, 3) := by decide +kernel
theorem dX3_instancesOf_12 : decode cX3_instancesOf 12 = .ok (.if_icmp .ge 38, 3) := by decide +kernel
theorem dX3_instancesOf_15 : decode cX3_instancesOf 15 = .ok (.aload_n 0, 1) := by decide +kernel
theorem dX3_instancesOf_16 : decode cX3_instancesOf 16 = .ok (.getfield 7, 3) := by decide +kernel
theorem dX3_instancesOf_19 : decode cX3_instancesOf 19 = .ok (.iload 5, 2) := by decide +kernel
theorem dX3_instancesOf_21 : decode cX3_instancesOf 21 = .ok (.iaload, 1) := by decide +kernel
theorem dX3_instancesOf_22 : decode cX3_instancesOf 22 = .ok (.iload_n 1, 1) := by decide +kernel
theorem dX3_instancesOf_23 : decode cX3_instancesOf 23 = .ok (.if_icmp .ne 17, 3) := by decide +kernel
theorem dX3_instancesOf_26 : decode cX3_instancesOf 26 = .ok (.iload 4, 2) := by decide +kernel
theorem dX3_instancesOf_28 : decode cX3_instancesOf 28 = .ok (.aload_n 0, 1) := by decide +kernel
theorem dX3_instancesOf_29 : decode cX3_instancesOf 29 = .ok (.iload 5, 2) := by decide +kernel
theorem dX3_instancesOf_31 : decode cX3_instancesOf 31 = .ok (.iload_n 2, 1) := by decide +kernel
theorem dX3_instancesOf_32 : decode cX3_instancesOf 32 = .ok (.iload_n 3, 1) := by decide +kernel
theorem dX3_instancesOf_33 : decode cX3_instancesOf 33 = .ok (.invokevirtual 52, 3) := by decide +kernel
theorem dX3_instancesOf_36 : decode cX3_instancesOf 36 = .ok (.iadd, 1) := by decide +kernel
theorem dX3_instancesOf_37 : decode cX3_instancesOf 37 = .ok (.goto 5, 3) := by decide +kernel
theorem dX3_instancesOf_40 : decode cX3_instancesOf 40 = .ok (.iload 4, 2) := by decide +kernel
theorem dX3_instancesOf_42 : decode cX3_instancesOf 42 = .ok (.istore 4, 2) := by decide +kernel
theorem dX3_instancesOf_44 : decode cX3_instancesOf 44 = .ok (.iinc 5 1, 3) := by decide +kernel
theorem dX3_instancesOf_47 : decode cX3_instancesOf 47 = .ok (.goto (-41), 3) := by decide +kernel
theorem dX3_instancesOf_50 : decode cX3_instancesOf 50 = .ok (.iload 4, 2) := by decide +kernel
theorem dX3_instancesOf_52 : decode cX3_instancesOf 52 = .ok (.ireturn, 1) := by decide +kernel
set_option maxRecDepth 20000 in
theorem ggX3_grow_X3_instancesOf : GoodIn wsX3_grow wsX3_instancesOf := goodIn_r _ [6, 7, 8, 9, 10, 11, 5, 12, 1, 13, 14, 15, 16, 17, 18, 22, 23, 24, 25, 26, 27, 28, 29, 30, 31, 32, 33] (by decide +kernel) (by decide +kernel)
set_option maxRecDepth 20000 in
theorem gX3_grow_X3_instancesOf : GoodIn wsX3_grow (wsV RX3 56 RX3 yX3_instancesOf wsX3_instancesOf) := goodIn_app (goodIn_of _ (by decide +kernel)) ggX3_grow_X3_instancesOf
set_option maxRecDepth 20000 in
theorem ggX3_grow_X3_bit : GoodIn wsX3_grow wsX3_bit := goodIn_r _ [21] (by decide +kernel) (by decide +kernel)
set_option maxRecDepth 20000 in
theorem gX3_grow_X3_bit : GoodIn wsX3_grow (va_wsS RX3 59 yX3_bit wsX3_bit) := goodIn_app (goodIn_of _ (by decide +kernel)) ggX3_grow_X3_bit
theorem dX3_grow_0 : decode cX3_grow 0 = .ok (.aload_n 0, 1) := by decide +kernel
theorem dX3_grow_1 : decode cX3_grow 1 = .ok (.getfield 22, 3) := by decide +kernel
theorem dX3_grow_4 : decode cX3_grow 4 = .ok (.iload_n 1, 1) := by decide +kernel
theorem dX3_grow_5 : decode cX3_grow 5 = .ok (.iaload, 1) := by decide +kernel
theorem dX3_grow_6 : decode cX3_grow 6 = .ok (.istore_n 2, 1) := by decide +kernel
theorem dX3_grow_7 : decode cX3_grow 7 = .ok (.iconst 0, 1) := by decide +kernel
theorem dX3_grow_8 : decode cX3_grow 8 = .ok (.istore_n 3, 1) := by decide +kernel
theorem dX3_grow_9 : decode cX3_grow 9 = .ok (.iload_n 3, 1) := by decide +kernel
theorem dX3_grow_10 : decode cX3_grow 10 = .ok (.iconst 5, 1) := by decide +kernel
theorem dX3_grow_11 : decode cX3_grow 11 = .ok (.if_icmp .ge 48, 3) := by decide +kernel
theorem dX3_grow_14 : decode cX3_grow 14 = .ok (.iconst 0, 1) := by decide +kernel
theorem dX3_grow_15 : decode cX3_grow 15 = .ok (.istore 4, 2) := by decide +kernel
theorem dX3_grow_17 : decode cX3_grow 17 = .ok (.iload 4, 2) := by decide +kernel
theorem dX3_grow_19 : decode cX3_grow 19 = .ok (.iconst 5, 1) := by decide +kernel
theorem dX3_grow_20 : decode cX3_grow 20 = .ok (.if_icmp .ge 33, 3) := by decide +kernel
theorem dX3_grow_23 : decode cX3_grow 23 = .ok (.aload_n 0, 1) := by decide +kernel
theorem dX3_grow_24 : decode cX3_grow 24 = .ok (.iload_n 1, 1) := by decide +kernel
theorem dX3_grow_25 : decode cX3_grow 25 = .ok (.iload_n 3, 1) := by decide +kernel
theorem dX3_grow_26 : decode cX3_grow 26 = .ok (.iload 4, 2) := by decide +kernel
theorem dX3_grow_28 : decode cX3_grow 28 = .ok (.invokevirtual 56, 3) := by decide +kernel
theorem dX3_grow_31 : decode cX3_grow 31 = .ok (.ifCond .le 14, 3) := by decide +kernel
theorem dX3_grow_34 : decode cX3_grow 34 = .ok (.iload_n 2, 1) := by decide +kernel
theorem dX3_grow_35 : decode cX3_grow 35 = .ok (.iload_n 3, 1) := by decide +kernel
theorem dX3_grow_36 : decode cX3_grow 36 = .ok (.iload 4, 2) := by decide +kernel
theorem dX3_grow_38 : decode cX3_grow 38 = .ok (.invokestatic 59, 3) := by decide +kernel
theorem dX3_grow_41 : decode cX3_grow 41 = .ok (.ior, 1) := by decide +kernel
theorem dX3_grow_42 : decode cX3_grow 42 = .ok (.goto 4, 3) := by decide +kernel
theorem dX3_grow_45 : decode cX3_grow 45 = .ok (.iload_n 2, 1) := by decide +kernel
theorem dX3_grow_46 : decode cX3_grow 46 = .ok (.istore_n 2, 1) := by decide +kernel
theorem dX3_grow_47 : decode cX3_grow 47 = .ok (.iinc 4 1, 3) := by decide +kernel
theorem dX3_grow_50 : decode cX3_grow 50 = .ok (.goto (-33), 3) := by decide +kernel
theorem dX3_grow_53 : decode cX3_grow 53 = .ok (.iinc 3 1, 3) := by decide +kernel
theorem dX3_grow_56 : decode cX3_grow 56 = .ok (.goto (-47), 3) := by decide +kernel
theorem dX3_grow_59 : decode cX3_grow 59 = .ok (.iload_n 2, 1) := by decide +kernel
theorem dX3_grow_60 : decode cX3_grow 60 = .ok (.aload_n 0, 1) := by decide +kernel
theorem dX3_grow_61 : decode cX3_grow 61 = .ok (.getfield 22, 3) := by decide +kernel
theorem dX3_grow_64 : decode cX3_grow 64 = .ok (.iload_n 1, 1) := by decide +kernel
theorem dX3_grow_65 : decode cX3_grow 65 = .ok (.iaload, 1) := by decide +kernel
theorem dX3_grow_66 : decode cX3_grow 66 = .ok (.if_icmp .eq 7, 3) := by decide +kernel
theorem dX3_grow_69 : decode cX3_grow 69 = .ok (.iconst 1, 1) := by decide +kernel
theorem dX3_grow_70 : decode cX3_grow 70 = .ok (.goto 4, 3) := by decide +kernel
theorem dX3_grow_73 : decode cX3_grow 73 = .ok (.iconst 0, 1) := by decide +kernel
theorem dX3_grow_74 : decode cX3_grow 74 = .ok (.istore_n 3, 1) := by decide +kernel
theorem dX3_grow_75 : decode cX3_grow 75 = .ok (.aload_n 0, 1) := by decide +kernel
theorem dX3_grow_76 : decode cX3_grow 76 = .ok (.getfield 22, 3) := by decide +kernel
theorem dX3_grow_79 : decode cX3_grow 79 = .ok (.iload_n 1, 1) := by decide +kernel
theorem dX3_grow_80 : decode cX3_grow 80 = .ok (.iload_n 2, 1) := by decide +kernel
theorem dX3_grow_81 : decode cX3_grow 81 = .ok (.iastore, 1) := by decide +kernel
theorem dX3_grow_82 : decode cX3_grow 82 = .ok (.iload_n 3, 1) := by decide +kernel
theorem dX3_grow_83 : decode cX3_grow 83 = .ok (.ireturn, 1) := by decide +kernel
theorem dX3_together_0 : decode cX3_together 0 = .ok (.iload_n 1, 1) := by decide +kernel
theorem dX3_together_1 : decode cX3_together 1 = .ok (.iload_n 2, 1) := by decide +kernel
theorem dX3_together_2 : decode cX3_together 2 = .ok (.if_icmp .eq 31, 3) := by decide +kernel
theorem dX3_together_5 : decode cX3_together 5 = .ok (.aload_n 0, 1) := by decide +kernel
theorem dX3_together_6 : decode cX3_together 6 = .ok (.getfield 37, 3) := by decide +kernel
theorem dX3_together_9 : decode cX3_together 9 = .ok (.bipush 7, 2) := by decide +kernel
theorem dX3_together_11 : decode cX3_together 11 = .ok (.iload_n 1, 1) := by decide +kernel
theorem dX3_together_12 : decode cX3_together 12 = .ok (.imul, 1) := by decide +kernel
theorem dX3_together_13 : decode cX3_together 13 = .ok (.iload_n 2, 1) := by decide +kernel
theorem dX3_together_14 : decode cX3_together 14 = .ok (.iadd, 1) := by decide +kernel
theorem dX3_together_15 : decode cX3_together 15 = .ok (.baload, 1) := by decide +kernel
theorem dX3_together_16 : decode cX3_together 16 = .ok (.ifCond .eq 21, 3) := by decide +kernel
theorem dX3_together_19 : decode cX3_together 19 = .ok (.aload_n 0, 1) := by decide +kernel
theorem dX3_together_20 : decode cX3_together 20 = .ok (.getfield 37, 3) := by decide +kernel
theorem dX3_together_23 : decode cX3_together 23 = .ok (.bipush 7, 2) := by decide +kernel
theorem dX3_together_25 : decode cX3_together 25 = .ok (.iload_n 2, 1) := by decide +kernel
theorem dX3_together_26 : decode cX3_together 26 = .ok (.imul, 1) := by decide +kernel
theorem dX3_together_27 : decode cX3_together 27 = .ok (.iload_n 1, 1) := by decide +kernel
theorem dX3_together_28 : decode cX3_together 28 = .ok (.iadd, 1) := by decide +kernel
theorem dX3_together_29 : decode cX3_together 29 = .ok (.baload, 1) := by decide +kernel
theorem dX3_together_30 : decode cX3_together 30 = .ok (.ifCond .eq 7, 3) := by decide +kernel
theorem dX3_together_33 : decode cX3_together 33 = .ok (.iconst 1, 1) := by decide +kernel
theorem dX3_together_34 : decode cX3_together 34 = .ok (.goto 4, 3) := by decide +kernel
theorem dX3_together_37 : decode cX3_together 37 = .ok (.iconst 0, 1) := by decide +kernel
theorem dX3_together_38 : decode cX3_together 38 = .ok (.ireturn, 1) := by decide +kernel
set_option maxRecDepth 20000 in
theorem ggX3_due_X3_together : GoodIn wsX3_due wsX3_together := goodIn_r _ [7, 2, 8, 9, 10, 11, 12, 13, 14, 15, 16, 17, 18, 19] (by decide +kernel) (by decide +kernel)
set_option maxRecDepth 20000 in
theorem gX3_due_X3_together : GoodIn wsX3_due (wsV RX3 63 RX3 yX3_together wsX3_together) := goodIn_app (goodIn_of _ (by decide +kernel)) ggX3_due_X3_together
theorem dX3_due_0 : decode cX3_due 0 = .ok (.aload_n 0, 1) := by decide +kernel
theorem dX3_due_1 : decode cX3_due 1 = .ok (.getfield 41, 3) := by decide +kernel
theorem dX3_due_4 : decode cX3_due 4 = .ok (.iload_n 1, 1) := by decide +kernel
theorem dX3_due_5 : decode cX3_due 5 = .ok (.baload, 1) := by decide +kernel
theorem dX3_due_6 : decode cX3_due 6 = .ok (.ifCond .ne 7, 3) := by decide +kernel
theorem dX3_due_9 : decode cX3_due 9 = .ok (.iconst 1, 1) := by decide +kernel
theorem dX3_due_10 : decode cX3_due 10 = .ok (.goto 4, 3) := by decide +kernel
theorem dX3_due_13 : decode cX3_due 13 = .ok (.iconst 0, 1) := by decide +kernel
theorem dX3_due_14 : decode cX3_due 14 = .ok (.istore_n 2, 1) := by decide +kernel
theorem dX3_due_15 : decode cX3_due 15 = .ok (.iconst 2, 1) := by decide +kernel
theorem dX3_due_16 : decode cX3_due 16 = .ok (.istore_n 3, 1) := by decide +kernel
theorem dX3_due_17 : decode cX3_due 17 = .ok (.iload_n 3, 1) := by decide +kernel
theorem dX3_due_18 : decode cX3_due 18 = .ok (.bipush 7, 2) := by decide +kernel
theorem dX3_due_20 : decode cX3_due 20 = .ok (.if_icmp .ge 51, 3) := by decide +kernel
theorem dX3_due_23 : decode cX3_due 23 = .ok (.iload_n 2, 1) := by decide +kernel
theorem dX3_due_24 : decode cX3_due 24 = .ok (.ifCond .eq 39, 3) := by decide +kernel
theorem dX3_due_27 : decode cX3_due 27 = .ok (.aload_n 0, 1) := by decide +kernel
theorem dX3_due_28 : decode cX3_due 28 = .ok (.getfield 41, 3) := by decide +kernel
theorem dX3_due_31 : decode cX3_due 31 = .ok (.iload_n 3, 1) := by decide +kernel
theorem dX3_due_32 : decode cX3_due 32 = .ok (.baload, 1) := by decide +kernel
theorem dX3_due_33 : decode cX3_due 33 = .ok (.ifCond .ne 26, 3) := by decide +kernel
theorem dX3_due_36 : decode cX3_due 36 = .ok (.aload_n 0, 1) := by decide +kernel
theorem dX3_due_37 : decode cX3_due 37 = .ok (.getfield 37, 3) := by decide +kernel
theorem dX3_due_40 : decode cX3_due 40 = .ok (.bipush 7, 2) := by decide +kernel
theorem dX3_due_42 : decode cX3_due 42 = .ok (.iload_n 1, 1) := by decide +kernel
theorem dX3_due_43 : decode cX3_due 43 = .ok (.imul, 1) := by decide +kernel
theorem dX3_due_44 : decode cX3_due 44 = .ok (.iload_n 3, 1) := by decide +kernel
theorem dX3_due_45 : decode cX3_due 45 = .ok (.iadd, 1) := by decide +kernel
theorem dX3_due_46 : decode cX3_due 46 = .ok (.baload, 1) := by decide +kernel
theorem dX3_due_47 : decode cX3_due 47 = .ok (.ifCond .eq 12, 3) := by decide +kernel
theorem dX3_due_50 : decode cX3_due 50 = .ok (.aload_n 0, 1) := by decide +kernel
theorem dX3_due_51 : decode cX3_due 51 = .ok (.iload_n 1, 1) := by decide +kernel
theorem dX3_due_52 : decode cX3_due 52 = .ok (.iload_n 3, 1) := by decide +kernel
theorem dX3_due_53 : decode cX3_due 53 = .ok (.invokevirtual 63, 3) := by decide +kernel
theorem dX3_due_56 : decode cX3_due 56 = .ok (.ifCond .eq 7, 3) := by decide +kernel
theorem dX3_due_59 : decode cX3_due 59 = .ok (.iconst 1, 1) := by decide +kernel
theorem dX3_due_60 : decode cX3_due 60 = .ok (.goto 4, 3) := by decide +kernel
theorem dX3_due_63 : decode cX3_due 63 = .ok (.iconst 0, 1) := by decide +kernel
theorem dX3_due_64 : decode cX3_due 64 = .ok (.istore_n 2, 1) := by decide +kernel
theorem dX3_due_65 : decode cX3_due 65 = .ok (.iinc 3 1, 3) := by decide +kernel
theorem dX3_due_68 : decode cX3_due 68 = .ok (.goto (-51), 3) := by decide +kernel
theorem dX3_due_71 : decode cX3_due 71 = .ok (.iload_n 2, 1) := by decide +kernel
theorem dX3_due_72 : decode cX3_due 72 = .ok (.ireturn, 1) := by decide +kernel
set_option maxRecDepth 20000 in
theorem ggX3_make_X3_together : GoodIn wsX3_make wsX3_together := goodIn_r _ [6, 7, 32, 33, 34, 35, 36, 37, 38, 39, 40, 41, 42, 43] (by decide +kernel) (by decide +kernel)
set_option maxRecDepth 20000 in
theorem gX3_make_X3_together : GoodIn wsX3_make (wsV RX3 63 RX3 yX3_together wsX3_together) := goodIn_app (goodIn_of _ (by decide +kernel)) ggX3_make_X3_together
set_option maxRecDepth 20000 in
theorem ggX3_make_X3_grow : GoodIn wsX3_make wsX3_grow := goodIn_r _ [11, 12, 13, 14, 15, 5, 16, 17, 18, 19, 20, 21, 22, 23, 24, 25, 26, 27, 28, 29, 30, 31, 32, 33, 34, 35, 36, 37, 38, 39, 40, 41, 42, 43] (by decide +kernel) (by decide +kernel)
set_option maxRecDepth 20000 in
theorem gX3_make_X3_grow : GoodIn wsX3_make (wsV RX3 67 RX3 yX3_grow wsX3_grow) := goodIn_app (goodIn_of _ (by decide +kernel)) ggX3_make_X3_grow
theorem dX3_make_0 : decode cX3_make 0 = .ok (.iconst 1, 1) := by decide +kernel
theorem dX3_make_1 : decode cX3_make 1 = .ok (.istore_n 2, 1) := by decide +kernel
theorem dX3_make_2 : decode cX3_make 2 = .ok (.iload_n 2, 1) := by decide +kernel
theorem dX3_make_3 : decode cX3_make 3 = .ok (.ifCond .eq 49, 3) := by decide +kernel
theorem dX3_make_6 : decode cX3_make 6 = .ok (.iconst 0, 1) := by decide +kernel
theorem dX3_make_7 : decode cX3_make 7 = .ok (.istore_n 2, 1) := by decide +kernel
theorem dX3_make_8 : decode cX3_make 8 = .ok (.iconst 2, 1) := by decide +kernel
theorem dX3_make_9 : decode cX3_make 9 = .ok (.istore_n 3, 1) := by decide +kernel
theorem dX3_make_10 : decode cX3_make 10 = .ok (.iload_n 3, 1) := by decide +kernel
theorem dX3_make_11 : decode cX3_make 11 = .ok (.bipush 7, 2) := by decide +kernel
theorem dX3_make_13 : decode cX3_make 13 = .ok (.if_icmp .ge 36, 3) := by decide +kernel
theorem dX3_make_16 : decode cX3_make 16 = .ok (.aload_n 0, 1) := by decide +kernel
theorem dX3_make_17 : decode cX3_make 17 = .ok (.iload_n 1, 1) := by decide +kernel
theorem dX3_make_18 : decode cX3_make 18 = .ok (.iload_n 3, 1) := by decide +kernel
theorem dX3_make_19 : decode cX3_make 19 = .ok (.invokevirtual 63, 3) := by decide +kernel
theorem dX3_make_22 : decode cX3_make 22 = .ok (.ifCond .eq 21, 3) := by decide +kernel
theorem dX3_make_25 : decode cX3_make 25 = .ok (.aload_n 0, 1) := by decide +kernel
theorem dX3_make_26 : decode cX3_make 26 = .ok (.iload_n 3, 1) := by decide +kernel
theorem dX3_make_27 : decode cX3_make 27 = .ok (.invokevirtual 67, 3) := by decide +kernel
theorem dX3_make_30 : decode cX3_make 30 = .ok (.ifCond .ne 7, 3) := by decide +kernel
theorem dX3_make_33 : decode cX3_make 33 = .ok (.iload_n 2, 1) := by decide +kernel
theorem dX3_make_34 : decode cX3_make 34 = .ok (.ifCond .eq 7, 3) := by decide +kernel
theorem dX3_make_37 : decode cX3_make 37 = .ok (.iconst 1, 1) := by decide +kernel
theorem dX3_make_38 : decode cX3_make 38 = .ok (.goto 4, 3) := by decide +kernel
theorem dX3_make_41 : decode cX3_make 41 = .ok (.iconst 0, 1) := by decide +kernel
theorem dX3_make_42 : decode cX3_make 42 = .ok (.istore_n 2, 1) := by decide +kernel
theorem dX3_make_43 : decode cX3_make 43 = .ok (.iinc 3 1, 3) := by decide +kernel
theorem dX3_make_46 : decode cX3_make 46 = .ok (.goto (-36), 3) := by decide +kernel
theorem dX3_make_49 : decode cX3_make 49 = .ok (.goto (-47), 3) := by decide +kernel
theorem dX3_make_52 : decode cX3_make 52 = .ok (.iconst 2, 1) := by decide +kernel
theorem dX3_make_53 : decode cX3_make 53 = .ok (.istore_n 3, 1) := by decide +kernel
theorem dX3_make_54 : decode cX3_make 54 = .ok (.iload_n 3, 1) := by decide +kernel
theorem dX3_make_55 : decode cX3_make 55 = .ok (.bipush 7, 2) := by decide +kernel
theorem dX3_make_57 : decode cX3_make 57 = .ok (.if_icmp .ge 38, 3) := by decide +kernel
theorem dX3_make_60 : decode cX3_make 60 = .ok (.aload_n 0, 1) := by decide +kernel
theorem dX3_make_61 : decode cX3_make 61 = .ok (.getfield 41, 3) := by decide +kernel
theorem dX3_make_64 : decode cX3_make 64 = .ok (.iload_n 3, 1) := by decide +kernel
theorem dX3_make_65 : decode cX3_make 65 = .ok (.aload_n 0, 1) := by decide +kernel
theorem dX3_make_66 : decode cX3_make 66 = .ok (.getfield 41, 3) := by decide +kernel
theorem dX3_make_69 : decode cX3_make 69 = .ok (.iload_n 3, 1) := by decide +kernel
theorem dX3_make_70 : decode cX3_make 70 = .ok (.baload, 1) := by decide +kernel
theorem dX3_make_71 : decode cX3_make 71 = .ok (.ifCond .ne 12, 3) := by decide +kernel
theorem dX3_make_74 : decode cX3_make 74 = .ok (.aload_n 0, 1) := by decide +kernel
theorem dX3_make_75 : decode cX3_make 75 = .ok (.iload_n 1, 1) := by decide +kernel
theorem dX3_make_76 : decode cX3_make 76 = .ok (.iload_n 3, 1) := by decide +kernel
theorem dX3_make_77 : decode cX3_make 77 = .ok (.invokevirtual 63, 3) := by decide +kernel
theorem dX3_make_80 : decode cX3_make 80 = .ok (.ifCond .eq 7, 3) := by decide +kernel
theorem dX3_make_83 : decode cX3_make 83 = .ok (.iconst 1, 1) := by decide +kernel
theorem dX3_make_84 : decode cX3_make 84 = .ok (.goto 4, 3) := by decide +kernel
theorem dX3_make_87 : decode cX3_make 87 = .ok (.iconst 0, 1) := by decide +kernel
theorem dX3_make_88 : decode cX3_make 88 = .ok (.bastore, 1) := by decide +kernel
theorem dX3_make_89 : decode cX3_make 89 = .ok (.iinc 3 1, 3) := by decide +kernel
theorem dX3_make_92 : decode cX3_make 92 = .ok (.goto (-38), 3) := by decide +kernel
theorem dX3_make_95 : decode cX3_make 95 = .ok (.return_, 1) := by decide +kernel
set_option maxRecDepth 20000 in
theorem ggX3_makeAll_X3_due : GoodIn wsX3_makeAll wsX3_due := goodIn_r _ [7, 2, 8, 9, 10, 11, 6, 12, 40, 41, 42, 43, 44, 45, 46, 47, 48, 49, 50, 51] (by decide +kernel) (by decide +kernel)
set_option maxRecDepth 20000 in
theorem gX3_makeAll_X3_due : GoodIn wsX3_makeAll (wsV RX3 71 RX3 yX3_due wsX3_due) := goodIn_app (goodIn_of _ (by decide +kernel)) ggX3_makeAll_X3_due
set_option maxRecDepth 20000 in
theorem ggX3_makeAll_X3_make : GoodIn wsX3_makeAll wsX3_make := goodIn_r _ [16, 2, 9, 10, 11, 6, 12, 8, 17, 18, 19, 20, 1, 21, 22, 23, 24, 25, 26, 27, 28, 29, 30, 31, 32, 33, 34, 35, 36, 37, 38, 39, 40, 41, 42, 43, 44, 45, 46, 47, 48, 49, 50, 51] (by decide +kernel) (by decide +kernel)
set_option maxRecDepth 20000 in
theorem gX3_makeAll_X3_make : GoodIn wsX3_makeAll (wsV RX3 74 RX3 yX3_make wsX3_make) := goodIn_app (goodIn_of _ (by decide +kernel)) ggX3_makeAll_X3_make
theorem dX3_makeAll_0 : decode cX3_makeAll 0 = .ok (.iconst 2, 1) := by decide +kernel
theorem dX3_makeAll_1 : decode cX3_makeAll 1 = .ok (.istore_n 1, 1) := by decide +kernel
theorem dX3_makeAll_2 : decode cX3_makeAll 2 = .ok (.iload_n 1, 1) := by decide +kernel
theorem dX3_makeAll_3 : decode cX3_makeAll 3 = .ok (.bipush 7, 2) := by decide +kernel
theorem dX3_makeAll_5 : decode cX3_makeAll 5 = .ok (.if_icmp .ge 23, 3) := by decide +kernel
theorem dX3_makeAll_8 : decode cX3_makeAll 8 = .ok (.aload_n 0, 1) := by decide +kernel
theorem dX3_makeAll_9 : decode cX3_makeAll 9 = .ok (.getfield 22, 3) := by decide +kernel
theorem dX3_makeAll_12 : decode cX3_makeAll 12 = .ok (.iload_n 1, 1) := by decide +kernel
theorem dX3_makeAll_13 : decode cX3_makeAll 13 = .ok (.iconst 0, 1) := by decide +kernel
theorem dX3_makeAll_14 : decode cX3_makeAll 14 = .ok (.iastore, 1) := by decide +kernel
theorem dX3_makeAll_15 : decode cX3_makeAll 15 = .ok (.aload_n 0, 1) := by decide +kernel
theorem dX3_makeAll_16 : decode cX3_makeAll 16 = .ok (.getfield 41, 3) := by decide +kernel
theorem dX3_makeAll_19 : decode cX3_makeAll 19 = .ok (.iload_n 1, 1) := by decide +kernel
theorem dX3_makeAll_20 : decode cX3_makeAll 20 = .ok (.iconst 0, 1) := by decide +kernel
theorem dX3_makeAll_21 : decode cX3_makeAll 21 = .ok (.bastore, 1) := by decide +kernel
theorem dX3_makeAll_22 : decode cX3_makeAll 22 = .ok (.iinc 1 1, 3) := by decide +kernel
theorem dX3_makeAll_25 : decode cX3_makeAll 25 = .ok (.goto (-23), 3) := by decide +kernel
theorem dX3_makeAll_28 : decode cX3_makeAll 28 = .ok (.iconst 0, 1) := by decide +kernel
theorem dX3_makeAll_29 : decode cX3_makeAll 29 = .ok (.istore_n 1, 1) := by decide +kernel
theorem dX3_makeAll_30 : decode cX3_makeAll 30 = .ok (.iload_n 1, 1) := by decide +kernel
theorem dX3_makeAll_31 : decode cX3_makeAll 31 = .ok (.iconst 5, 1) := by decide +kernel
theorem dX3_makeAll_32 : decode cX3_makeAll 32 = .ok (.if_icmp .ge 36, 3) := by decide +kernel
theorem dX3_makeAll_35 : decode cX3_makeAll 35 = .ok (.iconst 2, 1) := by decide +kernel
theorem dX3_makeAll_36 : decode cX3_makeAll 36 = .ok (.istore_n 2, 1) := by decide +kernel
theorem dX3_makeAll_37 : decode cX3_makeAll 37 = .ok (.iload_n 2, 1) := by decide +kernel
theorem dX3_makeAll_38 : decode cX3_makeAll 38 = .ok (.bipush 7, 2) := by decide +kernel
theorem dX3_makeAll_40 : decode cX3_makeAll 40 = .ok (.if_icmp .ge 22, 3) := by decide +kernel
theorem dX3_makeAll_43 : decode cX3_makeAll 43 = .ok (.aload_n 0, 1) := by decide +kernel
theorem dX3_makeAll_44 : decode cX3_makeAll 44 = .ok (.iload_n 2, 1) := by decide +kernel
theorem dX3_makeAll_45 : decode cX3_makeAll 45 = .ok (.invokevirtual 71, 3) := by decide +kernel
theorem dX3_makeAll_48 : decode cX3_makeAll 48 = .ok (.ifCond .eq 8, 3) := by decide +kernel
theorem dX3_makeAll_51 : decode cX3_makeAll 51 = .ok (.aload_n 0, 1) := by decide +kernel
theorem dX3_makeAll_52 : decode cX3_makeAll 52 = .ok (.iload_n 2, 1) := by decide +kernel
theorem dX3_makeAll_53 : decode cX3_makeAll 53 = .ok (.invokevirtual 74, 3) := by decide +kernel
theorem dX3_makeAll_56 : decode cX3_makeAll 56 = .ok (.iinc 2 1, 3) := by decide +kernel
theorem dX3_makeAll_59 : decode cX3_makeAll 59 = .ok (.goto (-22), 3) := by decide +kernel
theorem dX3_makeAll_62 : decode cX3_makeAll 62 = .ok (.iinc 1 1, 3) := by decide +kernel
theorem dX3_makeAll_65 : decode cX3_makeAll 65 = .ok (.goto (-35), 3) := by decide +kernel
theorem dX3_makeAll_68 : decode cX3_makeAll 68 = .ok (.return_, 1) := by decide +kernel
set_option maxRecDepth 20000 in
theorem ggX3_anew_X3_makeAll : GoodIn wsX3_anew wsX3_makeAll := goodIn_r _ [8, 2, 9, 10, 11, 12, 7, 13, 14, 15, 16, 17, 18, 19, 20, 21, 22, 23, 24, 25, 26, 27, 28, 29, 30, 31, 32, 33, 34, 35, 36, 37, 38, 39, 40, 41, 42, 43, 44, 45, 46, 47, 48, 49, 50, 51, 52, 53, 54, 55, 56, 57] (by decide +kernel) (by decide +kernel)
set_option maxRecDepth 20000 in
theorem gX3_anew_X3_makeAll : GoodIn wsX3_anew (wsV RX3 78 RX3 yX3_makeAll wsX3_makeAll) := goodIn_app (goodIn_of _ (by decide +kernel)) ggX3_anew_X3_makeAll
theorem dX3_anew_0 : decode cX3_anew 0 = .ok (.aload_n 0, 1) := by decide +kernel
theorem dX3_anew_1 : decode cX3_anew 1 = .ok (.invokevirtual 78, 3) := by decide +kernel
theorem dX3_anew_4 : decode cX3_anew 4 = .ok (.iconst 0, 1) := by decide +kernel
theorem dX3_anew_5 : decode cX3_anew 5 = .ok (.istore_n 1, 1) := by decide +kernel
theorem dX3_anew_6 : decode cX3_anew 6 = .ok (.iload_n 1, 1) := by decide +kernel
theorem dX3_anew_7 : decode cX3_anew 7 = .ok (.bipush 7, 2) := by decide +kernel
theorem dX3_anew_9 : decode cX3_anew 9 = .ok (.if_icmp .ge 28, 3) := by decide +kernel
theorem dX3_anew_12 : decode cX3_anew 12 = .ok (.aload_n 0, 1) := by decide +kernel
theorem dX3_anew_13 : decode cX3_anew 13 = .ok (.getfield 25, 3) := by decide +kernel
theorem dX3_anew_16 : decode cX3_anew 16 = .ok (.iload_n 1, 1) := by decide +kernel
theorem dX3_anew_17 : decode cX3_anew 17 = .ok (.aload_n 0, 1) := by decide +kernel
theorem dX3_anew_18 : decode cX3_anew 18 = .ok (.getfield 22, 3) := by decide +kernel
theorem dX3_anew_21 : decode cX3_anew 21 = .ok (.iload_n 1, 1) := by decide +kernel
theorem dX3_anew_22 : decode cX3_anew 22 = .ok (.iaload, 1) := by decide +kernel
theorem dX3_anew_23 : decode cX3_anew 23 = .ok (.iastore, 1) := by decide +kernel
theorem dX3_anew_24 : decode cX3_anew 24 = .ok (.aload_n 0, 1) := by decide +kernel
theorem dX3_anew_25 : decode cX3_anew 25 = .ok (.getfield 28, 3) := by decide +kernel
theorem dX3_anew_28 : decode cX3_anew 28 = .ok (.iload_n 1, 1) := by decide +kernel
theorem dX3_anew_29 : decode cX3_anew 29 = .ok (.iconst 0, 1) := by decide +kernel
theorem dX3_anew_30 : decode cX3_anew 30 = .ok (.iastore, 1) := by decide +kernel
theorem dX3_anew_31 : decode cX3_anew 31 = .ok (.iinc 1 1, 3) := by decide +kernel
theorem dX3_anew_34 : decode cX3_anew 34 = .ok (.goto (-28), 3) := by decide +kernel
theorem dX3_anew_37 : decode cX3_anew 37 = .ok (.return_, 1) := by decide +kernel
set_option maxRecDepth 20000 in
theorem ggX3_rule_X3_within : GoodIn wsX3_rule wsX3_within := goodIn_r _ [9] (by decide +kernel) (by decide +kernel)
set_option maxRecDepth 20000 in
theorem gX3_rule_X3_within : GoodIn wsX3_rule (va_wsS RX3 81 yX3_within wsX3_within) := goodIn_app (goodIn_of _ (by decide +kernel)) ggX3_rule_X3_within
set_option maxRecDepth 20000 in
theorem ggX3_rule_X3_findNeeds : GoodIn wsX3_rule wsX3_findNeeds := goodIn_r _ [13, 14, 1, 2, 4, 5, 3, 61, 62, 63, 64, 65, 66, 67, 68, 69, 70, 71, 72] (by decide +kernel) (by decide +kernel)
set_option maxRecDepth 20000 in
theorem gX3_rule_X3_findNeeds : GoodIn wsX3_rule (wsV RX3 84 RX3 yX3_findNeeds wsX3_findNeeds) := goodIn_app (goodIn_of _ (by decide +kernel)) ggX3_rule_X3_findNeeds
set_option maxRecDepth 20000 in
theorem ggX3_rule_X3_cyclic : GoodIn wsX3_rule wsX3_cyclic := goodIn_r _ [18, 1, 3, 5, 2, 14, 61, 62, 63, 64, 65, 66, 67, 68, 69, 70, 71, 72] (by decide +kernel) (by decide +kernel)
set_option maxRecDepth 20000 in
theorem gX3_rule_X3_cyclic : GoodIn wsX3_rule (wsV RX3 87 RX3 yX3_cyclic wsX3_cyclic) := goodIn_app (goodIn_of _ (by decide +kernel)) ggX3_rule_X3_cyclic
set_option maxRecDepth 20000 in
theorem ggX3_rule_X3_anew : GoodIn wsX3_rule wsX3_anew := goodIn_r _ [22, 23, 24, 25, 26, 27, 28, 8, 29, 30, 31, 32, 33, 34, 14, 35, 36, 37, 38, 39, 40, 41, 42, 43, 44, 45, 46, 47, 48, 49, 50, 1, 2, 51, 52, 53, 54, 4, 5, 3, 55, 56, 57, 58, 59, 60, 61, 62, 63, 64, 65, 66, 67, 68, 69, 70, 71, 72] (by decide +kernel) (by decide +kernel)
set_option maxRecDepth 20000 in
theorem gX3_rule_X3_anew : GoodIn wsX3_rule (wsV RX3 91 RX3 yX3_anew wsX3_anew) := goodIn_app (goodIn_of _ (by decide +kernel)) ggX3_rule_X3_anew
theorem dX3_rule_0 : decode cX3_rule 0 = .ok (.iload_n 1, 1) := by decide +kernel
theorem dX3_rule_1 : decode cX3_rule 1 = .ok (.iconst 2, 1) := by decide +kernel
theorem dX3_rule_2 : decode cX3_rule 2 = .ok (.bipush 6, 2) := by decide +kernel
theorem dX3_rule_4 : decode cX3_rule 4 = .ok (.invokestatic 81, 3) := by decide +kernel
theorem dX3_rule_7 : decode cX3_rule 7 = .ok (.ifCond .eq 33, 3) := by decide +kernel
theorem dX3_rule_10 : decode cX3_rule 10 = .ok (.iload_n 2, 1) := by decide +kernel
theorem dX3_rule_11 : decode cX3_rule 11 = .ok (.iconst 0, 1) := by decide +kernel
theorem dX3_rule_12 : decode cX3_rule 12 = .ok (.iconst 4, 1) := by decide +kernel
theorem dX3_rule_13 : decode cX3_rule 13 = .ok (.invokestatic 81, 3) := by decide +kernel
theorem dX3_rule_16 : decode cX3_rule 16 = .ok (.ifCond .eq 24, 3) := by decide +kernel
theorem dX3_rule_19 : decode cX3_rule 19 = .ok (.iload_n 3, 1) := by decide +kernel
theorem dX3_rule_20 : decode cX3_rule 20 = .ok (.iconst 0, 1) := by decide +kernel
theorem dX3_rule_21 : decode cX3_rule 21 = .ok (.bipush 6, 2) := by decide +kernel
theorem dX3_rule_23 : decode cX3_rule 23 = .ok (.invokestatic 81, 3) := by decide +kernel
theorem dX3_rule_26 : decode cX3_rule 26 = .ok (.ifCond .eq 14, 3) := by decide +kernel
theorem dX3_rule_29 : decode cX3_rule 29 = .ok (.iload 4, 2) := by decide +kernel
theorem dX3_rule_31 : decode cX3_rule 31 = .ok (.iconst 0, 1) := by decide +kernel
theorem dX3_rule_32 : decode cX3_rule 32 = .ok (.bipush 6, 2) := by decide +kernel
theorem dX3_rule_34 : decode cX3_rule 34 = .ok (.invokestatic 81, 3) := by decide +kernel
theorem dX3_rule_37 : decode cX3_rule 37 = .ok (.ifCond .ne 5, 3) := by decide +kernel
theorem dX3_rule_40 : decode cX3_rule 40 = .ok (.iconst (-1), 1) := by decide +kernel
theorem dX3_rule_41 : decode cX3_rule 41 = .ok (.ireturn, 1) := by decide +kernel
theorem dX3_rule_42 : decode cX3_rule 42 = .ok (.aload_n 0, 1) := by decide +kernel
theorem dX3_rule_43 : decode cX3_rule 43 = .ok (.getfield 44, 3) := by decide +kernel
theorem dX3_rule_46 : decode cX3_rule 46 = .ok (.bipush 12, 2) := by decide +kernel
theorem dX3_rule_48 : decode cX3_rule 48 = .ok (.if_icmp .ne 6, 3) := by decide +kernel
theorem dX3_rule_51 : decode cX3_rule 51 = .ok (.bipush (-2), 2) := by decide +kernel
theorem dX3_rule_53 : decode cX3_rule 53 = .ok (.ireturn, 1) := by decide +kernel
theorem dX3_rule_54 : decode cX3_rule 54 = .ok (.aload_n 0, 1) := by decide +kernel
theorem dX3_rule_55 : decode cX3_rule 55 = .ok (.getfield 7, 3) := by decide +kernel
theorem dX3_rule_58 : decode cX3_rule 58 = .ok (.aload_n 0, 1) := by decide +kernel
theorem dX3_rule_59 : decode cX3_rule 59 = .ok (.getfield 44, 3) := by decide +kernel
theorem dX3_rule_62 : decode cX3_rule 62 = .ok (.iload_n 1, 1) := by decide +kernel
theorem dX3_rule_63 : decode cX3_rule 63 = .ok (.iastore, 1) := by decide +kernel
theorem dX3_rule_64 : decode cX3_rule 64 = .ok (.aload_n 0, 1) := by decide +kernel
theorem dX3_rule_65 : decode cX3_rule 65 = .ok (.getfield 13, 3) := by decide +kernel
theorem dX3_rule_68 : decode cX3_rule 68 = .ok (.aload_n 0, 1) := by decide +kernel
theorem dX3_rule_69 : decode cX3_rule 69 = .ok (.getfield 44, 3) := by decide +kernel
theorem dX3_rule_72 : decode cX3_rule 72 = .ok (.iload_n 2, 1) := by decide +kernel
theorem dX3_rule_73 : decode cX3_rule 73 = .ok (.iastore, 1) := by decide +kernel
theorem dX3_rule_74 : decode cX3_rule 74 = .ok (.aload_n 0, 1) := by decide +kernel
theorem dX3_rule_75 : decode cX3_rule 75 = .ok (.getfield 16, 3) := by decide +kernel
theorem dX3_rule_78 : decode cX3_rule 78 = .ok (.aload_n 0, 1) := by decide +kernel
theorem dX3_rule_79 : decode cX3_rule 79 = .ok (.getfield 44, 3) := by decide +kernel
theorem dX3_rule_82 : decode cX3_rule 82 = .ok (.iload_n 3, 1) := by decide +kernel
theorem dX3_rule_83 : decode cX3_rule 83 = .ok (.iastore, 1) := by decide +kernel
theorem dX3_rule_84 : decode cX3_rule 84 = .ok (.aload_n 0, 1) := by decide +kernel
theorem dX3_rule_85 : decode cX3_rule 85 = .ok (.getfield 19, 3) := by decide +kernel
theorem dX3_rule_88 : decode cX3_rule 88 = .ok (.aload_n 0, 1) := by decide +kernel
theorem dX3_rule_89 : decode cX3_rule 89 = .ok (.getfield 44, 3) := by decide +kernel
theorem dX3_rule_92 : decode cX3_rule 92 = .ok (.iload 4, 2) := by decide +kernel
theorem dX3_rule_94 : decode cX3_rule 94 = .ok (.iastore, 1) := by decide +kernel
theorem dX3_rule_95 : decode cX3_rule 95 = .ok (.aload_n 0, 1) := by decide +kernel
theorem dX3_rule_96 : decode cX3_rule 96 = .ok (.dup, 1) := by decide +kernel
theorem dX3_rule_97 : decode cX3_rule 97 = .ok (.getfield 44, 3) := by decide +kernel
theorem dX3_rule_100 : decode cX3_rule 100 = .ok (.iconst 1, 1) := by decide +kernel
theorem dX3_rule_101 : decode cX3_rule 101 = .ok (.iadd, 1) := by decide +kernel
theorem dX3_rule_102 : decode cX3_rule 102 = .ok (.putfield 44, 3) := by decide +kernel
theorem dX3_rule_105 : decode cX3_rule 105 = .ok (.aload_n 0, 1) := by decide +kernel
theorem dX3_rule_106 : decode cX3_rule 106 = .ok (.invokevirtual 84, 3) := by decide +kernel
theorem dX3_rule_109 : decode cX3_rule 109 = .ok (.aload_n 0, 1) := by decide +kernel
theorem dX3_rule_110 : decode cX3_rule 110 = .ok (.invokevirtual 87, 3) := by decide +kernel
theorem dX3_rule_113 : decode cX3_rule 113 = .ok (.ifCond .eq 20, 3) := by decide +kernel
theorem dX3_rule_116 : decode cX3_rule 116 = .ok (.aload_n 0, 1) := by decide +kernel
theorem dX3_rule_117 : decode cX3_rule 117 = .ok (.dup, 1) := by decide +kernel
theorem dX3_rule_118 : decode cX3_rule 118 = .ok (.getfield 44, 3) := by decide +kernel
theorem dX3_rule_121 : decode cX3_rule 121 = .ok (.iconst 1, 1) := by decide +kernel
theorem dX3_rule_122 : decode cX3_rule 122 = .ok (.isub, 1) := by decide +kernel
theorem dX3_rule_123 : decode cX3_rule 123 = .ok (.putfield 44, 3) := by decide +kernel
theorem dX3_rule_126 : decode cX3_rule 126 = .ok (.aload_n 0, 1) := by decide +kernel
theorem dX3_rule_127 : decode cX3_rule 127 = .ok (.invokevirtual 84, 3) := by decide +kernel
theorem dX3_rule_130 : decode cX3_rule 130 = .ok (.bipush (-3), 2) := by decide +kernel
theorem dX3_rule_132 : decode cX3_rule 132 = .ok (.ireturn, 1) := by decide +kernel
theorem dX3_rule_133 : decode cX3_rule 133 = .ok (.aload_n 0, 1) := by decide +kernel
theorem dX3_rule_134 : decode cX3_rule 134 = .ok (.invokevirtual 91, 3) := by decide +kernel
theorem dX3_rule_137 : decode cX3_rule 137 = .ok (.aload_n 0, 1) := by decide +kernel
theorem dX3_rule_138 : decode cX3_rule 138 = .ok (.getfield 44, 3) := by decide +kernel
theorem dX3_rule_141 : decode cX3_rule 141 = .ok (.iconst 1, 1) := by decide +kernel
theorem dX3_rule_142 : decode cX3_rule 142 = .ok (.isub, 1) := by decide +kernel
theorem dX3_rule_143 : decode cX3_rule 143 = .ok (.ireturn, 1) := by decide +kernel
set_option maxRecDepth 20000 in
theorem ggX3_undo_X3_findNeeds : GoodIn wsX3_undo wsX3_findNeeds := goodIn_r _ [6, 7, 1, 8, 9, 10, 11, 54, 55, 56, 57, 58, 59, 60, 61, 62, 63, 64, 65] (by decide +kernel) (by decide +kernel)
set_option maxRecDepth 20000 in
theorem gX3_undo_X3_findNeeds : GoodIn wsX3_undo (wsV RX3 84 RX3 yX3_findNeeds wsX3_findNeeds) := goodIn_app (goodIn_of _ (by decide +kernel)) ggX3_undo_X3_findNeeds
set_option maxRecDepth 20000 in
theorem ggX3_undo_X3_anew : GoodIn wsX3_undo wsX3_anew := goodIn_r _ [15, 16, 17, 18, 19, 20, 21, 5, 22, 23, 24, 25, 26, 27, 7, 28, 29, 30, 31, 32, 33, 34, 35, 36, 37, 38, 39, 40, 41, 42, 43, 1, 8, 44, 45, 46, 47, 9, 10, 11, 48, 49, 50, 51, 52, 53, 54, 55, 56, 57, 58, 59, 60, 61, 62, 63, 64, 65] (by decide +kernel) (by decide +kernel)
set_option maxRecDepth 20000 in
theorem gX3_undo_X3_anew : GoodIn wsX3_undo (wsV RX3 91 RX3 yX3_anew wsX3_anew) := goodIn_app (goodIn_of _ (by decide +kernel)) ggX3_undo_X3_anew
theorem dX3_undo_0 : decode cX3_undo 0 = .ok (.aload_n 0, 1) := by decide +kernel
theorem dX3_undo_1 : decode cX3_undo 1 = .ok (.getfield 44, 3) := by decide +kernel
theorem dX3_undo_4 : decode cX3_undo 4 = .ok (.ifCond .ne 5, 3) := by decide +kernel
theorem dX3_undo_7 : decode cX3_undo 7 = .ok (.iconst (-1), 1) := by decide +kernel
theorem dX3_undo_8 : decode cX3_undo 8 = .ok (.ireturn, 1) := by decide +kernel
theorem dX3_undo_9 : decode cX3_undo 9 = .ok (.aload_n 0, 1) := by decide +kernel
theorem dX3_undo_10 : decode cX3_undo 10 = .ok (.dup, 1) := by decide +kernel
theorem dX3_undo_11 : decode cX3_undo 11 = .ok (.getfield 44, 3) := by decide +kernel
theorem dX3_undo_14 : decode cX3_undo 14 = .ok (.iconst 1, 1) := by decide +kernel
theorem dX3_undo_15 : decode cX3_undo 15 = .ok (.isub, 1) := by decide +kernel
theorem dX3_undo_16 : decode cX3_undo 16 = .ok (.putfield 44, 3) := by decide +kernel
theorem dX3_undo_19 : decode cX3_undo 19 = .ok (.aload_n 0, 1) := by decide +kernel
theorem dX3_undo_20 : decode cX3_undo 20 = .ok (.invokevirtual 84, 3) := by decide +kernel
theorem dX3_undo_23 : decode cX3_undo 23 = .ok (.aload_n 0, 1) := by decide +kernel
theorem dX3_undo_24 : decode cX3_undo 24 = .ok (.invokevirtual 91, 3) := by decide +kernel
theorem dX3_undo_27 : decode cX3_undo 27 = .ok (.aload_n 0, 1) := by decide +kernel
theorem dX3_undo_28 : decode cX3_undo 28 = .ok (.getfield 44, 3) := by decide +kernel
theorem dX3_undo_31 : decode cX3_undo 31 = .ok (.ireturn, 1) := by decide +kernel
set_option maxRecDepth 20000 in
theorem ggX3_stage_X3_within : GoodIn wsX3_stage wsX3_within := goodIn_r _ [6] (by decide +kernel) (by decide +kernel)
set_option maxRecDepth 20000 in
theorem gX3_stage_X3_within : GoodIn wsX3_stage (va_wsS RX3 81 yX3_within wsX3_within) := goodIn_app (goodIn_of _ (by decide +kernel)) ggX3_stage_X3_within
set_option maxRecDepth 20000 in
theorem ggX3_stage_X3_bit : GoodIn wsX3_stage wsX3_bit := goodIn_r _ [9] (by decide +kernel) (by decide +kernel)
set_option maxRecDepth 20000 in
theorem gX3_stage_X3_bit : GoodIn wsX3_stage (va_wsS RX3 59 yX3_bit wsX3_bit) := goodIn_app (goodIn_of _ (by decide +kernel)) ggX3_stage_X3_bit
theorem dX3_stage_0 : decode cX3_stage 0 = .ok (.iload_n 1, 1) := by decide +kernel
theorem dX3_stage_1 : decode cX3_stage 1 = .ok (.iconst 0, 1) := by decide +kernel
theorem dX3_stage_2 : decode cX3_stage 2 = .ok (.iconst 1, 1) := by decide +kernel
theorem dX3_stage_3 : decode cX3_stage 3 = .ok (.invokestatic 81, 3) := by decide +kernel
theorem dX3_stage_6 : decode cX3_stage 6 = .ok (.ifCond .eq 21, 3) := by decide +kernel
theorem dX3_stage_9 : decode cX3_stage 9 = .ok (.iload_n 2, 1) := by decide +kernel
theorem dX3_stage_10 : decode cX3_stage 10 = .ok (.iconst 0, 1) := by decide +kernel
theorem dX3_stage_11 : decode cX3_stage 11 = .ok (.iconst 4, 1) := by decide +kernel
theorem dX3_stage_12 : decode cX3_stage 12 = .ok (.invokestatic 81, 3) := by decide +kernel
theorem dX3_stage_15 : decode cX3_stage 15 = .ok (.ifCond .eq 12, 3) := by decide +kernel
theorem dX3_stage_18 : decode cX3_stage 18 = .ok (.iload_n 3, 1) := by decide +kernel
theorem dX3_stage_19 : decode cX3_stage 19 = .ok (.iconst 0, 1) := by decide +kernel
theorem dX3_stage_20 : decode cX3_stage 20 = .ok (.iconst 4, 1) := by decide +kernel
theorem dX3_stage_21 : decode cX3_stage 21 = .ok (.invokestatic 81, 3) := by decide +kernel
end
section
theorem dX3_stage_24 : decode cX3_stage 24 = .ok (.ifCond .ne 5, 3) := by decide +kernel
theorem dX3_stage_27 : decode cX3_stage 27 = .ok (.iconst 0, 1) := by decide +kernel
theorem dX3_stage_28 : decode cX3_stage 28 = .ok (.ireturn, 1) := by decide +kernel
theorem dX3_stage_29 : decode cX3_stage 29 = .ok (.aload_n 0, 1) := by decide +kernel
theorem dX3_stage_30 : decode cX3_stage 30 = .ok (.getfield 31, 3) := by decide +kernel
theorem dX3_stage_33 : decode cX3_stage 33 = .ok (.iload_n 1, 1) := by decide +kernel
theorem dX3_stage_34 : decode cX3_stage 34 = .ok (.aload_n 0, 1) := by decide +kernel
theorem dX3_stage_35 : decode cX3_stage 35 = .ok (.getfield 31, 3) := by decide +kernel
theorem dX3_stage_38 : decode cX3_stage 38 = .ok (.iload_n 1, 1) := by decide +kernel
theorem dX3_stage_39 : decode cX3_stage 39 = .ok (.iaload, 1) := by decide +kernel
theorem dX3_stage_40 : decode cX3_stage 40 = .ok (.iload_n 2, 1) := by decide +kernel
theorem dX3_stage_41 : decode cX3_stage 41 = .ok (.iload_n 3, 1) := by decide +kernel
theorem dX3_stage_42 : decode cX3_stage 42 = .ok (.invokestatic 59, 3) := by decide +kernel
theorem dX3_stage_45 : decode cX3_stage 45 = .ok (.ior, 1) := by decide +kernel
theorem dX3_stage_46 : decode cX3_stage 46 = .ok (.iastore, 1) := by decide +kernel
theorem dX3_stage_47 : decode cX3_stage 47 = .ok (.aload_n 0, 1) := by decide +kernel
theorem dX3_stage_48 : decode cX3_stage 48 = .ok (.getfield 34, 3) := by decide +kernel
theorem dX3_stage_51 : decode cX3_stage 51 = .ok (.iload_n 1, 1) := by decide +kernel
theorem dX3_stage_52 : decode cX3_stage 52 = .ok (.iload 4, 2) := by decide +kernel
theorem dX3_stage_54 : decode cX3_stage 54 = .ok (.ifCond .eq 18, 3) := by decide +kernel
theorem dX3_stage_57 : decode cX3_stage 57 = .ok (.aload_n 0, 1) := by decide +kernel
theorem dX3_stage_58 : decode cX3_stage 58 = .ok (.getfield 34, 3) := by decide +kernel
theorem dX3_stage_61 : decode cX3_stage 61 = .ok (.iload_n 1, 1) := by decide +kernel
theorem dX3_stage_62 : decode cX3_stage 62 = .ok (.iaload, 1) := by decide +kernel
theorem dX3_stage_63 : decode cX3_stage 63 = .ok (.iload_n 2, 1) := by decide +kernel
theorem dX3_stage_64 : decode cX3_stage 64 = .ok (.iload_n 3, 1) := by decide +kernel
theorem dX3_stage_65 : decode cX3_stage 65 = .ok (.invokestatic 59, 3) := by decide +kernel
theorem dX3_stage_68 : decode cX3_stage 68 = .ok (.ior, 1) := by decide +kernel
theorem dX3_stage_69 : decode cX3_stage 69 = .ok (.goto 17, 3) := by decide +kernel
theorem dX3_stage_72 : decode cX3_stage 72 = .ok (.aload_n 0, 1) := by decide +kernel
theorem dX3_stage_73 : decode cX3_stage 73 = .ok (.getfield 34, 3) := by decide +kernel
theorem dX3_stage_76 : decode cX3_stage 76 = .ok (.iload_n 1, 1) := by decide +kernel
theorem dX3_stage_77 : decode cX3_stage 77 = .ok (.iaload, 1) := by decide +kernel
theorem dX3_stage_78 : decode cX3_stage 78 = .ok (.iload_n 2, 1) := by decide +kernel
theorem dX3_stage_79 : decode cX3_stage 79 = .ok (.iload_n 3, 1) := by decide +kernel
theorem dX3_stage_80 : decode cX3_stage 80 = .ok (.invokestatic 59, 3) := by decide +kernel
theorem dX3_stage_83 : decode cX3_stage 83 = .ok (.iconst (-1), 1) := by decide +kernel
theorem dX3_stage_84 : decode cX3_stage 84 = .ok (.ixor, 1) := by decide +kernel
theorem dX3_stage_85 : decode cX3_stage 85 = .ok (.iand, 1) := by decide +kernel
theorem dX3_stage_86 : decode cX3_stage 86 = .ok (.iastore, 1) := by decide +kernel
theorem dX3_stage_87 : decode cX3_stage 87 = .ok (.iconst 1, 1) := by decide +kernel
theorem dX3_stage_88 : decode cX3_stage 88 = .ok (.ireturn, 1) := by decide +kernel
theorem dX3_taken_0 : decode cX3_taken 0 = .ok (.aload_n 0, 1) := by decide +kernel
theorem dX3_taken_1 : decode cX3_taken 1 = .ok (.getfield 25, 3) := by decide +kernel
theorem dX3_taken_4 : decode cX3_taken 4 = .ok (.iload_n 1, 1) := by decide +kernel
theorem dX3_taken_5 : decode cX3_taken 5 = .ok (.iaload, 1) := by decide +kernel
theorem dX3_taken_6 : decode cX3_taken 6 = .ok (.aload_n 0, 1) := by decide +kernel
theorem dX3_taken_7 : decode cX3_taken 7 = .ok (.getfield 22, 3) := by decide +kernel
theorem dX3_taken_10 : decode cX3_taken 10 = .ok (.iload_n 1, 1) := by decide +kernel
theorem dX3_taken_11 : decode cX3_taken 11 = .ok (.iaload, 1) := by decide +kernel
theorem dX3_taken_12 : decode cX3_taken 12 = .ok (.iconst (-1), 1) := by decide +kernel
theorem dX3_taken_13 : decode cX3_taken 13 = .ok (.ixor, 1) := by decide +kernel
theorem dX3_taken_14 : decode cX3_taken 14 = .ok (.iand, 1) := by decide +kernel
theorem dX3_taken_15 : decode cX3_taken 15 = .ok (.ireturn, 1) := by decide +kernel
theorem dX3_added_0 : decode cX3_added 0 = .ok (.aload_n 0, 1) := by decide +kernel
theorem dX3_added_1 : decode cX3_added 1 = .ok (.getfield 22, 3) := by decide +kernel
theorem dX3_added_4 : decode cX3_added 4 = .ok (.iload_n 1, 1) := by decide +kernel
theorem dX3_added_5 : decode cX3_added 5 = .ok (.iaload, 1) := by decide +kernel
theorem dX3_added_6 : decode cX3_added 6 = .ok (.aload_n 0, 1) := by decide +kernel
theorem dX3_added_7 : decode cX3_added 7 = .ok (.getfield 25, 3) := by decide +kernel
theorem dX3_added_10 : decode cX3_added 10 = .ok (.iload_n 1, 1) := by decide +kernel
theorem dX3_added_11 : decode cX3_added 11 = .ok (.iaload, 1) := by decide +kernel
theorem dX3_added_12 : decode cX3_added 12 = .ok (.iconst (-1), 1) := by decide +kernel
theorem dX3_added_13 : decode cX3_added 13 = .ok (.ixor, 1) := by decide +kernel
theorem dX3_added_14 : decode cX3_added 14 = .ok (.iand, 1) := by decide +kernel
theorem dX3_added_15 : decode cX3_added 15 = .ok (.ireturn, 1) := by decide +kernel
set_option maxRecDepth 20000 in
theorem ggX3_lost_X3_taken : GoodIn wsX3_lost wsX3_taken := goodIn_r _ [7, 8, 9, 13, 14, 15, 16, 17, 18, 19, 20, 21, 22, 23, 24] (by decide +kernel) (by decide +kernel)
set_option maxRecDepth 20000 in
theorem gX3_lost_X3_taken : GoodIn wsX3_lost (wsV RX3 94 RX3 yX3_taken wsX3_taken) := goodIn_app (goodIn_of _ (by decide +kernel)) ggX3_lost_X3_taken
set_option maxRecDepth 20000 in
theorem ggX3_lost_X3_in : GoodIn wsX3_lost wsX3_in := goodIn_r _ [12] (by decide +kernel) (by decide +kernel)
set_option maxRecDepth 20000 in
theorem gX3_lost_X3_in : GoodIn wsX3_lost (va_wsS RX3 48 yX3_in wsX3_in) := goodIn_app (goodIn_of _ (by decide +kernel)) ggX3_lost_X3_in
theorem dX3_lost_0 : decode cX3_lost 0 = .ok (.iload_n 2, 1) := by decide +kernel
theorem dX3_lost_1 : decode cX3_lost 1 = .ok (.iconst 2, 1) := by decide +kernel
theorem dX3_lost_2 : decode cX3_lost 2 = .ok (.if_icmp .lt 21, 3) := by decide +kernel
theorem dX3_lost_5 : decode cX3_lost 5 = .ok (.aload_n 0, 1) := by decide +kernel
theorem dX3_lost_6 : decode cX3_lost 6 = .ok (.getfield 37, 3) := by decide +kernel
theorem dX3_lost_9 : decode cX3_lost 9 = .ok (.bipush 7, 2) := by decide +kernel
theorem dX3_lost_11 : decode cX3_lost 11 = .ok (.iload_n 2, 1) := by decide +kernel
theorem dX3_lost_12 : decode cX3_lost 12 = .ok (.imul, 1) := by decide +kernel
theorem dX3_lost_13 : decode cX3_lost 13 = .ok (.iload_n 1, 1) := by decide +kernel
theorem dX3_lost_14 : decode cX3_lost 14 = .ok (.iadd, 1) := by decide +kernel
theorem dX3_lost_15 : decode cX3_lost 15 = .ok (.baload, 1) := by decide +kernel
theorem dX3_lost_16 : decode cX3_lost 16 = .ok (.ifCond .eq 7, 3) := by decide +kernel
theorem dX3_lost_19 : decode cX3_lost 19 = .ok (.iconst 1, 1) := by decide +kernel
theorem dX3_lost_20 : decode cX3_lost 20 = .ok (.goto 4, 3) := by decide +kernel
theorem dX3_lost_23 : decode cX3_lost 23 = .ok (.iconst 0, 1) := by decide +kernel
theorem dX3_lost_24 : decode cX3_lost 24 = .ok (.istore 5, 2) := by decide +kernel
theorem dX3_lost_26 : decode cX3_lost 26 = .ok (.iload 5, 2) := by decide +kernel
theorem dX3_lost_28 : decode cX3_lost 28 = .ok (.ifCond .eq 12, 3) := by decide +kernel
theorem dX3_lost_31 : decode cX3_lost 31 = .ok (.aload_n 0, 1) := by decide +kernel
theorem dX3_lost_32 : decode cX3_lost 32 = .ok (.getfield 28, 3) := by decide +kernel
theorem dX3_lost_35 : decode cX3_lost 35 = .ok (.iload_n 2, 1) := by decide +kernel
theorem dX3_lost_36 : decode cX3_lost 36 = .ok (.iaload, 1) := by decide +kernel
theorem dX3_lost_37 : decode cX3_lost 37 = .ok (.goto 8, 3) := by decide +kernel
theorem dX3_lost_40 : decode cX3_lost 40 = .ok (.aload_n 0, 1) := by decide +kernel
theorem dX3_lost_41 : decode cX3_lost 41 = .ok (.iload_n 2, 1) := by decide +kernel
theorem dX3_lost_42 : decode cX3_lost 42 = .ok (.invokevirtual 94, 3) := by decide +kernel
theorem dX3_lost_45 : decode cX3_lost 45 = .ok (.iload_n 3, 1) := by decide +kernel
theorem dX3_lost_46 : decode cX3_lost 46 = .ok (.iload 4, 2) := by decide +kernel
theorem dX3_lost_48 : decode cX3_lost 48 = .ok (.invokestatic 48, 3) := by decide +kernel
theorem dX3_lost_51 : decode cX3_lost 51 = .ok (.ireturn, 1) := by decide +kernel
set_option maxRecDepth 20000 in
theorem ggX3_doubtful_X3_in : GoodIn wsX3_doubtful wsX3_in := goodIn_r _ [9] (by decide +kernel) (by decide +kernel)
set_option maxRecDepth 20000 in
theorem gX3_doubtful_X3_in : GoodIn wsX3_doubtful (va_wsS RX3 48 yX3_in wsX3_in) := goodIn_app (goodIn_of _ (by decide +kernel)) ggX3_doubtful_X3_in
set_option maxRecDepth 20000 in
theorem ggX3_doubtful_X3_lost : GoodIn wsX3_doubtful wsX3_lost := goodIn_r _ [13, 14, 15, 16, 17, 18, 8, 19, 5, 20, 6, 7, 9, 25, 26, 27, 28, 29, 30, 31, 32, 33, 34, 35, 36] (by decide +kernel) (by decide +kernel)
set_option maxRecDepth 20000 in
theorem gX3_doubtful_X3_lost : GoodIn wsX3_doubtful (wsV RX3 98 RX3 yX3_lost wsX3_lost) := goodIn_app (goodIn_of _ (by decide +kernel)) ggX3_doubtful_X3_lost
set_option maxRecDepth 20000 in
theorem ggX3_doubtful_X3_added : GoodIn wsX3_doubtful wsX3_added := goodIn_r _ [24, 20, 5, 25, 26, 27, 28, 29, 30, 31, 32, 33, 34, 35, 36] (by decide +kernel) (by decide +kernel)
set_option maxRecDepth 20000 in
theorem gX3_doubtful_X3_added : GoodIn wsX3_doubtful (wsV RX3 102 RX3 yX3_added wsX3_added) := goodIn_app (goodIn_of _ (by decide +kernel)) ggX3_doubtful_X3_added
theorem dX3_doubtful_0 : decode cX3_doubtful 0 = .ok (.aload_n 0, 1) := by decide +kernel
theorem dX3_doubtful_1 : decode cX3_doubtful 1 = .ok (.getfield 7, 3) := by decide +kernel
theorem dX3_doubtful_4 : decode cX3_doubtful 4 = .ok (.iload_n 1, 1) := by decide +kernel
theorem dX3_doubtful_5 : decode cX3_doubtful 5 = .ok (.iaload, 1) := by decide +kernel
theorem dX3_doubtful_6 : decode cX3_doubtful 6 = .ok (.istore 4, 2) := by decide +kernel
theorem dX3_doubtful_8 : decode cX3_doubtful 8 = .ok (.aload_n 0, 1) := by decide +kernel
theorem dX3_doubtful_9 : decode cX3_doubtful 9 = .ok (.getfield 16, 3) := by decide +kernel
theorem dX3_doubtful_12 : decode cX3_doubtful 12 = .ok (.iload_n 1, 1) := by decide +kernel
theorem dX3_doubtful_13 : decode cX3_doubtful 13 = .ok (.iaload, 1) := by decide +kernel
theorem dX3_doubtful_14 : decode cX3_doubtful 14 = .ok (.istore 5, 2) := by decide +kernel
theorem dX3_doubtful_16 : decode cX3_doubtful 16 = .ok (.aload_n 0, 1) := by decide +kernel
theorem dX3_doubtful_17 : decode cX3_doubtful 17 = .ok (.getfield 19, 3) := by decide +kernel
theorem dX3_doubtful_20 : decode cX3_doubtful 20 = .ok (.iload_n 1, 1) := by decide +kernel
theorem dX3_doubtful_21 : decode cX3_doubtful 21 = .ok (.iaload, 1) := by decide +kernel
theorem dX3_doubtful_22 : decode cX3_doubtful 22 = .ok (.istore 6, 2) := by decide +kernel
theorem dX3_doubtful_24 : decode cX3_doubtful 24 = .ok (.aload_n 0, 1) := by decide +kernel
theorem dX3_doubtful_25 : decode cX3_doubtful 25 = .ok (.getfield 13, 3) := by decide +kernel
theorem dX3_doubtful_28 : decode cX3_doubtful 28 = .ok (.iload_n 1, 1) := by decide +kernel
theorem dX3_doubtful_29 : decode cX3_doubtful 29 = .ok (.iaload, 1) := by decide +kernel
theorem dX3_doubtful_30 : decode cX3_doubtful 30 = .ok (.ifCond .ne 37, 3) := by decide +kernel
theorem dX3_doubtful_33 : decode cX3_doubtful 33 = .ok (.aload_n 0, 1) := by decide +kernel
theorem dX3_doubtful_34 : decode cX3_doubtful 34 = .ok (.getfield 25, 3) := by decide +kernel
theorem dX3_doubtful_37 : decode cX3_doubtful 37 = .ok (.iload 5, 2) := by decide +kernel
theorem dX3_doubtful_39 : decode cX3_doubtful 39 = .ok (.iaload, 1) := by decide +kernel
theorem dX3_doubtful_40 : decode cX3_doubtful 40 = .ok (.iload_n 2, 1) := by decide +kernel
theorem dX3_doubtful_41 : decode cX3_doubtful 41 = .ok (.iload_n 3, 1) := by decide +kernel
theorem dX3_doubtful_42 : decode cX3_doubtful 42 = .ok (.invokestatic 48, 3) := by decide +kernel
theorem dX3_doubtful_45 : decode cX3_doubtful 45 = .ok (.ifCond .eq 20, 3) := by decide +kernel
theorem dX3_doubtful_48 : decode cX3_doubtful 48 = .ok (.aload_n 0, 1) := by decide +kernel
theorem dX3_doubtful_49 : decode cX3_doubtful 49 = .ok (.iload 4, 2) := by decide +kernel
theorem dX3_doubtful_51 : decode cX3_doubtful 51 = .ok (.iload 5, 2) := by decide +kernel
theorem dX3_doubtful_53 : decode cX3_doubtful 53 = .ok (.iload_n 2, 1) := by decide +kernel
theorem dX3_doubtful_54 : decode cX3_doubtful 54 = .ok (.iload_n 3, 1) := by decide +kernel
theorem dX3_doubtful_55 : decode cX3_doubtful 55 = .ok (.invokevirtual 98, 3) := by decide +kernel
theorem dX3_doubtful_58 : decode cX3_doubtful 58 = .ok (.ifCond .eq 7, 3) := by decide +kernel
theorem dX3_doubtful_61 : decode cX3_doubtful 61 = .ok (.iconst 1, 1) := by decide +kernel
theorem dX3_doubtful_62 : decode cX3_doubtful 62 = .ok (.goto 4, 3) := by decide +kernel
theorem dX3_doubtful_65 : decode cX3_doubtful 65 = .ok (.iconst 0, 1) := by decide +kernel
theorem dX3_doubtful_66 : decode cX3_doubtful 66 = .ok (.ireturn, 1) := by decide +kernel
theorem dX3_doubtful_67 : decode cX3_doubtful 67 = .ok (.aload_n 0, 1) := by decide +kernel
theorem dX3_doubtful_68 : decode cX3_doubtful 68 = .ok (.getfield 13, 3) := by decide +kernel
theorem dX3_doubtful_71 : decode cX3_doubtful 71 = .ok (.iload_n 1, 1) := by decide +kernel
theorem dX3_doubtful_72 : decode cX3_doubtful 72 = .ok (.iaload, 1) := by decide +kernel
theorem dX3_doubtful_73 : decode cX3_doubtful 73 = .ok (.iconst 1, 1) := by decide +kernel
theorem dX3_doubtful_74 : decode cX3_doubtful 74 = .ok (.if_icmp .ne 37, 3) := by decide +kernel
theorem dX3_doubtful_77 : decode cX3_doubtful 77 = .ok (.aload_n 0, 1) := by decide +kernel
theorem dX3_doubtful_78 : decode cX3_doubtful 78 = .ok (.getfield 25, 3) := by decide +kernel
theorem dX3_doubtful_81 : decode cX3_doubtful 81 = .ok (.iload 5, 2) := by decide +kernel
theorem dX3_doubtful_83 : decode cX3_doubtful 83 = .ok (.iaload, 1) := by decide +kernel
theorem dX3_doubtful_84 : decode cX3_doubtful 84 = .ok (.iload_n 3, 1) := by decide +kernel
theorem dX3_doubtful_85 : decode cX3_doubtful 85 = .ok (.iload_n 2, 1) := by decide +kernel
theorem dX3_doubtful_86 : decode cX3_doubtful 86 = .ok (.invokestatic 48, 3) := by decide +kernel
theorem dX3_doubtful_89 : decode cX3_doubtful 89 = .ok (.ifCond .eq 20, 3) := by decide +kernel
theorem dX3_doubtful_92 : decode cX3_doubtful 92 = .ok (.aload_n 0, 1) := by decide +kernel
theorem dX3_doubtful_93 : decode cX3_doubtful 93 = .ok (.iload 4, 2) := by decide +kernel
theorem dX3_doubtful_95 : decode cX3_doubtful 95 = .ok (.iload 5, 2) := by decide +kernel
theorem dX3_doubtful_97 : decode cX3_doubtful 97 = .ok (.iload_n 3, 1) := by decide +kernel
theorem dX3_doubtful_98 : decode cX3_doubtful 98 = .ok (.iload_n 2, 1) := by decide +kernel
theorem dX3_doubtful_99 : decode cX3_doubtful 99 = .ok (.invokevirtual 98, 3) := by decide +kernel
theorem dX3_doubtful_102 : decode cX3_doubtful 102 = .ok (.ifCond .eq 7, 3) := by decide +kernel
theorem dX3_doubtful_105 : decode cX3_doubtful 105 = .ok (.iconst 1, 1) := by decide +kernel
theorem dX3_doubtful_106 : decode cX3_doubtful 106 = .ok (.goto 4, 3) := by decide +kernel
theorem dX3_doubtful_109 : decode cX3_doubtful 109 = .ok (.iconst 0, 1) := by decide +kernel
theorem dX3_doubtful_110 : decode cX3_doubtful 110 = .ok (.ireturn, 1) := by decide +kernel
theorem dX3_doubtful_111 : decode cX3_doubtful 111 = .ok (.aload_n 0, 1) := by decide +kernel
theorem dX3_doubtful_112 : decode cX3_doubtful 112 = .ok (.getfield 13, 3) := by decide +kernel
theorem dX3_doubtful_115 : decode cX3_doubtful 115 = .ok (.iload_n 1, 1) := by decide +kernel
theorem dX3_doubtful_116 : decode cX3_doubtful 116 = .ok (.iaload, 1) := by decide +kernel
theorem dX3_doubtful_117 : decode cX3_doubtful 117 = .ok (.iconst 2, 1) := by decide +kernel
theorem dX3_doubtful_118 : decode cX3_doubtful 118 = .ok (.if_icmp .ne 108, 3) := by decide +kernel
theorem dX3_doubtful_121 : decode cX3_doubtful 121 = .ok (.iconst 0, 1) := by decide +kernel
theorem dX3_doubtful_122 : decode cX3_doubtful 122 = .ok (.istore 7, 2) := by decide +kernel
theorem dX3_doubtful_124 : decode cX3_doubtful 124 = .ok (.iconst 0, 1) := by decide +kernel
theorem dX3_doubtful_125 : decode cX3_doubtful 125 = .ok (.istore 8, 2) := by decide +kernel
theorem dX3_doubtful_127 : decode cX3_doubtful 127 = .ok (.iload 8, 2) := by decide +kernel
theorem dX3_doubtful_129 : decode cX3_doubtful 129 = .ok (.iconst 5, 1) := by decide +kernel
theorem dX3_doubtful_130 : decode cX3_doubtful 130 = .ok (.if_icmp .ge 93, 3) := by decide +kernel
theorem dX3_doubtful_133 : decode cX3_doubtful 133 = .ok (.aload_n 0, 1) := by decide +kernel
theorem dX3_doubtful_134 : decode cX3_doubtful 134 = .ok (.getfield 25, 3) := by decide +kernel
theorem dX3_doubtful_137 : decode cX3_doubtful 137 = .ok (.iload 5, 2) := by decide +kernel
theorem dX3_doubtful_139 : decode cX3_doubtful 139 = .ok (.iaload, 1) := by decide +kernel
theorem dX3_doubtful_140 : decode cX3_doubtful 140 = .ok (.iload_n 2, 1) := by decide +kernel
theorem dX3_doubtful_141 : decode cX3_doubtful 141 = .ok (.iload 8, 2) := by decide +kernel
theorem dX3_doubtful_143 : decode cX3_doubtful 143 = .ok (.invokestatic 48, 3) := by decide +kernel
theorem dX3_doubtful_146 : decode cX3_doubtful 146 = .ok (.ifCond .eq 23, 3) := by decide +kernel
theorem dX3_doubtful_149 : decode cX3_doubtful 149 = .ok (.aload_n 0, 1) := by decide +kernel
theorem dX3_doubtful_150 : decode cX3_doubtful 150 = .ok (.getfield 25, 3) := by decide +kernel
theorem dX3_doubtful_153 : decode cX3_doubtful 153 = .ok (.iload 6, 2) := by decide +kernel
theorem dX3_doubtful_155 : decode cX3_doubtful 155 = .ok (.iaload, 1) := by decide +kernel
theorem dX3_doubtful_156 : decode cX3_doubtful 156 = .ok (.iload 8, 2) := by decide +kernel
theorem dX3_doubtful_158 : decode cX3_doubtful 158 = .ok (.iload_n 3, 1) := by decide +kernel
theorem dX3_doubtful_159 : decode cX3_doubtful 159 = .ok (.invokestatic 48, 3) := by decide +kernel
theorem dX3_doubtful_162 : decode cX3_doubtful 162 = .ok (.ifCond .eq 7, 3) := by decide +kernel
theorem dX3_doubtful_165 : decode cX3_doubtful 165 = .ok (.iconst 1, 1) := by decide +kernel
theorem dX3_doubtful_166 : decode cX3_doubtful 166 = .ok (.goto 4, 3) := by decide +kernel
theorem dX3_doubtful_169 : decode cX3_doubtful 169 = .ok (.iconst 0, 1) := by decide +kernel
theorem dX3_doubtful_170 : decode cX3_doubtful 170 = .ok (.istore 9, 2) := by decide +kernel
theorem dX3_doubtful_172 : decode cX3_doubtful 172 = .ok (.iload 7, 2) := by decide +kernel
theorem dX3_doubtful_174 : decode cX3_doubtful 174 = .ok (.ifCond .ne 36, 3) := by decide +kernel
theorem dX3_doubtful_177 : decode cX3_doubtful 177 = .ok (.iload 9, 2) := by decide +kernel
theorem dX3_doubtful_179 : decode cX3_doubtful 179 = .ok (.ifCond .eq 35, 3) := by decide +kernel
theorem dX3_doubtful_182 : decode cX3_doubtful 182 = .ok (.aload_n 0, 1) := by decide +kernel
theorem dX3_doubtful_183 : decode cX3_doubtful 183 = .ok (.iload 4, 2) := by decide +kernel
theorem dX3_doubtful_185 : decode cX3_doubtful 185 = .ok (.iload 5, 2) := by decide +kernel
theorem dX3_doubtful_187 : decode cX3_doubtful 187 = .ok (.iload_n 2, 1) := by decide +kernel
theorem dX3_doubtful_188 : decode cX3_doubtful 188 = .ok (.iload 8, 2) := by decide +kernel
theorem dX3_doubtful_190 : decode cX3_doubtful 190 = .ok (.invokevirtual 98, 3) := by decide +kernel
theorem dX3_doubtful_193 : decode cX3_doubtful 193 = .ok (.ifCond .ne 17, 3) := by decide +kernel
theorem dX3_doubtful_196 : decode cX3_doubtful 196 = .ok (.aload_n 0, 1) := by decide +kernel
theorem dX3_doubtful_197 : decode cX3_doubtful 197 = .ok (.iload 4, 2) := by decide +kernel
theorem dX3_doubtful_199 : decode cX3_doubtful 199 = .ok (.iload 6, 2) := by decide +kernel
theorem dX3_doubtful_201 : decode cX3_doubtful 201 = .ok (.iload 8, 2) := by decide +kernel
theorem dX3_doubtful_203 : decode cX3_doubtful 203 = .ok (.iload_n 3, 1) := by decide +kernel
theorem dX3_doubtful_204 : decode cX3_doubtful 204 = .ok (.invokevirtual 98, 3) := by decide +kernel
theorem dX3_doubtful_207 : decode cX3_doubtful 207 = .ok (.ifCond .eq 7, 3) := by decide +kernel
theorem dX3_doubtful_210 : decode cX3_doubtful 210 = .ok (.iconst 1, 1) := by decide +kernel
theorem dX3_doubtful_211 : decode cX3_doubtful 211 = .ok (.goto 4, 3) := by decide +kernel
theorem dX3_doubtful_214 : decode cX3_doubtful 214 = .ok (.iconst 0, 1) := by decide +kernel
theorem dX3_doubtful_215 : decode cX3_doubtful 215 = .ok (.istore 7, 2) := by decide +kernel
theorem dX3_doubtful_217 : decode cX3_doubtful 217 = .ok (.iinc 8 1, 3) := by decide +kernel
theorem dX3_doubtful_220 : decode cX3_doubtful 220 = .ok (.goto (-93), 3) := by decide +kernel
theorem dX3_doubtful_223 : decode cX3_doubtful 223 = .ok (.iload 7, 2) := by decide +kernel
theorem dX3_doubtful_225 : decode cX3_doubtful 225 = .ok (.ireturn, 1) := by decide +kernel
theorem dX3_doubtful_226 : decode cX3_doubtful 226 = .ok (.aload_n 0, 1) := by decide +kernel
theorem dX3_doubtful_227 : decode cX3_doubtful 227 = .ok (.getfield 13, 3) := by decide +kernel
theorem dX3_doubtful_230 : decode cX3_doubtful 230 = .ok (.iload_n 1, 1) := by decide +kernel
theorem dX3_doubtful_231 : decode cX3_doubtful 231 = .ok (.iaload, 1) := by decide +kernel
theorem dX3_doubtful_232 : decode cX3_doubtful 232 = .ok (.iconst 3, 1) := by decide +kernel
theorem dX3_doubtful_233 : decode cX3_doubtful 233 = .ok (.if_icmp .ne 65, 3) := by decide +kernel
theorem dX3_doubtful_236 : decode cX3_doubtful 236 = .ok (.aload_n 0, 1) := by decide +kernel
theorem dX3_doubtful_237 : decode cX3_doubtful 237 = .ok (.getfield 25, 3) := by decide +kernel
theorem dX3_doubtful_240 : decode cX3_doubtful 240 = .ok (.iload 5, 2) := by decide +kernel
theorem dX3_doubtful_242 : decode cX3_doubtful 242 = .ok (.iaload, 1) := by decide +kernel
theorem dX3_doubtful_243 : decode cX3_doubtful 243 = .ok (.iload_n 2, 1) := by decide +kernel
theorem dX3_doubtful_244 : decode cX3_doubtful 244 = .ok (.iload_n 3, 1) := by decide +kernel
theorem dX3_doubtful_245 : decode cX3_doubtful 245 = .ok (.invokestatic 48, 3) := by decide +kernel
theorem dX3_doubtful_248 : decode cX3_doubtful 248 = .ok (.ifCond .eq 48, 3) := by decide +kernel
theorem dX3_doubtful_251 : decode cX3_doubtful 251 = .ok (.aload_n 0, 1) := by decide +kernel
theorem dX3_doubtful_252 : decode cX3_doubtful 252 = .ok (.getfield 25, 3) := by decide +kernel
theorem dX3_doubtful_255 : decode cX3_doubtful 255 = .ok (.iload 6, 2) := by decide +kernel
theorem dX3_doubtful_257 : decode cX3_doubtful 257 = .ok (.iaload, 1) := by decide +kernel
theorem dX3_doubtful_258 : decode cX3_doubtful 258 = .ok (.iload_n 2, 1) := by decide +kernel
theorem dX3_doubtful_259 : decode cX3_doubtful 259 = .ok (.iload_n 3, 1) := by decide +kernel
theorem dX3_doubtful_260 : decode cX3_doubtful 260 = .ok (.invokestatic 48, 3) := by decide +kernel
theorem dX3_doubtful_263 : decode cX3_doubtful 263 = .ok (.ifCond .eq 33, 3) := by decide +kernel
theorem dX3_doubtful_266 : decode cX3_doubtful 266 = .ok (.aload_n 0, 1) := by decide +kernel
theorem dX3_doubtful_267 : decode cX3_doubtful 267 = .ok (.iload 4, 2) := by decide +kernel
theorem dX3_doubtful_269 : decode cX3_doubtful 269 = .ok (.iload 5, 2) := by decide +kernel
theorem dX3_doubtful_271 : decode cX3_doubtful 271 = .ok (.iload_n 2, 1) := by decide +kernel
theorem dX3_doubtful_272 : decode cX3_doubtful 272 = .ok (.iload_n 3, 1) := by decide +kernel
theorem dX3_doubtful_273 : decode cX3_doubtful 273 = .ok (.invokevirtual 98, 3) := by decide +kernel
theorem dX3_doubtful_276 : decode cX3_doubtful 276 = .ok (.ifCond .ne 16, 3) := by decide +kernel
theorem dX3_doubtful_279 : decode cX3_doubtful 279 = .ok (.aload_n 0, 1) := by decide +kernel
theorem dX3_doubtful_280 : decode cX3_doubtful 280 = .ok (.iload 4, 2) := by decide +kernel
theorem dX3_doubtful_282 : decode cX3_doubtful 282 = .ok (.iload 6, 2) := by decide +kernel
theorem dX3_doubtful_284 : decode cX3_doubtful 284 = .ok (.iload_n 2, 1) := by decide +kernel
theorem dX3_doubtful_285 : decode cX3_doubtful 285 = .ok (.iload_n 3, 1) := by decide +kernel
theorem dX3_doubtful_286 : decode cX3_doubtful 286 = .ok (.invokevirtual 98, 3) := by decide +kernel
theorem dX3_doubtful_289 : decode cX3_doubtful 289 = .ok (.ifCond .eq 7, 3) := by decide +kernel
theorem dX3_doubtful_292 : decode cX3_doubtful 292 = .ok (.iconst 1, 1) := by decide +kernel
theorem dX3_doubtful_293 : decode cX3_doubtful 293 = .ok (.goto 4, 3) := by decide +kernel
theorem dX3_doubtful_296 : decode cX3_doubtful 296 = .ok (.iconst 0, 1) := by decide +kernel
theorem dX3_doubtful_297 : decode cX3_doubtful 297 = .ok (.ireturn, 1) := by decide +kernel
theorem dX3_doubtful_298 : decode cX3_doubtful 298 = .ok (.aload_n 0, 1) := by decide +kernel
theorem dX3_doubtful_299 : decode cX3_doubtful 299 = .ok (.getfield 25, 3) := by decide +kernel
theorem dX3_doubtful_302 : decode cX3_doubtful 302 = .ok (.iload 5, 2) := by decide +kernel
theorem dX3_doubtful_304 : decode cX3_doubtful 304 = .ok (.iaload, 1) := by decide +kernel
theorem dX3_doubtful_305 : decode cX3_doubtful 305 = .ok (.iload_n 2, 1) := by decide +kernel
theorem dX3_doubtful_306 : decode cX3_doubtful 306 = .ok (.iload_n 3, 1) := by decide +kernel
theorem dX3_doubtful_307 : decode cX3_doubtful 307 = .ok (.invokestatic 48, 3) := by decide +kernel
theorem dX3_doubtful_310 : decode cX3_doubtful 310 = .ok (.ifCond .eq 49, 3) := by decide +kernel
theorem dX3_doubtful_313 : decode cX3_doubtful 313 = .ok (.aload_n 0, 1) := by decide +kernel
theorem dX3_doubtful_314 : decode cX3_doubtful 314 = .ok (.getfield 25, 3) := by decide +kernel
theorem dX3_doubtful_317 : decode cX3_doubtful 317 = .ok (.iload 6, 2) := by decide +kernel
theorem dX3_doubtful_319 : decode cX3_doubtful 319 = .ok (.iaload, 1) := by decide +kernel
theorem dX3_doubtful_320 : decode cX3_doubtful 320 = .ok (.iload_n 2, 1) := by decide +kernel
theorem dX3_doubtful_321 : decode cX3_doubtful 321 = .ok (.iload_n 3, 1) := by decide +kernel
theorem dX3_doubtful_322 : decode cX3_doubtful 322 = .ok (.invokestatic 48, 3) := by decide +kernel
theorem dX3_doubtful_325 : decode cX3_doubtful 325 = .ok (.ifCond .ne 34, 3) := by decide +kernel
theorem dX3_doubtful_328 : decode cX3_doubtful 328 = .ok (.aload_n 0, 1) := by decide +kernel
theorem dX3_doubtful_329 : decode cX3_doubtful 329 = .ok (.iload 4, 2) := by decide +kernel
theorem dX3_doubtful_331 : decode cX3_doubtful 331 = .ok (.iload 5, 2) := by decide +kernel
theorem dX3_doubtful_333 : decode cX3_doubtful 333 = .ok (.iload_n 2, 1) := by decide +kernel
theorem dX3_doubtful_334 : decode cX3_doubtful 334 = .ok (.iload_n 3, 1) := by decide +kernel
theorem dX3_doubtful_335 : decode cX3_doubtful 335 = .ok (.invokevirtual 98, 3) := by decide +kernel
theorem dX3_doubtful_338 : decode cX3_doubtful 338 = .ok (.ifCond .ne 17, 3) := by decide +kernel
theorem dX3_doubtful_341 : decode cX3_doubtful 341 = .ok (.aload_n 0, 1) := by decide +kernel
theorem dX3_doubtful_342 : decode cX3_doubtful 342 = .ok (.iload 6, 2) := by decide +kernel
theorem dX3_doubtful_344 : decode cX3_doubtful 344 = .ok (.invokevirtual 102, 3) := by decide +kernel
theorem dX3_doubtful_347 : decode cX3_doubtful 347 = .ok (.iload_n 2, 1) := by decide +kernel
theorem dX3_doubtful_348 : decode cX3_doubtful 348 = .ok (.iload_n 3, 1) := by decide +kernel
theorem dX3_doubtful_349 : decode cX3_doubtful 349 = .ok (.invokestatic 48, 3) := by decide +kernel
theorem dX3_doubtful_352 : decode cX3_doubtful 352 = .ok (.ifCond .eq 7, 3) := by decide +kernel
theorem dX3_doubtful_355 : decode cX3_doubtful 355 = .ok (.iconst 1, 1) := by decide +kernel
theorem dX3_doubtful_356 : decode cX3_doubtful 356 = .ok (.goto 4, 3) := by decide +kernel
theorem dX3_doubtful_359 : decode cX3_doubtful 359 = .ok (.iconst 0, 1) := by decide +kernel
theorem dX3_doubtful_360 : decode cX3_doubtful 360 = .ok (.ireturn, 1) := by decide +kernel
set_option maxRecDepth 20000 in
theorem ggX3_suspectMore_X3_in : GoodIn wsX3_suspectMore wsX3_in := goodIn_r _ [8] (by decide +kernel) (by decide +kernel)
set_option maxRecDepth 20000 in
theorem gX3_suspectMore_X3_in : GoodIn wsX3_suspectMore (va_wsS RX3 48 yX3_in wsX3_in) := goodIn_app (goodIn_of _ (by decide +kernel)) ggX3_suspectMore_X3_in
set_option maxRecDepth 20000 in
theorem ggX3_suspectMore_X3_doubtful : GoodIn wsX3_suspectMore wsX3_doubtful := goodIn_r _ [12, 2, 13, 14, 15, 16, 5, 6, 7, 8, 17, 18, 19, 20, 3, 4, 21, 22, 23, 24, 25, 26, 27, 28, 29, 33, 34, 35, 36, 37, 38, 39, 40, 41, 42, 43, 44] (by decide +kernel) (by decide +kernel)
set_option maxRecDepth 20000 in
theorem gX3_suspectMore_X3_doubtful : GoodIn wsX3_suspectMore (wsV RX3 105 RX3 yX3_doubtful wsX3_doubtful) := goodIn_app (goodIn_of _ (by decide +kernel)) ggX3_suspectMore_X3_doubtful
set_option maxRecDepth 20000 in
theorem ggX3_suspectMore_X3_bit : GoodIn wsX3_suspectMore wsX3_bit := goodIn_r _ [32] (by decide +kernel) (by decide +kernel)
set_option maxRecDepth 20000 in
theorem gX3_suspectMore_X3_bit : GoodIn wsX3_suspectMore (va_wsS RX3 59 yX3_bit wsX3_bit) := goodIn_app (goodIn_of _ (by decide +kernel)) ggX3_suspectMore_X3_bit
theorem dX3_suspectMore_0 : decode cX3_suspectMore 0 = .ok (.iconst 0, 1) := by decide +kernel
theorem dX3_suspectMore_1 : decode cX3_suspectMore 1 = .ok (.istore_n 1, 1) := by decide +kernel
theorem dX3_suspectMore_2 : decode cX3_suspectMore 2 = .ok (.iconst 0, 1) := by decide +kernel
theorem dX3_suspectMore_3 : decode cX3_suspectMore 3 = .ok (.istore_n 2, 1) := by decide +kernel
theorem dX3_suspectMore_4 : decode cX3_suspectMore 4 = .ok (.iload_n 2, 1) := by decide +kernel
theorem dX3_suspectMore_5 : decode cX3_suspectMore 5 = .ok (.aload_n 0, 1) := by decide +kernel
theorem dX3_suspectMore_6 : decode cX3_suspectMore 6 = .ok (.getfield 44, 3) := by decide +kernel
theorem dX3_suspectMore_9 : decode cX3_suspectMore 9 = .ok (.if_icmp .ge 108, 3) := by decide +kernel
theorem dX3_suspectMore_12 : decode cX3_suspectMore 12 = .ok (.aload_n 0, 1) := by decide +kernel
theorem dX3_suspectMore_13 : decode cX3_suspectMore 13 = .ok (.getfield 7, 3) := by decide +kernel
theorem dX3_suspectMore_16 : decode cX3_suspectMore 16 = .ok (.iload_n 2, 1) := by decide +kernel
theorem dX3_suspectMore_17 : decode cX3_suspectMore 17 = .ok (.iaload, 1) := by decide +kernel
theorem dX3_suspectMore_18 : decode cX3_suspectMore 18 = .ok (.istore_n 3, 1) := by decide +kernel
theorem dX3_suspectMore_19 : decode cX3_suspectMore 19 = .ok (.iconst 0, 1) := by decide +kernel
theorem dX3_suspectMore_20 : decode cX3_suspectMore 20 = .ok (.istore 4, 2) := by decide +kernel
theorem dX3_suspectMore_22 : decode cX3_suspectMore 22 = .ok (.iload 4, 2) := by decide +kernel
theorem dX3_suspectMore_24 : decode cX3_suspectMore 24 = .ok (.iconst 5, 1) := by decide +kernel
theorem dX3_suspectMore_25 : decode cX3_suspectMore 25 = .ok (.if_icmp .ge 86, 3) := by decide +kernel
theorem dX3_suspectMore_28 : decode cX3_suspectMore 28 = .ok (.aload_n 0, 1) := by decide +kernel
theorem dX3_suspectMore_29 : decode cX3_suspectMore 29 = .ok (.getfield 37, 3) := by decide +kernel
theorem dX3_suspectMore_32 : decode cX3_suspectMore 32 = .ok (.bipush 8, 2) := by decide +kernel
theorem dX3_suspectMore_34 : decode cX3_suspectMore 34 = .ok (.iload_n 3, 1) := by decide +kernel
theorem dX3_suspectMore_35 : decode cX3_suspectMore 35 = .ok (.imul, 1) := by decide +kernel
theorem dX3_suspectMore_36 : decode cX3_suspectMore 36 = .ok (.baload, 1) := by decide +kernel
theorem dX3_suspectMore_37 : decode cX3_suspectMore 37 = .ok (.ifCond .eq 74, 3) := by decide +kernel
theorem dX3_suspectMore_40 : decode cX3_suspectMore 40 = .ok (.iconst 0, 1) := by decide +kernel
theorem dX3_suspectMore_41 : decode cX3_suspectMore 41 = .ok (.istore 5, 2) := by decide +kernel
theorem dX3_suspectMore_43 : decode cX3_suspectMore 43 = .ok (.iload 5, 2) := by decide +kernel
theorem dX3_suspectMore_45 : decode cX3_suspectMore 45 = .ok (.iconst 5, 1) := by decide +kernel
theorem dX3_suspectMore_46 : decode cX3_suspectMore 46 = .ok (.if_icmp .ge 59, 3) := by decide +kernel
theorem dX3_suspectMore_49 : decode cX3_suspectMore 49 = .ok (.aload_n 0, 1) := by decide +kernel
theorem dX3_suspectMore_50 : decode cX3_suspectMore 50 = .ok (.getfield 28, 3) := by decide +kernel
theorem dX3_suspectMore_53 : decode cX3_suspectMore 53 = .ok (.iload_n 3, 1) := by decide +kernel
theorem dX3_suspectMore_54 : decode cX3_suspectMore 54 = .ok (.iaload, 1) := by decide +kernel
theorem dX3_suspectMore_55 : decode cX3_suspectMore 55 = .ok (.iload 4, 2) := by decide +kernel
theorem dX3_suspectMore_57 : decode cX3_suspectMore 57 = .ok (.iload 5, 2) := by decide +kernel
theorem dX3_suspectMore_59 : decode cX3_suspectMore 59 = .ok (.invokestatic 48, 3) := by decide +kernel
theorem dX3_suspectMore_62 : decode cX3_suspectMore 62 = .ok (.ifCond .ne 37, 3) := by decide +kernel
theorem dX3_suspectMore_65 : decode cX3_suspectMore 65 = .ok (.aload_n 0, 1) := by decide +kernel
theorem dX3_suspectMore_66 : decode cX3_suspectMore 66 = .ok (.iload_n 2, 1) := by decide +kernel
theorem dX3_suspectMore_67 : decode cX3_suspectMore 67 = .ok (.iload 4, 2) := by decide +kernel
theorem dX3_suspectMore_69 : decode cX3_suspectMore 69 = .ok (.iload 5, 2) := by decide +kernel
theorem dX3_suspectMore_71 : decode cX3_suspectMore 71 = .ok (.invokevirtual 105, 3) := by decide +kernel
theorem dX3_suspectMore_74 : decode cX3_suspectMore 74 = .ok (.ifCond .eq 25, 3) := by decide +kernel
theorem dX3_suspectMore_77 : decode cX3_suspectMore 77 = .ok (.aload_n 0, 1) := by decide +kernel
theorem dX3_suspectMore_78 : decode cX3_suspectMore 78 = .ok (.getfield 28, 3) := by decide +kernel
theorem dX3_suspectMore_81 : decode cX3_suspectMore 81 = .ok (.iload_n 3, 1) := by decide +kernel
theorem dX3_suspectMore_82 : decode cX3_suspectMore 82 = .ok (.aload_n 0, 1) := by decide +kernel
theorem dX3_suspectMore_83 : decode cX3_suspectMore 83 = .ok (.getfield 28, 3) := by decide +kernel
theorem dX3_suspectMore_86 : decode cX3_suspectMore 86 = .ok (.iload_n 3, 1) := by decide +kernel
theorem dX3_suspectMore_87 : decode cX3_suspectMore 87 = .ok (.iaload, 1) := by decide +kernel
theorem dX3_suspectMore_88 : decode cX3_suspectMore 88 = .ok (.iload 4, 2) := by decide +kernel
theorem dX3_suspectMore_90 : decode cX3_suspectMore 90 = .ok (.iload 5, 2) := by decide +kernel
theorem dX3_suspectMore_92 : decode cX3_suspectMore 92 = .ok (.invokestatic 59, 3) := by decide +kernel
theorem dX3_suspectMore_95 : decode cX3_suspectMore 95 = .ok (.ior, 1) := by decide +kernel
theorem dX3_suspectMore_96 : decode cX3_suspectMore 96 = .ok (.iastore, 1) := by decide +kernel
theorem dX3_suspectMore_97 : decode cX3_suspectMore 97 = .ok (.iconst 1, 1) := by decide +kernel
theorem dX3_suspectMore_98 : decode cX3_suspectMore 98 = .ok (.istore_n 1, 1) := by decide +kernel
theorem dX3_suspectMore_99 : decode cX3_suspectMore 99 = .ok (.iinc 5 1, 3) := by decide +kernel
theorem dX3_suspectMore_102 : decode cX3_suspectMore 102 = .ok (.goto (-59), 3) := by decide +kernel
theorem dX3_suspectMore_105 : decode cX3_suspectMore 105 = .ok (.iinc 4 1, 3) := by decide +kernel
theorem dX3_suspectMore_108 : decode cX3_suspectMore 108 = .ok (.goto (-86), 3) := by decide +kernel
theorem dX3_suspectMore_111 : decode cX3_suspectMore 111 = .ok (.iinc 2 1, 3) := by decide +kernel
theorem dX3_suspectMore_114 : decode cX3_suspectMore 114 = .ok (.goto (-110), 3) := by decide +kernel
theorem dX3_suspectMore_117 : decode cX3_suspectMore 117 = .ok (.iload_n 1, 1) := by decide +kernel
theorem dX3_suspectMore_118 : decode cX3_suspectMore 118 = .ok (.ireturn, 1) := by decide +kernel
set_option maxRecDepth 20000 in
theorem ggX3_commit_X3_makeAll : GoodIn wsX3_commit wsX3_makeAll := goodIn_r _ [10, 2, 11, 12, 13, 14, 9, 15, 16, 17, 18, 19, 20, 21, 22, 23, 24, 25, 26, 27, 28, 29, 30, 31, 32, 33, 34, 35, 36, 37, 38, 39, 40, 41, 42, 43, 44, 45, 46, 47, 71, 72, 73, 74, 75, 76, 77, 78, 79, 80, 81, 82] (by decide +kernel) (by decide +kernel)
set_option maxRecDepth 20000 in
theorem gX3_commit_X3_makeAll : GoodIn wsX3_commit (wsV RX3 78 RX3 yX3_makeAll wsX3_makeAll) := goodIn_app (goodIn_of _ (by decide +kernel)) ggX3_commit_X3_makeAll
set_option maxRecDepth 20000 in
theorem ggX3_commit_X3_suspectMore : GoodIn wsX3_commit wsX3_suspectMore := goodIn_r _ [51, 33, 34, 16, 3, 42, 43, 9, 44, 52, 53, 54, 55, 39, 40, 41, 1, 56, 57, 58, 59, 60, 61, 62, 63, 2, 64, 65, 66, 67, 45, 46, 47, 71, 72, 73, 74, 75, 76, 77, 78, 79, 80, 81, 82] (by decide +kernel) (by decide +kernel)
set_option maxRecDepth 20000 in
theorem gX3_commit_X3_suspectMore : GoodIn wsX3_commit (wsV RX3 108 RX3 yX3_suspectMore wsX3_suspectMore) := goodIn_app (goodIn_of _ (by decide +kernel)) ggX3_commit_X3_suspectMore
set_option maxRecDepth 20000 in
theorem ggX3_commit_X3_taken : GoodIn wsX3_commit wsX3_taken := goodIn_r _ [63, 1, 2, 71, 72, 73, 74, 75, 76, 77, 78, 79, 80, 81, 82] (by decide +kernel) (by decide +kernel)
set_option maxRecDepth 20000 in
theorem gX3_commit_X3_taken : GoodIn wsX3_commit (wsV RX3 94 RX3 yX3_taken wsX3_taken) := goodIn_app (goodIn_of _ (by decide +kernel)) ggX3_commit_X3_taken
set_option maxRecDepth 20000 in
theorem ggX3_commit_X3_ones : GoodIn wsX3_commit wsX3_ones := goodIn_r _ [70] (by decide +kernel) (by decide +kernel)
set_option maxRecDepth 20000 in
theorem gX3_commit_X3_ones : GoodIn wsX3_commit (va_wsS RX3 111 yX3_ones wsX3_ones) := goodIn_app (goodIn_of _ (by decide +kernel)) ggX3_commit_X3_ones
set_option maxRecDepth 20000 in
theorem ggX3_commit_X3_added : GoodIn wsX3_commit wsX3_added := goodIn_r _ [67, 2, 1, 71, 72, 73, 74, 75, 76, 77, 78, 79, 80, 81, 82] (by decide +kernel) (by decide +kernel)
set_option maxRecDepth 20000 in
theorem gX3_commit_X3_added : GoodIn wsX3_commit (wsV RX3 102 RX3 yX3_added wsX3_added) := goodIn_app (goodIn_of _ (by decide +kernel)) ggX3_commit_X3_added
theorem dX3_commit_0 : decode cX3_commit 0 = .ok (.iconst 0, 1) := by decide +kernel
theorem dX3_commit_1 : decode cX3_commit 1 = .ok (.istore_n 1, 1) := by decide +kernel
theorem dX3_commit_2 : decode cX3_commit 2 = .ok (.iload_n 1, 1) := by decide +kernel
theorem dX3_commit_3 : decode cX3_commit 3 = .ok (.bipush 7, 2) := by decide +kernel
theorem dX3_commit_5 : decode cX3_commit 5 = .ok (.if_icmp .ge 28, 3) := by decide +kernel
theorem dX3_commit_8 : decode cX3_commit 8 = .ok (.aload_n 0, 1) := by decide +kernel
theorem dX3_commit_9 : decode cX3_commit 9 = .ok (.getfield 25, 3) := by decide +kernel
theorem dX3_commit_12 : decode cX3_commit 12 = .ok (.iload_n 1, 1) := by decide +kernel
theorem dX3_commit_13 : decode cX3_commit 13 = .ok (.aload_n 0, 1) := by decide +kernel
theorem dX3_commit_14 : decode cX3_commit 14 = .ok (.getfield 22, 3) := by decide +kernel
theorem dX3_commit_17 : decode cX3_commit 17 = .ok (.iload_n 1, 1) := by decide +kernel
theorem dX3_commit_18 : decode cX3_commit 18 = .ok (.iaload, 1) := by decide +kernel
theorem dX3_commit_19 : decode cX3_commit 19 = .ok (.iastore, 1) := by decide +kernel
theorem dX3_commit_20 : decode cX3_commit 20 = .ok (.aload_n 0, 1) := by decide +kernel
theorem dX3_commit_21 : decode cX3_commit 21 = .ok (.getfield 28, 3) := by decide +kernel
theorem dX3_commit_24 : decode cX3_commit 24 = .ok (.iload_n 1, 1) := by decide +kernel
theorem dX3_commit_25 : decode cX3_commit 25 = .ok (.iconst 0, 1) := by decide +kernel
theorem dX3_commit_26 : decode cX3_commit 26 = .ok (.iastore, 1) := by decide +kernel
theorem dX3_commit_27 : decode cX3_commit 27 = .ok (.iinc 1 1, 3) := by decide +kernel
theorem dX3_commit_30 : decode cX3_commit 30 = .ok (.goto (-28), 3) := by decide +kernel
theorem dX3_commit_33 : decode cX3_commit 33 = .ok (.iconst 0, 1) := by decide +kernel
theorem dX3_commit_34 : decode cX3_commit 34 = .ok (.istore_n 1, 1) := by decide +kernel
theorem dX3_commit_35 : decode cX3_commit 35 = .ok (.iload_n 1, 1) := by decide +kernel
theorem dX3_commit_36 : decode cX3_commit 36 = .ok (.iconst 2, 1) := by decide +kernel
theorem dX3_commit_37 : decode cX3_commit 37 = .ok (.if_icmp .ge 58, 3) := by decide +kernel
theorem dX3_commit_40 : decode cX3_commit 40 = .ok (.aload_n 0, 1) := by decide +kernel
theorem dX3_commit_41 : decode cX3_commit 41 = .ok (.getfield 22, 3) := by decide +kernel
theorem dX3_commit_44 : decode cX3_commit 44 = .ok (.iload_n 1, 1) := by decide +kernel
theorem dX3_commit_45 : decode cX3_commit 45 = .ok (.aload_n 0, 1) := by decide +kernel
theorem dX3_commit_46 : decode cX3_commit 46 = .ok (.getfield 22, 3) := by decide +kernel
theorem dX3_commit_49 : decode cX3_commit 49 = .ok (.iload_n 1, 1) := by decide +kernel
theorem dX3_commit_50 : decode cX3_commit 50 = .ok (.iaload, 1) := by decide +kernel
theorem dX3_commit_51 : decode cX3_commit 51 = .ok (.aload_n 0, 1) := by decide +kernel
theorem dX3_commit_52 : decode cX3_commit 52 = .ok (.getfield 31, 3) := by decide +kernel
theorem dX3_commit_55 : decode cX3_commit 55 = .ok (.iload_n 1, 1) := by decide +kernel
theorem dX3_commit_56 : decode cX3_commit 56 = .ok (.iaload, 1) := by decide +kernel
theorem dX3_commit_57 : decode cX3_commit 57 = .ok (.iconst (-1), 1) := by decide +kernel
theorem dX3_commit_58 : decode cX3_commit 58 = .ok (.ixor, 1) := by decide +kernel
theorem dX3_commit_59 : decode cX3_commit 59 = .ok (.iand, 1) := by decide +kernel
theorem dX3_commit_60 : decode cX3_commit 60 = .ok (.aload_n 0, 1) := by decide +kernel
theorem dX3_commit_61 : decode cX3_commit 61 = .ok (.getfield 34, 3) := by decide +kernel
theorem dX3_commit_64 : decode cX3_commit 64 = .ok (.iload_n 1, 1) := by decide +kernel
theorem dX3_commit_65 : decode cX3_commit 65 = .ok (.iaload, 1) := by decide +kernel
theorem dX3_commit_66 : decode cX3_commit 66 = .ok (.aload_n 0, 1) := by decide +kernel
theorem dX3_commit_67 : decode cX3_commit 67 = .ok (.getfield 31, 3) := by decide +kernel
theorem dX3_commit_70 : decode cX3_commit 70 = .ok (.iload_n 1, 1) := by decide +kernel
theorem dX3_commit_71 : decode cX3_commit 71 = .ok (.iaload, 1) := by decide +kernel
theorem dX3_commit_72 : decode cX3_commit 72 = .ok (.iand, 1) := by decide +kernel
theorem dX3_commit_73 : decode cX3_commit 73 = .ok (.ior, 1) := by decide +kernel
theorem dX3_commit_74 : decode cX3_commit 74 = .ok (.iastore, 1) := by decide +kernel
theorem dX3_commit_75 : decode cX3_commit 75 = .ok (.aload_n 0, 1) := by decide +kernel
theorem dX3_commit_76 : decode cX3_commit 76 = .ok (.getfield 31, 3) := by decide +kernel
theorem dX3_commit_79 : decode cX3_commit 79 = .ok (.iload_n 1, 1) := by decide +kernel
theorem dX3_commit_80 : decode cX3_commit 80 = .ok (.iconst 0, 1) := by decide +kernel
theorem dX3_commit_81 : decode cX3_commit 81 = .ok (.iastore, 1) := by decide +kernel
theorem dX3_commit_82 : decode cX3_commit 82 = .ok (.aload_n 0, 1) := by decide +kernel
theorem dX3_commit_83 : decode cX3_commit 83 = .ok (.getfield 34, 3) := by decide +kernel
theorem dX3_commit_86 : decode cX3_commit 86 = .ok (.iload_n 1, 1) := by decide +kernel
theorem dX3_commit_87 : decode cX3_commit 87 = .ok (.iconst 0, 1) := by decide +kernel
theorem dX3_commit_88 : decode cX3_commit 88 = .ok (.iastore, 1) := by decide +kernel
theorem dX3_commit_89 : decode cX3_commit 89 = .ok (.iinc 1 1, 3) := by decide +kernel
theorem dX3_commit_92 : decode cX3_commit 92 = .ok (.goto (-57), 3) := by decide +kernel
theorem dX3_commit_95 : decode cX3_commit 95 = .ok (.aload_n 0, 1) := by decide +kernel
theorem dX3_commit_96 : decode cX3_commit 96 = .ok (.invokevirtual 78, 3) := by decide +kernel
theorem dX3_commit_99 : decode cX3_commit 99 = .ok (.iconst 1, 1) := by decide +kernel
theorem dX3_commit_100 : decode cX3_commit 100 = .ok (.istore_n 1, 1) := by decide +kernel
theorem dX3_commit_101 : decode cX3_commit 101 = .ok (.iload_n 1, 1) := by decide +kernel
theorem dX3_commit_102 : decode cX3_commit 102 = .ok (.ifCond .eq 11, 3) := by decide +kernel
theorem dX3_commit_105 : decode cX3_commit 105 = .ok (.aload_n 0, 1) := by decide +kernel
theorem dX3_commit_106 : decode cX3_commit 106 = .ok (.invokevirtual 108, 3) := by decide +kernel
theorem dX3_commit_109 : decode cX3_commit 109 = .ok (.istore_n 1, 1) := by decide +kernel
theorem dX3_commit_110 : decode cX3_commit 110 = .ok (.goto (-9), 3) := by decide +kernel
theorem dX3_commit_113 : decode cX3_commit 113 = .ok (.iconst 0, 1) := by decide +kernel
theorem dX3_commit_114 : decode cX3_commit 114 = .ok (.istore_n 2, 1) := by decide +kernel
theorem dX3_commit_115 : decode cX3_commit 115 = .ok (.iconst 0, 1) := by decide +kernel
theorem dX3_commit_116 : decode cX3_commit 116 = .ok (.istore_n 3, 1) := by decide +kernel
theorem dX3_commit_117 : decode cX3_commit 117 = .ok (.iload_n 3, 1) := by decide +kernel
theorem dX3_commit_118 : decode cX3_commit 118 = .ok (.bipush 7, 2) := by decide +kernel
theorem dX3_commit_120 : decode cX3_commit 120 = .ok (.if_icmp .ge 29, 3) := by decide +kernel
theorem dX3_commit_123 : decode cX3_commit 123 = .ok (.iload_n 2, 1) := by decide +kernel
theorem dX3_commit_124 : decode cX3_commit 124 = .ok (.aload_n 0, 1) := by decide +kernel
theorem dX3_commit_125 : decode cX3_commit 125 = .ok (.iload_n 3, 1) := by decide +kernel
theorem dX3_commit_126 : decode cX3_commit 126 = .ok (.invokevirtual 94, 3) := by decide +kernel
theorem dX3_commit_129 : decode cX3_commit 129 = .ok (.invokestatic 111, 3) := by decide +kernel
theorem dX3_commit_132 : decode cX3_commit 132 = .ok (.iadd, 1) := by decide +kernel
theorem dX3_commit_133 : decode cX3_commit 133 = .ok (.aload_n 0, 1) := by decide +kernel
theorem dX3_commit_134 : decode cX3_commit 134 = .ok (.iload_n 3, 1) := by decide +kernel
theorem dX3_commit_135 : decode cX3_commit 135 = .ok (.invokevirtual 102, 3) := by decide +kernel
theorem dX3_commit_138 : decode cX3_commit 138 = .ok (.invokestatic 111, 3) := by decide +kernel
theorem dX3_commit_141 : decode cX3_commit 141 = .ok (.iadd, 1) := by decide +kernel
theorem dX3_commit_142 : decode cX3_commit 142 = .ok (.istore_n 2, 1) := by decide +kernel
theorem dX3_commit_143 : decode cX3_commit 143 = .ok (.iinc 3 1, 3) := by decide +kernel
theorem dX3_commit_146 : decode cX3_commit 146 = .ok (.goto (-29), 3) := by decide +kernel
theorem dX3_commit_149 : decode cX3_commit 149 = .ok (.iload_n 2, 1) := by decide +kernel
theorem dX3_commit_150 : decode cX3_commit 150 = .ok (.ireturn, 1) := by decide +kernel
set_option maxRecDepth 20000 in
theorem ggX3_abort_X3_ones : GoodIn wsX3_abort wsX3_ones := goodIn_r _ [6] (by decide +kernel) (by decide +kernel)
set_option maxRecDepth 20000 in
theorem gX3_abort_X3_ones : GoodIn wsX3_abort (va_wsS RX3 111 yX3_ones wsX3_ones) := goodIn_app (goodIn_of _ (by decide +kernel)) ggX3_abort_X3_ones
theorem dX3_abort_0 : decode cX3_abort 0 = .ok (.aload_n 0, 1) := by decide +kernel
theorem dX3_abort_1 : decode cX3_abort 1 = .ok (.getfield 31, 3) := by decide +kernel
theorem dX3_abort_4 : decode cX3_abort 4 = .ok (.iconst 0, 1) := by decide +kernel
theorem dX3_abort_5 : decode cX3_abort 5 = .ok (.iaload, 1) := by decide +kernel
theorem dX3_abort_6 : decode cX3_abort 6 = .ok (.invokestatic 111, 3) := by decide +kernel
theorem dX3_abort_9 : decode cX3_abort 9 = .ok (.aload_n 0, 1) := by decide +kernel
theorem dX3_abort_10 : decode cX3_abort 10 = .ok (.getfield 31, 3) := by decide +kernel
theorem dX3_abort_13 : decode cX3_abort 13 = .ok (.iconst 1, 1) := by decide +kernel
theorem dX3_abort_14 : decode cX3_abort 14 = .ok (.iaload, 1) := by decide +kernel
theorem dX3_abort_15 : decode cX3_abort 15 = .ok (.invokestatic 111, 3) := by decide +kernel
theorem dX3_abort_18 : decode cX3_abort 18 = .ok (.iadd, 1) := by decide +kernel
theorem dX3_abort_19 : decode cX3_abort 19 = .ok (.istore_n 1, 1) := by decide +kernel
theorem dX3_abort_20 : decode cX3_abort 20 = .ok (.iconst 0, 1) := by decide +kernel
theorem dX3_abort_21 : decode cX3_abort 21 = .ok (.istore_n 2, 1) := by decide +kernel
theorem dX3_abort_22 : decode cX3_abort 22 = .ok (.iload_n 2, 1) := by decide +kernel
theorem dX3_abort_23 : decode cX3_abort 23 = .ok (.iconst 2, 1) := by decide +kernel
theorem dX3_abort_24 : decode cX3_abort 24 = .ok (.if_icmp .ge 23, 3) := by decide +kernel
theorem dX3_abort_27 : decode cX3_abort 27 = .ok (.aload_n 0, 1) := by decide +kernel
theorem dX3_abort_28 : decode cX3_abort 28 = .ok (.getfield 31, 3) := by decide +kernel
theorem dX3_abort_31 : decode cX3_abort 31 = .ok (.iload_n 2, 1) := by decide +kernel
theorem dX3_abort_32 : decode cX3_abort 32 = .ok (.iconst 0, 1) := by decide +kernel
theorem dX3_abort_33 : decode cX3_abort 33 = .ok (.iastore, 1) := by decide +kernel
theorem dX3_abort_34 : decode cX3_abort 34 = .ok (.aload_n 0, 1) := by decide +kernel
theorem dX3_abort_35 : decode cX3_abort 35 = .ok (.getfield 34, 3) := by decide +kernel
theorem dX3_abort_38 : decode cX3_abort 38 = .ok (.iload_n 2, 1) := by decide +kernel
theorem dX3_abort_39 : decode cX3_abort 39 = .ok (.iconst 0, 1) := by decide +kernel
theorem dX3_abort_40 : decode cX3_abort 40 = .ok (.iastore, 1) := by decide +kernel
theorem dX3_abort_41 : decode cX3_abort 41 = .ok (.iinc 2 1, 3) := by decide +kernel
theorem dX3_abort_44 : decode cX3_abort 44 = .ok (.goto (-22), 3) := by decide +kernel
theorem dX3_abort_47 : decode cX3_abort 47 = .ok (.iload_n 1, 1) := by decide +kernel
theorem dX3_abort_48 : decode cX3_abort 48 = .ok (.ireturn, 1) := by decide +kernel
set_option maxRecDepth 20000 in
theorem ggX3_isPair_X3_within : GoodIn wsX3_isPair wsX3_within := goodIn_r _ [4] (by decide +kernel) (by decide +kernel)
set_option maxRecDepth 20000 in
theorem gX3_isPair_X3_within : GoodIn wsX3_isPair (va_wsS RX3 81 yX3_within wsX3_within) := goodIn_app (goodIn_of _ (by decide +kernel)) ggX3_isPair_X3_within
theorem dX3_isPair_0 : decode cX3_isPair 0 = .ok (.iload_n 0, 1) := by decide +kernel
theorem dX3_isPair_1 : decode cX3_isPair 1 = .ok (.iconst 0, 1) := by decide +kernel
theorem dX3_isPair_2 : decode cX3_isPair 2 = .ok (.bipush 6, 2) := by decide +kernel
theorem dX3_isPair_4 : decode cX3_isPair 4 = .ok (.invokestatic 81, 3) := by decide +kernel
theorem dX3_isPair_7 : decode cX3_isPair 7 = .ok (.ifCond .eq 25, 3) := by decide +kernel
theorem dX3_isPair_10 : decode cX3_isPair 10 = .ok (.iload_n 1, 1) := by decide +kernel
theorem dX3_isPair_11 : decode cX3_isPair 11 = .ok (.iconst 0, 1) := by decide +kernel
theorem dX3_isPair_12 : decode cX3_isPair 12 = .ok (.iconst 4, 1) := by decide +kernel
theorem dX3_isPair_13 : decode cX3_isPair 13 = .ok (.invokestatic 81, 3) := by decide +kernel
theorem dX3_isPair_16 : decode cX3_isPair 16 = .ok (.ifCond .eq 16, 3) := by decide +kernel
theorem dX3_isPair_19 : decode cX3_isPair 19 = .ok (.iload_n 2, 1) := by decide +kernel
theorem dX3_isPair_20 : decode cX3_isPair 20 = .ok (.iconst 0, 1) := by decide +kernel
theorem dX3_isPair_21 : decode cX3_isPair 21 = .ok (.iconst 4, 1) := by decide +kernel
theorem dX3_isPair_22 : decode cX3_isPair 22 = .ok (.invokestatic 81, 3) := by decide +kernel
theorem dX3_isPair_25 : decode cX3_isPair 25 = .ok (.ifCond .eq 7, 3) := by decide +kernel
theorem dX3_isPair_28 : decode cX3_isPair 28 = .ok (.iconst 1, 1) := by decide +kernel
theorem dX3_isPair_29 : decode cX3_isPair 29 = .ok (.goto 4, 3) := by decide +kernel
theorem dX3_isPair_32 : decode cX3_isPair 32 = .ok (.iconst 0, 1) := by decide +kernel
theorem dX3_isPair_33 : decode cX3_isPair 33 = .ok (.ireturn, 1) := by decide +kernel
set_option maxRecDepth 20000 in
theorem ggX3_has_X3_isPair : GoodIn wsX3_has wsX3_isPair := goodIn_r _ [5, 6, 7, 4, 8] (by decide +kernel) (by decide +kernel)
set_option maxRecDepth 20000 in
theorem gX3_has_X3_isPair : GoodIn wsX3_has (va_wsS RX3 114 yX3_isPair wsX3_isPair) := goodIn_app (goodIn_of _ (by decide +kernel)) ggX3_has_X3_isPair
set_option maxRecDepth 20000 in
theorem ggX3_has_X3_in : GoodIn wsX3_has wsX3_in := goodIn_r _ [11] (by decide +kernel) (by decide +kernel)
set_option maxRecDepth 20000 in
theorem gX3_has_X3_in : GoodIn wsX3_has (va_wsS RX3 48 yX3_in wsX3_in) := goodIn_app (goodIn_of _ (by decide +kernel)) ggX3_has_X3_in
theorem dX3_has_0 : decode cX3_has 0 = .ok (.iload_n 1, 1) := by decide +kernel
theorem dX3_has_1 : decode cX3_has 1 = .ok (.iload_n 2, 1) := by decide +kernel
theorem dX3_has_2 : decode cX3_has 2 = .ok (.iload_n 3, 1) := by decide +kernel
theorem dX3_has_3 : decode cX3_has 3 = .ok (.invokestatic 114, 3) := by decide +kernel
theorem dX3_has_6 : decode cX3_has 6 = .ok (.ifCond .eq 21, 3) := by decide +kernel
theorem dX3_has_9 : decode cX3_has 9 = .ok (.aload_n 0, 1) := by decide +kernel
theorem dX3_has_10 : decode cX3_has 10 = .ok (.getfield 22, 3) := by decide +kernel
theorem dX3_has_13 : decode cX3_has 13 = .ok (.iload_n 1, 1) := by decide +kernel
theorem dX3_has_14 : decode cX3_has 14 = .ok (.iaload, 1) := by decide +kernel
theorem dX3_has_15 : decode cX3_has 15 = .ok (.iload_n 2, 1) := by decide +kernel
theorem dX3_has_16 : decode cX3_has 16 = .ok (.iload_n 3, 1) := by decide +kernel
theorem dX3_has_17 : decode cX3_has 17 = .ok (.invokestatic 48, 3) := by decide +kernel
theorem dX3_has_20 : decode cX3_has 20 = .ok (.ifCond .eq 7, 3) := by decide +kernel
theorem dX3_has_23 : decode cX3_has 23 = .ok (.iconst 1, 1) := by decide +kernel
theorem dX3_has_24 : decode cX3_has 24 = .ok (.goto 4, 3) := by decide +kernel
theorem dX3_has_27 : decode cX3_has 27 = .ok (.iconst 0, 1) := by decide +kernel
theorem dX3_has_28 : decode cX3_has 28 = .ok (.ireturn, 1) := by decide +kernel
set_option maxRecDepth 20000 in
theorem ggX3_count_X3_isPair : GoodIn wsX3_count wsX3_isPair := goodIn_r _ [6, 7, 8, 5, 9] (by decide +kernel) (by decide +kernel)
set_option maxRecDepth 20000 in
theorem gX3_count_X3_isPair : GoodIn wsX3_count (va_wsS RX3 114 yX3_isPair wsX3_isPair) := goodIn_app (goodIn_of _ (by decide +kernel)) ggX3_count_X3_isPair
set_option maxRecDepth 20000 in
theorem ggX3_count_X3_instancesOf : GoodIn wsX3_count wsX3_instancesOf := goodIn_r _ [13, 14, 15, 16, 17, 18, 5, 19, 2, 20, 21, 22, 23, 24, 25, 26, 27, 28, 29, 30, 31, 32, 33, 34, 35, 36, 37] (by decide +kernel) (by decide +kernel)
set_option maxRecDepth 20000 in
theorem gX3_count_X3_instancesOf : GoodIn wsX3_count (wsV RX3 56 RX3 yX3_instancesOf wsX3_instancesOf) := goodIn_app (goodIn_of _ (by decide +kernel)) ggX3_count_X3_instancesOf
set_option maxRecDepth 20000 in
theorem ggX3_count_X3_in : GoodIn wsX3_count wsX3_in := goodIn_r _ [25] (by decide +kernel) (by decide +kernel)
set_option maxRecDepth 20000 in
theorem gX3_count_X3_in : GoodIn wsX3_count (va_wsS RX3 48 yX3_in wsX3_in) := goodIn_app (goodIn_of _ (by decide +kernel)) ggX3_count_X3_in
theorem dX3_count_0 : decode cX3_count 0 = .ok (.iload_n 1, 1) := by decide +kernel
theorem dX3_count_1 : decode cX3_count 1 = .ok (.iload_n 2, 1) := by decide +kernel
theorem dX3_count_2 : decode cX3_count 2 = .ok (.iload_n 3, 1) := by decide +kernel
theorem dX3_count_3 : decode cX3_count 3 = .ok (.invokestatic 114, 3) := by decide +kernel
theorem dX3_count_6 : decode cX3_count 6 = .ok (.ifCond .eq 15, 3) := by decide +kernel
theorem dX3_count_9 : decode cX3_count 9 = .ok (.aload_n 0, 1) := by decide +kernel
theorem dX3_count_10 : decode cX3_count 10 = .ok (.getfield 37, 3) := by decide +kernel
theorem dX3_count_13 : decode cX3_count 13 = .ok (.bipush 8, 2) := by decide +kernel
theorem dX3_count_15 : decode cX3_count 15 = .ok (.iload_n 1, 1) := by decide +kernel
theorem dX3_count_16 : decode cX3_count 16 = .ok (.imul, 1) := by decide +kernel
theorem dX3_count_17 : decode cX3_count 17 = .ok (.baload, 1) := by decide +kernel
theorem dX3_count_18 : decode cX3_count 18 = .ok (.ifCond .eq 5, 3) := by decide +kernel
theorem dX3_count_21 : decode cX3_count 21 = .ok (.iconst (-1), 1) := by decide +kernel
theorem dX3_count_22 : decode cX3_count 22 = .ok (.ireturn, 1) := by decide +kernel
theorem dX3_count_23 : decode cX3_count 23 = .ok (.iload_n 1, 1) := by decide +kernel
theorem dX3_count_24 : decode cX3_count 24 = .ok (.iconst 1, 1) := by decide +kernel
theorem dX3_count_25 : decode cX3_count 25 = .ok (.if_icmp .le 13, 3) := by decide +kernel
theorem dX3_count_28 : decode cX3_count 28 = .ok (.aload_n 0, 1) := by decide +kernel
theorem dX3_count_29 : decode cX3_count 29 = .ok (.iload_n 1, 1) := by decide +kernel
theorem dX3_count_30 : decode cX3_count 30 = .ok (.iload_n 2, 1) := by decide +kernel
theorem dX3_count_31 : decode cX3_count 31 = .ok (.iload_n 3, 1) := by decide +kernel
theorem dX3_count_32 : decode cX3_count 32 = .ok (.invokevirtual 56, 3) := by decide +kernel
theorem dX3_count_35 : decode cX3_count 35 = .ok (.goto 22, 3) := by decide +kernel
theorem dX3_count_38 : decode cX3_count 38 = .ok (.aload_n 0, 1) := by decide +kernel
theorem dX3_count_39 : decode cX3_count 39 = .ok (.getfield 22, 3) := by decide +kernel
theorem dX3_count_42 : decode cX3_count 42 = .ok (.iload_n 1, 1) := by decide +kernel
theorem dX3_count_43 : decode cX3_count 43 = .ok (.iaload, 1) := by decide +kernel
theorem dX3_count_44 : decode cX3_count 44 = .ok (.iload_n 2, 1) := by decide +kernel
theorem dX3_count_45 : decode cX3_count 45 = .ok (.iload_n 3, 1) := by decide +kernel
theorem dX3_count_46 : decode cX3_count 46 = .ok (.invokestatic 48, 3) := by decide +kernel
theorem dX3_count_49 : decode cX3_count 49 = .ok (.ifCond .eq 7, 3) := by decide +kernel
theorem dX3_count_52 : decode cX3_count 52 = .ok (.iconst 1, 1) := by decide +kernel
theorem dX3_count_53 : decode cX3_count 53 = .ok (.goto 4, 3) := by decide +kernel
theorem dX3_count_56 : decode cX3_count 56 = .ok (.iconst 0, 1) := by decide +kernel
theorem dX3_count_57 : decode cX3_count 57 = .ok (.ireturn, 1) := by decide +kernel
set_option maxRecDepth 20000 in
theorem ggX3_size_X3_within : GoodIn wsX3_size wsX3_within := goodIn_r _ [5] (by decide +kernel) (by decide +kernel)
set_option maxRecDepth 20000 in
theorem gX3_size_X3_within : GoodIn wsX3_size (va_wsS RX3 81 yX3_within wsX3_within) := goodIn_app (goodIn_of _ (by decide +kernel)) ggX3_size_X3_within
set_option maxRecDepth 20000 in
theorem ggX3_size_X3_ones : GoodIn wsX3_size wsX3_ones := goodIn_r _ [8] (by decide +kernel) (by decide +kernel)
set_option maxRecDepth 20000 in
theorem gX3_size_X3_ones : GoodIn wsX3_size (va_wsS RX3 111 yX3_ones wsX3_ones) := goodIn_app (goodIn_of _ (by decide +kernel)) ggX3_size_X3_ones
theorem dX3_size_0 : decode cX3_size 0 = .ok (.iload_n 1, 1) := by decide +kernel
theorem dX3_size_1 : decode cX3_size 1 = .ok (.iconst 0, 1) := by decide +kernel
theorem dX3_size_2 : decode cX3_size 2 = .ok (.bipush 6, 2) := by decide +kernel
theorem dX3_size_4 : decode cX3_size 4 = .ok (.invokestatic 81, 3) := by decide +kernel
theorem dX3_size_7 : decode cX3_size 7 = .ok (.ifCond .eq 15, 3) := by decide +kernel
theorem dX3_size_10 : decode cX3_size 10 = .ok (.aload_n 0, 1) := by decide +kernel
theorem dX3_size_11 : decode cX3_size 11 = .ok (.getfield 22, 3) := by decide +kernel
theorem dX3_size_14 : decode cX3_size 14 = .ok (.iload_n 1, 1) := by decide +kernel
theorem dX3_size_15 : decode cX3_size 15 = .ok (.iaload, 1) := by decide +kernel
theorem dX3_size_16 : decode cX3_size 16 = .ok (.invokestatic 111, 3) := by decide +kernel
theorem dX3_size_19 : decode cX3_size 19 = .ok (.goto 4, 3) := by decide +kernel
theorem dX3_size_22 : decode cX3_size 22 = .ok (.iconst (-1), 1) := by decide +kernel
theorem dX3_size_23 : decode cX3_size 23 = .ok (.ireturn, 1) := by decide +kernel
set_option maxRecDepth 20000 in
theorem ggX3_recursive_X3_within : GoodIn wsX3_recursive wsX3_within := goodIn_r _ [5] (by decide +kernel) (by decide +kernel)
set_option maxRecDepth 20000 in
theorem gX3_recursive_X3_within : GoodIn wsX3_recursive (va_wsS RX3 81 yX3_within wsX3_within) := goodIn_app (goodIn_of _ (by decide +kernel)) ggX3_recursive_X3_within
theorem dX3_recursive_0 : decode cX3_recursive 0 = .ok (.iload_n 1, 1) := by decide +kernel
theorem dX3_recursive_1 : decode cX3_recursive 1 = .ok (.iconst 2, 1) := by decide +kernel
theorem dX3_recursive_2 : decode cX3_recursive 2 = .ok (.bipush 6, 2) := by decide +kernel
theorem dX3_recursive_4 : decode cX3_recursive 4 = .ok (.invokestatic 81, 3) := by decide +kernel
theorem dX3_recursive_7 : decode cX3_recursive 7 = .ok (.ifCond .eq 19, 3) := by decide +kernel
theorem dX3_recursive_10 : decode cX3_recursive 10 = .ok (.aload_n 0, 1) := by decide +kernel
theorem dX3_recursive_11 : decode cX3_recursive 11 = .ok (.getfield 37, 3) := by decide +kernel
theorem dX3_recursive_14 : decode cX3_recursive 14 = .ok (.bipush 8, 2) := by decide +kernel
theorem dX3_recursive_16 : decode cX3_recursive 16 = .ok (.iload_n 1, 1) := by decide +kernel
theorem dX3_recursive_17 : decode cX3_recursive 17 = .ok (.imul, 1) := by decide +kernel
theorem dX3_recursive_18 : decode cX3_recursive 18 = .ok (.baload, 1) := by decide +kernel
theorem dX3_recursive_19 : decode cX3_recursive 19 = .ok (.ifCond .eq 7, 3) := by decide +kernel
theorem dX3_recursive_22 : decode cX3_recursive 22 = .ok (.iconst 1, 1) := by decide +kernel
theorem dX3_recursive_23 : decode cX3_recursive 23 = .ok (.goto 4, 3) := by decide +kernel
theorem dX3_recursive_26 : decode cX3_recursive 26 = .ok (.iconst 0, 1) := by decide +kernel
theorem dX3_recursive_27 : decode cX3_recursive 27 = .ok (.ireturn, 1) := by decide +kernel
set_option maxRecDepth 20000 in
theorem ggX3_needs_X3_within : GoodIn wsX3_needs wsX3_within := goodIn_r _ [5] (by decide +kernel) (by decide +kernel)
set_option maxRecDepth 20000 in
theorem gX3_needs_X3_within : GoodIn wsX3_needs (va_wsS RX3 81 yX3_within wsX3_within) := goodIn_app (goodIn_of _ (by decide +kernel)) ggX3_needs_X3_within
theorem dX3_needs_0 : decode cX3_needs 0 = .ok (.iload_n 1, 1) := by decide +kernel
theorem dX3_needs_1 : decode cX3_needs 1 = .ok (.iconst 2, 1) := by decide +kernel
theorem dX3_needs_2 : decode cX3_needs 2 = .ok (.bipush 6, 2) := by decide +kernel
theorem dX3_needs_4 : decode cX3_needs 4 = .ok (.invokestatic 81, 3) := by decide +kernel
theorem dX3_needs_7 : decode cX3_needs 7 = .ok (.ifCond .eq 31, 3) := by decide +kernel
theorem dX3_needs_10 : decode cX3_needs 10 = .ok (.iload_n 2, 1) := by decide +kernel
theorem dX3_needs_11 : decode cX3_needs 11 = .ok (.iconst 0, 1) := by decide +kernel
theorem dX3_needs_12 : decode cX3_needs 12 = .ok (.bipush 6, 2) := by decide +kernel
theorem dX3_needs_14 : decode cX3_needs 14 = .ok (.invokestatic 81, 3) := by decide +kernel
theorem dX3_needs_17 : decode cX3_needs 17 = .ok (.ifCond .eq 21, 3) := by decide +kernel
theorem dX3_needs_20 : decode cX3_needs 20 = .ok (.aload_n 0, 1) := by decide +kernel
theorem dX3_needs_21 : decode cX3_needs 21 = .ok (.getfield 37, 3) := by decide +kernel
theorem dX3_needs_24 : decode cX3_needs 24 = .ok (.bipush 7, 2) := by decide +kernel
theorem dX3_needs_26 : decode cX3_needs 26 = .ok (.iload_n 1, 1) := by decide +kernel
theorem dX3_needs_27 : decode cX3_needs 27 = .ok (.imul, 1) := by decide +kernel
theorem dX3_needs_28 : decode cX3_needs 28 = .ok (.iload_n 2, 1) := by decide +kernel
theorem dX3_needs_29 : decode cX3_needs 29 = .ok (.iadd, 1) := by decide +kernel
theorem dX3_needs_30 : decode cX3_needs 30 = .ok (.baload, 1) := by decide +kernel
theorem dX3_needs_31 : decode cX3_needs 31 = .ok (.ifCond .eq 7, 3) := by decide +kernel
theorem dX3_needs_34 : decode cX3_needs 34 = .ok (.iconst 1, 1) := by decide +kernel
theorem dX3_needs_35 : decode cX3_needs 35 = .ok (.goto 4, 3) := by decide +kernel
theorem dX3_needs_38 : decode cX3_needs 38 = .ok (.iconst 0, 1) := by decide +kernel
theorem dX3_needs_39 : decode cX3_needs 39 = .ok (.ireturn, 1) := by decide +kernel
theorem dX3_rules_0 : decode cX3_rules 0 = .ok (.aload_n 0, 1) := by decide +kernel
theorem dX3_rules_1 : decode cX3_rules 1 = .ok (.getfield 44, 3) := by decide +kernel
theorem dX3_rules_4 : decode cX3_rules 4 = .ok (.ireturn, 1) := by decide +kernel
set_option maxRecDepth 20000 in
theorem ggX3_changed_X3_within : GoodIn wsX3_changed wsX3_within := goodIn_r _ [6] (by decide +kernel) (by decide +kernel)
set_option maxRecDepth 20000 in
theorem gX3_changed_X3_within : GoodIn wsX3_changed (va_wsS RX3 81 yX3_within wsX3_within) := goodIn_app (goodIn_of _ (by decide +kernel)) ggX3_changed_X3_within
set_option maxRecDepth 20000 in
theorem ggX3_changed_X3_added : GoodIn wsX3_changed wsX3_added := goodIn_r _ [10, 2, 11, 19, 20, 21, 22, 23, 24, 25, 26, 27, 28, 29, 30] (by decide +kernel) (by decide +kernel)
set_option maxRecDepth 20000 in
theorem gX3_changed_X3_added : GoodIn wsX3_changed (wsV RX3 102 RX3 yX3_added wsX3_added) := goodIn_app (goodIn_of _ (by decide +kernel)) ggX3_changed_X3_added
set_option maxRecDepth 20000 in
theorem ggX3_changed_X3_taken : GoodIn wsX3_changed wsX3_taken := goodIn_r _ [15, 11, 2, 19, 20, 21, 22, 23, 24, 25, 26, 27, 28, 29, 30] (by decide +kernel) (by decide +kernel)
set_option maxRecDepth 20000 in
theorem gX3_changed_X3_taken : GoodIn wsX3_changed (wsV RX3 94 RX3 yX3_taken wsX3_taken) := goodIn_app (goodIn_of _ (by decide +kernel)) ggX3_changed_X3_taken
set_option maxRecDepth 20000 in
theorem ggX3_changed_X3_ones : GoodIn wsX3_changed wsX3_ones := goodIn_r _ [18] (by decide +kernel) (by decide +kernel)
set_option maxRecDepth 20000 in
theorem gX3_changed_X3_ones : GoodIn wsX3_changed (va_wsS RX3 111 yX3_ones wsX3_ones) := goodIn_app (goodIn_of _ (by decide +kernel)) ggX3_changed_X3_ones
theorem dX3_changed_0 : decode cX3_changed 0 = .ok (.iload_n 1, 1) := by decide +kernel
theorem dX3_changed_1 : decode cX3_changed 1 = .ok (.iconst 0, 1) := by decide +kernel
theorem dX3_changed_2 : decode cX3_changed 2 = .ok (.bipush 6, 2) := by decide +kernel
theorem dX3_changed_4 : decode cX3_changed 4 = .ok (.invokestatic 81, 3) := by decide +kernel
theorem dX3_changed_7 : decode cX3_changed 7 = .ok (.ifCond .eq 12, 3) := by decide +kernel
theorem dX3_changed_10 : decode cX3_changed 10 = .ok (.iload_n 2, 1) := by decide +kernel
theorem dX3_changed_11 : decode cX3_changed 11 = .ok (.iconst 0, 1) := by decide +kernel
theorem dX3_changed_12 : decode cX3_changed 12 = .ok (.iconst 3, 1) := by decide +kernel
theorem dX3_changed_13 : decode cX3_changed 13 = .ok (.invokestatic 81, 3) := by decide +kernel
theorem dX3_changed_16 : decode cX3_changed 16 = .ok (.ifCond .ne 5, 3) := by decide +kernel
theorem dX3_changed_19 : decode cX3_changed 19 = .ok (.iconst (-1), 1) := by decide +kernel
theorem dX3_changed_20 : decode cX3_changed 20 = .ok (.ireturn, 1) := by decide +kernel
theorem dX3_changed_21 : decode cX3_changed 21 = .ok (.iload_n 2, 1) := by decide +kernel
theorem dX3_changed_22 : decode cX3_changed 22 = .ok (.ifCond .ne 11, 3) := by decide +kernel
theorem dX3_changed_25 : decode cX3_changed 25 = .ok (.aload_n 0, 1) := by decide +kernel
theorem dX3_changed_26 : decode cX3_changed 26 = .ok (.iload_n 1, 1) := by decide +kernel
theorem dX3_changed_27 : decode cX3_changed 27 = .ok (.invokevirtual 102, 3) := by decide +kernel
theorem dX3_changed_30 : decode cX3_changed 30 = .ok (.goto 43, 3) := by decide +kernel
theorem dX3_changed_33 : decode cX3_changed 33 = .ok (.iload_n 2, 1) := by decide +kernel
theorem dX3_changed_34 : decode cX3_changed 34 = .ok (.iconst 1, 1) := by decide +kernel
theorem dX3_changed_35 : decode cX3_changed 35 = .ok (.if_icmp .ne 11, 3) := by decide +kernel
theorem dX3_changed_38 : decode cX3_changed 38 = .ok (.aload_n 0, 1) := by decide +kernel
theorem dX3_changed_39 : decode cX3_changed 39 = .ok (.iload_n 1, 1) := by decide +kernel
theorem dX3_changed_40 : decode cX3_changed 40 = .ok (.invokevirtual 94, 3) := by decide +kernel
theorem dX3_changed_43 : decode cX3_changed 43 = .ok (.goto 30, 3) := by decide +kernel
theorem dX3_changed_46 : decode cX3_changed 46 = .ok (.iload_n 2, 1) := by decide +kernel
theorem dX3_changed_47 : decode cX3_changed 47 = .ok (.iconst 2, 1) := by decide +kernel
theorem dX3_changed_48 : decode cX3_changed 48 = .ok (.if_icmp .ne 12, 3) := by decide +kernel
theorem dX3_changed_51 : decode cX3_changed 51 = .ok (.aload_n 0, 1) := by decide +kernel
theorem dX3_changed_52 : decode cX3_changed 52 = .ok (.getfield 28, 3) := by decide +kernel
theorem dX3_changed_55 : decode cX3_changed 55 = .ok (.iload_n 1, 1) := by decide +kernel
theorem dX3_changed_56 : decode cX3_changed 56 = .ok (.iaload, 1) := by decide +kernel
theorem dX3_changed_57 : decode cX3_changed 57 = .ok (.goto 16, 3) := by decide +kernel
theorem dX3_changed_60 : decode cX3_changed 60 = .ok (.aload_n 0, 1) := by decide +kernel
theorem dX3_changed_61 : decode cX3_changed 61 = .ok (.getfield 28, 3) := by decide +kernel
theorem dX3_changed_64 : decode cX3_changed 64 = .ok (.iload_n 1, 1) := by decide +kernel
theorem dX3_changed_65 : decode cX3_changed 65 = .ok (.iaload, 1) := by decide +kernel
theorem dX3_changed_66 : decode cX3_changed 66 = .ok (.aload_n 0, 1) := by decide +kernel
theorem dX3_changed_67 : decode cX3_changed 67 = .ok (.getfield 22, 3) := by decide +kernel
theorem dX3_changed_70 : decode cX3_changed 70 = .ok (.iload_n 1, 1) := by decide +kernel
theorem dX3_changed_71 : decode cX3_changed 71 = .ok (.iaload, 1) := by decide +kernel
theorem dX3_changed_72 : decode cX3_changed 72 = .ok (.iand, 1) := by decide +kernel
theorem dX3_changed_73 : decode cX3_changed 73 = .ok (.invokestatic 111, 3) := by decide +kernel
theorem dX3_changed_76 : decode cX3_changed 76 = .ok (.ireturn, 1) := by decide +kernel
set_option maxRecDepth 20000 in
theorem ggX3_suspect_X3_isPair : GoodIn wsX3_suspect wsX3_isPair := goodIn_r _ [5, 6, 7, 4, 8] (by decide +kernel) (by decide +kernel)
set_option maxRecDepth 20000 in
theorem gX3_suspect_X3_isPair : GoodIn wsX3_suspect (va_wsS RX3 114 yX3_isPair wsX3_isPair) := goodIn_app (goodIn_of _ (by decide +kernel)) ggX3_suspect_X3_isPair
set_option maxRecDepth 20000 in
theorem ggX3_suspect_X3_in : GoodIn wsX3_suspect wsX3_in := goodIn_r _ [11] (by decide +kernel) (by decide +kernel)
set_option maxRecDepth 20000 in
theorem gX3_suspect_X3_in : GoodIn wsX3_suspect (va_wsS RX3 48 yX3_in wsX3_in) := goodIn_app (goodIn_of _ (by decide +kernel)) ggX3_suspect_X3_in
theorem dX3_suspect_0 : decode cX3_suspect 0 = .ok (.iload_n 1, 1) := by decide +kernel
theorem dX3_suspect_1 : decode cX3_suspect 1 = .ok (.iload_n 2, 1) := by decide +kernel
theorem dX3_suspect_2 : decode cX3_suspect 2 = .ok (.iload_n 3, 1) := by decide +kernel
theorem dX3_suspect_3 : decode cX3_suspect 3 = .ok (.invokestatic 114, 3) := by decide +kernel
theorem dX3_suspect_6 : decode cX3_suspect 6 = .ok (.ifCond .eq 21, 3) := by decide +kernel
theorem dX3_suspect_9 : decode cX3_suspect 9 = .ok (.aload_n 0, 1) := by decide +kernel
theorem dX3_suspect_10 : decode cX3_suspect 10 = .ok (.getfield 28, 3) := by decide +kernel
theorem dX3_suspect_13 : decode cX3_suspect 13 = .ok (.iload_n 1, 1) := by decide +kernel
theorem dX3_suspect_14 : decode cX3_suspect 14 = .ok (.iaload, 1) := by decide +kernel
theorem dX3_suspect_15 : decode cX3_suspect 15 = .ok (.iload_n 2, 1) := by decide +kernel
theorem dX3_suspect_16 : decode cX3_suspect 16 = .ok (.iload_n 3, 1) := by decide +kernel
theorem dX3_suspect_17 : decode cX3_suspect 17 = .ok (.invokestatic 48, 3) := by decide +kernel
theorem dX3_suspect_20 : decode cX3_suspect 20 = .ok (.ifCond .eq 7, 3) := by decide +kernel
theorem dX3_suspect_23 : decode cX3_suspect 23 = .ok (.iconst 1, 1) := by decide +kernel
theorem dX3_suspect_24 : decode cX3_suspect 24 = .ok (.goto 4, 3) := by decide +kernel
theorem dX3_suspect_27 : decode cX3_suspect 27 = .ok (.iconst 0, 1) := by decide +kernel
theorem dX3_suspect_28 : decode cX3_suspect 28 = .ok (.ireturn, 1) := by decide +kernel
end
section
theorem dJ6_bitCount_0f7a4_0 : decode cJ6_bitCount_0f7a4 0 = .ok (.iload_n 0, 1) := by decide +kernel
theorem dJ6_bitCount_0f7a4_1 : decode cJ6_bitCount_0f7a4 1 = .ok (.iload_n 0, 1) := by decide +kernel
theorem dJ6_bitCount_0f7a4_2 : decode cJ6_bitCount_0f7a4 2 = .ok (.iconst 1, 1) := by decide +kernel
theorem dJ6_bitCount_0f7a4_3 : decode cJ6_bitCount_0f7a4 3 = .ok (.iushr, 1) := by decide +kernel
theorem dJ6_bitCount_0f7a4_4 : decode cJ6_bitCount_0f7a4 4 = .ok (.ldc_w 265, 3) := by decide +kernel
theorem dJ6_bitCount_0f7a4_7 : decode cJ6_bitCount_0f7a4 7 = .ok (.iand, 1) := by decide +kernel
theorem dJ6_bitCount_0f7a4_8 : decode cJ6_bitCount_0f7a4 8 = .ok (.isub, 1) := by decide +kernel
theorem dJ6_bitCount_0f7a4_9 : decode cJ6_bitCount_0f7a4 9 = .ok (.istore_n 0, 1) := by decide +kernel
theorem dJ6_bitCount_0f7a4_10 : decode cJ6_bitCount_0f7a4 10 = .ok (.iload_n 0, 1) := by decide +kernel
theorem dJ6_bitCount_0f7a4_11 : decode cJ6_bitCount_0f7a4 11 = .ok (.ldc_w 266, 3) := by decide +kernel
theorem dJ6_bitCount_0f7a4_14 : decode cJ6_bitCount_0f7a4 14 = .ok (.iand, 1) := by decide +kernel
theorem dJ6_bitCount_0f7a4_15 : decode cJ6_bitCount_0f7a4 15 = .ok (.iload_n 0, 1) := by decide +kernel
theorem dJ6_bitCount_0f7a4_16 : decode cJ6_bitCount_0f7a4 16 = .ok (.iconst 2, 1) := by decide +kernel
theorem dJ6_bitCount_0f7a4_17 : decode cJ6_bitCount_0f7a4 17 = .ok (.iushr, 1) := by decide +kernel
theorem dJ6_bitCount_0f7a4_18 : decode cJ6_bitCount_0f7a4 18 = .ok (.ldc_w 266, 3) := by decide +kernel
theorem dJ6_bitCount_0f7a4_21 : decode cJ6_bitCount_0f7a4 21 = .ok (.iand, 1) := by decide +kernel
theorem dJ6_bitCount_0f7a4_22 : decode cJ6_bitCount_0f7a4 22 = .ok (.iadd, 1) := by decide +kernel
theorem dJ6_bitCount_0f7a4_23 : decode cJ6_bitCount_0f7a4 23 = .ok (.istore_n 0, 1) := by decide +kernel
theorem dJ6_bitCount_0f7a4_24 : decode cJ6_bitCount_0f7a4 24 = .ok (.iload_n 0, 1) := by decide +kernel
theorem dJ6_bitCount_0f7a4_25 : decode cJ6_bitCount_0f7a4 25 = .ok (.iload_n 0, 1) := by decide +kernel
theorem dJ6_bitCount_0f7a4_26 : decode cJ6_bitCount_0f7a4 26 = .ok (.iconst 4, 1) := by decide +kernel
theorem dJ6_bitCount_0f7a4_27 : decode cJ6_bitCount_0f7a4 27 = .ok (.iushr, 1) := by decide +kernel
theorem dJ6_bitCount_0f7a4_28 : decode cJ6_bitCount_0f7a4 28 = .ok (.iadd, 1) := by decide +kernel
theorem dJ6_bitCount_0f7a4_29 : decode cJ6_bitCount_0f7a4 29 = .ok (.ldc_w 267, 3) := by decide +kernel
theorem dJ6_bitCount_0f7a4_32 : decode cJ6_bitCount_0f7a4 32 = .ok (.iand, 1) := by decide +kernel
theorem dJ6_bitCount_0f7a4_33 : decode cJ6_bitCount_0f7a4 33 = .ok (.istore_n 0, 1) := by decide +kernel
theorem dJ6_bitCount_0f7a4_34 : decode cJ6_bitCount_0f7a4 34 = .ok (.iload_n 0, 1) := by decide +kernel
theorem dJ6_bitCount_0f7a4_35 : decode cJ6_bitCount_0f7a4 35 = .ok (.iload_n 0, 1) := by decide +kernel
theorem dJ6_bitCount_0f7a4_36 : decode cJ6_bitCount_0f7a4 36 = .ok (.bipush 8, 2) := by decide +kernel
theorem dJ6_bitCount_0f7a4_38 : decode cJ6_bitCount_0f7a4 38 = .ok (.iushr, 1) := by decide +kernel
theorem dJ6_bitCount_0f7a4_39 : decode cJ6_bitCount_0f7a4 39 = .ok (.iadd, 1) := by decide +kernel
theorem dJ6_bitCount_0f7a4_40 : decode cJ6_bitCount_0f7a4 40 = .ok (.istore_n 0, 1) := by decide +kernel
theorem dJ6_bitCount_0f7a4_41 : decode cJ6_bitCount_0f7a4 41 = .ok (.iload_n 0, 1) := by decide +kernel
theorem dJ6_bitCount_0f7a4_42 : decode cJ6_bitCount_0f7a4 42 = .ok (.iload_n 0, 1) := by decide +kernel
theorem dJ6_bitCount_0f7a4_43 : decode cJ6_bitCount_0f7a4 43 = .ok (.bipush 16, 2) := by decide +kernel
theorem dJ6_bitCount_0f7a4_45 : decode cJ6_bitCount_0f7a4 45 = .ok (.iushr, 1) := by decide +kernel
theorem dJ6_bitCount_0f7a4_46 : decode cJ6_bitCount_0f7a4 46 = .ok (.iadd, 1) := by decide +kernel
theorem dJ6_bitCount_0f7a4_47 : decode cJ6_bitCount_0f7a4 47 = .ok (.istore_n 0, 1) := by decide +kernel
theorem dJ6_bitCount_0f7a4_48 : decode cJ6_bitCount_0f7a4 48 = .ok (.iload_n 0, 1) := by decide +kernel
theorem dJ6_bitCount_0f7a4_49 : decode cJ6_bitCount_0f7a4 49 = .ok (.bipush 63, 2) := by decide +kernel
theorem dJ6_bitCount_0f7a4_51 : decode cJ6_bitCount_0f7a4 51 = .ok (.iand, 1) := by decide +kernel
theorem dJ6_bitCount_0f7a4_52 : decode cJ6_bitCount_0f7a4 52 = .ok (.ireturn, 1) := by decide +kernel
theorem dJ7_fill_53178_0 : decode cJ7_fill_53178 0 = .ok (.iconst 0, 1) := by decide +kernel
theorem dJ7_fill_53178_1 : decode cJ7_fill_53178 1 = .ok (.istore_n 2, 1) := by decide +kernel
theorem dJ7_fill_53178_2 : decode cJ7_fill_53178 2 = .ok (.aload_n 0, 1) := by decide +kernel
theorem dJ7_fill_53178_3 : decode cJ7_fill_53178 3 = .ok (.arraylength, 1) := by decide +kernel
theorem dJ7_fill_53178_4 : decode cJ7_fill_53178 4 = .ok (.istore_n 3, 1) := by decide +kernel
theorem dJ7_fill_53178_5 : decode cJ7_fill_53178 5 = .ok (.iload_n 2, 1) := by decide +kernel
theorem dJ7_fill_53178_6 : decode cJ7_fill_53178 6 = .ok (.iload_n 3, 1) := by decide +kernel
theorem dJ7_fill_53178_7 : decode cJ7_fill_53178 7 = .ok (.if_icmp .ge 13, 3) := by decide +kernel
theorem dJ7_fill_53178_10 : decode cJ7_fill_53178 10 = .ok (.aload_n 0, 1) := by decide +kernel
theorem dJ7_fill_53178_11 : decode cJ7_fill_53178 11 = .ok (.iload_n 2, 1) := by decide +kernel
theorem dJ7_fill_53178_12 : decode cJ7_fill_53178 12 = .ok (.iload_n 1, 1) := by decide +kernel
theorem dJ7_fill_53178_13 : decode cJ7_fill_53178 13 = .ok (.iastore, 1) := by decide +kernel
theorem dJ7_fill_53178_14 : decode cJ7_fill_53178 14 = .ok (.iinc 2 1, 3) := by decide +kernel
theorem dJ7_fill_53178_17 : decode cJ7_fill_53178 17 = .ok (.goto (-12), 3) := by decide +kernel
theorem dJ7_fill_53178_20 : decode cJ7_fill_53178 20 = .ok (.return_, 1) := by decide +kernel
end
section
/-! rows of my own over the kit's: numbers as nI, truth values as bI, arrays by their places -/
section HX
variable {p : Program} {l : Launch} {e : Env} {R : Room} {s : State} {m : MethodId} {args : Array Value} {below : List Frame} {meth : Method} {c : Code} {H : Heap} {locs : List Loc} {cells slots : Nat} {Q : State → Prop}
variable {cc : ByteArray} {pc : Nat} {ls : Array Slot} {rest : List Value}
theorem hx_eq {x y : Int32} (h : x = y) (k : W p l e R s m args below meth c H locs cells slots Q (F0 m pc ls (.int y :: rest))) : W p l e R s m args below meth c H locs cells slots Q (F0 m pc ls (.int x :: rest)) := h ▸ k
theorem hx_iadd {a b : Nat} (hexec : p.tables.exec = Jvm.exec) (hb : c.code = cc) (hdg : decode cc pc = .ok (.iadd, 1)) (k : W p l e R s m args below meth c H locs cells slots Q (F0 m (pc + 1) ls (.int (nI (a + b)) :: rest))) : W p l e R s m args below meth c H locs cells slots Q (F0 m pc ls (.int (nI b) :: .int (nI a) :: rest)) :=
  lv_iadd hexec hb hdg (hx_eq (nI_add a b) k)
theorem hx_imul {a b : Nat} (hexec : p.tables.exec = Jvm.exec) (hb : c.code = cc) (hdg : decode cc pc = .ok (.imul, 1)) (k : W p l e R s m args below meth c H locs cells slots Q (F0 m (pc + 1) ls (.int (nI (a * b)) :: rest))) : W p l e R s m args below meth c H locs cells slots Q (F0 m pc ls (.int (nI b) :: .int (nI a) :: rest)) :=
  lv_imul hexec hb hdg (hx_eq (pk_mul a b) k)
theorem hx_isub {a b : Nat} (h : b ≤ a) (hexec : p.tables.exec = Jvm.exec) (hb : c.code = cc) (hdg : decode cc pc = .ok (.isub, 1)) (k : W p l e R s m args below meth c H locs cells slots Q (F0 m (pc + 1) ls (.int (nI (a - b)) :: rest))) : W p l e R s m args below meth c H locs cells slots Q (F0 m pc ls (.int (nI b) :: .int (nI a) :: rest)) :=
  lv_isub hexec hb hdg (hx_eq (pk_sub h) k)
/-! branches over numbers -/
theorem hx_eqN {a b : Nat} (hexec : p.tables.exec = Jvm.exec) (hb : c.code = cc) {off : Int} {tgt : Nat} (hdg : decode cc pc = .ok (.if_icmp .eq off, 3)) (ht : (pc : Int) + off = (tgt : Int)) (h1 : a < 2 ^ 31) (h2 : b < 2 ^ 31)
    (kt : a = b → W p l e R s m args below meth c H locs cells slots Q (F0 m tgt ls rest)) (kf : ¬ a = b → W p l e R s m args below meth c H locs cells slots Q (F0 m (pc + 3) ls rest)) : W p l e R s m args below meth c H locs cells slots Q (F0 m pc ls (.int (nI b) :: .int (nI a) :: rest)) :=
  lv_icmp_eq hexec hb hdg ht (fun h => kt ((nI_eq h1 h2).mp h)) (fun h => kf (fun q => h ((nI_eq h1 h2).mpr q)))
theorem hx_neN {a b : Nat} (hexec : p.tables.exec = Jvm.exec) (hb : c.code = cc) {off : Int} {tgt : Nat} (hdg : decode cc pc = .ok (.if_icmp .ne off, 3)) (ht : (pc : Int) + off = (tgt : Int)) (h1 : a < 2 ^ 31) (h2 : b < 2 ^ 31)
    (kt : ¬ a = b → W p l e R s m args below meth c H locs cells slots Q (F0 m tgt ls rest)) (kf : a = b → W p l e R s m args below meth c H locs cells slots Q (F0 m (pc + 3) ls rest)) : W p l e R s m args below meth c H locs cells slots Q (F0 m pc ls (.int (nI b) :: .int (nI a) :: rest)) :=
  lv_icmp_ne hexec hb hdg ht (fun h => kt (fun q => h ((nI_eq h1 h2).mpr q))) (fun h => kf ((nI_eq h1 h2).mp h))
theorem hx_ltN {a b : Nat} (hexec : p.tables.exec = Jvm.exec) (hb : c.code = cc) {off : Int} {tgt : Nat} (hdg : decode cc pc = .ok (.if_icmp .lt off, 3)) (ht : (pc : Int) + off = (tgt : Int)) (h1 : a < 2 ^ 31) (h2 : b < 2 ^ 31)
    (kt : a < b → W p l e R s m args below meth c H locs cells slots Q (F0 m tgt ls rest)) (kf : ¬ a < b → W p l e R s m args below meth c H locs cells slots Q (F0 m (pc + 3) ls rest)) : W p l e R s m args below meth c H locs cells slots Q (F0 m pc ls (.int (nI b) :: .int (nI a) :: rest)) :=
  lv_icmp_lt hexec hb hdg ht (fun h => kt ((nI_ltI h1 h2).mp h)) (fun h => kf (fun q => h ((nI_ltI h1 h2).mpr q)))
theorem hx_geN {a b : Nat} (hexec : p.tables.exec = Jvm.exec) (hb : c.code = cc) {off : Int} {tgt : Nat} (hdg : decode cc pc = .ok (.if_icmp .ge off, 3)) (ht : (pc : Int) + off = (tgt : Int)) (h1 : a < 2 ^ 31) (h2 : b < 2 ^ 31)
    (kt : ¬ a < b → W p l e R s m args below meth c H locs cells slots Q (F0 m tgt ls rest)) (kf : a < b → W p l e R s m args below meth c H locs cells slots Q (F0 m (pc + 3) ls rest)) : W p l e R s m args below meth c H locs cells slots Q (F0 m pc ls (.int (nI b) :: .int (nI a) :: rest)) :=
  lv_icmp_ge hexec hb hdg ht (fun h => kt (fun q => absurd ((nI_leI h2 h1).mp h) (by omega))) (fun h => kf (Nat.lt_of_not_le (fun q => h ((nI_leI h2 h1).mpr q))))
theorem hx_gtN {a b : Nat} (hexec : p.tables.exec = Jvm.exec) (hb : c.code = cc) {off : Int} {tgt : Nat} (hdg : decode cc pc = .ok (.if_icmp .gt off, 3)) (ht : (pc : Int) + off = (tgt : Int)) (h1 : a < 2 ^ 31) (h2 : b < 2 ^ 31)
    (kt : b < a → W p l e R s m args below meth c H locs cells slots Q (F0 m tgt ls rest)) (kf : ¬ b < a → W p l e R s m args below meth c H locs cells slots Q (F0 m (pc + 3) ls rest)) : W p l e R s m args below meth c H locs cells slots Q (F0 m pc ls (.int (nI b) :: .int (nI a) :: rest)) :=
  lv_icmp_gt hexec hb hdg ht (fun h => kt ((nI_ltI h2 h1).mp h)) (fun h => kf (fun q => h ((nI_ltI h2 h1).mpr q)))
theorem hx_leN {a b : Nat} (hexec : p.tables.exec = Jvm.exec) (hb : c.code = cc) {off : Int} {tgt : Nat} (hdg : decode cc pc = .ok (.if_icmp .le off, 3)) (ht : (pc : Int) + off = (tgt : Int)) (h1 : a < 2 ^ 31) (h2 : b < 2 ^ 31)
    (kt : ¬ b < a → W p l e R s m args below meth c H locs cells slots Q (F0 m tgt ls rest)) (kf : b < a → W p l e R s m args below meth c H locs cells slots Q (F0 m (pc + 3) ls rest)) : W p l e R s m args below meth c H locs cells slots Q (F0 m pc ls (.int (nI b) :: .int (nI a) :: rest)) :=
  lv_icmp_le hexec hb hdg ht (fun h => kt (fun q => absurd ((nI_leI h1 h2).mp h) (by omega))) (fun h => kf (Nat.lt_of_not_le (fun q => h ((nI_leI h1 h2).mpr q))))
/-- a number against 0 -/
theorem hx_if0 {a : Nat} (hexec : p.tables.exec = Jvm.exec) (hb : c.code = cc) {off : Int} {tgt : Nat} (hdg : decode cc pc = .ok (.ifCond .eq off, 3)) (ht : (pc : Int) + off = (tgt : Int)) (h1 : a < 2 ^ 31)
    (kt : a = 0 → W p l e R s m args below meth c H locs cells slots Q (F0 m tgt ls rest)) (kf : ¬ a = 0 → W p l e R s m args below meth c H locs cells slots Q (F0 m (pc + 3) ls rest)) : W p l e R s m args below meth c H locs cells slots Q (F0 m pc ls (.int (nI a) :: rest)) :=
  lv_if_eq hexec hb hdg ht (fun h => kt ((nI_eq h1 (by omega : 0 < 2 ^ 31)).mp h)) (fun h => kf (fun q => h ((nI_eq h1 (by omega : 0 < 2 ^ 31)).mpr q)))
theorem hx_ifn0 {a : Nat} (hexec : p.tables.exec = Jvm.exec) (hb : c.code = cc) {off : Int} {tgt : Nat} (hdg : decode cc pc = .ok (.ifCond .ne off, 3)) (ht : (pc : Int) + off = (tgt : Int)) (h1 : a < 2 ^ 31)
    (kt : ¬ a = 0 → W p l e R s m args below meth c H locs cells slots Q (F0 m tgt ls rest)) (kf : a = 0 → W p l e R s m args below meth c H locs cells slots Q (F0 m (pc + 3) ls rest)) : W p l e R s m args below meth c H locs cells slots Q (F0 m pc ls (.int (nI a) :: rest)) :=
  lv_if_ne hexec hb hdg ht (fun h => kt (fun q => h ((nI_eq h1 (by omega : 0 < 2 ^ 31)).mpr q))) (fun h => kf ((nI_eq h1 (by omega : 0 < 2 ^ 31)).mp h))
theorem hx_ifle0 {a : Nat} (hexec : p.tables.exec = Jvm.exec) (hb : c.code = cc) {off : Int} {tgt : Nat} (hdg : decode cc pc = .ok (.ifCond .le off, 3)) (ht : (pc : Int) + off = (tgt : Int)) (h1 : a < 2 ^ 31)
    (kt : a = 0 → W p l e R s m args below meth c H locs cells slots Q (F0 m tgt ls rest)) (kf : ¬ a = 0 → W p l e R s m args below meth c H locs cells slots Q (F0 m (pc + 3) ls rest)) : W p l e R s m args below meth c H locs cells slots Q (F0 m pc ls (.int (nI a) :: rest)) :=
  lv_if_le hexec hb hdg ht (fun h => kt (by have := (nI_leI h1 (by omega : 0 < 2 ^ 31)).mp h; omega)) (fun h => kf (fun q => h ((nI_leI h1 (by omega : 0 < 2 ^ 31)).mpr (by omega))))
/-- truth values -/
theorem hx_ifB {b : Bool} (hexec : p.tables.exec = Jvm.exec) (hb : c.code = cc) {off : Int} {tgt : Nat} (hdg : decode cc pc = .ok (.ifCond .eq off, 3)) (ht : (pc : Int) + off = (tgt : Int))
    (kt : b = false → W p l e R s m args below meth c H locs cells slots Q (F0 m tgt ls rest)) (kf : b = true → W p l e R s m args below meth c H locs cells slots Q (F0 m (pc + 3) ls rest)) : W p l e R s m args below meth c H locs cells slots Q (F0 m pc ls (.int (bI b) :: rest)) :=
  lv_if_eq hexec hb hdg ht (fun h => kt (bI_0.mp h)) (fun h => kf (bI_n0.mp h))
theorem hx_ifnB {b : Bool} (hexec : p.tables.exec = Jvm.exec) (hb : c.code = cc) {off : Int} {tgt : Nat} (hdg : decode cc pc = .ok (.ifCond .ne off, 3)) (ht : (pc : Int) + off = (tgt : Int))
    (kt : b = true → W p l e R s m args below meth c H locs cells slots Q (F0 m tgt ls rest)) (kf : b = false → W p l e R s m args below meth c H locs cells slots Q (F0 m (pc + 3) ls rest)) : W p l e R s m args below meth c H locs cells slots Q (F0 m pc ls (.int (bI b) :: rest)) :=
  lv_if_ne hexec hb hdg ht (fun h => kt (bI_n0.mp h)) (fun h => kf (bI_0.mp h))
/-! arrays -/
variable {D : va_G} {cl : List vw_C} {A : Nat → Prop} {a : Nat} {tys : List (ClassId × FieldType)} {ws : va_W} {H0 : Heap}
theorem hx_iald (hexec : p.tables.exec = Jvm.exec) (hb : c.code = cc) (hK : va_K D cl tys s) (hP : va_P D cl ws H) (q0 t0 : Nat) {cA : ClassId} {n : Nat} {f : Nat → Int32} (ha : ws[q0]? = some (a, .inl (cA, n, .inl f))) (ht : tys[t0]? = some (cA, .int)) {i : Nat} (hi : i < n) (hn : n < 2 ^ 31) (hdg : decode cc pc = .ok (.iaload, 1))
    (kk : W p l e R s m args below meth c H locs cells slots Q (F0 m (pc + 1) ls (.int (f i) :: rest))) : W p l e R s m args below meth c H locs cells slots Q (F0 m pc ls (.int (nI i) :: .ref a :: rest)) :=
  va_iald hexec hb hK hP q0 t0 ha ht (vp_in_nI hi hn) hdg (by rw [nI_clamp (by omega)]; exact kk)
theorem hx_ialdN (hexec : p.tables.exec = Jvm.exec) (hb : c.code = cc) (hK : va_K D cl tys s) (hP : va_P D cl ws H) (q0 t0 : Nat) {cA : ClassId} {n : Nat} {f : Nat → Nat} (ha : ws[q0]? = some (a, .inl (cA, n, .inl (fun k => nI (f k))))) (ht : tys[t0]? = some (cA, .int)) {i : Nat} (hi : i < n) (hn : n < 2 ^ 31) (hdg : decode cc pc = .ok (.iaload, 1))
    (kk : W p l e R s m args below meth c H locs cells slots Q (F0 m (pc + 1) ls (.int (nI (f i)) :: rest))) : W p l e R s m args below meth c H locs cells slots Q (F0 m pc ls (.int (nI i) :: .ref a :: rest)) :=
  hx_iald hexec hb hK hP q0 t0 ha ht hi hn hdg kk
theorem hx_zald (hexec : p.tables.exec = Jvm.exec) (hb : c.code = cc) (hK : va_K D cl tys s) (hP : va_P D cl ws H) (q0 t0 : Nat) {cA : ClassId} {n : Nat} {f : Nat → Bool} (ha : ws[q0]? = some (a, .inl (cA, n, .inl (fun k => bI (f k))))) (ht : tys[t0]? = some (cA, .boolean)) {i : Nat} (hi : i < n) (hn : n < 2 ^ 31) (hdg : decode cc pc = .ok (.baload, 1))
    (kk : W p l e R s m args below meth c H locs cells slots Q (F0 m (pc + 1) ls (.int (bI (f i)) :: rest))) : W p l e R s m args below meth c H locs cells slots Q (F0 m pc ls (.int (nI i) :: .ref a :: rest)) :=
  va_zald hexec hb hK hP q0 t0 ha ht (vp_in_nI hi hn) hdg (by rw [nI_clamp (by omega)]; exact kk)
theorem hx_aald (hexec : p.tables.exec = Jvm.exec) (hb : c.code = cc) (hK : va_K D cl tys s) (hP : va_P D cl ws H) (q0 t0 : Nat) {cA : ClassId} {C : String} {n : Nat} {f : Nat → Nat} (ha : ws[q0]? = some (a, .inl (cA, n, .inr (.inr (.inr (.inr (fun k => some (f k)))))))) (ht : tys[t0]? = some (cA, .object C)) {i : Nat} (hi : i < n) (hn : n < 2 ^ 31) (hdg : decode cc pc = .ok (.aaload, 1))
    (kk : W p l e R s m args below meth c H locs cells slots Q (F0 m (pc + 1) ls (.ref (f i) :: rest))) : W p l e R s m args below meth c H locs cells slots Q (F0 m pc ls (.int (nI i) :: .ref a :: rest)) :=
  va_aldq hexec hb hK hP q0 t0 ha ht (vp_in_nI hi hn) hdg (by rw [nI_clamp (by omega)]; exact kk)
theorem hx_iast (hexec : p.tables.exec = Jvm.exec) (hb : c.code = cc) (hK : va_K D cl tys s) (hP : va_P D cl ws H) (hD : va_D A ws) (hS : va_S A H0 H locs) (q0 t0 : Nat) {cA : ClassId} {n : Nat} {f : Nat → Int32} (ha : ws[q0]? = some (a, .inl (cA, n, .inl f))) (ht : tys[t0]? = some (cA, .int)) {i : Nat} {x : Int32} (hi : i < n) (hn : n < 2 ^ 31) (hdg : decode cc pc = .ok (.iastore, 1))
    (kk : ∀ (H1 : Heap) (locs1 : List Loc), va_P D cl (ws.set q0 (a, .inl (cA, n, .inl (upd f i x)))) H1 → va_D A (ws.set q0 (a, .inl (cA, n, .inl (upd f i x)))) → va_S A H0 H1 locs1 → W p l e R s m args below meth c H1 locs1 cells slots Q (F0 m (pc + 1) ls rest)) : W p l e R s m args below meth c H locs cells slots Q (F0 m pc ls (.int x :: .int (nI i) :: .ref a :: rest)) :=
  va_iast hexec hb hK hP hD hS q0 t0 ha ht (vp_in_nI hi hn) hdg (by rw [nI_clamp (by omega)]; exact kk)
theorem upd_nI (f : Nat → Nat) (i v : Nat) : upd (fun k => nI (f k)) i (nI v) = fun k => nI (va_up f i v k) := by
  funext j
  unfold upd va_up
  split <;> rfl
theorem hx_iastN (hexec : p.tables.exec = Jvm.exec) (hb : c.code = cc) (hK : va_K D cl tys s) (hP : va_P D cl ws H) (hD : va_D A ws) (hS : va_S A H0 H locs) (q0 t0 : Nat) {cA : ClassId} {n : Nat} {f : Nat → Nat} (ha : ws[q0]? = some (a, .inl (cA, n, .inl (fun k => nI (f k))))) (ht : tys[t0]? = some (cA, .int)) {i v : Nat} (hi : i < n) (hn : n < 2 ^ 31) (hdg : decode cc pc = .ok (.iastore, 1))
    (kk : ∀ (H1 : Heap) (locs1 : List Loc), va_P D cl (ws.set q0 (a, .inl (cA, n, .inl (fun k => nI (va_up f i v k))))) H1 → va_D A (ws.set q0 (a, .inl (cA, n, .inl (fun k => nI (va_up f i v k))))) → va_S A H0 H1 locs1 → W p l e R s m args below meth c H1 locs1 cells slots Q (F0 m (pc + 1) ls rest)) : W p l e R s m args below meth c H locs cells slots Q (F0 m pc ls (.int (nI v) :: .int (nI i) :: .ref a :: rest)) :=
  hx_iast hexec hb hK hP hD hS q0 t0 ha ht hi hn hdg (by rw [upd_nI]; exact kk)
theorem upd_bI (f : Nat → Bool) (i : Nat) (v : Bool) : upd (fun k => bI (f k)) i (vp_nar .boolean (bI v)) = fun k => bI (va_up f i v k) := by
  funext j
  unfold upd va_up
  split
  · cases v <;> decide
  · rfl
theorem hx_zast (hexec : p.tables.exec = Jvm.exec) (hb : c.code = cc) (hK : va_K D cl tys s) (hP : va_P D cl ws H) (hD : va_D A ws) (hS : va_S A H0 H locs) (q0 t0 : Nat) {cA : ClassId} {n : Nat} {f : Nat → Bool} (ha : ws[q0]? = some (a, .inl (cA, n, .inl (fun k => bI (f k))))) (ht : tys[t0]? = some (cA, .boolean)) {i : Nat} {v : Bool} (hi : i < n) (hn : n < 2 ^ 31) (hdg : decode cc pc = .ok (.bastore, 1))
    (kk : ∀ (H1 : Heap) (locs1 : List Loc), va_P D cl (ws.set q0 (a, .inl (cA, n, .inl (fun k => bI (va_up f i v k))))) H1 → va_D A (ws.set q0 (a, .inl (cA, n, .inl (fun k => bI (va_up f i v k))))) → va_S A H0 H1 locs1 → W p l e R s m args below meth c H1 locs1 cells slots Q (F0 m (pc + 1) ls rest)) : W p l e R s m args below meth c H locs cells slots Q (F0 m pc ls (.int (bI v) :: .int (nI i) :: .ref a :: rest)) :=
  va_zast hexec hb hK hP hD hS q0 t0 ha ht (vp_in_nI hi hn) hdg (by rw [nI_clamp (by omega), upd_bI]; exact kk)
/-! reading calls: the heap stays, the answer is a number -/
theorem hx_read {v : Int32} {a : Array Value} {st0 : List Value} (hr : va_Run p l e R s m args below meth c H locs cells slots 0 0 (F0 m pc ls st0) rest (vp_Si (fun r => r = v) a) (fun _ => False))
    (kk : W p l e R s m args below meth c H locs cells slots Q (F0 m (pc + 3) ls (.int v :: rest))) : W p l e R s m args below meth c H locs cells slots Q (F0 m pc ls st0) :=
  vp_callSi hr.run (fun r hr => by rw [hr]; exact kk)
end HX
/-- what a reading method is told: the cells, the tables' words, the links between nest mates -/
def rdP (D : va_G) (cl : List vw_C) (ws : va_W) (tys : List (ClassId × FieldType)) (nst : List Cond) (U : State) : Prop := va_P D cl ws U.heap ∧ va_K D cl tys U ∧ ∀ w ∈ nst, va_Nw w U
/-- words on nest mates that a warmed machine keeps -/
def nstOk : Cond → Prop
  | .fieldLinkNest _ _ _ _ _ _ => True
  | .methodLinkNest _ _ _ _ => True
  | _ => False
theorem nst_warm {nst : List Cond} (h : ∀ w ∈ nst, nstOk w) {s U : State} (hW : s.WarmedH U.vm) (hN : ∀ w ∈ nst, va_Nw w s) : ∀ w ∈ nst, va_Nw w U := by
  intro w hw
  have h1 := h w hw
  have h2 := hN w hw
  match w, h1, h2 with
  | .fieldLinkNest _ _ _ _ _ _, _, h2 => exact va_Nw.warmF hW h2
  | .methodLinkNest _ _ _ _, _, h2 => exact va_Nw.warmM hW h2
theorem nst_calling {nst : List Cond} (h : ∀ w ∈ nst, nstOk w) {U : State} {g : JFrame} {mk : MethodId} {a : Array Value} (hN : ∀ w ∈ nst, va_Nw w U) : ∀ w ∈ nst, va_Nw w (U.calling g mk a) := by
  intro w hw
  have h1 := h w hw
  have h2 := hN w hw
  match w, h1, h2 with
  | .fieldLinkNest _ _ _ _ _ _, _, h2 => exact va_Nw.same rfl rfl h2
  | .methodLinkNest _ _ _ _, _, h2 => exact va_Nw.same rfl rfl h2
theorem rd_blind {D : va_G} {cl : List vw_C} {ws : va_W} {tys : List (ClassId × FieldType)} {nst : List Cond} (h : ∀ w ∈ nst, nstOk w) {As : List Value} : FrameBlind (va_Pc As (rdP D cl ws tys nst)) := by
  intro a U g mk q
  obtain ⟨q0, qP, qK, qN⟩ := q
  exact ⟨q0, qP, va_K.moved (u := U) (U := U.calling g mk a) (Vm.Alike.refl U.vm) qK, nst_calling h qN⟩
theorem rd_at {D : va_G} {cl : List vw_C} {ws : va_W} {tys : List (ClassId × FieldType)} {nst : List Cond} (h : ∀ w ∈ nst, nstOk w) {s : State} {H : Heap} (hP : va_P D cl ws H) (hK : va_K D cl tys s) (hN : ∀ w ∈ nst, va_Nw w s) {U : State} (hU : U.heap = H) (hW : s.WarmedH U.vm) : rdP D cl ws tys nst U :=
  ⟨by rw [hU]; exact hP, va_K.moved hW.alike hK, nst_warm h hW hN⟩
theorem rd_S {D : va_G} {cl : List vw_C} {ws : va_W} {tys : List (ClassId × FieldType)} {nst : List Cond} (h : ∀ w ∈ nst, nstOk w) {s : State} {H : Heap} (hP : va_P D cl ws H) (hK : va_K D cl tys s) (hN : ∀ w ∈ nst, va_Nw w s) (As : List Value) : PreS s H (va_Pc As (rdP D cl ws tys nst)) As :=
  ⟨rd_blind h, fun _ hU hW => ⟨rfl, rd_at h hP hK hN hU hW⟩⟩
theorem rd_V {D : va_G} {cl : List vw_C} {ws : va_W} {tys : List (ClassId × FieldType)} {nst : List Cond} (h : ∀ w ∈ nst, nstOk w) {s : State} {H : Heap} (hP : va_P D cl ws H) (hK : va_K D cl tys s) (hN : ∀ w ∈ nst, va_Nw w s) {b ci : Nat} {C : String} {T : u_T} {n : Nat} {fs : List Value} (q0 : Nat) (he : ws[q0]? = some (b, .inr (ci, fs))) (hc : cl[ci]? = some (C, T, n)) (As : List Value) : PreV s H C b (va_Pc (.ref b :: As) (rdP D cl ws tys nst)) As :=
  ⟨rd_blind h, va_recv hK hP (ci := ci) (q0 := q0) (q := (C, T, n)) hc he, fun _ hU hW => ⟨rfl, rd_at h hP hK hN hU hW⟩⟩
/-- a method that looks at nothing but its numbers -/
theorem nu_S {s : State} {H : Heap} (As : List Value) : PreS s H (va_Pc As (fun _ => True)) As := ⟨fun _ _ _ _ q => q, fun _ _ _ => ⟨rfl, trivial⟩⟩
/-- contracts: a reading method; a method of numbers alone -/
def RdM (l : Launch) (y : MethodName) (w : List Cond) (rm : Room) (D : va_G) (cl : List vw_C) (ws : va_W) (tys : List (ClassId × FieldType)) (nst : List Cond) (As : List Value) (v : Int32) : Prop := Met l y w rm (va_Pc As (rdP D cl ws tys nst)) (vp_Si (fun r => r = v)) 0 0 (fun _ => False)
def NuM (l : Launch) (y : MethodName) (w : List Cond) (rm : Room) (As : List Value) (v : Int32) : Prop := Met l y w rm (va_Pc As (fun _ => True)) (vp_Si (fun r => r = v)) 0 0 (fun _ => False)
/-- a writing method: its cells before, its cells behind, its answer -/
def wrP (D : va_G) (cl : List vw_C) (ws : va_W) (tys : List (ClassId × FieldType)) (nst : List Cond) (sz : Nat) (U : State) : Prop := U.heap.size = sz ∧ rdP D cl ws tys nst U ∧ va_D (fun _ => True) ws
def wrB (D : va_G) (cl : List vw_C) (ws ws' : va_W) (tys : List (ClassId × FieldType)) (sz : Nat) (_ : Unit) (t : State) : Prop := va_P D cl ws' t.heap ∧ va_K D cl tys t ∧ va_D (va_A ws sz) ws'
def WrV (l : Launch) (y : MethodName) (w : List Cond) (rm : Room) (D : va_G) (cl : List vw_C) (ws ws' : va_W) (tys : List (ClassId × FieldType)) (nst : List Cond) (As : List Value) : Prop := ∀ sz : Nat, Met l y w rm (va_Pc As (wrP D cl ws tys nst sz)) (va_Qv (fun _ : Unit => True) (wrB D cl ws ws' tys sz) (va_A ws sz)) 0 0 (va_A ws sz)
def WrI (l : Launch) (y : MethodName) (w : List Cond) (rm : Room) (D : va_G) (cl : List vw_C) (ws ws' : va_W) (tys : List (ClassId × FieldType)) (nst : List Cond) (As : List Value) (v : Int32) : Prop := ∀ sz : Nat, Met l y w rm (va_Pc As (wrP D cl ws tys nst sz)) (va_Qi (fun (r : Int32) (_ : Unit) => r = v) (wrB D cl ws ws' tys sz) (va_A ws sz)) 0 0 (va_A ws sz)
theorem wr_blind {D : va_G} {cl : List vw_C} {ws : va_W} {tys : List (ClassId × FieldType)} {nst : List Cond} (h : ∀ w ∈ nst, nstOk w) {As : List Value} {sz : Nat} : FrameBlind (va_Pc As (wrP D cl ws tys nst sz)) := by
  intro a U g mk q
  obtain ⟨q0, q1, ⟨qP, qK, qN⟩, qD⟩ := q
  exact ⟨q0, q1, ⟨qP, va_K.moved (u := U) (U := U.calling g mk a) (Vm.Alike.refl U.vm) qK, nst_calling h qN⟩, qD⟩
theorem wr_at {D : va_G} {cl : List vw_C} {ws : va_W} {tys : List (ClassId × FieldType)} {nst : List Cond} (h : ∀ w ∈ nst, nstOk w) {s : State} {H : Heap} {A : Nat → Prop} (hP : va_P D cl ws H) (hK : va_K D cl tys s) (hN : ∀ w ∈ nst, va_Nw w s) (hD : va_D A ws) {U : State} (hU : U.heap = H) (hW : s.WarmedH U.vm) : wrP D cl ws tys nst H.size U :=
  ⟨by rw [hU], rd_at h hP hK hN hU hW, hD.weaken (fun _ _ _ _ => trivial)⟩
theorem wr_S {D : va_G} {cl : List vw_C} {ws : va_W} {tys : List (ClassId × FieldType)} {nst : List Cond} (h : ∀ w ∈ nst, nstOk w) {s : State} {H : Heap} {A : Nat → Prop} (hP : va_P D cl ws H) (hK : va_K D cl tys s) (hN : ∀ w ∈ nst, va_Nw w s) (hD : va_D A ws) (As : List Value) : PreS s H (va_Pc As (wrP D cl ws tys nst H.size)) As :=
  ⟨wr_blind h, fun _ hU hW => ⟨rfl, wr_at h hP hK hN hD hU hW⟩⟩
theorem wr_V {D : va_G} {cl : List vw_C} {ws : va_W} {tys : List (ClassId × FieldType)} {nst : List Cond} (h : ∀ w ∈ nst, nstOk w) {s : State} {H : Heap} {A : Nat → Prop} (hP : va_P D cl ws H) (hK : va_K D cl tys s) (hN : ∀ w ∈ nst, va_Nw w s) (hD : va_D A ws) {b ci : Nat} {C : String} {T : u_T} {n : Nat} {fs : List Value} (q0 : Nat) (he : ws[q0]? = some (b, .inr (ci, fs))) (hc : cl[ci]? = some (C, T, n)) (As : List Value) : PreV s H C b (va_Pc (.ref b :: As) (wrP D cl ws tys nst H.size)) As :=
  ⟨wr_blind h, va_recv hK hP (ci := ci) (q0 := q0) (q := (C, T, n)) hc he, fun _ hU hW => ⟨rfl, wr_at h hP hK hN hD hU hW⟩⟩
theorem wr_all {A0 : Nat → Prop} {ws : va_W} {H0 H : Heap} {locs : List Loc} (hD : va_D A0 ws) (hS : va_S A0 H0 H locs) (hA : ∀ q, H0.size ≤ q → A0 q) : ∀ q, va_A ws H.size q → A0 q := by
  intro q h
  rcases h with ⟨k, e, h⟩ | h
  · exact hD.2 k _ h
  · exact hA q (Nat.le_trans hS.1 h)
section HW
variable {p : Program} {l : Launch} {e : Env} {R : Room} {s : State} {m : MethodId} {args : Array Value} {below : List Frame} {meth : Method} {c : Code} {H : Heap} {locs : List Loc} {cells slots : Nat} {Q : State → Prop}
variable {cc : ByteArray} {pc : Nat} {ls : Array Slot} {rest : List Value} {D : va_G} {cl : List vw_C} {A : Nat → Prop} {tys : List (ClassId × FieldType)} {ws ws' : va_W} {H0 : Heap}
/-- behind a writing call over all the caller's cells -/
theorem hx_wrv {a : Array Value} {st0 : List Value} (hr : va_Run p l e R s m args below meth c H locs cells slots 0 0 (F0 m pc ls st0) rest (va_Qv (fun _ : Unit => True) (wrB D cl ws ws' tys H.size) (va_A ws H.size) a) (va_A ws H.size)) (hD : va_D A ws) (hS : va_S A H0 H locs) (hA : ∀ q, H0.size ≤ q → A q)
    (kk : ∀ (H1 : Heap) (locs1 : List Loc), va_P D cl ws' H1 → va_D A ws' → va_S A H0 H1 locs1 → W p l e R s m args below meth c H1 locs1 cells slots Q (F0 m (pc + 3) ls rest)) : W p l e R s m args below meth c H locs cells slots Q (F0 m pc ls st0) :=
  va_callv hr hS (fun q _ h => wr_all hD hS hA q h) (wr_all hD hS hA) (fun u t H1 locs1 ht hvm _ hB hz1 hk1 hS1 => by
    obtain ⟨hP1, hK1, hD1⟩ := hB
    rw [ht] at hP1
    exact kk H1 locs1 hP1 ⟨hD1.1, fun k q hq => wr_all hD hS hA _ (hD1.2 k q hq)⟩ hS1)
theorem hx_wri {v : Int32} {a : Array Value} {st0 : List Value} (hr : va_Run p l e R s m args below meth c H locs cells slots 0 0 (F0 m pc ls st0) rest (va_Qi (fun (r : Int32) (_ : Unit) => r = v) (wrB D cl ws ws' tys H.size) (va_A ws H.size) a) (va_A ws H.size)) (hD : va_D A ws) (hS : va_S A H0 H locs) (hA : ∀ q, H0.size ≤ q → A q)
    (kk : ∀ (H1 : Heap) (locs1 : List Loc), va_P D cl ws' H1 → va_D A ws' → va_S A H0 H1 locs1 → W p l e R s m args below meth c H1 locs1 cells slots Q (F0 m (pc + 3) ls (.int v :: rest))) : W p l e R s m args below meth c H locs cells slots Q (F0 m pc ls st0) :=
  va_calli hr hS (fun q _ h => wr_all hD hS hA q h) (wr_all hD hS hA) (fun r u t H1 locs1 ht hvm hw hB hz1 hk1 hS1 => by
    obtain ⟨hP1, hK1, hD1⟩ := hB
    rw [ht] at hP1
    have hw : r = v := hw
    rw [hw]
    exact kk H1 locs1 hP1 ⟨hD1.1, fun k q hq => wr_all hD hS hA _ (hD1.2 k q hq)⟩ hS1)
end HW
end
section
/-! how many bits a number has: what java/lang/Integer.bitCount makes -/
theorem and_cat {u s v t : Nat} (hv : v < 2 ^ 8) (ht : t < 2 ^ 8) : (2 ^ 8 * u + v) &&& (2 ^ 8 * s + t) = 2 ^ 8 * (u &&& s) + (v &&& t) := by
  apply Nat.eq_of_testBit_eq
  intro j
  rw [Nat.testBit_and, Nat.testBit_two_pow_mul_add _ hv, Nat.testBit_two_pow_mul_add _ ht, Nat.testBit_two_pow_mul_add _ (Nat.and_lt_two_pow _ ht)]
  split
  · rw [Nat.testBit_and]
  · rw [Nat.testBit_and]
theorem and4 (m d0 d1 d2 d3 : Nat) (hm : m < 256) (h0 : d0 < 256) (h1 : d1 < 256) (h2 : d2 < 256) : (d0 + 256 * d1 + 65536 * d2 + 16777216 * d3) &&& (m * 16843009) = (d0 &&& m) + 256 * (d1 &&& m) + 65536 * (d2 &&& m) + 16777216 * (d3 &&& m) := by
  rw [show d0 + 256 * d1 + 65536 * d2 + 16777216 * d3 = 2 ^ 8 * (2 ^ 8 * (2 ^ 8 * d3 + d2) + d1) + d0 by omega, show m * 16843009 = 2 ^ 8 * (2 ^ 8 * (2 ^ 8 * m + m) + m) + m by omega, and_cat (by omega) (by omega), and_cat (by omega) (by omega), and_cat (by omega) (by omega)]
  omega
def pb1 (d : Nat) : Nat := d - ((d / 2) &&& 85)
def pb2 (d : Nat) : Nat := (pb1 d &&& 51) + ((pb1 d / 4) &&& 51)
def popB (a : Nat) : Nat := a % 2 + a / 2 % 2 + a / 4 % 2 + a / 8 % 2 + a / 16 % 2 + a / 32 % 2 + a / 64 % 2 + a / 128 % 2
theorem pb_1 : ∀ d, d < 256 → ((d / 2) &&& 85) ≤ d ∧ (d / 2 + 128) &&& 85 = (d / 2) &&& 85 := by decide +kernel
theorem pb_2 : ∀ d, d < 256 → ∀ r, r < 4 → (d / 4 + 64 * r) &&& 51 = (d / 4) &&& 51 := by decide +kernel
theorem pb_3 : ∀ d, d < 256 → pb2 d < 128 ∧ pb2 d % 16 < 5 ∧ ∀ r, r < 5 → (pb2 d + pb2 d / 16 + 16 * r) < 256 ∧ (pb2 d + pb2 d / 16 + 16 * r) &&& 15 = popB d := by decide +kernel
theorem pb_4 : ∀ d, d < 256 → popB d ≤ 8 := by decide +kernel
theorem pb1_lt {d : Nat} (h : d < 256) : pb1 d < 256 := by unfold pb1; omega
theorem pb_1' {d : Nat} (h : d < 256) (r : Nat) (hr : r < 2) : (d / 2 + 128 * r) &&& 85 = (d / 2) &&& 85 := by
  rcases (show r = 0 ∨ r = 1 by omega) with q | q
  · rw [q, Nat.mul_zero, Nat.add_zero]
  · rw [q, Nat.mul_one]; exact (pb_1 d h).2
/-- the steps, on natural numbers -/
def bn1 (a : Nat) : Nat := a - ((a / 2) &&& 1431655765)
def bn2 (a : Nat) : Nat := (bn1 a &&& 858993459) + ((bn1 a / 4) &&& 858993459)
def bn3 (a : Nat) : Nat := (bn2 a + bn2 a / 16) &&& 252645135
def bn4 (a : Nat) : Nat := bn3 a + bn3 a / 256
def bn5 (a : Nat) : Nat := bn4 a + bn4 a / 65536
theorem bn_1 {d0 d1 d2 d3 : Nat} (h0 : d0 < 256) (h1 : d1 < 256) (h2 : d2 < 256) (h3 : d3 < 256) : ((d0 + 256 * d1 + 65536 * d2 + 16777216 * d3) / 2 &&& 1431655765) = ((d0 / 2) &&& 85) + 256 * ((d1 / 2) &&& 85) + 65536 * ((d2 / 2) &&& 85) + 16777216 * ((d3 / 2) &&& 85) := by
  rw [show (d0 + 256 * d1 + 65536 * d2 + 16777216 * d3) / 2 = (d0 / 2 + 128 * (d1 % 2)) + 256 * (d1 / 2 + 128 * (d2 % 2)) + 65536 * (d2 / 2 + 128 * (d3 % 2)) + 16777216 * (d3 / 2) by omega, show (1431655765 : Nat) = 85 * 16843009 from rfl, and4 85 _ _ _ _ (by omega) (by omega) (by omega) (by omega), pb_1' h0 _ (by omega), pb_1' h1 _ (by omega), pb_1' h2 _ (by omega)]
theorem bn1_eq {d0 d1 d2 d3 : Nat} (h0 : d0 < 256) (h1 : d1 < 256) (h2 : d2 < 256) (h3 : d3 < 256) : bn1 (d0 + 256 * d1 + 65536 * d2 + 16777216 * d3) = pb1 d0 + 256 * pb1 d1 + 65536 * pb1 d2 + 16777216 * pb1 d3 := by
  unfold bn1 pb1
  rw [bn_1 h0 h1 h2 h3]
  have a0 := (pb_1 d0 h0).1; have a1 := (pb_1 d1 h1).1; have a2 := (pb_1 d2 h2).1; have a3 := (pb_1 d3 h3).1
  omega
theorem bn2_eq {d0 d1 d2 d3 : Nat} (h0 : d0 < 256) (h1 : d1 < 256) (h2 : d2 < 256) (h3 : d3 < 256) : bn2 (d0 + 256 * d1 + 65536 * d2 + 16777216 * d3) = pb2 d0 + 256 * pb2 d1 + 65536 * pb2 d2 + 16777216 * pb2 d3 := by
  have a0 := pb1_lt h0; have a1 := pb1_lt h1; have a2 := pb1_lt h2; have a3 := pb1_lt h3
  unfold bn2
  rw [bn1_eq h0 h1 h2 h3]
  unfold pb2
  generalize pb1 d0 = e0 at *
  generalize pb1 d1 = e1 at *
  generalize pb1 d2 = e2 at *
  generalize pb1 d3 = e3 at *
  rw [show (e0 + 256 * e1 + 65536 * e2 + 16777216 * e3) / 4 = (e0 / 4 + 64 * (e1 % 4)) + 256 * (e1 / 4 + 64 * (e2 % 4)) + 65536 * (e2 / 4 + 64 * (e3 % 4)) + 16777216 * (e3 / 4) by omega, show (858993459 : Nat) = 51 * 16843009 from rfl, and4 51 _ _ _ _ (by omega) (by omega) (by omega) (by omega), and4 51 _ _ _ _ (by omega) (by omega) (by omega) (by omega), pb_2 _ a0 _ (by omega), pb_2 _ a1 _ (by omega), pb_2 _ a2 _ (by omega)]
  omega
theorem bn3_eq {d0 d1 d2 d3 : Nat} (h0 : d0 < 256) (h1 : d1 < 256) (h2 : d2 < 256) (h3 : d3 < 256) : bn3 (d0 + 256 * d1 + 65536 * d2 + 16777216 * d3) = popB d0 + 256 * popB d1 + 65536 * popB d2 + 16777216 * popB d3 := by
  obtain ⟨a0, b0, c0⟩ := pb_3 d0 h0
  obtain ⟨a1, b1, c1⟩ := pb_3 d1 h1
  obtain ⟨a2, b2, c2⟩ := pb_3 d2 h2
  obtain ⟨a3, b3, c3⟩ := pb_3 d3 h3
  unfold bn3
  rw [bn2_eq h0 h1 h2 h3]
  have e0 := c0 _ b1; have e1 := c1 _ b2; have e2 := c2 _ b3; have e3 := c3 0 (by omega)
  rw [show pb2 d0 + 256 * pb2 d1 + 65536 * pb2 d2 + 16777216 * pb2 d3 + (pb2 d0 + 256 * pb2 d1 + 65536 * pb2 d2 + 16777216 * pb2 d3) / 16 = (pb2 d0 + pb2 d0 / 16 + 16 * (pb2 d1 % 16)) + 256 * (pb2 d1 + pb2 d1 / 16 + 16 * (pb2 d2 % 16)) + 65536 * (pb2 d2 + pb2 d2 / 16 + 16 * (pb2 d3 % 16)) + 16777216 * (pb2 d3 + pb2 d3 / 16 + 16 * 0) by omega, show (252645135 : Nat) = 15 * 16843009 from rfl, and4 15 _ _ _ _ (by omega) e0.1 e1.1 e2.1, e0.2, e1.2, e2.2, e3.2]
theorem bn5_eq {d0 d1 d2 d3 : Nat} (h0 : d0 < 256) (h1 : d1 < 256) (h2 : d2 < 256) (h3 : d3 < 256) : bn5 (d0 + 256 * d1 + 65536 * d2 + 16777216 * d3) &&& 63 = popB d0 + popB d1 + popB d2 + popB d3 := by
  have a0 := pb_4 d0 h0; have a1 := pb_4 d1 h1; have a2 := pb_4 d2 h2; have a3 := pb_4 d3 h3
  rw [show (63 : Nat) = 2 ^ 6 - 1 from rfl, Nat.and_two_pow_sub_one_eq_mod]
  unfold bn5 bn4
  rw [bn3_eq h0 h1 h2 h3]
  generalize popB d0 = g0 at *
  generalize popB d1 = g1 at *
  generalize popB d2 = g2 at *
  generalize popB d3 = g3 at *
  have e1 : (g0 + 256 * g1 + 65536 * g2 + 16777216 * g3) / 256 = g1 + 256 * g2 + 65536 * g3 := by omega
  rw [e1]
  have e2 : (g0 + 256 * g1 + 65536 * g2 + 16777216 * g3 + (g1 + 256 * g2 + 65536 * g3)) / 65536 = g2 + g3 + 256 * g3 := by omega
  rw [e2]
  have e3 : g0 + 256 * g1 + 65536 * g2 + 16777216 * g3 + (g1 + 256 * g2 + 65536 * g3) + (g2 + g3 + 256 * g3) = (g0 + g1 + g2 + g3) + 64 * (4 * (g1 + g2 + g3) + 1024 * (g2 + g3) + 262144 * g3) := by omega
  rw [e3, show (2 : Nat) ^ 6 = 64 from rfl, Nat.add_mul_mod_self_left]
  exact Nat.mod_eq_of_lt (by omega)
/-- the bits below k, counted -/
def cntB (m : Int32) : Nat → Nat
  | 0 => 0
  | k + 1 => cntB m k + (if bt m k = true then 1 else 0)
theorem bt_nI (a : Nat) {k : Nat} (hk : k < 32) : bt (nI a) k = a.testBit k := by
  show (BitVec.ofNat 32 a).getLsbD k = _
  rw [BitVec.getLsbD_ofNat, decide_eq_true hk, Bool.true_and]
theorem bitN (a : Nat) {k : Nat} (hk : k < 32) : (if bt (nI a) k = true then 1 else 0) = a / 2 ^ k % 2 := by
  rw [bt_nI a hk, Nat.testBit_eq_decide_div_mod_eq]
  by_cases h : a / 2 ^ k % 2 = 1
  · rw [decide_eq_true h, if_pos rfl, h]
  · rw [decide_eq_false h, if_neg (by decide)]
    omega
theorem cnt8 (m : Int32) (k : Nat) : cntB m (k + 8) = cntB m k + (if bt m k = true then 1 else 0) + (if bt m (k + 1) = true then 1 else 0) + (if bt m (k + 2) = true then 1 else 0) + (if bt m (k + 3) = true then 1 else 0) + (if bt m (k + 4) = true then 1 else 0) + (if bt m (k + 5) = true then 1 else 0) + (if bt m (k + 6) = true then 1 else 0) + (if bt m (k + 7) = true then 1 else 0) := rfl
theorem cntByte (a k : Nat) (hk : k + 8 ≤ 32) : cntB (nI a) (k + 8) = cntB (nI a) k + popB (a / 2 ^ k % 256) := by
  rw [cnt8, bitN a (by omega), bitN a (by omega), bitN a (by omega), bitN a (by omega), bitN a (by omega), bitN a (by omega), bitN a (by omega), bitN a (by omega)]
  have e : ∀ j, a / 2 ^ (k + j) = a / 2 ^ k / 2 ^ j := fun j => by rw [Nat.pow_add, Nat.div_div_eq_div_mul]
  rw [e 1, e 2, e 3, e 4, e 5, e 6, e 7]
  generalize a / 2 ^ k = y
  unfold popB
  omega
theorem cnt_pop (a : Nat) (ha : a < 4294967296) : cntB (nI a) 32 = popB (a % 256) + popB (a / 256 % 256) + popB (a / 65536 % 256) + popB (a / 16777216) := by
  have e0 := cntByte a 0 (by omega)
  have e1 := cntByte a 8 (by omega)
  have e2 := cntByte a 16 (by omega)
  have e3 := cntByte a 24 (by omega)
  rw [show (0 : Nat) + 8 = 8 from rfl, show cntB (nI a) 0 = 0 from rfl, Nat.zero_add, show a / 2 ^ 0 = a by omega] at e0
  rw [show (8 : Nat) + 8 = 16 from rfl, e0, show (2 : Nat) ^ 8 = 256 from rfl] at e1
  rw [show (16 : Nat) + 8 = 24 from rfl, e1, show (2 : Nat) ^ 16 = 65536 from rfl] at e2
  rw [show (24 : Nat) + 8 = 32 from rfl, e2, show (2 : Nat) ^ 24 = 16777216 from rfl, Nat.mod_eq_of_lt (a := a / 16777216) (by omega)] at e3
  exact e3
/-- the steps, as the machine does them -/
def bc1 (x : Int32) : Int32 := x - ((x.toUInt32 >>> ((nI 1).toUInt32 &&& Int32.toUInt32 31)).toInt32 &&& 1431655765)
def bc2' (x : Int32) : Int32 := (bc1 x &&& 858993459) + (((bc1 x).toUInt32 >>> ((nI 2).toUInt32 &&& Int32.toUInt32 31)).toInt32 &&& 858993459)
def bc3 (x : Int32) : Int32 := (bc2' x + ((bc2' x).toUInt32 >>> ((nI 4).toUInt32 &&& Int32.toUInt32 31)).toInt32) &&& 252645135
def bc4 (x : Int32) : Int32 := bc3 x + ((bc3 x).toUInt32 >>> ((nI 8).toUInt32 &&& Int32.toUInt32 31)).toInt32
def bc5 (x : Int32) : Int32 := bc4 x + ((bc4 x).toUInt32 >>> ((nI 16).toUInt32 &&& Int32.toUInt32 31)).toInt32
theorem bc_ush {n : Nat} (hn : n < 2 ^ 32) (k : Nat) (hk : k < 32) : ((nI n).toUInt32 >>> ((nI k).toUInt32 &&& Int32.toUInt32 31)).toInt32 = nI (n / 2 ^ k) := pk_ushrN hn (nI k) k (s_u k hk)
theorem bc_ok (x : Int32) : bc5 x &&& nI 63 = nI (cntB x 32) := by
  obtain ⟨a, ha, rfl⟩ : ∃ n, n < 2 ^ 32 ∧ x = nI n := ⟨x.toBitVec.toNat, x.toBitVec.isLt, by
    apply Int32.toBitVec_inj.1
    show x.toBitVec = BitVec.ofNat 32 x.toBitVec.toNat
    simp⟩
  have hb1 : bn1 a ≤ a := by unfold bn1; omega
  have e1 : bc1 (nI a) = nI (bn1 a) := by
    unfold bc1 bn1
    rw [bc_ush ha 1 (by omega), show (1431655765 : Int32) = nI 1431655765 from rfl, nx_and, pk_sub]
    have := Nat.and_le_left (n := a / 2 ^ 1) (m := 1431655765)
    omega
  have e2 : bc2' (nI a) = nI (bn2 a) := by
    unfold bc2' bn2
    rw [e1, bc_ush (by omega) 2 (by omega), show (858993459 : Int32) = nI 858993459 from rfl, nx_and, nx_and, nI_add]
  have hb2 : bn2 a ≤ 1717986918 := by
    unfold bn2
    have q1 := Nat.and_le_right (n := bn1 a) (m := 858993459)
    have q2 := Nat.and_le_right (n := bn1 a / 4) (m := 858993459)
    omega
  have e3 : bc3 (nI a) = nI (bn3 a) := by
    unfold bc3 bn3
    rw [e2, bc_ush (by omega) 4 (by omega), show (252645135 : Int32) = nI 252645135 from rfl, nI_add, nx_and]
  have hb3 : bn3 a ≤ 252645135 := Nat.and_le_right
  have e4 : bc4 (nI a) = nI (bn4 a) := by
    unfold bc4 bn4
    rw [e3, bc_ush (by omega) 8 (by omega), nI_add]
  have hb4 : bn4 a ≤ 2 * 252645135 := by unfold bn4; omega
  have e5 : bc5 (nI a) = nI (bn5 a) := by
    unfold bc5 bn5
    rw [e4, bc_ush (by omega) 16 (by omega), nI_add]
  rw [e5, nx_and, cnt_pop a (by omega)]
  congr 1
  have h := bn5_eq (d0 := a % 256) (d1 := a / 256 % 256) (d2 := a / 65536 % 256) (d3 := a / 16777216) (by omega) (by omega) (by omega) (by omega)
  rw [show a % 256 + 256 * (a / 256 % 256) + 65536 * (a / 65536 % 256) + 16777216 * (a / 16777216) = a by omega] at h
  exact h
theorem cnt25 {m : Int32} (h : lt25 m) : cntB m 32 = cntB m 25 := by
  have e : ∀ k, 25 ≤ k → cntB m (k + 1) = cntB m k := fun k hk => by rw [cntB, h k hk, if_neg (by decide), Nat.add_zero]
  rw [e 31 (by omega), e 30 (by omega), e 29 (by omega), e 28 (by omega), e 27 (by omega), e 26 (by omega), e 25 (by omega)]
end
section
/-! the cells of the system: the keeper, its book, its rules, its arrays; of the reference; the links between nest mates -/
def nstW : List Cond := [.methodLinkNest RX0 21 yX2_turned "ViewKeeper", .methodLinkNest RX0 25 yX2_joined "ViewKeeper", .methodLinkNest RX0 33 yX2_holds "ViewKeeper", .methodLinkNest RX1 17 yX0_init "ViewKeeper", .methodLinkNest RX1 47 yX0_body "ViewKeeper", .methodLinkNest RX2 9 yX1_init "ViewKeeper", .methodLinkNest RX2 43 yX1_write "ViewKeeper", .methodLinkNest RX2 47 yX1_hasCycle "ViewKeeper", .methodLinkNest RX2 51 yX1_strikeLast "ViewKeeper", .methodLinkNest RX2 99 yX1_leadsTo "ViewKeeper", .methodLinkNest RX2 112 yX0_instances "ViewKeeper", .methodLinkNest RX2 133 yX1_layerOf "ViewKeeper", .methodLinkNest RX2 161 yX0_given "ViewKeeper", .fieldLinkNest RX1 26 "ViewKeeper$Rule" "head" "I" "ViewKeeper", .fieldLinkNest RX1 29 "ViewKeeper$Rule" "form" "I" "ViewKeeper", .fieldLinkNest RX1 32 "ViewKeeper$Rule" "p" "I" "ViewKeeper", .fieldLinkNest RX1 35 "ViewKeeper$Rule" "q" "I" "ViewKeeper", .fieldLinkNest RX2 39 "ViewKeeper$RuleBook" "made" "I" "ViewKeeper", .fieldLinkNest RX2 103 "ViewKeeper$RuleBook" "rows" "[LViewKeeper$Rule;" "ViewKeeper", .fieldLinkNest RX2 107 "ViewKeeper$Rule" "head" "I" "ViewKeeper", .fieldLinkNest RX2 140 "ViewKeeper$Rule" "p" "I" "ViewKeeper", .fieldLinkNest RX2 143 "ViewKeeper$Rule" "q" "I" "ViewKeeper", .fieldLinkNest RX2 149 "ViewKeeper$Rule" "form" "I" "ViewKeeper"]
theorem nstW_ok : ∀ w ∈ nstW, nstOk w := by
  intro w hw
  simp only [nstW, List.mem_cons, List.not_mem_nil, or_false] at hw
  rcases hw with rfl | rfl | rfl | rfl | rfl | rfl | rfl | rfl | rfl | rfl | rfl | rfl | rfl | rfl | rfl | rfl | rfl | rfl | rfl | rfl | rfl | rfl | rfl <;> exact trivial
/-- contents that agree on the places that there are -/
theorem cell_congr (cA : ClassId) {n : Nat} {f g : Nat → Int32} (h : ∀ k, k < n → f k = g k) : vp_cell cA (n, .inl f) = vp_cell cA (n, .inl g) := by
  rw [vp_cell_i, vp_cell_i]
  unfold arrV
  congr 1
  apply Array.ext
  · simp
  · intro i h1 h2
    simp at h1
    simp [h i h1]
theorem va_P.arr {D : va_G} {cl : List vw_C} {ws : va_W} {H : Heap} (hP : va_P D cl ws H) (q0 : Nat) {a : Nat} {cA : ClassId} {n : Nat} {f : Nat → Int32} (g : Nat → Int32) (he : ws[q0]? = some (a, .inl (cA, n, .inl f))) (h : ∀ k, k < n → f k = g k) : va_P D cl (ws.set q0 (a, .inl (cA, n, .inl g))) H := by
  intro k q hk
  by_cases e : q0 = k
  · subst e
    have hl := (List.getElem?_eq_some_iff.mp he).1
    rw [List.getElem?_set_self hl] at hk
    cases hk
    show H[a]? = some (vp_cell cA (n, .inl g))
    rw [← cell_congr cA h]
    exact hP q0 _ he
  · rw [List.getElem?_set_ne e] at hk
    exact hP k q hk
/-- one array, by itself: what Arrays.fill is told -/
def arW (ad : Nat) (cX : ClassId) (k : Nat) (f : Nat → Int32) : va_W := [(ad, .inl (cX, k, .inl f))]
section HV
variable {p : Program} {l : Launch} {e : Env} {R : Room} {s : State} {m : MethodId} {args : Array Value} {below : List Frame} {meth : Method} {c : Code} {H : Heap} {locs : List Loc} {cells slots : Nat} {Q : State → Prop}
variable {cc : ByteArray} {pc : Nat} {ls : Array Slot} {rest : List Value} {D : va_G} {cl : List vw_C} {A : Nat → Prop} {tys : List (ClassId × FieldType)} {ws : va_W} {H0 : Heap}
/-- behind a writing call over one of the caller's cells -/
theorem hx_wrv1 {ad : Nat} {e0 e1 : va_E} {a : Array Value} {st0 : List Value} (hr : va_Run p l e R s m args below meth c H locs cells slots 0 0 (F0 m pc ls st0) rest (va_Qv (fun _ : Unit => True) (wrB D cl [(ad, e0)] [(ad, e1)] tys H.size) (va_A [(ad, e0)] H.size) a) (va_A [(ad, e0)] H.size)) (q0 : Nat) (hP : va_P D cl ws H) (he : ws[q0]? = some (ad, e0)) (hD : va_D A ws) (hS : va_S A H0 H locs) (hA : ∀ q, H0.size ≤ q → A q)
    (kk : ∀ (H1 : Heap) (locs1 : List Loc), va_P D cl (ws.set q0 (ad, e1)) H1 → va_D A (ws.set q0 (ad, e1)) → va_S A H0 H1 locs1 → W p l e R s m args below meth c H1 locs1 cells slots Q (F0 m (pc + 3) ls rest)) : W p l e R s m args below meth c H locs cells slots Q (F0 m pc ls st0) := by
  have hF : ∀ q, va_A [(ad, e0)] H.size q → A q := by
    intro q h
    rcases h with ⟨k, e2, h⟩ | h
    · have : q = ad := by
        match k, h with
        | 0, h => cases h; rfl
        | k + 1, h => simp at h
      rw [this]
      exact hD.2 q0 _ he
    · exact hA q (Nat.le_trans hS.1 h)
  refine va_callv hr hS (fun q _ h => hF q h) hF (fun u t H1 locs1 ht hvm _ hB hz1 hk1 hS1 => ?_)
  obtain ⟨hP1, hK1, hD1⟩ := hB
  rw [ht] at hP1
  refine kk H1 locs1 ?_ (hD.set he) hS1
  intro k q hk
  by_cases e2 : q0 = k
  · subst e2
    have hl := (List.getElem?_eq_some_iff.mp he).1
    rw [List.getElem?_set_self hl] at hk
    cases hk
    exact hP1 0 _ rfl
  · rw [List.getElem?_set_ne e2] at hk
    refine (hP k q hk).kept (hk1 q.1 (va_at.lt (hP k q hk)) ?_)
    intro h
    rcases h with ⟨j, e3, h⟩ | h
    · have : q.1 = ad := by
        match j, h with
        | 0, h => cases h; rfl
        | j + 1, h => simp at h
      exact e2 (hD.1 q0 k _ _ he hk this.symm)
    · exact absurd (va_at.lt (hP k q hk)) (Nat.not_lt.mpr h)
end HV
/-- the keeper's cells: a its addresses (0 the keeper, 1 the book, 2 the rows, 3 needed, 4 now, 5 before, 6 suspects, 7 and 8 what is staged, 9 and on the rules), cA the arrays' own kinds -/
def vkW (a : Nat → Nat) (cA : Nat → ClassId) (n : Nat) (hd fm rp rq : Nat → Nat) (nd nw bf su sI sO : Nat → Int32) : va_W :=
  [(a 0, .inr (2, [.ref (a 1), .ref (a 4), .ref (a 5), .ref (a 6), .ref (a 7), .ref (a 8)])), (a 1, .inr (1, [.ref (a 2), .ref (a 3), .int (nI n)])), (a 2, .inl (cA 2, 12, .inr (.inr (.inr (.inr (fun k => some (a (9 + k)))))))), (a 3, .inl (cA 3, 7, .inl nd)), (a 4, .inl (cA 4, 7, .inl nw)), (a 5, .inl (cA 5, 7, .inl bf)), (a 6, .inl (cA 6, 7, .inl su)), (a 7, .inl (cA 7, 2, .inl sI)), (a 8, .inl (cA 8, 2, .inl sO))] ++ (List.range 12).map (fun k => (a (9 + k), .inr (0, [.int (nI (hd k)), .int (nI (fm k)), .int (nI (rp k)), .int (nI (rq k))])))
def vkT (cA : Nat → ClassId) : List (ClassId × FieldType) := [(cA 2, .object RX0), (cA 3, .int), (cA 4, .int), (cA 5, .int), (cA 6, .int), (cA 7, .int), (cA 8, .int)]
theorem vkW_rule {a : Nat → Nat} {cA : Nat → ClassId} {n : Nat} {hd fm rp rq : Nat → Nat} {nd nw bf su sI sO : Nat → Int32} {i : Nat} (hi : i < 12) : (vkW a cA n hd fm rp rq nd nw bf su sI sO)[9 + i]? = some (a (9 + i), .inr (0, [.int (nI (hd i)), .int (nI (fm i)), .int (nI (rp i)), .int (nI (rq i))])) := by
  unfold vkW
  rw [List.getElem?_append_right (by simp)]
  simp [List.getElem?_range hi]
theorem va_up_same {α : Type} (f : Nat → α) (k : Nat) : va_up f k (f k) = f := by
  funext j
  unfold va_up
  split
  · next h => rw [h]
  · rfl
theorem vkW_set {a : Nat → Nat} {cA : Nat → ClassId} {n : Nat} {hd fm rp rq : Nat → Nat} {nd nw bf su sI sO : Nat → Int32} {i h f p q : Nat} (hi : i < 12) : (vkW a cA n hd fm rp rq nd nw bf su sI sO).set (9 + i) (a (9 + i), .inr (0, [.int (nI h), .int (nI f), .int (nI p), .int (nI q)])) = vkW a cA n (va_up hd i h) (va_up fm i f) (va_up rp i p) (va_up rq i q) nd nw bf su sI sO := by
  unfold vkW
  rw [List.set_append_right _ _ (by simp)]
  congr 1
  apply List.ext_getElem?
  intro j
  simp only [List.length_cons, List.length_nil, Nat.zero_add, Nat.reduceAdd, Nat.add_sub_cancel_left]
  by_cases e : i = j
  · subst e
    rw [List.getElem?_set_self (by simp; exact hi)]
    simp [List.getElem?_range hi, va_up]
  · rw [List.getElem?_set_ne e]
    by_cases hj : j < 12
    · simp [List.getElem?_range hj, va_up, Ne.symm e]
    · rw [List.getElem?_eq_none (by simp; omega), List.getElem?_eq_none (by simp; omega)]
/-- the reference's cells: 0 the object, 1 heads, 2 forms, 3 first, 4 second, 5 now, 6 before, 7 doubt, 8 staged, 9 wanted, 10 need, 11 done -/
def mdW (b : Nat → Nat) (cB : Nat → ClassId) (n : Nat) (hd fm rp rq : Nat → Nat) (nw bf db sg wt : Nat → Int32) (ne dn : Nat → Bool) : va_W :=
  [(b 0, .inr (3, [.int (nI n), .ref (b 1), .ref (b 2), .ref (b 3), .ref (b 4), .ref (b 5), .ref (b 6), .ref (b 7), .ref (b 8), .ref (b 9), .ref (b 10), .ref (b 11)])), (b 1, .inl (cB 1, 13, .inl (fun k => nI (hd k)))), (b 2, .inl (cB 2, 13, .inl (fun k => nI (fm k)))), (b 3, .inl (cB 3, 13, .inl (fun k => nI (rp k)))), (b 4, .inl (cB 4, 13, .inl (fun k => nI (rq k)))), (b 5, .inl (cB 5, 7, .inl nw)), (b 6, .inl (cB 6, 7, .inl bf)), (b 7, .inl (cB 7, 7, .inl db)), (b 8, .inl (cB 8, 2, .inl sg)), (b 9, .inl (cB 9, 2, .inl wt)), (b 10, .inl (cB 10, 49, .inl (fun k => bI (ne k)))), (b 11, .inl (cB 11, 7, .inl (fun k => bI (dn k))))]
def mdT (cB : Nat → ClassId) : List (ClassId × FieldType) := [(cB 1, .int), (cB 2, .int), (cB 3, .int), (cB 4, .int), (cB 5, .int), (cB 6, .int), (cB 7, .int), (cB 8, .int), (cB 9, .int), (cB 10, .boolean), (cB 11, .boolean)]
/-- the rules as they must be -/
def ruOk (n : Nat) (hd fm rp rq : Nat → Nat) : Prop := n ≤ 12 ∧ ∀ k, k < n → 2 ≤ hd k ∧ hd k < 7 ∧ fm k ≤ 4 ∧ rp k < 7 ∧ rq k < 7
end
section
/-! the class's own small methods of numbers -/
theorem nar_bI (b : Bool) : narrow .boolean (.int (bI b)) = .int (bI b) := by cases b <;> rfl
def isRl (r : Int32) : Bool := !decide (r < 0) && !decide (nI 7 ≤ r)
def isVw (r : Int32) : Bool := !decide (r < nI 2) && !decide (nI 7 ≤ r)
def isTh (r : Int32) : Bool := !decide (r < 0) && !decide (nI 5 ≤ r)
set_option maxHeartbeats 4000000 in
set_option maxRecDepth 100000 in
theorem c_X2_isRelation (l : Launch) (r0 : Int32)  : NuM l yX2_isRelation wsX2_isRelation ({ frames := 0, cells := 0, slots := 0, locals := 0 }) [.int (r0)] (bI (isRl r0)) := by
  refine Met.ofW (cc := cX2_isRelation) (maxL := 1) (ret := (some .boolean)) (by decide) rfl ?_
  intro p e s m args below meth c s₁ B hml hv
  obtain ⟨rfl, -⟩ := hv
  have hx := B.exec
  have hb := B.bytes
  have hr := B.returns
  have hts := atoms_spec (ws := wsX2_isRelation) B.pre
  have hown : s.vm.findClass RX2 = some m.cls := findClass_of_methodNamed B.named
  have hlocks := B.notSynchronized
  have hl := lv_entry ([.int (r0)]) (n := 1) (Nat.le_of_ble_eq_true rfl)
  rw [lg_entry_eq]
  generalize (lg_sl ([.int (r0)]) ++ List.replicate (1 - (lg_sl ([.int (r0)])).length) Slot.unset).toArray = ls at hl ⊢
  have hl : lv_has ls 1 [(0, .int (r0))] := hl
  refine lv_iload_n hx hb dX2_isRelation_0 rfl (lv_at hl 0 rfl) ?_
  refine lv_if_lt (tgt := 14) hx hb dX2_isRelation_1 (by decide) (fun c_1 => ?_) (fun c_1 => ?_)
  · refine lv_iconst (v := nI 0) hx hb dX2_isRelation_14 (by decide) ?_
    exact W.zret (v := nI 0) hx hb hr rfl (fun t ht hW => ⟨_, rfl, by rw [show isRl r0 = false from by simp [isRl, c_1]]; rfl, ht⟩) (fun _ h => by cases h) dX2_isRelation_15
  · refine lv_iload_n hx hb dX2_isRelation_4 rfl (lv_at hl 0 rfl) ?_
    refine lv_bipush (v := nI 7) hx hb dX2_isRelation_5 (by decide) ?_
    refine lv_icmp_ge (tgt := 14) hx hb dX2_isRelation_7 (by decide) (fun c_2 => ?_) (fun c_2 => ?_)
    · refine lv_iconst (v := nI 0) hx hb dX2_isRelation_14 (by decide) ?_
      exact W.zret (v := nI 0) hx hb hr rfl (fun t ht hW => ⟨_, rfl, by rw [show isRl r0 = false from by simp [isRl, c_1, c_2]]; rfl, ht⟩) (fun _ h => by cases h) dX2_isRelation_15
    · refine lv_iconst (v := nI 1) hx hb dX2_isRelation_10 (by decide) ?_
      refine lv_goto (tgt := 15) hx hb dX2_isRelation_11 (by decide) ?_
      exact W.zret (v := nI 1) hx hb hr rfl (fun t ht hW => ⟨_, rfl, by rw [show isRl r0 = true from by simp [isRl, c_1, c_2]]; rfl, ht⟩) (fun _ h => by cases h) dX2_isRelation_15
set_option maxHeartbeats 4000000 in
set_option maxRecDepth 100000 in
theorem c_X2_isView (l : Launch) (r0 : Int32)  : NuM l yX2_isView wsX2_isView ({ frames := 0, cells := 0, slots := 0, locals := 0 }) [.int (r0)] (bI (isVw r0)) := by
  refine Met.ofW (cc := cX2_isView) (maxL := 1) (ret := (some .boolean)) (by decide) rfl ?_
  intro p e s m args below meth c s₁ B hml hv
  obtain ⟨rfl, -⟩ := hv
  have hx := B.exec
  have hb := B.bytes
  have hr := B.returns
  have hts := atoms_spec (ws := wsX2_isView) B.pre
  have hown : s.vm.findClass RX2 = some m.cls := findClass_of_methodNamed B.named
  have hlocks := B.notSynchronized
  have hl := lv_entry ([.int (r0)]) (n := 1) (Nat.le_of_ble_eq_true rfl)
  rw [lg_entry_eq]
  generalize (lg_sl ([.int (r0)]) ++ List.replicate (1 - (lg_sl ([.int (r0)])).length) Slot.unset).toArray = ls at hl ⊢
  have hl : lv_has ls 1 [(0, .int (r0))] := hl
  refine lv_iload_n hx hb dX2_isView_0 rfl (lv_at hl 0 rfl) ?_
  refine lv_iconst (v := nI 2) hx hb dX2_isView_1 (by decide) ?_
  refine lv_icmp_lt (tgt := 15) hx hb dX2_isView_2 (by decide) (fun c_1 => ?_) (fun c_1 => ?_)
  · refine lv_iconst (v := nI 0) hx hb dX2_isView_15 (by decide) ?_
    exact W.zret (v := nI 0) hx hb hr rfl (fun t ht hW => ⟨_, rfl, by rw [show isVw r0 = false from by simp [isVw, c_1]]; rfl, ht⟩) (fun _ h => by cases h) dX2_isView_16
  · refine lv_iload_n hx hb dX2_isView_5 rfl (lv_at hl 0 rfl) ?_
    refine lv_bipush (v := nI 7) hx hb dX2_isView_6 (by decide) ?_
    refine lv_icmp_ge (tgt := 15) hx hb dX2_isView_8 (by decide) (fun c_2 => ?_) (fun c_2 => ?_)
    · refine lv_iconst (v := nI 0) hx hb dX2_isView_15 (by decide) ?_
      exact W.zret (v := nI 0) hx hb hr rfl (fun t ht hW => ⟨_, rfl, by rw [show isVw r0 = false from by simp [isVw, c_1, c_2]]; rfl, ht⟩) (fun _ h => by cases h) dX2_isView_16
    · refine lv_iconst (v := nI 1) hx hb dX2_isView_11 (by decide) ?_
      refine lv_goto (tgt := 16) hx hb dX2_isView_12 (by decide) ?_
      exact W.zret (v := nI 1) hx hb hr rfl (fun t ht hW => ⟨_, rfl, by rw [show isVw r0 = true from by simp [isVw, c_1, c_2]]; rfl, ht⟩) (fun _ h => by cases h) dX2_isView_16
set_option maxHeartbeats 4000000 in
set_option maxRecDepth 100000 in
theorem c_X2_isThing (l : Launch) (r0 : Int32)  : NuM l yX2_isThing wsX2_isThing ({ frames := 0, cells := 0, slots := 0, locals := 0 }) [.int (r0)] (bI (isTh r0)) := by
  refine Met.ofW (cc := cX2_isThing) (maxL := 1) (ret := (some .boolean)) (by decide) rfl ?_
  intro p e s m args below meth c s₁ B hml hv
  obtain ⟨rfl, -⟩ := hv
  have hx := B.exec
  have hb := B.bytes
  have hr := B.returns
  have hts := atoms_spec (ws := wsX2_isThing) B.pre
  have hown : s.vm.findClass RX2 = some m.cls := findClass_of_methodNamed B.named
  have hlocks := B.notSynchronized
  have hl := lv_entry ([.int (r0)]) (n := 1) (Nat.le_of_ble_eq_true rfl)
  rw [lg_entry_eq]
  generalize (lg_sl ([.int (r0)]) ++ List.replicate (1 - (lg_sl ([.int (r0)])).length) Slot.unset).toArray = ls at hl ⊢
  have hl : lv_has ls 1 [(0, .int (r0))] := hl
  refine lv_iload_n hx hb dX2_isThing_0 rfl (lv_at hl 0 rfl) ?_
  refine lv_if_lt (tgt := 13) hx hb dX2_isThing_1 (by decide) (fun c_1 => ?_) (fun c_1 => ?_)
  · refine lv_iconst (v := nI 0) hx hb dX2_isThing_13 (by decide) ?_
    exact W.zret (v := nI 0) hx hb hr rfl (fun t ht hW => ⟨_, rfl, by rw [show isTh r0 = false from by simp [isTh, c_1]]; rfl, ht⟩) (fun _ h => by cases h) dX2_isThing_14
  · refine lv_iload_n hx hb dX2_isThing_4 rfl (lv_at hl 0 rfl) ?_
    refine lv_iconst (v := nI 5) hx hb dX2_isThing_5 (by decide) ?_
    refine lv_icmp_ge (tgt := 13) hx hb dX2_isThing_6 (by decide) (fun c_2 => ?_) (fun c_2 => ?_)
    · refine lv_iconst (v := nI 0) hx hb dX2_isThing_13 (by decide) ?_
      exact W.zret (v := nI 0) hx hb hr rfl (fun t ht hW => ⟨_, rfl, by rw [show isTh r0 = false from by simp [isTh, c_1, c_2]]; rfl, ht⟩) (fun _ h => by cases h) dX2_isThing_14
    · refine lv_iconst (v := nI 1) hx hb dX2_isThing_9 (by decide) ?_
      refine lv_goto (tgt := 14) hx hb dX2_isThing_10 (by decide) ?_
      exact W.zret (v := nI 1) hx hb hr rfl (fun t ht hW => ⟨_, rfl, by rw [show isTh r0 = true from by simp [isTh, c_1, c_2]]; rfl, ht⟩) (fun _ h => by cases h) dX2_isThing_14
set_option maxHeartbeats 4000000 in
set_option maxRecDepth 100000 in
theorem c_X2_bit (l : Launch) (x y : Nat)  : NuM l yX2_bit wsX2_bit ({ frames := 0, cells := 0, slots := 0, locals := 0 }) [.int (nI x), .int (nI y)] (bm (5 * x + y)) := by
  refine Met.ofW (cc := cX2_bit) (maxL := 2) (ret := (some .int)) (by decide) rfl ?_
  intro p e s m args below meth c s₁ B hml hv
  obtain ⟨rfl, -⟩ := hv
  have hx := B.exec
  have hb := B.bytes
  have hr := B.returns
  have hts := atoms_spec (ws := wsX2_bit) B.pre
  have hown : s.vm.findClass RX2 = some m.cls := findClass_of_methodNamed B.named
  have hlocks := B.notSynchronized
  have hl := lv_entry ([.int (nI x), .int (nI y)]) (n := 2) (Nat.le_of_ble_eq_true rfl)
  rw [lg_entry_eq]
  generalize (lg_sl ([.int (nI x), .int (nI y)]) ++ List.replicate (2 - (lg_sl ([.int (nI x), .int (nI y)])).length) Slot.unset).toArray = ls at hl ⊢
  have hl : lv_has ls 2 [(0, .int (nI x)), (1, .int (nI y))] := hl
  refine lv_iconst (v := nI 1) hx hb dX2_bit_0 (by decide) ?_
  refine lv_iconst (v := nI 5) hx hb dX2_bit_1 (by decide) ?_
  refine lv_iload_n hx hb dX2_bit_2 rfl (lv_at hl 0 rfl) ?_
  refine hx_imul hx hb dX2_bit_3 ?_
  refine lv_iload_n hx hb dX2_bit_4 rfl (lv_at hl 1 rfl) ?_
  refine hx_iadd hx hb dX2_bit_5 ?_
  refine lv_ishl hx hb dX2_bit_6 ?_
  refine hx_eq (y := bm ((5 * x) + y)) rfl ?_
  exact W.iret (v := bm ((5 * x) + y)) hx hb hr (fun t ht hW => ⟨_, rfl, rfl, ht⟩) (fun _ h => by cases h) dX2_bit_7
set_option maxHeartbeats 4000000 in
set_option maxRecDepth 100000 in
theorem c_X2_holds (l : Launch) (m0 : Int32) (x y : Nat) (hy_0 : x < 5) (hy_1 : y < 5) : NuM l yX2_holds wsX2_holds ({ frames := 0, cells := 0, slots := 0, locals := 0 }) [.int (m0), .int (nI x), .int (nI y)] (bI (bt m0 (5 * x + y))) := by
  refine Met.ofW (cc := cX2_holds) (maxL := 3) (ret := (some .boolean)) (by decide) rfl ?_
  intro p e s m args below meth c s₁ B hml hv
  obtain ⟨rfl, -⟩ := hv
  have hx := B.exec
  have hb := B.bytes
  have hr := B.returns
  have hts := atoms_spec (ws := wsX2_holds) B.pre
  have hown : s.vm.findClass RX2 = some m.cls := findClass_of_methodNamed B.named
  have hlocks := B.notSynchronized
  have hl := lv_entry ([.int (m0), .int (nI x), .int (nI y)]) (n := 3) (Nat.le_of_ble_eq_true rfl)
  rw [lg_entry_eq]
  generalize (lg_sl ([.int (m0), .int (nI x), .int (nI y)]) ++ List.replicate (3 - (lg_sl ([.int (m0), .int (nI x), .int (nI y)])).length) Slot.unset).toArray = ls at hl ⊢
  have hl : lv_has ls 3 [(0, .int (m0)), (1, .int (nI x)), (2, .int (nI y))] := hl
  refine lv_iload_n hx hb dX2_holds_0 rfl (lv_at hl 0 rfl) ?_
  refine lv_iconst (v := nI 5) hx hb dX2_holds_1 (by decide) ?_
  refine lv_iload_n hx hb dX2_holds_2 rfl (lv_at hl 1 rfl) ?_
  refine hx_imul hx hb dX2_holds_3 ?_
  refine lv_iload_n hx hb dX2_holds_4 rfl (lv_at hl 2 rfl) ?_
  refine hx_iadd hx hb dX2_holds_5 ?_
  refine lv_ishr hx hb dX2_holds_6 ?_
  refine lv_iconst (v := nI 1) hx hb dX2_holds_7 (by decide) ?_
  refine lv_iand hx hb dX2_holds_8 ?_
  refine hx_eq (bt_read m0 (k := (5 * x) + y) (by omega)) ?_
  refine hx_ifB (tgt := 16) hx hb dX2_holds_9 (by decide) (fun c_1 => ?_) (fun c_1 => ?_)
  · refine lv_iconst (v := nI 0) hx hb dX2_holds_16 (by decide) ?_
    exact W.zret (v := nI 0) hx hb hr rfl (fun t ht hW => ⟨_, rfl, by rw [c_1]; rfl, ht⟩) (fun _ h => by cases h) dX2_holds_17
  · refine lv_iconst (v := nI 1) hx hb dX2_holds_12 (by decide) ?_
    refine lv_goto (tgt := 17) hx hb dX2_holds_13 (by decide) ?_
    exact W.zret (v := nI 1) hx hb hr rfl (fun t ht hW => ⟨_, rfl, by rw [c_1]; rfl, ht⟩) (fun _ h => by cases h) dX2_holds_17
set_option maxHeartbeats 4000000 in
set_option maxRecDepth 100000 in
theorem c_X2_row (l : Launch) (m0 : Int32) (z : Nat)  : NuM l yX2_row wsX2_row ({ frames := 0, cells := 0, slots := 0, locals := 0 }) [.int (m0), .int (nI z)] (rowM m0 z) := by
  refine Met.ofW (cc := cX2_row) (maxL := 2) (ret := (some .int)) (by decide) rfl ?_
  intro p e s m args below meth c s₁ B hml hv
  obtain ⟨rfl, -⟩ := hv
  have hx := B.exec
  have hb := B.bytes
  have hr := B.returns
  have hts := atoms_spec (ws := wsX2_row) B.pre
  have hown : s.vm.findClass RX2 = some m.cls := findClass_of_methodNamed B.named
  have hlocks := B.notSynchronized
  have hl := lv_entry ([.int (m0), .int (nI z)]) (n := 2) (Nat.le_of_ble_eq_true rfl)
  rw [lg_entry_eq]
  generalize (lg_sl ([.int (m0), .int (nI z)]) ++ List.replicate (2 - (lg_sl ([.int (m0), .int (nI z)])).length) Slot.unset).toArray = ls at hl ⊢
  have hl : lv_has ls 2 [(0, .int (m0)), (1, .int (nI z))] := hl
  refine lv_iload_n hx hb dX2_row_0 rfl (lv_at hl 0 rfl) ?_
  refine lv_iconst (v := nI 5) hx hb dX2_row_1 (by decide) ?_
  refine lv_iload_n hx hb dX2_row_2 rfl (lv_at hl 1 rfl) ?_
  refine hx_imul hx hb dX2_row_3 ?_
  refine lv_ishr hx hb dX2_row_4 ?_
  refine lv_bipush (v := nI 31) hx hb dX2_row_5 (by decide) ?_
  refine lv_iand hx hb dX2_row_7 ?_
  exact W.iret (v := (m0 >>> (nI (5 * z) &&& 31)) &&& (nI 31)) hx hb hr (fun t ht hW => ⟨_, rfl, rfl, ht⟩) (fun _ h => by cases h) dX2_row_8
set_option maxHeartbeats 4000000 in
set_option maxRecDepth 100000 in
theorem c_X2_turned (l : Launch) (p0 : Int32)  : NuM l yX2_turned wsX2_turned ({ frames := 1, cells := 0, slots := 0, locals := 22 }) [.int (p0)] (turnM p0) := by
  refine Met.ofW (cc := cX2_turned) (maxL := 4) (ret := (some .int)) (by decide) rfl ?_
  intro p e s m args below meth c s₁ B hml hv
  obtain ⟨rfl, -⟩ := hv
  have hx := B.exec
  have hb := B.bytes
  have hr := B.returns
  have hts := atoms_spec (ws := wsX2_turned) B.pre
  have hown : s.vm.findClass RX2 = some m.cls := findClass_of_methodNamed B.named
  have hlocks := B.notSynchronized
  have hl := lv_entry ([.int (p0)]) (n := 4) (Nat.le_of_ble_eq_true rfl)
  rw [lg_entry_eq]
  generalize (lg_sl ([.int (p0)]) ++ List.replicate (4 - (lg_sl ([.int (p0)])).length) Slot.unset).toArray = ls at hl ⊢
  have hl : lv_has ls 4 [(0, .int (p0))] := hl
  refine lv_iconst (v := nI 0) hx hb dX2_turned_0 (by decide) ?_
  refine lv_istore_n (lv' := [(1, .int (nI 0)), (0, .int (p0))]) hx hb dX2_turned_1 rfl hl (by decide) rfl (fun ls hl => ?_)
  refine lv_iconst (v := nI 0) hx hb dX2_turned_2 (by decide) ?_
  refine lv_istore_n (lv' := [(2, .int (nI 0)), (1, .int (nI 0)), (0, .int (p0))]) hx hb dX2_turned_3 rfl hl (by decide) rfl (fun ls hl => ?_)
  have L_4_0 : ∀ (nn : Nat) (x : Nat) (r : Int32), x + nn = 5 → ∀ ls : Array Slot, lv_has ls 4 [(0, .int (p0)), (1, .int (r)), (2, .int (nI x))] → (∀ ls : Array Slot, lv_has ls 4 [(0, .int (p0)), (1, .int (tuOut p0 nn x r)), (2, .int (nI 5))] → W p l e (headSpec wsX2_turned ({ frames := 1, cells := 0, slots := 0, locals := 22 })).room s m ([.int (p0)] : List Value).toArray below meth c s.heap [] 0 0 (MQ below (vp_Si (fun r => r = (turnM p0))) ([.int (p0)] : List Value).toArray s 0 0 (fun _ => False)) (F0 m 45 ls [])) → W p l e (headSpec wsX2_turned ({ frames := 1, cells := 0, slots := 0, locals := 22 })).room s m ([.int (p0)] : List Value).toArray below meth c s.heap [] 0 0 (MQ below (vp_Si (fun r => r = (turnM p0))) ([.int (p0)] : List Value).toArray s 0 0 (fun _ => False)) (F0 m 4 ls []) := by
    intro nn
    induction nn with
    | zero =>
      intro x r hnx ls hl kx
      obtain rfl : x = 5 := by omega
      refine lv_iload_n hx hb dX2_turned_4 rfl (lv_at hl 2 rfl) ?_
      refine lv_iconst (v := nI 5) hx hb dX2_turned_5 (by decide) ?_
      refine hx_geN (tgt := 45) hx hb dX2_turned_6 (by decide) (by omega) (by omega) (fun c_2 => ?_) (fun c_2 => ?_)
      · exact kx ls (lv_sub hl [0, 1, 2] rfl)
      · exact absurd c_2 (by omega)
    | succ nn ih =>
      intro x r hnx ls hl kx
      refine lv_iload_n hx hb dX2_turned_4 rfl (lv_at hl 2 rfl) ?_
      refine lv_iconst (v := nI 5) hx hb dX2_turned_5 (by decide) ?_
      refine hx_geN (tgt := 45) hx hb dX2_turned_6 (by decide) (by omega) (by omega) (fun c_3 => ?_) (fun c_3 => ?_)
      · exact absurd c_3 (by omega)
      · refine lv_iconst (v := nI 0) hx hb dX2_turned_9 (by decide) ?_
        refine lv_istore_n (lv' := [(3, .int (nI 0)), (0, .int (p0)), (1, .int (r)), (2, .int (nI x))]) hx hb dX2_turned_10 rfl hl (by decide) rfl (fun ls hl => ?_)
        have L_11_3 : ∀ (nn : Nat) (y : Nat) (r1 : Int32), y + nn = 5 → ∀ ls : Array Slot, lv_has ls 4 [(0, .int (p0)), (1, .int (r1)), (2, .int (nI x)), (3, .int (nI y))] → (∀ ls : Array Slot, lv_has ls 4 [(0, .int (p0)), (1, .int (tuIn p0 x nn y r1)), (2, .int (nI x)), (3, .int (nI 5))] → W p l e (headSpec wsX2_turned ({ frames := 1, cells := 0, slots := 0, locals := 22 })).room s m ([.int (p0)] : List Value).toArray below meth c s.heap [] 0 0 (MQ below (vp_Si (fun r => r = (turnM p0))) ([.int (p0)] : List Value).toArray s 0 0 (fun _ => False)) (F0 m 39 ls [])) → W p l e (headSpec wsX2_turned ({ frames := 1, cells := 0, slots := 0, locals := 22 })).room s m ([.int (p0)] : List Value).toArray below meth c s.heap [] 0 0 (MQ below (vp_Si (fun r => r = (turnM p0))) ([.int (p0)] : List Value).toArray s 0 0 (fun _ => False)) (F0 m 11 ls []) := by
          intro nn
          induction nn with
          | zero =>
            intro y r1 hny ls hl kx
            obtain rfl : y = 5 := by omega
            refine lv_iload_n hx hb dX2_turned_11 rfl (lv_at hl 3 rfl) ?_
            refine lv_iconst (v := nI 5) hx hb dX2_turned_12 (by decide) ?_
            refine hx_geN (tgt := 39) hx hb dX2_turned_13 (by decide) (by omega) (by omega) (fun c_5 => ?_) (fun c_5 => ?_)
            · exact kx ls (lv_sub hl [0, 1, 2, 3] rfl)
            · exact absurd c_5 (by omega)
          | succ nn ih =>
            intro y r1 hny ls hl kx
            refine lv_iload_n hx hb dX2_turned_11 rfl (lv_at hl 3 rfl) ?_
            refine lv_iconst (v := nI 5) hx hb dX2_turned_12 (by decide) ?_
            refine hx_geN (tgt := 39) hx hb dX2_turned_13 (by decide) (by omega) (by omega) (fun c_6 => ?_) (fun c_6 => ?_)
            · exact absurd c_6 (by omega)
            · refine lv_iload_n hx hb dX2_turned_16 rfl (lv_at hl 0 rfl) ?_
              refine lv_iload_n hx hb dX2_turned_17 rfl (lv_at hl 3 rfl) ?_
              refine lv_iload_n hx hb dX2_turned_18 rfl (lv_at hl 2 rfl) ?_
              refine hx_read (va_runS (As := [.int (p0), .int (nI y), .int (nI x)]) (rest := []) ⟨hx, hb, hml, hown, hts⟩ (c_X2_holds l p0 y x (by omega) (by omega)) (va_cwS 3 hts gX2_turned_X2_holds rfl rfl rfl (by decide +kernel) ⟨Nat.le_of_ble_eq_true rfl, Nat.le_of_ble_eq_true rfl⟩) (nu_S _) rfl rfl hl.1 rfl (lv_room (Nat.le_of_ble_eq_true rfl)) dX2_turned_19 ⟨Nat.zero_le _, Nat.zero_le _⟩) ?_
              refine hx_ifB (tgt := 33) hx hb dX2_turned_22 (by decide) (fun c_7 => ?_) (fun c_7 => ?_)
              · refine lv_iinc (v := nI (y + 1)) (lv' := [(3, .int (nI (y + 1))), (0, .int (p0)), (1, .int (r1)), (2, .int (nI x))]) hx hb dX2_turned_33 hl (k := 3) rfl (nI_add y 1) (by decide) rfl (fun ls hl => ?_)
                refine lv_goto (tgt := 11) hx hb dX2_turned_36 (by decide) ?_
                have kx := kx
                rw [show tuIn p0 x (nn + 1) y r1 = tuIn p0 x nn (y + 1) r1 from by simp only [tuIn, c_7, ↓reduceIte, Bool.false_eq_true]] at kx
                exact ih (y + 1) r1 (by omega) ls (lv_sub hl [1, 2, 3, 0] rfl) kx
              · refine lv_iload_n hx hb dX2_turned_25 rfl (lv_at hl 1 rfl) ?_
                refine lv_iload_n hx hb dX2_turned_26 rfl (lv_at hl 2 rfl) ?_
                refine lv_iload_n hx hb dX2_turned_27 rfl (lv_at hl 3 rfl) ?_
                refine hx_read (va_runS (As := [.int (nI x), .int (nI y)]) (rest := [.int (r1)]) ⟨hx, hb, hml, hown, hts⟩ (c_X2_bit l x y) (va_cwS 2 hts gX2_turned_X2_bit rfl rfl rfl (by decide +kernel) ⟨Nat.le_of_ble_eq_true rfl, Nat.le_of_ble_eq_true rfl⟩) (nu_S _) rfl rfl hl.1 rfl (lv_room (Nat.le_of_ble_eq_true rfl)) dX2_turned_28 ⟨Nat.zero_le _, Nat.zero_le _⟩) ?_
                refine lv_ior hx hb dX2_turned_31 ?_
                refine lv_istore_n (lv' := [(1, .int (r1 ||| (bm (5 * x + y)))), (0, .int (p0)), (2, .int (nI x)), (3, .int (nI y))]) hx hb dX2_turned_32 rfl hl (by decide) rfl (fun ls hl => ?_)
                refine lv_iinc (v := nI (y + 1)) (lv' := [(3, .int (nI (y + 1))), (1, .int (r1 ||| (bm (5 * x + y)))), (0, .int (p0)), (2, .int (nI x))]) hx hb dX2_turned_33 hl (k := 3) rfl (nI_add y 1) (by decide) rfl (fun ls hl => ?_)
                refine lv_goto (tgt := 11) hx hb dX2_turned_36 (by decide) ?_
                have kx := kx
                rw [show tuIn p0 x (nn + 1) y r1 = tuIn p0 x nn (y + 1) (r1 ||| (bm (5 * x + y))) from by simp only [tuIn, c_7, ↓reduceIte, Bool.false_eq_true]] at kx
                exact ih (y + 1) (r1 ||| (bm (5 * x + y))) (by omega) ls (lv_sub hl [2, 1, 3, 0] rfl) kx
        refine L_11_3 5 0 r (by omega) ls (lv_sub hl [1, 2, 3, 0] rfl) (fun ls hl => ?_)
        have hl : lv_has ls 4 [(0, .int (p0)), (1, .int (tuIn p0 x 5 0 r)), (2, .int (nI x)), (3, .int (nI 5))] := hl
        refine lv_iinc (v := nI (x + 1)) (lv' := [(2, .int (nI (x + 1))), (0, .int (p0)), (1, .int (tuIn p0 x 5 0 r)), (3, .int (nI 5))]) hx hb dX2_turned_39 hl (k := 2) rfl (nI_add x 1) (by decide) rfl (fun ls hl => ?_)
        refine lv_goto (tgt := 4) hx hb dX2_turned_42 (by decide) ?_
        have kx := kx
        rw [show tuOut p0 (nn + 1) x r = tuOut p0 nn (x + 1) (tuIn p0 x 5 0 r) from rfl] at kx
        exact ih (x + 1) (tuIn p0 x 5 0 r) (by omega) ls (lv_sub hl [1, 2, 0] rfl) kx
  refine L_4_0 5 0 (nI 0) (by omega) ls (lv_sub hl [2, 1, 0] rfl) (fun ls hl => ?_)
  have hl : lv_has ls 4 [(0, .int (p0)), (1, .int (tuOut p0 5 0 (nI 0))), (2, .int (nI 5))] := hl
  refine lv_iload_n hx hb dX2_turned_45 rfl (lv_at hl 1 rfl) ?_
  exact W.iret (v := tuOut p0 5 0 (nI 0)) hx hb hr (fun t ht hW => ⟨_, rfl, rfl, ht⟩) (fun _ h => by cases h) dX2_turned_46
set_option maxHeartbeats 4000000 in
set_option maxRecDepth 100000 in
theorem c_X2_joined (l : Launch) (l0 r0 : Int32)  : NuM l yX2_joined wsX2_joined ({ frames := 1, cells := 0, slots := 0, locals := 22 }) [.int (l0), .int (r0)] (joinM l0 r0) := by
  refine Met.ofW (cc := cX2_joined) (maxL := 5) (ret := (some .int)) (by decide) rfl ?_
  intro p e s m args below meth c s₁ B hml hv
  obtain ⟨rfl, -⟩ := hv
  have hx := B.exec
  have hb := B.bytes
  have hr := B.returns
  have hts := atoms_spec (ws := wsX2_joined) B.pre
  have hown : s.vm.findClass RX2 = some m.cls := findClass_of_methodNamed B.named
  have hlocks := B.notSynchronized
  have hl := lv_entry ([.int (l0), .int (r0)]) (n := 5) (Nat.le_of_ble_eq_true rfl)
  rw [lg_entry_eq]
  generalize (lg_sl ([.int (l0), .int (r0)]) ++ List.replicate (5 - (lg_sl ([.int (l0), .int (r0)])).length) Slot.unset).toArray = ls at hl ⊢
  have hl : lv_has ls 5 [(0, .int (l0)), (1, .int (r0))] := hl
  refine lv_iconst (v := nI 0) hx hb dX2_joined_0 (by decide) ?_
  refine lv_istore_n (lv' := [(2, .int (nI 0)), (0, .int (l0)), (1, .int (r0))]) hx hb dX2_joined_1 rfl hl (by decide) rfl (fun ls hl => ?_)
  refine lv_iconst (v := nI 0) hx hb dX2_joined_2 (by decide) ?_
  refine lv_istore_n (lv' := [(3, .int (nI 0)), (2, .int (nI 0)), (0, .int (l0)), (1, .int (r0))]) hx hb dX2_joined_3 rfl hl (by decide) rfl (fun ls hl => ?_)
  have L_4_0 : ∀ (nn : Nat) (x : Nat) (v : Int32), x + nn = 5 → ∀ ls : Array Slot, lv_has ls 5 [(0, .int (l0)), (1, .int (r0)), (2, .int (v)), (3, .int (nI x))] → (∀ ls : Array Slot, lv_has ls 5 [(0, .int (l0)), (1, .int (r0)), (2, .int (joOut l0 r0 nn x v)), (3, .int (nI 5))] → W p l e (headSpec wsX2_joined ({ frames := 1, cells := 0, slots := 0, locals := 22 })).room s m ([.int (l0), .int (r0)] : List Value).toArray below meth c s.heap [] 0 0 (MQ below (vp_Si (fun r => r = (joinM l0 r0))) ([.int (l0), .int (r0)] : List Value).toArray s 0 0 (fun _ => False)) (F0 m 53 ls [])) → W p l e (headSpec wsX2_joined ({ frames := 1, cells := 0, slots := 0, locals := 22 })).room s m ([.int (l0), .int (r0)] : List Value).toArray below meth c s.heap [] 0 0 (MQ below (vp_Si (fun r => r = (joinM l0 r0))) ([.int (l0), .int (r0)] : List Value).toArray s 0 0 (fun _ => False)) (F0 m 4 ls []) := by
    intro nn
    induction nn with
    | zero =>
      intro x v hnx ls hl kx
      obtain rfl : x = 5 := by omega
      refine lv_iload_n hx hb dX2_joined_4 rfl (lv_at hl 3 rfl) ?_
      refine lv_iconst (v := nI 5) hx hb dX2_joined_5 (by decide) ?_
      refine hx_geN (tgt := 53) hx hb dX2_joined_6 (by decide) (by omega) (by omega) (fun c_2 => ?_) (fun c_2 => ?_)
      · exact kx ls (lv_sub hl [0, 1, 2, 3] rfl)
      · exact absurd c_2 (by omega)
    | succ nn ih =>
      intro x v hnx ls hl kx
      refine lv_iload_n hx hb dX2_joined_4 rfl (lv_at hl 3 rfl) ?_
      refine lv_iconst (v := nI 5) hx hb dX2_joined_5 (by decide) ?_
      refine hx_geN (tgt := 53) hx hb dX2_joined_6 (by decide) (by omega) (by omega) (fun c_3 => ?_) (fun c_3 => ?_)
      · exact absurd c_3 (by omega)
      · refine lv_iconst (v := nI 0) hx hb dX2_joined_9 (by decide) ?_
        refine lv_istore (lv' := [(4, .int (nI 0)), (0, .int (l0)), (1, .int (r0)), (2, .int (v)), (3, .int (nI x))]) hx hb dX2_joined_10 hl (by decide) rfl (fun ls hl => ?_)
        have L_12_3 : ∀ (nn : Nat) (z : Nat) (v1 : Int32), z + nn = 5 → ∀ ls : Array Slot, lv_has ls 5 [(0, .int (l0)), (1, .int (r0)), (2, .int (v1)), (3, .int (nI x)), (4, .int (nI z))] → (∀ ls : Array Slot, lv_has ls 5 [(0, .int (l0)), (1, .int (r0)), (2, .int (joIn l0 r0 x nn z v1)), (3, .int (nI x)), (4, .int (nI 5))] → W p l e (headSpec wsX2_joined ({ frames := 1, cells := 0, slots := 0, locals := 22 })).room s m ([.int (l0), .int (r0)] : List Value).toArray below meth c s.heap [] 0 0 (MQ below (vp_Si (fun r => r = (joinM l0 r0))) ([.int (l0), .int (r0)] : List Value).toArray s 0 0 (fun _ => False)) (F0 m 47 ls [])) → W p l e (headSpec wsX2_joined ({ frames := 1, cells := 0, slots := 0, locals := 22 })).room s m ([.int (l0), .int (r0)] : List Value).toArray below meth c s.heap [] 0 0 (MQ below (vp_Si (fun r => r = (joinM l0 r0))) ([.int (l0), .int (r0)] : List Value).toArray s 0 0 (fun _ => False)) (F0 m 12 ls []) := by
          intro nn
          induction nn with
          | zero =>
            intro z v1 hnz ls hl kx
            obtain rfl : z = 5 := by omega
            refine lv_iload hx hb dX2_joined_12 (lv_at hl 4 rfl) ?_
            refine lv_iconst (v := nI 5) hx hb dX2_joined_14 (by decide) ?_
            refine hx_geN (tgt := 47) hx hb dX2_joined_15 (by decide) (by omega) (by omega) (fun c_5 => ?_) (fun c_5 => ?_)
            · exact kx ls (lv_sub hl [0, 1, 2, 3, 4] rfl)
            · exact absurd c_5 (by omega)
          | succ nn ih =>
            intro z v1 hnz ls hl kx
            refine lv_iload hx hb dX2_joined_12 (lv_at hl 4 rfl) ?_
            refine lv_iconst (v := nI 5) hx hb dX2_joined_14 (by decide) ?_
            refine hx_geN (tgt := 47) hx hb dX2_joined_15 (by decide) (by omega) (by omega) (fun c_6 => ?_) (fun c_6 => ?_)
            · exact absurd c_6 (by omega)
            · refine lv_iload_n hx hb dX2_joined_18 rfl (lv_at hl 0 rfl) ?_
              refine lv_iload_n hx hb dX2_joined_19 rfl (lv_at hl 3 rfl) ?_
              refine lv_iload hx hb dX2_joined_20 (lv_at hl 4 rfl) ?_
              refine hx_read (va_runS (As := [.int (l0), .int (nI x), .int (nI z)]) (rest := []) ⟨hx, hb, hml, hown, hts⟩ (c_X2_holds l l0 x z (by omega) (by omega)) (va_cwS 3 hts gX2_joined_X2_holds rfl rfl rfl (by decide +kernel) ⟨Nat.le_of_ble_eq_true rfl, Nat.le_of_ble_eq_true rfl⟩) (nu_S _) rfl rfl hl.1 rfl (lv_room (Nat.le_of_ble_eq_true rfl)) dX2_joined_22 ⟨Nat.zero_le _, Nat.zero_le _⟩) ?_
              refine hx_ifB (tgt := 41) hx hb dX2_joined_25 (by decide) (fun c_7 => ?_) (fun c_7 => ?_)
              · refine lv_iinc (v := nI (z + 1)) (lv' := [(4, .int (nI (z + 1))), (0, .int (l0)), (1, .int (r0)), (2, .int (v1)), (3, .int (nI x))]) hx hb dX2_joined_41 hl (k := 4) rfl (nI_add z 1) (by decide) rfl (fun ls hl => ?_)
                refine lv_goto (tgt := 12) hx hb dX2_joined_44 (by decide) ?_
                have kx := kx
                rw [show joIn l0 r0 x (nn + 1) z v1 = joIn l0 r0 x nn (z + 1) v1 from by simp only [joIn, c_7, ↓reduceIte, Bool.false_eq_true]] at kx
                exact ih (z + 1) v1 (by omega) ls (lv_sub hl [1, 2, 3, 4, 0] rfl) kx
              · refine lv_iload_n hx hb dX2_joined_28 rfl (lv_at hl 2 rfl) ?_
                refine lv_iload_n hx hb dX2_joined_29 rfl (lv_at hl 1 rfl) ?_
                refine lv_iload hx hb dX2_joined_30 (lv_at hl 4 rfl) ?_
                refine hx_read (va_runS (As := [.int (r0), .int (nI z)]) (rest := [.int (v1)]) ⟨hx, hb, hml, hown, hts⟩ (c_X2_row l r0 z) (va_cwS 2 hts gX2_joined_X2_row rfl rfl rfl (by decide +kernel) ⟨Nat.le_of_ble_eq_true rfl, Nat.le_of_ble_eq_true rfl⟩) (nu_S _) rfl rfl hl.1 rfl (lv_room (Nat.le_of_ble_eq_true rfl)) dX2_joined_32 ⟨Nat.zero_le _, Nat.zero_le _⟩) ?_
                refine lv_iconst (v := nI 5) hx hb dX2_joined_35 (by decide) ?_
                refine lv_iload_n hx hb dX2_joined_36 rfl (lv_at hl 3 rfl) ?_
                refine hx_imul hx hb dX2_joined_37 ?_
                refine lv_ishl hx hb dX2_joined_38 ?_
                refine lv_ior hx hb dX2_joined_39 ?_
                refine lv_istore_n (lv' := [(2, .int (v1 ||| ((rowM r0 z) <<< (nI (5 * x) &&& 31)))), (0, .int (l0)), (1, .int (r0)), (3, .int (nI x)), (4, .int (nI z))]) hx hb dX2_joined_40 rfl hl (by decide) rfl (fun ls hl => ?_)
                refine lv_iinc (v := nI (z + 1)) (lv' := [(4, .int (nI (z + 1))), (2, .int (v1 ||| ((rowM r0 z) <<< (nI (5 * x) &&& 31)))), (0, .int (l0)), (1, .int (r0)), (3, .int (nI x))]) hx hb dX2_joined_41 hl (k := 4) rfl (nI_add z 1) (by decide) rfl (fun ls hl => ?_)
                refine lv_goto (tgt := 12) hx hb dX2_joined_44 (by decide) ?_
                have kx := kx
                rw [show joIn l0 r0 x (nn + 1) z v1 = joIn l0 r0 x nn (z + 1) (v1 ||| ((rowM r0 z) <<< (nI (5 * x) &&& 31))) from by simp only [joIn, c_7, ↓reduceIte, Bool.false_eq_true]] at kx
                exact ih (z + 1) (v1 ||| ((rowM r0 z) <<< (nI (5 * x) &&& 31))) (by omega) ls (lv_sub hl [2, 3, 1, 4, 0] rfl) kx
        refine L_12_3 5 0 v (by omega) ls (lv_sub hl [1, 2, 3, 4, 0] rfl) (fun ls hl => ?_)
        have hl : lv_has ls 5 [(0, .int (l0)), (1, .int (r0)), (2, .int (joIn l0 r0 x 5 0 v)), (3, .int (nI x)), (4, .int (nI 5))] := hl
        refine lv_iinc (v := nI (x + 1)) (lv' := [(3, .int (nI (x + 1))), (0, .int (l0)), (1, .int (r0)), (2, .int (joIn l0 r0 x 5 0 v)), (4, .int (nI 5))]) hx hb dX2_joined_47 hl (k := 3) rfl (nI_add x 1) (by decide) rfl (fun ls hl => ?_)
        refine lv_goto (tgt := 4) hx hb dX2_joined_50 (by decide) ?_
        have kx := kx
        rw [show joOut l0 r0 (nn + 1) x v = joOut l0 r0 nn (x + 1) (joIn l0 r0 x 5 0 v) from rfl] at kx
        exact ih (x + 1) (joIn l0 r0 x 5 0 v) (by omega) ls (lv_sub hl [1, 2, 3, 0] rfl) kx
  refine L_4_0 5 0 (nI 0) (by omega) ls (lv_sub hl [2, 3, 1, 0] rfl) (fun ls hl => ?_)
  have hl : lv_has ls 5 [(0, .int (l0)), (1, .int (r0)), (2, .int (joOut l0 r0 5 0 (nI 0))), (3, .int (nI 5))] := hl
  refine lv_iload_n hx hb dX2_joined_53 rfl (lv_at hl 2 rfl) ?_
  exact W.iret (v := joOut l0 r0 5 0 (nI 0)) hx hb hr (fun t ht hW => ⟨_, rfl, rfl, ht⟩) (fun _ h => by cases h) dX2_joined_54
end
section
/-! the rules and the book: what their reading methods answer -/
theorem and_bm0 {m : Int32} {k : Nat} (hk : k < 32) (h : m &&& bm k = 0) : bt m k = false := by
  have := congrArg (fun z => bt z k) h
  simp only [b_and, bt_bm hk, b_0, decide_true, Bool.and_true] at this
  exact this
theorem and_bm1 {m : Int32} {k : Nat} (hk : k < 32) (h : ¬ m &&& bm k = 0) : bt m k = true := by
  cases q : bt m k with
  | true => rfl
  | false =>
    refine absurd (b_ext fun i _ => ?_) h
    rw [b_and, bt_bm hk, b_0]
    by_cases e : i = k
    · rw [e, q, Bool.false_and]
    · rw [decide_eq_false e, Bool.and_false]
def bodyM (f p q : Nat) : Int32 := if f = 0 ∨ f = 1 then bm p else bm p ||| bm q
def givM (f : Nat) (P Q : Int32) : Int32 := if f = 0 then P else if f = 1 then turnM P else if f = 2 then joinM P Q else if f = 3 then P &&& Q else P &&& (Q ^^^ (-1))
def insJ (P Q : Int32) (x y : Nat) : Nat → Nat → Nat → Nat
  | 0, _, w => w
  | n + 1, z, w => insJ P Q x y n (z + 1) (if (bt P (5 * x + z) && bt Q (5 * z + y)) = true then w + 1 else w)
def insM (f : Nat) (P Q : Int32) (x y : Nat) : Nat := if f = 2 then insJ P Q x y 5 0 0 else if bt (givM f P Q) (5 * x + y) = true then 1 else 0
def cycF (hd fm rq : Nat → Nat) (nd : Nat → Int32) : Nat → Nat → Bool
  | 0, _ => false
  | k + 1, i => if fm i = 4 ∧ (rq i = hd i ∨ bt (nd (rq i)) (hd i) = true) then true else cycF hd fm rq nd k (i + 1)
set_option maxHeartbeats 4000000 in
set_option maxRecDepth 100000 in
theorem c_X0_body (l : Launch) (dC : Nat → ClassId) (dI : Nat → Nat → Nat) (a : Nat → Nat) (cA : Nat → ClassId) (n : Nat) (hd fm rp rq : Nat → Nat) (nd nw bf su sI sO : Nat → Int32) (i : Nat) (hy_0 : i < 12) (hy_1 : fm i ≤ 4) (hy_2 : rp i < 7) (hy_3 : rq i < 7) : RdM l yX0_body wsX0_body ({ frames := 0, cells := 0, slots := 0, locals := 0 }) (dC, dI) vwCl (vkW a cA n hd fm rp rq nd nw bf su sI sO) (vkT cA) nstW [.ref (a (9 + i))] (bodyM (fm i) (rp i) (rq i)) := by
  refine Met.ofW (cc := cX0_body) (maxL := 1) (ret := (some .int)) (by decide) rfl ?_
  intro p e s m args below meth c s₁ B hml hv
  obtain ⟨rfl, hP, hK, hN⟩ := hv
  have hx := B.exec
  have hb := B.bytes
  have hr := B.returns
  have hts := atoms_spec (ws := wsX0_body) B.pre
  have hown : s.vm.findClass RX0 = some m.cls := findClass_of_methodNamed B.named
  have hlocks := B.notSynchronized
  have lf_9 := hts (.fieldLink RX0 9 "ViewKeeper$Rule" "form" "I") (by decide +kernel)
  have in_X0 : ∀ w ∈ u_ws RX0 TX0 4, w ∈ wsX0_body := by decide +kernel
  have lf_15 := hts (.fieldLink RX0 15 "ViewKeeper$Rule" "p" "I") (by decide +kernel)
  have lf_18 := hts (.fieldLink RX0 18 "ViewKeeper$Rule" "q" "I") (by decide +kernel)
  have hl := lv_entry ([.ref (a (9 + i))]) (n := 1) (Nat.le_of_ble_eq_true rfl)
  rw [lg_entry_eq]
  generalize (lg_sl ([.ref (a (9 + i))]) ++ List.replicate (1 - (lg_sl ([.ref (a (9 + i))])).length) Slot.unset).toArray = ls at hl ⊢
  have hl : lv_has ls 1 [(0, .ref (a (9 + i)))] := hl
  refine lv_aload_n hx hb dX0_body_0 rfl (lv_at hl 0 rfl) ?_
  refine va_get (D := (dC, dI)) (ci := 0) (v := .int (nI (fm i))) (C := RX0) (T := TX0) (N := 4) hx hb hts in_X0 hown hK hP (9 + i) (vkW_rule (by omega)) rfl 1 (by decide) lf_9 (fun _ h9 => h9) rfl dX0_body_1 ?_
  refine hx_if0 (tgt := 15) hx hb dX0_body_4 (by decide) (by omega) (fun c_1 => ?_) (fun c_1 => ?_)
  · refine lv_iconst (v := nI 1) hx hb dX0_body_15 (by decide) ?_
    refine lv_aload_n hx hb dX0_body_16 rfl (lv_at hl 0 rfl) ?_
    refine va_get (D := (dC, dI)) (ci := 0) (v := .int (nI (rp i))) (C := RX0) (T := TX0) (N := 4) hx hb hts in_X0 hown hK hP (9 + i) (vkW_rule (by omega)) rfl 2 (by decide) lf_15 (fun _ h9 => h9) rfl dX0_body_17 ?_
    refine lv_ishl hx hb dX0_body_20 ?_
    refine hx_eq (y := bm (rp i)) rfl ?_
    refine lv_goto (tgt := 37) hx hb dX0_body_21 (by decide) ?_
    exact W.iret (v := bm (rp i)) hx hb hr (fun t ht hW => ⟨_, rfl, by simp [bodyM, c_1], ht⟩) (fun _ h => by cases h) dX0_body_37
  · refine lv_aload_n hx hb dX0_body_7 rfl (lv_at hl 0 rfl) ?_
    refine va_get (D := (dC, dI)) (ci := 0) (v := .int (nI (fm i))) (C := RX0) (T := TX0) (N := 4) hx hb hts in_X0 hown hK hP (9 + i) (vkW_rule (by omega)) rfl 1 (by decide) lf_9 (fun _ h9 => h9) rfl dX0_body_8 ?_
    refine lv_iconst (v := nI 1) hx hb dX0_body_11 (by decide) ?_
    refine hx_neN (tgt := 24) hx hb dX0_body_12 (by decide) (by omega) (by omega) (fun c_2 => ?_) (fun c_2 => ?_)
    · refine lv_iconst (v := nI 1) hx hb dX0_body_24 (by decide) ?_
      refine lv_aload_n hx hb dX0_body_25 rfl (lv_at hl 0 rfl) ?_
      refine va_get (D := (dC, dI)) (ci := 0) (v := .int (nI (rp i))) (C := RX0) (T := TX0) (N := 4) hx hb hts in_X0 hown hK hP (9 + i) (vkW_rule (by omega)) rfl 2 (by decide) lf_15 (fun _ h9 => h9) rfl dX0_body_26 ?_
      refine lv_ishl hx hb dX0_body_29 ?_
      refine hx_eq (y := bm (rp i)) rfl ?_
      refine lv_iconst (v := nI 1) hx hb dX0_body_30 (by decide) ?_
      refine lv_aload_n hx hb dX0_body_31 rfl (lv_at hl 0 rfl) ?_
      refine va_get (D := (dC, dI)) (ci := 0) (v := .int (nI (rq i))) (C := RX0) (T := TX0) (N := 4) hx hb hts in_X0 hown hK hP (9 + i) (vkW_rule (by omega)) rfl 3 (by decide) lf_18 (fun _ h9 => h9) rfl dX0_body_32 ?_
      refine lv_ishl hx hb dX0_body_35 ?_
      refine hx_eq (y := bm (rq i)) rfl ?_
      refine lv_ior hx hb dX0_body_36 ?_
      exact W.iret (v := (bm (rp i)) ||| (bm (rq i))) hx hb hr (fun t ht hW => ⟨_, rfl, by simp [bodyM, c_1, c_2], ht⟩) (fun _ h => by cases h) dX0_body_37
    · refine lv_iconst (v := nI 1) hx hb dX0_body_15 (by decide) ?_
      refine lv_aload_n hx hb dX0_body_16 rfl (lv_at hl 0 rfl) ?_
      refine va_get (D := (dC, dI)) (ci := 0) (v := .int (nI (rp i))) (C := RX0) (T := TX0) (N := 4) hx hb hts in_X0 hown hK hP (9 + i) (vkW_rule (by omega)) rfl 2 (by decide) lf_15 (fun _ h9 => h9) rfl dX0_body_17 ?_
      refine lv_ishl hx hb dX0_body_20 ?_
      refine hx_eq (y := bm (rp i)) rfl ?_
      refine lv_goto (tgt := 37) hx hb dX0_body_21 (by decide) ?_
      exact W.iret (v := bm (rp i)) hx hb hr (fun t ht hW => ⟨_, rfl, by simp [bodyM, c_1, c_2], ht⟩) (fun _ h => by cases h) dX0_body_37
set_option maxHeartbeats 4000000 in
set_option maxRecDepth 100000 in
theorem c_X0_given (l : Launch) (dC : Nat → ClassId) (dI : Nat → Nat → Nat) (a : Nat → Nat) (cA : Nat → ClassId) (n : Nat) (hd fm rp rq : Nat → Nat) (nd nw bf su sI sO : Nat → Int32) (i : Nat) (hy_0 : i < 12) (hy_1 : fm i ≤ 4) (hy_2 : rp i < 7) (hy_3 : rq i < 7) : RdM l yX0_given wsX0_given ({ frames := 2, cells := 0, slots := 0, locals := 46 }) (dC, dI) vwCl (vkW a cA n hd fm rp rq nd nw bf su sI sO) (vkT cA) nstW [.ref (a (9 + i)), .ref (a 4)] (givM (fm i) (nw (rp i)) (nw (rq i))) := by
  refine Met.ofW (cc := cX0_given) (maxL := 2) (ret := (some .int)) (by decide) rfl ?_
  intro p e s m args below meth c s₁ B hml hv
  obtain ⟨rfl, hP, hK, hN⟩ := hv
  have hx := B.exec
  have hb := B.bytes
  have hr := B.returns
  have hts := atoms_spec (ws := wsX0_given) B.pre
  have hown : s.vm.findClass RX0 = some m.cls := findClass_of_methodNamed B.named
  have hlocks := B.notSynchronized
  have lf_9 := hts (.fieldLink RX0 9 "ViewKeeper$Rule" "form" "I") (by decide +kernel)
  have in_X0 : ∀ w ∈ u_ws RX0 TX0 4, w ∈ wsX0_given := by decide +kernel
  have lf_15 := hts (.fieldLink RX0 15 "ViewKeeper$Rule" "p" "I") (by decide +kernel)
  have lf_18 := hts (.fieldLink RX0 18 "ViewKeeper$Rule" "q" "I") (by decide +kernel)
  have hl := lv_entry ([.ref (a (9 + i)), .ref (a 4)]) (n := 2) (Nat.le_of_ble_eq_true rfl)
  rw [lg_entry_eq]
  generalize (lg_sl ([.ref (a (9 + i)), .ref (a 4)]) ++ List.replicate (2 - (lg_sl ([.ref (a (9 + i)), .ref (a 4)])).length) Slot.unset).toArray = ls at hl ⊢
  have hl : lv_has ls 2 [(0, .ref (a (9 + i))), (1, .ref (a 4))] := hl
  refine lv_aload_n hx hb dX0_given_0 rfl (lv_at hl 0 rfl) ?_
  refine va_get (D := (dC, dI)) (ci := 0) (v := .int (nI (fm i))) (C := RX0) (T := TX0) (N := 4) hx hb hts in_X0 hown hK hP (9 + i) (vkW_rule (by omega)) rfl 1 (by decide) lf_9 (fun _ h9 => h9) rfl dX0_given_1 ?_
  rcases (show fm i = 0 ∨ fm i = 1 ∨ fm i = 2 ∨ fm i = 3 ∨ fm i = 4 by omega) with q_1 | q_1 | q_1 | q_1 | q_1
  · refine hx_eq (y := nI 0) (by rw [q_1]) ?_
    refine lv_tableIn (tgt := 36) hx hb dX0_given_4 (by decide) (by decide) (off := 32) rfl (by decide) ?_
    refine lv_aload_n hx hb dX0_given_36 rfl (lv_at hl 1 rfl) ?_
    refine lv_aload_n hx hb dX0_given_37 rfl (lv_at hl 0 rfl) ?_
    refine va_get (D := (dC, dI)) (ci := 0) (v := .int (nI (rp i))) (C := RX0) (T := TX0) (N := 4) hx hb hts in_X0 hown hK hP (9 + i) (vkW_rule (by omega)) rfl 2 (by decide) lf_15 (fun _ h9 => h9) rfl dX0_given_38 ?_
    refine hx_iald hx hb hK hP 4 2 rfl rfl (by omega) (by omega) dX0_given_41 ?_
    exact W.iret (v := nw (rp i)) hx hb hr (fun t ht hW => ⟨_, rfl, by simp [givM, q_1], ht⟩) (fun _ h => by cases h) dX0_given_42
  · refine hx_eq (y := nI 1) (by rw [q_1]) ?_
    refine lv_tableIn (tgt := 43) hx hb dX0_given_4 (by decide) (by decide) (off := 39) rfl (by decide) ?_
    refine lv_aload_n hx hb dX0_given_43 rfl (lv_at hl 1 rfl) ?_
    refine lv_aload_n hx hb dX0_given_44 rfl (lv_at hl 0 rfl) ?_
    refine va_get (D := (dC, dI)) (ci := 0) (v := .int (nI (rp i))) (C := RX0) (T := TX0) (N := 4) hx hb hts in_X0 hown hK hP (9 + i) (vkW_rule (by omega)) rfl 2 (by decide) lf_15 (fun _ h9 => h9) rfl dX0_given_45 ?_
    refine hx_iald hx hb hK hP 4 2 rfl rfl (by omega) (by omega) dX0_given_48 ?_
    refine hx_read (va_runSN (As := [.int (nw (rp i))]) (rest := []) ⟨hx, hb, hml, hown, hts⟩ (c_X2_turned l (nw (rp i))) ⟨va_cnB 1 hts gX0_given_X2_turned_n21 rfl rfl rfl (hN (.methodLinkNest RX0 21 yX2_turned "ViewKeeper") (by decide +kernel)) (hts (.initialized RX2) (by decide +kernel)) (by decide +kernel) ⟨Nat.le_of_ble_eq_true rfl, Nat.le_of_ble_eq_true rfl⟩, hts (.static yX2_turned) (by decide +kernel), trivial⟩ (nu_S _) rfl rfl hl.1 rfl (lv_room (Nat.le_of_ble_eq_true rfl)) dX0_given_49 ⟨Nat.zero_le _, Nat.zero_le _⟩) ?_
    exact W.iret (v := turnM (nw (rp i))) hx hb hr (fun t ht hW => ⟨_, rfl, by simp [givM, q_1], ht⟩) (fun _ h => by cases h) dX0_given_52
  · refine hx_eq (y := nI 2) (by rw [q_1]) ?_
    refine lv_tableIn (tgt := 53) hx hb dX0_given_4 (by decide) (by decide) (off := 49) rfl (by decide) ?_
    refine lv_aload_n hx hb dX0_given_53 rfl (lv_at hl 1 rfl) ?_
    refine lv_aload_n hx hb dX0_given_54 rfl (lv_at hl 0 rfl) ?_
    refine va_get (D := (dC, dI)) (ci := 0) (v := .int (nI (rp i))) (C := RX0) (T := TX0) (N := 4) hx hb hts in_X0 hown hK hP (9 + i) (vkW_rule (by omega)) rfl 2 (by decide) lf_15 (fun _ h9 => h9) rfl dX0_given_55 ?_
    refine hx_iald hx hb hK hP 4 2 rfl rfl (by omega) (by omega) dX0_given_58 ?_
    refine lv_aload_n hx hb dX0_given_59 rfl (lv_at hl 1 rfl) ?_
    refine lv_aload_n hx hb dX0_given_60 rfl (lv_at hl 0 rfl) ?_
    refine va_get (D := (dC, dI)) (ci := 0) (v := .int (nI (rq i))) (C := RX0) (T := TX0) (N := 4) hx hb hts in_X0 hown hK hP (9 + i) (vkW_rule (by omega)) rfl 3 (by decide) lf_18 (fun _ h9 => h9) rfl dX0_given_61 ?_
    refine hx_iald hx hb hK hP 4 2 rfl rfl (by omega) (by omega) dX0_given_64 ?_
    refine hx_read (va_runSN (As := [.int (nw (rp i)), .int (nw (rq i))]) (rest := []) ⟨hx, hb, hml, hown, hts⟩ (c_X2_joined l (nw (rp i)) (nw (rq i))) ⟨va_cnB 2 hts gX0_given_X2_joined_n25 rfl rfl rfl (hN (.methodLinkNest RX0 25 yX2_joined "ViewKeeper") (by decide +kernel)) (hts (.initialized RX2) (by decide +kernel)) (by decide +kernel) ⟨Nat.le_of_ble_eq_true rfl, Nat.le_of_ble_eq_true rfl⟩, hts (.static yX2_joined) (by decide +kernel), trivial⟩ (nu_S _) rfl rfl hl.1 rfl (lv_room (Nat.le_of_ble_eq_true rfl)) dX0_given_65 ⟨Nat.zero_le _, Nat.zero_le _⟩) ?_
    exact W.iret (v := joinM (nw (rp i)) (nw (rq i))) hx hb hr (fun t ht hW => ⟨_, rfl, by simp [givM, q_1], ht⟩) (fun _ h => by cases h) dX0_given_68
  · refine hx_eq (y := nI 3) (by rw [q_1]) ?_
    refine lv_tableIn (tgt := 69) hx hb dX0_given_4 (by decide) (by decide) (off := 65) rfl (by decide) ?_
    refine lv_aload_n hx hb dX0_given_69 rfl (lv_at hl 1 rfl) ?_
    refine lv_aload_n hx hb dX0_given_70 rfl (lv_at hl 0 rfl) ?_
    refine va_get (D := (dC, dI)) (ci := 0) (v := .int (nI (rp i))) (C := RX0) (T := TX0) (N := 4) hx hb hts in_X0 hown hK hP (9 + i) (vkW_rule (by omega)) rfl 2 (by decide) lf_15 (fun _ h9 => h9) rfl dX0_given_71 ?_
    refine hx_iald hx hb hK hP 4 2 rfl rfl (by omega) (by omega) dX0_given_74 ?_
    refine lv_aload_n hx hb dX0_given_75 rfl (lv_at hl 1 rfl) ?_
    refine lv_aload_n hx hb dX0_given_76 rfl (lv_at hl 0 rfl) ?_
    refine va_get (D := (dC, dI)) (ci := 0) (v := .int (nI (rq i))) (C := RX0) (T := TX0) (N := 4) hx hb hts in_X0 hown hK hP (9 + i) (vkW_rule (by omega)) rfl 3 (by decide) lf_18 (fun _ h9 => h9) rfl dX0_given_77 ?_
    refine hx_iald hx hb hK hP 4 2 rfl rfl (by omega) (by omega) dX0_given_80 ?_
    refine lv_iand hx hb dX0_given_81 ?_
    exact W.iret (v := (nw (rp i)) &&& (nw (rq i))) hx hb hr (fun t ht hW => ⟨_, rfl, by simp [givM, q_1], ht⟩) (fun _ h => by cases h) dX0_given_82
  · refine hx_eq (y := nI 4) (by rw [q_1]) ?_
    refine lv_tableOut (tgt := 83) hx hb dX0_given_4 (Or.inr (by decide)) (by decide) ?_
    refine lv_aload_n hx hb dX0_given_83 rfl (lv_at hl 1 rfl) ?_
    refine lv_aload_n hx hb dX0_given_84 rfl (lv_at hl 0 rfl) ?_
    refine va_get (D := (dC, dI)) (ci := 0) (v := .int (nI (rp i))) (C := RX0) (T := TX0) (N := 4) hx hb hts in_X0 hown hK hP (9 + i) (vkW_rule (by omega)) rfl 2 (by decide) lf_15 (fun _ h9 => h9) rfl dX0_given_85 ?_
    refine hx_iald hx hb hK hP 4 2 rfl rfl (by omega) (by omega) dX0_given_88 ?_
    refine lv_aload_n hx hb dX0_given_89 rfl (lv_at hl 1 rfl) ?_
    refine lv_aload_n hx hb dX0_given_90 rfl (lv_at hl 0 rfl) ?_
    refine va_get (D := (dC, dI)) (ci := 0) (v := .int (nI (rq i))) (C := RX0) (T := TX0) (N := 4) hx hb hts in_X0 hown hK hP (9 + i) (vkW_rule (by omega)) rfl 3 (by decide) lf_18 (fun _ h9 => h9) rfl dX0_given_91 ?_
    refine hx_iald hx hb hK hP 4 2 rfl rfl (by omega) (by omega) dX0_given_94 ?_
    refine lv_iconst (v := (-1)) hx hb dX0_given_95 (by decide) ?_
    refine lv_ixor hx hb dX0_given_96 ?_
    refine lv_iand hx hb dX0_given_97 ?_
    exact W.iret (v := (nw (rp i)) &&& ((nw (rq i)) ^^^ ((-1)))) hx hb hr (fun t ht hW => ⟨_, rfl, by simp [givM, q_1], ht⟩) (fun _ h => by cases h) dX0_given_98
set_option maxHeartbeats 4000000 in
set_option maxRecDepth 100000 in
theorem c_X0_instances (l : Launch) (dC : Nat → ClassId) (dI : Nat → Nat → Nat) (a : Nat → Nat) (cA : Nat → ClassId) (n : Nat) (hd fm rp rq : Nat → Nat) (nd nw bf su sI sO : Nat → Int32) (i x y : Nat) (hy_0 : i < 12) (hy_1 : fm i ≤ 4) (hy_2 : rp i < 7) (hy_3 : rq i < 7) (hy_4 : x < 5) (hy_5 : y < 5) : RdM l yX0_instances wsX0_instances ({ frames := 3, cells := 0, slots := 0, locals := 67 }) (dC, dI) vwCl (vkW a cA n hd fm rp rq nd nw bf su sI sO) (vkT cA) nstW [.ref (a (9 + i)), .ref (a 4), .int (nI x), .int (nI y)] (nI (insM (fm i) (nw (rp i)) (nw (rq i)) x y)) := by
  refine Met.ofW (cc := cX0_instances) (maxL := 6) (ret := (some .int)) (by decide) rfl ?_
  intro p e s m args below meth c s₁ B hml hv
  obtain ⟨rfl, hP, hK, hN⟩ := hv
  have hx := B.exec
  have hb := B.bytes
  have hr := B.returns
  have hts := atoms_spec (ws := wsX0_instances) B.pre
  have hown : s.vm.findClass RX0 = some m.cls := findClass_of_methodNamed B.named
  have hlocks := B.notSynchronized
  have lf_9 := hts (.fieldLink RX0 9 "ViewKeeper$Rule" "form" "I") (by decide +kernel)
  have in_X0 : ∀ w ∈ u_ws RX0 TX0 4, w ∈ wsX0_instances := by decide +kernel
  have lf_15 := hts (.fieldLink RX0 15 "ViewKeeper$Rule" "p" "I") (by decide +kernel)
  have lf_18 := hts (.fieldLink RX0 18 "ViewKeeper$Rule" "q" "I") (by decide +kernel)
  have hl := lv_entry ([.ref (a (9 + i)), .ref (a 4), .int (nI x), .int (nI y)]) (n := 6) (Nat.le_of_ble_eq_true rfl)
  rw [lg_entry_eq]
  generalize (lg_sl ([.ref (a (9 + i)), .ref (a 4), .int (nI x), .int (nI y)]) ++ List.replicate (6 - (lg_sl ([.ref (a (9 + i)), .ref (a 4), .int (nI x), .int (nI y)])).length) Slot.unset).toArray = ls at hl ⊢
  have hl : lv_has ls 6 [(0, .ref (a (9 + i))), (1, .ref (a 4)), (2, .int (nI x)), (3, .int (nI y))] := hl
  refine lv_aload_n hx hb dX0_instances_0 rfl (lv_at hl 0 rfl) ?_
  refine va_get (D := (dC, dI)) (ci := 0) (v := .int (nI (fm i))) (C := RX0) (T := TX0) (N := 4) hx hb hts in_X0 hown hK hP (9 + i) (vkW_rule (by omega)) rfl 1 (by decide) lf_9 (fun _ h9 => h9) rfl dX0_instances_1 ?_
  refine lv_iconst (v := nI 2) hx hb dX0_instances_4 (by decide) ?_
  refine hx_eqN (tgt := 27) hx hb dX0_instances_5 (by decide) (by omega) (by omega) (fun c_1 => ?_) (fun c_1 => ?_)
  · refine lv_iconst (v := nI 0) hx hb dX0_instances_27 (by decide) ?_
    refine lv_istore (lv' := [(4, .int (nI 0)), (0, .ref (a (9 + i))), (1, .ref (a 4)), (2, .int (nI x)), (3, .int (nI y))]) hx hb dX0_instances_28 hl (by decide) rfl (fun ls hl => ?_)
    refine lv_iconst (v := nI 0) hx hb dX0_instances_30 (by decide) ?_
    refine lv_istore (lv' := [(5, .int (nI 0)), (4, .int (nI 0)), (0, .ref (a (9 + i))), (1, .ref (a 4)), (2, .int (nI x)), (3, .int (nI y))]) hx hb dX0_instances_31 hl (by decide) rfl (fun ls hl => ?_)
    have L_33_1 : ∀ (nn : Nat) (z : Nat) (w : Nat), z + nn = 5 → ∀ ls : Array Slot, lv_has ls 6 [(0, .ref (a (9 + i))), (1, .ref (a 4)), (2, .int (nI x)), (3, .int (nI y)), (4, .int (nI w)), (5, .int (nI z))] → (∀ ls : Array Slot, lv_has ls 6 [(0, .ref (a (9 + i))), (1, .ref (a 4)), (2, .int (nI x)), (3, .int (nI y)), (4, .int (nI (insJ (nw (rp i)) (nw (rq i)) x y nn z w))), (5, .int (nI 5))] → W p l e (headSpec wsX0_instances ({ frames := 3, cells := 0, slots := 0, locals := 67 })).room s m ([.ref (a (9 + i)), .ref (a 4), .int (nI x), .int (nI y)] : List Value).toArray below meth c s.heap [] 0 0 (MQ below (vp_Si (fun r => r = (nI (insM (fm i) (nw (rp i)) (nw (rq i)) x y)))) ([.ref (a (9 + i)), .ref (a 4), .int (nI x), .int (nI y)] : List Value).toArray s 0 0 (fun _ => False)) (F0 m 78 ls [])) → W p l e (headSpec wsX0_instances ({ frames := 3, cells := 0, slots := 0, locals := 67 })).room s m ([.ref (a (9 + i)), .ref (a 4), .int (nI x), .int (nI y)] : List Value).toArray below meth c s.heap [] 0 0 (MQ below (vp_Si (fun r => r = (nI (insM (fm i) (nw (rp i)) (nw (rq i)) x y)))) ([.ref (a (9 + i)), .ref (a 4), .int (nI x), .int (nI y)] : List Value).toArray s 0 0 (fun _ => False)) (F0 m 33 ls []) := by
      intro nn
      induction nn with
      | zero =>
        intro z w hnz ls hl kx
        obtain rfl : z = 5 := by omega
        refine lv_iload hx hb dX0_instances_33 (lv_at hl 5 rfl) ?_
        refine lv_iconst (v := nI 5) hx hb dX0_instances_35 (by decide) ?_
        refine hx_geN (tgt := 78) hx hb dX0_instances_36 (by decide) (by omega) (by omega) (fun c_3 => ?_) (fun c_3 => ?_)
        · exact kx ls (lv_sub hl [0, 1, 2, 3, 4, 5] rfl)
        · exact absurd c_3 (by omega)
      | succ nn ih =>
        intro z w hnz ls hl kx
        refine lv_iload hx hb dX0_instances_33 (lv_at hl 5 rfl) ?_
        refine lv_iconst (v := nI 5) hx hb dX0_instances_35 (by decide) ?_
        refine hx_geN (tgt := 78) hx hb dX0_instances_36 (by decide) (by omega) (by omega) (fun c_4 => ?_) (fun c_4 => ?_)
        · exact absurd c_4 (by omega)
        · refine lv_aload_n hx hb dX0_instances_39 rfl (lv_at hl 1 rfl) ?_
          refine lv_aload_n hx hb dX0_instances_40 rfl (lv_at hl 0 rfl) ?_
          refine va_get (D := (dC, dI)) (ci := 0) (v := .int (nI (rp i))) (C := RX0) (T := TX0) (N := 4) hx hb hts in_X0 hown hK hP (9 + i) (vkW_rule (by omega)) rfl 2 (by decide) lf_15 (fun _ h9 => h9) rfl dX0_instances_41 ?_
          refine hx_iald hx hb hK hP 4 2 rfl rfl (by omega) (by omega) dX0_instances_44 ?_
          refine lv_iload_n hx hb dX0_instances_45 rfl (lv_at hl 2 rfl) ?_
          refine lv_iload hx hb dX0_instances_46 (lv_at hl 5 rfl) ?_
          refine hx_read (va_runSN (As := [.int (nw (rp i)), .int (nI x), .int (nI z)]) (rest := []) ⟨hx, hb, hml, hown, hts⟩ (c_X2_holds l (nw (rp i)) x z (by omega) (by omega)) ⟨va_cnB 3 hts gX0_instances_X2_holds_n33 rfl rfl rfl (hN (.methodLinkNest RX0 33 yX2_holds "ViewKeeper") (by decide +kernel)) (hts (.initialized RX2) (by decide +kernel)) (by decide +kernel) ⟨Nat.le_of_ble_eq_true rfl, Nat.le_of_ble_eq_true rfl⟩, hts (.static yX2_holds) (by decide +kernel), trivial⟩ (nu_S _) rfl rfl hl.1 rfl (lv_room (Nat.le_of_ble_eq_true rfl)) dX0_instances_48 ⟨Nat.zero_le _, Nat.zero_le _⟩) ?_
          refine hx_ifB (tgt := 72) hx hb dX0_instances_51 (by decide) (fun c_5 => ?_) (fun c_5 => ?_)
          · refine lv_iinc (v := nI (z + 1)) (lv' := [(5, .int (nI (z + 1))), (0, .ref (a (9 + i))), (1, .ref (a 4)), (2, .int (nI x)), (3, .int (nI y)), (4, .int (nI w))]) hx hb dX0_instances_72 hl (k := 5) rfl (nI_add z 1) (by decide) rfl (fun ls hl => ?_)
            refine lv_goto (tgt := 33) hx hb dX0_instances_75 (by decide) ?_
            have kx := kx
            rw [show insJ (nw (rp i)) (nw (rq i)) x y (nn + 1) z w = insJ (nw (rp i)) (nw (rq i)) x y nn (z + 1) w from by simp only [insJ, c_1, c_4, c_5, ↓reduceIte, Bool.false_eq_true, Bool.and_true, Bool.true_and, Bool.and_false, Bool.false_and]] at kx
            exact ih (z + 1) w (by omega) ls (lv_sub hl [1, 2, 3, 4, 5, 0] rfl) kx
          · refine lv_aload_n hx hb dX0_instances_54 rfl (lv_at hl 1 rfl) ?_
            refine lv_aload_n hx hb dX0_instances_55 rfl (lv_at hl 0 rfl) ?_
            refine va_get (D := (dC, dI)) (ci := 0) (v := .int (nI (rq i))) (C := RX0) (T := TX0) (N := 4) hx hb hts in_X0 hown hK hP (9 + i) (vkW_rule (by omega)) rfl 3 (by decide) lf_18 (fun _ h9 => h9) rfl dX0_instances_56 ?_
            refine hx_iald hx hb hK hP 4 2 rfl rfl (by omega) (by omega) dX0_instances_59 ?_
            refine lv_iload hx hb dX0_instances_60 (lv_at hl 5 rfl) ?_
            refine lv_iload_n hx hb dX0_instances_62 rfl (lv_at hl 3 rfl) ?_
            refine hx_read (va_runSN (As := [.int (nw (rq i)), .int (nI z), .int (nI y)]) (rest := []) ⟨hx, hb, hml, hown, hts⟩ (c_X2_holds l (nw (rq i)) z y (by omega) (by omega)) ⟨va_cnB 3 hts gX0_instances_X2_holds_n33 rfl rfl rfl (hN (.methodLinkNest RX0 33 yX2_holds "ViewKeeper") (by decide +kernel)) (hts (.initialized RX2) (by decide +kernel)) (by decide +kernel) ⟨Nat.le_of_ble_eq_true rfl, Nat.le_of_ble_eq_true rfl⟩, hts (.static yX2_holds) (by decide +kernel), trivial⟩ (nu_S _) rfl rfl hl.1 rfl (lv_room (Nat.le_of_ble_eq_true rfl)) dX0_instances_63 ⟨Nat.zero_le _, Nat.zero_le _⟩) ?_
            refine hx_ifB (tgt := 72) hx hb dX0_instances_66 (by decide) (fun c_6 => ?_) (fun c_6 => ?_)
            · refine lv_iinc (v := nI (z + 1)) (lv' := [(5, .int (nI (z + 1))), (0, .ref (a (9 + i))), (1, .ref (a 4)), (2, .int (nI x)), (3, .int (nI y)), (4, .int (nI w))]) hx hb dX0_instances_72 hl (k := 5) rfl (nI_add z 1) (by decide) rfl (fun ls hl => ?_)
              refine lv_goto (tgt := 33) hx hb dX0_instances_75 (by decide) ?_
              have kx := kx
              rw [show insJ (nw (rp i)) (nw (rq i)) x y (nn + 1) z w = insJ (nw (rp i)) (nw (rq i)) x y nn (z + 1) w from by simp only [insJ, c_1, c_4, c_5, c_6, ↓reduceIte, Bool.false_eq_true, Bool.and_true, Bool.true_and, Bool.and_false, Bool.false_and]] at kx
              exact ih (z + 1) w (by omega) ls (lv_sub hl [1, 2, 3, 4, 5, 0] rfl) kx
            · refine lv_iinc (v := nI (w + 1)) (lv' := [(4, .int (nI (w + 1))), (0, .ref (a (9 + i))), (1, .ref (a 4)), (2, .int (nI x)), (3, .int (nI y)), (5, .int (nI z))]) hx hb dX0_instances_69 hl (k := 4) rfl (nI_add w 1) (by decide) rfl (fun ls hl => ?_)
              refine lv_iinc (v := nI (z + 1)) (lv' := [(5, .int (nI (z + 1))), (4, .int (nI (w + 1))), (0, .ref (a (9 + i))), (1, .ref (a 4)), (2, .int (nI x)), (3, .int (nI y))]) hx hb dX0_instances_72 hl (k := 5) rfl (nI_add z 1) (by decide) rfl (fun ls hl => ?_)
              refine lv_goto (tgt := 33) hx hb dX0_instances_75 (by decide) ?_
              have kx := kx
              rw [show insJ (nw (rp i)) (nw (rq i)) x y (nn + 1) z w = insJ (nw (rp i)) (nw (rq i)) x y nn (z + 1) (w + 1) from by simp only [insJ, c_1, c_4, c_5, c_6, ↓reduceIte, Bool.false_eq_true, Bool.and_true, Bool.true_and, Bool.and_false, Bool.false_and]] at kx
              exact ih (z + 1) (w + 1) (by omega) ls (lv_sub hl [2, 3, 4, 5, 1, 0] rfl) kx
    refine L_33_1 5 0 0 (by omega) ls (lv_sub hl [2, 3, 4, 5, 1, 0] rfl) (fun ls hl => ?_)
    have hl : lv_has ls 6 [(0, .ref (a (9 + i))), (1, .ref (a 4)), (2, .int (nI x)), (3, .int (nI y)), (4, .int (nI (insJ (nw (rp i)) (nw (rq i)) x y 5 0 0))), (5, .int (nI 5))] := hl
    refine lv_iload hx hb dX0_instances_78 (lv_at hl 4 rfl) ?_
    exact W.iret (v := nI (insJ (nw (rp i)) (nw (rq i)) x y 5 0 0)) hx hb hr (fun t ht hW => ⟨_, rfl, by simp [insM, c_1], ht⟩) (fun _ h => by cases h) dX0_instances_80
  · refine lv_aload_n hx hb dX0_instances_8 rfl (lv_at hl 0 rfl) ?_
    refine lv_aload_n hx hb dX0_instances_9 rfl (lv_at hl 1 rfl) ?_
    refine hx_read (va_runV (As := [.ref (a 4)]) (rest := []) ⟨hx, hb, hml, hown, hts⟩ (c_X0_given l dC dI a cA n hd fm rp rq nd nw bf su sI sO i (by omega) (by omega) (by omega) (by omega)) (cwV 1 hts gX0_instances_X0_given rfl rfl rfl (by decide +kernel) ⟨Nat.le_of_ble_eq_true rfl, Nat.le_of_ble_eq_true rfl⟩) (rd_V nstW_ok hP hK hN (9 + i) (vkW_rule (by omega)) rfl _) rfl rfl hl.1 rfl (lv_room (Nat.le_of_ble_eq_true rfl)) dX0_instances_10 ⟨Nat.zero_le _, Nat.zero_le _⟩) ?_
    refine lv_iload_n hx hb dX0_instances_13 rfl (lv_at hl 2 rfl) ?_
    refine lv_iload_n hx hb dX0_instances_14 rfl (lv_at hl 3 rfl) ?_
    refine hx_read (va_runSN (As := [.int (givM (fm i) (nw (rp i)) (nw (rq i))), .int (nI x), .int (nI y)]) (rest := []) ⟨hx, hb, hml, hown, hts⟩ (c_X2_holds l (givM (fm i) (nw (rp i)) (nw (rq i))) x y (by omega) (by omega)) ⟨va_cnB 3 hts gX0_instances_X2_holds_n33 rfl rfl rfl (hN (.methodLinkNest RX0 33 yX2_holds "ViewKeeper") (by decide +kernel)) (hts (.initialized RX2) (by decide +kernel)) (by decide +kernel) ⟨Nat.le_of_ble_eq_true rfl, Nat.le_of_ble_eq_true rfl⟩, hts (.static yX2_holds) (by decide +kernel), trivial⟩ (nu_S _) rfl rfl hl.1 rfl (lv_room (Nat.le_of_ble_eq_true rfl)) dX0_instances_15 ⟨Nat.zero_le _, Nat.zero_le _⟩) ?_
    refine hx_ifB (tgt := 25) hx hb dX0_instances_18 (by decide) (fun c_7 => ?_) (fun c_7 => ?_)
    · refine lv_iconst (v := nI 0) hx hb dX0_instances_25 (by decide) ?_
      exact W.iret (v := nI 0) hx hb hr (fun t ht hW => ⟨_, rfl, by simp [insM, c_1, c_7], ht⟩) (fun _ h => by cases h) dX0_instances_26
    · refine lv_iconst (v := nI 1) hx hb dX0_instances_21 (by decide) ?_
      refine lv_goto (tgt := 26) hx hb dX0_instances_22 (by decide) ?_
      exact W.iret (v := nI 1) hx hb hr (fun t ht hW => ⟨_, rfl, by simp [insM, c_1, c_7], ht⟩) (fun _ h => by cases h) dX0_instances_26
set_option maxHeartbeats 4000000 in
set_option maxRecDepth 100000 in
theorem c_X1_leadsTo (l : Launch) (dC : Nat → ClassId) (dI : Nat → Nat → Nat) (a : Nat → Nat) (cA : Nat → ClassId) (n : Nat) (hd fm rp rq : Nat → Nat) (nd nw bf su sI sO : Nat → Int32) (f t : Nat) (hy_0 : f < 7) (hy_1 : t < 7) : RdM l yX1_leadsTo wsX1_leadsTo ({ frames := 0, cells := 0, slots := 0, locals := 0 }) (dC, dI) vwCl (vkW a cA n hd fm rp rq nd nw bf su sI sO) (vkT cA) nstW [.ref (a 1), .int (nI f), .int (nI t)] (bI (bt (nd f) t)) := by
  refine Met.ofW (cc := cX1_leadsTo) (maxL := 3) (ret := (some .boolean)) (by decide) rfl ?_
  intro p e s m args below meth c s₁ B hml hv
  obtain ⟨rfl, hP, hK, hN⟩ := hv
  have hx := B.exec
  have hb := B.bytes
  have hr := B.returns
  have hts := atoms_spec (ws := wsX1_leadsTo) B.pre
  have hown : s.vm.findClass RX1 = some m.cls := findClass_of_methodNamed B.named
  have hlocks := B.notSynchronized
  have lf_18 := hts (.fieldLink RX1 18 "ViewKeeper$RuleBook" "needed" "[I") (by decide +kernel)
  have in_X1 : ∀ w ∈ u_ws RX1 TX1 3, w ∈ wsX1_leadsTo := by decide +kernel
  have hl := lv_entry ([.ref (a 1), .int (nI f), .int (nI t)]) (n := 3) (Nat.le_of_ble_eq_true rfl)
  rw [lg_entry_eq]
  generalize (lg_sl ([.ref (a 1), .int (nI f), .int (nI t)]) ++ List.replicate (3 - (lg_sl ([.ref (a 1), .int (nI f), .int (nI t)])).length) Slot.unset).toArray = ls at hl ⊢
  have hl : lv_has ls 3 [(0, .ref (a 1)), (1, .int (nI f)), (2, .int (nI t))] := hl
  refine lv_aload_n hx hb dX1_leadsTo_0 rfl (lv_at hl 0 rfl) ?_
  refine va_get (D := (dC, dI)) (ci := 1) (v := .ref (a 3)) (C := RX1) (T := TX1) (N := 3) hx hb hts in_X1 hown hK hP 1 rfl rfl 1 (by decide) lf_18 (fun _ h9 => h9) rfl dX1_leadsTo_1 ?_
  refine lv_iload_n hx hb dX1_leadsTo_4 rfl (lv_at hl 1 rfl) ?_
  refine hx_iald hx hb hK hP 3 1 rfl rfl (by omega) (by omega) dX1_leadsTo_5 ?_
  refine lv_iconst (v := nI 1) hx hb dX1_leadsTo_6 (by decide) ?_
  refine lv_iload_n hx hb dX1_leadsTo_7 rfl (lv_at hl 2 rfl) ?_
  refine lv_ishl hx hb dX1_leadsTo_8 ?_
  refine hx_eq (y := bm t) rfl ?_
  refine lv_iand hx hb dX1_leadsTo_9 ?_
  refine lv_if_eq (tgt := 17) hx hb dX1_leadsTo_10 (by decide) (fun c_1 => ?_) (fun c_1 => ?_)
  · refine lv_iconst (v := nI 0) hx hb dX1_leadsTo_17 (by decide) ?_
    exact W.zret (v := nI 0) hx hb hr rfl (fun t ht hW => ⟨_, rfl, by rw [and_bm0 (by omega) c_1]; rfl, ht⟩) (fun _ h => by cases h) dX1_leadsTo_18
  · refine lv_iconst (v := nI 1) hx hb dX1_leadsTo_13 (by decide) ?_
    refine lv_goto (tgt := 18) hx hb dX1_leadsTo_14 (by decide) ?_
    exact W.zret (v := nI 1) hx hb hr rfl (fun t ht hW => ⟨_, rfl, by rw [and_bm1 (by omega) c_1]; rfl, ht⟩) (fun _ h => by cases h) dX1_leadsTo_18
set_option maxHeartbeats 4000000 in
set_option maxRecDepth 100000 in
theorem c_J6_bitCount_0f7a4 (l : Launch) (p0 : Int32)  : NuM l yJ6_bitCount_0f7a4 wsJ6_bitCount_0f7a4 ({ frames := 0, cells := 0, slots := 0, locals := 0 }) [.int (p0)] (nI (cntB p0 32)) := by
  refine va_MetF (cc := cJ6_bitCount_0f7a4) (maxL := 1) (ret := (some .int)) (by decide) rfl ?_
  intro p e s m args below meth c s₁ B hml hv
  obtain ⟨rfl, -⟩ := hv
  have hx := B.exec
  have hb := B.bytes
  have hr := B.returns
  have hts := atoms_spec (ws := wsJ6_bitCount_0f7a4) B.pre
  have hown : s.vm.findClass RJ6 = some m.cls := findClass_of_methodNamed B.named
  have hlocks := B.notSynchronized
  have hl := lv_entry ([.int (p0)]) (n := 1) (Nat.le_of_ble_eq_true rfl)
  rw [lg_entry_eq]
  generalize (lg_sl ([.int (p0)]) ++ List.replicate (1 - (lg_sl ([.int (p0)])).length) Slot.unset).toArray = ls at hl ⊢
  have hl : lv_has ls 1 [(0, .int (p0))] := hl
  refine lv_iload_n hx hb dJ6_bitCount_0f7a4_0 rfl (lv_at hl 0 rfl) ?_
  refine lv_iload_n hx hb dJ6_bitCount_0f7a4_1 rfl (lv_at hl 0 rfl) ?_
  refine lv_iconst (v := nI 1) hx hb dJ6_bitCount_0f7a4_2 (by decide) ?_
  refine lv_iushr hx hb dJ6_bitCount_0f7a4_3 rfl ?_
  refine lv_ldcw (v := 1431655765) hx hb hown (hts (.constant RJ6 265 (1431655765)) (by decide +kernel)) dJ6_bitCount_0f7a4_4 ?_
  refine lv_iand hx hb dJ6_bitCount_0f7a4_7 ?_
  refine lv_isub hx hb dJ6_bitCount_0f7a4_8 ?_
  refine hx_eq (y := bc1 p0) (rfl) ?_
  refine lv_istore_n (lv' := [(0, .int (bc1 p0))]) hx hb dJ6_bitCount_0f7a4_9 rfl hl (by decide) rfl (fun ls hl => ?_)
  refine lv_iload_n hx hb dJ6_bitCount_0f7a4_10 rfl (lv_at hl 0 rfl) ?_
  refine lv_ldcw (v := 858993459) hx hb hown (hts (.constant RJ6 266 (858993459)) (by decide +kernel)) dJ6_bitCount_0f7a4_11 ?_
  refine lv_iand hx hb dJ6_bitCount_0f7a4_14 ?_
  refine lv_iload_n hx hb dJ6_bitCount_0f7a4_15 rfl (lv_at hl 0 rfl) ?_
  refine lv_iconst (v := nI 2) hx hb dJ6_bitCount_0f7a4_16 (by decide) ?_
  refine lv_iushr hx hb dJ6_bitCount_0f7a4_17 rfl ?_
  refine lv_ldcw (v := 858993459) hx hb hown (hts (.constant RJ6 266 (858993459)) (by decide +kernel)) dJ6_bitCount_0f7a4_18 ?_
  refine lv_iand hx hb dJ6_bitCount_0f7a4_21 ?_
  refine lv_iadd hx hb dJ6_bitCount_0f7a4_22 ?_
  refine hx_eq (y := bc2' p0) (rfl) ?_
  refine lv_istore_n (lv' := [(0, .int (bc2' p0))]) hx hb dJ6_bitCount_0f7a4_23 rfl hl (by decide) rfl (fun ls hl => ?_)
  refine lv_iload_n hx hb dJ6_bitCount_0f7a4_24 rfl (lv_at hl 0 rfl) ?_
  refine lv_iload_n hx hb dJ6_bitCount_0f7a4_25 rfl (lv_at hl 0 rfl) ?_
  refine lv_iconst (v := nI 4) hx hb dJ6_bitCount_0f7a4_26 (by decide) ?_
  refine lv_iushr hx hb dJ6_bitCount_0f7a4_27 rfl ?_
  refine lv_iadd hx hb dJ6_bitCount_0f7a4_28 ?_
  refine lv_ldcw (v := 252645135) hx hb hown (hts (.constant RJ6 267 (252645135)) (by decide +kernel)) dJ6_bitCount_0f7a4_29 ?_
  refine lv_iand hx hb dJ6_bitCount_0f7a4_32 ?_
  refine hx_eq (y := bc3 p0) (rfl) ?_
  refine lv_istore_n (lv' := [(0, .int (bc3 p0))]) hx hb dJ6_bitCount_0f7a4_33 rfl hl (by decide) rfl (fun ls hl => ?_)
  refine lv_iload_n hx hb dJ6_bitCount_0f7a4_34 rfl (lv_at hl 0 rfl) ?_
  refine lv_iload_n hx hb dJ6_bitCount_0f7a4_35 rfl (lv_at hl 0 rfl) ?_
  refine lv_bipush (v := nI 8) hx hb dJ6_bitCount_0f7a4_36 (by decide) ?_
  refine lv_iushr hx hb dJ6_bitCount_0f7a4_38 rfl ?_
  refine lv_iadd hx hb dJ6_bitCount_0f7a4_39 ?_
  refine hx_eq (y := bc4 p0) (rfl) ?_
  refine lv_istore_n (lv' := [(0, .int (bc4 p0))]) hx hb dJ6_bitCount_0f7a4_40 rfl hl (by decide) rfl (fun ls hl => ?_)
  refine lv_iload_n hx hb dJ6_bitCount_0f7a4_41 rfl (lv_at hl 0 rfl) ?_
  refine lv_iload_n hx hb dJ6_bitCount_0f7a4_42 rfl (lv_at hl 0 rfl) ?_
  refine lv_bipush (v := nI 16) hx hb dJ6_bitCount_0f7a4_43 (by decide) ?_
  refine lv_iushr hx hb dJ6_bitCount_0f7a4_45 rfl ?_
  refine lv_iadd hx hb dJ6_bitCount_0f7a4_46 ?_
  refine hx_eq (y := bc5 p0) (rfl) ?_
  refine lv_istore_n (lv' := [(0, .int (bc5 p0))]) hx hb dJ6_bitCount_0f7a4_47 rfl hl (by decide) rfl (fun ls hl => ?_)
  refine lv_iload_n hx hb dJ6_bitCount_0f7a4_48 rfl (lv_at hl 0 rfl) ?_
  refine lv_bipush (v := nI 63) hx hb dJ6_bitCount_0f7a4_49 (by decide) ?_
  refine lv_iand hx hb dJ6_bitCount_0f7a4_51 ?_
  exact W.iret (v := (bc5 p0) &&& (nI 63)) hx hb hr (fun t ht hW => ⟨_, rfl, bc_ok p0, ht⟩) (fun _ h => by cases h) dJ6_bitCount_0f7a4_52
set_option maxHeartbeats 4000000 in
set_option maxRecDepth 100000 in
theorem c_X1_layerOf (l : Launch) (dC : Nat → ClassId) (dI : Nat → Nat → Nat) (a : Nat → Nat) (cA : Nat → ClassId) (n : Nat) (hd fm rp rq : Nat → Nat) (nd nw bf su sI sO : Nat → Int32) (v : Nat) (hy_0 : v < 7) : RdM l yX1_layerOf wsX1_layerOf ({ frames := 1, cells := 0, slots := 0, locals := 20 }) (dC, dI) vwCl (vkW a cA n hd fm rp rq nd nw bf su sI sO) (vkT cA) nstW [.ref (a 1), .int (nI v)] (nI (cntB (nd v ||| bm v) 32)) := by
  refine Met.ofW (cc := cX1_layerOf) (maxL := 2) (ret := (some .int)) (by decide) rfl ?_
  intro p e s m args below meth c s₁ B hml hv
  obtain ⟨rfl, hP, hK, hN⟩ := hv
  have hx := B.exec
  have hb := B.bytes
  have hr := B.returns
  have hts := atoms_spec (ws := wsX1_layerOf) B.pre
  have hown : s.vm.findClass RX1 = some m.cls := findClass_of_methodNamed B.named
  have hlocks := B.notSynchronized
  have lf_18 := hts (.fieldLink RX1 18 "ViewKeeper$RuleBook" "needed" "[I") (by decide +kernel)
  have in_X1 : ∀ w ∈ u_ws RX1 TX1 3, w ∈ wsX1_layerOf := by decide +kernel
  have hl := lv_entry ([.ref (a 1), .int (nI v)]) (n := 2) (Nat.le_of_ble_eq_true rfl)
  rw [lg_entry_eq]
  generalize (lg_sl ([.ref (a 1), .int (nI v)]) ++ List.replicate (2 - (lg_sl ([.ref (a 1), .int (nI v)])).length) Slot.unset).toArray = ls at hl ⊢
  have hl : lv_has ls 2 [(0, .ref (a 1)), (1, .int (nI v))] := hl
  refine lv_aload_n hx hb dX1_layerOf_0 rfl (lv_at hl 0 rfl) ?_
  refine va_get (D := (dC, dI)) (ci := 1) (v := .ref (a 3)) (C := RX1) (T := TX1) (N := 3) hx hb hts in_X1 hown hK hP 1 rfl rfl 1 (by decide) lf_18 (fun _ h9 => h9) rfl dX1_layerOf_1 ?_
  refine lv_iload_n hx hb dX1_layerOf_4 rfl (lv_at hl 1 rfl) ?_
  refine hx_iald hx hb hK hP 3 1 rfl rfl (by omega) (by omega) dX1_layerOf_5 ?_
  refine lv_iconst (v := nI 1) hx hb dX1_layerOf_6 (by decide) ?_
  refine lv_iload_n hx hb dX1_layerOf_7 rfl (lv_at hl 1 rfl) ?_
  refine lv_ishl hx hb dX1_layerOf_8 ?_
  refine hx_eq (y := bm v) rfl ?_
  refine lv_ior hx hb dX1_layerOf_9 ?_
  refine hx_read (va_runS (As := [.int ((nd v) ||| (bm v))]) (rest := []) ⟨hx, hb, hml, hown, hts⟩ (c_J6_bitCount_0f7a4 l ((nd v) ||| (bm v))) (va_cwS 1 hts gX1_layerOf_J6_bitCount_0f7a4 rfl rfl rfl (by decide +kernel) ⟨Nat.le_of_ble_eq_true rfl, Nat.le_of_ble_eq_true rfl⟩) (nu_S _) rfl rfl hl.1 rfl (lv_room (Nat.le_of_ble_eq_true rfl)) dX1_layerOf_10 ⟨Nat.zero_le _, Nat.zero_le _⟩) ?_
  exact W.iret (v := nI (cntB ((nd v) ||| (bm v)) 32)) hx hb hr (fun t ht hW => ⟨_, rfl, rfl, ht⟩) (fun _ h => by cases h) dX1_layerOf_13
set_option maxHeartbeats 4000000 in
set_option maxRecDepth 100000 in
theorem c_X1_hasCycle (l : Launch) (dC : Nat → ClassId) (dI : Nat → Nat → Nat) (a : Nat → Nat) (cA : Nat → ClassId) (n : Nat) (hd fm rp rq : Nat → Nat) (nd nw bf su sI sO : Nat → Int32) (hy_0 : ruOk n hd fm rp rq) : RdM l yX1_hasCycle wsX1_hasCycle ({ frames := 1, cells := 0, slots := 0, locals := 22 }) (dC, dI) vwCl (vkW a cA n hd fm rp rq nd nw bf su sI sO) (vkT cA) nstW [.ref (a 1)] (bI (cycF hd fm rq nd n 0)) := by
  refine Met.ofW (cc := cX1_hasCycle) (maxL := 3) (ret := (some .boolean)) (by decide) rfl ?_
  intro p e s m args below meth c s₁ B hml hv
  obtain ⟨rfl, hP, hK, hN⟩ := hv
  have hx := B.exec
  have hb := B.bytes
  have hr := B.returns
  have hts := atoms_spec (ws := wsX1_hasCycle) B.pre
  have hown : s.vm.findClass RX1 = some m.cls := findClass_of_methodNamed B.named
  have hlocks := B.notSynchronized
  obtain ⟨hn12, hru⟩ := hy_0
  have lf_22 := hts (.fieldLink RX1 22 "ViewKeeper$RuleBook" "made" "I") (by decide +kernel)
  have in_X1 : ∀ w ∈ u_ws RX1 TX1 3, w ∈ wsX1_hasCycle := by decide +kernel
  have lf_11 := hts (.fieldLink RX1 11 "ViewKeeper$RuleBook" "rows" "[LViewKeeper$Rule;") (by decide +kernel)
  have lf_29 : (Cond.fieldLinkNest RX1 29 "ViewKeeper$Rule" "form" "I" "ViewKeeper").before ([.ref (a 1)] : List Value).toArray s = true := va_Nw.use rfl (hN _ (by decide +kernel))
  have in_X0 : ∀ w ∈ u_ws RX0 TX0 4, w ∈ wsX1_hasCycle := by decide +kernel
  have lf_35 : (Cond.fieldLinkNest RX1 35 "ViewKeeper$Rule" "q" "I" "ViewKeeper").before ([.ref (a 1)] : List Value).toArray s = true := va_Nw.use rfl (hN _ (by decide +kernel))
  have lf_26 : (Cond.fieldLinkNest RX1 26 "ViewKeeper$Rule" "head" "I" "ViewKeeper").before ([.ref (a 1)] : List Value).toArray s = true := va_Nw.use rfl (hN _ (by decide +kernel))
  have hl := lv_entry ([.ref (a 1)]) (n := 3) (Nat.le_of_ble_eq_true rfl)
  rw [lg_entry_eq]
  generalize (lg_sl ([.ref (a 1)]) ++ List.replicate (3 - (lg_sl ([.ref (a 1)])).length) Slot.unset).toArray = ls at hl ⊢
  have hl : lv_has ls 3 [(0, .ref (a 1))] := hl
  refine lv_iconst (v := nI 0) hx hb dX1_hasCycle_0 (by decide) ?_
  refine lv_istore_n (lv' := [(1, .int (nI 0)), (0, .ref (a 1))]) hx hb dX1_hasCycle_1 rfl hl (by decide) rfl (fun ls hl => ?_)
  have L_2_0 : ∀ (nn : Nat) (i : Nat), i + nn = n → cycF hd fm rq nd nn i = cycF hd fm rq nd n 0 → ∀ ls : Array Slot, lv_has ls 3 [(0, .ref (a 1)), (1, .int (nI i))] → W p l e (headSpec wsX1_hasCycle ({ frames := 1, cells := 0, slots := 0, locals := 22 })).room s m ([.ref (a 1)] : List Value).toArray below meth c s.heap [] 0 0 (MQ below (vp_Si (fun r => r = (bI (cycF hd fm rq nd n 0)))) ([.ref (a 1)] : List Value).toArray s 0 0 (fun _ => False)) (F0 m 2 ls []) := by
    intro nn
    induction nn with
    | zero =>
      intro i hni hV ls hl
      obtain rfl : n = i := by omega
      refine lv_iload_n hx hb dX1_hasCycle_2 rfl (lv_at hl 1 rfl) ?_
      refine lv_aload_n hx hb dX1_hasCycle_3 rfl (lv_at hl 0 rfl) ?_
      refine va_get (D := (dC, dI)) (ci := 1) (v := .int (nI n)) (C := RX1) (T := TX1) (N := 3) hx hb hts in_X1 hown hK hP 1 rfl rfl 2 (by decide) lf_22 (fun _ h9 => h9) rfl dX1_hasCycle_4 ?_
      refine hx_geN (tgt := 59) hx hb dX1_hasCycle_7 (by decide) (by omega) (by omega) (fun c_2 => ?_) (fun c_2 => ?_)
      · refine lv_iconst (v := nI 0) hx hb dX1_hasCycle_59 (by decide) ?_
        exact W.zret (v := nI 0) hx hb hr rfl (fun t ht hW => ⟨_, rfl, by rw [← hV]; simp [cycF, bI, nI, c_2], ht⟩) (fun _ h => by cases h) dX1_hasCycle_60
      · exact absurd c_2 (by omega)
    | succ nn ih =>
      intro i hni hV ls hl
      refine lv_iload_n hx hb dX1_hasCycle_2 rfl (lv_at hl 1 rfl) ?_
      refine lv_aload_n hx hb dX1_hasCycle_3 rfl (lv_at hl 0 rfl) ?_
      refine va_get (D := (dC, dI)) (ci := 1) (v := .int (nI n)) (C := RX1) (T := TX1) (N := 3) hx hb hts in_X1 hown hK hP 1 rfl rfl 2 (by decide) lf_22 (fun _ h9 => h9) rfl dX1_hasCycle_4 ?_
      refine hx_geN (tgt := 59) hx hb dX1_hasCycle_7 (by decide) (by omega) (by omega) (fun c_3 => ?_) (fun c_3 => ?_)
      · exact absurd c_3 (by omega)
      · have hr9 := hru i (by omega)
        refine lv_aload_n hx hb dX1_hasCycle_10 rfl (lv_at hl 0 rfl) ?_
        refine va_get (D := (dC, dI)) (ci := 1) (v := .ref (a 2)) (C := RX1) (T := TX1) (N := 3) hx hb hts in_X1 hown hK hP 1 rfl rfl 0 (by decide) lf_11 (fun _ h9 => h9) rfl dX1_hasCycle_11 ?_
        refine lv_iload_n hx hb dX1_hasCycle_14 rfl (lv_at hl 1 rfl) ?_
        refine hx_aald hx hb hK hP 2 0 rfl rfl (by omega) (by omega) dX1_hasCycle_15 ?_
        refine lv_astore_n (lv' := [(2, .ref (a (9 + i))), (0, .ref (a 1)), (1, .int (nI i))]) hx hb dX1_hasCycle_16 rfl hl (by decide) rfl (fun ls hl => ?_)
        refine lv_aload_n hx hb dX1_hasCycle_17 rfl (lv_at hl 0 rfl) ?_
        refine va_getN (D := (dC, dI)) (ci := 0) (v := .int (nI (fm i))) (C := RX0) (T := TX0) (N := 4) hx hb hts in_X0 hown hK hP (9 + i) (vkW_rule (by omega)) rfl 1 (by decide) lf_29 (fun _ h9 => h9) rfl dX1_hasCycle_18 ?_
        refine lv_iconst (v := nI 4) hx hb dX1_hasCycle_21 (by decide) ?_
        refine hx_neN (tgt := 53) hx hb dX1_hasCycle_22 (by decide) (by omega) (by omega) (fun c_4 => ?_) (fun c_4 => ?_)
        · refine lv_iinc (v := nI (i + 1)) (lv' := [(1, .int (nI (i + 1))), (2, .ref (a (9 + i))), (0, .ref (a 1))]) hx hb dX1_hasCycle_53 hl (k := 2) rfl (nI_add i 1) (by decide) rfl (fun ls hl => ?_)
          refine lv_goto (tgt := 2) hx hb dX1_hasCycle_56 (by decide) ?_
          exact ih (i + 1) (by omega) (by rw [← hV]; simp [cycF, c_3, c_4]) ls (lv_sub hl [2, 0] rfl)
        · refine lv_aload_n hx hb dX1_hasCycle_25 rfl (lv_at hl 0 rfl) ?_
          refine va_getN (D := (dC, dI)) (ci := 0) (v := .int (nI (rq i))) (C := RX0) (T := TX0) (N := 4) hx hb hts in_X0 hown hK hP (9 + i) (vkW_rule (by omega)) rfl 3 (by decide) lf_35 (fun _ h9 => h9) rfl dX1_hasCycle_26 ?_
          refine lv_aload_n hx hb dX1_hasCycle_29 rfl (lv_at hl 0 rfl) ?_
          refine va_getN (D := (dC, dI)) (ci := 0) (v := .int (nI (hd i))) (C := RX0) (T := TX0) (N := 4) hx hb hts in_X0 hown hK hP (9 + i) (vkW_rule (by omega)) rfl 0 (by decide) lf_26 (fun _ h9 => h9) rfl dX1_hasCycle_30 ?_
          refine hx_eqN (tgt := 51) hx hb dX1_hasCycle_33 (by decide) (by omega) (by omega) (fun c_5 => ?_) (fun c_5 => ?_)
          · refine lv_iconst (v := nI 1) hx hb dX1_hasCycle_51 (by decide) ?_
            exact W.zret (v := nI 1) hx hb hr rfl (fun t ht hW => ⟨_, rfl, by rw [← hV]; simp [cycF, bI, nI, c_3, c_4, c_5], ht⟩) (fun _ h => by cases h) dX1_hasCycle_52
          · refine lv_aload_n hx hb dX1_hasCycle_36 rfl (lv_at hl 1 rfl) ?_
            refine lv_aload_n hx hb dX1_hasCycle_37 rfl (lv_at hl 0 rfl) ?_
            refine va_getN (D := (dC, dI)) (ci := 0) (v := .int (nI (rq i))) (C := RX0) (T := TX0) (N := 4) hx hb hts in_X0 hown hK hP (9 + i) (vkW_rule (by omega)) rfl 3 (by decide) lf_35 (fun _ h9 => h9) rfl dX1_hasCycle_38 ?_
            refine lv_aload_n hx hb dX1_hasCycle_41 rfl (lv_at hl 0 rfl) ?_
            refine va_getN (D := (dC, dI)) (ci := 0) (v := .int (nI (hd i))) (C := RX0) (T := TX0) (N := 4) hx hb hts in_X0 hown hK hP (9 + i) (vkW_rule (by omega)) rfl 0 (by decide) lf_26 (fun _ h9 => h9) rfl dX1_hasCycle_42 ?_
            refine hx_read (va_runV (As := [.int (nI (rq i)), .int (nI (hd i))]) (rest := []) ⟨hx, hb, hml, hown, hts⟩ (c_X1_leadsTo l dC dI a cA n hd fm rp rq nd nw bf su sI sO (rq i) (hd i) (by omega) (by omega)) (cwV 2 hts gX1_hasCycle_X1_leadsTo rfl rfl rfl (by decide +kernel) ⟨Nat.le_of_ble_eq_true rfl, Nat.le_of_ble_eq_true rfl⟩) (rd_V nstW_ok hP hK hN 1 rfl rfl _) rfl rfl hl.1 rfl (lv_room (Nat.le_of_ble_eq_true rfl)) dX1_hasCycle_45 ⟨Nat.zero_le _, Nat.zero_le _⟩) ?_
            refine hx_ifB (tgt := 53) hx hb dX1_hasCycle_48 (by decide) (fun c_6 => ?_) (fun c_6 => ?_)
            · refine lv_iinc (v := nI (i + 1)) (lv' := [(1, .int (nI (i + 1))), (2, .ref (a (9 + i))), (0, .ref (a 1))]) hx hb dX1_hasCycle_53 hl (k := 2) rfl (nI_add i 1) (by decide) rfl (fun ls hl => ?_)
              refine lv_goto (tgt := 2) hx hb dX1_hasCycle_56 (by decide) ?_
              exact ih (i + 1) (by omega) (by rw [← hV]; simp [cycF, c_3, c_4, c_5, c_6]) ls (lv_sub hl [2, 0] rfl)
            · refine lv_iconst (v := nI 1) hx hb dX1_hasCycle_51 (by decide) ?_
              exact W.zret (v := nI 1) hx hb hr rfl (fun t ht hW => ⟨_, rfl, by rw [← hV]; simp [cycF, bI, nI, c_3, c_4, c_5, c_6], ht⟩) (fun _ h => by cases h) dX1_hasCycle_52
  exact L_2_0 n 0 (by omega) (rfl) ls (lv_sub hl [1, 0] rfl)
end
section
/-! the book's writing methods -/
def filF (v : Int32) : Nat → Nat → (Nat → Int32) → Nat → Int32
  | 0, _, g => g
  | n + 1, j, g => filF v n (j + 1) (upd g j v)
theorem filF_at (v : Int32) : ∀ (n j : Nat) (g : Nat → Int32) (i : Nat), filF v n j g i = if j ≤ i ∧ i < j + n then v else g i := by
  intro n
  induction n with
  | zero => intro j g i; rw [filF, if_neg (by omega)]
  | succ n ih =>
    intro j g i
    rw [filF, ih]
    unfold upd
    by_cases e : i = j
    · subst e
      rw [if_neg (by omega), if_pos rfl, if_pos (by omega)]
    · by_cases h : j + 1 ≤ i ∧ i < j + 1 + n
      · rw [if_pos h, if_pos (by omega)]
      · rw [if_neg h, if_neg e, if_neg (by omega)]
theorem filF_all (v : Int32) {k : Nat} (g : Nat → Int32) {j : Nat} (h : j < k) : filF v k 0 g j = v := by rw [filF_at, if_pos (by omega)]
def ndR (hd fm rp rq : Nat → Nat) : Nat → Nat → (Nat → Int32) → Nat → Int32
  | 0, _, f => f
  | k + 1, i, f => ndR hd fm rp rq k (i + 1) (upd f (hd i) (f (hd i) ||| bodyM (fm i) (rp i) (rq i)))
def ndV (mid : Nat) : Nat → Nat → (Nat → Int32) → Nat → Int32
  | 0, _, f => f
  | k + 1, w, f => ndV mid k (w + 1) (if bt (f w) mid = true then upd f w (f w ||| f mid) else f)
def ndM : Nat → Nat → (Nat → Int32) → Nat → Int32
  | 0, _, f => f
  | k + 1, mid, f => ndM k (mid + 1) (ndV mid 5 2 f)
def ndA (n : Nat) (hd fm rp rq : Nat → Nat) : Nat → Int32 := ndM 5 2 (ndR hd fm rp rq n 0 (fun _ => nI 0))
theorem ruOk_pred {n : Nat} {hd fm rp rq : Nat → Nat} (h : ruOk n hd fm rp rq) : ruOk (n - 1) hd fm rp rq := ⟨by have := h.1; omega, fun k hk => h.2 k (by omega)⟩
theorem ruOk_add {n : Nat} {hd fm rp rq : Nat → Nat} {vh vf vp vq : Nat} (h : ruOk n hd fm rp rq) (hn : n < 12) (hv : 2 ≤ vh ∧ vh < 7 ∧ vf ≤ 4 ∧ vp < 7 ∧ vq < 7) : ruOk (n + 1) (va_up hd n vh) (va_up fm n vf) (va_up rp n vp) (va_up rq n vq) := by
  refine ⟨by omega, fun k hk => ?_⟩
  unfold va_up
  by_cases e : k = n
  · simp only [e, ↓reduceIte]; exact hv
  · simp only [e, ↓reduceIte]; exact h.2 k (by omega)
section VP
variable {a : Nat → Nat} {cA : Nat → ClassId} {n : Nat} {hd fm rp rq : Nat → Nat} {nd nw bf su sI sO : Nat → Int32} {i v : Nat}
theorem vkW_p0 (hi : i < 12) : (vkW a cA n hd fm rp rq nd nw bf su sI sO).set (9 + i) (a (9 + i), .inr (0, ([.int (nI (hd i)), .int (nI (fm i)), .int (nI (rp i)), .int (nI (rq i))] : List Value).set 0 (.int (nI v)))) = vkW a cA n (va_up hd i v) fm rp rq nd nw bf su sI sO := by
  have h := vkW_set (a := a) (cA := cA) (n := n) (hd := hd) (fm := fm) (rp := rp) (rq := rq) (nd := nd) (nw := nw) (bf := bf) (su := su) (sI := sI) (sO := sO) (h := v) (f := fm i) (p := rp i) (q := rq i) hi
  rw [va_up_same, va_up_same, va_up_same] at h
  exact h
theorem vkW_p1 (hi : i < 12) : (vkW a cA n hd fm rp rq nd nw bf su sI sO).set (9 + i) (a (9 + i), .inr (0, ([.int (nI (hd i)), .int (nI (fm i)), .int (nI (rp i)), .int (nI (rq i))] : List Value).set 1 (.int (nI v)))) = vkW a cA n hd (va_up fm i v) rp rq nd nw bf su sI sO := by
  have h := vkW_set (a := a) (cA := cA) (n := n) (hd := hd) (fm := fm) (rp := rp) (rq := rq) (nd := nd) (nw := nw) (bf := bf) (su := su) (sI := sI) (sO := sO) (h := hd i) (f := v) (p := rp i) (q := rq i) hi
  rw [va_up_same, va_up_same, va_up_same] at h
  exact h
theorem vkW_p2 (hi : i < 12) : (vkW a cA n hd fm rp rq nd nw bf su sI sO).set (9 + i) (a (9 + i), .inr (0, ([.int (nI (hd i)), .int (nI (fm i)), .int (nI (rp i)), .int (nI (rq i))] : List Value).set 2 (.int (nI v)))) = vkW a cA n hd fm (va_up rp i v) rq nd nw bf su sI sO := by
  have h := vkW_set (a := a) (cA := cA) (n := n) (hd := hd) (fm := fm) (rp := rp) (rq := rq) (nd := nd) (nw := nw) (bf := bf) (su := su) (sI := sI) (sO := sO) (h := hd i) (f := fm i) (p := v) (q := rq i) hi
  rw [va_up_same, va_up_same, va_up_same] at h
  exact h
theorem vkW_p3 (hi : i < 12) : (vkW a cA n hd fm rp rq nd nw bf su sI sO).set (9 + i) (a (9 + i), .inr (0, ([.int (nI (hd i)), .int (nI (fm i)), .int (nI (rp i)), .int (nI (rq i))] : List Value).set 3 (.int (nI v)))) = vkW a cA n hd fm rp (va_up rq i v) nd nw bf su sI sO := by
  have h := vkW_set (a := a) (cA := cA) (n := n) (hd := hd) (fm := fm) (rp := rp) (rq := rq) (nd := nd) (nw := nw) (bf := bf) (su := su) (sI := sI) (sO := sO) (h := hd i) (f := fm i) (p := rp i) (q := v) hi
  rw [va_up_same, va_up_same, va_up_same] at h
  exact h
end VP
set_option maxHeartbeats 4000000 in
set_option maxRecDepth 100000 in
theorem c_J7_fill_53178 (l : Launch) (dC : Nat → ClassId) (dI : Nat → Nat → Nat) (ad : Nat) (cX : ClassId) (k : Nat) (f : Nat → Int32) (v : Int32) (hy_0 : k < 1000) : WrV l yJ7_fill_53178 wsJ7_fill_53178 ({ frames := 0, cells := 0, slots := 0, locals := 0 }) (dC, dI) vwCl (arW ad cX k f) (arW ad cX k (fun _ => v)) ([(cX, .int)]) nstW [.ref ad, .int (v)] := by
  intro sz
  refine va_MetF (cc := cJ7_fill_53178) (maxL := 4) (ret := none) (by decide) rfl ?_
  intro p e s m args below meth c s₁ B hml hv
  obtain ⟨rfl, hsz, ⟨hP, hK, hN⟩, hD0⟩ := hv
  subst hsz
  have hx := B.exec
  have hb := B.bytes
  have hr := B.returns
  have hts := atoms_spec (ws := wsJ7_fill_53178) B.pre
  have hown : s.vm.findClass RJ7 = some m.cls := findClass_of_methodNamed B.named
  have hlocks := B.notSynchronized
  obtain ⟨A, hAe⟩ : ∃ A, A = va_A (arW ad cX k f) s.heap.size := ⟨_, rfl⟩
  have hD : va_D A (arW ad cX k f) := by rw [hAe]; exact hD0.self (sz := s.heap.size)
  have hA : ∀ q : Nat, s.heap.size ≤ q → A q := fun q h => by rw [hAe]; exact Or.inr h
  have hS : va_S A s.heap s.heap [] := va_S.rf
  have hP : va_P (dC, dI) vwCl (arW ad cX k f) s.heap := hP
  have hl := lv_entry ([.ref ad, .int (v)]) (n := 4) (Nat.le_of_ble_eq_true rfl)
  rw [lg_entry_eq]
  generalize (lg_sl ([.ref ad, .int (v)]) ++ List.replicate (4 - (lg_sl ([.ref ad, .int (v)])).length) Slot.unset).toArray = ls at hl ⊢
  have hl : lv_has ls 4 [(0, .ref ad), (1, .int (v))] := hl
  refine lv_iconst (v := nI 0) hx hb dJ7_fill_53178_0 (by decide) ?_
  refine lv_istore_n (lv' := [(2, .int (nI 0)), (0, .ref ad), (1, .int (v))]) hx hb dJ7_fill_53178_1 rfl hl (by decide) rfl (fun ls hl => ?_)
  refine lv_aload_n hx hb dJ7_fill_53178_2 rfl (lv_at hl 1 rfl) ?_
  refine va_alen hx hb hK hP 0 0 (v := nI k) rfl rfl rfl dJ7_fill_53178_3 ?_
  refine lv_istore_n (lv' := [(3, .int (nI k)), (2, .int (nI 0)), (0, .ref ad), (1, .int (v))]) hx hb dJ7_fill_53178_4 rfl hl (by decide) rfl (fun ls hl => ?_)
  have L_5_0 : ∀ (nn : Nat) (j : Nat) (g : Nat → Int32), j + nn = k → ∀ (H : Heap) (locs : List Loc), va_P (dC, dI) vwCl (arW ad cX k g) H → va_D A (arW ad cX k g) → va_S A s.heap H locs → ∀ ls : Array Slot, lv_has ls 4 [(0, .ref ad), (1, .int (v)), (2, .int (nI j)), (3, .int (nI k))] → (∀ (H : Heap) (locs : List Loc), va_P (dC, dI) vwCl (arW ad cX k (filF v nn j g)) H → va_D A (arW ad cX k (filF v nn j g)) → va_S A s.heap H locs → ∀ ls : Array Slot, lv_has ls 4 [(0, .ref ad), (1, .int (v)), (2, .int (nI k)), (3, .int (nI k))] → W p l e (headSpec wsJ7_fill_53178 ({ frames := 0, cells := 0, slots := 0, locals := 0 })).room s m ([.ref ad, .int (v)] : List Value).toArray below meth c H locs 0 0 (MQ below (va_Qv (fun _ : Unit => True) (wrB (dC, dI) vwCl (arW ad cX k f) (arW ad cX k (fun _ => v)) ([(cX, .int)]) s.heap.size) (va_A (arW ad cX k f) s.heap.size)) ([.ref ad, .int (v)] : List Value).toArray s 0 0 (va_A (arW ad cX k f) s.heap.size)) (F0 m 20 ls [])) → W p l e (headSpec wsJ7_fill_53178 ({ frames := 0, cells := 0, slots := 0, locals := 0 })).room s m ([.ref ad, .int (v)] : List Value).toArray below meth c H locs 0 0 (MQ below (va_Qv (fun _ : Unit => True) (wrB (dC, dI) vwCl (arW ad cX k f) (arW ad cX k (fun _ => v)) ([(cX, .int)]) s.heap.size) (va_A (arW ad cX k f) s.heap.size)) ([.ref ad, .int (v)] : List Value).toArray s 0 0 (va_A (arW ad cX k f) s.heap.size)) (F0 m 5 ls []) := by
    intro nn
    induction nn with
    | zero =>
      intro j g hnj H locs hP hD hS ls hl kx
      obtain rfl : k = j := by omega
      refine lv_iload_n hx hb dJ7_fill_53178_5 rfl (lv_at hl 2 rfl) ?_
      refine lv_iload_n hx hb dJ7_fill_53178_6 rfl (lv_at hl 3 rfl) ?_
      refine hx_geN (tgt := 20) hx hb dJ7_fill_53178_7 (by decide) (by omega) (by omega) (fun c_2 => ?_) (fun c_2 => ?_)
      · exact kx _ _ hP hD hS ls (lv_sub hl [0, 1, 2, 3] rfl)
      · exact absurd c_2 (by omega)
    | succ nn ih =>
      intro j g hnj H locs hP hD hS ls hl kx
      refine lv_iload_n hx hb dJ7_fill_53178_5 rfl (lv_at hl 2 rfl) ?_
      refine lv_iload_n hx hb dJ7_fill_53178_6 rfl (lv_at hl 3 rfl) ?_
      refine hx_geN (tgt := 20) hx hb dJ7_fill_53178_7 (by decide) (by omega) (by omega) (fun c_3 => ?_) (fun c_3 => ?_)
      · exact absurd c_3 (by omega)
      · refine lv_aload_n hx hb dJ7_fill_53178_10 rfl (lv_at hl 0 rfl) ?_
        refine lv_iload_n hx hb dJ7_fill_53178_11 rfl (lv_at hl 2 rfl) ?_
        refine lv_iload_n hx hb dJ7_fill_53178_12 rfl (lv_at hl 1 rfl) ?_
        refine hx_iast hx hb hK hP hD hS 0 0 rfl rfl (by omega) (by omega) dJ7_fill_53178_13 (fun H locs hP hD hS => ?_)
        have hP : va_P (dC, dI) vwCl (arW ad cX k (upd g j v)) H := hP
        have hD : va_D A (arW ad cX k (upd g j v)) := hD
        refine lv_iinc (v := nI (j + 1)) (lv' := [(2, .int (nI (j + 1))), (0, .ref ad), (1, .int (v)), (3, .int (nI k))]) hx hb dJ7_fill_53178_14 hl (k := 2) rfl (nI_add j 1) (by decide) rfl (fun ls hl => ?_)
        refine lv_goto (tgt := 5) hx hb dJ7_fill_53178_17 (by decide) ?_
        have kx := kx
        rw [show filF v (nn + 1) j g = filF v nn (j + 1) (upd g j v) from rfl] at kx
        exact ih (j + 1) (upd g j v) (by omega) _ _ hP hD hS ls (lv_sub hl [1, 2, 0, 3] rfl) kx
  refine L_5_0 k 0 f (by omega) _ _ hP hD hS ls (lv_sub hl [2, 3, 1, 0] rfl) (fun H locs hP hD hS ls hl => ?_)
  have hP : va_P (dC, dI) vwCl (arW ad cX k (filF v k 0 f)) H := hP
  have hD : va_D A (arW ad cX k (filF v k 0 f)) := hD
  have hl : lv_has ls 4 [(0, .ref ad), (1, .int (v)), (2, .int (nI k)), (3, .int (nI k))] := hl
  have hP := hP.arr 0 (fun _ => v) rfl (fun j hj => filF_all v f hj)
  have hD := hD.set (p := 0) (e := .inl (cX, k, .inl (fun _ => v))) rfl
  have hP : va_P (dC, dI) vwCl (arW ad cX k (fun _ => v)) H := hP
  have hD : va_D A (arW ad cX k (fun _ => v)) := hD
  have e9 : arW ad cX k (fun _ => v) = arW ad cX k (fun _ => v) := rfl
  rw [e9] at hP hD
  subst hAe
  exact W.vret hx hb hr (fun t ht hW => ⟨⟨(), rfl, trivial, by rw [ht]; exact hP, va_K.moved hW.alike hK, hD⟩, hS.F ht⟩) hS.2.2 dJ7_fill_53178_20
set_option maxHeartbeats 4000000 in
set_option maxRecDepth 100000 in
theorem c_X1_findNeeded (l : Launch) (dC : Nat → ClassId) (dI : Nat → Nat → Nat) (a : Nat → Nat) (cA : Nat → ClassId) (n : Nat) (hd fm rp rq : Nat → Nat) (nd nw bf su sI sO : Nat → Int32) (hy_0 : ruOk n hd fm rp rq) : WrV l yX1_findNeeded wsX1_findNeeded ({ frames := 1, cells := 0, slots := 0, locals := 23 }) (dC, dI) vwCl (vkW a cA n hd fm rp rq nd nw bf su sI sO) (vkW a cA n hd fm rp rq (ndA n hd fm rp rq) nw bf su sI sO) (vkT cA) nstW [.ref (a 1)] := by
  intro sz
  refine Met.ofW (cc := cX1_findNeeded) (maxL := 3) (ret := none) (by decide) rfl ?_
  intro p e s m args below meth c s₁ B hml hv
  obtain ⟨rfl, hsz, ⟨hP, hK, hN⟩, hD0⟩ := hv
  subst hsz
  have hx := B.exec
  have hb := B.bytes
  have hr := B.returns
  have hts := atoms_spec (ws := wsX1_findNeeded) B.pre
  have hown : s.vm.findClass RX1 = some m.cls := findClass_of_methodNamed B.named
  have hlocks := B.notSynchronized
  obtain ⟨A, hAe⟩ : ∃ A, A = va_A (vkW a cA n hd fm rp rq nd nw bf su sI sO) s.heap.size := ⟨_, rfl⟩
  have hD : va_D A (vkW a cA n hd fm rp rq nd nw bf su sI sO) := by rw [hAe]; exact hD0.self (sz := s.heap.size)
  have hA : ∀ q : Nat, s.heap.size ≤ q → A q := fun q h => by rw [hAe]; exact Or.inr h
  have hS : va_S A s.heap s.heap [] := va_S.rf
  have hP : va_P (dC, dI) vwCl (vkW a cA n hd fm rp rq nd nw bf su sI sO) s.heap := hP
  obtain ⟨hn12, hru⟩ := id hy_0
  have lf_18 := hts (.fieldLink RX1 18 "ViewKeeper$RuleBook" "needed" "[I") (by decide +kernel)
  have in_X1 : ∀ w ∈ u_ws RX1 TX1 3, w ∈ wsX1_findNeeded := by decide +kernel
  have lf_22 := hts (.fieldLink RX1 22 "ViewKeeper$RuleBook" "made" "I") (by decide +kernel)
  have lf_11 := hts (.fieldLink RX1 11 "ViewKeeper$RuleBook" "rows" "[LViewKeeper$Rule;") (by decide +kernel)
  have lf_26 : (Cond.fieldLinkNest RX1 26 "ViewKeeper$Rule" "head" "I" "ViewKeeper").before ([.ref (a 1)] : List Value).toArray s = true := va_Nw.use rfl (hN _ (by decide +kernel))
  have in_X0 : ∀ w ∈ u_ws RX0 TX0 4, w ∈ wsX1_findNeeded := by decide +kernel
  have hl := lv_entry ([.ref (a 1)]) (n := 3) (Nat.le_of_ble_eq_true rfl)
  rw [lg_entry_eq]
  generalize (lg_sl ([.ref (a 1)]) ++ List.replicate (3 - (lg_sl ([.ref (a 1)])).length) Slot.unset).toArray = ls at hl ⊢
  have hl : lv_has ls 3 [(0, .ref (a 1))] := hl
  refine lv_aload_n hx hb dX1_findNeeded_0 rfl (lv_at hl 0 rfl) ?_
  refine va_get (D := (dC, dI)) (ci := 1) (v := .ref (a 3)) (C := RX1) (T := TX1) (N := 3) hx hb hts in_X1 hown hK hP 1 rfl rfl 1 (by decide) lf_18 (fun _ h9 => h9) rfl dX1_findNeeded_1 ?_
  refine lv_iconst (v := nI 0) hx hb dX1_findNeeded_4 (by decide) ?_
  have hPc : va_P (dC, dI) vwCl (arW (a 3) (cA 3) 7 nd) s.heap := hP.sub [3] rfl
  have hDc : va_D A (arW (a 3) (cA 3) 7 nd) := hD.sub [3] (by decide) rfl
  have hKc : va_K (dC, dI) vwCl [(cA 3, .int)] s := hK.sub [1] rfl
  refine hx_wrv1 (va_runS (As := [.ref (a 3), .int (nI 0)]) (rest := []) ⟨hx, hb, hml, hown, hts⟩ (c_J7_fill_53178 l dC dI (a 3) (cA 3) 7 nd (nI 0) (by omega) s.heap.size) (va_cwS 2 hts gX1_findNeeded_J7_fill_53178 rfl rfl rfl (by decide +kernel) ⟨Nat.le_of_ble_eq_true rfl, Nat.le_of_ble_eq_true rfl⟩) (wr_S nstW_ok hPc hKc hN hDc _) rfl rfl hl.1 rfl (lv_room (Nat.le_of_ble_eq_true rfl)) dX1_findNeeded_5 ⟨Nat.zero_le _, Nat.zero_le _⟩) 3 hP rfl hD hS hA (fun H locs hP hD hS => ?_)
  have hP : va_P (dC, dI) vwCl (vkW a cA n hd fm rp rq (fun _ => nI 0) nw bf su sI sO) H := hP
  have hD : va_D A (vkW a cA n hd fm rp rq (fun _ => nI 0) nw bf su sI sO) := hD
  refine lv_iconst (v := nI 0) hx hb dX1_findNeeded_8 (by decide) ?_
  refine lv_istore_n (lv' := [(1, .int (nI 0)), (0, .ref (a 1))]) hx hb dX1_findNeeded_9 rfl hl (by decide) rfl (fun ls hl => ?_)
  have L_10_0 : ∀ (nn : Nat) (i : Nat) (nd1 : Nat → Int32), i + nn = n → ∀ (H : Heap) (locs : List Loc), va_P (dC, dI) vwCl (vkW a cA n hd fm rp rq nd1 nw bf su sI sO) H → va_D A (vkW a cA n hd fm rp rq nd1 nw bf su sI sO) → va_S A s.heap H locs → ∀ ls : Array Slot, lv_has ls 3 [(0, .ref (a 1)), (1, .int (nI i))] → (∀ (H : Heap) (locs : List Loc), va_P (dC, dI) vwCl (vkW a cA n hd fm rp rq (ndR hd fm rp rq nn i nd1) nw bf su sI sO) H → va_D A (vkW a cA n hd fm rp rq (ndR hd fm rp rq nn i nd1) nw bf su sI sO) → va_S A s.heap H locs → ∀ ls : Array Slot, lv_has ls 3 [(0, .ref (a 1)), (1, .int (nI n))] → W p l e (headSpec wsX1_findNeeded ({ frames := 1, cells := 0, slots := 0, locals := 23 })).room s m ([.ref (a 1)] : List Value).toArray below meth c H locs 0 0 (MQ below (va_Qv (fun _ : Unit => True) (wrB (dC, dI) vwCl (vkW a cA n hd fm rp rq nd nw bf su sI sO) (vkW a cA n hd fm rp rq (ndA n hd fm rp rq) nw bf su sI sO) (vkT cA) s.heap.size) (va_A (vkW a cA n hd fm rp rq nd nw bf su sI sO) s.heap.size)) ([.ref (a 1)] : List Value).toArray s 0 0 (va_A (vkW a cA n hd fm rp rq nd nw bf su sI sO) s.heap.size)) (F0 m 50 ls [])) → W p l e (headSpec wsX1_findNeeded ({ frames := 1, cells := 0, slots := 0, locals := 23 })).room s m ([.ref (a 1)] : List Value).toArray below meth c H locs 0 0 (MQ below (va_Qv (fun _ : Unit => True) (wrB (dC, dI) vwCl (vkW a cA n hd fm rp rq nd nw bf su sI sO) (vkW a cA n hd fm rp rq (ndA n hd fm rp rq) nw bf su sI sO) (vkT cA) s.heap.size) (va_A (vkW a cA n hd fm rp rq nd nw bf su sI sO) s.heap.size)) ([.ref (a 1)] : List Value).toArray s 0 0 (va_A (vkW a cA n hd fm rp rq nd nw bf su sI sO) s.heap.size)) (F0 m 10 ls []) := by
    intro nn
    induction nn with
    | zero =>
      intro i nd1 hni H locs hP hD hS ls hl kx
      obtain rfl : n = i := by omega
      refine lv_iload_n hx hb dX1_findNeeded_10 rfl (lv_at hl 1 rfl) ?_
      refine lv_aload_n hx hb dX1_findNeeded_11 rfl (lv_at hl 0 rfl) ?_
      refine va_get (D := (dC, dI)) (ci := 1) (v := .int (nI n)) (C := RX1) (T := TX1) (N := 3) hx hb hts in_X1 hown hK hP 1 rfl rfl 2 (by decide) lf_22 (fun _ h9 => h9) rfl dX1_findNeeded_12 ?_
      refine hx_geN (tgt := 50) hx hb dX1_findNeeded_15 (by decide) (by omega) (by omega) (fun c_2 => ?_) (fun c_2 => ?_)
      · exact kx _ _ hP hD hS ls (lv_sub hl [0, 1] rfl)
      · exact absurd c_2 (by omega)
    | succ nn ih =>
      intro i nd1 hni H locs hP hD hS ls hl kx
      refine lv_iload_n hx hb dX1_findNeeded_10 rfl (lv_at hl 1 rfl) ?_
      refine lv_aload_n hx hb dX1_findNeeded_11 rfl (lv_at hl 0 rfl) ?_
      refine va_get (D := (dC, dI)) (ci := 1) (v := .int (nI n)) (C := RX1) (T := TX1) (N := 3) hx hb hts in_X1 hown hK hP 1 rfl rfl 2 (by decide) lf_22 (fun _ h9 => h9) rfl dX1_findNeeded_12 ?_
      refine hx_geN (tgt := 50) hx hb dX1_findNeeded_15 (by decide) (by omega) (by omega) (fun c_3 => ?_) (fun c_3 => ?_)
      · exact absurd c_3 (by omega)
      · have hr9 := hru i (by omega)
        refine lv_aload_n hx hb dX1_findNeeded_18 rfl (lv_at hl 0 rfl) ?_
        refine va_get (D := (dC, dI)) (ci := 1) (v := .ref (a 3)) (C := RX1) (T := TX1) (N := 3) hx hb hts in_X1 hown hK hP 1 rfl rfl 1 (by decide) lf_18 (fun _ h9 => h9) rfl dX1_findNeeded_19 ?_
        refine lv_aload_n hx hb dX1_findNeeded_22 rfl (lv_at hl 0 rfl) ?_
        refine va_get (D := (dC, dI)) (ci := 1) (v := .ref (a 2)) (C := RX1) (T := TX1) (N := 3) hx hb hts in_X1 hown hK hP 1 rfl rfl 0 (by decide) lf_11 (fun _ h9 => h9) rfl dX1_findNeeded_23 ?_
        refine lv_iload_n hx hb dX1_findNeeded_26 rfl (lv_at hl 1 rfl) ?_
        refine hx_aald hx hb hK hP 2 0 rfl rfl (by omega) (by omega) dX1_findNeeded_27 ?_
        refine va_getN (D := (dC, dI)) (ci := 0) (v := .int (nI (hd i))) (C := RX0) (T := TX0) (N := 4) hx hb hts in_X0 hown hK hP (9 + i) (vkW_rule (by omega)) rfl 0 (by decide) lf_26 (fun _ h9 => h9) rfl dX1_findNeeded_28 ?_
        refine lv_dup2_11 hx hb dX1_findNeeded_31 rfl rfl ?_
        refine hx_iald hx hb hK hP 3 1 rfl rfl (by omega) (by omega) dX1_findNeeded_32 ?_
        refine lv_aload_n hx hb dX1_findNeeded_33 rfl (lv_at hl 0 rfl) ?_
        refine va_get (D := (dC, dI)) (ci := 1) (v := .ref (a 2)) (C := RX1) (T := TX1) (N := 3) hx hb hts in_X1 hown hK hP 1 rfl rfl 0 (by decide) lf_11 (fun _ h9 => h9) rfl dX1_findNeeded_34 ?_
        refine lv_iload_n hx hb dX1_findNeeded_37 rfl (lv_at hl 1 rfl) ?_
        refine hx_aald hx hb hK hP 2 0 rfl rfl (by omega) (by omega) dX1_findNeeded_38 ?_
        refine hx_read (va_runVN (C := RX0) (As := []) (rest := [.int (nd1 (hd i)), .int (nI (hd i)), .ref (a 3)]) ⟨hx, hb, hml, hown, hts⟩ (c_X0_body l dC dI a cA n hd fm rp rq nd1 nw bf su sI sO i (by omega) (by omega) (by omega) (by omega)) ⟨va_cnB 0 hts gX1_findNeeded_X0_body_n47 rfl rfl rfl (hN (.methodLinkNest RX1 47 yX0_body "ViewKeeper") (by decide +kernel)) (hts (.initialized RX0) (by decide +kernel)) (by decide +kernel) ⟨Nat.le_of_ble_eq_true rfl, Nat.le_of_ble_eq_true rfl⟩, hts (.instanceMethod yX0_body) (by decide +kernel), hts (.selects RX0 yX0_body yX0_body) (by decide +kernel)⟩ (rd_V nstW_ok hP hK hN (9 + i) (vkW_rule (by omega)) rfl _) rfl rfl hl.1 rfl (lv_room (Nat.le_of_ble_eq_true rfl)) dX1_findNeeded_39 ⟨Nat.zero_le _, Nat.zero_le _⟩) ?_
        refine lv_ior hx hb dX1_findNeeded_42 ?_
        refine hx_iast hx hb hK hP hD hS 3 1 rfl rfl (by omega) (by omega) dX1_findNeeded_43 (fun H locs hP hD hS => ?_)
        have hP : va_P (dC, dI) vwCl (vkW a cA n hd fm rp rq (upd nd1 (hd i) ((nd1 (hd i)) ||| (bodyM (fm i) (rp i) (rq i)))) nw bf su sI sO) H := hP
        have hD : va_D A (vkW a cA n hd fm rp rq (upd nd1 (hd i) ((nd1 (hd i)) ||| (bodyM (fm i) (rp i) (rq i)))) nw bf su sI sO) := hD
        refine lv_iinc (v := nI (i + 1)) (lv' := [(1, .int (nI (i + 1))), (0, .ref (a 1))]) hx hb dX1_findNeeded_44 hl (k := 1) rfl (nI_add i 1) (by decide) rfl (fun ls hl => ?_)
        refine lv_goto (tgt := 10) hx hb dX1_findNeeded_47 (by decide) ?_
        have kx := kx
        rw [show ndR hd fm rp rq (nn + 1) i nd1 = ndR hd fm rp rq nn (i + 1) (upd nd1 (hd i) ((nd1 (hd i)) ||| (bodyM (fm i) (rp i) (rq i)))) from rfl] at kx
        exact ih (i + 1) (upd nd1 (hd i) ((nd1 (hd i)) ||| (bodyM (fm i) (rp i) (rq i)))) (by omega) _ _ hP hD hS ls (lv_sub hl [1, 0] rfl) kx
  refine L_10_0 n 0 (fun _ => nI 0) (by omega) _ _ hP hD hS ls (lv_sub hl [1, 0] rfl) (fun H locs hP hD hS ls hl => ?_)
  have hP : va_P (dC, dI) vwCl (vkW a cA n hd fm rp rq (ndR hd fm rp rq n 0 (fun _ => nI 0)) nw bf su sI sO) H := hP
  have hD : va_D A (vkW a cA n hd fm rp rq (ndR hd fm rp rq n 0 (fun _ => nI 0)) nw bf su sI sO) := hD
  have hl : lv_has ls 3 [(0, .ref (a 1)), (1, .int (nI n))] := hl
  refine lv_iconst (v := nI 2) hx hb dX1_findNeeded_50 (by decide) ?_
  refine lv_istore_n (lv' := [(1, .int (nI 2)), (0, .ref (a 1))]) hx hb dX1_findNeeded_51 rfl hl (by decide) rfl (fun ls hl => ?_)
  have L_52_3 : ∀ (nn : Nat) (mid : Nat) (nd2 : Nat → Int32), mid + nn = 7 → 2 ≤ mid → ∀ (H : Heap) (locs : List Loc), va_P (dC, dI) vwCl (vkW a cA n hd fm rp rq nd2 nw bf su sI sO) H → va_D A (vkW a cA n hd fm rp rq nd2 nw bf su sI sO) → va_S A s.heap H locs → ∀ ls : Array Slot, lv_has ls 3 [(0, .ref (a 1)), (1, .int (nI mid))] → (∀ (H : Heap) (locs : List Loc), va_P (dC, dI) vwCl (vkW a cA n hd fm rp rq (ndM nn mid nd2) nw bf su sI sO) H → va_D A (vkW a cA n hd fm rp rq (ndM nn mid nd2) nw bf su sI sO) → va_S A s.heap H locs → ∀ ls : Array Slot, lv_has ls 3 [(0, .ref (a 1)), (1, .int (nI 7))] → W p l e (headSpec wsX1_findNeeded ({ frames := 1, cells := 0, slots := 0, locals := 23 })).room s m ([.ref (a 1)] : List Value).toArray below meth c H locs 0 0 (MQ below (va_Qv (fun _ : Unit => True) (wrB (dC, dI) vwCl (vkW a cA n hd fm rp rq nd nw bf su sI sO) (vkW a cA n hd fm rp rq (ndA n hd fm rp rq) nw bf su sI sO) (vkT cA) s.heap.size) (va_A (vkW a cA n hd fm rp rq nd nw bf su sI sO) s.heap.size)) ([.ref (a 1)] : List Value).toArray s 0 0 (va_A (vkW a cA n hd fm rp rq nd nw bf su sI sO) s.heap.size)) (F0 m 102 ls [])) → W p l e (headSpec wsX1_findNeeded ({ frames := 1, cells := 0, slots := 0, locals := 23 })).room s m ([.ref (a 1)] : List Value).toArray below meth c H locs 0 0 (MQ below (va_Qv (fun _ : Unit => True) (wrB (dC, dI) vwCl (vkW a cA n hd fm rp rq nd nw bf su sI sO) (vkW a cA n hd fm rp rq (ndA n hd fm rp rq) nw bf su sI sO) (vkT cA) s.heap.size) (va_A (vkW a cA n hd fm rp rq nd nw bf su sI sO) s.heap.size)) ([.ref (a 1)] : List Value).toArray s 0 0 (va_A (vkW a cA n hd fm rp rq nd nw bf su sI sO) s.heap.size)) (F0 m 52 ls []) := by
    intro nn
    induction nn with
    | zero =>
      intro mid nd2 hnm hm2 H locs hP hD hS ls hl kx
      obtain rfl : mid = 7 := by omega
      refine lv_iload_n hx hb dX1_findNeeded_52 rfl (lv_at hl 1 rfl) ?_
      refine lv_bipush (v := nI 7) hx hb dX1_findNeeded_53 (by decide) ?_
      refine hx_geN (tgt := 102) hx hb dX1_findNeeded_55 (by decide) (by omega) (by omega) (fun c_5 => ?_) (fun c_5 => ?_)
      · exact kx _ _ hP hD hS ls (lv_sub hl [0, 1] rfl)
      · exact absurd c_5 (by omega)
    | succ nn ih =>
      intro mid nd2 hnm hm2 H locs hP hD hS ls hl kx
      refine lv_iload_n hx hb dX1_findNeeded_52 rfl (lv_at hl 1 rfl) ?_
      refine lv_bipush (v := nI 7) hx hb dX1_findNeeded_53 (by decide) ?_
      refine hx_geN (tgt := 102) hx hb dX1_findNeeded_55 (by decide) (by omega) (by omega) (fun c_6 => ?_) (fun c_6 => ?_)
      · exact absurd c_6 (by omega)
      · refine lv_iconst (v := nI 2) hx hb dX1_findNeeded_58 (by decide) ?_
        refine lv_istore_n (lv' := [(2, .int (nI 2)), (0, .ref (a 1)), (1, .int (nI mid))]) hx hb dX1_findNeeded_59 rfl hl (by decide) rfl (fun ls hl => ?_)
        have L_60_6 : ∀ (nn : Nat) (w : Nat) (nd3 : Nat → Int32), w + nn = 7 → ∀ (H : Heap) (locs : List Loc), va_P (dC, dI) vwCl (vkW a cA n hd fm rp rq nd3 nw bf su sI sO) H → va_D A (vkW a cA n hd fm rp rq nd3 nw bf su sI sO) → va_S A s.heap H locs → ∀ ls : Array Slot, lv_has ls 3 [(0, .ref (a 1)), (1, .int (nI mid)), (2, .int (nI w))] → (∀ (H : Heap) (locs : List Loc), va_P (dC, dI) vwCl (vkW a cA n hd fm rp rq (ndV mid nn w nd3) nw bf su sI sO) H → va_D A (vkW a cA n hd fm rp rq (ndV mid nn w nd3) nw bf su sI sO) → va_S A s.heap H locs → ∀ ls : Array Slot, lv_has ls 3 [(0, .ref (a 1)), (1, .int (nI mid)), (2, .int (nI 7))] → W p l e (headSpec wsX1_findNeeded ({ frames := 1, cells := 0, slots := 0, locals := 23 })).room s m ([.ref (a 1)] : List Value).toArray below meth c H locs 0 0 (MQ below (va_Qv (fun _ : Unit => True) (wrB (dC, dI) vwCl (vkW a cA n hd fm rp rq nd nw bf su sI sO) (vkW a cA n hd fm rp rq (ndA n hd fm rp rq) nw bf su sI sO) (vkT cA) s.heap.size) (va_A (vkW a cA n hd fm rp rq nd nw bf su sI sO) s.heap.size)) ([.ref (a 1)] : List Value).toArray s 0 0 (va_A (vkW a cA n hd fm rp rq nd nw bf su sI sO) s.heap.size)) (F0 m 96 ls [])) → W p l e (headSpec wsX1_findNeeded ({ frames := 1, cells := 0, slots := 0, locals := 23 })).room s m ([.ref (a 1)] : List Value).toArray below meth c H locs 0 0 (MQ below (va_Qv (fun _ : Unit => True) (wrB (dC, dI) vwCl (vkW a cA n hd fm rp rq nd nw bf su sI sO) (vkW a cA n hd fm rp rq (ndA n hd fm rp rq) nw bf su sI sO) (vkT cA) s.heap.size) (va_A (vkW a cA n hd fm rp rq nd nw bf su sI sO) s.heap.size)) ([.ref (a 1)] : List Value).toArray s 0 0 (va_A (vkW a cA n hd fm rp rq nd nw bf su sI sO) s.heap.size)) (F0 m 60 ls []) := by
          intro nn
          induction nn with
          | zero =>
            intro w nd3 hnw H locs hP hD hS ls hl kx
            obtain rfl : w = 7 := by omega
            refine lv_iload_n hx hb dX1_findNeeded_60 rfl (lv_at hl 2 rfl) ?_
            refine lv_bipush (v := nI 7) hx hb dX1_findNeeded_61 (by decide) ?_
            refine hx_geN (tgt := 96) hx hb dX1_findNeeded_63 (by decide) (by omega) (by omega) (fun c_8 => ?_) (fun c_8 => ?_)
            · exact kx _ _ hP hD hS ls (lv_sub hl [0, 1, 2] rfl)
            · exact absurd c_8 (by omega)
          | succ nn ih =>
            intro w nd3 hnw H locs hP hD hS ls hl kx
            refine lv_iload_n hx hb dX1_findNeeded_60 rfl (lv_at hl 2 rfl) ?_
            refine lv_bipush (v := nI 7) hx hb dX1_findNeeded_61 (by decide) ?_
            refine hx_geN (tgt := 96) hx hb dX1_findNeeded_63 (by decide) (by omega) (by omega) (fun c_9 => ?_) (fun c_9 => ?_)
            · exact absurd c_9 (by omega)
            · refine lv_aload_n hx hb dX1_findNeeded_66 rfl (lv_at hl 0 rfl) ?_
              refine lv_iload_n hx hb dX1_findNeeded_67 rfl (lv_at hl 2 rfl) ?_
              refine lv_iload_n hx hb dX1_findNeeded_68 rfl (lv_at hl 1 rfl) ?_
              refine hx_read (va_runV (As := [.int (nI w), .int (nI mid)]) (rest := []) ⟨hx, hb, hml, hown, hts⟩ (c_X1_leadsTo l dC dI a cA n hd fm rp rq nd3 nw bf su sI sO w mid (by omega) (by omega)) (cwV 2 hts gX1_findNeeded_X1_leadsTo rfl rfl rfl (by decide +kernel) ⟨Nat.le_of_ble_eq_true rfl, Nat.le_of_ble_eq_true rfl⟩) (rd_V nstW_ok hP hK hN 1 rfl rfl _) rfl rfl hl.1 rfl (lv_room (Nat.le_of_ble_eq_true rfl)) dX1_findNeeded_69 ⟨Nat.zero_le _, Nat.zero_le _⟩) ?_
              refine hx_ifB (tgt := 90) hx hb dX1_findNeeded_72 (by decide) (fun c_10 => ?_) (fun c_10 => ?_)
              · refine lv_iinc (v := nI (w + 1)) (lv' := [(2, .int (nI (w + 1))), (0, .ref (a 1)), (1, .int (nI mid))]) hx hb dX1_findNeeded_90 hl (k := 2) rfl (nI_add w 1) (by decide) rfl (fun ls hl => ?_)
                refine lv_goto (tgt := 60) hx hb dX1_findNeeded_93 (by decide) ?_
                have kx := kx
                rw [show ndV mid (nn + 1) w nd3 = ndV mid nn (w + 1) nd3 from by simp only [ndV, c_6, c_9, c_10, ↓reduceIte, Bool.false_eq_true]] at kx
                exact ih (w + 1) nd3 (by omega) _ _ hP hD hS ls (lv_sub hl [1, 2, 0] rfl) kx
              · refine lv_aload_n hx hb dX1_findNeeded_75 rfl (lv_at hl 0 rfl) ?_
                refine va_get (D := (dC, dI)) (ci := 1) (v := .ref (a 3)) (C := RX1) (T := TX1) (N := 3) hx hb hts in_X1 hown hK hP 1 rfl rfl 1 (by decide) lf_18 (fun _ h9 => h9) rfl dX1_findNeeded_76 ?_
                refine lv_iload_n hx hb dX1_findNeeded_79 rfl (lv_at hl 2 rfl) ?_
                refine lv_dup2_11 hx hb dX1_findNeeded_80 rfl rfl ?_
                refine hx_iald hx hb hK hP 3 1 rfl rfl (by omega) (by omega) dX1_findNeeded_81 ?_
                refine lv_aload_n hx hb dX1_findNeeded_82 rfl (lv_at hl 0 rfl) ?_
                refine va_get (D := (dC, dI)) (ci := 1) (v := .ref (a 3)) (C := RX1) (T := TX1) (N := 3) hx hb hts in_X1 hown hK hP 1 rfl rfl 1 (by decide) lf_18 (fun _ h9 => h9) rfl dX1_findNeeded_83 ?_
                refine lv_iload_n hx hb dX1_findNeeded_86 rfl (lv_at hl 1 rfl) ?_
                refine hx_iald hx hb hK hP 3 1 rfl rfl (by omega) (by omega) dX1_findNeeded_87 ?_
                refine lv_ior hx hb dX1_findNeeded_88 ?_
                refine hx_iast hx hb hK hP hD hS 3 1 rfl rfl (by omega) (by omega) dX1_findNeeded_89 (fun H locs hP hD hS => ?_)
                have hP : va_P (dC, dI) vwCl (vkW a cA n hd fm rp rq (upd nd3 w ((nd3 w) ||| (nd3 mid))) nw bf su sI sO) H := hP
                have hD : va_D A (vkW a cA n hd fm rp rq (upd nd3 w ((nd3 w) ||| (nd3 mid))) nw bf su sI sO) := hD
                refine lv_iinc (v := nI (w + 1)) (lv' := [(2, .int (nI (w + 1))), (0, .ref (a 1)), (1, .int (nI mid))]) hx hb dX1_findNeeded_90 hl (k := 2) rfl (nI_add w 1) (by decide) rfl (fun ls hl => ?_)
                refine lv_goto (tgt := 60) hx hb dX1_findNeeded_93 (by decide) ?_
                have kx := kx
                rw [show ndV mid (nn + 1) w nd3 = ndV mid nn (w + 1) (upd nd3 w ((nd3 w) ||| (nd3 mid))) from by simp only [ndV, c_6, c_9, c_10, ↓reduceIte, Bool.false_eq_true]] at kx
                exact ih (w + 1) (upd nd3 w ((nd3 w) ||| (nd3 mid))) (by omega) _ _ hP hD hS ls (lv_sub hl [1, 2, 0] rfl) kx
        refine L_60_6 5 2 nd2 (by omega) _ _ hP hD hS ls (lv_sub hl [1, 2, 0] rfl) (fun H locs hP hD hS ls hl => ?_)
        have hP : va_P (dC, dI) vwCl (vkW a cA n hd fm rp rq (ndV mid 5 2 nd2) nw bf su sI sO) H := hP
        have hD : va_D A (vkW a cA n hd fm rp rq (ndV mid 5 2 nd2) nw bf su sI sO) := hD
        have hl : lv_has ls 3 [(0, .ref (a 1)), (1, .int (nI mid)), (2, .int (nI 7))] := hl
        refine lv_iinc (v := nI (mid + 1)) (lv' := [(1, .int (nI (mid + 1))), (0, .ref (a 1)), (2, .int (nI 7))]) hx hb dX1_findNeeded_96 hl (k := 1) rfl (nI_add mid 1) (by decide) rfl (fun ls hl => ?_)
        refine lv_goto (tgt := 52) hx hb dX1_findNeeded_99 (by decide) ?_
        have kx := kx
        rw [show ndM (nn + 1) mid nd2 = ndM nn (mid + 1) (ndV mid 5 2 nd2) from rfl] at kx
        exact ih (mid + 1) (ndV mid 5 2 nd2) (by omega) (by omega) _ _ hP hD hS ls (lv_sub hl [1, 0] rfl) kx
  refine L_52_3 5 2 (ndR hd fm rp rq n 0 (fun _ => nI 0)) (by omega) (by omega) _ _ hP hD hS ls (lv_sub hl [1, 0] rfl) (fun H locs hP hD hS ls hl => ?_)
  have hP : va_P (dC, dI) vwCl (vkW a cA n hd fm rp rq (ndM 5 2 (ndR hd fm rp rq n 0 (fun _ => nI 0))) nw bf su sI sO) H := hP
  have hD : va_D A (vkW a cA n hd fm rp rq (ndM 5 2 (ndR hd fm rp rq n 0 (fun _ => nI 0))) nw bf su sI sO) := hD
  have hl : lv_has ls 3 [(0, .ref (a 1)), (1, .int (nI 7))] := hl
  have e9 : vkW a cA n hd fm rp rq (ndM 5 2 (ndR hd fm rp rq n 0 (fun _ => nI 0))) nw bf su sI sO = vkW a cA n hd fm rp rq (ndA n hd fm rp rq) nw bf su sI sO := rfl
  rw [e9] at hP hD
  subst hAe
  exact W.vret hx hb hr (fun t ht hW => ⟨⟨(), rfl, trivial, by rw [ht]; exact hP, va_K.moved hW.alike hK, hD⟩, hS.F ht⟩) hS.2.2 dX1_findNeeded_102
set_option maxHeartbeats 4000000 in
set_option maxRecDepth 100000 in
theorem c_X1_strikeLast (l : Launch) (dC : Nat → ClassId) (dI : Nat → Nat → Nat) (a : Nat → Nat) (cA : Nat → ClassId) (n : Nat) (hd fm rp rq : Nat → Nat) (nd nw bf su sI sO : Nat → Int32) (hy_0 : ruOk n hd fm rp rq) (hy_1 : 1 ≤ n) : WrV l yX1_strikeLast wsX1_strikeLast ({ frames := 2, cells := 0, slots := 0, locals := 45 }) (dC, dI) vwCl (vkW a cA n hd fm rp rq nd nw bf su sI sO) (vkW a cA (n - 1) hd fm rp rq (ndA (n - 1) hd fm rp rq) nw bf su sI sO) (vkT cA) nstW [.ref (a 1)] := by
  intro sz
  refine Met.ofW (cc := cX1_strikeLast) (maxL := 1) (ret := none) (by decide) rfl ?_
  intro p e s m args below meth c s₁ B hml hv
  obtain ⟨rfl, hsz, ⟨hP, hK, hN⟩, hD0⟩ := hv
  subst hsz
  have hx := B.exec
  have hb := B.bytes
  have hr := B.returns
  have hts := atoms_spec (ws := wsX1_strikeLast) B.pre
  have hown : s.vm.findClass RX1 = some m.cls := findClass_of_methodNamed B.named
  have hlocks := B.notSynchronized
  obtain ⟨A, hAe⟩ : ∃ A, A = va_A (vkW a cA n hd fm rp rq nd nw bf su sI sO) s.heap.size := ⟨_, rfl⟩
  have hD : va_D A (vkW a cA n hd fm rp rq nd nw bf su sI sO) := by rw [hAe]; exact hD0.self (sz := s.heap.size)
  have hA : ∀ q : Nat, s.heap.size ≤ q → A q := fun q h => by rw [hAe]; exact Or.inr h
  have hS : va_S A s.heap s.heap [] := va_S.rf
  have hP : va_P (dC, dI) vwCl (vkW a cA n hd fm rp rq nd nw bf su sI sO) s.heap := hP
  have lf_22 := hts (.fieldLink RX1 22 "ViewKeeper$RuleBook" "made" "I") (by decide +kernel)
  have in_X1 : ∀ w ∈ u_ws RX1 TX1 3, w ∈ wsX1_strikeLast := by decide +kernel
  have hl := lv_entry ([.ref (a 1)]) (n := 1) (Nat.le_of_ble_eq_true rfl)
  rw [lg_entry_eq]
  generalize (lg_sl ([.ref (a 1)]) ++ List.replicate (1 - (lg_sl ([.ref (a 1)])).length) Slot.unset).toArray = ls at hl ⊢
  have hl : lv_has ls 1 [(0, .ref (a 1))] := hl
  refine lv_aload_n hx hb dX1_strikeLast_0 rfl (lv_at hl 0 rfl) ?_
  refine lv_dup hx hb dX1_strikeLast_1 rfl ?_
  refine va_get (D := (dC, dI)) (ci := 1) (v := .int (nI n)) (C := RX1) (T := TX1) (N := 3) hx hb hts in_X1 hown hK hP 1 rfl rfl 2 (by decide) lf_22 (fun _ h9 => h9) rfl dX1_strikeLast_2 ?_
  refine lv_iconst (v := nI 1) hx hb dX1_strikeLast_5 (by decide) ?_
  refine hx_isub (by omega) hx hb dX1_strikeLast_6 ?_
  refine va_put (D := (dC, dI)) (ci := 1) (v := .int (nI (n - 1))) (ty := .int) (C := RX1) (T := TX1) (N := 3) hx hb hts in_X1 tyX1 tyX1_ok nmX1 hown hK hP hD hS 1 rfl rfl 2 (by decide) lf_22 (fun _ h9 => h9) rfl (by decide +kernel) rfl rfl (Nat.le_of_ble_eq_true rfl) dX1_strikeLast_7 (fun H locs hP hD hS => ?_)
  have hP : va_P (dC, dI) vwCl (vkW a cA (n - 1) hd fm rp rq nd nw bf su sI sO) H := hP
  have hD : va_D A (vkW a cA (n - 1) hd fm rp rq nd nw bf su sI sO) := hD
  refine lv_aload_n hx hb dX1_strikeLast_10 rfl (lv_at hl 0 rfl) ?_
  refine hx_wrv (va_runV (As := []) (rest := []) ⟨hx, hb, hml, hown, hts⟩ (c_X1_findNeeded l dC dI a cA (n - 1) hd fm rp rq nd nw bf su sI sO (ruOk_pred hy_0) H.size) (cwV 0 hts gX1_strikeLast_X1_findNeeded rfl rfl rfl (by decide +kernel) ⟨Nat.le_of_ble_eq_true rfl, Nat.le_of_ble_eq_true rfl⟩) (wr_V nstW_ok hP hK hN hD 1 rfl rfl _) rfl rfl hl.1 rfl (lv_room (Nat.le_of_ble_eq_true rfl)) dX1_strikeLast_11 ⟨Nat.zero_le _, Nat.zero_le _⟩) hD hS hA (fun H locs hP hD hS => ?_)
  have hP : va_P (dC, dI) vwCl (vkW a cA ((n - 1)) hd fm rp rq (ndA (n - 1) hd fm rp rq) nw bf su sI sO) H := hP
  have hD : va_D A (vkW a cA ((n - 1)) hd fm rp rq (ndA (n - 1) hd fm rp rq) nw bf su sI sO) := hD
  have e9 : vkW a cA ((n - 1)) hd fm rp rq (ndA (n - 1) hd fm rp rq) nw bf su sI sO = vkW a cA (n - 1) hd fm rp rq (ndA (n - 1) hd fm rp rq) nw bf su sI sO := rfl
  rw [e9] at hP hD
  subst hAe
  exact W.vret hx hb hr (fun t ht hW => ⟨⟨(), rfl, trivial, by rw [ht]; exact hP, va_K.moved hW.alike hK, hD⟩, hS.F ht⟩) hS.2.2 dX1_strikeLast_14
set_option maxHeartbeats 4000000 in
set_option maxRecDepth 100000 in
theorem c_X1_write (l : Launch) (dC : Nat → ClassId) (dI : Nat → Nat → Nat) (a : Nat → Nat) (cA : Nat → ClassId) (n : Nat) (hd fm rp rq : Nat → Nat) (nd nw bf su sI sO : Nat → Int32) (vh vf vp vq : Nat) (hy_0 : ruOk n hd fm rp rq) (hy_1 : n < 12) (hy_2 : 2 ≤ vh ∧ vh < 7 ∧ vf ≤ 4 ∧ vp < 7 ∧ vq < 7) : WrV l yX1_write wsX1_write ({ frames := 2, cells := 0, slots := 0, locals := 45 }) (dC, dI) vwCl (vkW a cA n hd fm rp rq nd nw bf su sI sO) (vkW a cA (n + 1) (va_up hd n vh) (va_up fm n vf) (va_up rp n vp) (va_up rq n vq) (ndA (n + 1) (va_up hd n vh) (va_up fm n vf) (va_up rp n vp) (va_up rq n vq)) nw bf su sI sO) (vkT cA) nstW [.ref (a 1), .int (nI vh), .int (nI vf), .int (nI vp), .int (nI vq)] := by
  intro sz
  refine Met.ofW (cc := cX1_write) (maxL := 6) (ret := none) (by decide) rfl ?_
  intro p e s m args below meth c s₁ B hml hv
  obtain ⟨rfl, hsz, ⟨hP, hK, hN⟩, hD0⟩ := hv
  subst hsz
  have hx := B.exec
  have hb := B.bytes
  have hr := B.returns
  have hts := atoms_spec (ws := wsX1_write) B.pre
  have hown : s.vm.findClass RX1 = some m.cls := findClass_of_methodNamed B.named
  have hlocks := B.notSynchronized
  obtain ⟨A, hAe⟩ : ∃ A, A = va_A (vkW a cA n hd fm rp rq nd nw bf su sI sO) s.heap.size := ⟨_, rfl⟩
  have hD : va_D A (vkW a cA n hd fm rp rq nd nw bf su sI sO) := by rw [hAe]; exact hD0.self (sz := s.heap.size)
  have hA : ∀ q : Nat, s.heap.size ≤ q → A q := fun q h => by rw [hAe]; exact Or.inr h
  have hS : va_S A s.heap s.heap [] := va_S.rf
  have hP : va_P (dC, dI) vwCl (vkW a cA n hd fm rp rq nd nw bf su sI sO) s.heap := hP
  have lf_11 := hts (.fieldLink RX1 11 "ViewKeeper$RuleBook" "rows" "[LViewKeeper$Rule;") (by decide +kernel)
  have in_X1 : ∀ w ∈ u_ws RX1 TX1 3, w ∈ wsX1_write := by decide +kernel
  have lf_22 := hts (.fieldLink RX1 22 "ViewKeeper$RuleBook" "made" "I") (by decide +kernel)
  have lf_26 : (Cond.fieldLinkNest RX1 26 "ViewKeeper$Rule" "head" "I" "ViewKeeper").before ([.ref (a 1), .int (nI vh), .int (nI vf), .int (nI vp), .int (nI vq)] : List Value).toArray s = true := va_Nw.use rfl (hN _ (by decide +kernel))
  have in_X0 : ∀ w ∈ u_ws RX0 TX0 4, w ∈ wsX1_write := by decide +kernel
  have lf_29 : (Cond.fieldLinkNest RX1 29 "ViewKeeper$Rule" "form" "I" "ViewKeeper").before ([.ref (a 1), .int (nI vh), .int (nI vf), .int (nI vp), .int (nI vq)] : List Value).toArray s = true := va_Nw.use rfl (hN _ (by decide +kernel))
  have lf_32 : (Cond.fieldLinkNest RX1 32 "ViewKeeper$Rule" "p" "I" "ViewKeeper").before ([.ref (a 1), .int (nI vh), .int (nI vf), .int (nI vp), .int (nI vq)] : List Value).toArray s = true := va_Nw.use rfl (hN _ (by decide +kernel))
  have lf_35 : (Cond.fieldLinkNest RX1 35 "ViewKeeper$Rule" "q" "I" "ViewKeeper").before ([.ref (a 1), .int (nI vh), .int (nI vf), .int (nI vp), .int (nI vq)] : List Value).toArray s = true := va_Nw.use rfl (hN _ (by decide +kernel))
  have hl := lv_entry ([.ref (a 1), .int (nI vh), .int (nI vf), .int (nI vp), .int (nI vq)]) (n := 6) (Nat.le_of_ble_eq_true rfl)
  rw [lg_entry_eq]
  generalize (lg_sl ([.ref (a 1), .int (nI vh), .int (nI vf), .int (nI vp), .int (nI vq)]) ++ List.replicate (6 - (lg_sl ([.ref (a 1), .int (nI vh), .int (nI vf), .int (nI vp), .int (nI vq)])).length) Slot.unset).toArray = ls at hl ⊢
  have hl : lv_has ls 6 [(0, .ref (a 1)), (1, .int (nI vh)), (2, .int (nI vf)), (3, .int (nI vp)), (4, .int (nI vq))] := hl
  refine lv_aload_n hx hb dX1_write_0 rfl (lv_at hl 0 rfl) ?_
  refine va_get (D := (dC, dI)) (ci := 1) (v := .ref (a 2)) (C := RX1) (T := TX1) (N := 3) hx hb hts in_X1 hown hK hP 1 rfl rfl 0 (by decide) lf_11 (fun _ h9 => h9) rfl dX1_write_1 ?_
  refine lv_aload_n hx hb dX1_write_4 rfl (lv_at hl 0 rfl) ?_
  refine va_get (D := (dC, dI)) (ci := 1) (v := .int (nI n)) (C := RX1) (T := TX1) (N := 3) hx hb hts in_X1 hown hK hP 1 rfl rfl 2 (by decide) lf_22 (fun _ h9 => h9) rfl dX1_write_5 ?_
  refine hx_aald hx hb hK hP 2 0 rfl rfl (by omega) (by omega) dX1_write_8 ?_
  refine lv_astore (lv' := [(5, .ref (a (9 + n))), (0, .ref (a 1)), (1, .int (nI vh)), (2, .int (nI vf)), (3, .int (nI vp)), (4, .int (nI vq))]) hx hb dX1_write_9 hl (by decide) rfl (fun ls hl => ?_)
  refine lv_aload hx hb dX1_write_11 (lv_at hl 0 rfl) ?_
  refine lv_iload_n hx hb dX1_write_13 rfl (lv_at hl 2 rfl) ?_
  refine va_putN (D := (dC, dI)) (ci := 0) (v := .int (nI vh)) (ty := .int) (C := RX0) (T := TX0) (N := 4) hx hb hts in_X0 tyX0 tyX0_ok nmX0 hown hK hP hD hS (9 + n) (vkW_rule (by omega)) rfl 0 (by decide) lf_26 (fun _ h9 => h9) rfl (by decide +kernel) rfl rfl (Nat.le_of_ble_eq_true rfl) dX1_write_14 (fun H locs hP hD hS => ?_)
  rw [vkW_p0 (by omega)] at hP hD
  have hP : va_P (dC, dI) vwCl (vkW a cA n (va_up hd n vh) fm rp rq nd nw bf su sI sO) H := hP
  have hD : va_D A (vkW a cA n (va_up hd n vh) fm rp rq nd nw bf su sI sO) := hD
  refine lv_aload hx hb dX1_write_17 (lv_at hl 0 rfl) ?_
  refine lv_iload_n hx hb dX1_write_19 rfl (lv_at hl 3 rfl) ?_
  refine va_putN (D := (dC, dI)) (ci := 0) (v := .int (nI vf)) (ty := .int) (C := RX0) (T := TX0) (N := 4) hx hb hts in_X0 tyX0 tyX0_ok nmX0 hown hK hP hD hS (9 + n) (vkW_rule (by omega)) rfl 1 (by decide) lf_29 (fun _ h9 => h9) rfl (by decide +kernel) rfl rfl (Nat.le_of_ble_eq_true rfl) dX1_write_20 (fun H locs hP hD hS => ?_)
  rw [vkW_p1 (by omega)] at hP hD
  have hP : va_P (dC, dI) vwCl (vkW a cA n (va_up hd n vh) (va_up fm n vf) rp rq nd nw bf su sI sO) H := hP
  have hD : va_D A (vkW a cA n (va_up hd n vh) (va_up fm n vf) rp rq nd nw bf su sI sO) := hD
  refine lv_aload hx hb dX1_write_23 (lv_at hl 0 rfl) ?_
  refine lv_iload_n hx hb dX1_write_25 rfl (lv_at hl 4 rfl) ?_
  refine va_putN (D := (dC, dI)) (ci := 0) (v := .int (nI vp)) (ty := .int) (C := RX0) (T := TX0) (N := 4) hx hb hts in_X0 tyX0 tyX0_ok nmX0 hown hK hP hD hS (9 + n) (vkW_rule (by omega)) rfl 2 (by decide) lf_32 (fun _ h9 => h9) rfl (by decide +kernel) rfl rfl (Nat.le_of_ble_eq_true rfl) dX1_write_26 (fun H locs hP hD hS => ?_)
  rw [vkW_p2 (by omega)] at hP hD
  have hP : va_P (dC, dI) vwCl (vkW a cA n (va_up hd n vh) (va_up fm n vf) (va_up rp n vp) rq nd nw bf su sI sO) H := hP
  have hD : va_D A (vkW a cA n (va_up hd n vh) (va_up fm n vf) (va_up rp n vp) rq nd nw bf su sI sO) := hD
  refine lv_aload hx hb dX1_write_29 (lv_at hl 0 rfl) ?_
  refine lv_iload hx hb dX1_write_31 (lv_at hl 5 rfl) ?_
  refine va_putN (D := (dC, dI)) (ci := 0) (v := .int (nI vq)) (ty := .int) (C := RX0) (T := TX0) (N := 4) hx hb hts in_X0 tyX0 tyX0_ok nmX0 hown hK hP hD hS (9 + n) (vkW_rule (by omega)) rfl 3 (by decide) lf_35 (fun _ h9 => h9) rfl (by decide +kernel) rfl rfl (Nat.le_of_ble_eq_true rfl) dX1_write_33 (fun H locs hP hD hS => ?_)
  rw [vkW_p3 (by omega)] at hP hD
  have hP : va_P (dC, dI) vwCl (vkW a cA n (va_up hd n vh) (va_up fm n vf) (va_up rp n vp) (va_up rq n vq) nd nw bf su sI sO) H := hP
  have hD : va_D A (vkW a cA n (va_up hd n vh) (va_up fm n vf) (va_up rp n vp) (va_up rq n vq) nd nw bf su sI sO) := hD
  refine lv_aload_n hx hb dX1_write_36 rfl (lv_at hl 1 rfl) ?_
  refine lv_dup hx hb dX1_write_37 rfl ?_
  refine va_get (D := (dC, dI)) (ci := 1) (v := .int (nI n)) (C := RX1) (T := TX1) (N := 3) hx hb hts in_X1 hown hK hP 1 rfl rfl 2 (by decide) lf_22 (fun _ h9 => h9) rfl dX1_write_38 ?_
  refine lv_iconst (v := nI 1) hx hb dX1_write_41 (by decide) ?_
  refine hx_iadd hx hb dX1_write_42 ?_
  refine va_put (D := (dC, dI)) (ci := 1) (v := .int (nI (n + 1))) (ty := .int) (C := RX1) (T := TX1) (N := 3) hx hb hts in_X1 tyX1 tyX1_ok nmX1 hown hK hP hD hS 1 rfl rfl 2 (by decide) lf_22 (fun _ h9 => h9) rfl (by decide +kernel) rfl rfl (Nat.le_of_ble_eq_true rfl) dX1_write_43 (fun H locs hP hD hS => ?_)
  have hP : va_P (dC, dI) vwCl (vkW a cA (n + 1) (va_up hd n vh) (va_up fm n vf) (va_up rp n vp) (va_up rq n vq) nd nw bf su sI sO) H := hP
  have hD : va_D A (vkW a cA (n + 1) (va_up hd n vh) (va_up fm n vf) (va_up rp n vp) (va_up rq n vq) nd nw bf su sI sO) := hD
  refine lv_aload_n hx hb dX1_write_46 rfl (lv_at hl 1 rfl) ?_
  refine hx_wrv (va_runV (As := []) (rest := []) ⟨hx, hb, hml, hown, hts⟩ (c_X1_findNeeded l dC dI a cA (n + 1) (va_up hd n vh) (va_up fm n vf) (va_up rp n vp) (va_up rq n vq) nd nw bf su sI sO (ruOk_add hy_0 hy_1 hy_2) H.size) (cwV 0 hts gX1_write_X1_findNeeded rfl rfl rfl (by decide +kernel) ⟨Nat.le_of_ble_eq_true rfl, Nat.le_of_ble_eq_true rfl⟩) (wr_V nstW_ok hP hK hN hD 1 rfl rfl _) rfl rfl hl.1 rfl (lv_room (Nat.le_of_ble_eq_true rfl)) dX1_write_47 ⟨Nat.zero_le _, Nat.zero_le _⟩) hD hS hA (fun H locs hP hD hS => ?_)
  have hP : va_P (dC, dI) vwCl (vkW a cA ((n + 1)) ((va_up hd n vh)) ((va_up fm n vf)) ((va_up rp n vp)) ((va_up rq n vq)) (ndA (n + 1) (va_up hd n vh) (va_up fm n vf) (va_up rp n vp) (va_up rq n vq)) nw bf su sI sO) H := hP
  have hD : va_D A (vkW a cA ((n + 1)) ((va_up hd n vh)) ((va_up fm n vf)) ((va_up rp n vp)) ((va_up rq n vq)) (ndA (n + 1) (va_up hd n vh) (va_up fm n vf) (va_up rp n vp) (va_up rq n vq)) nw bf su sI sO) := hD
  have e9 : vkW a cA ((n + 1)) ((va_up hd n vh)) ((va_up fm n vf)) ((va_up rp n vp)) ((va_up rq n vq)) (ndA (n + 1) (va_up hd n vh) (va_up fm n vf) (va_up rp n vp) (va_up rq n vq)) nw bf su sI sO = vkW a cA (n + 1) (va_up hd n vh) (va_up fm n vf) (va_up rp n vp) (va_up rq n vq) (ndA (n + 1) (va_up hd n vh) (va_up fm n vf) (va_up rp n vp) (va_up rq n vq)) nw bf su sI sO := rfl
  rw [e9] at hP hD
  subst hAe
  exact W.vret hx hb hr (fun t ht hW => ⟨⟨(), rfl, trivial, by rw [ht]; exact hP, va_K.moved hW.alike hK, hD⟩, hS.F ht⟩) hS.2.2 dX1_write_50
end
section
/-! the keeper's own methods -/
section HC
variable {p : Program} {l : Launch} {e : Env} {R : Room} {s : State} {m : MethodId} {args : Array Value} {below : List Frame} {meth : Method} {c : Code} {H : Heap} {locs : List Loc} {cells slots : Nat} {Q : State → Prop}
variable {cc : ByteArray} {pc : Nat} {ls : Array Slot} {rest : List Value} {D : va_G} {cl : List vw_C} {A : Nat → Prop} {a : Nat} {tys : List (ClassId × FieldType)} {ws : va_W} {H0 : Heap}
/-- a whole array copied over another of its length -/
theorem hx_copy0 (hexec : p.tables.exec = Jvm.exec) (hb : c.code = cc) (hml : c.maxLocals = ls.size) {own : String} {index : Nat} (hown : s.vm.findClass own = some m.cls) (hlink : (Cond.methodLink own index arraycopyName).before args s = true) (hnat : (Cond.native arraycopyName).before args s = true) (hstat : (Cond.static arraycopyName).before args s = true) (hini : (Cond.initialized "java/lang/System").before args s = true)
    (hK : va_K D cl tys s) (hP : va_P D cl ws H) (hD : va_D A ws) (hS : va_S A H0 H locs) (q0 q1 t0 t1 : Nat) {a0 : Nat} {c0 c1 : ClassId} {n : Nat} {f g : Nat → Int32} (ha0 : ws[q0]? = some (a0, .inl (c0, n, .inl f))) (ha1 : ws[q1]? = some (a, .inl (c1, n, .inl g))) (ht0 : tys[t0]? = some (c0, .int)) (ht1 : tys[t1]? = some (c1, .int)) (hn : n < 1000)
    (hframes : 1 ≤ R.frames) (hlocals : (rest.map fun v => v.category).sum + (nativeFrameWords "java/lang/System" "arraycopy" 5 + 11) ≤ R.locals) (hdg : decode cc pc = .ok (.invokestatic index, 3))
    (kk : ∀ (H1 : Heap) (locs1 : List Loc), va_P D cl (ws.set q1 (a, .inl (c1, n, .inl f))) H1 → va_D A (ws.set q1 (a, .inl (c1, n, .inl f))) → va_S A H0 H1 locs1 → W p l e R s m args below meth c H1 locs1 cells slots Q (F0 m (pc + 3) ls rest)) : W p l e R s m args below meth c H locs cells slots Q (F0 m pc ls (.int (nI n) :: .int (nI 0) :: .ref a :: .int (nI 0) :: .ref a0 :: rest)) := by
  have k0 : (nI 0).toNatClampNeg = 0 := nI_clamp (by omega)
  have kn : (nI n).toNatClampNeg = n := nI_clamp (by omega)
  refine va_copyi hexec hb hml hown hlink hnat hstat hini hK hP hD hS q0 q1 t0 t1 ha0 ha1 ht0 ht1 rfl (nI_pos (by omega)) (nI_pos (by omega)) (nI_pos (by omega)) (by rw [k0, kn]; omega) (by rw [k0, kn]; omega) (fun i hi => rfl) hframes hlocals hdg (fun H1 locs1 hP1 hD1 hS1 => ?_)
  have hl := (List.getElem?_eq_some_iff.mp ha1).1
  have hP2 := hP1.arr q1 f (List.getElem?_set_self hl) (fun k hk => by rw [k0, kn]; exact sb_cpy0 hk)
  have hD2 := hD1.set (p := q1) (e := .inl (c1, n, .inl f)) (List.getElem?_set_self hl)
  rw [List.set_set] at hP2 hD2
  exact kk H1 locs1 hP2 hD2 hS1
end HC
theorem cntB_le (m : Int32) : ∀ k, cntB m k ≤ k := by
  intro k
  induction k with
  | zero => exact Nat.le_refl 0
  | succ k ih => rw [cntB]; split <;> omega
def putM (nw bf : Nat → Int32) (r : Nat) : Int32 := nw r &&& (bf r ^^^ (-1))
def takM (nw bf : Nat → Int32) (r : Nat) : Int32 := bf r &&& (nw r ^^^ (-1))
def losM (nd nw bf su : Nat → Int32) (v r : Nat) : Int32 := if bt (nd r) v = true then su r else takM nw bf r
def susM (nd nw bf su : Nat → Int32) (v f p q : Nat) : Int32 := if f = 0 then losM nd nw bf su v p else if f = 1 then turnM (losM nd nw bf su v p) else if f = 2 then joinM (losM nd nw bf su v p) (bf q) ||| joinM (bf p) (losM nd nw bf su v q) else if f = 3 then (losM nd nw bf su v p &&& bf q) ||| (bf p &&& losM nd nw bf su v q) else (bf p &&& (bf q ^^^ (-1))) &&& (losM nd nw bf su v p ||| putM nw bf q)
def layM (nd : Nat → Int32) (v : Nat) : Nat := cntB (nd v ||| bm v) 32
/-- one pass over the rules for suspects -/
def soF (hd fm rp rq : Nat → Nat) (nd nw bf : Nat → Int32) (L : Nat) : Nat → Nat → (Nat → Int32) → Bool → (Nat → Int32) × Bool
  | 0, _, su, more => (su, more)
  | k + 1, i, su, more => if layM nd (hd i) = L ∧ bt (nd (hd i)) (hd i) = true then soF hd fm rp rq nd nw bf L k (i + 1) (upd su (hd i) (su (hd i) ||| (susM nd nw bf su (hd i) (fm i) (rp i) (rq i) &&& (su (hd i) ^^^ (-1))))) (more || !decide (susM nd nw bf su (hd i) (fm i) (rp i) (rq i) &&& (su (hd i) ^^^ (-1)) = 0)) else soF hd fm rp rq nd nw bf L k (i + 1) su more
def fsF (n : Nat) (hd fm rp rq : Nat → Nat) (nd nw bf : Nat → Int32) (L : Nat) : Nat → Bool → (Nat → Int32) → Nat → Int32
  | 0, _, su => su
  | k + 1, more, su => if more = true then fsF n hd fm rp rq nd nw bf L k (soF hd fm rp rq nd nw bf L n 0 su false).2 (soF hd fm rp rq nd nw bf L n 0 su false).1 else su
def toF (nd su : Nat → Int32) (L : Nat) : Nat → Nat → (Nat → Int32) → Nat → Int32
  | 0, _, nw => nw
  | k + 1, v, nw => toF nd su L k (v + 1) (if layM nd v = L then upd nw v (if bt (nd v) v = true then nw v &&& (su v ^^^ (-1)) else nI 0) else nw)
def foF (hd fm rp rq : Nat → Nat) (nd : Nat → Int32) (L : Nat) : Nat → Nat → (Nat → Int32) → Bool → (Nat → Int32) × Bool
  | 0, _, nw, more => (nw, more)
  | k + 1, i, nw, more => if layM nd (hd i) = L then foF hd fm rp rq nd L k (i + 1) (upd nw (hd i) (nw (hd i) ||| (givM (fm i) (nw (rp i)) (nw (rq i)) &&& (nw (hd i) ^^^ (-1))))) (more || !decide (givM (fm i) (nw (rp i)) (nw (rq i)) &&& (nw (hd i) ^^^ (-1)) = 0)) else foF hd fm rp rq nd L k (i + 1) nw more
def flF (n : Nat) (hd fm rp rq : Nat → Nat) (nd : Nat → Int32) (L : Nat) : Nat → Bool → (Nat → Int32) → Nat → Int32
  | 0, _, nw => nw
  | k + 1, more, nw => if more = true then flF n hd fm rp rq nd L k (foF hd fm rp rq nd L n 0 nw false).2 (foF hd fm rp rq nd L n 0 nw false).1 else nw
def dsF (sI sO : Nat → Int32) : Nat → Nat → (Nat → Int32) → Nat → Int32
  | 0, _, nw => nw
  | k + 1, r, nw => dsF sI sO k (r + 1) (upd nw r ((nw r ||| sI r) &&& (sO r ^^^ (-1))))
def zeF : Nat → Nat → (Nat → Int32) → Nat → Int32
  | 0, _, nw => nw
  | k + 1, v, nw => zeF k (v + 1) (upd nw v (nI 0))
def laF (n : Nat) (hd fm rp rq : Nat → Nat) (nd : Nat → Int32) : Nat → Nat → (Nat → Int32) → Nat → Int32
  | 0, _, nw => nw
  | k + 1, L, nw => laF n hd fm rp rq nd k (L + 1) (flF n hd fm rp rq nd L 126 true nw)
def rmM (n : Nat) (hd fm rp rq : Nat → Nat) (nd nw : Nat → Int32) : Nat → Int32 := laF n hd fm rp rq nd 7 1 (zeF 5 2 nw)
set_option maxHeartbeats 4000000 in
set_option maxRecDepth 100000 in
theorem c_X2_putInto (l : Launch) (dC : Nat → ClassId) (dI : Nat → Nat → Nat) (a : Nat → Nat) (cA : Nat → ClassId) (n : Nat) (hd fm rp rq : Nat → Nat) (nd nw bf su sI sO : Nat → Int32) (r : Nat) (hy_0 : r < 7) : RdM l yX2_putInto wsX2_putInto ({ frames := 0, cells := 0, slots := 0, locals := 0 }) (dC, dI) vwCl (vkW a cA n hd fm rp rq nd nw bf su sI sO) (vkT cA) nstW [.ref (a 0), .int (nI r)] (putM nw bf r) := by
  refine Met.ofW (cc := cX2_putInto) (maxL := 2) (ret := (some .int)) (by decide) rfl ?_
  intro p e s m args below meth c s₁ B hml hv
  obtain ⟨rfl, hP, hK, hN⟩ := hv
  have hx := B.exec
  have hb := B.bytes
  have hr := B.returns
  have hts := atoms_spec (ws := wsX2_putInto) B.pre
  have hown : s.vm.findClass RX2 = some m.cls := findClass_of_methodNamed B.named
  have hlocks := B.notSynchronized
  have lf_16 := hts (.fieldLink RX2 16 "ViewKeeper" "now" "[I") (by decide +kernel)
  have in_X2 : ∀ w ∈ u_ws RX2 TX2 6, w ∈ wsX2_putInto := by decide +kernel
  have lf_20 := hts (.fieldLink RX2 20 "ViewKeeper" "before" "[I") (by decide +kernel)
  have hl := lv_entry ([.ref (a 0), .int (nI r)]) (n := 2) (Nat.le_of_ble_eq_true rfl)
  rw [lg_entry_eq]
  generalize (lg_sl ([.ref (a 0), .int (nI r)]) ++ List.replicate (2 - (lg_sl ([.ref (a 0), .int (nI r)])).length) Slot.unset).toArray = ls at hl ⊢
  have hl : lv_has ls 2 [(0, .ref (a 0)), (1, .int (nI r))] := hl
  refine lv_aload_n hx hb dX2_putInto_0 rfl (lv_at hl 0 rfl) ?_
  refine va_get (D := (dC, dI)) (ci := 2) (v := .ref (a 4)) (C := RX2) (T := TX2) (N := 6) hx hb hts in_X2 hown hK hP 0 rfl rfl 1 (by decide) lf_16 (fun _ h9 => h9) rfl dX2_putInto_1 ?_
  refine lv_iload_n hx hb dX2_putInto_4 rfl (lv_at hl 1 rfl) ?_
  refine hx_iald hx hb hK hP 4 2 rfl rfl (by omega) (by omega) dX2_putInto_5 ?_
  refine lv_aload_n hx hb dX2_putInto_6 rfl (lv_at hl 0 rfl) ?_
  refine va_get (D := (dC, dI)) (ci := 2) (v := .ref (a 5)) (C := RX2) (T := TX2) (N := 6) hx hb hts in_X2 hown hK hP 0 rfl rfl 2 (by decide) lf_20 (fun _ h9 => h9) rfl dX2_putInto_7 ?_
  refine lv_iload_n hx hb dX2_putInto_10 rfl (lv_at hl 1 rfl) ?_
  refine hx_iald hx hb hK hP 5 3 rfl rfl (by omega) (by omega) dX2_putInto_11 ?_
  refine lv_iconst (v := (-1)) hx hb dX2_putInto_12 (by decide) ?_
  refine lv_ixor hx hb dX2_putInto_13 ?_
  refine lv_iand hx hb dX2_putInto_14 ?_
  exact W.iret (v := (nw r) &&& ((bf r) ^^^ ((-1)))) hx hb hr (fun t ht hW => ⟨_, rfl, rfl, ht⟩) (fun _ h => by cases h) dX2_putInto_15
set_option maxHeartbeats 4000000 in
set_option maxRecDepth 100000 in
theorem c_X2_takenOutOf (l : Launch) (dC : Nat → ClassId) (dI : Nat → Nat → Nat) (a : Nat → Nat) (cA : Nat → ClassId) (n : Nat) (hd fm rp rq : Nat → Nat) (nd nw bf su sI sO : Nat → Int32) (r : Nat) (hy_0 : r < 7) : RdM l yX2_takenOutOf wsX2_takenOutOf ({ frames := 0, cells := 0, slots := 0, locals := 0 }) (dC, dI) vwCl (vkW a cA n hd fm rp rq nd nw bf su sI sO) (vkT cA) nstW [.ref (a 0), .int (nI r)] (takM nw bf r) := by
  refine Met.ofW (cc := cX2_takenOutOf) (maxL := 2) (ret := (some .int)) (by decide) rfl ?_
  intro p e s m args below meth c s₁ B hml hv
  obtain ⟨rfl, hP, hK, hN⟩ := hv
  have hx := B.exec
  have hb := B.bytes
  have hr := B.returns
  have hts := atoms_spec (ws := wsX2_takenOutOf) B.pre
  have hown : s.vm.findClass RX2 = some m.cls := findClass_of_methodNamed B.named
  have hlocks := B.notSynchronized
  have lf_20 := hts (.fieldLink RX2 20 "ViewKeeper" "before" "[I") (by decide +kernel)
  have in_X2 : ∀ w ∈ u_ws RX2 TX2 6, w ∈ wsX2_takenOutOf := by decide +kernel
  have lf_16 := hts (.fieldLink RX2 16 "ViewKeeper" "now" "[I") (by decide +kernel)
  have hl := lv_entry ([.ref (a 0), .int (nI r)]) (n := 2) (Nat.le_of_ble_eq_true rfl)
  rw [lg_entry_eq]
  generalize (lg_sl ([.ref (a 0), .int (nI r)]) ++ List.replicate (2 - (lg_sl ([.ref (a 0), .int (nI r)])).length) Slot.unset).toArray = ls at hl ⊢
  have hl : lv_has ls 2 [(0, .ref (a 0)), (1, .int (nI r))] := hl
  refine lv_aload_n hx hb dX2_takenOutOf_0 rfl (lv_at hl 0 rfl) ?_
  refine va_get (D := (dC, dI)) (ci := 2) (v := .ref (a 5)) (C := RX2) (T := TX2) (N := 6) hx hb hts in_X2 hown hK hP 0 rfl rfl 2 (by decide) lf_20 (fun _ h9 => h9) rfl dX2_takenOutOf_1 ?_
  refine lv_iload_n hx hb dX2_takenOutOf_4 rfl (lv_at hl 1 rfl) ?_
  refine hx_iald hx hb hK hP 5 3 rfl rfl (by omega) (by omega) dX2_takenOutOf_5 ?_
  refine lv_aload_n hx hb dX2_takenOutOf_6 rfl (lv_at hl 0 rfl) ?_
  refine va_get (D := (dC, dI)) (ci := 2) (v := .ref (a 4)) (C := RX2) (T := TX2) (N := 6) hx hb hts in_X2 hown hK hP 0 rfl rfl 1 (by decide) lf_16 (fun _ h9 => h9) rfl dX2_takenOutOf_7 ?_
  refine lv_iload_n hx hb dX2_takenOutOf_10 rfl (lv_at hl 1 rfl) ?_
  refine hx_iald hx hb hK hP 4 2 rfl rfl (by omega) (by omega) dX2_takenOutOf_11 ?_
  refine lv_iconst (v := (-1)) hx hb dX2_takenOutOf_12 (by decide) ?_
  refine lv_ixor hx hb dX2_takenOutOf_13 ?_
  refine lv_iand hx hb dX2_takenOutOf_14 ?_
  exact W.iret (v := (bf r) &&& ((nw r) ^^^ ((-1)))) hx hb hr (fun t ht hW => ⟨_, rfl, rfl, ht⟩) (fun _ h => by cases h) dX2_takenOutOf_15
set_option maxHeartbeats 4000000 in
set_option maxRecDepth 100000 in
theorem c_X2_lostFor (l : Launch) (dC : Nat → ClassId) (dI : Nat → Nat → Nat) (a : Nat → Nat) (cA : Nat → ClassId) (n : Nat) (hd fm rp rq : Nat → Nat) (nd nw bf su sI sO : Nat → Int32) (v r : Nat) (hy_0 : v < 7) (hy_1 : r < 7) : RdM l yX2_lostFor wsX2_lostFor ({ frames := 1, cells := 0, slots := 0, locals := 22 }) (dC, dI) vwCl (vkW a cA n hd fm rp rq nd nw bf su sI sO) (vkT cA) nstW [.ref (a 0), .int (nI v), .int (nI r)] (losM nd nw bf su v r) := by
  refine Met.ofW (cc := cX2_lostFor) (maxL := 3) (ret := (some .int)) (by decide) rfl ?_
  intro p e s m args below meth c s₁ B hml hv
  obtain ⟨rfl, hP, hK, hN⟩ := hv
  have hx := B.exec
  have hb := B.bytes
  have hr := B.returns
  have hts := atoms_spec (ws := wsX2_lostFor) B.pre
  have hown : s.vm.findClass RX2 = some m.cls := findClass_of_methodNamed B.named
  have hlocks := B.notSynchronized
  have lf_10 := hts (.fieldLink RX2 10 "ViewKeeper" "book" "LViewKeeper$RuleBook;") (by decide +kernel)
  have in_X2 : ∀ w ∈ u_ws RX2 TX2 6, w ∈ wsX2_lostFor := by decide +kernel
  have lf_23 := hts (.fieldLink RX2 23 "ViewKeeper" "suspects" "[I") (by decide +kernel)
  have hl := lv_entry ([.ref (a 0), .int (nI v), .int (nI r)]) (n := 3) (Nat.le_of_ble_eq_true rfl)
  rw [lg_entry_eq]
  generalize (lg_sl ([.ref (a 0), .int (nI v), .int (nI r)]) ++ List.replicate (3 - (lg_sl ([.ref (a 0), .int (nI v), .int (nI r)])).length) Slot.unset).toArray = ls at hl ⊢
  have hl : lv_has ls 3 [(0, .ref (a 0)), (1, .int (nI v)), (2, .int (nI r))] := hl
  refine lv_aload_n hx hb dX2_lostFor_0 rfl (lv_at hl 0 rfl) ?_
  refine va_get (D := (dC, dI)) (ci := 2) (v := .ref (a 1)) (C := RX2) (T := TX2) (N := 6) hx hb hts in_X2 hown hK hP 0 rfl rfl 0 (by decide) lf_10 (fun _ h9 => h9) rfl dX2_lostFor_1 ?_
  refine lv_iload_n hx hb dX2_lostFor_4 rfl (lv_at hl 2 rfl) ?_
  refine lv_iload_n hx hb dX2_lostFor_5 rfl (lv_at hl 1 rfl) ?_
  refine hx_read (va_runVN (C := RX1) (As := [.int (nI r), .int (nI v)]) (rest := []) ⟨hx, hb, hml, hown, hts⟩ (c_X1_leadsTo l dC dI a cA n hd fm rp rq nd nw bf su sI sO r v (by omega) (by omega)) ⟨va_cnB 2 hts gX2_lostFor_X1_leadsTo_n99 rfl rfl rfl (hN (.methodLinkNest RX2 99 yX1_leadsTo "ViewKeeper") (by decide +kernel)) (hts (.initialized RX1) (by decide +kernel)) (by decide +kernel) ⟨Nat.le_of_ble_eq_true rfl, Nat.le_of_ble_eq_true rfl⟩, hts (.instanceMethod yX1_leadsTo) (by decide +kernel), hts (.selects RX1 yX1_leadsTo yX1_leadsTo) (by decide +kernel)⟩ (rd_V nstW_ok hP hK hN 1 rfl rfl _) rfl rfl hl.1 rfl (lv_room (Nat.le_of_ble_eq_true rfl)) dX2_lostFor_6 ⟨Nat.zero_le _, Nat.zero_le _⟩) ?_
  refine hx_ifB (tgt := 21) hx hb dX2_lostFor_9 (by decide) (fun c_1 => ?_) (fun c_1 => ?_)
  · refine lv_aload_n hx hb dX2_lostFor_21 rfl (lv_at hl 0 rfl) ?_
    refine lv_iload_n hx hb dX2_lostFor_22 rfl (lv_at hl 2 rfl) ?_
    refine hx_read (va_runV (As := [.int (nI r)]) (rest := []) ⟨hx, hb, hml, hown, hts⟩ (c_X2_takenOutOf l dC dI a cA n hd fm rp rq nd nw bf su sI sO r (by omega)) (cwV 1 hts gX2_lostFor_X2_takenOutOf rfl rfl rfl (by decide +kernel) ⟨Nat.le_of_ble_eq_true rfl, Nat.le_of_ble_eq_true rfl⟩) (rd_V nstW_ok hP hK hN 0 rfl rfl _) rfl rfl hl.1 rfl (lv_room (Nat.le_of_ble_eq_true rfl)) dX2_lostFor_23 ⟨Nat.zero_le _, Nat.zero_le _⟩) ?_
    exact W.iret (v := takM nw bf r) hx hb hr (fun t ht hW => ⟨_, rfl, by simp [losM, c_1], ht⟩) (fun _ h => by cases h) dX2_lostFor_26
  · refine lv_aload_n hx hb dX2_lostFor_12 rfl (lv_at hl 0 rfl) ?_
    refine va_get (D := (dC, dI)) (ci := 2) (v := .ref (a 6)) (C := RX2) (T := TX2) (N := 6) hx hb hts in_X2 hown hK hP 0 rfl rfl 3 (by decide) lf_23 (fun _ h9 => h9) rfl dX2_lostFor_13 ?_
    refine lv_iload_n hx hb dX2_lostFor_16 rfl (lv_at hl 2 rfl) ?_
    refine hx_iald hx hb hK hP 6 4 rfl rfl (by omega) (by omega) dX2_lostFor_17 ?_
    refine lv_goto (tgt := 26) hx hb dX2_lostFor_18 (by decide) ?_
    exact W.iret (v := su r) hx hb hr (fun t ht hW => ⟨_, rfl, by simp [losM, c_1], ht⟩) (fun _ h => by cases h) dX2_lostFor_26
set_option maxHeartbeats 4000000 in
set_option maxRecDepth 100000 in
theorem c_X2_suspectsBy (l : Launch) (dC : Nat → ClassId) (dI : Nat → Nat → Nat) (a : Nat → Nat) (cA : Nat → ClassId) (n : Nat) (hd fm rp rq : Nat → Nat) (nd nw bf su sI sO : Nat → Int32) (i : Nat) (hy_0 : i < 12) (hy_1 : hd i < 7) (hy_2 : fm i ≤ 4) (hy_3 : rp i < 7) (hy_4 : rq i < 7) : RdM l yX2_suspectsBy wsX2_suspectsBy ({ frames := 2, cells := 0, slots := 0, locals := 46 }) (dC, dI) vwCl (vkW a cA n hd fm rp rq nd nw bf su sI sO) (vkT cA) nstW [.ref (a 0), .ref (a (9 + i))] (susM nd nw bf su (hd i) (fm i) (rp i) (rq i)) := by
  refine Met.ofW (cc := cX2_suspectsBy) (maxL := 6) (ret := (some .int)) (by decide) rfl ?_
  intro p e s m args below meth c s₁ B hml hv
  obtain ⟨rfl, hP, hK, hN⟩ := hv
  have hx := B.exec
  have hb := B.bytes
  have hr := B.returns
  have hts := atoms_spec (ws := wsX2_suspectsBy) B.pre
  have hown : s.vm.findClass RX2 = some m.cls := findClass_of_methodNamed B.named
  have hlocks := B.notSynchronized
  have lf_20 := hts (.fieldLink RX2 20 "ViewKeeper" "before" "[I") (by decide +kernel)
  have in_X2 : ∀ w ∈ u_ws RX2 TX2 6, w ∈ wsX2_suspectsBy := by decide +kernel
  have lf_140 : (Cond.fieldLinkNest RX2 140 "ViewKeeper$Rule" "p" "I" "ViewKeeper").before ([.ref (a 0), .ref (a (9 + i))] : List Value).toArray s = true := va_Nw.use rfl (hN _ (by decide +kernel))
  have in_X0 : ∀ w ∈ u_ws RX0 TX0 4, w ∈ wsX2_suspectsBy := by decide +kernel
  have lf_143 : (Cond.fieldLinkNest RX2 143 "ViewKeeper$Rule" "q" "I" "ViewKeeper").before ([.ref (a 0), .ref (a (9 + i))] : List Value).toArray s = true := va_Nw.use rfl (hN _ (by decide +kernel))
  have lf_107 : (Cond.fieldLinkNest RX2 107 "ViewKeeper$Rule" "head" "I" "ViewKeeper").before ([.ref (a 0), .ref (a (9 + i))] : List Value).toArray s = true := va_Nw.use rfl (hN _ (by decide +kernel))
  have lf_149 : (Cond.fieldLinkNest RX2 149 "ViewKeeper$Rule" "form" "I" "ViewKeeper").before ([.ref (a 0), .ref (a (9 + i))] : List Value).toArray s = true := va_Nw.use rfl (hN _ (by decide +kernel))
  have hl := lv_entry ([.ref (a 0), .ref (a (9 + i))]) (n := 6) (Nat.le_of_ble_eq_true rfl)
  rw [lg_entry_eq]
  generalize (lg_sl ([.ref (a 0), .ref (a (9 + i))]) ++ List.replicate (6 - (lg_sl ([.ref (a 0), .ref (a (9 + i))])).length) Slot.unset).toArray = ls at hl ⊢
  have hl : lv_has ls 6 [(0, .ref (a 0)), (1, .ref (a (9 + i)))] := hl
  refine lv_aload_n hx hb dX2_suspectsBy_0 rfl (lv_at hl 0 rfl) ?_
  refine va_get (D := (dC, dI)) (ci := 2) (v := .ref (a 5)) (C := RX2) (T := TX2) (N := 6) hx hb hts in_X2 hown hK hP 0 rfl rfl 2 (by decide) lf_20 (fun _ h9 => h9) rfl dX2_suspectsBy_1 ?_
  refine lv_aload_n hx hb dX2_suspectsBy_4 rfl (lv_at hl 1 rfl) ?_
  refine va_getN (D := (dC, dI)) (ci := 0) (v := .int (nI (rp i))) (C := RX0) (T := TX0) (N := 4) hx hb hts in_X0 hown hK hP (9 + i) (vkW_rule (by omega)) rfl 2 (by decide) lf_140 (fun _ h9 => h9) rfl dX2_suspectsBy_5 ?_
  refine hx_iald hx hb hK hP 5 3 rfl rfl (by omega) (by omega) dX2_suspectsBy_8 ?_
  refine lv_istore_n (lv' := [(2, .int (bf (rp i))), (0, .ref (a 0)), (1, .ref (a (9 + i)))]) hx hb dX2_suspectsBy_9 rfl hl (by decide) rfl (fun ls hl => ?_)
  refine lv_aload_n hx hb dX2_suspectsBy_10 rfl (lv_at hl 1 rfl) ?_
  refine va_get (D := (dC, dI)) (ci := 2) (v := .ref (a 5)) (C := RX2) (T := TX2) (N := 6) hx hb hts in_X2 hown hK hP 0 rfl rfl 2 (by decide) lf_20 (fun _ h9 => h9) rfl dX2_suspectsBy_11 ?_
  refine lv_aload_n hx hb dX2_suspectsBy_14 rfl (lv_at hl 2 rfl) ?_
  refine va_getN (D := (dC, dI)) (ci := 0) (v := .int (nI (rq i))) (C := RX0) (T := TX0) (N := 4) hx hb hts in_X0 hown hK hP (9 + i) (vkW_rule (by omega)) rfl 3 (by decide) lf_143 (fun _ h9 => h9) rfl dX2_suspectsBy_15 ?_
  refine hx_iald hx hb hK hP 5 3 rfl rfl (by omega) (by omega) dX2_suspectsBy_18 ?_
  refine lv_istore_n (lv' := [(3, .int (bf (rq i))), (2, .int (bf (rp i))), (0, .ref (a 0)), (1, .ref (a (9 + i)))]) hx hb dX2_suspectsBy_19 rfl hl (by decide) rfl (fun ls hl => ?_)
  refine lv_aload_n hx hb dX2_suspectsBy_20 rfl (lv_at hl 2 rfl) ?_
  refine lv_aload_n hx hb dX2_suspectsBy_21 rfl (lv_at hl 3 rfl) ?_
  refine va_getN (D := (dC, dI)) (ci := 0) (v := .int (nI (hd i))) (C := RX0) (T := TX0) (N := 4) hx hb hts in_X0 hown hK hP (9 + i) (vkW_rule (by omega)) rfl 0 (by decide) lf_107 (fun _ h9 => h9) rfl dX2_suspectsBy_22 ?_
  refine lv_aload_n hx hb dX2_suspectsBy_25 rfl (lv_at hl 3 rfl) ?_
  refine va_getN (D := (dC, dI)) (ci := 0) (v := .int (nI (rp i))) (C := RX0) (T := TX0) (N := 4) hx hb hts in_X0 hown hK hP (9 + i) (vkW_rule (by omega)) rfl 2 (by decide) lf_140 (fun _ h9 => h9) rfl dX2_suspectsBy_26 ?_
  refine hx_read (va_runV (As := [.int (nI (hd i)), .int (nI (rp i))]) (rest := []) ⟨hx, hb, hml, hown, hts⟩ (c_X2_lostFor l dC dI a cA n hd fm rp rq nd nw bf su sI sO (hd i) (rp i) (by omega) (by omega)) (cwV 2 hts gX2_suspectsBy_X2_lostFor rfl rfl rfl (by decide +kernel) ⟨Nat.le_of_ble_eq_true rfl, Nat.le_of_ble_eq_true rfl⟩) (rd_V nstW_ok hP hK hN 0 rfl rfl _) rfl rfl hl.1 rfl (lv_room (Nat.le_of_ble_eq_true rfl)) dX2_suspectsBy_29 ⟨Nat.zero_le _, Nat.zero_le _⟩) ?_
  refine lv_istore (lv' := [(4, .int (losM nd nw bf su (hd i) (rp i))), (3, .int (bf (rq i))), (2, .int (bf (rp i))), (0, .ref (a 0)), (1, .ref (a (9 + i)))]) hx hb dX2_suspectsBy_32 hl (by decide) rfl (fun ls hl => ?_)
  refine lv_aload_n hx hb dX2_suspectsBy_34 rfl (lv_at hl 3 rfl) ?_
  refine lv_aload_n hx hb dX2_suspectsBy_35 rfl (lv_at hl 4 rfl) ?_
  refine va_getN (D := (dC, dI)) (ci := 0) (v := .int (nI (hd i))) (C := RX0) (T := TX0) (N := 4) hx hb hts in_X0 hown hK hP (9 + i) (vkW_rule (by omega)) rfl 0 (by decide) lf_107 (fun _ h9 => h9) rfl dX2_suspectsBy_36 ?_
  refine lv_aload_n hx hb dX2_suspectsBy_39 rfl (lv_at hl 4 rfl) ?_
  refine va_getN (D := (dC, dI)) (ci := 0) (v := .int (nI (rq i))) (C := RX0) (T := TX0) (N := 4) hx hb hts in_X0 hown hK hP (9 + i) (vkW_rule (by omega)) rfl 3 (by decide) lf_143 (fun _ h9 => h9) rfl dX2_suspectsBy_40 ?_
  refine hx_read (va_runV (As := [.int (nI (hd i)), .int (nI (rq i))]) (rest := []) ⟨hx, hb, hml, hown, hts⟩ (c_X2_lostFor l dC dI a cA n hd fm rp rq nd nw bf su sI sO (hd i) (rq i) (by omega) (by omega)) (cwV 2 hts gX2_suspectsBy_X2_lostFor rfl rfl rfl (by decide +kernel) ⟨Nat.le_of_ble_eq_true rfl, Nat.le_of_ble_eq_true rfl⟩) (rd_V nstW_ok hP hK hN 0 rfl rfl _) rfl rfl hl.1 rfl (lv_room (Nat.le_of_ble_eq_true rfl)) dX2_suspectsBy_43 ⟨Nat.zero_le _, Nat.zero_le _⟩) ?_
  refine lv_istore (lv' := [(5, .int (losM nd nw bf su (hd i) (rq i))), (4, .int (losM nd nw bf su (hd i) (rp i))), (3, .int (bf (rq i))), (2, .int (bf (rp i))), (0, .ref (a 0)), (1, .ref (a (9 + i)))]) hx hb dX2_suspectsBy_46 hl (by decide) rfl (fun ls hl => ?_)
  refine lv_aload_n hx hb dX2_suspectsBy_48 rfl (lv_at hl 5 rfl) ?_
  refine va_getN (D := (dC, dI)) (ci := 0) (v := .int (nI (fm i))) (C := RX0) (T := TX0) (N := 4) hx hb hts in_X0 hown hK hP (9 + i) (vkW_rule (by omega)) rfl 1 (by decide) lf_149 (fun _ h9 => h9) rfl dX2_suspectsBy_49 ?_
  rcases (show fm i = 0 ∨ fm i = 1 ∨ fm i = 2 ∨ fm i = 3 ∨ fm i = 4 by omega) with q_1 | q_1 | q_1 | q_1 | q_1
  · refine hx_eq (y := nI 0) (by rw [q_1]) ?_
    refine lv_tableIn (tgt := 84) hx hb dX2_suspectsBy_52 (by decide) (by decide) (off := 32) rfl (by decide) ?_
    refine lv_iload hx hb dX2_suspectsBy_84 (lv_at hl 1 rfl) ?_
    exact W.iret (v := losM nd nw bf su (hd i) (rp i)) hx hb hr (fun t ht hW => ⟨_, rfl, by simp [susM, q_1], ht⟩) (fun _ h => by cases h) dX2_suspectsBy_86
  · refine hx_eq (y := nI 1) (by rw [q_1]) ?_
    refine lv_tableIn (tgt := 87) hx hb dX2_suspectsBy_52 (by decide) (by decide) (off := 35) rfl (by decide) ?_
    refine lv_iload hx hb dX2_suspectsBy_87 (lv_at hl 1 rfl) ?_
    refine hx_read (va_runS (As := [.int (losM nd nw bf su (hd i) (rp i))]) (rest := []) ⟨hx, hb, hml, hown, hts⟩ (c_X2_turned l (losM nd nw bf su (hd i) (rp i))) (va_cwS 1 hts gX2_suspectsBy_X2_turned rfl rfl rfl (by decide +kernel) ⟨Nat.le_of_ble_eq_true rfl, Nat.le_of_ble_eq_true rfl⟩) (nu_S _) rfl rfl hl.1 rfl (lv_room (Nat.le_of_ble_eq_true rfl)) dX2_suspectsBy_89 ⟨Nat.zero_le _, Nat.zero_le _⟩) ?_
    exact W.iret (v := turnM (losM nd nw bf su (hd i) (rp i))) hx hb hr (fun t ht hW => ⟨_, rfl, by simp [susM, q_1], ht⟩) (fun _ h => by cases h) dX2_suspectsBy_92
  · refine hx_eq (y := nI 2) (by rw [q_1]) ?_
    refine lv_tableIn (tgt := 93) hx hb dX2_suspectsBy_52 (by decide) (by decide) (off := 41) rfl (by decide) ?_
    refine lv_iload hx hb dX2_suspectsBy_93 (lv_at hl 1 rfl) ?_
    refine lv_iload_n hx hb dX2_suspectsBy_95 rfl (lv_at hl 2 rfl) ?_
    refine hx_read (va_runS (As := [.int (losM nd nw bf su (hd i) (rp i)), .int (bf (rq i))]) (rest := []) ⟨hx, hb, hml, hown, hts⟩ (c_X2_joined l (losM nd nw bf su (hd i) (rp i)) (bf (rq i))) (va_cwS 2 hts gX2_suspectsBy_X2_joined rfl rfl rfl (by decide +kernel) ⟨Nat.le_of_ble_eq_true rfl, Nat.le_of_ble_eq_true rfl⟩) (nu_S _) rfl rfl hl.1 rfl (lv_room (Nat.le_of_ble_eq_true rfl)) dX2_suspectsBy_96 ⟨Nat.zero_le _, Nat.zero_le _⟩) ?_
    refine lv_iload_n hx hb dX2_suspectsBy_99 rfl (lv_at hl 3 rfl) ?_
    refine lv_iload hx hb dX2_suspectsBy_100 (lv_at hl 0 rfl) ?_
    refine hx_read (va_runS (As := [.int (bf (rp i)), .int (losM nd nw bf su (hd i) (rq i))]) (rest := [.int (joinM (losM nd nw bf su (hd i) (rp i)) (bf (rq i)))]) ⟨hx, hb, hml, hown, hts⟩ (c_X2_joined l (bf (rp i)) (losM nd nw bf su (hd i) (rq i))) (va_cwS 2 hts gX2_suspectsBy_X2_joined rfl rfl rfl (by decide +kernel) ⟨Nat.le_of_ble_eq_true rfl, Nat.le_of_ble_eq_true rfl⟩) (nu_S _) rfl rfl hl.1 rfl (lv_room (Nat.le_of_ble_eq_true rfl)) dX2_suspectsBy_102 ⟨Nat.zero_le _, Nat.zero_le _⟩) ?_
    refine lv_ior hx hb dX2_suspectsBy_105 ?_
    exact W.iret (v := (joinM (losM nd nw bf su (hd i) (rp i)) (bf (rq i))) ||| (joinM (bf (rp i)) (losM nd nw bf su (hd i) (rq i)))) hx hb hr (fun t ht hW => ⟨_, rfl, by simp [susM, q_1], ht⟩) (fun _ h => by cases h) dX2_suspectsBy_106
  · refine hx_eq (y := nI 3) (by rw [q_1]) ?_
    refine lv_tableIn (tgt := 107) hx hb dX2_suspectsBy_52 (by decide) (by decide) (off := 55) rfl (by decide) ?_
    refine lv_iload hx hb dX2_suspectsBy_107 (lv_at hl 1 rfl) ?_
    refine lv_iload_n hx hb dX2_suspectsBy_109 rfl (lv_at hl 2 rfl) ?_
    refine lv_iand hx hb dX2_suspectsBy_110 ?_
    refine lv_iload_n hx hb dX2_suspectsBy_111 rfl (lv_at hl 3 rfl) ?_
    refine lv_iload hx hb dX2_suspectsBy_112 (lv_at hl 0 rfl) ?_
    refine lv_iand hx hb dX2_suspectsBy_114 ?_
    refine lv_ior hx hb dX2_suspectsBy_115 ?_
    exact W.iret (v := ((losM nd nw bf su (hd i) (rp i)) &&& (bf (rq i))) ||| ((bf (rp i)) &&& (losM nd nw bf su (hd i) (rq i)))) hx hb hr (fun t ht hW => ⟨_, rfl, by simp [susM, q_1], ht⟩) (fun _ h => by cases h) dX2_suspectsBy_116
  · refine hx_eq (y := nI 4) (by rw [q_1]) ?_
    refine lv_tableOut (tgt := 117) hx hb dX2_suspectsBy_52 (Or.inr (by decide)) (by decide) ?_
    refine lv_iload_n hx hb dX2_suspectsBy_117 rfl (lv_at hl 3 rfl) ?_
    refine lv_iload_n hx hb dX2_suspectsBy_118 rfl (lv_at hl 2 rfl) ?_
    refine lv_iconst (v := (-1)) hx hb dX2_suspectsBy_119 (by decide) ?_
    refine lv_ixor hx hb dX2_suspectsBy_120 ?_
    refine lv_iand hx hb dX2_suspectsBy_121 ?_
    refine lv_iload hx hb dX2_suspectsBy_122 (lv_at hl 1 rfl) ?_
    refine lv_aload_n hx hb dX2_suspectsBy_124 rfl (lv_at hl 4 rfl) ?_
    refine lv_aload_n hx hb dX2_suspectsBy_125 rfl (lv_at hl 5 rfl) ?_
    refine va_getN (D := (dC, dI)) (ci := 0) (v := .int (nI (rq i))) (C := RX0) (T := TX0) (N := 4) hx hb hts in_X0 hown hK hP (9 + i) (vkW_rule (by omega)) rfl 3 (by decide) lf_143 (fun _ h9 => h9) rfl dX2_suspectsBy_126 ?_
    refine hx_read (va_runV (As := [.int (nI (rq i))]) (rest := [.int (losM nd nw bf su (hd i) (rp i)), .int ((bf (rp i)) &&& ((bf (rq i)) ^^^ ((-1))))]) ⟨hx, hb, hml, hown, hts⟩ (c_X2_putInto l dC dI a cA n hd fm rp rq nd nw bf su sI sO (rq i) (by omega)) (cwV 1 hts gX2_suspectsBy_X2_putInto rfl rfl rfl (by decide +kernel) ⟨Nat.le_of_ble_eq_true rfl, Nat.le_of_ble_eq_true rfl⟩) (rd_V nstW_ok hP hK hN 0 rfl rfl _) rfl rfl hl.1 rfl (lv_room (Nat.le_of_ble_eq_true rfl)) dX2_suspectsBy_129 ⟨Nat.zero_le _, Nat.zero_le _⟩) ?_
    refine lv_ior hx hb dX2_suspectsBy_132 ?_
    refine lv_iand hx hb dX2_suspectsBy_133 ?_
    exact W.iret (v := ((bf (rp i)) &&& ((bf (rq i)) ^^^ ((-1)))) &&& ((losM nd nw bf su (hd i) (rp i)) ||| (putM nw bf (rq i)))) hx hb hr (fun t ht hW => ⟨_, rfl, by simp [susM, q_1], ht⟩) (fun _ h => by cases h) dX2_suspectsBy_134
set_option maxHeartbeats 4000000 in
set_option maxRecDepth 100000 in
theorem c_X2_suspectOnce (l : Launch) (dC : Nat → ClassId) (dI : Nat → Nat → Nat) (a : Nat → Nat) (cA : Nat → ClassId) (n : Nat) (hd fm rp rq : Nat → Nat) (nd nw bf su sI sO : Nat → Int32) (L : Nat) (hy_0 : ruOk n hd fm rp rq) (hy_1 : L < 8) : WrI l yX2_suspectOnce wsX2_suspectOnce ({ frames := 3, cells := 0, slots := 0, locals := 71 }) (dC, dI) vwCl (vkW a cA n hd fm rp rq nd nw bf su sI sO) (vkW a cA n hd fm rp rq nd nw bf ((soF hd fm rp rq nd nw bf L n 0 su false).1) sI sO) (vkT cA) nstW [.ref (a 0), .int (nI L)] (bI ((soF hd fm rp rq nd nw bf L n 0 su false).2)) := by
  intro sz
  refine Met.ofW (cc := cX2_suspectOnce) (maxL := 6) (ret := (some .boolean)) (by decide) rfl ?_
  intro p e s m args below meth c s₁ B hml hv
  obtain ⟨rfl, hsz, ⟨hP, hK, hN⟩, hD0⟩ := hv
  subst hsz
  have hx := B.exec
  have hb := B.bytes
  have hr := B.returns
  have hts := atoms_spec (ws := wsX2_suspectOnce) B.pre
  have hown : s.vm.findClass RX2 = some m.cls := findClass_of_methodNamed B.named
  have hlocks := B.notSynchronized
  obtain ⟨A, hAe⟩ : ∃ A, A = va_A (vkW a cA n hd fm rp rq nd nw bf su sI sO) s.heap.size := ⟨_, rfl⟩
  have hD : va_D A (vkW a cA n hd fm rp rq nd nw bf su sI sO) := by rw [hAe]; exact hD0.self (sz := s.heap.size)
  have hA : ∀ q : Nat, s.heap.size ≤ q → A q := fun q h => by rw [hAe]; exact Or.inr h
  have hS : va_S A s.heap s.heap [] := va_S.rf
  have hP : va_P (dC, dI) vwCl (vkW a cA n hd fm rp rq nd nw bf su sI sO) s.heap := hP
  obtain ⟨hn12, hru⟩ := id hy_0
  have lf_10 := hts (.fieldLink RX2 10 "ViewKeeper" "book" "LViewKeeper$RuleBook;") (by decide +kernel)
  have in_X2 : ∀ w ∈ u_ws RX2 TX2 6, w ∈ wsX2_suspectOnce := by decide +kernel
  have lf_39 : (Cond.fieldLinkNest RX2 39 "ViewKeeper$RuleBook" "made" "I" "ViewKeeper").before ([.ref (a 0), .int (nI L)] : List Value).toArray s = true := va_Nw.use rfl (hN _ (by decide +kernel))
  have in_X1 : ∀ w ∈ u_ws RX1 TX1 3, w ∈ wsX2_suspectOnce := by decide +kernel
  have lf_103 : (Cond.fieldLinkNest RX2 103 "ViewKeeper$RuleBook" "rows" "[LViewKeeper$Rule;" "ViewKeeper").before ([.ref (a 0), .int (nI L)] : List Value).toArray s = true := va_Nw.use rfl (hN _ (by decide +kernel))
  have lf_107 : (Cond.fieldLinkNest RX2 107 "ViewKeeper$Rule" "head" "I" "ViewKeeper").before ([.ref (a 0), .int (nI L)] : List Value).toArray s = true := va_Nw.use rfl (hN _ (by decide +kernel))
  have in_X0 : ∀ w ∈ u_ws RX0 TX0 4, w ∈ wsX2_suspectOnce := by decide +kernel
  have lf_23 := hts (.fieldLink RX2 23 "ViewKeeper" "suspects" "[I") (by decide +kernel)
  have hl := lv_entry ([.ref (a 0), .int (nI L)]) (n := 6) (Nat.le_of_ble_eq_true rfl)
  rw [lg_entry_eq]
  generalize (lg_sl ([.ref (a 0), .int (nI L)]) ++ List.replicate (6 - (lg_sl ([.ref (a 0), .int (nI L)])).length) Slot.unset).toArray = ls at hl ⊢
  have hl : lv_has ls 6 [(0, .ref (a 0)), (1, .int (nI L))] := hl
  refine lv_iconst (v := nI 0) hx hb dX2_suspectOnce_0 (by decide) ?_
  refine lv_istore_n (lv' := [(2, .int (nI 0)), (0, .ref (a 0)), (1, .int (nI L))]) hx hb dX2_suspectOnce_1 rfl hl (by decide) rfl (fun ls hl => ?_)
  refine lv_iconst (v := nI 0) hx hb dX2_suspectOnce_2 (by decide) ?_
  refine lv_istore_n (lv' := [(3, .int (nI 0)), (2, .int (nI 0)), (0, .ref (a 0)), (1, .int (nI L))]) hx hb dX2_suspectOnce_3 rfl hl (by decide) rfl (fun ls hl => ?_)
  have L_4_0 : ∀ (nn : Nat) (i : Nat) (su1 : Nat → Int32) (more : Bool), i + nn = n → ∀ (H : Heap) (locs : List Loc), va_P (dC, dI) vwCl (vkW a cA n hd fm rp rq nd nw bf su1 sI sO) H → va_D A (vkW a cA n hd fm rp rq nd nw bf su1 sI sO) → va_S A s.heap H locs → ∀ ls : Array Slot, lv_has ls 6 [(0, .ref (a 0)), (1, .int (nI L)), (2, .int (bI more)), (3, .int (nI i))] → (∀ (H : Heap) (locs : List Loc), va_P (dC, dI) vwCl (vkW a cA n hd fm rp rq nd nw bf ((soF hd fm rp rq nd nw bf L nn i su1 more).1) sI sO) H → va_D A (vkW a cA n hd fm rp rq nd nw bf ((soF hd fm rp rq nd nw bf L nn i su1 more).1) sI sO) → va_S A s.heap H locs → ∀ ls : Array Slot, lv_has ls 6 [(0, .ref (a 0)), (1, .int (nI L)), (2, .int (bI ((soF hd fm rp rq nd nw bf L nn i su1 more).2))), (3, .int (nI n))] → W p l e (headSpec wsX2_suspectOnce ({ frames := 3, cells := 0, slots := 0, locals := 71 })).room s m ([.ref (a 0), .int (nI L)] : List Value).toArray below meth c H locs 0 0 (MQ below (va_Qi (fun (r : Int32) (_ : Unit) => r = (bI ((soF hd fm rp rq nd nw bf L n 0 su false).2))) (wrB (dC, dI) vwCl (vkW a cA n hd fm rp rq nd nw bf su sI sO) (vkW a cA n hd fm rp rq nd nw bf ((soF hd fm rp rq nd nw bf L n 0 su false).1) sI sO) (vkT cA) s.heap.size) (va_A (vkW a cA n hd fm rp rq nd nw bf su sI sO) s.heap.size)) ([.ref (a 0), .int (nI L)] : List Value).toArray s 0 0 (va_A (vkW a cA n hd fm rp rq nd nw bf su sI sO) s.heap.size)) (F0 m 119 ls [])) → W p l e (headSpec wsX2_suspectOnce ({ frames := 3, cells := 0, slots := 0, locals := 71 })).room s m ([.ref (a 0), .int (nI L)] : List Value).toArray below meth c H locs 0 0 (MQ below (va_Qi (fun (r : Int32) (_ : Unit) => r = (bI ((soF hd fm rp rq nd nw bf L n 0 su false).2))) (wrB (dC, dI) vwCl (vkW a cA n hd fm rp rq nd nw bf su sI sO) (vkW a cA n hd fm rp rq nd nw bf ((soF hd fm rp rq nd nw bf L n 0 su false).1) sI sO) (vkT cA) s.heap.size) (va_A (vkW a cA n hd fm rp rq nd nw bf su sI sO) s.heap.size)) ([.ref (a 0), .int (nI L)] : List Value).toArray s 0 0 (va_A (vkW a cA n hd fm rp rq nd nw bf su sI sO) s.heap.size)) (F0 m 4 ls []) := by
    intro nn
    induction nn with
    | zero =>
      intro i su1 more hni H locs hP hD hS ls hl kx
      obtain rfl : n = i := by omega
      refine lv_iload_n hx hb dX2_suspectOnce_4 rfl (lv_at hl 3 rfl) ?_
      refine lv_aload_n hx hb dX2_suspectOnce_5 rfl (lv_at hl 0 rfl) ?_
      refine va_get (D := (dC, dI)) (ci := 2) (v := .ref (a 1)) (C := RX2) (T := TX2) (N := 6) hx hb hts in_X2 hown hK hP 0 rfl rfl 0 (by decide) lf_10 (fun _ h9 => h9) rfl dX2_suspectOnce_6 ?_
      refine va_getN (D := (dC, dI)) (ci := 1) (v := .int (nI n)) (C := RX1) (T := TX1) (N := 3) hx hb hts in_X1 hown hK hP 1 rfl rfl 2 (by decide) lf_39 (fun _ h9 => h9) rfl dX2_suspectOnce_9 ?_
      refine hx_geN (tgt := 119) hx hb dX2_suspectOnce_12 (by decide) (by omega) (by omega) (fun c_2 => ?_) (fun c_2 => ?_)
      · exact kx _ _ hP hD hS ls (lv_sub hl [0, 1, 2, 3] rfl)
      · exact absurd c_2 (by omega)
    | succ nn ih =>
      intro i su1 more hni H locs hP hD hS ls hl kx
      refine lv_iload_n hx hb dX2_suspectOnce_4 rfl (lv_at hl 3 rfl) ?_
      refine lv_aload_n hx hb dX2_suspectOnce_5 rfl (lv_at hl 0 rfl) ?_
      refine va_get (D := (dC, dI)) (ci := 2) (v := .ref (a 1)) (C := RX2) (T := TX2) (N := 6) hx hb hts in_X2 hown hK hP 0 rfl rfl 0 (by decide) lf_10 (fun _ h9 => h9) rfl dX2_suspectOnce_6 ?_
      refine va_getN (D := (dC, dI)) (ci := 1) (v := .int (nI n)) (C := RX1) (T := TX1) (N := 3) hx hb hts in_X1 hown hK hP 1 rfl rfl 2 (by decide) lf_39 (fun _ h9 => h9) rfl dX2_suspectOnce_9 ?_
      refine hx_geN (tgt := 119) hx hb dX2_suspectOnce_12 (by decide) (by omega) (by omega) (fun c_3 => ?_) (fun c_3 => ?_)
      · exact absurd c_3 (by omega)
      · have hr9 := hru i (by omega)
        refine lv_aload_n hx hb dX2_suspectOnce_15 rfl (lv_at hl 0 rfl) ?_
        refine va_get (D := (dC, dI)) (ci := 2) (v := .ref (a 1)) (C := RX2) (T := TX2) (N := 6) hx hb hts in_X2 hown hK hP 0 rfl rfl 0 (by decide) lf_10 (fun _ h9 => h9) rfl dX2_suspectOnce_16 ?_
        refine va_getN (D := (dC, dI)) (ci := 1) (v := .ref (a 2)) (C := RX1) (T := TX1) (N := 3) hx hb hts in_X1 hown hK hP 1 rfl rfl 0 (by decide) lf_103 (fun _ h9 => h9) rfl dX2_suspectOnce_19 ?_
        refine lv_iload_n hx hb dX2_suspectOnce_22 rfl (lv_at hl 3 rfl) ?_
        refine hx_aald hx hb hK hP 2 0 rfl rfl (by omega) (by omega) dX2_suspectOnce_23 ?_
        refine lv_astore (lv' := [(4, .ref (a (9 + i))), (0, .ref (a 0)), (1, .int (nI L)), (2, .int (bI more)), (3, .int (nI i))]) hx hb dX2_suspectOnce_24 hl (by decide) rfl (fun ls hl => ?_)
        refine lv_aload_n hx hb dX2_suspectOnce_26 rfl (lv_at hl 1 rfl) ?_
        refine va_get (D := (dC, dI)) (ci := 2) (v := .ref (a 1)) (C := RX2) (T := TX2) (N := 6) hx hb hts in_X2 hown hK hP 0 rfl rfl 0 (by decide) lf_10 (fun _ h9 => h9) rfl dX2_suspectOnce_27 ?_
        refine lv_aload hx hb dX2_suspectOnce_30 (lv_at hl 0 rfl) ?_
        refine va_getN (D := (dC, dI)) (ci := 0) (v := .int (nI (hd i))) (C := RX0) (T := TX0) (N := 4) hx hb hts in_X0 hown hK hP (9 + i) (vkW_rule (by omega)) rfl 0 (by decide) lf_107 (fun _ h9 => h9) rfl dX2_suspectOnce_32 ?_
        refine hx_read (va_runVN (C := RX1) (As := [.int (nI (hd i))]) (rest := []) ⟨hx, hb, hml, hown, hts⟩ (c_X1_layerOf l dC dI a cA n hd fm rp rq nd nw bf su1 sI sO (hd i) (by omega)) ⟨va_cnB 1 hts gX2_suspectOnce_X1_layerOf_n133 rfl rfl rfl (hN (.methodLinkNest RX2 133 yX1_layerOf "ViewKeeper") (by decide +kernel)) (hts (.initialized RX1) (by decide +kernel)) (by decide +kernel) ⟨Nat.le_of_ble_eq_true rfl, Nat.le_of_ble_eq_true rfl⟩, hts (.instanceMethod yX1_layerOf) (by decide +kernel), hts (.selects RX1 yX1_layerOf yX1_layerOf) (by decide +kernel)⟩ (rd_V nstW_ok hP hK hN 1 rfl rfl _) rfl rfl hl.1 rfl (lv_room (Nat.le_of_ble_eq_true rfl)) dX2_suspectOnce_35 ⟨Nat.zero_le _, Nat.zero_le _⟩) ?_
        have hc_4 := cntB_le (nd (hd i) ||| bm (hd i)) 32
        refine lv_iload_n hx hb dX2_suspectOnce_38 rfl (lv_at hl 2 rfl) ?_
        refine hx_neN (tgt := 113) hx hb dX2_suspectOnce_39 (by decide) (by omega) (by omega) (fun c_5 => ?_) (fun c_5 => ?_)
        · refine lv_iinc (v := nI (i + 1)) (lv' := [(3, .int (nI (i + 1))), (4, .ref (a (9 + i))), (0, .ref (a 0)), (1, .int (nI L)), (2, .int (bI more))]) hx hb dX2_suspectOnce_113 hl (k := 4) rfl (nI_add i 1) (by decide) rfl (fun ls hl => ?_)
          refine lv_goto (tgt := 4) hx hb dX2_suspectOnce_116 (by decide) ?_
          have kx := kx
          rw [show (soF hd fm rp rq nd nw bf L (nn + 1) i su1 more).1 = (soF hd fm rp rq nd nw bf L nn (i + 1) su1 more).1 from by simp only [soF, layM, c_3, c_5, ↓reduceIte, decide_true, decide_false, Bool.not_true, Bool.not_false, Bool.or_true, Bool.true_or, Bool.or_false, Bool.false_or, Bool.and_true, Bool.true_and, Bool.and_false, Bool.false_and, and_true, true_and, and_false, false_and, and_self, or_self, or_true, true_or, or_false, false_or, Bool.false_eq_true, Bool.true_eq_false, not_true_eq_false, not_false_eq_true, Bool.or_self, decide_eq_true_eq]] at kx
          rw [show (soF hd fm rp rq nd nw bf L (nn + 1) i su1 more).2 = (soF hd fm rp rq nd nw bf L nn (i + 1) su1 more).2 from by simp only [soF, layM, c_3, c_5, ↓reduceIte, decide_true, decide_false, Bool.not_true, Bool.not_false, Bool.or_true, Bool.true_or, Bool.or_false, Bool.false_or, Bool.and_true, Bool.true_and, Bool.and_false, Bool.false_and, and_true, true_and, and_false, false_and, and_self, or_self, or_true, true_or, or_false, false_or, Bool.false_eq_true, Bool.true_eq_false, not_true_eq_false, not_false_eq_true, Bool.or_self, decide_eq_true_eq]] at kx
          exact ih (i + 1) su1 more (by omega) _ _ hP hD hS ls (lv_sub hl [2, 3, 4, 0] rfl) kx
        · refine lv_aload_n hx hb dX2_suspectOnce_42 rfl (lv_at hl 1 rfl) ?_
          refine va_get (D := (dC, dI)) (ci := 2) (v := .ref (a 1)) (C := RX2) (T := TX2) (N := 6) hx hb hts in_X2 hown hK hP 0 rfl rfl 0 (by decide) lf_10 (fun _ h9 => h9) rfl dX2_suspectOnce_43 ?_
          refine lv_aload hx hb dX2_suspectOnce_46 (lv_at hl 0 rfl) ?_
          refine va_getN (D := (dC, dI)) (ci := 0) (v := .int (nI (hd i))) (C := RX0) (T := TX0) (N := 4) hx hb hts in_X0 hown hK hP (9 + i) (vkW_rule (by omega)) rfl 0 (by decide) lf_107 (fun _ h9 => h9) rfl dX2_suspectOnce_48 ?_
          refine lv_aload hx hb dX2_suspectOnce_51 (lv_at hl 0 rfl) ?_
          refine va_getN (D := (dC, dI)) (ci := 0) (v := .int (nI (hd i))) (C := RX0) (T := TX0) (N := 4) hx hb hts in_X0 hown hK hP (9 + i) (vkW_rule (by omega)) rfl 0 (by decide) lf_107 (fun _ h9 => h9) rfl dX2_suspectOnce_53 ?_
          refine hx_read (va_runVN (C := RX1) (As := [.int (nI (hd i)), .int (nI (hd i))]) (rest := []) ⟨hx, hb, hml, hown, hts⟩ (c_X1_leadsTo l dC dI a cA n hd fm rp rq nd nw bf su1 sI sO (hd i) (hd i) (by omega) (by omega)) ⟨va_cnB 2 hts gX2_suspectOnce_X1_leadsTo_n99 rfl rfl rfl (hN (.methodLinkNest RX2 99 yX1_leadsTo "ViewKeeper") (by decide +kernel)) (hts (.initialized RX1) (by decide +kernel)) (by decide +kernel) ⟨Nat.le_of_ble_eq_true rfl, Nat.le_of_ble_eq_true rfl⟩, hts (.instanceMethod yX1_leadsTo) (by decide +kernel), hts (.selects RX1 yX1_leadsTo yX1_leadsTo) (by decide +kernel)⟩ (rd_V nstW_ok hP hK hN 1 rfl rfl _) rfl rfl hl.1 rfl (lv_room (Nat.le_of_ble_eq_true rfl)) dX2_suspectOnce_56 ⟨Nat.zero_le _, Nat.zero_le _⟩) ?_
          refine hx_ifB (tgt := 113) hx hb dX2_suspectOnce_59 (by decide) (fun c_6 => ?_) (fun c_6 => ?_)
          · refine lv_iinc (v := nI (i + 1)) (lv' := [(3, .int (nI (i + 1))), (4, .ref (a (9 + i))), (0, .ref (a 0)), (1, .int (nI L)), (2, .int (bI more))]) hx hb dX2_suspectOnce_113 hl (k := 4) rfl (nI_add i 1) (by decide) rfl (fun ls hl => ?_)
            refine lv_goto (tgt := 4) hx hb dX2_suspectOnce_116 (by decide) ?_
            have kx := kx
            rw [show (soF hd fm rp rq nd nw bf L (nn + 1) i su1 more).1 = (soF hd fm rp rq nd nw bf L nn (i + 1) su1 more).1 from by simp only [soF, layM, c_3, c_5, c_6, ↓reduceIte, decide_true, decide_false, Bool.not_true, Bool.not_false, Bool.or_true, Bool.true_or, Bool.or_false, Bool.false_or, Bool.and_true, Bool.true_and, Bool.and_false, Bool.false_and, and_true, true_and, and_false, false_and, and_self, or_self, or_true, true_or, or_false, false_or, Bool.false_eq_true, Bool.true_eq_false, not_true_eq_false, not_false_eq_true, Bool.or_self, decide_eq_true_eq]] at kx
            rw [show (soF hd fm rp rq nd nw bf L (nn + 1) i su1 more).2 = (soF hd fm rp rq nd nw bf L nn (i + 1) su1 more).2 from by simp only [soF, layM, c_3, c_5, c_6, ↓reduceIte, decide_true, decide_false, Bool.not_true, Bool.not_false, Bool.or_true, Bool.true_or, Bool.or_false, Bool.false_or, Bool.and_true, Bool.true_and, Bool.and_false, Bool.false_and, and_true, true_and, and_false, false_and, and_self, or_self, or_true, true_or, or_false, false_or, Bool.false_eq_true, Bool.true_eq_false, not_true_eq_false, not_false_eq_true, Bool.or_self, decide_eq_true_eq]] at kx
            exact ih (i + 1) su1 more (by omega) _ _ hP hD hS ls (lv_sub hl [2, 3, 4, 0] rfl) kx
          · refine lv_aload_n hx hb dX2_suspectOnce_62 rfl (lv_at hl 1 rfl) ?_
            refine lv_aload hx hb dX2_suspectOnce_63 (lv_at hl 0 rfl) ?_
            refine hx_read (va_runV (As := [.ref (a (9 + i))]) (rest := []) ⟨hx, hb, hml, hown, hts⟩ (c_X2_suspectsBy l dC dI a cA n hd fm rp rq nd nw bf su1 sI sO i (by omega) (by omega) (by omega) (by omega) (by omega)) (cwV 1 hts gX2_suspectOnce_X2_suspectsBy rfl rfl rfl (by decide +kernel) ⟨Nat.le_of_ble_eq_true rfl, Nat.le_of_ble_eq_true rfl⟩) (rd_V nstW_ok hP hK hN 0 rfl rfl _) rfl rfl hl.1 rfl (lv_room (Nat.le_of_ble_eq_true rfl)) dX2_suspectOnce_65 ⟨Nat.zero_le _, Nat.zero_le _⟩) ?_
            refine lv_aload_n hx hb dX2_suspectOnce_68 rfl (lv_at hl 1 rfl) ?_
            refine va_get (D := (dC, dI)) (ci := 2) (v := .ref (a 6)) (C := RX2) (T := TX2) (N := 6) hx hb hts in_X2 hown hK hP 0 rfl rfl 3 (by decide) lf_23 (fun _ h9 => h9) rfl dX2_suspectOnce_69 ?_
            refine lv_aload hx hb dX2_suspectOnce_72 (lv_at hl 0 rfl) ?_
            refine va_getN (D := (dC, dI)) (ci := 0) (v := .int (nI (hd i))) (C := RX0) (T := TX0) (N := 4) hx hb hts in_X0 hown hK hP (9 + i) (vkW_rule (by omega)) rfl 0 (by decide) lf_107 (fun _ h9 => h9) rfl dX2_suspectOnce_74 ?_
            refine hx_iald hx hb hK hP 6 4 rfl rfl (by omega) (by omega) dX2_suspectOnce_77 ?_
            refine lv_iconst (v := (-1)) hx hb dX2_suspectOnce_78 (by decide) ?_
            refine lv_ixor hx hb dX2_suspectOnce_79 ?_
            refine lv_iand hx hb dX2_suspectOnce_80 ?_
            refine lv_istore (lv' := [(5, .int ((susM nd nw bf su1 (hd i) (fm i) (rp i) (rq i)) &&& ((su1 (hd i)) ^^^ ((-1))))), (4, .ref (a (9 + i))), (0, .ref (a 0)), (1, .int (nI L)), (2, .int (bI more)), (3, .int (nI i))]) hx hb dX2_suspectOnce_81 hl (by decide) rfl (fun ls hl => ?_)
            refine lv_aload_n hx hb dX2_suspectOnce_83 rfl (lv_at hl 2 rfl) ?_
            refine va_get (D := (dC, dI)) (ci := 2) (v := .ref (a 6)) (C := RX2) (T := TX2) (N := 6) hx hb hts in_X2 hown hK hP 0 rfl rfl 3 (by decide) lf_23 (fun _ h9 => h9) rfl dX2_suspectOnce_84 ?_
            refine lv_aload hx hb dX2_suspectOnce_87 (lv_at hl 1 rfl) ?_
            refine va_getN (D := (dC, dI)) (ci := 0) (v := .int (nI (hd i))) (C := RX0) (T := TX0) (N := 4) hx hb hts in_X0 hown hK hP (9 + i) (vkW_rule (by omega)) rfl 0 (by decide) lf_107 (fun _ h9 => h9) rfl dX2_suspectOnce_89 ?_
            refine lv_dup2_11 hx hb dX2_suspectOnce_92 rfl rfl ?_
            refine hx_iald hx hb hK hP 6 4 rfl rfl (by omega) (by omega) dX2_suspectOnce_93 ?_
            refine lv_iload hx hb dX2_suspectOnce_94 (lv_at hl 0 rfl) ?_
            refine lv_ior hx hb dX2_suspectOnce_96 ?_
            refine hx_iast hx hb hK hP hD hS 6 4 rfl rfl (by omega) (by omega) dX2_suspectOnce_97 (fun H locs hP hD hS => ?_)
            have hP : va_P (dC, dI) vwCl (vkW a cA n hd fm rp rq nd nw bf (upd su1 (hd i) ((su1 (hd i)) ||| ((susM nd nw bf su1 (hd i) (fm i) (rp i) (rq i)) &&& ((su1 (hd i)) ^^^ ((-1)))))) sI sO) H := hP
            have hD : va_D A (vkW a cA n hd fm rp rq nd nw bf (upd su1 (hd i) ((su1 (hd i)) ||| ((susM nd nw bf su1 (hd i) (fm i) (rp i) (rq i)) &&& ((su1 (hd i)) ^^^ ((-1)))))) sI sO) := hD
            refine lv_iload_n hx hb dX2_suspectOnce_98 rfl (lv_at hl 4 rfl) ?_
            refine hx_ifnB (tgt := 107) hx hb dX2_suspectOnce_99 (by decide) (fun c_7 => ?_) (fun c_7 => ?_)
            · refine lv_iconst (v := nI 1) hx hb dX2_suspectOnce_107 (by decide) ?_
              refine lv_goto (tgt := 112) hx hb dX2_suspectOnce_108 (by decide) ?_
              refine lv_istore_n (lv' := [(2, .int (nI 1)), (5, .int ((susM nd nw bf su1 (hd i) (fm i) (rp i) (rq i)) &&& ((su1 (hd i)) ^^^ ((-1))))), (4, .ref (a (9 + i))), (0, .ref (a 0)), (1, .int (nI L)), (3, .int (nI i))]) hx hb dX2_suspectOnce_112 rfl hl (by decide) rfl (fun ls hl => ?_)
              refine lv_iinc (v := nI (i + 1)) (lv' := [(3, .int (nI (i + 1))), (2, .int (nI 1)), (5, .int ((susM nd nw bf su1 (hd i) (fm i) (rp i) (rq i)) &&& ((su1 (hd i)) ^^^ ((-1))))), (4, .ref (a (9 + i))), (0, .ref (a 0)), (1, .int (nI L))]) hx hb dX2_suspectOnce_113 hl (k := 5) rfl (nI_add i 1) (by decide) rfl (fun ls hl => ?_)
              refine lv_goto (tgt := 4) hx hb dX2_suspectOnce_116 (by decide) ?_
              have kx := kx
              rw [show (soF hd fm rp rq nd nw bf L (nn + 1) i su1 more).1 = (soF hd fm rp rq nd nw bf L nn (i + 1) (upd su1 (hd i) ((su1 (hd i)) ||| ((susM nd nw bf su1 (hd i) (fm i) (rp i) (rq i)) &&& ((su1 (hd i)) ^^^ ((-1)))))) true).1 from by simp only [soF, layM, c_3, c_5, c_6, c_7, ↓reduceIte, decide_true, decide_false, Bool.not_true, Bool.not_false, Bool.or_true, Bool.true_or, Bool.or_false, Bool.false_or, Bool.and_true, Bool.true_and, Bool.and_false, Bool.false_and, and_true, true_and, and_false, false_and, and_self, or_self, or_true, true_or, or_false, false_or, Bool.false_eq_true, Bool.true_eq_false, not_true_eq_false, not_false_eq_true, Bool.or_self, decide_eq_true_eq]] at kx
              rw [show (soF hd fm rp rq nd nw bf L (nn + 1) i su1 more).2 = (soF hd fm rp rq nd nw bf L nn (i + 1) (upd su1 (hd i) ((su1 (hd i)) ||| ((susM nd nw bf su1 (hd i) (fm i) (rp i) (rq i)) &&& ((su1 (hd i)) ^^^ ((-1)))))) true).2 from by simp only [soF, layM, c_3, c_5, c_6, c_7, ↓reduceIte, decide_true, decide_false, Bool.not_true, Bool.not_false, Bool.or_true, Bool.true_or, Bool.or_false, Bool.false_or, Bool.and_true, Bool.true_and, Bool.and_false, Bool.false_and, and_true, true_and, and_false, false_and, and_self, or_self, or_true, true_or, or_false, false_or, Bool.false_eq_true, Bool.true_eq_false, not_true_eq_false, not_false_eq_true, Bool.or_self, decide_eq_true_eq]] at kx
              exact ih (i + 1) (upd su1 (hd i) ((su1 (hd i)) ||| ((susM nd nw bf su1 (hd i) (fm i) (rp i) (rq i)) &&& ((su1 (hd i)) ^^^ ((-1)))))) true (by omega) _ _ hP hD hS ls (lv_sub hl [4, 5, 1, 0] rfl) kx
            · refine lv_iload hx hb dX2_suspectOnce_102 (lv_at hl 0 rfl) ?_
              refine lv_if_eq (tgt := 111) hx hb dX2_suspectOnce_104 (by decide) (fun c_8 => ?_) (fun c_8 => ?_)
              · refine lv_iconst (v := nI 0) hx hb dX2_suspectOnce_111 (by decide) ?_
                refine lv_istore_n (lv' := [(2, .int (nI 0)), (5, .int ((susM nd nw bf su1 (hd i) (fm i) (rp i) (rq i)) &&& ((su1 (hd i)) ^^^ ((-1))))), (4, .ref (a (9 + i))), (0, .ref (a 0)), (1, .int (nI L)), (3, .int (nI i))]) hx hb dX2_suspectOnce_112 rfl hl (by decide) rfl (fun ls hl => ?_)
                refine lv_iinc (v := nI (i + 1)) (lv' := [(3, .int (nI (i + 1))), (2, .int (nI 0)), (5, .int ((susM nd nw bf su1 (hd i) (fm i) (rp i) (rq i)) &&& ((su1 (hd i)) ^^^ ((-1))))), (4, .ref (a (9 + i))), (0, .ref (a 0)), (1, .int (nI L))]) hx hb dX2_suspectOnce_113 hl (k := 5) rfl (nI_add i 1) (by decide) rfl (fun ls hl => ?_)
                refine lv_goto (tgt := 4) hx hb dX2_suspectOnce_116 (by decide) ?_
                have kx := kx
                rw [show (soF hd fm rp rq nd nw bf L (nn + 1) i su1 more).1 = (soF hd fm rp rq nd nw bf L nn (i + 1) (upd su1 (hd i) ((su1 (hd i)) ||| ((susM nd nw bf su1 (hd i) (fm i) (rp i) (rq i)) &&& ((su1 (hd i)) ^^^ ((-1)))))) false).1 from by simp only [soF, layM, c_3, c_5, c_6, c_7, c_8, ↓reduceIte, decide_true, decide_false, Bool.not_true, Bool.not_false, Bool.or_true, Bool.true_or, Bool.or_false, Bool.false_or, Bool.and_true, Bool.true_and, Bool.and_false, Bool.false_and, and_true, true_and, and_false, false_and, and_self, or_self, or_true, true_or, or_false, false_or, Bool.false_eq_true, Bool.true_eq_false, not_true_eq_false, not_false_eq_true, Bool.or_self, decide_eq_true_eq]] at kx
                rw [show (soF hd fm rp rq nd nw bf L (nn + 1) i su1 more).2 = (soF hd fm rp rq nd nw bf L nn (i + 1) (upd su1 (hd i) ((su1 (hd i)) ||| ((susM nd nw bf su1 (hd i) (fm i) (rp i) (rq i)) &&& ((su1 (hd i)) ^^^ ((-1)))))) false).2 from by simp only [soF, layM, c_3, c_5, c_6, c_7, c_8, ↓reduceIte, decide_true, decide_false, Bool.not_true, Bool.not_false, Bool.or_true, Bool.true_or, Bool.or_false, Bool.false_or, Bool.and_true, Bool.true_and, Bool.and_false, Bool.false_and, and_true, true_and, and_false, false_and, and_self, or_self, or_true, true_or, or_false, false_or, Bool.false_eq_true, Bool.true_eq_false, not_true_eq_false, not_false_eq_true, Bool.or_self, decide_eq_true_eq]] at kx
                exact ih (i + 1) (upd su1 (hd i) ((su1 (hd i)) ||| ((susM nd nw bf su1 (hd i) (fm i) (rp i) (rq i)) &&& ((su1 (hd i)) ^^^ ((-1)))))) false (by omega) _ _ hP hD hS ls (lv_sub hl [4, 5, 1, 0] rfl) kx
              · refine lv_iconst (v := nI 1) hx hb dX2_suspectOnce_107 (by decide) ?_
                refine lv_goto (tgt := 112) hx hb dX2_suspectOnce_108 (by decide) ?_
                refine lv_istore_n (lv' := [(2, .int (nI 1)), (5, .int ((susM nd nw bf su1 (hd i) (fm i) (rp i) (rq i)) &&& ((su1 (hd i)) ^^^ ((-1))))), (4, .ref (a (9 + i))), (0, .ref (a 0)), (1, .int (nI L)), (3, .int (nI i))]) hx hb dX2_suspectOnce_112 rfl hl (by decide) rfl (fun ls hl => ?_)
                refine lv_iinc (v := nI (i + 1)) (lv' := [(3, .int (nI (i + 1))), (2, .int (nI 1)), (5, .int ((susM nd nw bf su1 (hd i) (fm i) (rp i) (rq i)) &&& ((su1 (hd i)) ^^^ ((-1))))), (4, .ref (a (9 + i))), (0, .ref (a 0)), (1, .int (nI L))]) hx hb dX2_suspectOnce_113 hl (k := 5) rfl (nI_add i 1) (by decide) rfl (fun ls hl => ?_)
                refine lv_goto (tgt := 4) hx hb dX2_suspectOnce_116 (by decide) ?_
                have kx := kx
                rw [show (soF hd fm rp rq nd nw bf L (nn + 1) i su1 more).1 = (soF hd fm rp rq nd nw bf L nn (i + 1) (upd su1 (hd i) ((su1 (hd i)) ||| ((susM nd nw bf su1 (hd i) (fm i) (rp i) (rq i)) &&& ((su1 (hd i)) ^^^ ((-1)))))) true).1 from by simp only [soF, layM, c_3, c_5, c_6, c_7, c_8, ↓reduceIte, decide_true, decide_false, Bool.not_true, Bool.not_false, Bool.or_true, Bool.true_or, Bool.or_false, Bool.false_or, Bool.and_true, Bool.true_and, Bool.and_false, Bool.false_and, and_true, true_and, and_false, false_and, and_self, or_self, or_true, true_or, or_false, false_or, Bool.false_eq_true, Bool.true_eq_false, not_true_eq_false, not_false_eq_true, Bool.or_self, decide_eq_true_eq]] at kx
                rw [show (soF hd fm rp rq nd nw bf L (nn + 1) i su1 more).2 = (soF hd fm rp rq nd nw bf L nn (i + 1) (upd su1 (hd i) ((su1 (hd i)) ||| ((susM nd nw bf su1 (hd i) (fm i) (rp i) (rq i)) &&& ((su1 (hd i)) ^^^ ((-1)))))) true).2 from by simp only [soF, layM, c_3, c_5, c_6, c_7, c_8, ↓reduceIte, decide_true, decide_false, Bool.not_true, Bool.not_false, Bool.or_true, Bool.true_or, Bool.or_false, Bool.false_or, Bool.and_true, Bool.true_and, Bool.and_false, Bool.false_and, and_true, true_and, and_false, false_and, and_self, or_self, or_true, true_or, or_false, false_or, Bool.false_eq_true, Bool.true_eq_false, not_true_eq_false, not_false_eq_true, Bool.or_self, decide_eq_true_eq]] at kx
                exact ih (i + 1) (upd su1 (hd i) ((su1 (hd i)) ||| ((susM nd nw bf su1 (hd i) (fm i) (rp i) (rq i)) &&& ((su1 (hd i)) ^^^ ((-1)))))) true (by omega) _ _ hP hD hS ls (lv_sub hl [4, 5, 1, 0] rfl) kx
  refine L_4_0 n 0 su false (by omega) _ _ hP hD hS ls (lv_sub hl [2, 3, 1, 0] rfl) (fun H locs hP hD hS ls hl => ?_)
  have hP : va_P (dC, dI) vwCl (vkW a cA n hd fm rp rq nd nw bf ((soF hd fm rp rq nd nw bf L n 0 su false).1) sI sO) H := hP
  have hD : va_D A (vkW a cA n hd fm rp rq nd nw bf ((soF hd fm rp rq nd nw bf L n 0 su false).1) sI sO) := hD
  have hl : lv_has ls 6 [(0, .ref (a 0)), (1, .int (nI L)), (2, .int (bI ((soF hd fm rp rq nd nw bf L n 0 su false).2))), (3, .int (nI n))] := hl
  refine lv_iload_n hx hb dX2_suspectOnce_119 rfl (lv_at hl 2 rfl) ?_
  have e9 : vkW a cA n hd fm rp rq nd nw bf ((soF hd fm rp rq nd nw bf L n 0 su false).1) sI sO = vkW a cA n hd fm rp rq nd nw bf ((soF hd fm rp rq nd nw bf L n 0 su false).1) sI sO := rfl
  rw [e9] at hP hD
  subst hAe
  exact W.zret (v := bI ((soF hd fm rp rq nd nw bf L n 0 su false).2)) hx hb hr (nar_bI _) (fun t ht hW => ⟨⟨_, (), rfl, rfl, by rw [ht]; exact hP, va_K.moved hW.alike hK, hD⟩, hS.F ht⟩) hS.2.2 dX2_suspectOnce_120
set_option maxHeartbeats 4000000 in
set_option maxRecDepth 100000 in
theorem c_X2_findSuspects (l : Launch) (dC : Nat → ClassId) (dI : Nat → Nat → Nat) (a : Nat → Nat) (cA : Nat → ClassId) (n : Nat) (hd fm rp rq : Nat → Nat) (nd nw bf su sI sO : Nat → Int32) (L : Nat) (hy_0 : ruOk n hd fm rp rq) (hy_1 : L < 8) : WrV l yX2_findSuspects wsX2_findSuspects ({ frames := 4, cells := 0, slots := 0, locals := 96 }) (dC, dI) vwCl (vkW a cA n hd fm rp rq nd nw bf su sI sO) (vkW a cA n hd fm rp rq nd nw bf (fsF n hd fm rp rq nd nw bf L 126 true su) sI sO) (vkT cA) nstW [.ref (a 0), .int (nI L)] := by
  intro sz
  refine Met.ofW (cc := cX2_findSuspects) (maxL := 4) (ret := none) (by decide) rfl ?_
  intro p e s m args below meth c s₁ B hml hv
  obtain ⟨rfl, hsz, ⟨hP, hK, hN⟩, hD0⟩ := hv
  subst hsz
  have hx := B.exec
  have hb := B.bytes
  have hr := B.returns
  have hts := atoms_spec (ws := wsX2_findSuspects) B.pre
  have hown : s.vm.findClass RX2 = some m.cls := findClass_of_methodNamed B.named
  have hlocks := B.notSynchronized
  obtain ⟨A, hAe⟩ : ∃ A, A = va_A (vkW a cA n hd fm rp rq nd nw bf su sI sO) s.heap.size := ⟨_, rfl⟩
  have hD : va_D A (vkW a cA n hd fm rp rq nd nw bf su sI sO) := by rw [hAe]; exact hD0.self (sz := s.heap.size)
  have hA : ∀ q : Nat, s.heap.size ≤ q → A q := fun q h => by rw [hAe]; exact Or.inr h
  have hS : va_S A s.heap s.heap [] := va_S.rf
  have hP : va_P (dC, dI) vwCl (vkW a cA n hd fm rp rq nd nw bf su sI sO) s.heap := hP
  have hl := lv_entry ([.ref (a 0), .int (nI L)]) (n := 4) (Nat.le_of_ble_eq_true rfl)
  rw [lg_entry_eq]
  generalize (lg_sl ([.ref (a 0), .int (nI L)]) ++ List.replicate (4 - (lg_sl ([.ref (a 0), .int (nI L)])).length) Slot.unset).toArray = ls at hl ⊢
  have hl : lv_has ls 4 [(0, .ref (a 0)), (1, .int (nI L))] := hl
  refine lv_iconst (v := nI 1) hx hb dX2_findSuspects_0 (by decide) ?_
  refine lv_istore_n (lv' := [(2, .int (nI 1)), (0, .ref (a 0)), (1, .int (nI L))]) hx hb dX2_findSuspects_1 rfl hl (by decide) rfl (fun ls hl => ?_)
  refine lv_iconst (v := nI 0) hx hb dX2_findSuspects_2 (by decide) ?_
  refine lv_istore_n (lv' := [(3, .int (nI 0)), (2, .int (nI 1)), (0, .ref (a 0)), (1, .int (nI L))]) hx hb dX2_findSuspects_3 rfl hl (by decide) rfl (fun ls hl => ?_)
  have L_4_0 : ∀ (nn : Nat) (ps : Nat) (more : Bool) (S1 : Nat → Int32), ps + nn = 126 → ∀ (H : Heap) (locs : List Loc), va_P (dC, dI) vwCl (vkW a cA n hd fm rp rq nd nw bf S1 sI sO) H → va_D A (vkW a cA n hd fm rp rq nd nw bf S1 sI sO) → va_S A s.heap H locs → ∀ ls : Array Slot, lv_has ls 4 [(0, .ref (a 0)), (1, .int (nI L)), (2, .int (bI more)), (3, .int (nI ps))] → (∀ (H : Heap) (locs : List Loc), va_P (dC, dI) vwCl (vkW a cA n hd fm rp rq nd nw bf (fsF n hd fm rp rq nd nw bf L nn more S1) sI sO) H → va_D A (vkW a cA n hd fm rp rq nd nw bf (fsF n hd fm rp rq nd nw bf L nn more S1) sI sO) → va_S A s.heap H locs → ∀ ls : Array Slot, lv_has ls 4 [(0, .ref (a 0)), (1, .int (nI L))] → W p l e (headSpec wsX2_findSuspects ({ frames := 4, cells := 0, slots := 0, locals := 96 })).room s m ([.ref (a 0), .int (nI L)] : List Value).toArray below meth c H locs 0 0 (MQ below (va_Qv (fun _ : Unit => True) (wrB (dC, dI) vwCl (vkW a cA n hd fm rp rq nd nw bf su sI sO) (vkW a cA n hd fm rp rq nd nw bf (fsF n hd fm rp rq nd nw bf L 126 true su) sI sO) (vkT cA) s.heap.size) (va_A (vkW a cA n hd fm rp rq nd nw bf su sI sO) s.heap.size)) ([.ref (a 0), .int (nI L)] : List Value).toArray s 0 0 (va_A (vkW a cA n hd fm rp rq nd nw bf su sI sO) s.heap.size)) (F0 m 26 ls [])) → W p l e (headSpec wsX2_findSuspects ({ frames := 4, cells := 0, slots := 0, locals := 96 })).room s m ([.ref (a 0), .int (nI L)] : List Value).toArray below meth c H locs 0 0 (MQ below (va_Qv (fun _ : Unit => True) (wrB (dC, dI) vwCl (vkW a cA n hd fm rp rq nd nw bf su sI sO) (vkW a cA n hd fm rp rq nd nw bf (fsF n hd fm rp rq nd nw bf L 126 true su) sI sO) (vkT cA) s.heap.size) (va_A (vkW a cA n hd fm rp rq nd nw bf su sI sO) s.heap.size)) ([.ref (a 0), .int (nI L)] : List Value).toArray s 0 0 (va_A (vkW a cA n hd fm rp rq nd nw bf su sI sO) s.heap.size)) (F0 m 4 ls []) := by
    intro nn
    induction nn with
    | zero =>
      intro ps more S1 hnp H locs hP hD hS ls hl kx
      obtain rfl : ps = 126 := by omega
      refine lv_iload_n hx hb dX2_findSuspects_4 rfl (lv_at hl 2 rfl) ?_
      refine hx_ifB (tgt := 26) hx hb dX2_findSuspects_5 (by decide) (fun c_2 => ?_) (fun c_2 => ?_)
      · exact kx _ _ hP hD hS ls (lv_sub hl [0, 1] rfl)
      · refine lv_iload_n hx hb dX2_findSuspects_8 rfl (lv_at hl 3 rfl) ?_
        refine lv_bipush (v := nI 126) hx hb dX2_findSuspects_9 (by decide) ?_
        refine hx_geN (tgt := 26) hx hb dX2_findSuspects_11 (by decide) (by omega) (by omega) (fun c_3 => ?_) (fun c_3 => ?_)
        · exact kx _ _ hP hD hS ls (lv_sub hl [0, 1] rfl)
        · exact absurd c_3 (by omega)
    | succ nn ih =>
      intro ps more S1 hnp H locs hP hD hS ls hl kx
      refine lv_iload_n hx hb dX2_findSuspects_4 rfl (lv_at hl 2 rfl) ?_
      refine hx_ifB (tgt := 26) hx hb dX2_findSuspects_5 (by decide) (fun c_4 => ?_) (fun c_4 => ?_)
      · have kx := kx
        rw [show fsF n hd fm rp rq nd nw bf L (nn + 1) more S1 = S1 from by simp only [fsF, c_4, ↓reduceIte, decide_true, decide_false, Bool.not_true, Bool.not_false, Bool.or_true, Bool.true_or, Bool.or_false, Bool.false_or, Bool.and_true, Bool.true_and, Bool.and_false, Bool.false_and, and_true, true_and, and_false, false_and, and_self, or_self, or_true, true_or, or_false, false_or, Bool.false_eq_true, Bool.true_eq_false, not_true_eq_false, not_false_eq_true, Bool.or_self, decide_eq_true_eq]] at kx
        exact kx _ _ hP hD hS ls (lv_sub hl [0, 1] rfl)
      · refine lv_iload_n hx hb dX2_findSuspects_8 rfl (lv_at hl 3 rfl) ?_
        refine lv_bipush (v := nI 126) hx hb dX2_findSuspects_9 (by decide) ?_
        refine hx_geN (tgt := 26) hx hb dX2_findSuspects_11 (by decide) (by omega) (by omega) (fun c_5 => ?_) (fun c_5 => ?_)
        · exact absurd c_5 (by omega)
        · refine lv_aload_n hx hb dX2_findSuspects_14 rfl (lv_at hl 0 rfl) ?_
          refine lv_iload_n hx hb dX2_findSuspects_15 rfl (lv_at hl 1 rfl) ?_
          refine hx_wri (va_runV (As := [.int (nI L)]) (rest := []) ⟨hx, hb, hml, hown, hts⟩ (c_X2_suspectOnce l dC dI a cA n hd fm rp rq nd nw bf S1 sI sO L (by omega) (by omega) H.size) (cwV 1 hts gX2_findSuspects_X2_suspectOnce rfl rfl rfl (by decide +kernel) ⟨Nat.le_of_ble_eq_true rfl, Nat.le_of_ble_eq_true rfl⟩) (wr_V nstW_ok hP hK hN hD 0 rfl rfl _) rfl rfl hl.1 rfl (lv_room (Nat.le_of_ble_eq_true rfl)) dX2_findSuspects_16 ⟨Nat.zero_le _, Nat.zero_le _⟩) hD hS hA (fun H locs hP hD hS => ?_)
          have hP : va_P (dC, dI) vwCl (vkW a cA n hd fm rp rq nd nw bf ((soF hd fm rp rq nd nw bf L n 0 S1 false).1) sI sO) H := hP
          have hD : va_D A (vkW a cA n hd fm rp rq nd nw bf ((soF hd fm rp rq nd nw bf L n 0 S1 false).1) sI sO) := hD
          refine lv_istore_n (lv' := [(2, .int (bI ((soF hd fm rp rq nd nw bf L n 0 S1 false).2))), (0, .ref (a 0)), (1, .int (nI L)), (3, .int (nI ps))]) hx hb dX2_findSuspects_19 rfl hl (by decide) rfl (fun ls hl => ?_)
          refine lv_iinc (v := nI (ps + 1)) (lv' := [(3, .int (nI (ps + 1))), (2, .int (bI ((soF hd fm rp rq nd nw bf L n 0 S1 false).2))), (0, .ref (a 0)), (1, .int (nI L))]) hx hb dX2_findSuspects_20 hl (k := 3) rfl (nI_add ps 1) (by decide) rfl (fun ls hl => ?_)
          refine lv_goto (tgt := 4) hx hb dX2_findSuspects_23 (by decide) ?_
          have kx := kx
          rw [show fsF n hd fm rp rq nd nw bf L (nn + 1) more S1 = fsF n hd fm rp rq nd nw bf L nn ((soF hd fm rp rq nd nw bf L n 0 S1 false).2) ((soF hd fm rp rq nd nw bf L n 0 S1 false).1) from by simp only [fsF, c_4, c_5, ↓reduceIte, decide_true, decide_false, Bool.not_true, Bool.not_false, Bool.or_true, Bool.true_or, Bool.or_false, Bool.false_or, Bool.and_true, Bool.true_and, Bool.and_false, Bool.false_and, and_true, true_and, and_false, false_and, and_self, or_self, or_true, true_or, or_false, false_or, Bool.false_eq_true, Bool.true_eq_false, not_true_eq_false, not_false_eq_true, Bool.or_self, decide_eq_true_eq]] at kx
          exact ih (ps + 1) ((soF hd fm rp rq nd nw bf L n 0 S1 false).2) ((soF hd fm rp rq nd nw bf L n 0 S1 false).1) (by omega) _ _ hP hD hS ls (lv_sub hl [2, 3, 1, 0] rfl) kx
  refine L_4_0 126 0 true su (by omega) _ _ hP hD hS ls (lv_sub hl [2, 3, 1, 0] rfl) (fun H locs hP hD hS ls hl => ?_)
  have hP : va_P (dC, dI) vwCl (vkW a cA n hd fm rp rq nd nw bf (fsF n hd fm rp rq nd nw bf L 126 true su) sI sO) H := hP
  have hD : va_D A (vkW a cA n hd fm rp rq nd nw bf (fsF n hd fm rp rq nd nw bf L 126 true su) sI sO) := hD
  have hl : lv_has ls 4 [(0, .ref (a 0)), (1, .int (nI L))] := hl
  have e9 : vkW a cA n hd fm rp rq nd nw bf (fsF n hd fm rp rq nd nw bf L 126 true su) sI sO = vkW a cA n hd fm rp rq nd nw bf (fsF n hd fm rp rq nd nw bf L 126 true su) sI sO := rfl
  rw [e9] at hP hD
  subst hAe
  exact W.vret hx hb hr (fun t ht hW => ⟨⟨(), rfl, trivial, by rw [ht]; exact hP, va_K.moved hW.alike hK, hD⟩, hS.F ht⟩) hS.2.2 dX2_findSuspects_26
set_option maxHeartbeats 4000000 in
set_option maxRecDepth 100000 in
theorem c_X2_takeOutDoubtful (l : Launch) (dC : Nat → ClassId) (dI : Nat → Nat → Nat) (a : Nat → Nat) (cA : Nat → ClassId) (n : Nat) (hd fm rp rq : Nat → Nat) (nd nw bf su sI sO : Nat → Int32) (L : Nat) (hy_0 : L < 8) : WrV l yX2_takeOutDoubtful wsX2_takeOutDoubtful ({ frames := 2, cells := 0, slots := 0, locals := 41 }) (dC, dI) vwCl (vkW a cA n hd fm rp rq nd nw bf su sI sO) (vkW a cA n hd fm rp rq nd (toF nd su L 5 2 nw) bf su sI sO) (vkT cA) nstW [.ref (a 0), .int (nI L)] := by
  intro sz
  refine Met.ofW (cc := cX2_takeOutDoubtful) (maxL := 3) (ret := none) (by decide) rfl ?_
  intro p e s m args below meth c s₁ B hml hv
  obtain ⟨rfl, hsz, ⟨hP, hK, hN⟩, hD0⟩ := hv
  subst hsz
  have hx := B.exec
  have hb := B.bytes
  have hr := B.returns
  have hts := atoms_spec (ws := wsX2_takeOutDoubtful) B.pre
  have hown : s.vm.findClass RX2 = some m.cls := findClass_of_methodNamed B.named
  have hlocks := B.notSynchronized
  obtain ⟨A, hAe⟩ : ∃ A, A = va_A (vkW a cA n hd fm rp rq nd nw bf su sI sO) s.heap.size := ⟨_, rfl⟩
  have hD : va_D A (vkW a cA n hd fm rp rq nd nw bf su sI sO) := by rw [hAe]; exact hD0.self (sz := s.heap.size)
  have hA : ∀ q : Nat, s.heap.size ≤ q → A q := fun q h => by rw [hAe]; exact Or.inr h
  have hS : va_S A s.heap s.heap [] := va_S.rf
  have hP : va_P (dC, dI) vwCl (vkW a cA n hd fm rp rq nd nw bf su sI sO) s.heap := hP
  have lf_10 := hts (.fieldLink RX2 10 "ViewKeeper" "book" "LViewKeeper$RuleBook;") (by decide +kernel)
  have in_X2 : ∀ w ∈ u_ws RX2 TX2 6, w ∈ wsX2_takeOutDoubtful := by decide +kernel
  have lf_16 := hts (.fieldLink RX2 16 "ViewKeeper" "now" "[I") (by decide +kernel)
  have lf_23 := hts (.fieldLink RX2 23 "ViewKeeper" "suspects" "[I") (by decide +kernel)
  have hl := lv_entry ([.ref (a 0), .int (nI L)]) (n := 3) (Nat.le_of_ble_eq_true rfl)
  rw [lg_entry_eq]
  generalize (lg_sl ([.ref (a 0), .int (nI L)]) ++ List.replicate (3 - (lg_sl ([.ref (a 0), .int (nI L)])).length) Slot.unset).toArray = ls at hl ⊢
  have hl : lv_has ls 3 [(0, .ref (a 0)), (1, .int (nI L))] := hl
  refine lv_iconst (v := nI 2) hx hb dX2_takeOutDoubtful_0 (by decide) ?_
  refine lv_istore_n (lv' := [(2, .int (nI 2)), (0, .ref (a 0)), (1, .int (nI L))]) hx hb dX2_takeOutDoubtful_1 rfl hl (by decide) rfl (fun ls hl => ?_)
  have L_2_0 : ∀ (nn : Nat) (v : Nat) (nw1 : Nat → Int32), v + nn = 7 → ∀ (H : Heap) (locs : List Loc), va_P (dC, dI) vwCl (vkW a cA n hd fm rp rq nd nw1 bf su sI sO) H → va_D A (vkW a cA n hd fm rp rq nd nw1 bf su sI sO) → va_S A s.heap H locs → ∀ ls : Array Slot, lv_has ls 3 [(0, .ref (a 0)), (1, .int (nI L)), (2, .int (nI v))] → (∀ (H : Heap) (locs : List Loc), va_P (dC, dI) vwCl (vkW a cA n hd fm rp rq nd (toF nd su L nn v nw1) bf su sI sO) H → va_D A (vkW a cA n hd fm rp rq nd (toF nd su L nn v nw1) bf su sI sO) → va_S A s.heap H locs → ∀ ls : Array Slot, lv_has ls 3 [(0, .ref (a 0)), (1, .int (nI L)), (2, .int (nI 7))] → W p l e (headSpec wsX2_takeOutDoubtful ({ frames := 2, cells := 0, slots := 0, locals := 41 })).room s m ([.ref (a 0), .int (nI L)] : List Value).toArray below meth c H locs 0 0 (MQ below (va_Qv (fun _ : Unit => True) (wrB (dC, dI) vwCl (vkW a cA n hd fm rp rq nd nw bf su sI sO) (vkW a cA n hd fm rp rq nd (toF nd su L 5 2 nw) bf su sI sO) (vkT cA) s.heap.size) (va_A (vkW a cA n hd fm rp rq nd nw bf su sI sO) s.heap.size)) ([.ref (a 0), .int (nI L)] : List Value).toArray s 0 0 (va_A (vkW a cA n hd fm rp rq nd nw bf su sI sO) s.heap.size)) (F0 m 63 ls [])) → W p l e (headSpec wsX2_takeOutDoubtful ({ frames := 2, cells := 0, slots := 0, locals := 41 })).room s m ([.ref (a 0), .int (nI L)] : List Value).toArray below meth c H locs 0 0 (MQ below (va_Qv (fun _ : Unit => True) (wrB (dC, dI) vwCl (vkW a cA n hd fm rp rq nd nw bf su sI sO) (vkW a cA n hd fm rp rq nd (toF nd su L 5 2 nw) bf su sI sO) (vkT cA) s.heap.size) (va_A (vkW a cA n hd fm rp rq nd nw bf su sI sO) s.heap.size)) ([.ref (a 0), .int (nI L)] : List Value).toArray s 0 0 (va_A (vkW a cA n hd fm rp rq nd nw bf su sI sO) s.heap.size)) (F0 m 2 ls []) := by
    intro nn
    induction nn with
    | zero =>
      intro v nw1 hnv H locs hP hD hS ls hl kx
      obtain rfl : v = 7 := by omega
      refine lv_iload_n hx hb dX2_takeOutDoubtful_2 rfl (lv_at hl 2 rfl) ?_
      refine lv_bipush (v := nI 7) hx hb dX2_takeOutDoubtful_3 (by decide) ?_
      refine hx_geN (tgt := 63) hx hb dX2_takeOutDoubtful_5 (by decide) (by omega) (by omega) (fun c_2 => ?_) (fun c_2 => ?_)
      · exact kx _ _ hP hD hS ls (lv_sub hl [0, 1, 2] rfl)
      · exact absurd c_2 (by omega)
    | succ nn ih =>
      intro v nw1 hnv H locs hP hD hS ls hl kx
      refine lv_iload_n hx hb dX2_takeOutDoubtful_2 rfl (lv_at hl 2 rfl) ?_
      refine lv_bipush (v := nI 7) hx hb dX2_takeOutDoubtful_3 (by decide) ?_
      refine hx_geN (tgt := 63) hx hb dX2_takeOutDoubtful_5 (by decide) (by omega) (by omega) (fun c_3 => ?_) (fun c_3 => ?_)
      · exact absurd c_3 (by omega)
      · refine lv_aload_n hx hb dX2_takeOutDoubtful_8 rfl (lv_at hl 0 rfl) ?_
        refine va_get (D := (dC, dI)) (ci := 2) (v := .ref (a 1)) (C := RX2) (T := TX2) (N := 6) hx hb hts in_X2 hown hK hP 0 rfl rfl 0 (by decide) lf_10 (fun _ h9 => h9) rfl dX2_takeOutDoubtful_9 ?_
        refine lv_iload_n hx hb dX2_takeOutDoubtful_12 rfl (lv_at hl 2 rfl) ?_
        refine hx_read (va_runVN (C := RX1) (As := [.int (nI v)]) (rest := []) ⟨hx, hb, hml, hown, hts⟩ (c_X1_layerOf l dC dI a cA n hd fm rp rq nd nw1 bf su sI sO v (by omega)) ⟨va_cnB 1 hts gX2_takeOutDoubtful_X1_layerOf_n133 rfl rfl rfl (hN (.methodLinkNest RX2 133 yX1_layerOf "ViewKeeper") (by decide +kernel)) (hts (.initialized RX1) (by decide +kernel)) (by decide +kernel) ⟨Nat.le_of_ble_eq_true rfl, Nat.le_of_ble_eq_true rfl⟩, hts (.instanceMethod yX1_layerOf) (by decide +kernel), hts (.selects RX1 yX1_layerOf yX1_layerOf) (by decide +kernel)⟩ (rd_V nstW_ok hP hK hN 1 rfl rfl _) rfl rfl hl.1 rfl (lv_room (Nat.le_of_ble_eq_true rfl)) dX2_takeOutDoubtful_13 ⟨Nat.zero_le _, Nat.zero_le _⟩) ?_
        have hc_4 := cntB_le (nd v ||| bm v) 32
        refine lv_iload_n hx hb dX2_takeOutDoubtful_16 rfl (lv_at hl 1 rfl) ?_
        refine hx_neN (tgt := 57) hx hb dX2_takeOutDoubtful_17 (by decide) (by omega) (by omega) (fun c_5 => ?_) (fun c_5 => ?_)
        · refine lv_iinc (v := nI (v + 1)) (lv' := [(2, .int (nI (v + 1))), (0, .ref (a 0)), (1, .int (nI L))]) hx hb dX2_takeOutDoubtful_57 hl (k := 2) rfl (nI_add v 1) (by decide) rfl (fun ls hl => ?_)
          refine lv_goto (tgt := 2) hx hb dX2_takeOutDoubtful_60 (by decide) ?_
          have kx := kx
          rw [show toF nd su L (nn + 1) v nw1 = toF nd su L nn (v + 1) nw1 from by simp only [toF, layM, c_3, c_5, ↓reduceIte, decide_true, decide_false, Bool.not_true, Bool.not_false, Bool.or_true, Bool.true_or, Bool.or_false, Bool.false_or, Bool.and_true, Bool.true_and, Bool.and_false, Bool.false_and, and_true, true_and, and_false, false_and, and_self, or_self, or_true, true_or, or_false, false_or, Bool.false_eq_true, Bool.true_eq_false, not_true_eq_false, not_false_eq_true, Bool.or_self, decide_eq_true_eq]] at kx
          exact ih (v + 1) nw1 (by omega) _ _ hP hD hS ls (lv_sub hl [1, 2, 0] rfl) kx
        · refine lv_aload_n hx hb dX2_takeOutDoubtful_20 rfl (lv_at hl 0 rfl) ?_
          refine va_get (D := (dC, dI)) (ci := 2) (v := .ref (a 4)) (C := RX2) (T := TX2) (N := 6) hx hb hts in_X2 hown hK hP 0 rfl rfl 1 (by decide) lf_16 (fun _ h9 => h9) rfl dX2_takeOutDoubtful_21 ?_
          refine lv_iload_n hx hb dX2_takeOutDoubtful_24 rfl (lv_at hl 2 rfl) ?_
          refine lv_aload_n hx hb dX2_takeOutDoubtful_25 rfl (lv_at hl 0 rfl) ?_
          refine va_get (D := (dC, dI)) (ci := 2) (v := .ref (a 1)) (C := RX2) (T := TX2) (N := 6) hx hb hts in_X2 hown hK hP 0 rfl rfl 0 (by decide) lf_10 (fun _ h9 => h9) rfl dX2_takeOutDoubtful_26 ?_
          refine lv_iload_n hx hb dX2_takeOutDoubtful_29 rfl (lv_at hl 2 rfl) ?_
          refine lv_iload_n hx hb dX2_takeOutDoubtful_30 rfl (lv_at hl 2 rfl) ?_
          refine hx_read (va_runVN (C := RX1) (As := [.int (nI v), .int (nI v)]) (rest := [.int (nI v), .ref (a 4)]) ⟨hx, hb, hml, hown, hts⟩ (c_X1_leadsTo l dC dI a cA n hd fm rp rq nd nw1 bf su sI sO v v (by omega) (by omega)) ⟨va_cnB 2 hts gX2_takeOutDoubtful_X1_leadsTo_n99 rfl rfl rfl (hN (.methodLinkNest RX2 99 yX1_leadsTo "ViewKeeper") (by decide +kernel)) (hts (.initialized RX1) (by decide +kernel)) (by decide +kernel) ⟨Nat.le_of_ble_eq_true rfl, Nat.le_of_ble_eq_true rfl⟩, hts (.instanceMethod yX1_leadsTo) (by decide +kernel), hts (.selects RX1 yX1_leadsTo yX1_leadsTo) (by decide +kernel)⟩ (rd_V nstW_ok hP hK hN 1 rfl rfl _) rfl rfl hl.1 rfl (lv_room (Nat.le_of_ble_eq_true rfl)) dX2_takeOutDoubtful_31 ⟨Nat.zero_le _, Nat.zero_le _⟩) ?_
          refine hx_ifB (tgt := 55) hx hb dX2_takeOutDoubtful_34 (by decide) (fun c_6 => ?_) (fun c_6 => ?_)
          · refine lv_iconst (v := nI 0) hx hb dX2_takeOutDoubtful_55 (by decide) ?_
            refine hx_iast hx hb hK hP hD hS 4 2 rfl rfl (by omega) (by omega) dX2_takeOutDoubtful_56 (fun H locs hP hD hS => ?_)
            have hP : va_P (dC, dI) vwCl (vkW a cA n hd fm rp rq nd (upd nw1 v (nI 0)) bf su sI sO) H := hP
            have hD : va_D A (vkW a cA n hd fm rp rq nd (upd nw1 v (nI 0)) bf su sI sO) := hD
            refine lv_iinc (v := nI (v + 1)) (lv' := [(2, .int (nI (v + 1))), (0, .ref (a 0)), (1, .int (nI L))]) hx hb dX2_takeOutDoubtful_57 hl (k := 2) rfl (nI_add v 1) (by decide) rfl (fun ls hl => ?_)
            refine lv_goto (tgt := 2) hx hb dX2_takeOutDoubtful_60 (by decide) ?_
            have kx := kx
            rw [show toF nd su L (nn + 1) v nw1 = toF nd su L nn (v + 1) (upd nw1 v (nI 0)) from by simp only [toF, layM, c_3, c_5, c_6, ↓reduceIte, decide_true, decide_false, Bool.not_true, Bool.not_false, Bool.or_true, Bool.true_or, Bool.or_false, Bool.false_or, Bool.and_true, Bool.true_and, Bool.and_false, Bool.false_and, and_true, true_and, and_false, false_and, and_self, or_self, or_true, true_or, or_false, false_or, Bool.false_eq_true, Bool.true_eq_false, not_true_eq_false, not_false_eq_true, Bool.or_self, decide_eq_true_eq]] at kx
            exact ih (v + 1) (upd nw1 v (nI 0)) (by omega) _ _ hP hD hS ls (lv_sub hl [1, 2, 0] rfl) kx
          · refine lv_aload_n hx hb dX2_takeOutDoubtful_37 rfl (lv_at hl 0 rfl) ?_
            refine va_get (D := (dC, dI)) (ci := 2) (v := .ref (a 4)) (C := RX2) (T := TX2) (N := 6) hx hb hts in_X2 hown hK hP 0 rfl rfl 1 (by decide) lf_16 (fun _ h9 => h9) rfl dX2_takeOutDoubtful_38 ?_
            refine lv_iload_n hx hb dX2_takeOutDoubtful_41 rfl (lv_at hl 2 rfl) ?_
            refine hx_iald hx hb hK hP 4 2 rfl rfl (by omega) (by omega) dX2_takeOutDoubtful_42 ?_
            refine lv_aload_n hx hb dX2_takeOutDoubtful_43 rfl (lv_at hl 0 rfl) ?_
            refine va_get (D := (dC, dI)) (ci := 2) (v := .ref (a 6)) (C := RX2) (T := TX2) (N := 6) hx hb hts in_X2 hown hK hP 0 rfl rfl 3 (by decide) lf_23 (fun _ h9 => h9) rfl dX2_takeOutDoubtful_44 ?_
            refine lv_iload_n hx hb dX2_takeOutDoubtful_47 rfl (lv_at hl 2 rfl) ?_
            refine hx_iald hx hb hK hP 6 4 rfl rfl (by omega) (by omega) dX2_takeOutDoubtful_48 ?_
            refine lv_iconst (v := (-1)) hx hb dX2_takeOutDoubtful_49 (by decide) ?_
            refine lv_ixor hx hb dX2_takeOutDoubtful_50 ?_
            refine lv_iand hx hb dX2_takeOutDoubtful_51 ?_
            refine lv_goto (tgt := 56) hx hb dX2_takeOutDoubtful_52 (by decide) ?_
            refine hx_iast hx hb hK hP hD hS 4 2 rfl rfl (by omega) (by omega) dX2_takeOutDoubtful_56 (fun H locs hP hD hS => ?_)
            have hP : va_P (dC, dI) vwCl (vkW a cA n hd fm rp rq nd (upd nw1 v ((nw1 v) &&& ((su v) ^^^ ((-1))))) bf su sI sO) H := hP
            have hD : va_D A (vkW a cA n hd fm rp rq nd (upd nw1 v ((nw1 v) &&& ((su v) ^^^ ((-1))))) bf su sI sO) := hD
            refine lv_iinc (v := nI (v + 1)) (lv' := [(2, .int (nI (v + 1))), (0, .ref (a 0)), (1, .int (nI L))]) hx hb dX2_takeOutDoubtful_57 hl (k := 2) rfl (nI_add v 1) (by decide) rfl (fun ls hl => ?_)
            refine lv_goto (tgt := 2) hx hb dX2_takeOutDoubtful_60 (by decide) ?_
            have kx := kx
            rw [show toF nd su L (nn + 1) v nw1 = toF nd su L nn (v + 1) (upd nw1 v ((nw1 v) &&& ((su v) ^^^ ((-1))))) from by simp only [toF, layM, c_3, c_5, c_6, ↓reduceIte, decide_true, decide_false, Bool.not_true, Bool.not_false, Bool.or_true, Bool.true_or, Bool.or_false, Bool.false_or, Bool.and_true, Bool.true_and, Bool.and_false, Bool.false_and, and_true, true_and, and_false, false_and, and_self, or_self, or_true, true_or, or_false, false_or, Bool.false_eq_true, Bool.true_eq_false, not_true_eq_false, not_false_eq_true, Bool.or_self, decide_eq_true_eq]] at kx
            exact ih (v + 1) (upd nw1 v ((nw1 v) &&& ((su v) ^^^ ((-1))))) (by omega) _ _ hP hD hS ls (lv_sub hl [1, 2, 0] rfl) kx
  refine L_2_0 5 2 nw (by omega) _ _ hP hD hS ls (lv_sub hl [1, 2, 0] rfl) (fun H locs hP hD hS ls hl => ?_)
  have hP : va_P (dC, dI) vwCl (vkW a cA n hd fm rp rq nd (toF nd su L 5 2 nw) bf su sI sO) H := hP
  have hD : va_D A (vkW a cA n hd fm rp rq nd (toF nd su L 5 2 nw) bf su sI sO) := hD
  have hl : lv_has ls 3 [(0, .ref (a 0)), (1, .int (nI L)), (2, .int (nI 7))] := hl
  have e9 : vkW a cA n hd fm rp rq nd (toF nd su L 5 2 nw) bf su sI sO = vkW a cA n hd fm rp rq nd (toF nd su L 5 2 nw) bf su sI sO := rfl
  rw [e9] at hP hD
  subst hAe
  exact W.vret hx hb hr (fun t ht hW => ⟨⟨(), rfl, trivial, by rw [ht]; exact hP, va_K.moved hW.alike hK, hD⟩, hS.F ht⟩) hS.2.2 dX2_takeOutDoubtful_63
set_option maxHeartbeats 4000000 in
set_option maxRecDepth 100000 in
theorem c_X2_fillOnce (l : Launch) (dC : Nat → ClassId) (dI : Nat → Nat → Nat) (a : Nat → Nat) (cA : Nat → ClassId) (n : Nat) (hd fm rp rq : Nat → Nat) (nd nw bf su sI sO : Nat → Int32) (L : Nat) (hy_0 : ruOk n hd fm rp rq) (hy_1 : L < 8) : WrI l yX2_fillOnce wsX2_fillOnce ({ frames := 3, cells := 0, slots := 0, locals := 67 }) (dC, dI) vwCl (vkW a cA n hd fm rp rq nd nw bf su sI sO) (vkW a cA n hd fm rp rq nd ((foF hd fm rp rq nd L n 0 nw false).1) bf su sI sO) (vkT cA) nstW [.ref (a 0), .int (nI L)] (bI ((foF hd fm rp rq nd L n 0 nw false).2)) := by
  intro sz
  refine Met.ofW (cc := cX2_fillOnce) (maxL := 6) (ret := (some .boolean)) (by decide) rfl ?_
  intro p e s m args below meth c s₁ B hml hv
  obtain ⟨rfl, hsz, ⟨hP, hK, hN⟩, hD0⟩ := hv
  subst hsz
  have hx := B.exec
  have hb := B.bytes
  have hr := B.returns
  have hts := atoms_spec (ws := wsX2_fillOnce) B.pre
  have hown : s.vm.findClass RX2 = some m.cls := findClass_of_methodNamed B.named
  have hlocks := B.notSynchronized
  obtain ⟨A, hAe⟩ : ∃ A, A = va_A (vkW a cA n hd fm rp rq nd nw bf su sI sO) s.heap.size := ⟨_, rfl⟩
  have hD : va_D A (vkW a cA n hd fm rp rq nd nw bf su sI sO) := by rw [hAe]; exact hD0.self (sz := s.heap.size)
  have hA : ∀ q : Nat, s.heap.size ≤ q → A q := fun q h => by rw [hAe]; exact Or.inr h
  have hS : va_S A s.heap s.heap [] := va_S.rf
  have hP : va_P (dC, dI) vwCl (vkW a cA n hd fm rp rq nd nw bf su sI sO) s.heap := hP
  obtain ⟨hn12, hru⟩ := id hy_0
  have lf_10 := hts (.fieldLink RX2 10 "ViewKeeper" "book" "LViewKeeper$RuleBook;") (by decide +kernel)
  have in_X2 : ∀ w ∈ u_ws RX2 TX2 6, w ∈ wsX2_fillOnce := by decide +kernel
  have lf_39 : (Cond.fieldLinkNest RX2 39 "ViewKeeper$RuleBook" "made" "I" "ViewKeeper").before ([.ref (a 0), .int (nI L)] : List Value).toArray s = true := va_Nw.use rfl (hN _ (by decide +kernel))
  have in_X1 : ∀ w ∈ u_ws RX1 TX1 3, w ∈ wsX2_fillOnce := by decide +kernel
  have lf_103 : (Cond.fieldLinkNest RX2 103 "ViewKeeper$RuleBook" "rows" "[LViewKeeper$Rule;" "ViewKeeper").before ([.ref (a 0), .int (nI L)] : List Value).toArray s = true := va_Nw.use rfl (hN _ (by decide +kernel))
  have lf_107 : (Cond.fieldLinkNest RX2 107 "ViewKeeper$Rule" "head" "I" "ViewKeeper").before ([.ref (a 0), .int (nI L)] : List Value).toArray s = true := va_Nw.use rfl (hN _ (by decide +kernel))
  have in_X0 : ∀ w ∈ u_ws RX0 TX0 4, w ∈ wsX2_fillOnce := by decide +kernel
  have lf_16 := hts (.fieldLink RX2 16 "ViewKeeper" "now" "[I") (by decide +kernel)
  have hl := lv_entry ([.ref (a 0), .int (nI L)]) (n := 6) (Nat.le_of_ble_eq_true rfl)
  rw [lg_entry_eq]
  generalize (lg_sl ([.ref (a 0), .int (nI L)]) ++ List.replicate (6 - (lg_sl ([.ref (a 0), .int (nI L)])).length) Slot.unset).toArray = ls at hl ⊢
  have hl : lv_has ls 6 [(0, .ref (a 0)), (1, .int (nI L))] := hl
  refine lv_iconst (v := nI 0) hx hb dX2_fillOnce_0 (by decide) ?_
  refine lv_istore_n (lv' := [(2, .int (nI 0)), (0, .ref (a 0)), (1, .int (nI L))]) hx hb dX2_fillOnce_1 rfl hl (by decide) rfl (fun ls hl => ?_)
  refine lv_iconst (v := nI 0) hx hb dX2_fillOnce_2 (by decide) ?_
  refine lv_istore_n (lv' := [(3, .int (nI 0)), (2, .int (nI 0)), (0, .ref (a 0)), (1, .int (nI L))]) hx hb dX2_fillOnce_3 rfl hl (by decide) rfl (fun ls hl => ?_)
  have L_4_0 : ∀ (nn : Nat) (i : Nat) (nw1 : Nat → Int32) (more : Bool), i + nn = n → ∀ (H : Heap) (locs : List Loc), va_P (dC, dI) vwCl (vkW a cA n hd fm rp rq nd nw1 bf su sI sO) H → va_D A (vkW a cA n hd fm rp rq nd nw1 bf su sI sO) → va_S A s.heap H locs → ∀ ls : Array Slot, lv_has ls 6 [(0, .ref (a 0)), (1, .int (nI L)), (2, .int (bI more)), (3, .int (nI i))] → (∀ (H : Heap) (locs : List Loc), va_P (dC, dI) vwCl (vkW a cA n hd fm rp rq nd ((foF hd fm rp rq nd L nn i nw1 more).1) bf su sI sO) H → va_D A (vkW a cA n hd fm rp rq nd ((foF hd fm rp rq nd L nn i nw1 more).1) bf su sI sO) → va_S A s.heap H locs → ∀ ls : Array Slot, lv_has ls 6 [(0, .ref (a 0)), (1, .int (nI L)), (2, .int (bI ((foF hd fm rp rq nd L nn i nw1 more).2))), (3, .int (nI n))] → W p l e (headSpec wsX2_fillOnce ({ frames := 3, cells := 0, slots := 0, locals := 67 })).room s m ([.ref (a 0), .int (nI L)] : List Value).toArray below meth c H locs 0 0 (MQ below (va_Qi (fun (r : Int32) (_ : Unit) => r = (bI ((foF hd fm rp rq nd L n 0 nw false).2))) (wrB (dC, dI) vwCl (vkW a cA n hd fm rp rq nd nw bf su sI sO) (vkW a cA n hd fm rp rq nd ((foF hd fm rp rq nd L n 0 nw false).1) bf su sI sO) (vkT cA) s.heap.size) (va_A (vkW a cA n hd fm rp rq nd nw bf su sI sO) s.heap.size)) ([.ref (a 0), .int (nI L)] : List Value).toArray s 0 0 (va_A (vkW a cA n hd fm rp rq nd nw bf su sI sO) s.heap.size)) (F0 m 102 ls [])) → W p l e (headSpec wsX2_fillOnce ({ frames := 3, cells := 0, slots := 0, locals := 67 })).room s m ([.ref (a 0), .int (nI L)] : List Value).toArray below meth c H locs 0 0 (MQ below (va_Qi (fun (r : Int32) (_ : Unit) => r = (bI ((foF hd fm rp rq nd L n 0 nw false).2))) (wrB (dC, dI) vwCl (vkW a cA n hd fm rp rq nd nw bf su sI sO) (vkW a cA n hd fm rp rq nd ((foF hd fm rp rq nd L n 0 nw false).1) bf su sI sO) (vkT cA) s.heap.size) (va_A (vkW a cA n hd fm rp rq nd nw bf su sI sO) s.heap.size)) ([.ref (a 0), .int (nI L)] : List Value).toArray s 0 0 (va_A (vkW a cA n hd fm rp rq nd nw bf su sI sO) s.heap.size)) (F0 m 4 ls []) := by
    intro nn
    induction nn with
    | zero =>
      intro i nw1 more hni H locs hP hD hS ls hl kx
      obtain rfl : n = i := by omega
      refine lv_iload_n hx hb dX2_fillOnce_4 rfl (lv_at hl 3 rfl) ?_
      refine lv_aload_n hx hb dX2_fillOnce_5 rfl (lv_at hl 0 rfl) ?_
      refine va_get (D := (dC, dI)) (ci := 2) (v := .ref (a 1)) (C := RX2) (T := TX2) (N := 6) hx hb hts in_X2 hown hK hP 0 rfl rfl 0 (by decide) lf_10 (fun _ h9 => h9) rfl dX2_fillOnce_6 ?_
      refine va_getN (D := (dC, dI)) (ci := 1) (v := .int (nI n)) (C := RX1) (T := TX1) (N := 3) hx hb hts in_X1 hown hK hP 1 rfl rfl 2 (by decide) lf_39 (fun _ h9 => h9) rfl dX2_fillOnce_9 ?_
      refine hx_geN (tgt := 102) hx hb dX2_fillOnce_12 (by decide) (by omega) (by omega) (fun c_2 => ?_) (fun c_2 => ?_)
      · exact kx _ _ hP hD hS ls (lv_sub hl [0, 1, 2, 3] rfl)
      · exact absurd c_2 (by omega)
    | succ nn ih =>
      intro i nw1 more hni H locs hP hD hS ls hl kx
      refine lv_iload_n hx hb dX2_fillOnce_4 rfl (lv_at hl 3 rfl) ?_
      refine lv_aload_n hx hb dX2_fillOnce_5 rfl (lv_at hl 0 rfl) ?_
      refine va_get (D := (dC, dI)) (ci := 2) (v := .ref (a 1)) (C := RX2) (T := TX2) (N := 6) hx hb hts in_X2 hown hK hP 0 rfl rfl 0 (by decide) lf_10 (fun _ h9 => h9) rfl dX2_fillOnce_6 ?_
      refine va_getN (D := (dC, dI)) (ci := 1) (v := .int (nI n)) (C := RX1) (T := TX1) (N := 3) hx hb hts in_X1 hown hK hP 1 rfl rfl 2 (by decide) lf_39 (fun _ h9 => h9) rfl dX2_fillOnce_9 ?_
      refine hx_geN (tgt := 102) hx hb dX2_fillOnce_12 (by decide) (by omega) (by omega) (fun c_3 => ?_) (fun c_3 => ?_)
      · exact absurd c_3 (by omega)
      · have hr9 := hru i (by omega)
        refine lv_aload_n hx hb dX2_fillOnce_15 rfl (lv_at hl 0 rfl) ?_
        refine va_get (D := (dC, dI)) (ci := 2) (v := .ref (a 1)) (C := RX2) (T := TX2) (N := 6) hx hb hts in_X2 hown hK hP 0 rfl rfl 0 (by decide) lf_10 (fun _ h9 => h9) rfl dX2_fillOnce_16 ?_
        refine va_getN (D := (dC, dI)) (ci := 1) (v := .ref (a 2)) (C := RX1) (T := TX1) (N := 3) hx hb hts in_X1 hown hK hP 1 rfl rfl 0 (by decide) lf_103 (fun _ h9 => h9) rfl dX2_fillOnce_19 ?_
        refine lv_iload_n hx hb dX2_fillOnce_22 rfl (lv_at hl 3 rfl) ?_
        refine hx_aald hx hb hK hP 2 0 rfl rfl (by omega) (by omega) dX2_fillOnce_23 ?_
        refine lv_astore (lv' := [(4, .ref (a (9 + i))), (0, .ref (a 0)), (1, .int (nI L)), (2, .int (bI more)), (3, .int (nI i))]) hx hb dX2_fillOnce_24 hl (by decide) rfl (fun ls hl => ?_)
        refine lv_aload_n hx hb dX2_fillOnce_26 rfl (lv_at hl 1 rfl) ?_
        refine va_get (D := (dC, dI)) (ci := 2) (v := .ref (a 1)) (C := RX2) (T := TX2) (N := 6) hx hb hts in_X2 hown hK hP 0 rfl rfl 0 (by decide) lf_10 (fun _ h9 => h9) rfl dX2_fillOnce_27 ?_
        refine lv_aload hx hb dX2_fillOnce_30 (lv_at hl 0 rfl) ?_
        refine va_getN (D := (dC, dI)) (ci := 0) (v := .int (nI (hd i))) (C := RX0) (T := TX0) (N := 4) hx hb hts in_X0 hown hK hP (9 + i) (vkW_rule (by omega)) rfl 0 (by decide) lf_107 (fun _ h9 => h9) rfl dX2_fillOnce_32 ?_
        refine hx_read (va_runVN (C := RX1) (As := [.int (nI (hd i))]) (rest := []) ⟨hx, hb, hml, hown, hts⟩ (c_X1_layerOf l dC dI a cA n hd fm rp rq nd nw1 bf su sI sO (hd i) (by omega)) ⟨va_cnB 1 hts gX2_fillOnce_X1_layerOf_n133 rfl rfl rfl (hN (.methodLinkNest RX2 133 yX1_layerOf "ViewKeeper") (by decide +kernel)) (hts (.initialized RX1) (by decide +kernel)) (by decide +kernel) ⟨Nat.le_of_ble_eq_true rfl, Nat.le_of_ble_eq_true rfl⟩, hts (.instanceMethod yX1_layerOf) (by decide +kernel), hts (.selects RX1 yX1_layerOf yX1_layerOf) (by decide +kernel)⟩ (rd_V nstW_ok hP hK hN 1 rfl rfl _) rfl rfl hl.1 rfl (lv_room (Nat.le_of_ble_eq_true rfl)) dX2_fillOnce_35 ⟨Nat.zero_le _, Nat.zero_le _⟩) ?_
        have hc_4 := cntB_le (nd (hd i) ||| bm (hd i)) 32
        refine lv_iload_n hx hb dX2_fillOnce_38 rfl (lv_at hl 2 rfl) ?_
        refine hx_neN (tgt := 96) hx hb dX2_fillOnce_39 (by decide) (by omega) (by omega) (fun c_5 => ?_) (fun c_5 => ?_)
        · refine lv_iinc (v := nI (i + 1)) (lv' := [(3, .int (nI (i + 1))), (4, .ref (a (9 + i))), (0, .ref (a 0)), (1, .int (nI L)), (2, .int (bI more))]) hx hb dX2_fillOnce_96 hl (k := 4) rfl (nI_add i 1) (by decide) rfl (fun ls hl => ?_)
          refine lv_goto (tgt := 4) hx hb dX2_fillOnce_99 (by decide) ?_
          have kx := kx
          rw [show (foF hd fm rp rq nd L (nn + 1) i nw1 more).1 = (foF hd fm rp rq nd L nn (i + 1) nw1 more).1 from by simp only [foF, layM, c_3, c_5, ↓reduceIte, decide_true, decide_false, Bool.not_true, Bool.not_false, Bool.or_true, Bool.true_or, Bool.or_false, Bool.false_or, Bool.and_true, Bool.true_and, Bool.and_false, Bool.false_and, and_true, true_and, and_false, false_and, and_self, or_self, or_true, true_or, or_false, false_or, Bool.false_eq_true, Bool.true_eq_false, not_true_eq_false, not_false_eq_true, Bool.or_self, decide_eq_true_eq]] at kx
          rw [show (foF hd fm rp rq nd L (nn + 1) i nw1 more).2 = (foF hd fm rp rq nd L nn (i + 1) nw1 more).2 from by simp only [foF, layM, c_3, c_5, ↓reduceIte, decide_true, decide_false, Bool.not_true, Bool.not_false, Bool.or_true, Bool.true_or, Bool.or_false, Bool.false_or, Bool.and_true, Bool.true_and, Bool.and_false, Bool.false_and, and_true, true_and, and_false, false_and, and_self, or_self, or_true, true_or, or_false, false_or, Bool.false_eq_true, Bool.true_eq_false, not_true_eq_false, not_false_eq_true, Bool.or_self, decide_eq_true_eq]] at kx
          exact ih (i + 1) nw1 more (by omega) _ _ hP hD hS ls (lv_sub hl [2, 3, 4, 0] rfl) kx
        · refine lv_aload hx hb dX2_fillOnce_42 (lv_at hl 0 rfl) ?_
          refine lv_aload_n hx hb dX2_fillOnce_44 rfl (lv_at hl 1 rfl) ?_
          refine va_get (D := (dC, dI)) (ci := 2) (v := .ref (a 4)) (C := RX2) (T := TX2) (N := 6) hx hb hts in_X2 hown hK hP 0 rfl rfl 1 (by decide) lf_16 (fun _ h9 => h9) rfl dX2_fillOnce_45 ?_
          refine hx_read (va_runVN (C := RX0) (As := [.ref (a 4)]) (rest := []) ⟨hx, hb, hml, hown, hts⟩ (c_X0_given l dC dI a cA n hd fm rp rq nd nw1 bf su sI sO i (by omega) (by omega) (by omega) (by omega)) ⟨va_cnB 1 hts gX2_fillOnce_X0_given_n161 rfl rfl rfl (hN (.methodLinkNest RX2 161 yX0_given "ViewKeeper") (by decide +kernel)) (hts (.initialized RX0) (by decide +kernel)) (by decide +kernel) ⟨Nat.le_of_ble_eq_true rfl, Nat.le_of_ble_eq_true rfl⟩, hts (.instanceMethod yX0_given) (by decide +kernel), hts (.selects RX0 yX0_given yX0_given) (by decide +kernel)⟩ (rd_V nstW_ok hP hK hN (9 + i) (vkW_rule (by omega)) rfl _) rfl rfl hl.1 rfl (lv_room (Nat.le_of_ble_eq_true rfl)) dX2_fillOnce_48 ⟨Nat.zero_le _, Nat.zero_le _⟩) ?_
          refine lv_aload_n hx hb dX2_fillOnce_51 rfl (lv_at hl 1 rfl) ?_
          refine va_get (D := (dC, dI)) (ci := 2) (v := .ref (a 4)) (C := RX2) (T := TX2) (N := 6) hx hb hts in_X2 hown hK hP 0 rfl rfl 1 (by decide) lf_16 (fun _ h9 => h9) rfl dX2_fillOnce_52 ?_
          refine lv_aload hx hb dX2_fillOnce_55 (lv_at hl 0 rfl) ?_
          refine va_getN (D := (dC, dI)) (ci := 0) (v := .int (nI (hd i))) (C := RX0) (T := TX0) (N := 4) hx hb hts in_X0 hown hK hP (9 + i) (vkW_rule (by omega)) rfl 0 (by decide) lf_107 (fun _ h9 => h9) rfl dX2_fillOnce_57 ?_
          refine hx_iald hx hb hK hP 4 2 rfl rfl (by omega) (by omega) dX2_fillOnce_60 ?_
          refine lv_iconst (v := (-1)) hx hb dX2_fillOnce_61 (by decide) ?_
          refine lv_ixor hx hb dX2_fillOnce_62 ?_
          refine lv_iand hx hb dX2_fillOnce_63 ?_
          refine lv_istore (lv' := [(5, .int ((givM (fm i) (nw1 (rp i)) (nw1 (rq i))) &&& ((nw1 (hd i)) ^^^ ((-1))))), (4, .ref (a (9 + i))), (0, .ref (a 0)), (1, .int (nI L)), (2, .int (bI more)), (3, .int (nI i))]) hx hb dX2_fillOnce_64 hl (by decide) rfl (fun ls hl => ?_)
          refine lv_aload_n hx hb dX2_fillOnce_66 rfl (lv_at hl 2 rfl) ?_
          refine va_get (D := (dC, dI)) (ci := 2) (v := .ref (a 4)) (C := RX2) (T := TX2) (N := 6) hx hb hts in_X2 hown hK hP 0 rfl rfl 1 (by decide) lf_16 (fun _ h9 => h9) rfl dX2_fillOnce_67 ?_
          refine lv_aload hx hb dX2_fillOnce_70 (lv_at hl 1 rfl) ?_
          refine va_getN (D := (dC, dI)) (ci := 0) (v := .int (nI (hd i))) (C := RX0) (T := TX0) (N := 4) hx hb hts in_X0 hown hK hP (9 + i) (vkW_rule (by omega)) rfl 0 (by decide) lf_107 (fun _ h9 => h9) rfl dX2_fillOnce_72 ?_
          refine lv_dup2_11 hx hb dX2_fillOnce_75 rfl rfl ?_
          refine hx_iald hx hb hK hP 4 2 rfl rfl (by omega) (by omega) dX2_fillOnce_76 ?_
          refine lv_iload hx hb dX2_fillOnce_77 (lv_at hl 0 rfl) ?_
          refine lv_ior hx hb dX2_fillOnce_79 ?_
          refine hx_iast hx hb hK hP hD hS 4 2 rfl rfl (by omega) (by omega) dX2_fillOnce_80 (fun H locs hP hD hS => ?_)
          have hP : va_P (dC, dI) vwCl (vkW a cA n hd fm rp rq nd (upd nw1 (hd i) ((nw1 (hd i)) ||| ((givM (fm i) (nw1 (rp i)) (nw1 (rq i))) &&& ((nw1 (hd i)) ^^^ ((-1)))))) bf su sI sO) H := hP
          have hD : va_D A (vkW a cA n hd fm rp rq nd (upd nw1 (hd i) ((nw1 (hd i)) ||| ((givM (fm i) (nw1 (rp i)) (nw1 (rq i))) &&& ((nw1 (hd i)) ^^^ ((-1)))))) bf su sI sO) := hD
          refine lv_iload_n hx hb dX2_fillOnce_81 rfl (lv_at hl 4 rfl) ?_
          refine hx_ifnB (tgt := 90) hx hb dX2_fillOnce_82 (by decide) (fun c_6 => ?_) (fun c_6 => ?_)
          · refine lv_iconst (v := nI 1) hx hb dX2_fillOnce_90 (by decide) ?_
            refine lv_goto (tgt := 95) hx hb dX2_fillOnce_91 (by decide) ?_
            refine lv_istore_n (lv' := [(2, .int (nI 1)), (5, .int ((givM (fm i) (nw1 (rp i)) (nw1 (rq i))) &&& ((nw1 (hd i)) ^^^ ((-1))))), (4, .ref (a (9 + i))), (0, .ref (a 0)), (1, .int (nI L)), (3, .int (nI i))]) hx hb dX2_fillOnce_95 rfl hl (by decide) rfl (fun ls hl => ?_)
            refine lv_iinc (v := nI (i + 1)) (lv' := [(3, .int (nI (i + 1))), (2, .int (nI 1)), (5, .int ((givM (fm i) (nw1 (rp i)) (nw1 (rq i))) &&& ((nw1 (hd i)) ^^^ ((-1))))), (4, .ref (a (9 + i))), (0, .ref (a 0)), (1, .int (nI L))]) hx hb dX2_fillOnce_96 hl (k := 5) rfl (nI_add i 1) (by decide) rfl (fun ls hl => ?_)
            refine lv_goto (tgt := 4) hx hb dX2_fillOnce_99 (by decide) ?_
            have kx := kx
            rw [show (foF hd fm rp rq nd L (nn + 1) i nw1 more).1 = (foF hd fm rp rq nd L nn (i + 1) (upd nw1 (hd i) ((nw1 (hd i)) ||| ((givM (fm i) (nw1 (rp i)) (nw1 (rq i))) &&& ((nw1 (hd i)) ^^^ ((-1)))))) true).1 from by simp only [foF, layM, c_3, c_5, c_6, ↓reduceIte, decide_true, decide_false, Bool.not_true, Bool.not_false, Bool.or_true, Bool.true_or, Bool.or_false, Bool.false_or, Bool.and_true, Bool.true_and, Bool.and_false, Bool.false_and, and_true, true_and, and_false, false_and, and_self, or_self, or_true, true_or, or_false, false_or, Bool.false_eq_true, Bool.true_eq_false, not_true_eq_false, not_false_eq_true, Bool.or_self, decide_eq_true_eq]] at kx
            rw [show (foF hd fm rp rq nd L (nn + 1) i nw1 more).2 = (foF hd fm rp rq nd L nn (i + 1) (upd nw1 (hd i) ((nw1 (hd i)) ||| ((givM (fm i) (nw1 (rp i)) (nw1 (rq i))) &&& ((nw1 (hd i)) ^^^ ((-1)))))) true).2 from by simp only [foF, layM, c_3, c_5, c_6, ↓reduceIte, decide_true, decide_false, Bool.not_true, Bool.not_false, Bool.or_true, Bool.true_or, Bool.or_false, Bool.false_or, Bool.and_true, Bool.true_and, Bool.and_false, Bool.false_and, and_true, true_and, and_false, false_and, and_self, or_self, or_true, true_or, or_false, false_or, Bool.false_eq_true, Bool.true_eq_false, not_true_eq_false, not_false_eq_true, Bool.or_self, decide_eq_true_eq]] at kx
            exact ih (i + 1) (upd nw1 (hd i) ((nw1 (hd i)) ||| ((givM (fm i) (nw1 (rp i)) (nw1 (rq i))) &&& ((nw1 (hd i)) ^^^ ((-1)))))) true (by omega) _ _ hP hD hS ls (lv_sub hl [4, 5, 1, 0] rfl) kx
          · refine lv_iload hx hb dX2_fillOnce_85 (lv_at hl 0 rfl) ?_
            refine lv_if_eq (tgt := 94) hx hb dX2_fillOnce_87 (by decide) (fun c_7 => ?_) (fun c_7 => ?_)
            · refine lv_iconst (v := nI 0) hx hb dX2_fillOnce_94 (by decide) ?_
              refine lv_istore_n (lv' := [(2, .int (nI 0)), (5, .int ((givM (fm i) (nw1 (rp i)) (nw1 (rq i))) &&& ((nw1 (hd i)) ^^^ ((-1))))), (4, .ref (a (9 + i))), (0, .ref (a 0)), (1, .int (nI L)), (3, .int (nI i))]) hx hb dX2_fillOnce_95 rfl hl (by decide) rfl (fun ls hl => ?_)
              refine lv_iinc (v := nI (i + 1)) (lv' := [(3, .int (nI (i + 1))), (2, .int (nI 0)), (5, .int ((givM (fm i) (nw1 (rp i)) (nw1 (rq i))) &&& ((nw1 (hd i)) ^^^ ((-1))))), (4, .ref (a (9 + i))), (0, .ref (a 0)), (1, .int (nI L))]) hx hb dX2_fillOnce_96 hl (k := 5) rfl (nI_add i 1) (by decide) rfl (fun ls hl => ?_)
              refine lv_goto (tgt := 4) hx hb dX2_fillOnce_99 (by decide) ?_
              have kx := kx
              rw [show (foF hd fm rp rq nd L (nn + 1) i nw1 more).1 = (foF hd fm rp rq nd L nn (i + 1) (upd nw1 (hd i) ((nw1 (hd i)) ||| ((givM (fm i) (nw1 (rp i)) (nw1 (rq i))) &&& ((nw1 (hd i)) ^^^ ((-1)))))) false).1 from by simp only [foF, layM, c_3, c_5, c_6, c_7, ↓reduceIte, decide_true, decide_false, Bool.not_true, Bool.not_false, Bool.or_true, Bool.true_or, Bool.or_false, Bool.false_or, Bool.and_true, Bool.true_and, Bool.and_false, Bool.false_and, and_true, true_and, and_false, false_and, and_self, or_self, or_true, true_or, or_false, false_or, Bool.false_eq_true, Bool.true_eq_false, not_true_eq_false, not_false_eq_true, Bool.or_self, decide_eq_true_eq]] at kx
              rw [show (foF hd fm rp rq nd L (nn + 1) i nw1 more).2 = (foF hd fm rp rq nd L nn (i + 1) (upd nw1 (hd i) ((nw1 (hd i)) ||| ((givM (fm i) (nw1 (rp i)) (nw1 (rq i))) &&& ((nw1 (hd i)) ^^^ ((-1)))))) false).2 from by simp only [foF, layM, c_3, c_5, c_6, c_7, ↓reduceIte, decide_true, decide_false, Bool.not_true, Bool.not_false, Bool.or_true, Bool.true_or, Bool.or_false, Bool.false_or, Bool.and_true, Bool.true_and, Bool.and_false, Bool.false_and, and_true, true_and, and_false, false_and, and_self, or_self, or_true, true_or, or_false, false_or, Bool.false_eq_true, Bool.true_eq_false, not_true_eq_false, not_false_eq_true, Bool.or_self, decide_eq_true_eq]] at kx
              exact ih (i + 1) (upd nw1 (hd i) ((nw1 (hd i)) ||| ((givM (fm i) (nw1 (rp i)) (nw1 (rq i))) &&& ((nw1 (hd i)) ^^^ ((-1)))))) false (by omega) _ _ hP hD hS ls (lv_sub hl [4, 5, 1, 0] rfl) kx
            · refine lv_iconst (v := nI 1) hx hb dX2_fillOnce_90 (by decide) ?_
              refine lv_goto (tgt := 95) hx hb dX2_fillOnce_91 (by decide) ?_
              refine lv_istore_n (lv' := [(2, .int (nI 1)), (5, .int ((givM (fm i) (nw1 (rp i)) (nw1 (rq i))) &&& ((nw1 (hd i)) ^^^ ((-1))))), (4, .ref (a (9 + i))), (0, .ref (a 0)), (1, .int (nI L)), (3, .int (nI i))]) hx hb dX2_fillOnce_95 rfl hl (by decide) rfl (fun ls hl => ?_)
              refine lv_iinc (v := nI (i + 1)) (lv' := [(3, .int (nI (i + 1))), (2, .int (nI 1)), (5, .int ((givM (fm i) (nw1 (rp i)) (nw1 (rq i))) &&& ((nw1 (hd i)) ^^^ ((-1))))), (4, .ref (a (9 + i))), (0, .ref (a 0)), (1, .int (nI L))]) hx hb dX2_fillOnce_96 hl (k := 5) rfl (nI_add i 1) (by decide) rfl (fun ls hl => ?_)
              refine lv_goto (tgt := 4) hx hb dX2_fillOnce_99 (by decide) ?_
              have kx := kx
              rw [show (foF hd fm rp rq nd L (nn + 1) i nw1 more).1 = (foF hd fm rp rq nd L nn (i + 1) (upd nw1 (hd i) ((nw1 (hd i)) ||| ((givM (fm i) (nw1 (rp i)) (nw1 (rq i))) &&& ((nw1 (hd i)) ^^^ ((-1)))))) true).1 from by simp only [foF, layM, c_3, c_5, c_6, c_7, ↓reduceIte, decide_true, decide_false, Bool.not_true, Bool.not_false, Bool.or_true, Bool.true_or, Bool.or_false, Bool.false_or, Bool.and_true, Bool.true_and, Bool.and_false, Bool.false_and, and_true, true_and, and_false, false_and, and_self, or_self, or_true, true_or, or_false, false_or, Bool.false_eq_true, Bool.true_eq_false, not_true_eq_false, not_false_eq_true, Bool.or_self, decide_eq_true_eq]] at kx
              rw [show (foF hd fm rp rq nd L (nn + 1) i nw1 more).2 = (foF hd fm rp rq nd L nn (i + 1) (upd nw1 (hd i) ((nw1 (hd i)) ||| ((givM (fm i) (nw1 (rp i)) (nw1 (rq i))) &&& ((nw1 (hd i)) ^^^ ((-1)))))) true).2 from by simp only [foF, layM, c_3, c_5, c_6, c_7, ↓reduceIte, decide_true, decide_false, Bool.not_true, Bool.not_false, Bool.or_true, Bool.true_or, Bool.or_false, Bool.false_or, Bool.and_true, Bool.true_and, Bool.and_false, Bool.false_and, and_true, true_and, and_false, false_and, and_self, or_self, or_true, true_or, or_false, false_or, Bool.false_eq_true, Bool.true_eq_false, not_true_eq_false, not_false_eq_true, Bool.or_self, decide_eq_true_eq]] at kx
              exact ih (i + 1) (upd nw1 (hd i) ((nw1 (hd i)) ||| ((givM (fm i) (nw1 (rp i)) (nw1 (rq i))) &&& ((nw1 (hd i)) ^^^ ((-1)))))) true (by omega) _ _ hP hD hS ls (lv_sub hl [4, 5, 1, 0] rfl) kx
  refine L_4_0 n 0 nw false (by omega) _ _ hP hD hS ls (lv_sub hl [2, 3, 1, 0] rfl) (fun H locs hP hD hS ls hl => ?_)
  have hP : va_P (dC, dI) vwCl (vkW a cA n hd fm rp rq nd ((foF hd fm rp rq nd L n 0 nw false).1) bf su sI sO) H := hP
  have hD : va_D A (vkW a cA n hd fm rp rq nd ((foF hd fm rp rq nd L n 0 nw false).1) bf su sI sO) := hD
  have hl : lv_has ls 6 [(0, .ref (a 0)), (1, .int (nI L)), (2, .int (bI ((foF hd fm rp rq nd L n 0 nw false).2))), (3, .int (nI n))] := hl
  refine lv_iload_n hx hb dX2_fillOnce_102 rfl (lv_at hl 2 rfl) ?_
  have e9 : vkW a cA n hd fm rp rq nd ((foF hd fm rp rq nd L n 0 nw false).1) bf su sI sO = vkW a cA n hd fm rp rq nd ((foF hd fm rp rq nd L n 0 nw false).1) bf su sI sO := rfl
  rw [e9] at hP hD
  subst hAe
  exact W.zret (v := bI ((foF hd fm rp rq nd L n 0 nw false).2)) hx hb hr (nar_bI _) (fun t ht hW => ⟨⟨_, (), rfl, rfl, by rw [ht]; exact hP, va_K.moved hW.alike hK, hD⟩, hS.F ht⟩) hS.2.2 dX2_fillOnce_103
set_option maxHeartbeats 4000000 in
set_option maxRecDepth 100000 in
theorem c_X2_fill (l : Launch) (dC : Nat → ClassId) (dI : Nat → Nat → Nat) (a : Nat → Nat) (cA : Nat → ClassId) (n : Nat) (hd fm rp rq : Nat → Nat) (nd nw bf su sI sO : Nat → Int32) (L : Nat) (hy_0 : ruOk n hd fm rp rq) (hy_1 : L < 8) : WrV l yX2_fill wsX2_fill ({ frames := 4, cells := 0, slots := 0, locals := 92 }) (dC, dI) vwCl (vkW a cA n hd fm rp rq nd nw bf su sI sO) (vkW a cA n hd fm rp rq nd (flF n hd fm rp rq nd L 126 true nw) bf su sI sO) (vkT cA) nstW [.ref (a 0), .int (nI L)] := by
  intro sz
  refine Met.ofW (cc := cX2_fill) (maxL := 4) (ret := none) (by decide) rfl ?_
  intro p e s m args below meth c s₁ B hml hv
  obtain ⟨rfl, hsz, ⟨hP, hK, hN⟩, hD0⟩ := hv
  subst hsz
  have hx := B.exec
  have hb := B.bytes
  have hr := B.returns
  have hts := atoms_spec (ws := wsX2_fill) B.pre
  have hown : s.vm.findClass RX2 = some m.cls := findClass_of_methodNamed B.named
  have hlocks := B.notSynchronized
  obtain ⟨A, hAe⟩ : ∃ A, A = va_A (vkW a cA n hd fm rp rq nd nw bf su sI sO) s.heap.size := ⟨_, rfl⟩
  have hD : va_D A (vkW a cA n hd fm rp rq nd nw bf su sI sO) := by rw [hAe]; exact hD0.self (sz := s.heap.size)
  have hA : ∀ q : Nat, s.heap.size ≤ q → A q := fun q h => by rw [hAe]; exact Or.inr h
  have hS : va_S A s.heap s.heap [] := va_S.rf
  have hP : va_P (dC, dI) vwCl (vkW a cA n hd fm rp rq nd nw bf su sI sO) s.heap := hP
  have hl := lv_entry ([.ref (a 0), .int (nI L)]) (n := 4) (Nat.le_of_ble_eq_true rfl)
  rw [lg_entry_eq]
  generalize (lg_sl ([.ref (a 0), .int (nI L)]) ++ List.replicate (4 - (lg_sl ([.ref (a 0), .int (nI L)])).length) Slot.unset).toArray = ls at hl ⊢
  have hl : lv_has ls 4 [(0, .ref (a 0)), (1, .int (nI L))] := hl
  refine lv_iconst (v := nI 1) hx hb dX2_fill_0 (by decide) ?_
  refine lv_istore_n (lv' := [(2, .int (nI 1)), (0, .ref (a 0)), (1, .int (nI L))]) hx hb dX2_fill_1 rfl hl (by decide) rfl (fun ls hl => ?_)
  refine lv_iconst (v := nI 0) hx hb dX2_fill_2 (by decide) ?_
  refine lv_istore_n (lv' := [(3, .int (nI 0)), (2, .int (nI 1)), (0, .ref (a 0)), (1, .int (nI L))]) hx hb dX2_fill_3 rfl hl (by decide) rfl (fun ls hl => ?_)
  have L_4_0 : ∀ (nn : Nat) (ps : Nat) (more : Bool) (S1 : Nat → Int32), ps + nn = 126 → ∀ (H : Heap) (locs : List Loc), va_P (dC, dI) vwCl (vkW a cA n hd fm rp rq nd S1 bf su sI sO) H → va_D A (vkW a cA n hd fm rp rq nd S1 bf su sI sO) → va_S A s.heap H locs → ∀ ls : Array Slot, lv_has ls 4 [(0, .ref (a 0)), (1, .int (nI L)), (2, .int (bI more)), (3, .int (nI ps))] → (∀ (H : Heap) (locs : List Loc), va_P (dC, dI) vwCl (vkW a cA n hd fm rp rq nd (flF n hd fm rp rq nd L nn more S1) bf su sI sO) H → va_D A (vkW a cA n hd fm rp rq nd (flF n hd fm rp rq nd L nn more S1) bf su sI sO) → va_S A s.heap H locs → ∀ ls : Array Slot, lv_has ls 4 [(0, .ref (a 0)), (1, .int (nI L))] → W p l e (headSpec wsX2_fill ({ frames := 4, cells := 0, slots := 0, locals := 92 })).room s m ([.ref (a 0), .int (nI L)] : List Value).toArray below meth c H locs 0 0 (MQ below (va_Qv (fun _ : Unit => True) (wrB (dC, dI) vwCl (vkW a cA n hd fm rp rq nd nw bf su sI sO) (vkW a cA n hd fm rp rq nd (flF n hd fm rp rq nd L 126 true nw) bf su sI sO) (vkT cA) s.heap.size) (va_A (vkW a cA n hd fm rp rq nd nw bf su sI sO) s.heap.size)) ([.ref (a 0), .int (nI L)] : List Value).toArray s 0 0 (va_A (vkW a cA n hd fm rp rq nd nw bf su sI sO) s.heap.size)) (F0 m 26 ls [])) → W p l e (headSpec wsX2_fill ({ frames := 4, cells := 0, slots := 0, locals := 92 })).room s m ([.ref (a 0), .int (nI L)] : List Value).toArray below meth c H locs 0 0 (MQ below (va_Qv (fun _ : Unit => True) (wrB (dC, dI) vwCl (vkW a cA n hd fm rp rq nd nw bf su sI sO) (vkW a cA n hd fm rp rq nd (flF n hd fm rp rq nd L 126 true nw) bf su sI sO) (vkT cA) s.heap.size) (va_A (vkW a cA n hd fm rp rq nd nw bf su sI sO) s.heap.size)) ([.ref (a 0), .int (nI L)] : List Value).toArray s 0 0 (va_A (vkW a cA n hd fm rp rq nd nw bf su sI sO) s.heap.size)) (F0 m 4 ls []) := by
    intro nn
    induction nn with
    | zero =>
      intro ps more S1 hnp H locs hP hD hS ls hl kx
      obtain rfl : ps = 126 := by omega
      refine lv_iload_n hx hb dX2_fill_4 rfl (lv_at hl 2 rfl) ?_
      refine hx_ifB (tgt := 26) hx hb dX2_fill_5 (by decide) (fun c_2 => ?_) (fun c_2 => ?_)
      · exact kx _ _ hP hD hS ls (lv_sub hl [0, 1] rfl)
      · refine lv_iload_n hx hb dX2_fill_8 rfl (lv_at hl 3 rfl) ?_
        refine lv_bipush (v := nI 126) hx hb dX2_fill_9 (by decide) ?_
        refine hx_geN (tgt := 26) hx hb dX2_fill_11 (by decide) (by omega) (by omega) (fun c_3 => ?_) (fun c_3 => ?_)
        · exact kx _ _ hP hD hS ls (lv_sub hl [0, 1] rfl)
        · exact absurd c_3 (by omega)
    | succ nn ih =>
      intro ps more S1 hnp H locs hP hD hS ls hl kx
      refine lv_iload_n hx hb dX2_fill_4 rfl (lv_at hl 2 rfl) ?_
      refine hx_ifB (tgt := 26) hx hb dX2_fill_5 (by decide) (fun c_4 => ?_) (fun c_4 => ?_)
      · have kx := kx
        rw [show flF n hd fm rp rq nd L (nn + 1) more S1 = S1 from by simp only [flF, c_4, ↓reduceIte, decide_true, decide_false, Bool.not_true, Bool.not_false, Bool.or_true, Bool.true_or, Bool.or_false, Bool.false_or, Bool.and_true, Bool.true_and, Bool.and_false, Bool.false_and, and_true, true_and, and_false, false_and, and_self, or_self, or_true, true_or, or_false, false_or, Bool.false_eq_true, Bool.true_eq_false, not_true_eq_false, not_false_eq_true, Bool.or_self, decide_eq_true_eq]] at kx
        exact kx _ _ hP hD hS ls (lv_sub hl [0, 1] rfl)
      · refine lv_iload_n hx hb dX2_fill_8 rfl (lv_at hl 3 rfl) ?_
        refine lv_bipush (v := nI 126) hx hb dX2_fill_9 (by decide) ?_
        refine hx_geN (tgt := 26) hx hb dX2_fill_11 (by decide) (by omega) (by omega) (fun c_5 => ?_) (fun c_5 => ?_)
        · exact absurd c_5 (by omega)
        · refine lv_aload_n hx hb dX2_fill_14 rfl (lv_at hl 0 rfl) ?_
          refine lv_iload_n hx hb dX2_fill_15 rfl (lv_at hl 1 rfl) ?_
          refine hx_wri (va_runV (As := [.int (nI L)]) (rest := []) ⟨hx, hb, hml, hown, hts⟩ (c_X2_fillOnce l dC dI a cA n hd fm rp rq nd S1 bf su sI sO L (by omega) (by omega) H.size) (cwV 1 hts gX2_fill_X2_fillOnce rfl rfl rfl (by decide +kernel) ⟨Nat.le_of_ble_eq_true rfl, Nat.le_of_ble_eq_true rfl⟩) (wr_V nstW_ok hP hK hN hD 0 rfl rfl _) rfl rfl hl.1 rfl (lv_room (Nat.le_of_ble_eq_true rfl)) dX2_fill_16 ⟨Nat.zero_le _, Nat.zero_le _⟩) hD hS hA (fun H locs hP hD hS => ?_)
          have hP : va_P (dC, dI) vwCl (vkW a cA n hd fm rp rq nd ((foF hd fm rp rq nd L n 0 S1 false).1) bf su sI sO) H := hP
          have hD : va_D A (vkW a cA n hd fm rp rq nd ((foF hd fm rp rq nd L n 0 S1 false).1) bf su sI sO) := hD
          refine lv_istore_n (lv' := [(2, .int (bI ((foF hd fm rp rq nd L n 0 S1 false).2))), (0, .ref (a 0)), (1, .int (nI L)), (3, .int (nI ps))]) hx hb dX2_fill_19 rfl hl (by decide) rfl (fun ls hl => ?_)
          refine lv_iinc (v := nI (ps + 1)) (lv' := [(3, .int (nI (ps + 1))), (2, .int (bI ((foF hd fm rp rq nd L n 0 S1 false).2))), (0, .ref (a 0)), (1, .int (nI L))]) hx hb dX2_fill_20 hl (k := 3) rfl (nI_add ps 1) (by decide) rfl (fun ls hl => ?_)
          refine lv_goto (tgt := 4) hx hb dX2_fill_23 (by decide) ?_
          have kx := kx
          rw [show flF n hd fm rp rq nd L (nn + 1) more S1 = flF n hd fm rp rq nd L nn ((foF hd fm rp rq nd L n 0 S1 false).2) ((foF hd fm rp rq nd L n 0 S1 false).1) from by simp only [flF, c_4, c_5, ↓reduceIte, decide_true, decide_false, Bool.not_true, Bool.not_false, Bool.or_true, Bool.true_or, Bool.or_false, Bool.false_or, Bool.and_true, Bool.true_and, Bool.and_false, Bool.false_and, and_true, true_and, and_false, false_and, and_self, or_self, or_true, true_or, or_false, false_or, Bool.false_eq_true, Bool.true_eq_false, not_true_eq_false, not_false_eq_true, Bool.or_self, decide_eq_true_eq]] at kx
          exact ih (ps + 1) ((foF hd fm rp rq nd L n 0 S1 false).2) ((foF hd fm rp rq nd L n 0 S1 false).1) (by omega) _ _ hP hD hS ls (lv_sub hl [2, 3, 1, 0] rfl) kx
  refine L_4_0 126 0 true nw (by omega) _ _ hP hD hS ls (lv_sub hl [2, 3, 1, 0] rfl) (fun H locs hP hD hS ls hl => ?_)
  have hP : va_P (dC, dI) vwCl (vkW a cA n hd fm rp rq nd (flF n hd fm rp rq nd L 126 true nw) bf su sI sO) H := hP
  have hD : va_D A (vkW a cA n hd fm rp rq nd (flF n hd fm rp rq nd L 126 true nw) bf su sI sO) := hD
  have hl : lv_has ls 4 [(0, .ref (a 0)), (1, .int (nI L))] := hl
  have e9 : vkW a cA n hd fm rp rq nd (flF n hd fm rp rq nd L 126 true nw) bf su sI sO = vkW a cA n hd fm rp rq nd (flF n hd fm rp rq nd L 126 true nw) bf su sI sO := rfl
  rw [e9] at hP hD
  subst hAe
  exact W.vret hx hb hr (fun t ht hW => ⟨⟨(), rfl, trivial, by rw [ht]; exact hP, va_K.moved hW.alike hK, hD⟩, hS.F ht⟩) hS.2.2 dX2_fill_26
set_option maxHeartbeats 4000000 in
set_option maxRecDepth 100000 in
theorem c_X2_forgetChanges (l : Launch) (dC : Nat → ClassId) (dI : Nat → Nat → Nat) (a : Nat → Nat) (cA : Nat → ClassId) (n : Nat) (hd fm rp rq : Nat → Nat) (nd nw bf su sI sO : Nat → Int32)  : WrV l yX2_forgetChanges wsX2_forgetChanges ({ frames := 1, cells := 0, slots := 0, locals := 40 }) (dC, dI) vwCl (vkW a cA n hd fm rp rq nd nw bf su sI sO) (vkW a cA n hd fm rp rq nd nw nw (fun _ => nI 0) sI sO) (vkT cA) nstW [.ref (a 0)] := by
  intro sz
  refine Met.ofW (cc := cX2_forgetChanges) (maxL := 1) (ret := none) (by decide) rfl ?_
  intro p e s m args below meth c s₁ B hml hv
  obtain ⟨rfl, hsz, ⟨hP, hK, hN⟩, hD0⟩ := hv
  subst hsz
  have hx := B.exec
  have hb := B.bytes
  have hr := B.returns
  have hts := atoms_spec (ws := wsX2_forgetChanges) B.pre
  have hown : s.vm.findClass RX2 = some m.cls := findClass_of_methodNamed B.named
  have hlocks := B.notSynchronized
  obtain ⟨A, hAe⟩ : ∃ A, A = va_A (vkW a cA n hd fm rp rq nd nw bf su sI sO) s.heap.size := ⟨_, rfl⟩
  have hD : va_D A (vkW a cA n hd fm rp rq nd nw bf su sI sO) := by rw [hAe]; exact hD0.self (sz := s.heap.size)
  have hA : ∀ q : Nat, s.heap.size ≤ q → A q := fun q h => by rw [hAe]; exact Or.inr h
  have hS : va_S A s.heap s.heap [] := va_S.rf
  have hP : va_P (dC, dI) vwCl (vkW a cA n hd fm rp rq nd nw bf su sI sO) s.heap := hP
  have lf_16 := hts (.fieldLink RX2 16 "ViewKeeper" "now" "[I") (by decide +kernel)
  have in_X2 : ∀ w ∈ u_ws RX2 TX2 6, w ∈ wsX2_forgetChanges := by decide +kernel
  have lf_20 := hts (.fieldLink RX2 20 "ViewKeeper" "before" "[I") (by decide +kernel)
  have lf_23 := hts (.fieldLink RX2 23 "ViewKeeper" "suspects" "[I") (by decide +kernel)
  have hl := lv_entry ([.ref (a 0)]) (n := 1) (Nat.le_of_ble_eq_true rfl)
  rw [lg_entry_eq]
  generalize (lg_sl ([.ref (a 0)]) ++ List.replicate (1 - (lg_sl ([.ref (a 0)])).length) Slot.unset).toArray = ls at hl ⊢
  have hl : lv_has ls 1 [(0, .ref (a 0))] := hl
  refine lv_aload_n hx hb dX2_forgetChanges_0 rfl (lv_at hl 0 rfl) ?_
  refine va_get (D := (dC, dI)) (ci := 2) (v := .ref (a 4)) (C := RX2) (T := TX2) (N := 6) hx hb hts in_X2 hown hK hP 0 rfl rfl 1 (by decide) lf_16 (fun _ h9 => h9) rfl dX2_forgetChanges_1 ?_
  refine lv_iconst (v := nI 0) hx hb dX2_forgetChanges_4 (by decide) ?_
  refine lv_aload_n hx hb dX2_forgetChanges_5 rfl (lv_at hl 0 rfl) ?_
  refine va_get (D := (dC, dI)) (ci := 2) (v := .ref (a 5)) (C := RX2) (T := TX2) (N := 6) hx hb hts in_X2 hown hK hP 0 rfl rfl 2 (by decide) lf_20 (fun _ h9 => h9) rfl dX2_forgetChanges_6 ?_
  refine lv_iconst (v := nI 0) hx hb dX2_forgetChanges_9 (by decide) ?_
  refine lv_bipush (v := nI 7) hx hb dX2_forgetChanges_10 (by decide) ?_
  refine hx_copy0 hx hb (hml.trans hl.1.symm) hown (hts (.methodLink RX2 119 arraycopyName) (by decide +kernel)) (hts (.native arraycopyName) (by decide +kernel)) (hts (.static arraycopyName) (by decide +kernel)) (hts (.initialized "java/lang/System") (by decide +kernel)) hK hP hD hS 4 5 2 3 rfl rfl rfl rfl (by omega) (Nat.le_of_ble_eq_true rfl) (by decide) dX2_forgetChanges_12 (fun H locs hP hD hS => ?_)
  have hP : va_P (dC, dI) vwCl (vkW a cA n hd fm rp rq nd nw nw su sI sO) H := hP
  have hD : va_D A (vkW a cA n hd fm rp rq nd nw nw su sI sO) := hD
  refine lv_aload_n hx hb dX2_forgetChanges_15 rfl (lv_at hl 0 rfl) ?_
  refine va_get (D := (dC, dI)) (ci := 2) (v := .ref (a 6)) (C := RX2) (T := TX2) (N := 6) hx hb hts in_X2 hown hK hP 0 rfl rfl 3 (by decide) lf_23 (fun _ h9 => h9) rfl dX2_forgetChanges_16 ?_
  refine lv_iconst (v := nI 0) hx hb dX2_forgetChanges_19 (by decide) ?_
  have hPc : va_P (dC, dI) vwCl (arW (a 6) (cA 6) 7 su) H := hP.sub [6] rfl
  have hDc : va_D A (arW (a 6) (cA 6) 7 su) := hD.sub [6] (by decide) rfl
  have hKc : va_K (dC, dI) vwCl [(cA 6, .int)] s := hK.sub [4] rfl
  refine hx_wrv1 (va_runS (As := [.ref (a 6), .int (nI 0)]) (rest := []) ⟨hx, hb, hml, hown, hts⟩ (c_J7_fill_53178 l dC dI (a 6) (cA 6) 7 su (nI 0) (by omega) H.size) (va_cwS 2 hts gX2_forgetChanges_J7_fill_53178 rfl rfl rfl (by decide +kernel) ⟨Nat.le_of_ble_eq_true rfl, Nat.le_of_ble_eq_true rfl⟩) (wr_S nstW_ok hPc hKc hN hDc _) rfl rfl hl.1 rfl (lv_room (Nat.le_of_ble_eq_true rfl)) dX2_forgetChanges_20 ⟨Nat.zero_le _, Nat.zero_le _⟩) 6 hP rfl hD hS hA (fun H locs hP hD hS => ?_)
  have hP : va_P (dC, dI) vwCl (vkW a cA n hd fm rp rq nd nw nw (fun _ => nI 0) sI sO) H := hP
  have hD : va_D A (vkW a cA n hd fm rp rq nd nw nw (fun _ => nI 0) sI sO) := hD
  have e9 : vkW a cA n hd fm rp rq nd nw nw (fun _ => nI 0) sI sO = vkW a cA n hd fm rp rq nd nw nw (fun _ => nI 0) sI sO := rfl
  rw [e9] at hP hD
  subst hAe
  exact W.vret hx hb hr (fun t ht hW => ⟨⟨(), rfl, trivial, by rw [ht]; exact hP, va_K.moved hW.alike hK, hD⟩, hS.F ht⟩) hS.2.2 dX2_forgetChanges_23
set_option maxHeartbeats 4000000 in
set_option maxRecDepth 100000 in
theorem c_X2_clearStaged (l : Launch) (dC : Nat → ClassId) (dI : Nat → Nat → Nat) (a : Nat → Nat) (cA : Nat → ClassId) (n : Nat) (hd fm rp rq : Nat → Nat) (nd nw bf su sI sO : Nat → Int32)  : WrV l yX2_clearStaged wsX2_clearStaged ({ frames := 1, cells := 0, slots := 0, locals := 23 }) (dC, dI) vwCl (vkW a cA n hd fm rp rq nd nw bf su sI sO) (vkW a cA n hd fm rp rq nd nw bf su (fun _ => nI 0) (fun _ => nI 0)) (vkT cA) nstW [.ref (a 0)] := by
  intro sz
  refine Met.ofW (cc := cX2_clearStaged) (maxL := 1) (ret := none) (by decide) rfl ?_
  intro p e s m args below meth c s₁ B hml hv
  obtain ⟨rfl, hsz, ⟨hP, hK, hN⟩, hD0⟩ := hv
  subst hsz
  have hx := B.exec
  have hb := B.bytes
  have hr := B.returns
  have hts := atoms_spec (ws := wsX2_clearStaged) B.pre
  have hown : s.vm.findClass RX2 = some m.cls := findClass_of_methodNamed B.named
  have hlocks := B.notSynchronized
  obtain ⟨A, hAe⟩ : ∃ A, A = va_A (vkW a cA n hd fm rp rq nd nw bf su sI sO) s.heap.size := ⟨_, rfl⟩
  have hD : va_D A (vkW a cA n hd fm rp rq nd nw bf su sI sO) := by rw [hAe]; exact hD0.self (sz := s.heap.size)
  have hA : ∀ q : Nat, s.heap.size ≤ q → A q := fun q h => by rw [hAe]; exact Or.inr h
  have hS : va_S A s.heap s.heap [] := va_S.rf
  have hP : va_P (dC, dI) vwCl (vkW a cA n hd fm rp rq nd nw bf su sI sO) s.heap := hP
  have lf_26 := hts (.fieldLink RX2 26 "ViewKeeper" "stagedIn" "[I") (by decide +kernel)
  have in_X2 : ∀ w ∈ u_ws RX2 TX2 6, w ∈ wsX2_clearStaged := by decide +kernel
  have lf_29 := hts (.fieldLink RX2 29 "ViewKeeper" "stagedOut" "[I") (by decide +kernel)
  have hl := lv_entry ([.ref (a 0)]) (n := 1) (Nat.le_of_ble_eq_true rfl)
  rw [lg_entry_eq]
  generalize (lg_sl ([.ref (a 0)]) ++ List.replicate (1 - (lg_sl ([.ref (a 0)])).length) Slot.unset).toArray = ls at hl ⊢
  have hl : lv_has ls 1 [(0, .ref (a 0))] := hl
  refine lv_aload_n hx hb dX2_clearStaged_0 rfl (lv_at hl 0 rfl) ?_
  refine va_get (D := (dC, dI)) (ci := 2) (v := .ref (a 7)) (C := RX2) (T := TX2) (N := 6) hx hb hts in_X2 hown hK hP 0 rfl rfl 4 (by decide) lf_26 (fun _ h9 => h9) rfl dX2_clearStaged_1 ?_
  refine lv_iconst (v := nI 0) hx hb dX2_clearStaged_4 (by decide) ?_
  have hPc : va_P (dC, dI) vwCl (arW (a 7) (cA 7) 2 sI) s.heap := hP.sub [7] rfl
  have hDc : va_D A (arW (a 7) (cA 7) 2 sI) := hD.sub [7] (by decide) rfl
  have hKc : va_K (dC, dI) vwCl [(cA 7, .int)] s := hK.sub [5] rfl
  refine hx_wrv1 (va_runS (As := [.ref (a 7), .int (nI 0)]) (rest := []) ⟨hx, hb, hml, hown, hts⟩ (c_J7_fill_53178 l dC dI (a 7) (cA 7) 2 sI (nI 0) (by omega) s.heap.size) (va_cwS 2 hts gX2_clearStaged_J7_fill_53178 rfl rfl rfl (by decide +kernel) ⟨Nat.le_of_ble_eq_true rfl, Nat.le_of_ble_eq_true rfl⟩) (wr_S nstW_ok hPc hKc hN hDc _) rfl rfl hl.1 rfl (lv_room (Nat.le_of_ble_eq_true rfl)) dX2_clearStaged_5 ⟨Nat.zero_le _, Nat.zero_le _⟩) 7 hP rfl hD hS hA (fun H locs hP hD hS => ?_)
  have hP : va_P (dC, dI) vwCl (vkW a cA n hd fm rp rq nd nw bf su (fun _ => nI 0) sO) H := hP
  have hD : va_D A (vkW a cA n hd fm rp rq nd nw bf su (fun _ => nI 0) sO) := hD
  refine lv_aload_n hx hb dX2_clearStaged_8 rfl (lv_at hl 0 rfl) ?_
  refine va_get (D := (dC, dI)) (ci := 2) (v := .ref (a 8)) (C := RX2) (T := TX2) (N := 6) hx hb hts in_X2 hown hK hP 0 rfl rfl 5 (by decide) lf_29 (fun _ h9 => h9) rfl dX2_clearStaged_9 ?_
  refine lv_iconst (v := nI 0) hx hb dX2_clearStaged_12 (by decide) ?_
  have hPc : va_P (dC, dI) vwCl (arW (a 8) (cA 8) 2 sO) H := hP.sub [8] rfl
  have hDc : va_D A (arW (a 8) (cA 8) 2 sO) := hD.sub [8] (by decide) rfl
  have hKc : va_K (dC, dI) vwCl [(cA 8, .int)] s := hK.sub [6] rfl
  refine hx_wrv1 (va_runS (As := [.ref (a 8), .int (nI 0)]) (rest := []) ⟨hx, hb, hml, hown, hts⟩ (c_J7_fill_53178 l dC dI (a 8) (cA 8) 2 sO (nI 0) (by omega) H.size) (va_cwS 2 hts gX2_clearStaged_J7_fill_53178 rfl rfl rfl (by decide +kernel) ⟨Nat.le_of_ble_eq_true rfl, Nat.le_of_ble_eq_true rfl⟩) (wr_S nstW_ok hPc hKc hN hDc _) rfl rfl hl.1 rfl (lv_room (Nat.le_of_ble_eq_true rfl)) dX2_clearStaged_13 ⟨Nat.zero_le _, Nat.zero_le _⟩) 8 hP rfl hD hS hA (fun H locs hP hD hS => ?_)
  have hP : va_P (dC, dI) vwCl (vkW a cA n hd fm rp rq nd nw bf su (fun _ => nI 0) (fun _ => nI 0)) H := hP
  have hD : va_D A (vkW a cA n hd fm rp rq nd nw bf su (fun _ => nI 0) (fun _ => nI 0)) := hD
  have e9 : vkW a cA n hd fm rp rq nd nw bf su (fun _ => nI 0) (fun _ => nI 0) = vkW a cA n hd fm rp rq nd nw bf su (fun _ => nI 0) (fun _ => nI 0) := rfl
  rw [e9] at hP hD
  subst hAe
  exact W.vret hx hb hr (fun t ht hW => ⟨⟨(), rfl, trivial, by rw [ht]; exact hP, va_K.moved hW.alike hK, hD⟩, hS.F ht⟩) hS.2.2 dX2_clearStaged_16
set_option maxHeartbeats 4000000 in
set_option maxRecDepth 100000 in
theorem c_X2_doStaged (l : Launch) (dC : Nat → ClassId) (dI : Nat → Nat → Nat) (a : Nat → Nat) (cA : Nat → ClassId) (n : Nat) (hd fm rp rq : Nat → Nat) (nd nw bf su sI sO : Nat → Int32)  : WrV l yX2_doStaged wsX2_doStaged ({ frames := 2, cells := 0, slots := 0, locals := 43 }) (dC, dI) vwCl (vkW a cA n hd fm rp rq nd nw bf su sI sO) (vkW a cA n hd fm rp rq nd (dsF sI sO 2 0 nw) bf su (fun _ => nI 0) (fun _ => nI 0)) (vkT cA) nstW [.ref (a 0)] := by
  intro sz
  refine Met.ofW (cc := cX2_doStaged) (maxL := 2) (ret := none) (by decide) rfl ?_
  intro p e s m args below meth c s₁ B hml hv
  obtain ⟨rfl, hsz, ⟨hP, hK, hN⟩, hD0⟩ := hv
  subst hsz
  have hx := B.exec
  have hb := B.bytes
  have hr := B.returns
  have hts := atoms_spec (ws := wsX2_doStaged) B.pre
  have hown : s.vm.findClass RX2 = some m.cls := findClass_of_methodNamed B.named
  have hlocks := B.notSynchronized
  obtain ⟨A, hAe⟩ : ∃ A, A = va_A (vkW a cA n hd fm rp rq nd nw bf su sI sO) s.heap.size := ⟨_, rfl⟩
  have hD : va_D A (vkW a cA n hd fm rp rq nd nw bf su sI sO) := by rw [hAe]; exact hD0.self (sz := s.heap.size)
  have hA : ∀ q : Nat, s.heap.size ≤ q → A q := fun q h => by rw [hAe]; exact Or.inr h
  have hS : va_S A s.heap s.heap [] := va_S.rf
  have hP : va_P (dC, dI) vwCl (vkW a cA n hd fm rp rq nd nw bf su sI sO) s.heap := hP
  have lf_16 := hts (.fieldLink RX2 16 "ViewKeeper" "now" "[I") (by decide +kernel)
  have in_X2 : ∀ w ∈ u_ws RX2 TX2 6, w ∈ wsX2_doStaged := by decide +kernel
  have lf_26 := hts (.fieldLink RX2 26 "ViewKeeper" "stagedIn" "[I") (by decide +kernel)
  have lf_29 := hts (.fieldLink RX2 29 "ViewKeeper" "stagedOut" "[I") (by decide +kernel)
  have hl := lv_entry ([.ref (a 0)]) (n := 2) (Nat.le_of_ble_eq_true rfl)
  rw [lg_entry_eq]
  generalize (lg_sl ([.ref (a 0)]) ++ List.replicate (2 - (lg_sl ([.ref (a 0)])).length) Slot.unset).toArray = ls at hl ⊢
  have hl : lv_has ls 2 [(0, .ref (a 0))] := hl
  refine lv_iconst (v := nI 0) hx hb dX2_doStaged_0 (by decide) ?_
  refine lv_istore_n (lv' := [(1, .int (nI 0)), (0, .ref (a 0))]) hx hb dX2_doStaged_1 rfl hl (by decide) rfl (fun ls hl => ?_)
  have L_2_0 : ∀ (nn : Nat) (r : Nat) (nw1 : Nat → Int32), r + nn = 2 → ∀ (H : Heap) (locs : List Loc), va_P (dC, dI) vwCl (vkW a cA n hd fm rp rq nd nw1 bf su sI sO) H → va_D A (vkW a cA n hd fm rp rq nd nw1 bf su sI sO) → va_S A s.heap H locs → ∀ ls : Array Slot, lv_has ls 2 [(0, .ref (a 0)), (1, .int (nI r))] → (∀ (H : Heap) (locs : List Loc), va_P (dC, dI) vwCl (vkW a cA n hd fm rp rq nd (dsF sI sO nn r nw1) bf su sI sO) H → va_D A (vkW a cA n hd fm rp rq nd (dsF sI sO nn r nw1) bf su sI sO) → va_S A s.heap H locs → ∀ ls : Array Slot, lv_has ls 2 [(0, .ref (a 0)), (1, .int (nI 2))] → W p l e (headSpec wsX2_doStaged ({ frames := 2, cells := 0, slots := 0, locals := 43 })).room s m ([.ref (a 0)] : List Value).toArray below meth c H locs 0 0 (MQ below (va_Qv (fun _ : Unit => True) (wrB (dC, dI) vwCl (vkW a cA n hd fm rp rq nd nw bf su sI sO) (vkW a cA n hd fm rp rq nd (dsF sI sO 2 0 nw) bf su (fun _ => nI 0) (fun _ => nI 0)) (vkT cA) s.heap.size) (va_A (vkW a cA n hd fm rp rq nd nw bf su sI sO) s.heap.size)) ([.ref (a 0)] : List Value).toArray s 0 0 (va_A (vkW a cA n hd fm rp rq nd nw bf su sI sO) s.heap.size)) (F0 m 41 ls [])) → W p l e (headSpec wsX2_doStaged ({ frames := 2, cells := 0, slots := 0, locals := 43 })).room s m ([.ref (a 0)] : List Value).toArray below meth c H locs 0 0 (MQ below (va_Qv (fun _ : Unit => True) (wrB (dC, dI) vwCl (vkW a cA n hd fm rp rq nd nw bf su sI sO) (vkW a cA n hd fm rp rq nd (dsF sI sO 2 0 nw) bf su (fun _ => nI 0) (fun _ => nI 0)) (vkT cA) s.heap.size) (va_A (vkW a cA n hd fm rp rq nd nw bf su sI sO) s.heap.size)) ([.ref (a 0)] : List Value).toArray s 0 0 (va_A (vkW a cA n hd fm rp rq nd nw bf su sI sO) s.heap.size)) (F0 m 2 ls []) := by
    intro nn
    induction nn with
    | zero =>
      intro r nw1 hnr H locs hP hD hS ls hl kx
      obtain rfl : r = 2 := by omega
      refine lv_iload_n hx hb dX2_doStaged_2 rfl (lv_at hl 1 rfl) ?_
      refine lv_iconst (v := nI 2) hx hb dX2_doStaged_3 (by decide) ?_
      refine hx_geN (tgt := 41) hx hb dX2_doStaged_4 (by decide) (by omega) (by omega) (fun c_2 => ?_) (fun c_2 => ?_)
      · exact kx _ _ hP hD hS ls (lv_sub hl [0, 1] rfl)
      · exact absurd c_2 (by omega)
    | succ nn ih =>
      intro r nw1 hnr H locs hP hD hS ls hl kx
      refine lv_iload_n hx hb dX2_doStaged_2 rfl (lv_at hl 1 rfl) ?_
      refine lv_iconst (v := nI 2) hx hb dX2_doStaged_3 (by decide) ?_
      refine hx_geN (tgt := 41) hx hb dX2_doStaged_4 (by decide) (by omega) (by omega) (fun c_3 => ?_) (fun c_3 => ?_)
      · exact absurd c_3 (by omega)
      · refine lv_aload_n hx hb dX2_doStaged_7 rfl (lv_at hl 0 rfl) ?_
        refine va_get (D := (dC, dI)) (ci := 2) (v := .ref (a 4)) (C := RX2) (T := TX2) (N := 6) hx hb hts in_X2 hown hK hP 0 rfl rfl 1 (by decide) lf_16 (fun _ h9 => h9) rfl dX2_doStaged_8 ?_
        refine lv_iload_n hx hb dX2_doStaged_11 rfl (lv_at hl 1 rfl) ?_
        refine lv_aload_n hx hb dX2_doStaged_12 rfl (lv_at hl 0 rfl) ?_
        refine va_get (D := (dC, dI)) (ci := 2) (v := .ref (a 4)) (C := RX2) (T := TX2) (N := 6) hx hb hts in_X2 hown hK hP 0 rfl rfl 1 (by decide) lf_16 (fun _ h9 => h9) rfl dX2_doStaged_13 ?_
        refine lv_iload_n hx hb dX2_doStaged_16 rfl (lv_at hl 1 rfl) ?_
        refine hx_iald hx hb hK hP 4 2 rfl rfl (by omega) (by omega) dX2_doStaged_17 ?_
        refine lv_aload_n hx hb dX2_doStaged_18 rfl (lv_at hl 0 rfl) ?_
        refine va_get (D := (dC, dI)) (ci := 2) (v := .ref (a 7)) (C := RX2) (T := TX2) (N := 6) hx hb hts in_X2 hown hK hP 0 rfl rfl 4 (by decide) lf_26 (fun _ h9 => h9) rfl dX2_doStaged_19 ?_
        refine lv_iload_n hx hb dX2_doStaged_22 rfl (lv_at hl 1 rfl) ?_
        refine hx_iald hx hb hK hP 7 5 rfl rfl (by omega) (by omega) dX2_doStaged_23 ?_
        refine lv_ior hx hb dX2_doStaged_24 ?_
        refine lv_aload_n hx hb dX2_doStaged_25 rfl (lv_at hl 0 rfl) ?_
        refine va_get (D := (dC, dI)) (ci := 2) (v := .ref (a 8)) (C := RX2) (T := TX2) (N := 6) hx hb hts in_X2 hown hK hP 0 rfl rfl 5 (by decide) lf_29 (fun _ h9 => h9) rfl dX2_doStaged_26 ?_
        refine lv_iload_n hx hb dX2_doStaged_29 rfl (lv_at hl 1 rfl) ?_
        refine hx_iald hx hb hK hP 8 6 rfl rfl (by omega) (by omega) dX2_doStaged_30 ?_
        refine lv_iconst (v := (-1)) hx hb dX2_doStaged_31 (by decide) ?_
        refine lv_ixor hx hb dX2_doStaged_32 ?_
        refine lv_iand hx hb dX2_doStaged_33 ?_
        refine hx_iast hx hb hK hP hD hS 4 2 rfl rfl (by omega) (by omega) dX2_doStaged_34 (fun H locs hP hD hS => ?_)
        have hP : va_P (dC, dI) vwCl (vkW a cA n hd fm rp rq nd (upd nw1 r (((nw1 r) ||| (sI r)) &&& ((sO r) ^^^ ((-1))))) bf su sI sO) H := hP
        have hD : va_D A (vkW a cA n hd fm rp rq nd (upd nw1 r (((nw1 r) ||| (sI r)) &&& ((sO r) ^^^ ((-1))))) bf su sI sO) := hD
        refine lv_iinc (v := nI (r + 1)) (lv' := [(1, .int (nI (r + 1))), (0, .ref (a 0))]) hx hb dX2_doStaged_35 hl (k := 1) rfl (nI_add r 1) (by decide) rfl (fun ls hl => ?_)
        refine lv_goto (tgt := 2) hx hb dX2_doStaged_38 (by decide) ?_
        have kx := kx
        rw [show dsF sI sO (nn + 1) r nw1 = dsF sI sO nn (r + 1) (upd nw1 r (((nw1 r) ||| (sI r)) &&& ((sO r) ^^^ ((-1))))) from rfl] at kx
        exact ih (r + 1) (upd nw1 r (((nw1 r) ||| (sI r)) &&& ((sO r) ^^^ ((-1))))) (by omega) _ _ hP hD hS ls (lv_sub hl [1, 0] rfl) kx
  refine L_2_0 2 0 nw (by omega) _ _ hP hD hS ls (lv_sub hl [1, 0] rfl) (fun H locs hP hD hS ls hl => ?_)
  have hP : va_P (dC, dI) vwCl (vkW a cA n hd fm rp rq nd (dsF sI sO 2 0 nw) bf su sI sO) H := hP
  have hD : va_D A (vkW a cA n hd fm rp rq nd (dsF sI sO 2 0 nw) bf su sI sO) := hD
  have hl : lv_has ls 2 [(0, .ref (a 0)), (1, .int (nI 2))] := hl
  refine lv_aload_n hx hb dX2_doStaged_41 rfl (lv_at hl 0 rfl) ?_
  refine hx_wrv (va_runV (As := []) (rest := []) ⟨hx, hb, hml, hown, hts⟩ (c_X2_clearStaged l dC dI a cA n hd fm rp rq nd (dsF sI sO 2 0 nw) bf su sI sO H.size) (cwV 0 hts gX2_doStaged_X2_clearStaged rfl rfl rfl (by decide +kernel) ⟨Nat.le_of_ble_eq_true rfl, Nat.le_of_ble_eq_true rfl⟩) (wr_V nstW_ok hP hK hN hD 0 rfl rfl _) rfl rfl hl.1 rfl (lv_room (Nat.le_of_ble_eq_true rfl)) dX2_doStaged_42 ⟨Nat.zero_le _, Nat.zero_le _⟩) hD hS hA (fun H locs hP hD hS => ?_)
  have hP : va_P (dC, dI) vwCl (vkW a cA n hd fm rp rq nd ((dsF sI sO 2 0 nw)) bf su (fun _ => nI 0) (fun _ => nI 0)) H := hP
  have hD : va_D A (vkW a cA n hd fm rp rq nd ((dsF sI sO 2 0 nw)) bf su (fun _ => nI 0) (fun _ => nI 0)) := hD
  have e9 : vkW a cA n hd fm rp rq nd ((dsF sI sO 2 0 nw)) bf su (fun _ => nI 0) (fun _ => nI 0) = vkW a cA n hd fm rp rq nd (dsF sI sO 2 0 nw) bf su (fun _ => nI 0) (fun _ => nI 0) := rfl
  rw [e9] at hP hD
  subst hAe
  exact W.vret hx hb hr (fun t ht hW => ⟨⟨(), rfl, trivial, by rw [ht]; exact hP, va_K.moved hW.alike hK, hD⟩, hS.F ht⟩) hS.2.2 dX2_doStaged_45
set_option maxHeartbeats 4000000 in
set_option maxRecDepth 100000 in
theorem c_X2_remakeViews (l : Launch) (dC : Nat → ClassId) (dI : Nat → Nat → Nat) (a : Nat → Nat) (cA : Nat → ClassId) (n : Nat) (hd fm rp rq : Nat → Nat) (nd nw bf su sI sO : Nat → Int32) (hy_0 : ruOk n hd fm rp rq) : WrV l yX2_remakeViews wsX2_remakeViews ({ frames := 5, cells := 0, slots := 0, locals := 115 }) (dC, dI) vwCl (vkW a cA n hd fm rp rq nd nw bf su sI sO) (vkW a cA n hd fm rp rq nd (rmM n hd fm rp rq nd nw) (rmM n hd fm rp rq nd nw) (fun _ => nI 0) sI sO) (vkT cA) nstW [.ref (a 0)] := by
  intro sz
  refine Met.ofW (cc := cX2_remakeViews) (maxL := 2) (ret := none) (by decide) rfl ?_
  intro p e s m args below meth c s₁ B hml hv
  obtain ⟨rfl, hsz, ⟨hP, hK, hN⟩, hD0⟩ := hv
  subst hsz
  have hx := B.exec
  have hb := B.bytes
  have hr := B.returns
  have hts := atoms_spec (ws := wsX2_remakeViews) B.pre
  have hown : s.vm.findClass RX2 = some m.cls := findClass_of_methodNamed B.named
  have hlocks := B.notSynchronized
  obtain ⟨A, hAe⟩ : ∃ A, A = va_A (vkW a cA n hd fm rp rq nd nw bf su sI sO) s.heap.size := ⟨_, rfl⟩
  have hD : va_D A (vkW a cA n hd fm rp rq nd nw bf su sI sO) := by rw [hAe]; exact hD0.self (sz := s.heap.size)
  have hA : ∀ q : Nat, s.heap.size ≤ q → A q := fun q h => by rw [hAe]; exact Or.inr h
  have hS : va_S A s.heap s.heap [] := va_S.rf
  have hP : va_P (dC, dI) vwCl (vkW a cA n hd fm rp rq nd nw bf su sI sO) s.heap := hP
  have lf_16 := hts (.fieldLink RX2 16 "ViewKeeper" "now" "[I") (by decide +kernel)
  have in_X2 : ∀ w ∈ u_ws RX2 TX2 6, w ∈ wsX2_remakeViews := by decide +kernel
  have hl := lv_entry ([.ref (a 0)]) (n := 2) (Nat.le_of_ble_eq_true rfl)
  rw [lg_entry_eq]
  generalize (lg_sl ([.ref (a 0)]) ++ List.replicate (2 - (lg_sl ([.ref (a 0)])).length) Slot.unset).toArray = ls at hl ⊢
  have hl : lv_has ls 2 [(0, .ref (a 0))] := hl
  refine lv_iconst (v := nI 2) hx hb dX2_remakeViews_0 (by decide) ?_
  refine lv_istore_n (lv' := [(1, .int (nI 2)), (0, .ref (a 0))]) hx hb dX2_remakeViews_1 rfl hl (by decide) rfl (fun ls hl => ?_)
  have L_2_0 : ∀ (nn : Nat) (v : Nat) (nw1 : Nat → Int32), v + nn = 7 → ∀ (H : Heap) (locs : List Loc), va_P (dC, dI) vwCl (vkW a cA n hd fm rp rq nd nw1 bf su sI sO) H → va_D A (vkW a cA n hd fm rp rq nd nw1 bf su sI sO) → va_S A s.heap H locs → ∀ ls : Array Slot, lv_has ls 2 [(0, .ref (a 0)), (1, .int (nI v))] → (∀ (H : Heap) (locs : List Loc), va_P (dC, dI) vwCl (vkW a cA n hd fm rp rq nd (zeF nn v nw1) bf su sI sO) H → va_D A (vkW a cA n hd fm rp rq nd (zeF nn v nw1) bf su sI sO) → va_S A s.heap H locs → ∀ ls : Array Slot, lv_has ls 2 [(0, .ref (a 0)), (1, .int (nI 7))] → W p l e (headSpec wsX2_remakeViews ({ frames := 5, cells := 0, slots := 0, locals := 115 })).room s m ([.ref (a 0)] : List Value).toArray below meth c H locs 0 0 (MQ below (va_Qv (fun _ : Unit => True) (wrB (dC, dI) vwCl (vkW a cA n hd fm rp rq nd nw bf su sI sO) (vkW a cA n hd fm rp rq nd (rmM n hd fm rp rq nd nw) (rmM n hd fm rp rq nd nw) (fun _ => nI 0) sI sO) (vkT cA) s.heap.size) (va_A (vkW a cA n hd fm rp rq nd nw bf su sI sO) s.heap.size)) ([.ref (a 0)] : List Value).toArray s 0 0 (va_A (vkW a cA n hd fm rp rq nd nw bf su sI sO) s.heap.size)) (F0 m 21 ls [])) → W p l e (headSpec wsX2_remakeViews ({ frames := 5, cells := 0, slots := 0, locals := 115 })).room s m ([.ref (a 0)] : List Value).toArray below meth c H locs 0 0 (MQ below (va_Qv (fun _ : Unit => True) (wrB (dC, dI) vwCl (vkW a cA n hd fm rp rq nd nw bf su sI sO) (vkW a cA n hd fm rp rq nd (rmM n hd fm rp rq nd nw) (rmM n hd fm rp rq nd nw) (fun _ => nI 0) sI sO) (vkT cA) s.heap.size) (va_A (vkW a cA n hd fm rp rq nd nw bf su sI sO) s.heap.size)) ([.ref (a 0)] : List Value).toArray s 0 0 (va_A (vkW a cA n hd fm rp rq nd nw bf su sI sO) s.heap.size)) (F0 m 2 ls []) := by
    intro nn
    induction nn with
    | zero =>
      intro v nw1 hnv H locs hP hD hS ls hl kx
      obtain rfl : v = 7 := by omega
      refine lv_iload_n hx hb dX2_remakeViews_2 rfl (lv_at hl 1 rfl) ?_
      refine lv_bipush (v := nI 7) hx hb dX2_remakeViews_3 (by decide) ?_
      refine hx_geN (tgt := 21) hx hb dX2_remakeViews_5 (by decide) (by omega) (by omega) (fun c_2 => ?_) (fun c_2 => ?_)
      · exact kx _ _ hP hD hS ls (lv_sub hl [0, 1] rfl)
      · exact absurd c_2 (by omega)
    | succ nn ih =>
      intro v nw1 hnv H locs hP hD hS ls hl kx
      refine lv_iload_n hx hb dX2_remakeViews_2 rfl (lv_at hl 1 rfl) ?_
      refine lv_bipush (v := nI 7) hx hb dX2_remakeViews_3 (by decide) ?_
      refine hx_geN (tgt := 21) hx hb dX2_remakeViews_5 (by decide) (by omega) (by omega) (fun c_3 => ?_) (fun c_3 => ?_)
      · exact absurd c_3 (by omega)
      · refine lv_aload_n hx hb dX2_remakeViews_8 rfl (lv_at hl 0 rfl) ?_
        refine va_get (D := (dC, dI)) (ci := 2) (v := .ref (a 4)) (C := RX2) (T := TX2) (N := 6) hx hb hts in_X2 hown hK hP 0 rfl rfl 1 (by decide) lf_16 (fun _ h9 => h9) rfl dX2_remakeViews_9 ?_
        refine lv_iload_n hx hb dX2_remakeViews_12 rfl (lv_at hl 1 rfl) ?_
        refine lv_iconst (v := nI 0) hx hb dX2_remakeViews_13 (by decide) ?_
        refine hx_iast hx hb hK hP hD hS 4 2 rfl rfl (by omega) (by omega) dX2_remakeViews_14 (fun H locs hP hD hS => ?_)
        have hP : va_P (dC, dI) vwCl (vkW a cA n hd fm rp rq nd (upd nw1 v (nI 0)) bf su sI sO) H := hP
        have hD : va_D A (vkW a cA n hd fm rp rq nd (upd nw1 v (nI 0)) bf su sI sO) := hD
        refine lv_iinc (v := nI (v + 1)) (lv' := [(1, .int (nI (v + 1))), (0, .ref (a 0))]) hx hb dX2_remakeViews_15 hl (k := 1) rfl (nI_add v 1) (by decide) rfl (fun ls hl => ?_)
        refine lv_goto (tgt := 2) hx hb dX2_remakeViews_18 (by decide) ?_
        have kx := kx
        rw [show zeF (nn + 1) v nw1 = zeF nn (v + 1) (upd nw1 v (nI 0)) from rfl] at kx
        exact ih (v + 1) (upd nw1 v (nI 0)) (by omega) _ _ hP hD hS ls (lv_sub hl [1, 0] rfl) kx
  refine L_2_0 5 2 nw (by omega) _ _ hP hD hS ls (lv_sub hl [1, 0] rfl) (fun H locs hP hD hS ls hl => ?_)
  have hP : va_P (dC, dI) vwCl (vkW a cA n hd fm rp rq nd (zeF 5 2 nw) bf su sI sO) H := hP
  have hD : va_D A (vkW a cA n hd fm rp rq nd (zeF 5 2 nw) bf su sI sO) := hD
  have hl : lv_has ls 2 [(0, .ref (a 0)), (1, .int (nI 7))] := hl
  refine lv_iconst (v := nI 1) hx hb dX2_remakeViews_21 (by decide) ?_
  refine lv_istore_n (lv' := [(1, .int (nI 1)), (0, .ref (a 0))]) hx hb dX2_remakeViews_22 rfl hl (by decide) rfl (fun ls hl => ?_)
  have L_23_3 : ∀ (nn : Nat) (L : Nat) (nw2 : Nat → Int32), L + nn = 8 → ∀ (H : Heap) (locs : List Loc), va_P (dC, dI) vwCl (vkW a cA n hd fm rp rq nd nw2 bf su sI sO) H → va_D A (vkW a cA n hd fm rp rq nd nw2 bf su sI sO) → va_S A s.heap H locs → ∀ ls : Array Slot, lv_has ls 2 [(0, .ref (a 0)), (1, .int (nI L))] → (∀ (H : Heap) (locs : List Loc), va_P (dC, dI) vwCl (vkW a cA n hd fm rp rq nd (laF n hd fm rp rq nd nn L nw2) bf su sI sO) H → va_D A (vkW a cA n hd fm rp rq nd (laF n hd fm rp rq nd nn L nw2) bf su sI sO) → va_S A s.heap H locs → ∀ ls : Array Slot, lv_has ls 2 [(0, .ref (a 0)), (1, .int (nI 8))] → W p l e (headSpec wsX2_remakeViews ({ frames := 5, cells := 0, slots := 0, locals := 115 })).room s m ([.ref (a 0)] : List Value).toArray below meth c H locs 0 0 (MQ below (va_Qv (fun _ : Unit => True) (wrB (dC, dI) vwCl (vkW a cA n hd fm rp rq nd nw bf su sI sO) (vkW a cA n hd fm rp rq nd (rmM n hd fm rp rq nd nw) (rmM n hd fm rp rq nd nw) (fun _ => nI 0) sI sO) (vkT cA) s.heap.size) (va_A (vkW a cA n hd fm rp rq nd nw bf su sI sO) s.heap.size)) ([.ref (a 0)] : List Value).toArray s 0 0 (va_A (vkW a cA n hd fm rp rq nd nw bf su sI sO) s.heap.size)) (F0 m 40 ls [])) → W p l e (headSpec wsX2_remakeViews ({ frames := 5, cells := 0, slots := 0, locals := 115 })).room s m ([.ref (a 0)] : List Value).toArray below meth c H locs 0 0 (MQ below (va_Qv (fun _ : Unit => True) (wrB (dC, dI) vwCl (vkW a cA n hd fm rp rq nd nw bf su sI sO) (vkW a cA n hd fm rp rq nd (rmM n hd fm rp rq nd nw) (rmM n hd fm rp rq nd nw) (fun _ => nI 0) sI sO) (vkT cA) s.heap.size) (va_A (vkW a cA n hd fm rp rq nd nw bf su sI sO) s.heap.size)) ([.ref (a 0)] : List Value).toArray s 0 0 (va_A (vkW a cA n hd fm rp rq nd nw bf su sI sO) s.heap.size)) (F0 m 23 ls []) := by
    intro nn
    induction nn with
    | zero =>
      intro L nw2 hnL H locs hP hD hS ls hl kx
      obtain rfl : L = 8 := by omega
      refine lv_iload_n hx hb dX2_remakeViews_23 rfl (lv_at hl 1 rfl) ?_
      refine lv_bipush (v := nI 7) hx hb dX2_remakeViews_24 (by decide) ?_
      refine hx_gtN (tgt := 40) hx hb dX2_remakeViews_26 (by decide) (by omega) (by omega) (fun c_5 => ?_) (fun c_5 => ?_)
      · exact kx _ _ hP hD hS ls (lv_sub hl [0, 1] rfl)
      · exact absurd c_5 (by omega)
    | succ nn ih =>
      intro L nw2 hnL H locs hP hD hS ls hl kx
      refine lv_iload_n hx hb dX2_remakeViews_23 rfl (lv_at hl 1 rfl) ?_
      refine lv_bipush (v := nI 7) hx hb dX2_remakeViews_24 (by decide) ?_
      refine hx_gtN (tgt := 40) hx hb dX2_remakeViews_26 (by decide) (by omega) (by omega) (fun c_6 => ?_) (fun c_6 => ?_)
      · exact absurd c_6 (by omega)
      · refine lv_aload_n hx hb dX2_remakeViews_29 rfl (lv_at hl 0 rfl) ?_
        refine lv_iload_n hx hb dX2_remakeViews_30 rfl (lv_at hl 1 rfl) ?_
        refine hx_wrv (va_runV (As := [.int (nI L)]) (rest := []) ⟨hx, hb, hml, hown, hts⟩ (c_X2_fill l dC dI a cA n hd fm rp rq nd nw2 bf su sI sO L (by omega) (by omega) H.size) (cwV 1 hts gX2_remakeViews_X2_fill rfl rfl rfl (by decide +kernel) ⟨Nat.le_of_ble_eq_true rfl, Nat.le_of_ble_eq_true rfl⟩) (wr_V nstW_ok hP hK hN hD 0 rfl rfl _) rfl rfl hl.1 rfl (lv_room (Nat.le_of_ble_eq_true rfl)) dX2_remakeViews_31 ⟨Nat.zero_le _, Nat.zero_le _⟩) hD hS hA (fun H locs hP hD hS => ?_)
        have hP : va_P (dC, dI) vwCl (vkW a cA n hd fm rp rq nd (flF n hd fm rp rq nd L 126 true nw2) bf su sI sO) H := hP
        have hD : va_D A (vkW a cA n hd fm rp rq nd (flF n hd fm rp rq nd L 126 true nw2) bf su sI sO) := hD
        refine lv_iinc (v := nI (L + 1)) (lv' := [(1, .int (nI (L + 1))), (0, .ref (a 0))]) hx hb dX2_remakeViews_34 hl (k := 1) rfl (nI_add L 1) (by decide) rfl (fun ls hl => ?_)
        refine lv_goto (tgt := 23) hx hb dX2_remakeViews_37 (by decide) ?_
        have kx := kx
        rw [show laF n hd fm rp rq nd (nn + 1) L nw2 = laF n hd fm rp rq nd nn (L + 1) (flF n hd fm rp rq nd L 126 true nw2) from rfl] at kx
        exact ih (L + 1) (flF n hd fm rp rq nd L 126 true nw2) (by omega) _ _ hP hD hS ls (lv_sub hl [1, 0] rfl) kx
  refine L_23_3 7 1 (zeF 5 2 nw) (by omega) _ _ hP hD hS ls (lv_sub hl [1, 0] rfl) (fun H locs hP hD hS ls hl => ?_)
  have hP : va_P (dC, dI) vwCl (vkW a cA n hd fm rp rq nd (laF n hd fm rp rq nd 7 1 (zeF 5 2 nw)) bf su sI sO) H := hP
  have hD : va_D A (vkW a cA n hd fm rp rq nd (laF n hd fm rp rq nd 7 1 (zeF 5 2 nw)) bf su sI sO) := hD
  have hl : lv_has ls 2 [(0, .ref (a 0)), (1, .int (nI 8))] := hl
  refine lv_aload_n hx hb dX2_remakeViews_40 rfl (lv_at hl 0 rfl) ?_
  refine hx_wrv (va_runV (As := []) (rest := []) ⟨hx, hb, hml, hown, hts⟩ (c_X2_forgetChanges l dC dI a cA n hd fm rp rq nd (laF n hd fm rp rq nd 7 1 (zeF 5 2 nw)) bf su sI sO H.size) (cwV 0 hts gX2_remakeViews_X2_forgetChanges rfl rfl rfl (by decide +kernel) ⟨Nat.le_of_ble_eq_true rfl, Nat.le_of_ble_eq_true rfl⟩) (wr_V nstW_ok hP hK hN hD 0 rfl rfl _) rfl rfl hl.1 rfl (lv_room (Nat.le_of_ble_eq_true rfl)) dX2_remakeViews_41 ⟨Nat.zero_le _, Nat.zero_le _⟩) hD hS hA (fun H locs hP hD hS => ?_)
  have hP : va_P (dC, dI) vwCl (vkW a cA n hd fm rp rq nd ((laF n hd fm rp rq nd 7 1 (zeF 5 2 nw))) ((laF n hd fm rp rq nd 7 1 (zeF 5 2 nw))) (fun _ => nI 0) sI sO) H := hP
  have hD : va_D A (vkW a cA n hd fm rp rq nd ((laF n hd fm rp rq nd 7 1 (zeF 5 2 nw))) ((laF n hd fm rp rq nd 7 1 (zeF 5 2 nw))) (fun _ => nI 0) sI sO) := hD
  have e9 : vkW a cA n hd fm rp rq nd ((laF n hd fm rp rq nd 7 1 (zeF 5 2 nw))) ((laF n hd fm rp rq nd 7 1 (zeF 5 2 nw))) (fun _ => nI 0) sI sO = vkW a cA n hd fm rp rq nd (rmM n hd fm rp rq nd nw) (rmM n hd fm rp rq nd nw) (fun _ => nI 0) sI sO := rfl
  rw [e9] at hP hD
  subst hAe
  exact W.vret hx hb hr (fun t ht hW => ⟨⟨(), rfl, trivial, by rw [ht]; exact hP, va_K.moved hW.alike hK, hD⟩, hS.F ht⟩) hS.2.2 dX2_remakeViews_44
end
section
/-! the keeper's face -/
theorem isRl_nI {r : Nat} (h : r < 7) : isRl (nI r) = true := by
  unfold isRl
  rw [decide_eq_false (nI_pos (by omega)), decide_eq_false (nI_ge h (by omega))]
  rfl
theorem isTh_nI {r : Nat} (h : r < 5) : isTh (nI r) = true := by
  unfold isTh
  rw [decide_eq_false (nI_pos (by omega)), decide_eq_false (nI_ge h (by omega))]
  rfl
theorem isVw_nI {r : Nat} (h2 : 2 ≤ r) (h : r < 7) : isVw (nI r) = true := by
  unfold isVw
  rw [decide_eq_false (nI_nlt h2 (by omega)), decide_eq_false (nI_ge h (by omega))]
  rfl
theorem isVw_f {r : Nat} (h : r < 2) : isVw (nI r) = false := by
  unfold isVw
  rw [decide_eq_true (nI_lt h (by omega))]
  rfl
theorem tab_out {x : Int32} (h : x < 0 ∨ nI 4 ≤ x) : x.toInt < 0 ∨ 3 < x.toInt := by
  rcases h with h | h
  · exact Or.inl (by simpa using Int32.lt_iff_toInt_lt.mp h)
  · have h1 := Int32.le_iff_toInt_le.mp h
    rw [nI_toInt (by omega)] at h1
    exact Or.inr (by omega)
def ruGood (h f p q : Int32) : Bool := isVw h && (!decide (f < 0) && (!decide (nI 4 < f) && (isRl p && isRl q)))
def stGood (r x y : Int32) : Bool := isRl r && (!isVw r && (isTh x && isTh y))
def prGood (r x y : Int32) : Bool := isRl r && (isTh x && isTh y)
def stI (b : Bool) (sI : Nat → Int32) (r k : Nat) : Nat → Int32 := upd sI r (if b = true then sI r ||| bm k else sI r &&& (bm k ^^^ (-1)))
def stO (b : Bool) (sO : Nat → Int32) (r k : Nat) : Nat → Int32 := upd sO r (if b = true then sO r &&& (bm k ^^^ (-1)) else sO r ||| bm k)
/-- the layers of a commit -/
def clF (n : Nat) (hd fm rp rq : Nat → Nat) (nd bf : Nat → Int32) : Nat → Nat → (Nat → Int32) → (Nat → Int32) → (Nat → Int32) × (Nat → Int32)
  | 0, _, nw, su => (nw, su)
  | k + 1, L, nw, su => clF n hd fm rp rq nd bf k (L + 1) (flF n hd fm rp rq nd L 126 true (toF nd (fsF n hd fm rp rq nd nw bf L 126 true su) L 5 2 nw)) (fsF n hd fm rp rq nd nw bf L 126 true su)
def cmW (n : Nat) (hd fm rp rq : Nat → Nat) (nd nw sI sO : Nat → Int32) : Nat → Int32 := (clF n hd fm rp rq nd nw 7 1 (dsF sI sO 2 0 nw) (fun _ => nI 0)).1
def cmS (n : Nat) (hd fm rp rq : Nat → Nat) (nd nw sI sO : Nat → Int32) : Nat → Int32 := (clF n hd fm rp rq nd nw 7 1 (dsF sI sO 2 0 nw) (fun _ => nI 0)).2
def cmF (nw bf : Nat → Int32) : Nat → Nat → Nat → Nat
  | 0, _, w => w
  | k + 1, r, w => cmF nw bf k (r + 1) (w + (cntB (putM nw bf r) 32 + cntB (takM nw bf r) 32))
def abF (sI sO : Nat → Int32) : Nat → Nat → Nat → Nat
  | 0, _, w => w
  | k + 1, r, w => abF sI sO k (r + 1) (w + (cntB (sI r) 32 + cntB (sO r) 32))
def couF (hd fm rp rq : Nat → Nat) (nw : Nat → Int32) (r x y : Nat) : Nat → Nat → Nat → Nat
  | 0, _, w => w
  | k + 1, i, w => couF hd fm rp rq nw r x y k (i + 1) (if hd i = r then w + insM (fm i) (nw (rp i)) (nw (rq i)) x y else w)
def chgM (nw bf su : Nat → Int32) (r w : Nat) : Nat := if w = 0 then cntB (putM nw bf r) 32 else if w = 1 then cntB (takM nw bf r) 32 else if w = 2 then cntB (su r) 32 else cntB (su r &&& nw r) 32
set_option maxHeartbeats 4000000 in
set_option maxRecDepth 100000 in
theorem c_X2_rule_b (l : Launch) (dC : Nat → ClassId) (dI : Nat → Nat → Nat) (a : Nat → Nat) (cA : Nat → ClassId) (n : Nat) (hd fm rp rq : Nat → Nat) (nd nw bf su sI sO : Nat → Int32) (h0 f0 p0 q0 : Int32) (hy_0 : ruGood h0 f0 p0 q0 = false) : WrI l yX2_rule wsX2_rule ({ frames := 6, cells := 0, slots := 0, locals := 136 }) (dC, dI) vwCl (vkW a cA n hd fm rp rq nd nw bf su sI sO) (vkW a cA n hd fm rp rq nd nw bf su sI sO) (vkT cA) nstW [.ref (a 0), .int (h0), .int (f0), .int (p0), .int (q0)] ((-1)) := by
  intro sz
  refine Met.ofW (cc := cX2_rule) (maxL := 5) (ret := (some .int)) (by decide) rfl ?_
  intro p e s m args below meth c s₁ B hml hv
  obtain ⟨rfl, hsz, ⟨hP, hK, hN⟩, hD0⟩ := hv
  subst hsz
  have hx := B.exec
  have hb := B.bytes
  have hr := B.returns
  have hts := atoms_spec (ws := wsX2_rule) B.pre
  have hown : s.vm.findClass RX2 = some m.cls := findClass_of_methodNamed B.named
  have hlocks := B.notSynchronized
  obtain ⟨A, hAe⟩ : ∃ A, A = va_A (vkW a cA n hd fm rp rq nd nw bf su sI sO) s.heap.size := ⟨_, rfl⟩
  have hD : va_D A (vkW a cA n hd fm rp rq nd nw bf su sI sO) := by rw [hAe]; exact hD0.self (sz := s.heap.size)
  have hA : ∀ q : Nat, s.heap.size ≤ q → A q := fun q h => by rw [hAe]; exact Or.inr h
  have hS : va_S A s.heap s.heap [] := va_S.rf
  have hP : va_P (dC, dI) vwCl (vkW a cA n hd fm rp rq nd nw bf su sI sO) s.heap := hP
  have lf_10 := hts (.fieldLink RX2 10 "ViewKeeper" "book" "LViewKeeper$RuleBook;") (by decide +kernel)
  have in_X2 : ∀ w ∈ u_ws RX2 TX2 6, w ∈ wsX2_rule := by decide +kernel
  have lf_39 : (Cond.fieldLinkNest RX2 39 "ViewKeeper$RuleBook" "made" "I" "ViewKeeper").before ([.ref (a 0), .int (h0), .int (f0), .int (p0), .int (q0)] : List Value).toArray s = true := va_Nw.use rfl (hN _ (by decide +kernel))
  have in_X1 : ∀ w ∈ u_ws RX1 TX1 3, w ∈ wsX2_rule := by decide +kernel
  have hl := lv_entry ([.ref (a 0), .int (h0), .int (f0), .int (p0), .int (q0)]) (n := 5) (Nat.le_of_ble_eq_true rfl)
  rw [lg_entry_eq]
  generalize (lg_sl ([.ref (a 0), .int (h0), .int (f0), .int (p0), .int (q0)]) ++ List.replicate (5 - (lg_sl ([.ref (a 0), .int (h0), .int (f0), .int (p0), .int (q0)])).length) Slot.unset).toArray = ls at hl ⊢
  have hl : lv_has ls 5 [(0, .ref (a 0)), (1, .int (h0)), (2, .int (f0)), (3, .int (p0)), (4, .int (q0))] := hl
  refine lv_iload_n hx hb dX2_rule_0 rfl (lv_at hl 1 rfl) ?_
  refine hx_read (va_runS (As := [.int (h0)]) (rest := []) ⟨hx, hb, hml, hown, hts⟩ (c_X2_isView l h0) (va_cwS 1 hts gX2_rule_X2_isView rfl rfl rfl (by decide +kernel) ⟨Nat.le_of_ble_eq_true rfl, Nat.le_of_ble_eq_true rfl⟩) (nu_S _) rfl rfl hl.1 rfl (lv_room (Nat.le_of_ble_eq_true rfl)) dX2_rule_1 ⟨Nat.zero_le _, Nat.zero_le _⟩) ?_
  refine hx_ifB (tgt := 31) hx hb dX2_rule_4 (by decide) (fun c_1 => ?_) (fun c_1 => ?_)
  · refine lv_iconst (v := (-1)) hx hb dX2_rule_31 (by decide) ?_
    have e9 : vkW a cA n hd fm rp rq nd nw bf su sI sO = vkW a cA n hd fm rp rq nd nw bf su sI sO := rfl
    rw [e9] at hP hD
    subst hAe
    exact W.iret (v := (-1)) hx hb hr (fun t ht hW => ⟨⟨_, (), rfl, rfl, by rw [ht]; exact hP, va_K.moved hW.alike hK, hD⟩, hS.F ht⟩) hS.2.2 dX2_rule_32
  · refine lv_iload_n hx hb dX2_rule_7 rfl (lv_at hl 2 rfl) ?_
    refine lv_if_lt (tgt := 31) hx hb dX2_rule_8 (by decide) (fun c_2 => ?_) (fun c_2 => ?_)
    · refine lv_iconst (v := (-1)) hx hb dX2_rule_31 (by decide) ?_
      have e9 : vkW a cA n hd fm rp rq nd nw bf su sI sO = vkW a cA n hd fm rp rq nd nw bf su sI sO := rfl
      rw [e9] at hP hD
      subst hAe
      exact W.iret (v := (-1)) hx hb hr (fun t ht hW => ⟨⟨_, (), rfl, rfl, by rw [ht]; exact hP, va_K.moved hW.alike hK, hD⟩, hS.F ht⟩) hS.2.2 dX2_rule_32
    · refine lv_iload_n hx hb dX2_rule_11 rfl (lv_at hl 2 rfl) ?_
      refine lv_iconst (v := nI 4) hx hb dX2_rule_12 (by decide) ?_
      refine lv_icmp_gt (tgt := 31) hx hb dX2_rule_13 (by decide) (fun c_3 => ?_) (fun c_3 => ?_)
      · refine lv_iconst (v := (-1)) hx hb dX2_rule_31 (by decide) ?_
        have e9 : vkW a cA n hd fm rp rq nd nw bf su sI sO = vkW a cA n hd fm rp rq nd nw bf su sI sO := rfl
        rw [e9] at hP hD
        subst hAe
        exact W.iret (v := (-1)) hx hb hr (fun t ht hW => ⟨⟨_, (), rfl, rfl, by rw [ht]; exact hP, va_K.moved hW.alike hK, hD⟩, hS.F ht⟩) hS.2.2 dX2_rule_32
      · refine lv_iload_n hx hb dX2_rule_16 rfl (lv_at hl 3 rfl) ?_
        refine hx_read (va_runS (As := [.int (p0)]) (rest := []) ⟨hx, hb, hml, hown, hts⟩ (c_X2_isRelation l p0) (va_cwS 1 hts gX2_rule_X2_isRelation rfl rfl rfl (by decide +kernel) ⟨Nat.le_of_ble_eq_true rfl, Nat.le_of_ble_eq_true rfl⟩) (nu_S _) rfl rfl hl.1 rfl (lv_room (Nat.le_of_ble_eq_true rfl)) dX2_rule_17 ⟨Nat.zero_le _, Nat.zero_le _⟩) ?_
        refine hx_ifB (tgt := 31) hx hb dX2_rule_20 (by decide) (fun c_4 => ?_) (fun c_4 => ?_)
        · refine lv_iconst (v := (-1)) hx hb dX2_rule_31 (by decide) ?_
          have e9 : vkW a cA n hd fm rp rq nd nw bf su sI sO = vkW a cA n hd fm rp rq nd nw bf su sI sO := rfl
          rw [e9] at hP hD
          subst hAe
          exact W.iret (v := (-1)) hx hb hr (fun t ht hW => ⟨⟨_, (), rfl, rfl, by rw [ht]; exact hP, va_K.moved hW.alike hK, hD⟩, hS.F ht⟩) hS.2.2 dX2_rule_32
        · refine lv_iload hx hb dX2_rule_23 (lv_at hl 4 rfl) ?_
          refine hx_read (va_runS (As := [.int (q0)]) (rest := []) ⟨hx, hb, hml, hown, hts⟩ (c_X2_isRelation l q0) (va_cwS 1 hts gX2_rule_X2_isRelation rfl rfl rfl (by decide +kernel) ⟨Nat.le_of_ble_eq_true rfl, Nat.le_of_ble_eq_true rfl⟩) (nu_S _) rfl rfl hl.1 rfl (lv_room (Nat.le_of_ble_eq_true rfl)) dX2_rule_25 ⟨Nat.zero_le _, Nat.zero_le _⟩) ?_
          refine hx_ifnB (tgt := 33) hx hb dX2_rule_28 (by decide) (fun c_5 => ?_) (fun c_5 => ?_)
          · exact absurd hy_0 (by simp [ruGood, c_1, c_2, c_3, c_4, c_5])
          · refine lv_iconst (v := (-1)) hx hb dX2_rule_31 (by decide) ?_
            have e9 : vkW a cA n hd fm rp rq nd nw bf su sI sO = vkW a cA n hd fm rp rq nd nw bf su sI sO := rfl
            rw [e9] at hP hD
            subst hAe
            exact W.iret (v := (-1)) hx hb hr (fun t ht hW => ⟨⟨_, (), rfl, rfl, by rw [ht]; exact hP, va_K.moved hW.alike hK, hD⟩, hS.F ht⟩) hS.2.2 dX2_rule_32
set_option maxHeartbeats 4000000 in
set_option maxRecDepth 100000 in
theorem c_X2_rule_f (l : Launch) (dC : Nat → ClassId) (dI : Nat → Nat → Nat) (a : Nat → Nat) (cA : Nat → ClassId) (n : Nat) (hd fm rp rq : Nat → Nat) (nd nw bf su sI sO : Nat → Int32) (vh vf vp vq : Nat) (hy_0 : ruOk n hd fm rp rq) (hy_1 : n = 12) (hy_2 : 2 ≤ vh ∧ vh < 7 ∧ vf ≤ 4 ∧ vp < 7 ∧ vq < 7) : WrI l yX2_rule wsX2_rule ({ frames := 6, cells := 0, slots := 0, locals := 136 }) (dC, dI) vwCl (vkW a cA n hd fm rp rq nd nw bf su sI sO) (vkW a cA n hd fm rp rq nd nw bf su sI sO) (vkT cA) nstW [.ref (a 0), .int (nI vh), .int (nI vf), .int (nI vp), .int (nI vq)] ((-2)) := by
  intro sz
  refine Met.ofW (cc := cX2_rule) (maxL := 5) (ret := (some .int)) (by decide) rfl ?_
  intro p e s m args below meth c s₁ B hml hv
  obtain ⟨rfl, hsz, ⟨hP, hK, hN⟩, hD0⟩ := hv
  subst hsz
  have hx := B.exec
  have hb := B.bytes
  have hr := B.returns
  have hts := atoms_spec (ws := wsX2_rule) B.pre
  have hown : s.vm.findClass RX2 = some m.cls := findClass_of_methodNamed B.named
  have hlocks := B.notSynchronized
  obtain ⟨A, hAe⟩ : ∃ A, A = va_A (vkW a cA n hd fm rp rq nd nw bf su sI sO) s.heap.size := ⟨_, rfl⟩
  have hD : va_D A (vkW a cA n hd fm rp rq nd nw bf su sI sO) := by rw [hAe]; exact hD0.self (sz := s.heap.size)
  have hA : ∀ q : Nat, s.heap.size ≤ q → A q := fun q h => by rw [hAe]; exact Or.inr h
  have hS : va_S A s.heap s.heap [] := va_S.rf
  have hP : va_P (dC, dI) vwCl (vkW a cA n hd fm rp rq nd nw bf su sI sO) s.heap := hP
  have kv : isVw (nI vh) = true := isVw_nI (by omega) (by omega)
  have kp : isRl (nI vp) = true := isRl_nI (by omega)
  have kq : isRl (nI vq) = true := isRl_nI (by omega)
  have lf_10 := hts (.fieldLink RX2 10 "ViewKeeper" "book" "LViewKeeper$RuleBook;") (by decide +kernel)
  have in_X2 : ∀ w ∈ u_ws RX2 TX2 6, w ∈ wsX2_rule := by decide +kernel
  have lf_39 : (Cond.fieldLinkNest RX2 39 "ViewKeeper$RuleBook" "made" "I" "ViewKeeper").before ([.ref (a 0), .int (nI vh), .int (nI vf), .int (nI vp), .int (nI vq)] : List Value).toArray s = true := va_Nw.use rfl (hN _ (by decide +kernel))
  have in_X1 : ∀ w ∈ u_ws RX1 TX1 3, w ∈ wsX2_rule := by decide +kernel
  have hl := lv_entry ([.ref (a 0), .int (nI vh), .int (nI vf), .int (nI vp), .int (nI vq)]) (n := 5) (Nat.le_of_ble_eq_true rfl)
  rw [lg_entry_eq]
  generalize (lg_sl ([.ref (a 0), .int (nI vh), .int (nI vf), .int (nI vp), .int (nI vq)]) ++ List.replicate (5 - (lg_sl ([.ref (a 0), .int (nI vh), .int (nI vf), .int (nI vp), .int (nI vq)])).length) Slot.unset).toArray = ls at hl ⊢
  have hl : lv_has ls 5 [(0, .ref (a 0)), (1, .int (nI vh)), (2, .int (nI vf)), (3, .int (nI vp)), (4, .int (nI vq))] := hl
  refine lv_iload_n hx hb dX2_rule_0 rfl (lv_at hl 1 rfl) ?_
  refine hx_read (va_runS (As := [.int (nI vh)]) (rest := []) ⟨hx, hb, hml, hown, hts⟩ (c_X2_isView l (nI vh)) (va_cwS 1 hts gX2_rule_X2_isView rfl rfl rfl (by decide +kernel) ⟨Nat.le_of_ble_eq_true rfl, Nat.le_of_ble_eq_true rfl⟩) (nu_S _) rfl rfl hl.1 rfl (lv_room (Nat.le_of_ble_eq_true rfl)) dX2_rule_1 ⟨Nat.zero_le _, Nat.zero_le _⟩) ?_
  refine hx_ifB (tgt := 31) hx hb dX2_rule_4 (by decide) (fun c_1 => ?_) (fun c_1 => ?_)
  · exact absurd (kv.symm.trans c_1) (by decide)
  · refine lv_iload_n hx hb dX2_rule_7 rfl (lv_at hl 2 rfl) ?_
    refine lv_if_lt (tgt := 31) hx hb dX2_rule_8 (by decide) (fun c_2 => ?_) (fun c_2 => ?_)
    · exact absurd c_2 (nI_pos (by omega))
    · refine lv_iload_n hx hb dX2_rule_11 rfl (lv_at hl 2 rfl) ?_
      refine lv_iconst (v := nI 4) hx hb dX2_rule_12 (by decide) ?_
      refine hx_gtN (tgt := 31) hx hb dX2_rule_13 (by decide) (by omega) (by omega) (fun c_3 => ?_) (fun c_3 => ?_)
      · exact absurd c_3 (by omega)
      · refine lv_iload_n hx hb dX2_rule_16 rfl (lv_at hl 3 rfl) ?_
        refine hx_read (va_runS (As := [.int (nI vp)]) (rest := []) ⟨hx, hb, hml, hown, hts⟩ (c_X2_isRelation l (nI vp)) (va_cwS 1 hts gX2_rule_X2_isRelation rfl rfl rfl (by decide +kernel) ⟨Nat.le_of_ble_eq_true rfl, Nat.le_of_ble_eq_true rfl⟩) (nu_S _) rfl rfl hl.1 rfl (lv_room (Nat.le_of_ble_eq_true rfl)) dX2_rule_17 ⟨Nat.zero_le _, Nat.zero_le _⟩) ?_
        refine hx_ifB (tgt := 31) hx hb dX2_rule_20 (by decide) (fun c_4 => ?_) (fun c_4 => ?_)
        · exact absurd (kp.symm.trans c_4) (by decide)
        · refine lv_iload hx hb dX2_rule_23 (lv_at hl 4 rfl) ?_
          refine hx_read (va_runS (As := [.int (nI vq)]) (rest := []) ⟨hx, hb, hml, hown, hts⟩ (c_X2_isRelation l (nI vq)) (va_cwS 1 hts gX2_rule_X2_isRelation rfl rfl rfl (by decide +kernel) ⟨Nat.le_of_ble_eq_true rfl, Nat.le_of_ble_eq_true rfl⟩) (nu_S _) rfl rfl hl.1 rfl (lv_room (Nat.le_of_ble_eq_true rfl)) dX2_rule_25 ⟨Nat.zero_le _, Nat.zero_le _⟩) ?_
          refine hx_ifnB (tgt := 33) hx hb dX2_rule_28 (by decide) (fun c_5 => ?_) (fun c_5 => ?_)
          · refine lv_aload_n hx hb dX2_rule_33 rfl (lv_at hl 0 rfl) ?_
            refine va_get (D := (dC, dI)) (ci := 2) (v := .ref (a 1)) (C := RX2) (T := TX2) (N := 6) hx hb hts in_X2 hown hK hP 0 rfl rfl 0 (by decide) lf_10 (fun _ h9 => h9) rfl dX2_rule_34 ?_
            refine va_getN (D := (dC, dI)) (ci := 1) (v := .int (nI n)) (C := RX1) (T := TX1) (N := 3) hx hb hts in_X1 hown hK hP 1 rfl rfl 2 (by decide) lf_39 (fun _ h9 => h9) rfl dX2_rule_37 ?_
            refine lv_bipush (v := nI 12) hx hb dX2_rule_40 (by decide) ?_
            refine hx_ltN (tgt := 48) hx hb dX2_rule_42 (by decide) (by omega) (by omega) (fun c_6 => ?_) (fun c_6 => ?_)
            · exact absurd c_6 (by omega)
            · refine lv_bipush (v := (-2)) hx hb dX2_rule_45 (by decide) ?_
              have e9 : vkW a cA n hd fm rp rq nd nw bf su sI sO = vkW a cA n hd fm rp rq nd nw bf su sI sO := rfl
              rw [e9] at hP hD
              subst hAe
              exact W.iret (v := (-2)) hx hb hr (fun t ht hW => ⟨⟨_, (), rfl, rfl, by rw [ht]; exact hP, va_K.moved hW.alike hK, hD⟩, hS.F ht⟩) hS.2.2 dX2_rule_47
          · exact absurd (kq.symm.trans c_5) (by decide)
set_option maxHeartbeats 4000000 in
set_option maxRecDepth 100000 in
theorem c_X2_rule_c (l : Launch) (dC : Nat → ClassId) (dI : Nat → Nat → Nat) (a : Nat → Nat) (cA : Nat → ClassId) (n : Nat) (hd fm rp rq : Nat → Nat) (nd nw bf su sI sO : Nat → Int32) (vh vf vp vq : Nat) (hy_0 : ruOk n hd fm rp rq) (hy_1 : n < 12) (hy_2 : 2 ≤ vh ∧ vh < 7 ∧ vf ≤ 4 ∧ vp < 7 ∧ vq < 7) (hy_3 : cycF (va_up hd n vh) (va_up fm n vf) (va_up rq n vq) (ndA (n + 1) (va_up hd n vh) (va_up fm n vf) (va_up rp n vp) (va_up rq n vq)) (n + 1) 0 = true) : WrI l yX2_rule wsX2_rule ({ frames := 6, cells := 0, slots := 0, locals := 136 }) (dC, dI) vwCl (vkW a cA n hd fm rp rq nd nw bf su sI sO) (vkW a cA n (va_up hd n vh) (va_up fm n vf) (va_up rp n vp) (va_up rq n vq) (ndA n (va_up hd n vh) (va_up fm n vf) (va_up rp n vp) (va_up rq n vq)) nw bf su sI sO) (vkT cA) nstW [.ref (a 0), .int (nI vh), .int (nI vf), .int (nI vp), .int (nI vq)] ((-3)) := by
  intro sz
  refine Met.ofW (cc := cX2_rule) (maxL := 5) (ret := (some .int)) (by decide) rfl ?_
  intro p e s m args below meth c s₁ B hml hv
  obtain ⟨rfl, hsz, ⟨hP, hK, hN⟩, hD0⟩ := hv
  subst hsz
  have hx := B.exec
  have hb := B.bytes
  have hr := B.returns
  have hts := atoms_spec (ws := wsX2_rule) B.pre
  have hown : s.vm.findClass RX2 = some m.cls := findClass_of_methodNamed B.named
  have hlocks := B.notSynchronized
  obtain ⟨A, hAe⟩ : ∃ A, A = va_A (vkW a cA n hd fm rp rq nd nw bf su sI sO) s.heap.size := ⟨_, rfl⟩
  have hD : va_D A (vkW a cA n hd fm rp rq nd nw bf su sI sO) := by rw [hAe]; exact hD0.self (sz := s.heap.size)
  have hA : ∀ q : Nat, s.heap.size ≤ q → A q := fun q h => by rw [hAe]; exact Or.inr h
  have hS : va_S A s.heap s.heap [] := va_S.rf
  have hP : va_P (dC, dI) vwCl (vkW a cA n hd fm rp rq nd nw bf su sI sO) s.heap := hP
  have kv : isVw (nI vh) = true := isVw_nI (by omega) (by omega)
  have kp : isRl (nI vp) = true := isRl_nI (by omega)
  have kq : isRl (nI vq) = true := isRl_nI (by omega)
  have lf_10 := hts (.fieldLink RX2 10 "ViewKeeper" "book" "LViewKeeper$RuleBook;") (by decide +kernel)
  have in_X2 : ∀ w ∈ u_ws RX2 TX2 6, w ∈ wsX2_rule := by decide +kernel
  have lf_39 : (Cond.fieldLinkNest RX2 39 "ViewKeeper$RuleBook" "made" "I" "ViewKeeper").before ([.ref (a 0), .int (nI vh), .int (nI vf), .int (nI vp), .int (nI vq)] : List Value).toArray s = true := va_Nw.use rfl (hN _ (by decide +kernel))
  have in_X1 : ∀ w ∈ u_ws RX1 TX1 3, w ∈ wsX2_rule := by decide +kernel
  have hl := lv_entry ([.ref (a 0), .int (nI vh), .int (nI vf), .int (nI vp), .int (nI vq)]) (n := 5) (Nat.le_of_ble_eq_true rfl)
  rw [lg_entry_eq]
  generalize (lg_sl ([.ref (a 0), .int (nI vh), .int (nI vf), .int (nI vp), .int (nI vq)]) ++ List.replicate (5 - (lg_sl ([.ref (a 0), .int (nI vh), .int (nI vf), .int (nI vp), .int (nI vq)])).length) Slot.unset).toArray = ls at hl ⊢
  have hl : lv_has ls 5 [(0, .ref (a 0)), (1, .int (nI vh)), (2, .int (nI vf)), (3, .int (nI vp)), (4, .int (nI vq))] := hl
  refine lv_iload_n hx hb dX2_rule_0 rfl (lv_at hl 1 rfl) ?_
  refine hx_read (va_runS (As := [.int (nI vh)]) (rest := []) ⟨hx, hb, hml, hown, hts⟩ (c_X2_isView l (nI vh)) (va_cwS 1 hts gX2_rule_X2_isView rfl rfl rfl (by decide +kernel) ⟨Nat.le_of_ble_eq_true rfl, Nat.le_of_ble_eq_true rfl⟩) (nu_S _) rfl rfl hl.1 rfl (lv_room (Nat.le_of_ble_eq_true rfl)) dX2_rule_1 ⟨Nat.zero_le _, Nat.zero_le _⟩) ?_
  refine hx_ifB (tgt := 31) hx hb dX2_rule_4 (by decide) (fun c_1 => ?_) (fun c_1 => ?_)
  · exact absurd (kv.symm.trans c_1) (by decide)
  · refine lv_iload_n hx hb dX2_rule_7 rfl (lv_at hl 2 rfl) ?_
    refine lv_if_lt (tgt := 31) hx hb dX2_rule_8 (by decide) (fun c_2 => ?_) (fun c_2 => ?_)
    · exact absurd c_2 (nI_pos (by omega))
    · refine lv_iload_n hx hb dX2_rule_11 rfl (lv_at hl 2 rfl) ?_
      refine lv_iconst (v := nI 4) hx hb dX2_rule_12 (by decide) ?_
      refine hx_gtN (tgt := 31) hx hb dX2_rule_13 (by decide) (by omega) (by omega) (fun c_3 => ?_) (fun c_3 => ?_)
      · exact absurd c_3 (by omega)
      · refine lv_iload_n hx hb dX2_rule_16 rfl (lv_at hl 3 rfl) ?_
        refine hx_read (va_runS (As := [.int (nI vp)]) (rest := []) ⟨hx, hb, hml, hown, hts⟩ (c_X2_isRelation l (nI vp)) (va_cwS 1 hts gX2_rule_X2_isRelation rfl rfl rfl (by decide +kernel) ⟨Nat.le_of_ble_eq_true rfl, Nat.le_of_ble_eq_true rfl⟩) (nu_S _) rfl rfl hl.1 rfl (lv_room (Nat.le_of_ble_eq_true rfl)) dX2_rule_17 ⟨Nat.zero_le _, Nat.zero_le _⟩) ?_
        refine hx_ifB (tgt := 31) hx hb dX2_rule_20 (by decide) (fun c_4 => ?_) (fun c_4 => ?_)
        · exact absurd (kp.symm.trans c_4) (by decide)
        · refine lv_iload hx hb dX2_rule_23 (lv_at hl 4 rfl) ?_
          refine hx_read (va_runS (As := [.int (nI vq)]) (rest := []) ⟨hx, hb, hml, hown, hts⟩ (c_X2_isRelation l (nI vq)) (va_cwS 1 hts gX2_rule_X2_isRelation rfl rfl rfl (by decide +kernel) ⟨Nat.le_of_ble_eq_true rfl, Nat.le_of_ble_eq_true rfl⟩) (nu_S _) rfl rfl hl.1 rfl (lv_room (Nat.le_of_ble_eq_true rfl)) dX2_rule_25 ⟨Nat.zero_le _, Nat.zero_le _⟩) ?_
          refine hx_ifnB (tgt := 33) hx hb dX2_rule_28 (by decide) (fun c_5 => ?_) (fun c_5 => ?_)
          · refine lv_aload_n hx hb dX2_rule_33 rfl (lv_at hl 0 rfl) ?_
            refine va_get (D := (dC, dI)) (ci := 2) (v := .ref (a 1)) (C := RX2) (T := TX2) (N := 6) hx hb hts in_X2 hown hK hP 0 rfl rfl 0 (by decide) lf_10 (fun _ h9 => h9) rfl dX2_rule_34 ?_
            refine va_getN (D := (dC, dI)) (ci := 1) (v := .int (nI n)) (C := RX1) (T := TX1) (N := 3) hx hb hts in_X1 hown hK hP 1 rfl rfl 2 (by decide) lf_39 (fun _ h9 => h9) rfl dX2_rule_37 ?_
            refine lv_bipush (v := nI 12) hx hb dX2_rule_40 (by decide) ?_
            refine hx_ltN (tgt := 48) hx hb dX2_rule_42 (by decide) (by omega) (by omega) (fun c_6 => ?_) (fun c_6 => ?_)
            · refine lv_aload_n hx hb dX2_rule_48 rfl (lv_at hl 0 rfl) ?_
              refine va_get (D := (dC, dI)) (ci := 2) (v := .ref (a 1)) (C := RX2) (T := TX2) (N := 6) hx hb hts in_X2 hown hK hP 0 rfl rfl 0 (by decide) lf_10 (fun _ h9 => h9) rfl dX2_rule_49 ?_
              refine lv_iload_n hx hb dX2_rule_52 rfl (lv_at hl 1 rfl) ?_
              refine lv_iload_n hx hb dX2_rule_53 rfl (lv_at hl 2 rfl) ?_
              refine lv_iload_n hx hb dX2_rule_54 rfl (lv_at hl 3 rfl) ?_
              refine lv_iload hx hb dX2_rule_55 (lv_at hl 4 rfl) ?_
              refine hx_wrv (va_runVN (C := RX1) (As := [.int (nI vh), .int (nI vf), .int (nI vp), .int (nI vq)]) (rest := []) ⟨hx, hb, hml, hown, hts⟩ (c_X1_write l dC dI a cA n hd fm rp rq nd nw bf su sI sO vh vf vp vq (hy_0) (hy_1) (hy_2) s.heap.size) ⟨va_cnB 4 hts gX2_rule_X1_write_n43 rfl rfl rfl (hN (.methodLinkNest RX2 43 yX1_write "ViewKeeper") (by decide +kernel)) (hts (.initialized RX1) (by decide +kernel)) (by decide +kernel) ⟨Nat.le_of_ble_eq_true rfl, Nat.le_of_ble_eq_true rfl⟩, hts (.instanceMethod yX1_write) (by decide +kernel), hts (.selects RX1 yX1_write yX1_write) (by decide +kernel)⟩ (wr_V nstW_ok hP hK hN hD 1 rfl rfl _) rfl rfl hl.1 rfl (lv_room (Nat.le_of_ble_eq_true rfl)) dX2_rule_57 ⟨Nat.zero_le _, Nat.zero_le _⟩) hD hS hA (fun H locs hP hD hS => ?_)
              have hP : va_P (dC, dI) vwCl (vkW a cA (n + 1) (va_up hd n vh) (va_up fm n vf) (va_up rp n vp) (va_up rq n vq) (ndA (n + 1) (va_up hd n vh) (va_up fm n vf) (va_up rp n vp) (va_up rq n vq)) nw bf su sI sO) H := hP
              have hD : va_D A (vkW a cA (n + 1) (va_up hd n vh) (va_up fm n vf) (va_up rp n vp) (va_up rq n vq) (ndA (n + 1) (va_up hd n vh) (va_up fm n vf) (va_up rp n vp) (va_up rq n vq)) nw bf su sI sO) := hD
              refine lv_aload_n hx hb dX2_rule_60 rfl (lv_at hl 0 rfl) ?_
              refine va_get (D := (dC, dI)) (ci := 2) (v := .ref (a 1)) (C := RX2) (T := TX2) (N := 6) hx hb hts in_X2 hown hK hP 0 rfl rfl 0 (by decide) lf_10 (fun _ h9 => h9) rfl dX2_rule_61 ?_
              refine hx_read (va_runVN (C := RX1) (As := []) (rest := []) ⟨hx, hb, hml, hown, hts⟩ (c_X1_hasCycle l dC dI a cA (n + 1) (va_up hd n vh) (va_up fm n vf) (va_up rp n vp) (va_up rq n vq) (ndA (n + 1) (va_up hd n vh) (va_up fm n vf) (va_up rp n vp) (va_up rq n vq)) nw bf su sI sO (ruOk_add hy_0 hy_1 hy_2)) ⟨va_cnB 0 hts gX2_rule_X1_hasCycle_n47 rfl rfl rfl (hN (.methodLinkNest RX2 47 yX1_hasCycle "ViewKeeper") (by decide +kernel)) (hts (.initialized RX1) (by decide +kernel)) (by decide +kernel) ⟨Nat.le_of_ble_eq_true rfl, Nat.le_of_ble_eq_true rfl⟩, hts (.instanceMethod yX1_hasCycle) (by decide +kernel), hts (.selects RX1 yX1_hasCycle yX1_hasCycle) (by decide +kernel)⟩ (rd_V nstW_ok hP hK hN 1 rfl rfl _) rfl rfl hl.1 rfl (lv_room (Nat.le_of_ble_eq_true rfl)) dX2_rule_64 ⟨Nat.zero_le _, Nat.zero_le _⟩) ?_
              refine hx_ifB (tgt := 80) hx hb dX2_rule_67 (by decide) (fun c_7 => ?_) (fun c_7 => ?_)
              · exact absurd (hy_3.symm.trans c_7) (by decide)
              · refine lv_aload_n hx hb dX2_rule_70 rfl (lv_at hl 0 rfl) ?_
                refine va_get (D := (dC, dI)) (ci := 2) (v := .ref (a 1)) (C := RX2) (T := TX2) (N := 6) hx hb hts in_X2 hown hK hP 0 rfl rfl 0 (by decide) lf_10 (fun _ h9 => h9) rfl dX2_rule_71 ?_
                refine hx_wrv (va_runVN (C := RX1) (As := []) (rest := []) ⟨hx, hb, hml, hown, hts⟩ (c_X1_strikeLast l dC dI a cA (n + 1) (va_up hd n vh) (va_up fm n vf) (va_up rp n vp) (va_up rq n vq) (ndA (n + 1) (va_up hd n vh) (va_up fm n vf) (va_up rp n vp) (va_up rq n vq)) nw bf su sI sO (ruOk_add hy_0 hy_1 hy_2) (by omega) H.size) ⟨va_cnB 0 hts gX2_rule_X1_strikeLast_n51 rfl rfl rfl (hN (.methodLinkNest RX2 51 yX1_strikeLast "ViewKeeper") (by decide +kernel)) (hts (.initialized RX1) (by decide +kernel)) (by decide +kernel) ⟨Nat.le_of_ble_eq_true rfl, Nat.le_of_ble_eq_true rfl⟩, hts (.instanceMethod yX1_strikeLast) (by decide +kernel), hts (.selects RX1 yX1_strikeLast yX1_strikeLast) (by decide +kernel)⟩ (wr_V nstW_ok hP hK hN hD 1 rfl rfl _) rfl rfl hl.1 rfl (lv_room (Nat.le_of_ble_eq_true rfl)) dX2_rule_74 ⟨Nat.zero_le _, Nat.zero_le _⟩) hD hS hA (fun H locs hP hD hS => ?_)
                have hP : va_P (dC, dI) vwCl (vkW a cA ((n + 1) - 1) ((va_up hd n vh)) ((va_up fm n vf)) ((va_up rp n vp)) ((va_up rq n vq)) (ndA ((n + 1) - 1) (va_up hd n vh) (va_up fm n vf) (va_up rp n vp) (va_up rq n vq)) nw bf su sI sO) H := hP
                have hD : va_D A (vkW a cA ((n + 1) - 1) ((va_up hd n vh)) ((va_up fm n vf)) ((va_up rp n vp)) ((va_up rq n vq)) (ndA ((n + 1) - 1) (va_up hd n vh) (va_up fm n vf) (va_up rp n vp) (va_up rq n vq)) nw bf su sI sO) := hD
                refine lv_bipush (v := (-3)) hx hb dX2_rule_77 (by decide) ?_
                have e9 : vkW a cA ((n + 1) - 1) ((va_up hd n vh)) ((va_up fm n vf)) ((va_up rp n vp)) ((va_up rq n vq)) (ndA ((n + 1) - 1) (va_up hd n vh) (va_up fm n vf) (va_up rp n vp) (va_up rq n vq)) nw bf su sI sO = vkW a cA n (va_up hd n vh) (va_up fm n vf) (va_up rp n vp) (va_up rq n vq) (ndA n (va_up hd n vh) (va_up fm n vf) (va_up rp n vp) (va_up rq n vq)) nw bf su sI sO := rfl
                rw [e9] at hP hD
                subst hAe
                exact W.iret (v := (-3)) hx hb hr (fun t ht hW => ⟨⟨_, (), rfl, rfl, by rw [ht]; exact hP, va_K.moved hW.alike hK, hD⟩, hS.F ht⟩) hS.2.2 dX2_rule_79
            · exact absurd c_6 (by omega)
          · exact absurd (kq.symm.trans c_5) (by decide)
set_option maxHeartbeats 4000000 in
set_option maxRecDepth 100000 in
theorem c_X2_rule_g (l : Launch) (dC : Nat → ClassId) (dI : Nat → Nat → Nat) (a : Nat → Nat) (cA : Nat → ClassId) (n : Nat) (hd fm rp rq : Nat → Nat) (nd nw bf su sI sO : Nat → Int32) (vh vf vp vq : Nat) (hy_0 : ruOk n hd fm rp rq) (hy_1 : n < 12) (hy_2 : 2 ≤ vh ∧ vh < 7 ∧ vf ≤ 4 ∧ vp < 7 ∧ vq < 7) (hy_3 : cycF (va_up hd n vh) (va_up fm n vf) (va_up rq n vq) (ndA (n + 1) (va_up hd n vh) (va_up fm n vf) (va_up rp n vp) (va_up rq n vq)) (n + 1) 0 = false) : WrI l yX2_rule wsX2_rule ({ frames := 6, cells := 0, slots := 0, locals := 136 }) (dC, dI) vwCl (vkW a cA n hd fm rp rq nd nw bf su sI sO) (vkW a cA (n + 1) (va_up hd n vh) (va_up fm n vf) (va_up rp n vp) (va_up rq n vq) (ndA (n + 1) (va_up hd n vh) (va_up fm n vf) (va_up rp n vp) (va_up rq n vq)) (rmM (n + 1) (va_up hd n vh) (va_up fm n vf) (va_up rp n vp) (va_up rq n vq) (ndA (n + 1) (va_up hd n vh) (va_up fm n vf) (va_up rp n vp) (va_up rq n vq)) nw) (rmM (n + 1) (va_up hd n vh) (va_up fm n vf) (va_up rp n vp) (va_up rq n vq) (ndA (n + 1) (va_up hd n vh) (va_up fm n vf) (va_up rp n vp) (va_up rq n vq)) nw) (fun _ => nI 0) sI sO) (vkT cA) nstW [.ref (a 0), .int (nI vh), .int (nI vf), .int (nI vp), .int (nI vq)] (nI n) := by
  intro sz
  refine Met.ofW (cc := cX2_rule) (maxL := 5) (ret := (some .int)) (by decide) rfl ?_
  intro p e s m args below meth c s₁ B hml hv
  obtain ⟨rfl, hsz, ⟨hP, hK, hN⟩, hD0⟩ := hv
  subst hsz
  have hx := B.exec
  have hb := B.bytes
  have hr := B.returns
  have hts := atoms_spec (ws := wsX2_rule) B.pre
  have hown : s.vm.findClass RX2 = some m.cls := findClass_of_methodNamed B.named
  have hlocks := B.notSynchronized
  obtain ⟨A, hAe⟩ : ∃ A, A = va_A (vkW a cA n hd fm rp rq nd nw bf su sI sO) s.heap.size := ⟨_, rfl⟩
  have hD : va_D A (vkW a cA n hd fm rp rq nd nw bf su sI sO) := by rw [hAe]; exact hD0.self (sz := s.heap.size)
  have hA : ∀ q : Nat, s.heap.size ≤ q → A q := fun q h => by rw [hAe]; exact Or.inr h
  have hS : va_S A s.heap s.heap [] := va_S.rf
  have hP : va_P (dC, dI) vwCl (vkW a cA n hd fm rp rq nd nw bf su sI sO) s.heap := hP
  have kv : isVw (nI vh) = true := isVw_nI (by omega) (by omega)
  have kp : isRl (nI vp) = true := isRl_nI (by omega)
  have kq : isRl (nI vq) = true := isRl_nI (by omega)
  have lf_10 := hts (.fieldLink RX2 10 "ViewKeeper" "book" "LViewKeeper$RuleBook;") (by decide +kernel)
  have in_X2 : ∀ w ∈ u_ws RX2 TX2 6, w ∈ wsX2_rule := by decide +kernel
  have lf_39 : (Cond.fieldLinkNest RX2 39 "ViewKeeper$RuleBook" "made" "I" "ViewKeeper").before ([.ref (a 0), .int (nI vh), .int (nI vf), .int (nI vp), .int (nI vq)] : List Value).toArray s = true := va_Nw.use rfl (hN _ (by decide +kernel))
  have in_X1 : ∀ w ∈ u_ws RX1 TX1 3, w ∈ wsX2_rule := by decide +kernel
  have hl := lv_entry ([.ref (a 0), .int (nI vh), .int (nI vf), .int (nI vp), .int (nI vq)]) (n := 5) (Nat.le_of_ble_eq_true rfl)
  rw [lg_entry_eq]
  generalize (lg_sl ([.ref (a 0), .int (nI vh), .int (nI vf), .int (nI vp), .int (nI vq)]) ++ List.replicate (5 - (lg_sl ([.ref (a 0), .int (nI vh), .int (nI vf), .int (nI vp), .int (nI vq)])).length) Slot.unset).toArray = ls at hl ⊢
  have hl : lv_has ls 5 [(0, .ref (a 0)), (1, .int (nI vh)), (2, .int (nI vf)), (3, .int (nI vp)), (4, .int (nI vq))] := hl
  refine lv_iload_n hx hb dX2_rule_0 rfl (lv_at hl 1 rfl) ?_
  refine hx_read (va_runS (As := [.int (nI vh)]) (rest := []) ⟨hx, hb, hml, hown, hts⟩ (c_X2_isView l (nI vh)) (va_cwS 1 hts gX2_rule_X2_isView rfl rfl rfl (by decide +kernel) ⟨Nat.le_of_ble_eq_true rfl, Nat.le_of_ble_eq_true rfl⟩) (nu_S _) rfl rfl hl.1 rfl (lv_room (Nat.le_of_ble_eq_true rfl)) dX2_rule_1 ⟨Nat.zero_le _, Nat.zero_le _⟩) ?_
  refine hx_ifB (tgt := 31) hx hb dX2_rule_4 (by decide) (fun c_1 => ?_) (fun c_1 => ?_)
  · exact absurd (kv.symm.trans c_1) (by decide)
  · refine lv_iload_n hx hb dX2_rule_7 rfl (lv_at hl 2 rfl) ?_
    refine lv_if_lt (tgt := 31) hx hb dX2_rule_8 (by decide) (fun c_2 => ?_) (fun c_2 => ?_)
    · exact absurd c_2 (nI_pos (by omega))
    · refine lv_iload_n hx hb dX2_rule_11 rfl (lv_at hl 2 rfl) ?_
      refine lv_iconst (v := nI 4) hx hb dX2_rule_12 (by decide) ?_
      refine hx_gtN (tgt := 31) hx hb dX2_rule_13 (by decide) (by omega) (by omega) (fun c_3 => ?_) (fun c_3 => ?_)
      · exact absurd c_3 (by omega)
      · refine lv_iload_n hx hb dX2_rule_16 rfl (lv_at hl 3 rfl) ?_
        refine hx_read (va_runS (As := [.int (nI vp)]) (rest := []) ⟨hx, hb, hml, hown, hts⟩ (c_X2_isRelation l (nI vp)) (va_cwS 1 hts gX2_rule_X2_isRelation rfl rfl rfl (by decide +kernel) ⟨Nat.le_of_ble_eq_true rfl, Nat.le_of_ble_eq_true rfl⟩) (nu_S _) rfl rfl hl.1 rfl (lv_room (Nat.le_of_ble_eq_true rfl)) dX2_rule_17 ⟨Nat.zero_le _, Nat.zero_le _⟩) ?_
        refine hx_ifB (tgt := 31) hx hb dX2_rule_20 (by decide) (fun c_4 => ?_) (fun c_4 => ?_)
        · exact absurd (kp.symm.trans c_4) (by decide)
        · refine lv_iload hx hb dX2_rule_23 (lv_at hl 4 rfl) ?_
          refine hx_read (va_runS (As := [.int (nI vq)]) (rest := []) ⟨hx, hb, hml, hown, hts⟩ (c_X2_isRelation l (nI vq)) (va_cwS 1 hts gX2_rule_X2_isRelation rfl rfl rfl (by decide +kernel) ⟨Nat.le_of_ble_eq_true rfl, Nat.le_of_ble_eq_true rfl⟩) (nu_S _) rfl rfl hl.1 rfl (lv_room (Nat.le_of_ble_eq_true rfl)) dX2_rule_25 ⟨Nat.zero_le _, Nat.zero_le _⟩) ?_
          refine hx_ifnB (tgt := 33) hx hb dX2_rule_28 (by decide) (fun c_5 => ?_) (fun c_5 => ?_)
          · refine lv_aload_n hx hb dX2_rule_33 rfl (lv_at hl 0 rfl) ?_
            refine va_get (D := (dC, dI)) (ci := 2) (v := .ref (a 1)) (C := RX2) (T := TX2) (N := 6) hx hb hts in_X2 hown hK hP 0 rfl rfl 0 (by decide) lf_10 (fun _ h9 => h9) rfl dX2_rule_34 ?_
            refine va_getN (D := (dC, dI)) (ci := 1) (v := .int (nI n)) (C := RX1) (T := TX1) (N := 3) hx hb hts in_X1 hown hK hP 1 rfl rfl 2 (by decide) lf_39 (fun _ h9 => h9) rfl dX2_rule_37 ?_
            refine lv_bipush (v := nI 12) hx hb dX2_rule_40 (by decide) ?_
            refine hx_ltN (tgt := 48) hx hb dX2_rule_42 (by decide) (by omega) (by omega) (fun c_6 => ?_) (fun c_6 => ?_)
            · refine lv_aload_n hx hb dX2_rule_48 rfl (lv_at hl 0 rfl) ?_
              refine va_get (D := (dC, dI)) (ci := 2) (v := .ref (a 1)) (C := RX2) (T := TX2) (N := 6) hx hb hts in_X2 hown hK hP 0 rfl rfl 0 (by decide) lf_10 (fun _ h9 => h9) rfl dX2_rule_49 ?_
              refine lv_iload_n hx hb dX2_rule_52 rfl (lv_at hl 1 rfl) ?_
              refine lv_iload_n hx hb dX2_rule_53 rfl (lv_at hl 2 rfl) ?_
              refine lv_iload_n hx hb dX2_rule_54 rfl (lv_at hl 3 rfl) ?_
              refine lv_iload hx hb dX2_rule_55 (lv_at hl 4 rfl) ?_
              refine hx_wrv (va_runVN (C := RX1) (As := [.int (nI vh), .int (nI vf), .int (nI vp), .int (nI vq)]) (rest := []) ⟨hx, hb, hml, hown, hts⟩ (c_X1_write l dC dI a cA n hd fm rp rq nd nw bf su sI sO vh vf vp vq (hy_0) (hy_1) (hy_2) s.heap.size) ⟨va_cnB 4 hts gX2_rule_X1_write_n43 rfl rfl rfl (hN (.methodLinkNest RX2 43 yX1_write "ViewKeeper") (by decide +kernel)) (hts (.initialized RX1) (by decide +kernel)) (by decide +kernel) ⟨Nat.le_of_ble_eq_true rfl, Nat.le_of_ble_eq_true rfl⟩, hts (.instanceMethod yX1_write) (by decide +kernel), hts (.selects RX1 yX1_write yX1_write) (by decide +kernel)⟩ (wr_V nstW_ok hP hK hN hD 1 rfl rfl _) rfl rfl hl.1 rfl (lv_room (Nat.le_of_ble_eq_true rfl)) dX2_rule_57 ⟨Nat.zero_le _, Nat.zero_le _⟩) hD hS hA (fun H locs hP hD hS => ?_)
              have hP : va_P (dC, dI) vwCl (vkW a cA (n + 1) (va_up hd n vh) (va_up fm n vf) (va_up rp n vp) (va_up rq n vq) (ndA (n + 1) (va_up hd n vh) (va_up fm n vf) (va_up rp n vp) (va_up rq n vq)) nw bf su sI sO) H := hP
              have hD : va_D A (vkW a cA (n + 1) (va_up hd n vh) (va_up fm n vf) (va_up rp n vp) (va_up rq n vq) (ndA (n + 1) (va_up hd n vh) (va_up fm n vf) (va_up rp n vp) (va_up rq n vq)) nw bf su sI sO) := hD
              refine lv_aload_n hx hb dX2_rule_60 rfl (lv_at hl 0 rfl) ?_
              refine va_get (D := (dC, dI)) (ci := 2) (v := .ref (a 1)) (C := RX2) (T := TX2) (N := 6) hx hb hts in_X2 hown hK hP 0 rfl rfl 0 (by decide) lf_10 (fun _ h9 => h9) rfl dX2_rule_61 ?_
              refine hx_read (va_runVN (C := RX1) (As := []) (rest := []) ⟨hx, hb, hml, hown, hts⟩ (c_X1_hasCycle l dC dI a cA (n + 1) (va_up hd n vh) (va_up fm n vf) (va_up rp n vp) (va_up rq n vq) (ndA (n + 1) (va_up hd n vh) (va_up fm n vf) (va_up rp n vp) (va_up rq n vq)) nw bf su sI sO (ruOk_add hy_0 hy_1 hy_2)) ⟨va_cnB 0 hts gX2_rule_X1_hasCycle_n47 rfl rfl rfl (hN (.methodLinkNest RX2 47 yX1_hasCycle "ViewKeeper") (by decide +kernel)) (hts (.initialized RX1) (by decide +kernel)) (by decide +kernel) ⟨Nat.le_of_ble_eq_true rfl, Nat.le_of_ble_eq_true rfl⟩, hts (.instanceMethod yX1_hasCycle) (by decide +kernel), hts (.selects RX1 yX1_hasCycle yX1_hasCycle) (by decide +kernel)⟩ (rd_V nstW_ok hP hK hN 1 rfl rfl _) rfl rfl hl.1 rfl (lv_room (Nat.le_of_ble_eq_true rfl)) dX2_rule_64 ⟨Nat.zero_le _, Nat.zero_le _⟩) ?_
              refine hx_ifB (tgt := 80) hx hb dX2_rule_67 (by decide) (fun c_7 => ?_) (fun c_7 => ?_)
              · refine lv_aload_n hx hb dX2_rule_80 rfl (lv_at hl 0 rfl) ?_
                refine hx_wrv (va_runV (As := []) (rest := []) ⟨hx, hb, hml, hown, hts⟩ (c_X2_remakeViews l dC dI a cA (n + 1) (va_up hd n vh) (va_up fm n vf) (va_up rp n vp) (va_up rq n vq) (ndA (n + 1) (va_up hd n vh) (va_up fm n vf) (va_up rp n vp) (va_up rq n vq)) nw bf su sI sO (ruOk_add hy_0 hy_1 hy_2) H.size) (cwV 0 hts gX2_rule_X2_remakeViews rfl rfl rfl (by decide +kernel) ⟨Nat.le_of_ble_eq_true rfl, Nat.le_of_ble_eq_true rfl⟩) (wr_V nstW_ok hP hK hN hD 0 rfl rfl _) rfl rfl hl.1 rfl (lv_room (Nat.le_of_ble_eq_true rfl)) dX2_rule_81 ⟨Nat.zero_le _, Nat.zero_le _⟩) hD hS hA (fun H locs hP hD hS => ?_)
                have hP : va_P (dC, dI) vwCl (vkW a cA ((n + 1)) ((va_up hd n vh)) ((va_up fm n vf)) ((va_up rp n vp)) ((va_up rq n vq)) ((ndA (n + 1) (va_up hd n vh) (va_up fm n vf) (va_up rp n vp) (va_up rq n vq))) (rmM (n + 1) (va_up hd n vh) (va_up fm n vf) (va_up rp n vp) (va_up rq n vq) (ndA (n + 1) (va_up hd n vh) (va_up fm n vf) (va_up rp n vp) (va_up rq n vq)) nw) (rmM (n + 1) (va_up hd n vh) (va_up fm n vf) (va_up rp n vp) (va_up rq n vq) (ndA (n + 1) (va_up hd n vh) (va_up fm n vf) (va_up rp n vp) (va_up rq n vq)) nw) (fun _ => nI 0) sI sO) H := hP
                have hD : va_D A (vkW a cA ((n + 1)) ((va_up hd n vh)) ((va_up fm n vf)) ((va_up rp n vp)) ((va_up rq n vq)) ((ndA (n + 1) (va_up hd n vh) (va_up fm n vf) (va_up rp n vp) (va_up rq n vq))) (rmM (n + 1) (va_up hd n vh) (va_up fm n vf) (va_up rp n vp) (va_up rq n vq) (ndA (n + 1) (va_up hd n vh) (va_up fm n vf) (va_up rp n vp) (va_up rq n vq)) nw) (rmM (n + 1) (va_up hd n vh) (va_up fm n vf) (va_up rp n vp) (va_up rq n vq) (ndA (n + 1) (va_up hd n vh) (va_up fm n vf) (va_up rp n vp) (va_up rq n vq)) nw) (fun _ => nI 0) sI sO) := hD
                refine lv_aload_n hx hb dX2_rule_84 rfl (lv_at hl 0 rfl) ?_
                refine va_get (D := (dC, dI)) (ci := 2) (v := .ref (a 1)) (C := RX2) (T := TX2) (N := 6) hx hb hts in_X2 hown hK hP 0 rfl rfl 0 (by decide) lf_10 (fun _ h9 => h9) rfl dX2_rule_85 ?_
                refine va_getN (D := (dC, dI)) (ci := 1) (v := .int (nI ((n + 1)))) (C := RX1) (T := TX1) (N := 3) hx hb hts in_X1 hown hK hP 1 rfl rfl 2 (by decide) lf_39 (fun _ h9 => h9) rfl dX2_rule_88 ?_
                refine lv_iconst (v := nI 1) hx hb dX2_rule_91 (by decide) ?_
                refine hx_isub (by omega) hx hb dX2_rule_92 ?_
                have e9 : vkW a cA ((n + 1)) ((va_up hd n vh)) ((va_up fm n vf)) ((va_up rp n vp)) ((va_up rq n vq)) ((ndA (n + 1) (va_up hd n vh) (va_up fm n vf) (va_up rp n vp) (va_up rq n vq))) (rmM (n + 1) (va_up hd n vh) (va_up fm n vf) (va_up rp n vp) (va_up rq n vq) (ndA (n + 1) (va_up hd n vh) (va_up fm n vf) (va_up rp n vp) (va_up rq n vq)) nw) (rmM (n + 1) (va_up hd n vh) (va_up fm n vf) (va_up rp n vp) (va_up rq n vq) (ndA (n + 1) (va_up hd n vh) (va_up fm n vf) (va_up rp n vp) (va_up rq n vq)) nw) (fun _ => nI 0) sI sO = vkW a cA (n + 1) (va_up hd n vh) (va_up fm n vf) (va_up rp n vp) (va_up rq n vq) (ndA (n + 1) (va_up hd n vh) (va_up fm n vf) (va_up rp n vp) (va_up rq n vq)) (rmM (n + 1) (va_up hd n vh) (va_up fm n vf) (va_up rp n vp) (va_up rq n vq) (ndA (n + 1) (va_up hd n vh) (va_up fm n vf) (va_up rp n vp) (va_up rq n vq)) nw) (rmM (n + 1) (va_up hd n vh) (va_up fm n vf) (va_up rp n vp) (va_up rq n vq) (ndA (n + 1) (va_up hd n vh) (va_up fm n vf) (va_up rp n vp) (va_up rq n vq)) nw) (fun _ => nI 0) sI sO := rfl
                rw [e9] at hP hD
                subst hAe
                exact W.iret (v := nI (((n + 1)) - 1)) hx hb hr (fun t ht hW => ⟨⟨_, (), rfl, rfl, by rw [ht]; exact hP, va_K.moved hW.alike hK, hD⟩, hS.F ht⟩) hS.2.2 dX2_rule_93
              · exact absurd (hy_3.symm.trans c_7) (by decide)
            · exact absurd c_6 (by omega)
          · exact absurd (kq.symm.trans c_5) (by decide)
set_option maxHeartbeats 4000000 in
set_option maxRecDepth 100000 in
theorem c_X2_undo_b (l : Launch) (dC : Nat → ClassId) (dI : Nat → Nat → Nat) (a : Nat → Nat) (cA : Nat → ClassId) (n : Nat) (hd fm rp rq : Nat → Nat) (nd nw bf su sI sO : Nat → Int32) (hy_0 : n = 0) : WrI l yX2_undo wsX2_undo ({ frames := 6, cells := 0, slots := 0, locals := 136 }) (dC, dI) vwCl (vkW a cA n hd fm rp rq nd nw bf su sI sO) (vkW a cA n hd fm rp rq nd nw bf su sI sO) (vkT cA) nstW [.ref (a 0)] ((-1)) := by
  intro sz
  refine Met.ofW (cc := cX2_undo) (maxL := 1) (ret := (some .int)) (by decide) rfl ?_
  intro p e s m args below meth c s₁ B hml hv
  obtain ⟨rfl, hsz, ⟨hP, hK, hN⟩, hD0⟩ := hv
  subst hsz
  have hx := B.exec
  have hb := B.bytes
  have hr := B.returns
  have hts := atoms_spec (ws := wsX2_undo) B.pre
  have hown : s.vm.findClass RX2 = some m.cls := findClass_of_methodNamed B.named
  have hlocks := B.notSynchronized
  obtain ⟨A, hAe⟩ : ∃ A, A = va_A (vkW a cA n hd fm rp rq nd nw bf su sI sO) s.heap.size := ⟨_, rfl⟩
  have hD : va_D A (vkW a cA n hd fm rp rq nd nw bf su sI sO) := by rw [hAe]; exact hD0.self (sz := s.heap.size)
  have hA : ∀ q : Nat, s.heap.size ≤ q → A q := fun q h => by rw [hAe]; exact Or.inr h
  have hS : va_S A s.heap s.heap [] := va_S.rf
  have hP : va_P (dC, dI) vwCl (vkW a cA n hd fm rp rq nd nw bf su sI sO) s.heap := hP
  have lf_10 := hts (.fieldLink RX2 10 "ViewKeeper" "book" "LViewKeeper$RuleBook;") (by decide +kernel)
  have in_X2 : ∀ w ∈ u_ws RX2 TX2 6, w ∈ wsX2_undo := by decide +kernel
  have lf_39 : (Cond.fieldLinkNest RX2 39 "ViewKeeper$RuleBook" "made" "I" "ViewKeeper").before ([.ref (a 0)] : List Value).toArray s = true := va_Nw.use rfl (hN _ (by decide +kernel))
  have in_X1 : ∀ w ∈ u_ws RX1 TX1 3, w ∈ wsX2_undo := by decide +kernel
  have hl := lv_entry ([.ref (a 0)]) (n := 1) (Nat.le_of_ble_eq_true rfl)
  rw [lg_entry_eq]
  generalize (lg_sl ([.ref (a 0)]) ++ List.replicate (1 - (lg_sl ([.ref (a 0)])).length) Slot.unset).toArray = ls at hl ⊢
  have hl : lv_has ls 1 [(0, .ref (a 0))] := hl
  refine lv_aload_n hx hb dX2_undo_0 rfl (lv_at hl 0 rfl) ?_
  refine va_get (D := (dC, dI)) (ci := 2) (v := .ref (a 1)) (C := RX2) (T := TX2) (N := 6) hx hb hts in_X2 hown hK hP 0 rfl rfl 0 (by decide) lf_10 (fun _ h9 => h9) rfl dX2_undo_1 ?_
  refine va_getN (D := (dC, dI)) (ci := 1) (v := .int (nI n)) (C := RX1) (T := TX1) (N := 3) hx hb hts in_X1 hown hK hP 1 rfl rfl 2 (by decide) lf_39 (fun _ h9 => h9) rfl dX2_undo_4 ?_
  refine hx_ifn0 (tgt := 12) hx hb dX2_undo_7 (by decide) (by omega) (fun c_1 => ?_) (fun c_1 => ?_)
  · exact absurd c_1 (by omega)
  · refine lv_iconst (v := (-1)) hx hb dX2_undo_10 (by decide) ?_
    have e9 : vkW a cA n hd fm rp rq nd nw bf su sI sO = vkW a cA n hd fm rp rq nd nw bf su sI sO := rfl
    rw [e9] at hP hD
    subst hAe
    exact W.iret (v := (-1)) hx hb hr (fun t ht hW => ⟨⟨_, (), rfl, rfl, by rw [ht]; exact hP, va_K.moved hW.alike hK, hD⟩, hS.F ht⟩) hS.2.2 dX2_undo_11
set_option maxHeartbeats 4000000 in
set_option maxRecDepth 100000 in
theorem c_X2_undo_g (l : Launch) (dC : Nat → ClassId) (dI : Nat → Nat → Nat) (a : Nat → Nat) (cA : Nat → ClassId) (n : Nat) (hd fm rp rq : Nat → Nat) (nd nw bf su sI sO : Nat → Int32) (hy_0 : ruOk n hd fm rp rq) (hy_1 : 1 ≤ n) : WrI l yX2_undo wsX2_undo ({ frames := 6, cells := 0, slots := 0, locals := 136 }) (dC, dI) vwCl (vkW a cA n hd fm rp rq nd nw bf su sI sO) (vkW a cA (n - 1) hd fm rp rq (ndA (n - 1) hd fm rp rq) (rmM (n - 1) hd fm rp rq (ndA (n - 1) hd fm rp rq) nw) (rmM (n - 1) hd fm rp rq (ndA (n - 1) hd fm rp rq) nw) (fun _ => nI 0) sI sO) (vkT cA) nstW [.ref (a 0)] (nI (n - 1)) := by
  intro sz
  refine Met.ofW (cc := cX2_undo) (maxL := 1) (ret := (some .int)) (by decide) rfl ?_
  intro p e s m args below meth c s₁ B hml hv
  obtain ⟨rfl, hsz, ⟨hP, hK, hN⟩, hD0⟩ := hv
  subst hsz
  have hx := B.exec
  have hb := B.bytes
  have hr := B.returns
  have hts := atoms_spec (ws := wsX2_undo) B.pre
  have hown : s.vm.findClass RX2 = some m.cls := findClass_of_methodNamed B.named
  have hlocks := B.notSynchronized
  obtain ⟨A, hAe⟩ : ∃ A, A = va_A (vkW a cA n hd fm rp rq nd nw bf su sI sO) s.heap.size := ⟨_, rfl⟩
  have hD : va_D A (vkW a cA n hd fm rp rq nd nw bf su sI sO) := by rw [hAe]; exact hD0.self (sz := s.heap.size)
  have hA : ∀ q : Nat, s.heap.size ≤ q → A q := fun q h => by rw [hAe]; exact Or.inr h
  have hS : va_S A s.heap s.heap [] := va_S.rf
  have hP : va_P (dC, dI) vwCl (vkW a cA n hd fm rp rq nd nw bf su sI sO) s.heap := hP
  have hn12 := hy_0.1
  have lf_10 := hts (.fieldLink RX2 10 "ViewKeeper" "book" "LViewKeeper$RuleBook;") (by decide +kernel)
  have in_X2 : ∀ w ∈ u_ws RX2 TX2 6, w ∈ wsX2_undo := by decide +kernel
  have lf_39 : (Cond.fieldLinkNest RX2 39 "ViewKeeper$RuleBook" "made" "I" "ViewKeeper").before ([.ref (a 0)] : List Value).toArray s = true := va_Nw.use rfl (hN _ (by decide +kernel))
  have in_X1 : ∀ w ∈ u_ws RX1 TX1 3, w ∈ wsX2_undo := by decide +kernel
  have hl := lv_entry ([.ref (a 0)]) (n := 1) (Nat.le_of_ble_eq_true rfl)
  rw [lg_entry_eq]
  generalize (lg_sl ([.ref (a 0)]) ++ List.replicate (1 - (lg_sl ([.ref (a 0)])).length) Slot.unset).toArray = ls at hl ⊢
  have hl : lv_has ls 1 [(0, .ref (a 0))] := hl
  refine lv_aload_n hx hb dX2_undo_0 rfl (lv_at hl 0 rfl) ?_
  refine va_get (D := (dC, dI)) (ci := 2) (v := .ref (a 1)) (C := RX2) (T := TX2) (N := 6) hx hb hts in_X2 hown hK hP 0 rfl rfl 0 (by decide) lf_10 (fun _ h9 => h9) rfl dX2_undo_1 ?_
  refine va_getN (D := (dC, dI)) (ci := 1) (v := .int (nI n)) (C := RX1) (T := TX1) (N := 3) hx hb hts in_X1 hown hK hP 1 rfl rfl 2 (by decide) lf_39 (fun _ h9 => h9) rfl dX2_undo_4 ?_
  refine hx_ifn0 (tgt := 12) hx hb dX2_undo_7 (by decide) (by omega) (fun c_1 => ?_) (fun c_1 => ?_)
  · refine lv_aload_n hx hb dX2_undo_12 rfl (lv_at hl 0 rfl) ?_
    refine va_get (D := (dC, dI)) (ci := 2) (v := .ref (a 1)) (C := RX2) (T := TX2) (N := 6) hx hb hts in_X2 hown hK hP 0 rfl rfl 0 (by decide) lf_10 (fun _ h9 => h9) rfl dX2_undo_13 ?_
    refine hx_wrv (va_runVN (C := RX1) (As := []) (rest := []) ⟨hx, hb, hml, hown, hts⟩ (c_X1_strikeLast l dC dI a cA n hd fm rp rq nd nw bf su sI sO (hy_0) (by omega) s.heap.size) ⟨va_cnB 0 hts gX2_undo_X1_strikeLast_n51 rfl rfl rfl (hN (.methodLinkNest RX2 51 yX1_strikeLast "ViewKeeper") (by decide +kernel)) (hts (.initialized RX1) (by decide +kernel)) (by decide +kernel) ⟨Nat.le_of_ble_eq_true rfl, Nat.le_of_ble_eq_true rfl⟩, hts (.instanceMethod yX1_strikeLast) (by decide +kernel), hts (.selects RX1 yX1_strikeLast yX1_strikeLast) (by decide +kernel)⟩ (wr_V nstW_ok hP hK hN hD 1 rfl rfl _) rfl rfl hl.1 rfl (lv_room (Nat.le_of_ble_eq_true rfl)) dX2_undo_16 ⟨Nat.zero_le _, Nat.zero_le _⟩) hD hS hA (fun H locs hP hD hS => ?_)
    have hP : va_P (dC, dI) vwCl (vkW a cA (n - 1) hd fm rp rq (ndA (n - 1) hd fm rp rq) nw bf su sI sO) H := hP
    have hD : va_D A (vkW a cA (n - 1) hd fm rp rq (ndA (n - 1) hd fm rp rq) nw bf su sI sO) := hD
    refine lv_aload_n hx hb dX2_undo_19 rfl (lv_at hl 0 rfl) ?_
    refine hx_wrv (va_runV (As := []) (rest := []) ⟨hx, hb, hml, hown, hts⟩ (c_X2_remakeViews l dC dI a cA (n - 1) hd fm rp rq (ndA (n - 1) hd fm rp rq) nw bf su sI sO (ruOk_pred hy_0) H.size) (cwV 0 hts gX2_undo_X2_remakeViews rfl rfl rfl (by decide +kernel) ⟨Nat.le_of_ble_eq_true rfl, Nat.le_of_ble_eq_true rfl⟩) (wr_V nstW_ok hP hK hN hD 0 rfl rfl _) rfl rfl hl.1 rfl (lv_room (Nat.le_of_ble_eq_true rfl)) dX2_undo_20 ⟨Nat.zero_le _, Nat.zero_le _⟩) hD hS hA (fun H locs hP hD hS => ?_)
    have hP : va_P (dC, dI) vwCl (vkW a cA ((n - 1)) hd fm rp rq ((ndA (n - 1) hd fm rp rq)) (rmM (n - 1) hd fm rp rq (ndA (n - 1) hd fm rp rq) nw) (rmM (n - 1) hd fm rp rq (ndA (n - 1) hd fm rp rq) nw) (fun _ => nI 0) sI sO) H := hP
    have hD : va_D A (vkW a cA ((n - 1)) hd fm rp rq ((ndA (n - 1) hd fm rp rq)) (rmM (n - 1) hd fm rp rq (ndA (n - 1) hd fm rp rq) nw) (rmM (n - 1) hd fm rp rq (ndA (n - 1) hd fm rp rq) nw) (fun _ => nI 0) sI sO) := hD
    refine lv_aload_n hx hb dX2_undo_23 rfl (lv_at hl 0 rfl) ?_
    refine va_get (D := (dC, dI)) (ci := 2) (v := .ref (a 1)) (C := RX2) (T := TX2) (N := 6) hx hb hts in_X2 hown hK hP 0 rfl rfl 0 (by decide) lf_10 (fun _ h9 => h9) rfl dX2_undo_24 ?_
    refine va_getN (D := (dC, dI)) (ci := 1) (v := .int (nI ((n - 1)))) (C := RX1) (T := TX1) (N := 3) hx hb hts in_X1 hown hK hP 1 rfl rfl 2 (by decide) lf_39 (fun _ h9 => h9) rfl dX2_undo_27 ?_
    have e9 : vkW a cA ((n - 1)) hd fm rp rq ((ndA (n - 1) hd fm rp rq)) (rmM (n - 1) hd fm rp rq (ndA (n - 1) hd fm rp rq) nw) (rmM (n - 1) hd fm rp rq (ndA (n - 1) hd fm rp rq) nw) (fun _ => nI 0) sI sO = vkW a cA (n - 1) hd fm rp rq (ndA (n - 1) hd fm rp rq) (rmM (n - 1) hd fm rp rq (ndA (n - 1) hd fm rp rq) nw) (rmM (n - 1) hd fm rp rq (ndA (n - 1) hd fm rp rq) nw) (fun _ => nI 0) sI sO := rfl
    rw [e9] at hP hD
    subst hAe
    exact W.iret (v := nI ((n - 1))) hx hb hr (fun t ht hW => ⟨⟨_, (), rfl, rfl, by rw [ht]; exact hP, va_K.moved hW.alike hK, hD⟩, hS.F ht⟩) hS.2.2 dX2_undo_30
  · exact absurd c_1 (by omega)
set_option maxHeartbeats 4000000 in
set_option maxRecDepth 100000 in
theorem c_X2_stage_b (l : Launch) (dC : Nat → ClassId) (dI : Nat → Nat → Nat) (a : Nat → Nat) (cA : Nat → ClassId) (n : Nat) (hd fm rp rq : Nat → Nat) (nd nw bf su sI sO : Nat → Int32) (r0 x0 y0 : Int32) (b : Bool) (hy_0 : stGood r0 x0 y0 = false) : WrI l yX2_stage wsX2_stage ({ frames := 1, cells := 0, slots := 0, locals := 21 }) (dC, dI) vwCl (vkW a cA n hd fm rp rq nd nw bf su sI sO) (vkW a cA n hd fm rp rq nd nw bf su sI sO) (vkT cA) nstW [.ref (a 0), .int (r0), .int (x0), .int (y0), .int (bI b)] (bI false) := by
  intro sz
  refine Met.ofW (cc := cX2_stage) (maxL := 6) (ret := (some .boolean)) (by decide) rfl ?_
  intro p e s m args below meth c s₁ B hml hv
  obtain ⟨rfl, hsz, ⟨hP, hK, hN⟩, hD0⟩ := hv
  subst hsz
  have hx := B.exec
  have hb := B.bytes
  have hr := B.returns
  have hts := atoms_spec (ws := wsX2_stage) B.pre
  have hown : s.vm.findClass RX2 = some m.cls := findClass_of_methodNamed B.named
  have hlocks := B.notSynchronized
  obtain ⟨A, hAe⟩ : ∃ A, A = va_A (vkW a cA n hd fm rp rq nd nw bf su sI sO) s.heap.size := ⟨_, rfl⟩
  have hD : va_D A (vkW a cA n hd fm rp rq nd nw bf su sI sO) := by rw [hAe]; exact hD0.self (sz := s.heap.size)
  have hA : ∀ q : Nat, s.heap.size ≤ q → A q := fun q h => by rw [hAe]; exact Or.inr h
  have hS : va_S A s.heap s.heap [] := va_S.rf
  have hP : va_P (dC, dI) vwCl (vkW a cA n hd fm rp rq nd nw bf su sI sO) s.heap := hP
  have lf_26 := hts (.fieldLink RX2 26 "ViewKeeper" "stagedIn" "[I") (by decide +kernel)
  have in_X2 : ∀ w ∈ u_ws RX2 TX2 6, w ∈ wsX2_stage := by decide +kernel
  have lf_29 := hts (.fieldLink RX2 29 "ViewKeeper" "stagedOut" "[I") (by decide +kernel)
  have hl := lv_entry ([.ref (a 0), .int (r0), .int (x0), .int (y0), .int (bI b)]) (n := 6) (Nat.le_of_ble_eq_true rfl)
  rw [lg_entry_eq]
  generalize (lg_sl ([.ref (a 0), .int (r0), .int (x0), .int (y0), .int (bI b)]) ++ List.replicate (6 - (lg_sl ([.ref (a 0), .int (r0), .int (x0), .int (y0), .int (bI b)])).length) Slot.unset).toArray = ls at hl ⊢
  have hl : lv_has ls 6 [(0, .ref (a 0)), (1, .int (r0)), (2, .int (x0)), (3, .int (y0)), (4, .int (bI b))] := hl
  refine lv_iload_n hx hb dX2_stage_0 rfl (lv_at hl 1 rfl) ?_
  refine hx_read (va_runS (As := [.int (r0)]) (rest := []) ⟨hx, hb, hml, hown, hts⟩ (c_X2_isRelation l r0) (va_cwS 1 hts gX2_stage_X2_isRelation rfl rfl rfl (by decide +kernel) ⟨Nat.le_of_ble_eq_true rfl, Nat.le_of_ble_eq_true rfl⟩) (nu_S _) rfl rfl hl.1 rfl (lv_room (Nat.le_of_ble_eq_true rfl)) dX2_stage_1 ⟨Nat.zero_le _, Nat.zero_le _⟩) ?_
  refine hx_ifB (tgt := 28) hx hb dX2_stage_4 (by decide) (fun c_1 => ?_) (fun c_1 => ?_)
  · refine lv_iconst (v := nI 0) hx hb dX2_stage_28 (by decide) ?_
    have e9 : vkW a cA n hd fm rp rq nd nw bf su sI sO = vkW a cA n hd fm rp rq nd nw bf su sI sO := rfl
    rw [e9] at hP hD
    subst hAe
    exact W.zret (v := nI 0) hx hb hr rfl (fun t ht hW => ⟨⟨_, (), rfl, rfl, by rw [ht]; exact hP, va_K.moved hW.alike hK, hD⟩, hS.F ht⟩) hS.2.2 dX2_stage_29
  · refine lv_iload_n hx hb dX2_stage_7 rfl (lv_at hl 1 rfl) ?_
    refine hx_read (va_runS (As := [.int (r0)]) (rest := []) ⟨hx, hb, hml, hown, hts⟩ (c_X2_isView l r0) (va_cwS 1 hts gX2_stage_X2_isView rfl rfl rfl (by decide +kernel) ⟨Nat.le_of_ble_eq_true rfl, Nat.le_of_ble_eq_true rfl⟩) (nu_S _) rfl rfl hl.1 rfl (lv_room (Nat.le_of_ble_eq_true rfl)) dX2_stage_8 ⟨Nat.zero_le _, Nat.zero_le _⟩) ?_
    refine hx_ifnB (tgt := 28) hx hb dX2_stage_11 (by decide) (fun c_2 => ?_) (fun c_2 => ?_)
    · refine lv_iconst (v := nI 0) hx hb dX2_stage_28 (by decide) ?_
      have e9 : vkW a cA n hd fm rp rq nd nw bf su sI sO = vkW a cA n hd fm rp rq nd nw bf su sI sO := rfl
      rw [e9] at hP hD
      subst hAe
      exact W.zret (v := nI 0) hx hb hr rfl (fun t ht hW => ⟨⟨_, (), rfl, rfl, by rw [ht]; exact hP, va_K.moved hW.alike hK, hD⟩, hS.F ht⟩) hS.2.2 dX2_stage_29
    · refine lv_iload_n hx hb dX2_stage_14 rfl (lv_at hl 2 rfl) ?_
      refine hx_read (va_runS (As := [.int (x0)]) (rest := []) ⟨hx, hb, hml, hown, hts⟩ (c_X2_isThing l x0) (va_cwS 1 hts gX2_stage_X2_isThing rfl rfl rfl (by decide +kernel) ⟨Nat.le_of_ble_eq_true rfl, Nat.le_of_ble_eq_true rfl⟩) (nu_S _) rfl rfl hl.1 rfl (lv_room (Nat.le_of_ble_eq_true rfl)) dX2_stage_15 ⟨Nat.zero_le _, Nat.zero_le _⟩) ?_
      refine hx_ifB (tgt := 28) hx hb dX2_stage_18 (by decide) (fun c_3 => ?_) (fun c_3 => ?_)
      · refine lv_iconst (v := nI 0) hx hb dX2_stage_28 (by decide) ?_
        have e9 : vkW a cA n hd fm rp rq nd nw bf su sI sO = vkW a cA n hd fm rp rq nd nw bf su sI sO := rfl
        rw [e9] at hP hD
        subst hAe
        exact W.zret (v := nI 0) hx hb hr rfl (fun t ht hW => ⟨⟨_, (), rfl, rfl, by rw [ht]; exact hP, va_K.moved hW.alike hK, hD⟩, hS.F ht⟩) hS.2.2 dX2_stage_29
      · refine lv_iload_n hx hb dX2_stage_21 rfl (lv_at hl 3 rfl) ?_
        refine hx_read (va_runS (As := [.int (y0)]) (rest := []) ⟨hx, hb, hml, hown, hts⟩ (c_X2_isThing l y0) (va_cwS 1 hts gX2_stage_X2_isThing rfl rfl rfl (by decide +kernel) ⟨Nat.le_of_ble_eq_true rfl, Nat.le_of_ble_eq_true rfl⟩) (nu_S _) rfl rfl hl.1 rfl (lv_room (Nat.le_of_ble_eq_true rfl)) dX2_stage_22 ⟨Nat.zero_le _, Nat.zero_le _⟩) ?_
        refine hx_ifnB (tgt := 30) hx hb dX2_stage_25 (by decide) (fun c_4 => ?_) (fun c_4 => ?_)
        · exact absurd hy_0 (by simp [stGood, c_1, c_2, c_3, c_4])
        · refine lv_iconst (v := nI 0) hx hb dX2_stage_28 (by decide) ?_
          have e9 : vkW a cA n hd fm rp rq nd nw bf su sI sO = vkW a cA n hd fm rp rq nd nw bf su sI sO := rfl
          rw [e9] at hP hD
          subst hAe
          exact W.zret (v := nI 0) hx hb hr rfl (fun t ht hW => ⟨⟨_, (), rfl, rfl, by rw [ht]; exact hP, va_K.moved hW.alike hK, hD⟩, hS.F ht⟩) hS.2.2 dX2_stage_29
set_option maxHeartbeats 4000000 in
set_option maxRecDepth 100000 in
theorem c_X2_stage_g (l : Launch) (dC : Nat → ClassId) (dI : Nat → Nat → Nat) (a : Nat → Nat) (cA : Nat → ClassId) (n : Nat) (hd fm rp rq : Nat → Nat) (nd nw bf su sI sO : Nat → Int32) (r x y : Nat) (b : Bool) (hy_0 : r < 2) (hy_1 : x < 5) (hy_2 : y < 5) : WrI l yX2_stage wsX2_stage ({ frames := 1, cells := 0, slots := 0, locals := 21 }) (dC, dI) vwCl (vkW a cA n hd fm rp rq nd nw bf su sI sO) (vkW a cA n hd fm rp rq nd nw bf su (stI b sI r (5 * x + y)) (stO b sO r (5 * x + y))) (vkT cA) nstW [.ref (a 0), .int (nI r), .int (nI x), .int (nI y), .int (bI b)] (bI true) := by
  intro sz
  refine Met.ofW (cc := cX2_stage) (maxL := 6) (ret := (some .boolean)) (by decide) rfl ?_
  intro p e s m args below meth c s₁ B hml hv
  obtain ⟨rfl, hsz, ⟨hP, hK, hN⟩, hD0⟩ := hv
  subst hsz
  have hx := B.exec
  have hb := B.bytes
  have hr := B.returns
  have hts := atoms_spec (ws := wsX2_stage) B.pre
  have hown : s.vm.findClass RX2 = some m.cls := findClass_of_methodNamed B.named
  have hlocks := B.notSynchronized
  obtain ⟨A, hAe⟩ : ∃ A, A = va_A (vkW a cA n hd fm rp rq nd nw bf su sI sO) s.heap.size := ⟨_, rfl⟩
  have hD : va_D A (vkW a cA n hd fm rp rq nd nw bf su sI sO) := by rw [hAe]; exact hD0.self (sz := s.heap.size)
  have hA : ∀ q : Nat, s.heap.size ≤ q → A q := fun q h => by rw [hAe]; exact Or.inr h
  have hS : va_S A s.heap s.heap [] := va_S.rf
  have hP : va_P (dC, dI) vwCl (vkW a cA n hd fm rp rq nd nw bf su sI sO) s.heap := hP
  have kr : isRl (nI r) = true := isRl_nI (by omega)
  have kw : isVw (nI r) = false := isVw_f (by omega)
  have kx1 : isTh (nI x) = true := isTh_nI (by omega)
  have ky : isTh (nI y) = true := isTh_nI (by omega)
  have lf_26 := hts (.fieldLink RX2 26 "ViewKeeper" "stagedIn" "[I") (by decide +kernel)
  have in_X2 : ∀ w ∈ u_ws RX2 TX2 6, w ∈ wsX2_stage := by decide +kernel
  have lf_29 := hts (.fieldLink RX2 29 "ViewKeeper" "stagedOut" "[I") (by decide +kernel)
  have hl := lv_entry ([.ref (a 0), .int (nI r), .int (nI x), .int (nI y), .int (bI b)]) (n := 6) (Nat.le_of_ble_eq_true rfl)
  rw [lg_entry_eq]
  generalize (lg_sl ([.ref (a 0), .int (nI r), .int (nI x), .int (nI y), .int (bI b)]) ++ List.replicate (6 - (lg_sl ([.ref (a 0), .int (nI r), .int (nI x), .int (nI y), .int (bI b)])).length) Slot.unset).toArray = ls at hl ⊢
  have hl : lv_has ls 6 [(0, .ref (a 0)), (1, .int (nI r)), (2, .int (nI x)), (3, .int (nI y)), (4, .int (bI b))] := hl
  refine lv_iload_n hx hb dX2_stage_0 rfl (lv_at hl 1 rfl) ?_
  refine hx_read (va_runS (As := [.int (nI r)]) (rest := []) ⟨hx, hb, hml, hown, hts⟩ (c_X2_isRelation l (nI r)) (va_cwS 1 hts gX2_stage_X2_isRelation rfl rfl rfl (by decide +kernel) ⟨Nat.le_of_ble_eq_true rfl, Nat.le_of_ble_eq_true rfl⟩) (nu_S _) rfl rfl hl.1 rfl (lv_room (Nat.le_of_ble_eq_true rfl)) dX2_stage_1 ⟨Nat.zero_le _, Nat.zero_le _⟩) ?_
  refine hx_ifB (tgt := 28) hx hb dX2_stage_4 (by decide) (fun c_1 => ?_) (fun c_1 => ?_)
  · exact absurd (kr.symm.trans c_1) (by decide)
  · refine lv_iload_n hx hb dX2_stage_7 rfl (lv_at hl 1 rfl) ?_
    refine hx_read (va_runS (As := [.int (nI r)]) (rest := []) ⟨hx, hb, hml, hown, hts⟩ (c_X2_isView l (nI r)) (va_cwS 1 hts gX2_stage_X2_isView rfl rfl rfl (by decide +kernel) ⟨Nat.le_of_ble_eq_true rfl, Nat.le_of_ble_eq_true rfl⟩) (nu_S _) rfl rfl hl.1 rfl (lv_room (Nat.le_of_ble_eq_true rfl)) dX2_stage_8 ⟨Nat.zero_le _, Nat.zero_le _⟩) ?_
    refine hx_ifnB (tgt := 28) hx hb dX2_stage_11 (by decide) (fun c_2 => ?_) (fun c_2 => ?_)
    · exact absurd (kw.symm.trans c_2) (by decide)
    · refine lv_iload_n hx hb dX2_stage_14 rfl (lv_at hl 2 rfl) ?_
      refine hx_read (va_runS (As := [.int (nI x)]) (rest := []) ⟨hx, hb, hml, hown, hts⟩ (c_X2_isThing l (nI x)) (va_cwS 1 hts gX2_stage_X2_isThing rfl rfl rfl (by decide +kernel) ⟨Nat.le_of_ble_eq_true rfl, Nat.le_of_ble_eq_true rfl⟩) (nu_S _) rfl rfl hl.1 rfl (lv_room (Nat.le_of_ble_eq_true rfl)) dX2_stage_15 ⟨Nat.zero_le _, Nat.zero_le _⟩) ?_
      refine hx_ifB (tgt := 28) hx hb dX2_stage_18 (by decide) (fun c_3 => ?_) (fun c_3 => ?_)
      · exact absurd (kx1.symm.trans c_3) (by decide)
      · refine lv_iload_n hx hb dX2_stage_21 rfl (lv_at hl 3 rfl) ?_
        refine hx_read (va_runS (As := [.int (nI y)]) (rest := []) ⟨hx, hb, hml, hown, hts⟩ (c_X2_isThing l (nI y)) (va_cwS 1 hts gX2_stage_X2_isThing rfl rfl rfl (by decide +kernel) ⟨Nat.le_of_ble_eq_true rfl, Nat.le_of_ble_eq_true rfl⟩) (nu_S _) rfl rfl hl.1 rfl (lv_room (Nat.le_of_ble_eq_true rfl)) dX2_stage_22 ⟨Nat.zero_le _, Nat.zero_le _⟩) ?_
        refine hx_ifnB (tgt := 30) hx hb dX2_stage_25 (by decide) (fun c_4 => ?_) (fun c_4 => ?_)
        · refine lv_iload_n hx hb dX2_stage_30 rfl (lv_at hl 2 rfl) ?_
          refine lv_iload_n hx hb dX2_stage_31 rfl (lv_at hl 3 rfl) ?_
          refine hx_read (va_runS (As := [.int (nI x), .int (nI y)]) (rest := []) ⟨hx, hb, hml, hown, hts⟩ (c_X2_bit l x y) (va_cwS 2 hts gX2_stage_X2_bit rfl rfl rfl (by decide +kernel) ⟨Nat.le_of_ble_eq_true rfl, Nat.le_of_ble_eq_true rfl⟩) (nu_S _) rfl rfl hl.1 rfl (lv_room (Nat.le_of_ble_eq_true rfl)) dX2_stage_32 ⟨Nat.zero_le _, Nat.zero_le _⟩) ?_
          refine lv_istore (lv' := [(5, .int (bm (5 * x + y))), (0, .ref (a 0)), (1, .int (nI r)), (2, .int (nI x)), (3, .int (nI y)), (4, .int (bI b))]) hx hb dX2_stage_35 hl (by decide) rfl (fun ls hl => ?_)
          refine lv_aload_n hx hb dX2_stage_37 rfl (lv_at hl 1 rfl) ?_
          refine va_get (D := (dC, dI)) (ci := 2) (v := .ref (a 7)) (C := RX2) (T := TX2) (N := 6) hx hb hts in_X2 hown hK hP 0 rfl rfl 4 (by decide) lf_26 (fun _ h9 => h9) rfl dX2_stage_38 ?_
          refine lv_iload_n hx hb dX2_stage_41 rfl (lv_at hl 2 rfl) ?_
          refine lv_iload hx hb dX2_stage_42 (lv_at hl 5 rfl) ?_
          refine hx_ifB (tgt := 59) hx hb dX2_stage_44 (by decide) (fun c_5 => ?_) (fun c_5 => ?_)
          · refine lv_aload_n hx hb dX2_stage_59 rfl (lv_at hl 1 rfl) ?_
            refine va_get (D := (dC, dI)) (ci := 2) (v := .ref (a 7)) (C := RX2) (T := TX2) (N := 6) hx hb hts in_X2 hown hK hP 0 rfl rfl 4 (by decide) lf_26 (fun _ h9 => h9) rfl dX2_stage_60 ?_
            refine lv_iload_n hx hb dX2_stage_63 rfl (lv_at hl 2 rfl) ?_
            refine hx_iald hx hb hK hP 7 5 rfl rfl (by omega) (by omega) dX2_stage_64 ?_
            refine lv_iload hx hb dX2_stage_65 (lv_at hl 0 rfl) ?_
            refine lv_iconst (v := (-1)) hx hb dX2_stage_67 (by decide) ?_
            refine lv_ixor hx hb dX2_stage_68 ?_
            refine lv_iand hx hb dX2_stage_69 ?_
            refine hx_iast hx hb hK hP hD hS 7 5 rfl rfl (by omega) (by omega) dX2_stage_70 (fun H locs hP hD hS => ?_)
            have hP : va_P (dC, dI) vwCl (vkW a cA n hd fm rp rq nd nw bf su (upd sI r ((sI r) &&& ((bm (5 * x + y)) ^^^ ((-1))))) sO) H := hP
            have hD : va_D A (vkW a cA n hd fm rp rq nd nw bf su (upd sI r ((sI r) &&& ((bm (5 * x + y)) ^^^ ((-1))))) sO) := hD
            refine lv_aload_n hx hb dX2_stage_71 rfl (lv_at hl 1 rfl) ?_
            refine va_get (D := (dC, dI)) (ci := 2) (v := .ref (a 8)) (C := RX2) (T := TX2) (N := 6) hx hb hts in_X2 hown hK hP 0 rfl rfl 5 (by decide) lf_29 (fun _ h9 => h9) rfl dX2_stage_72 ?_
            refine lv_iload_n hx hb dX2_stage_75 rfl (lv_at hl 2 rfl) ?_
            refine lv_iload hx hb dX2_stage_76 (lv_at hl 5 rfl) ?_
            refine hx_ifB (tgt := 95) hx hb dX2_stage_78 (by decide) (fun c_6 => ?_) (fun c_6 => ?_)
            · refine lv_aload_n hx hb dX2_stage_95 rfl (lv_at hl 1 rfl) ?_
              refine va_get (D := (dC, dI)) (ci := 2) (v := .ref (a 8)) (C := RX2) (T := TX2) (N := 6) hx hb hts in_X2 hown hK hP 0 rfl rfl 5 (by decide) lf_29 (fun _ h9 => h9) rfl dX2_stage_96 ?_
              refine lv_iload_n hx hb dX2_stage_99 rfl (lv_at hl 2 rfl) ?_
              refine hx_iald hx hb hK hP 8 6 rfl rfl (by omega) (by omega) dX2_stage_100 ?_
              refine lv_iload hx hb dX2_stage_101 (lv_at hl 0 rfl) ?_
              refine lv_ior hx hb dX2_stage_103 ?_
              refine hx_iast hx hb hK hP hD hS 8 6 rfl rfl (by omega) (by omega) dX2_stage_104 (fun H locs hP hD hS => ?_)
              have hP : va_P (dC, dI) vwCl (vkW a cA n hd fm rp rq nd nw bf su (upd sI r ((sI r) &&& ((bm (5 * x + y)) ^^^ ((-1))))) (upd sO r ((sO r) ||| (bm (5 * x + y))))) H := hP
              have hD : va_D A (vkW a cA n hd fm rp rq nd nw bf su (upd sI r ((sI r) &&& ((bm (5 * x + y)) ^^^ ((-1))))) (upd sO r ((sO r) ||| (bm (5 * x + y))))) := hD
              refine lv_iconst (v := nI 1) hx hb dX2_stage_105 (by decide) ?_
              have e9 : vkW a cA n hd fm rp rq nd nw bf su (upd sI r ((sI r) &&& ((bm (5 * x + y)) ^^^ ((-1))))) (upd sO r ((sO r) ||| (bm (5 * x + y)))) = vkW a cA n hd fm rp rq nd nw bf su (stI b sI r (5 * x + y)) (stO b sO r (5 * x + y)) := by simp only [stI, stO, c_1, c_2, c_3, c_4, c_5, c_6, ↓reduceIte, decide_true, decide_false, Bool.not_true, Bool.not_false, Bool.or_true, Bool.true_or, Bool.or_false, Bool.false_or, Bool.and_true, Bool.true_and, Bool.and_false, Bool.false_and, and_true, true_and, and_false, false_and, and_self, or_self, or_true, true_or, or_false, false_or, Bool.false_eq_true, Bool.true_eq_false, not_true_eq_false, not_false_eq_true, Bool.or_self, decide_eq_true_eq]
              rw [e9] at hP hD
              subst hAe
              exact W.zret (v := nI 1) hx hb hr rfl (fun t ht hW => ⟨⟨_, (), rfl, rfl, by rw [ht]; exact hP, va_K.moved hW.alike hK, hD⟩, hS.F ht⟩) hS.2.2 dX2_stage_106
            · exact absurd (c_5.symm.trans c_6) (by decide)
          · refine lv_aload_n hx hb dX2_stage_47 rfl (lv_at hl 1 rfl) ?_
            refine va_get (D := (dC, dI)) (ci := 2) (v := .ref (a 7)) (C := RX2) (T := TX2) (N := 6) hx hb hts in_X2 hown hK hP 0 rfl rfl 4 (by decide) lf_26 (fun _ h9 => h9) rfl dX2_stage_48 ?_
            refine lv_iload_n hx hb dX2_stage_51 rfl (lv_at hl 2 rfl) ?_
            refine hx_iald hx hb hK hP 7 5 rfl rfl (by omega) (by omega) dX2_stage_52 ?_
            refine lv_iload hx hb dX2_stage_53 (lv_at hl 0 rfl) ?_
            refine lv_ior hx hb dX2_stage_55 ?_
            refine lv_goto (tgt := 70) hx hb dX2_stage_56 (by decide) ?_
            refine hx_iast hx hb hK hP hD hS 7 5 rfl rfl (by omega) (by omega) dX2_stage_70 (fun H locs hP hD hS => ?_)
            have hP : va_P (dC, dI) vwCl (vkW a cA n hd fm rp rq nd nw bf su (upd sI r ((sI r) ||| (bm (5 * x + y)))) sO) H := hP
            have hD : va_D A (vkW a cA n hd fm rp rq nd nw bf su (upd sI r ((sI r) ||| (bm (5 * x + y)))) sO) := hD
            refine lv_aload_n hx hb dX2_stage_71 rfl (lv_at hl 1 rfl) ?_
            refine va_get (D := (dC, dI)) (ci := 2) (v := .ref (a 8)) (C := RX2) (T := TX2) (N := 6) hx hb hts in_X2 hown hK hP 0 rfl rfl 5 (by decide) lf_29 (fun _ h9 => h9) rfl dX2_stage_72 ?_
            refine lv_iload_n hx hb dX2_stage_75 rfl (lv_at hl 2 rfl) ?_
            refine lv_iload hx hb dX2_stage_76 (lv_at hl 5 rfl) ?_
            refine hx_ifB (tgt := 95) hx hb dX2_stage_78 (by decide) (fun c_7 => ?_) (fun c_7 => ?_)
            · exact absurd (c_5.symm.trans c_7) (by decide)
            · refine lv_aload_n hx hb dX2_stage_81 rfl (lv_at hl 1 rfl) ?_
              refine va_get (D := (dC, dI)) (ci := 2) (v := .ref (a 8)) (C := RX2) (T := TX2) (N := 6) hx hb hts in_X2 hown hK hP 0 rfl rfl 5 (by decide) lf_29 (fun _ h9 => h9) rfl dX2_stage_82 ?_
              refine lv_iload_n hx hb dX2_stage_85 rfl (lv_at hl 2 rfl) ?_
              refine hx_iald hx hb hK hP 8 6 rfl rfl (by omega) (by omega) dX2_stage_86 ?_
              refine lv_iload hx hb dX2_stage_87 (lv_at hl 0 rfl) ?_
              refine lv_iconst (v := (-1)) hx hb dX2_stage_89 (by decide) ?_
              refine lv_ixor hx hb dX2_stage_90 ?_
              refine lv_iand hx hb dX2_stage_91 ?_
              refine lv_goto (tgt := 104) hx hb dX2_stage_92 (by decide) ?_
              refine hx_iast hx hb hK hP hD hS 8 6 rfl rfl (by omega) (by omega) dX2_stage_104 (fun H locs hP hD hS => ?_)
              have hP : va_P (dC, dI) vwCl (vkW a cA n hd fm rp rq nd nw bf su (upd sI r ((sI r) ||| (bm (5 * x + y)))) (upd sO r ((sO r) &&& ((bm (5 * x + y)) ^^^ ((-1)))))) H := hP
              have hD : va_D A (vkW a cA n hd fm rp rq nd nw bf su (upd sI r ((sI r) ||| (bm (5 * x + y)))) (upd sO r ((sO r) &&& ((bm (5 * x + y)) ^^^ ((-1)))))) := hD
              refine lv_iconst (v := nI 1) hx hb dX2_stage_105 (by decide) ?_
              have e9 : vkW a cA n hd fm rp rq nd nw bf su (upd sI r ((sI r) ||| (bm (5 * x + y)))) (upd sO r ((sO r) &&& ((bm (5 * x + y)) ^^^ ((-1))))) = vkW a cA n hd fm rp rq nd nw bf su (stI b sI r (5 * x + y)) (stO b sO r (5 * x + y)) := by simp only [stI, stO, c_1, c_2, c_3, c_4, c_5, c_7, ↓reduceIte, decide_true, decide_false, Bool.not_true, Bool.not_false, Bool.or_true, Bool.true_or, Bool.or_false, Bool.false_or, Bool.and_true, Bool.true_and, Bool.and_false, Bool.false_and, and_true, true_and, and_false, false_and, and_self, or_self, or_true, true_or, or_false, false_or, Bool.false_eq_true, Bool.true_eq_false, not_true_eq_false, not_false_eq_true, Bool.or_self, decide_eq_true_eq]
              rw [e9] at hP hD
              subst hAe
              exact W.zret (v := nI 1) hx hb hr rfl (fun t ht hW => ⟨⟨_, (), rfl, rfl, by rw [ht]; exact hP, va_K.moved hW.alike hK, hD⟩, hS.F ht⟩) hS.2.2 dX2_stage_106
        · exact absurd (ky.symm.trans c_4) (by decide)
set_option maxHeartbeats 4000000 in
set_option maxRecDepth 100000 in
theorem c_X2_commit (l : Launch) (dC : Nat → ClassId) (dI : Nat → Nat → Nat) (a : Nat → Nat) (cA : Nat → ClassId) (n : Nat) (hd fm rp rq : Nat → Nat) (nd nw bf su sI sO : Nat → Int32) (hy_0 : ruOk n hd fm rp rq) : WrI l yX2_commit wsX2_commit ({ frames := 5, cells := 0, slots := 0, locals := 119 }) (dC, dI) vwCl (vkW a cA n hd fm rp rq nd nw bf su sI sO) (vkW a cA n hd fm rp rq nd (cmW n hd fm rp rq nd nw sI sO) nw (cmS n hd fm rp rq nd nw sI sO) (fun _ => nI 0) (fun _ => nI 0)) (vkT cA) nstW [.ref (a 0)] (nI (cmF (cmW n hd fm rp rq nd nw sI sO) nw 7 0 0)) := by
  intro sz
  refine Met.ofW (cc := cX2_commit) (maxL := 3) (ret := (some .int)) (by decide) rfl ?_
  intro p e s m args below meth c s₁ B hml hv
  obtain ⟨rfl, hsz, ⟨hP, hK, hN⟩, hD0⟩ := hv
  subst hsz
  have hx := B.exec
  have hb := B.bytes
  have hr := B.returns
  have hts := atoms_spec (ws := wsX2_commit) B.pre
  have hown : s.vm.findClass RX2 = some m.cls := findClass_of_methodNamed B.named
  have hlocks := B.notSynchronized
  obtain ⟨A, hAe⟩ : ∃ A, A = va_A (vkW a cA n hd fm rp rq nd nw bf su sI sO) s.heap.size := ⟨_, rfl⟩
  have hD : va_D A (vkW a cA n hd fm rp rq nd nw bf su sI sO) := by rw [hAe]; exact hD0.self (sz := s.heap.size)
  have hA : ∀ q : Nat, s.heap.size ≤ q → A q := fun q h => by rw [hAe]; exact Or.inr h
  have hS : va_S A s.heap s.heap [] := va_S.rf
  have hP : va_P (dC, dI) vwCl (vkW a cA n hd fm rp rq nd nw bf su sI sO) s.heap := hP
  have hl := lv_entry ([.ref (a 0)]) (n := 3) (Nat.le_of_ble_eq_true rfl)
  rw [lg_entry_eq]
  generalize (lg_sl ([.ref (a 0)]) ++ List.replicate (3 - (lg_sl ([.ref (a 0)])).length) Slot.unset).toArray = ls at hl ⊢
  have hl : lv_has ls 3 [(0, .ref (a 0))] := hl
  refine lv_aload_n hx hb dX2_commit_0 rfl (lv_at hl 0 rfl) ?_
  refine hx_wrv (va_runV (As := []) (rest := []) ⟨hx, hb, hml, hown, hts⟩ (c_X2_forgetChanges l dC dI a cA n hd fm rp rq nd nw bf su sI sO s.heap.size) (cwV 0 hts gX2_commit_X2_forgetChanges rfl rfl rfl (by decide +kernel) ⟨Nat.le_of_ble_eq_true rfl, Nat.le_of_ble_eq_true rfl⟩) (wr_V nstW_ok hP hK hN hD 0 rfl rfl _) rfl rfl hl.1 rfl (lv_room (Nat.le_of_ble_eq_true rfl)) dX2_commit_1 ⟨Nat.zero_le _, Nat.zero_le _⟩) hD hS hA (fun H locs hP hD hS => ?_)
  have hP : va_P (dC, dI) vwCl (vkW a cA n hd fm rp rq nd nw nw (fun _ => nI 0) sI sO) H := hP
  have hD : va_D A (vkW a cA n hd fm rp rq nd nw nw (fun _ => nI 0) sI sO) := hD
  refine lv_aload_n hx hb dX2_commit_4 rfl (lv_at hl 0 rfl) ?_
  refine hx_wrv (va_runV (As := []) (rest := []) ⟨hx, hb, hml, hown, hts⟩ (c_X2_doStaged l dC dI a cA n hd fm rp rq nd nw nw (fun _ => nI 0) sI sO H.size) (cwV 0 hts gX2_commit_X2_doStaged rfl rfl rfl (by decide +kernel) ⟨Nat.le_of_ble_eq_true rfl, Nat.le_of_ble_eq_true rfl⟩) (wr_V nstW_ok hP hK hN hD 0 rfl rfl _) rfl rfl hl.1 rfl (lv_room (Nat.le_of_ble_eq_true rfl)) dX2_commit_5 ⟨Nat.zero_le _, Nat.zero_le _⟩) hD hS hA (fun H locs hP hD hS => ?_)
  have hP : va_P (dC, dI) vwCl (vkW a cA n hd fm rp rq nd (dsF sI sO 2 0 nw) nw ((fun _ => nI 0)) (fun _ => nI 0) (fun _ => nI 0)) H := hP
  have hD : va_D A (vkW a cA n hd fm rp rq nd (dsF sI sO 2 0 nw) nw ((fun _ => nI 0)) (fun _ => nI 0) (fun _ => nI 0)) := hD
  refine lv_iconst (v := nI 1) hx hb dX2_commit_8 (by decide) ?_
  refine lv_istore_n (lv' := [(1, .int (nI 1)), (0, .ref (a 0))]) hx hb dX2_commit_9 rfl hl (by decide) rfl (fun ls hl => ?_)
  have L_10_0 : ∀ (nn : Nat) (L : Nat) (nw1 : Nat → Int32) (su1 : Nat → Int32), L + nn = 8 → ∀ (H : Heap) (locs : List Loc), va_P (dC, dI) vwCl (vkW a cA n hd fm rp rq nd nw1 nw su1 (fun _ => nI 0) (fun _ => nI 0)) H → va_D A (vkW a cA n hd fm rp rq nd nw1 nw su1 (fun _ => nI 0) (fun _ => nI 0)) → va_S A s.heap H locs → ∀ ls : Array Slot, lv_has ls 3 [(0, .ref (a 0)), (1, .int (nI L))] → (∀ (H : Heap) (locs : List Loc), va_P (dC, dI) vwCl (vkW a cA n hd fm rp rq nd ((clF n hd fm rp rq nd nw nn L nw1 su1).1) nw ((clF n hd fm rp rq nd nw nn L nw1 su1).2) (fun _ => nI 0) (fun _ => nI 0)) H → va_D A (vkW a cA n hd fm rp rq nd ((clF n hd fm rp rq nd nw nn L nw1 su1).1) nw ((clF n hd fm rp rq nd nw nn L nw1 su1).2) (fun _ => nI 0) (fun _ => nI 0)) → va_S A s.heap H locs → ∀ ls : Array Slot, lv_has ls 3 [(0, .ref (a 0)), (1, .int (nI 8))] → W p l e (headSpec wsX2_commit ({ frames := 5, cells := 0, slots := 0, locals := 119 })).room s m ([.ref (a 0)] : List Value).toArray below meth c H locs 0 0 (MQ below (va_Qi (fun (rz9 : Int32) (_ : Unit) => rz9 = (nI (cmF (cmW n hd fm rp rq nd nw sI sO) nw 7 0 0))) (wrB (dC, dI) vwCl (vkW a cA n hd fm rp rq nd nw bf su sI sO) (vkW a cA n hd fm rp rq nd (cmW n hd fm rp rq nd nw sI sO) nw (cmS n hd fm rp rq nd nw sI sO) (fun _ => nI 0) (fun _ => nI 0)) (vkT cA) s.heap.size) (va_A (vkW a cA n hd fm rp rq nd nw bf su sI sO) s.heap.size)) ([.ref (a 0)] : List Value).toArray s 0 0 (va_A (vkW a cA n hd fm rp rq nd nw bf su sI sO) s.heap.size)) (F0 m 37 ls [])) → W p l e (headSpec wsX2_commit ({ frames := 5, cells := 0, slots := 0, locals := 119 })).room s m ([.ref (a 0)] : List Value).toArray below meth c H locs 0 0 (MQ below (va_Qi (fun (rz9 : Int32) (_ : Unit) => rz9 = (nI (cmF (cmW n hd fm rp rq nd nw sI sO) nw 7 0 0))) (wrB (dC, dI) vwCl (vkW a cA n hd fm rp rq nd nw bf su sI sO) (vkW a cA n hd fm rp rq nd (cmW n hd fm rp rq nd nw sI sO) nw (cmS n hd fm rp rq nd nw sI sO) (fun _ => nI 0) (fun _ => nI 0)) (vkT cA) s.heap.size) (va_A (vkW a cA n hd fm rp rq nd nw bf su sI sO) s.heap.size)) ([.ref (a 0)] : List Value).toArray s 0 0 (va_A (vkW a cA n hd fm rp rq nd nw bf su sI sO) s.heap.size)) (F0 m 10 ls []) := by
    intro nn
    induction nn with
    | zero =>
      intro L nw1 su1 hnL H locs hP hD hS ls hl kx
      obtain rfl : L = 8 := by omega
      refine lv_iload_n hx hb dX2_commit_10 rfl (lv_at hl 1 rfl) ?_
      refine lv_bipush (v := nI 7) hx hb dX2_commit_11 (by decide) ?_
      refine hx_gtN (tgt := 37) hx hb dX2_commit_13 (by decide) (by omega) (by omega) (fun c_2 => ?_) (fun c_2 => ?_)
      · exact kx _ _ hP hD hS ls (lv_sub hl [0, 1] rfl)
      · exact absurd c_2 (by omega)
    | succ nn ih =>
      intro L nw1 su1 hnL H locs hP hD hS ls hl kx
      refine lv_iload_n hx hb dX2_commit_10 rfl (lv_at hl 1 rfl) ?_
      refine lv_bipush (v := nI 7) hx hb dX2_commit_11 (by decide) ?_
      refine hx_gtN (tgt := 37) hx hb dX2_commit_13 (by decide) (by omega) (by omega) (fun c_3 => ?_) (fun c_3 => ?_)
      · exact absurd c_3 (by omega)
      · refine lv_aload_n hx hb dX2_commit_16 rfl (lv_at hl 0 rfl) ?_
        refine lv_iload_n hx hb dX2_commit_17 rfl (lv_at hl 1 rfl) ?_
        refine hx_wrv (va_runV (As := [.int (nI L)]) (rest := []) ⟨hx, hb, hml, hown, hts⟩ (c_X2_findSuspects l dC dI a cA n hd fm rp rq nd nw1 nw su1 (fun _ => nI 0) (fun _ => nI 0) L (by omega) (by omega) H.size) (cwV 1 hts gX2_commit_X2_findSuspects rfl rfl rfl (by decide +kernel) ⟨Nat.le_of_ble_eq_true rfl, Nat.le_of_ble_eq_true rfl⟩) (wr_V nstW_ok hP hK hN hD 0 rfl rfl _) rfl rfl hl.1 rfl (lv_room (Nat.le_of_ble_eq_true rfl)) dX2_commit_18 ⟨Nat.zero_le _, Nat.zero_le _⟩) hD hS hA (fun H locs hP hD hS => ?_)
        have hP : va_P (dC, dI) vwCl (vkW a cA n hd fm rp rq nd nw1 nw (fsF n hd fm rp rq nd nw1 nw L 126 true su1) ((fun _ => nI 0)) ((fun _ => nI 0))) H := hP
        have hD : va_D A (vkW a cA n hd fm rp rq nd nw1 nw (fsF n hd fm rp rq nd nw1 nw L 126 true su1) ((fun _ => nI 0)) ((fun _ => nI 0))) := hD
        refine lv_aload_n hx hb dX2_commit_21 rfl (lv_at hl 0 rfl) ?_
        refine lv_iload_n hx hb dX2_commit_22 rfl (lv_at hl 1 rfl) ?_
        refine hx_wrv (va_runV (As := [.int (nI L)]) (rest := []) ⟨hx, hb, hml, hown, hts⟩ (c_X2_takeOutDoubtful l dC dI a cA n hd fm rp rq nd nw1 nw (fsF n hd fm rp rq nd nw1 nw L 126 true su1) ((fun _ => nI 0)) ((fun _ => nI 0)) L (by omega) H.size) (cwV 1 hts gX2_commit_X2_takeOutDoubtful rfl rfl rfl (by decide +kernel) ⟨Nat.le_of_ble_eq_true rfl, Nat.le_of_ble_eq_true rfl⟩) (wr_V nstW_ok hP hK hN hD 0 rfl rfl _) rfl rfl hl.1 rfl (lv_room (Nat.le_of_ble_eq_true rfl)) dX2_commit_23 ⟨Nat.zero_le _, Nat.zero_le _⟩) hD hS hA (fun H locs hP hD hS => ?_)
        have hP : va_P (dC, dI) vwCl (vkW a cA n hd fm rp rq nd (toF nd (fsF n hd fm rp rq nd nw1 nw L 126 true su1) L 5 2 nw1) nw ((fsF n hd fm rp rq nd nw1 nw L 126 true su1)) (((fun _ => nI 0))) (((fun _ => nI 0)))) H := hP
        have hD : va_D A (vkW a cA n hd fm rp rq nd (toF nd (fsF n hd fm rp rq nd nw1 nw L 126 true su1) L 5 2 nw1) nw ((fsF n hd fm rp rq nd nw1 nw L 126 true su1)) (((fun _ => nI 0))) (((fun _ => nI 0)))) := hD
        refine lv_aload_n hx hb dX2_commit_26 rfl (lv_at hl 0 rfl) ?_
        refine lv_iload_n hx hb dX2_commit_27 rfl (lv_at hl 1 rfl) ?_
        refine hx_wrv (va_runV (As := [.int (nI L)]) (rest := []) ⟨hx, hb, hml, hown, hts⟩ (c_X2_fill l dC dI a cA n hd fm rp rq nd (toF nd (fsF n hd fm rp rq nd nw1 nw L 126 true su1) L 5 2 nw1) nw ((fsF n hd fm rp rq nd nw1 nw L 126 true su1)) (((fun _ => nI 0))) (((fun _ => nI 0))) L (by omega) (by omega) H.size) (cwV 1 hts gX2_commit_X2_fill rfl rfl rfl (by decide +kernel) ⟨Nat.le_of_ble_eq_true rfl, Nat.le_of_ble_eq_true rfl⟩) (wr_V nstW_ok hP hK hN hD 0 rfl rfl _) rfl rfl hl.1 rfl (lv_room (Nat.le_of_ble_eq_true rfl)) dX2_commit_28 ⟨Nat.zero_le _, Nat.zero_le _⟩) hD hS hA (fun H locs hP hD hS => ?_)
        have hP : va_P (dC, dI) vwCl (vkW a cA n hd fm rp rq nd (flF n hd fm rp rq nd L 126 true (toF nd (fsF n hd fm rp rq nd nw1 nw L 126 true su1) L 5 2 nw1)) nw (((fsF n hd fm rp rq nd nw1 nw L 126 true su1))) ((((fun _ => nI 0)))) ((((fun _ => nI 0))))) H := hP
        have hD : va_D A (vkW a cA n hd fm rp rq nd (flF n hd fm rp rq nd L 126 true (toF nd (fsF n hd fm rp rq nd nw1 nw L 126 true su1) L 5 2 nw1)) nw (((fsF n hd fm rp rq nd nw1 nw L 126 true su1))) ((((fun _ => nI 0)))) ((((fun _ => nI 0))))) := hD
        refine lv_iinc (v := nI (L + 1)) (lv' := [(1, .int (nI (L + 1))), (0, .ref (a 0))]) hx hb dX2_commit_31 hl (k := 1) rfl (nI_add L 1) (by decide) rfl (fun ls hl => ?_)
        refine lv_goto (tgt := 10) hx hb dX2_commit_34 (by decide) ?_
        have kx := kx
        rw [show (clF n hd fm rp rq nd nw (nn + 1) L nw1 su1).1 = (clF n hd fm rp rq nd nw nn (L + 1) (flF n hd fm rp rq nd L 126 true (toF nd (fsF n hd fm rp rq nd nw1 nw L 126 true su1) L 5 2 nw1)) (((fsF n hd fm rp rq nd nw1 nw L 126 true su1)))).1 from rfl] at kx
        rw [show (clF n hd fm rp rq nd nw (nn + 1) L nw1 su1).2 = (clF n hd fm rp rq nd nw nn (L + 1) (flF n hd fm rp rq nd L 126 true (toF nd (fsF n hd fm rp rq nd nw1 nw L 126 true su1) L 5 2 nw1)) (((fsF n hd fm rp rq nd nw1 nw L 126 true su1)))).2 from rfl] at kx
        exact ih (L + 1) (flF n hd fm rp rq nd L 126 true (toF nd (fsF n hd fm rp rq nd nw1 nw L 126 true su1) L 5 2 nw1)) (((fsF n hd fm rp rq nd nw1 nw L 126 true su1))) (by omega) _ _ hP hD hS ls (lv_sub hl [1, 0] rfl) kx
  refine L_10_0 7 1 (dsF sI sO 2 0 nw) ((fun _ => nI 0)) (by omega) _ _ hP hD hS ls (lv_sub hl [1, 0] rfl) (fun H locs hP hD hS ls hl => ?_)
  have hP : va_P (dC, dI) vwCl (vkW a cA n hd fm rp rq nd ((clF n hd fm rp rq nd nw 7 1 (dsF sI sO 2 0 nw) ((fun _ => nI 0))).1) nw ((clF n hd fm rp rq nd nw 7 1 (dsF sI sO 2 0 nw) ((fun _ => nI 0))).2) (fun _ => nI 0) (fun _ => nI 0)) H := hP
  have hD : va_D A (vkW a cA n hd fm rp rq nd ((clF n hd fm rp rq nd nw 7 1 (dsF sI sO 2 0 nw) ((fun _ => nI 0))).1) nw ((clF n hd fm rp rq nd nw 7 1 (dsF sI sO 2 0 nw) ((fun _ => nI 0))).2) (fun _ => nI 0) (fun _ => nI 0)) := hD
  have hl : lv_has ls 3 [(0, .ref (a 0)), (1, .int (nI 8))] := hl
  refine lv_iconst (v := nI 0) hx hb dX2_commit_37 (by decide) ?_
  refine lv_istore_n (lv' := [(1, .int (nI 0)), (0, .ref (a 0))]) hx hb dX2_commit_38 rfl hl (by decide) rfl (fun ls hl => ?_)
  refine lv_iconst (v := nI 0) hx hb dX2_commit_39 (by decide) ?_
  refine lv_istore_n (lv' := [(2, .int (nI 0)), (1, .int (nI 0)), (0, .ref (a 0))]) hx hb dX2_commit_40 rfl hl (by decide) rfl (fun ls hl => ?_)
  have L_41_3 : ∀ (nn : Nat) (r : Nat) (w : Nat), r + nn = 7 → ∀ (H : Heap) (locs : List Loc), va_P (dC, dI) vwCl (vkW a cA n hd fm rp rq nd ((clF n hd fm rp rq nd nw 7 1 (dsF sI sO 2 0 nw) ((fun _ => nI 0))).1) nw ((clF n hd fm rp rq nd nw 7 1 (dsF sI sO 2 0 nw) ((fun _ => nI 0))).2) (fun _ => nI 0) (fun _ => nI 0)) H → va_D A (vkW a cA n hd fm rp rq nd ((clF n hd fm rp rq nd nw 7 1 (dsF sI sO 2 0 nw) ((fun _ => nI 0))).1) nw ((clF n hd fm rp rq nd nw 7 1 (dsF sI sO 2 0 nw) ((fun _ => nI 0))).2) (fun _ => nI 0) (fun _ => nI 0)) → va_S A s.heap H locs → ∀ ls : Array Slot, lv_has ls 3 [(0, .ref (a 0)), (1, .int (nI w)), (2, .int (nI r))] → (∀ (H : Heap) (locs : List Loc), va_P (dC, dI) vwCl (vkW a cA n hd fm rp rq nd ((clF n hd fm rp rq nd nw 7 1 (dsF sI sO 2 0 nw) ((fun _ => nI 0))).1) nw ((clF n hd fm rp rq nd nw 7 1 (dsF sI sO 2 0 nw) ((fun _ => nI 0))).2) (fun _ => nI 0) (fun _ => nI 0)) H → va_D A (vkW a cA n hd fm rp rq nd ((clF n hd fm rp rq nd nw 7 1 (dsF sI sO 2 0 nw) ((fun _ => nI 0))).1) nw ((clF n hd fm rp rq nd nw 7 1 (dsF sI sO 2 0 nw) ((fun _ => nI 0))).2) (fun _ => nI 0) (fun _ => nI 0)) → va_S A s.heap H locs → ∀ ls : Array Slot, lv_has ls 3 [(0, .ref (a 0)), (1, .int (nI (cmF (cmW n hd fm rp rq nd nw sI sO) nw nn r w))), (2, .int (nI 7))] → W p l e (headSpec wsX2_commit ({ frames := 5, cells := 0, slots := 0, locals := 119 })).room s m ([.ref (a 0)] : List Value).toArray below meth c H locs 0 0 (MQ below (va_Qi (fun (rz9 : Int32) (_ : Unit) => rz9 = (nI (cmF (cmW n hd fm rp rq nd nw sI sO) nw 7 0 0))) (wrB (dC, dI) vwCl (vkW a cA n hd fm rp rq nd nw bf su sI sO) (vkW a cA n hd fm rp rq nd (cmW n hd fm rp rq nd nw sI sO) nw (cmS n hd fm rp rq nd nw sI sO) (fun _ => nI 0) (fun _ => nI 0)) (vkT cA) s.heap.size) (va_A (vkW a cA n hd fm rp rq nd nw bf su sI sO) s.heap.size)) ([.ref (a 0)] : List Value).toArray s 0 0 (va_A (vkW a cA n hd fm rp rq nd nw bf su sI sO) s.heap.size)) (F0 m 73 ls [])) → W p l e (headSpec wsX2_commit ({ frames := 5, cells := 0, slots := 0, locals := 119 })).room s m ([.ref (a 0)] : List Value).toArray below meth c H locs 0 0 (MQ below (va_Qi (fun (rz9 : Int32) (_ : Unit) => rz9 = (nI (cmF (cmW n hd fm rp rq nd nw sI sO) nw 7 0 0))) (wrB (dC, dI) vwCl (vkW a cA n hd fm rp rq nd nw bf su sI sO) (vkW a cA n hd fm rp rq nd (cmW n hd fm rp rq nd nw sI sO) nw (cmS n hd fm rp rq nd nw sI sO) (fun _ => nI 0) (fun _ => nI 0)) (vkT cA) s.heap.size) (va_A (vkW a cA n hd fm rp rq nd nw bf su sI sO) s.heap.size)) ([.ref (a 0)] : List Value).toArray s 0 0 (va_A (vkW a cA n hd fm rp rq nd nw bf su sI sO) s.heap.size)) (F0 m 41 ls []) := by
    intro nn
    induction nn with
    | zero =>
      intro r w hnr H locs hP hD hS ls hl kx
      obtain rfl : r = 7 := by omega
      refine lv_iload_n hx hb dX2_commit_41 rfl (lv_at hl 2 rfl) ?_
      refine lv_bipush (v := nI 7) hx hb dX2_commit_42 (by decide) ?_
      refine hx_geN (tgt := 73) hx hb dX2_commit_44 (by decide) (by omega) (by omega) (fun c_5 => ?_) (fun c_5 => ?_)
      · exact kx _ _ hP hD hS ls (lv_sub hl [0, 1, 2] rfl)
      · exact absurd c_5 (by omega)
    | succ nn ih =>
      intro r w hnr H locs hP hD hS ls hl kx
      refine lv_iload_n hx hb dX2_commit_41 rfl (lv_at hl 2 rfl) ?_
      refine lv_bipush (v := nI 7) hx hb dX2_commit_42 (by decide) ?_
      refine hx_geN (tgt := 73) hx hb dX2_commit_44 (by decide) (by omega) (by omega) (fun c_6 => ?_) (fun c_6 => ?_)
      · exact absurd c_6 (by omega)
      · refine lv_iload_n hx hb dX2_commit_47 rfl (lv_at hl 1 rfl) ?_
        refine lv_aload_n hx hb dX2_commit_48 rfl (lv_at hl 0 rfl) ?_
        refine lv_iload_n hx hb dX2_commit_49 rfl (lv_at hl 2 rfl) ?_
        refine hx_read (va_runV (As := [.int (nI r)]) (rest := [.int (nI w)]) ⟨hx, hb, hml, hown, hts⟩ (c_X2_putInto l dC dI a cA n hd fm rp rq nd ((clF n hd fm rp rq nd nw 7 1 (dsF sI sO 2 0 nw) ((fun _ => nI 0))).1) nw ((clF n hd fm rp rq nd nw 7 1 (dsF sI sO 2 0 nw) ((fun _ => nI 0))).2) (fun _ => nI 0) (fun _ => nI 0) r (by omega)) (cwV 1 hts gX2_commit_X2_putInto rfl rfl rfl (by decide +kernel) ⟨Nat.le_of_ble_eq_true rfl, Nat.le_of_ble_eq_true rfl⟩) (rd_V nstW_ok hP hK hN 0 rfl rfl _) rfl rfl hl.1 rfl (lv_room (Nat.le_of_ble_eq_true rfl)) dX2_commit_50 ⟨Nat.zero_le _, Nat.zero_le _⟩) ?_
        refine hx_read (va_runS (As := [.int (putM ((clF n hd fm rp rq nd nw 7 1 (dsF sI sO 2 0 nw) ((fun _ => nI 0))).1) nw r)]) (rest := [.int (nI w)]) ⟨hx, hb, hml, hown, hts⟩ (c_J6_bitCount_0f7a4 l (putM ((clF n hd fm rp rq nd nw 7 1 (dsF sI sO 2 0 nw) ((fun _ => nI 0))).1) nw r)) (va_cwS 1 hts gX2_commit_J6_bitCount_0f7a4 rfl rfl rfl (by decide +kernel) ⟨Nat.le_of_ble_eq_true rfl, Nat.le_of_ble_eq_true rfl⟩) (nu_S _) rfl rfl hl.1 rfl (lv_room (Nat.le_of_ble_eq_true rfl)) dX2_commit_53 ⟨Nat.zero_le _, Nat.zero_le _⟩) ?_
        have hc_7 := cntB_le (putM ((clF n hd fm rp rq nd nw 7 1 (dsF sI sO 2 0 nw) ((fun _ => nI 0))).1) nw r) 32
        refine lv_aload_n hx hb dX2_commit_56 rfl (lv_at hl 0 rfl) ?_
        refine lv_iload_n hx hb dX2_commit_57 rfl (lv_at hl 2 rfl) ?_
        refine hx_read (va_runV (As := [.int (nI r)]) (rest := [.int (nI (cntB (putM ((clF n hd fm rp rq nd nw 7 1 (dsF sI sO 2 0 nw) ((fun _ => nI 0))).1) nw r) 32)), .int (nI w)]) ⟨hx, hb, hml, hown, hts⟩ (c_X2_takenOutOf l dC dI a cA n hd fm rp rq nd ((clF n hd fm rp rq nd nw 7 1 (dsF sI sO 2 0 nw) ((fun _ => nI 0))).1) nw ((clF n hd fm rp rq nd nw 7 1 (dsF sI sO 2 0 nw) ((fun _ => nI 0))).2) (fun _ => nI 0) (fun _ => nI 0) r (by omega)) (cwV 1 hts gX2_commit_X2_takenOutOf rfl rfl rfl (by decide +kernel) ⟨Nat.le_of_ble_eq_true rfl, Nat.le_of_ble_eq_true rfl⟩) (rd_V nstW_ok hP hK hN 0 rfl rfl _) rfl rfl hl.1 rfl (lv_room (Nat.le_of_ble_eq_true rfl)) dX2_commit_58 ⟨Nat.zero_le _, Nat.zero_le _⟩) ?_
        refine hx_read (va_runS (As := [.int (takM ((clF n hd fm rp rq nd nw 7 1 (dsF sI sO 2 0 nw) ((fun _ => nI 0))).1) nw r)]) (rest := [.int (nI (cntB (putM ((clF n hd fm rp rq nd nw 7 1 (dsF sI sO 2 0 nw) ((fun _ => nI 0))).1) nw r) 32)), .int (nI w)]) ⟨hx, hb, hml, hown, hts⟩ (c_J6_bitCount_0f7a4 l (takM ((clF n hd fm rp rq nd nw 7 1 (dsF sI sO 2 0 nw) ((fun _ => nI 0))).1) nw r)) (va_cwS 1 hts gX2_commit_J6_bitCount_0f7a4 rfl rfl rfl (by decide +kernel) ⟨Nat.le_of_ble_eq_true rfl, Nat.le_of_ble_eq_true rfl⟩) (nu_S _) rfl rfl hl.1 rfl (lv_room (Nat.le_of_ble_eq_true rfl)) dX2_commit_61 ⟨Nat.zero_le _, Nat.zero_le _⟩) ?_
        have hc_8 := cntB_le (takM ((clF n hd fm rp rq nd nw 7 1 (dsF sI sO 2 0 nw) ((fun _ => nI 0))).1) nw r) 32
        refine hx_iadd hx hb dX2_commit_64 ?_
        refine hx_iadd hx hb dX2_commit_65 ?_
        refine lv_istore_n (lv' := [(1, .int (nI (w + ((cntB (putM ((clF n hd fm rp rq nd nw 7 1 (dsF sI sO 2 0 nw) ((fun _ => nI 0))).1) nw r) 32) + (cntB (takM ((clF n hd fm rp rq nd nw 7 1 (dsF sI sO 2 0 nw) ((fun _ => nI 0))).1) nw r) 32))))), (0, .ref (a 0)), (2, .int (nI r))]) hx hb dX2_commit_66 rfl hl (by decide) rfl (fun ls hl => ?_)
        refine lv_iinc (v := nI (r + 1)) (lv' := [(2, .int (nI (r + 1))), (1, .int (nI (w + ((cntB (putM ((clF n hd fm rp rq nd nw 7 1 (dsF sI sO 2 0 nw) ((fun _ => nI 0))).1) nw r) 32) + (cntB (takM ((clF n hd fm rp rq nd nw 7 1 (dsF sI sO 2 0 nw) ((fun _ => nI 0))).1) nw r) 32))))), (0, .ref (a 0))]) hx hb dX2_commit_67 hl (k := 2) rfl (nI_add r 1) (by decide) rfl (fun ls hl => ?_)
        refine lv_goto (tgt := 41) hx hb dX2_commit_70 (by decide) ?_
        have kx := kx
        rw [show cmF (cmW n hd fm rp rq nd nw sI sO) nw (nn + 1) r w = cmF (cmW n hd fm rp rq nd nw sI sO) nw nn (r + 1) (w + ((cntB (putM ((clF n hd fm rp rq nd nw 7 1 (dsF sI sO 2 0 nw) ((fun _ => nI 0))).1) nw r) 32) + (cntB (takM ((clF n hd fm rp rq nd nw 7 1 (dsF sI sO 2 0 nw) ((fun _ => nI 0))).1) nw r) 32))) from rfl] at kx
        exact ih (r + 1) (w + ((cntB (putM ((clF n hd fm rp rq nd nw 7 1 (dsF sI sO 2 0 nw) ((fun _ => nI 0))).1) nw r) 32) + (cntB (takM ((clF n hd fm rp rq nd nw 7 1 (dsF sI sO 2 0 nw) ((fun _ => nI 0))).1) nw r) 32))) (by omega) _ _ hP hD hS ls (lv_sub hl [2, 1, 0] rfl) kx
  refine L_41_3 7 0 0 (by omega) _ _ hP hD hS ls (lv_sub hl [2, 1, 0] rfl) (fun H locs hP hD hS ls hl => ?_)
  have hP : va_P (dC, dI) vwCl (vkW a cA n hd fm rp rq nd ((clF n hd fm rp rq nd nw 7 1 (dsF sI sO 2 0 nw) ((fun _ => nI 0))).1) nw ((clF n hd fm rp rq nd nw 7 1 (dsF sI sO 2 0 nw) ((fun _ => nI 0))).2) (fun _ => nI 0) (fun _ => nI 0)) H := hP
  have hD : va_D A (vkW a cA n hd fm rp rq nd ((clF n hd fm rp rq nd nw 7 1 (dsF sI sO 2 0 nw) ((fun _ => nI 0))).1) nw ((clF n hd fm rp rq nd nw 7 1 (dsF sI sO 2 0 nw) ((fun _ => nI 0))).2) (fun _ => nI 0) (fun _ => nI 0)) := hD
  have hl : lv_has ls 3 [(0, .ref (a 0)), (1, .int (nI (cmF (cmW n hd fm rp rq nd nw sI sO) nw 7 0 0))), (2, .int (nI 7))] := hl
  refine lv_iload_n hx hb dX2_commit_73 rfl (lv_at hl 1 rfl) ?_
  have e9 : vkW a cA n hd fm rp rq nd ((clF n hd fm rp rq nd nw 7 1 (dsF sI sO 2 0 nw) ((fun _ => nI 0))).1) nw ((clF n hd fm rp rq nd nw 7 1 (dsF sI sO 2 0 nw) ((fun _ => nI 0))).2) (fun _ => nI 0) (fun _ => nI 0) = vkW a cA n hd fm rp rq nd (cmW n hd fm rp rq nd nw sI sO) nw (cmS n hd fm rp rq nd nw sI sO) (fun _ => nI 0) (fun _ => nI 0) := rfl
  rw [e9] at hP hD
  subst hAe
  exact W.iret (v := nI (cmF (cmW n hd fm rp rq nd nw sI sO) nw 7 0 0)) hx hb hr (fun t ht hW => ⟨⟨_, (), rfl, rfl, by rw [ht]; exact hP, va_K.moved hW.alike hK, hD⟩, hS.F ht⟩) hS.2.2 dX2_commit_74
set_option maxHeartbeats 4000000 in
set_option maxRecDepth 100000 in
theorem c_X2_abort (l : Launch) (dC : Nat → ClassId) (dI : Nat → Nat → Nat) (a : Nat → Nat) (cA : Nat → ClassId) (n : Nat) (hd fm rp rq : Nat → Nat) (nd nw bf su sI sO : Nat → Int32)  : WrI l yX2_abort wsX2_abort ({ frames := 2, cells := 0, slots := 0, locals := 43 }) (dC, dI) vwCl (vkW a cA n hd fm rp rq nd nw bf su sI sO) (vkW a cA n hd fm rp rq nd nw bf su (fun _ => nI 0) (fun _ => nI 0)) (vkT cA) nstW [.ref (a 0)] (nI (abF sI sO 2 0 0)) := by
  intro sz
  refine Met.ofW (cc := cX2_abort) (maxL := 3) (ret := (some .int)) (by decide) rfl ?_
  intro p e s m args below meth c s₁ B hml hv
  obtain ⟨rfl, hsz, ⟨hP, hK, hN⟩, hD0⟩ := hv
  subst hsz
  have hx := B.exec
  have hb := B.bytes
  have hr := B.returns
  have hts := atoms_spec (ws := wsX2_abort) B.pre
  have hown : s.vm.findClass RX2 = some m.cls := findClass_of_methodNamed B.named
  have hlocks := B.notSynchronized
  obtain ⟨A, hAe⟩ : ∃ A, A = va_A (vkW a cA n hd fm rp rq nd nw bf su sI sO) s.heap.size := ⟨_, rfl⟩
  have hD : va_D A (vkW a cA n hd fm rp rq nd nw bf su sI sO) := by rw [hAe]; exact hD0.self (sz := s.heap.size)
  have hA : ∀ q : Nat, s.heap.size ≤ q → A q := fun q h => by rw [hAe]; exact Or.inr h
  have hS : va_S A s.heap s.heap [] := va_S.rf
  have hP : va_P (dC, dI) vwCl (vkW a cA n hd fm rp rq nd nw bf su sI sO) s.heap := hP
  have lf_26 := hts (.fieldLink RX2 26 "ViewKeeper" "stagedIn" "[I") (by decide +kernel)
  have in_X2 : ∀ w ∈ u_ws RX2 TX2 6, w ∈ wsX2_abort := by decide +kernel
  have lf_29 := hts (.fieldLink RX2 29 "ViewKeeper" "stagedOut" "[I") (by decide +kernel)
  have hl := lv_entry ([.ref (a 0)]) (n := 3) (Nat.le_of_ble_eq_true rfl)
  rw [lg_entry_eq]
  generalize (lg_sl ([.ref (a 0)]) ++ List.replicate (3 - (lg_sl ([.ref (a 0)])).length) Slot.unset).toArray = ls at hl ⊢
  have hl : lv_has ls 3 [(0, .ref (a 0))] := hl
  refine lv_iconst (v := nI 0) hx hb dX2_abort_0 (by decide) ?_
  refine lv_istore_n (lv' := [(1, .int (nI 0)), (0, .ref (a 0))]) hx hb dX2_abort_1 rfl hl (by decide) rfl (fun ls hl => ?_)
  refine lv_iconst (v := nI 0) hx hb dX2_abort_2 (by decide) ?_
  refine lv_istore_n (lv' := [(2, .int (nI 0)), (1, .int (nI 0)), (0, .ref (a 0))]) hx hb dX2_abort_3 rfl hl (by decide) rfl (fun ls hl => ?_)
  have L_4_0 : ∀ (nn : Nat) (r : Nat) (w : Nat), r + nn = 2 → ∀ (H : Heap) (locs : List Loc), va_P (dC, dI) vwCl (vkW a cA n hd fm rp rq nd nw bf su sI sO) H → va_D A (vkW a cA n hd fm rp rq nd nw bf su sI sO) → va_S A s.heap H locs → ∀ ls : Array Slot, lv_has ls 3 [(0, .ref (a 0)), (1, .int (nI w)), (2, .int (nI r))] → (∀ (H : Heap) (locs : List Loc), va_P (dC, dI) vwCl (vkW a cA n hd fm rp rq nd nw bf su sI sO) H → va_D A (vkW a cA n hd fm rp rq nd nw bf su sI sO) → va_S A s.heap H locs → ∀ ls : Array Slot, lv_has ls 3 [(0, .ref (a 0)), (1, .int (nI (abF sI sO nn r w))), (2, .int (nI 2))] → W p l e (headSpec wsX2_abort ({ frames := 2, cells := 0, slots := 0, locals := 43 })).room s m ([.ref (a 0)] : List Value).toArray below meth c H locs 0 0 (MQ below (va_Qi (fun (rz9 : Int32) (_ : Unit) => rz9 = (nI (abF sI sO 2 0 0))) (wrB (dC, dI) vwCl (vkW a cA n hd fm rp rq nd nw bf su sI sO) (vkW a cA n hd fm rp rq nd nw bf su (fun _ => nI 0) (fun _ => nI 0)) (vkT cA) s.heap.size) (va_A (vkW a cA n hd fm rp rq nd nw bf su sI sO) s.heap.size)) ([.ref (a 0)] : List Value).toArray s 0 0 (va_A (vkW a cA n hd fm rp rq nd nw bf su sI sO) s.heap.size)) (F0 m 37 ls [])) → W p l e (headSpec wsX2_abort ({ frames := 2, cells := 0, slots := 0, locals := 43 })).room s m ([.ref (a 0)] : List Value).toArray below meth c H locs 0 0 (MQ below (va_Qi (fun (rz9 : Int32) (_ : Unit) => rz9 = (nI (abF sI sO 2 0 0))) (wrB (dC, dI) vwCl (vkW a cA n hd fm rp rq nd nw bf su sI sO) (vkW a cA n hd fm rp rq nd nw bf su (fun _ => nI 0) (fun _ => nI 0)) (vkT cA) s.heap.size) (va_A (vkW a cA n hd fm rp rq nd nw bf su sI sO) s.heap.size)) ([.ref (a 0)] : List Value).toArray s 0 0 (va_A (vkW a cA n hd fm rp rq nd nw bf su sI sO) s.heap.size)) (F0 m 4 ls []) := by
    intro nn
    induction nn with
    | zero =>
      intro r w hnr H locs hP hD hS ls hl kx
      obtain rfl : r = 2 := by omega
      refine lv_iload_n hx hb dX2_abort_4 rfl (lv_at hl 2 rfl) ?_
      refine lv_iconst (v := nI 2) hx hb dX2_abort_5 (by decide) ?_
      refine hx_geN (tgt := 37) hx hb dX2_abort_6 (by decide) (by omega) (by omega) (fun c_2 => ?_) (fun c_2 => ?_)
      · exact kx _ _ hP hD hS ls (lv_sub hl [0, 1, 2] rfl)
      · exact absurd c_2 (by omega)
    | succ nn ih =>
      intro r w hnr H locs hP hD hS ls hl kx
      refine lv_iload_n hx hb dX2_abort_4 rfl (lv_at hl 2 rfl) ?_
      refine lv_iconst (v := nI 2) hx hb dX2_abort_5 (by decide) ?_
      refine hx_geN (tgt := 37) hx hb dX2_abort_6 (by decide) (by omega) (by omega) (fun c_3 => ?_) (fun c_3 => ?_)
      · exact absurd c_3 (by omega)
      · refine lv_iload_n hx hb dX2_abort_9 rfl (lv_at hl 1 rfl) ?_
        refine lv_aload_n hx hb dX2_abort_10 rfl (lv_at hl 0 rfl) ?_
        refine va_get (D := (dC, dI)) (ci := 2) (v := .ref (a 7)) (C := RX2) (T := TX2) (N := 6) hx hb hts in_X2 hown hK hP 0 rfl rfl 4 (by decide) lf_26 (fun _ h9 => h9) rfl dX2_abort_11 ?_
        refine lv_iload_n hx hb dX2_abort_14 rfl (lv_at hl 2 rfl) ?_
        refine hx_iald hx hb hK hP 7 5 rfl rfl (by omega) (by omega) dX2_abort_15 ?_
        refine hx_read (va_runS (As := [.int (sI r)]) (rest := [.int (nI w)]) ⟨hx, hb, hml, hown, hts⟩ (c_J6_bitCount_0f7a4 l (sI r)) (va_cwS 1 hts gX2_abort_J6_bitCount_0f7a4 rfl rfl rfl (by decide +kernel) ⟨Nat.le_of_ble_eq_true rfl, Nat.le_of_ble_eq_true rfl⟩) (nu_S _) rfl rfl hl.1 rfl (lv_room (Nat.le_of_ble_eq_true rfl)) dX2_abort_16 ⟨Nat.zero_le _, Nat.zero_le _⟩) ?_
        have hc_4 := cntB_le (sI r) 32
        refine lv_aload_n hx hb dX2_abort_19 rfl (lv_at hl 0 rfl) ?_
        refine va_get (D := (dC, dI)) (ci := 2) (v := .ref (a 8)) (C := RX2) (T := TX2) (N := 6) hx hb hts in_X2 hown hK hP 0 rfl rfl 5 (by decide) lf_29 (fun _ h9 => h9) rfl dX2_abort_20 ?_
        refine lv_iload_n hx hb dX2_abort_23 rfl (lv_at hl 2 rfl) ?_
        refine hx_iald hx hb hK hP 8 6 rfl rfl (by omega) (by omega) dX2_abort_24 ?_
        refine hx_read (va_runS (As := [.int (sO r)]) (rest := [.int (nI (cntB (sI r) 32)), .int (nI w)]) ⟨hx, hb, hml, hown, hts⟩ (c_J6_bitCount_0f7a4 l (sO r)) (va_cwS 1 hts gX2_abort_J6_bitCount_0f7a4 rfl rfl rfl (by decide +kernel) ⟨Nat.le_of_ble_eq_true rfl, Nat.le_of_ble_eq_true rfl⟩) (nu_S _) rfl rfl hl.1 rfl (lv_room (Nat.le_of_ble_eq_true rfl)) dX2_abort_25 ⟨Nat.zero_le _, Nat.zero_le _⟩) ?_
        have hc_5 := cntB_le (sO r) 32
        refine hx_iadd hx hb dX2_abort_28 ?_
        refine hx_iadd hx hb dX2_abort_29 ?_
        refine lv_istore_n (lv' := [(1, .int (nI (w + ((cntB (sI r) 32) + (cntB (sO r) 32))))), (0, .ref (a 0)), (2, .int (nI r))]) hx hb dX2_abort_30 rfl hl (by decide) rfl (fun ls hl => ?_)
        refine lv_iinc (v := nI (r + 1)) (lv' := [(2, .int (nI (r + 1))), (1, .int (nI (w + ((cntB (sI r) 32) + (cntB (sO r) 32))))), (0, .ref (a 0))]) hx hb dX2_abort_31 hl (k := 2) rfl (nI_add r 1) (by decide) rfl (fun ls hl => ?_)
        refine lv_goto (tgt := 4) hx hb dX2_abort_34 (by decide) ?_
        have kx := kx
        rw [show abF sI sO (nn + 1) r w = abF sI sO nn (r + 1) (w + ((cntB (sI r) 32) + (cntB (sO r) 32))) from rfl] at kx
        exact ih (r + 1) (w + ((cntB (sI r) 32) + (cntB (sO r) 32))) (by omega) _ _ hP hD hS ls (lv_sub hl [2, 1, 0] rfl) kx
  refine L_4_0 2 0 0 (by omega) _ _ hP hD hS ls (lv_sub hl [2, 1, 0] rfl) (fun H locs hP hD hS ls hl => ?_)
  have hP : va_P (dC, dI) vwCl (vkW a cA n hd fm rp rq nd nw bf su sI sO) H := hP
  have hD : va_D A (vkW a cA n hd fm rp rq nd nw bf su sI sO) := hD
  have hl : lv_has ls 3 [(0, .ref (a 0)), (1, .int (nI (abF sI sO 2 0 0))), (2, .int (nI 2))] := hl
  refine lv_aload_n hx hb dX2_abort_37 rfl (lv_at hl 0 rfl) ?_
  refine hx_wrv (va_runV (As := []) (rest := []) ⟨hx, hb, hml, hown, hts⟩ (c_X2_clearStaged l dC dI a cA n hd fm rp rq nd nw bf su sI sO H.size) (cwV 0 hts gX2_abort_X2_clearStaged rfl rfl rfl (by decide +kernel) ⟨Nat.le_of_ble_eq_true rfl, Nat.le_of_ble_eq_true rfl⟩) (wr_V nstW_ok hP hK hN hD 0 rfl rfl _) rfl rfl hl.1 rfl (lv_room (Nat.le_of_ble_eq_true rfl)) dX2_abort_38 ⟨Nat.zero_le _, Nat.zero_le _⟩) hD hS hA (fun H locs hP hD hS => ?_)
  have hP : va_P (dC, dI) vwCl (vkW a cA n hd fm rp rq nd nw bf su (fun _ => nI 0) (fun _ => nI 0)) H := hP
  have hD : va_D A (vkW a cA n hd fm rp rq nd nw bf su (fun _ => nI 0) (fun _ => nI 0)) := hD
  refine lv_iload_n hx hb dX2_abort_41 rfl (lv_at hl 1 rfl) ?_
  have e9 : vkW a cA n hd fm rp rq nd nw bf su (fun _ => nI 0) (fun _ => nI 0) = vkW a cA n hd fm rp rq nd nw bf su (fun _ => nI 0) (fun _ => nI 0) := rfl
  rw [e9] at hP hD
  subst hAe
  exact W.iret (v := nI (abF sI sO 2 0 0)) hx hb hr (fun t ht hW => ⟨⟨_, (), rfl, rfl, by rw [ht]; exact hP, va_K.moved hW.alike hK, hD⟩, hS.F ht⟩) hS.2.2 dX2_abort_42
end
section
/-! the keeper's face: what only reads -/
set_option maxHeartbeats 4000000 in
set_option maxRecDepth 100000 in
theorem c_X2_has_b (l : Launch) (dC : Nat → ClassId) (dI : Nat → Nat → Nat) (a : Nat → Nat) (cA : Nat → ClassId) (n : Nat) (hd fm rp rq : Nat → Nat) (nd nw bf su sI sO : Nat → Int32) (r0 x0 y0 : Int32) (hy_0 : prGood r0 x0 y0 = false) : RdM l yX2_has wsX2_has ({ frames := 1, cells := 0, slots := 0, locals := 22 }) (dC, dI) vwCl (vkW a cA n hd fm rp rq nd nw bf su sI sO) (vkT cA) nstW [.ref (a 0), .int (r0), .int (x0), .int (y0)] (bI false) := by
  refine Met.ofW (cc := cX2_has) (maxL := 4) (ret := (some .boolean)) (by decide) rfl ?_
  intro p e s m args below meth c s₁ B hml hv
  obtain ⟨rfl, hP, hK, hN⟩ := hv
  have hx := B.exec
  have hb := B.bytes
  have hr := B.returns
  have hts := atoms_spec (ws := wsX2_has) B.pre
  have hown : s.vm.findClass RX2 = some m.cls := findClass_of_methodNamed B.named
  have hlocks := B.notSynchronized
  have lf_16 := hts (.fieldLink RX2 16 "ViewKeeper" "now" "[I") (by decide +kernel)
  have in_X2 : ∀ w ∈ u_ws RX2 TX2 6, w ∈ wsX2_has := by decide +kernel
  have hl := lv_entry ([.ref (a 0), .int (r0), .int (x0), .int (y0)]) (n := 4) (Nat.le_of_ble_eq_true rfl)
  rw [lg_entry_eq]
  generalize (lg_sl ([.ref (a 0), .int (r0), .int (x0), .int (y0)]) ++ List.replicate (4 - (lg_sl ([.ref (a 0), .int (r0), .int (x0), .int (y0)])).length) Slot.unset).toArray = ls at hl ⊢
  have hl : lv_has ls 4 [(0, .ref (a 0)), (1, .int (r0)), (2, .int (x0)), (3, .int (y0))] := hl
  refine lv_iload_n hx hb dX2_has_0 rfl (lv_at hl 1 rfl) ?_
  refine hx_read (va_runS (As := [.int (r0)]) (rest := []) ⟨hx, hb, hml, hown, hts⟩ (c_X2_isRelation l r0) (va_cwS 1 hts gX2_has_X2_isRelation rfl rfl rfl (by decide +kernel) ⟨Nat.le_of_ble_eq_true rfl, Nat.le_of_ble_eq_true rfl⟩) (nu_S _) rfl rfl hl.1 rfl (lv_room (Nat.le_of_ble_eq_true rfl)) dX2_has_1 ⟨Nat.zero_le _, Nat.zero_le _⟩) ?_
  refine hx_ifB (tgt := 39) hx hb dX2_has_4 (by decide) (fun c_1 => ?_) (fun c_1 => ?_)
  · refine lv_iconst (v := nI 0) hx hb dX2_has_39 (by decide) ?_
    exact W.zret (v := nI 0) hx hb hr rfl (fun t ht hW => ⟨_, rfl, rfl, ht⟩) (fun _ h => by cases h) dX2_has_40
  · refine lv_iload_n hx hb dX2_has_7 rfl (lv_at hl 2 rfl) ?_
    refine hx_read (va_runS (As := [.int (x0)]) (rest := []) ⟨hx, hb, hml, hown, hts⟩ (c_X2_isThing l x0) (va_cwS 1 hts gX2_has_X2_isThing rfl rfl rfl (by decide +kernel) ⟨Nat.le_of_ble_eq_true rfl, Nat.le_of_ble_eq_true rfl⟩) (nu_S _) rfl rfl hl.1 rfl (lv_room (Nat.le_of_ble_eq_true rfl)) dX2_has_8 ⟨Nat.zero_le _, Nat.zero_le _⟩) ?_
    refine hx_ifB (tgt := 39) hx hb dX2_has_11 (by decide) (fun c_2 => ?_) (fun c_2 => ?_)
    · refine lv_iconst (v := nI 0) hx hb dX2_has_39 (by decide) ?_
      exact W.zret (v := nI 0) hx hb hr rfl (fun t ht hW => ⟨_, rfl, rfl, ht⟩) (fun _ h => by cases h) dX2_has_40
    · refine lv_iload_n hx hb dX2_has_14 rfl (lv_at hl 3 rfl) ?_
      refine hx_read (va_runS (As := [.int (y0)]) (rest := []) ⟨hx, hb, hml, hown, hts⟩ (c_X2_isThing l y0) (va_cwS 1 hts gX2_has_X2_isThing rfl rfl rfl (by decide +kernel) ⟨Nat.le_of_ble_eq_true rfl, Nat.le_of_ble_eq_true rfl⟩) (nu_S _) rfl rfl hl.1 rfl (lv_room (Nat.le_of_ble_eq_true rfl)) dX2_has_15 ⟨Nat.zero_le _, Nat.zero_le _⟩) ?_
      refine hx_ifB (tgt := 39) hx hb dX2_has_18 (by decide) (fun c_3 => ?_) (fun c_3 => ?_)
      · refine lv_iconst (v := nI 0) hx hb dX2_has_39 (by decide) ?_
        exact W.zret (v := nI 0) hx hb hr rfl (fun t ht hW => ⟨_, rfl, rfl, ht⟩) (fun _ h => by cases h) dX2_has_40
      · exact absurd hy_0 (by simp [prGood, c_1, c_2, c_3])
set_option maxHeartbeats 4000000 in
set_option maxRecDepth 100000 in
theorem c_X2_has_g (l : Launch) (dC : Nat → ClassId) (dI : Nat → Nat → Nat) (a : Nat → Nat) (cA : Nat → ClassId) (n : Nat) (hd fm rp rq : Nat → Nat) (nd nw bf su sI sO : Nat → Int32) (r x y : Nat) (hy_0 : r < 7) (hy_1 : x < 5) (hy_2 : y < 5) : RdM l yX2_has wsX2_has ({ frames := 1, cells := 0, slots := 0, locals := 22 }) (dC, dI) vwCl (vkW a cA n hd fm rp rq nd nw bf su sI sO) (vkT cA) nstW [.ref (a 0), .int (nI r), .int (nI x), .int (nI y)] (bI (bt (nw r) (5 * x + y))) := by
  refine Met.ofW (cc := cX2_has) (maxL := 4) (ret := (some .boolean)) (by decide) rfl ?_
  intro p e s m args below meth c s₁ B hml hv
  obtain ⟨rfl, hP, hK, hN⟩ := hv
  have hx := B.exec
  have hb := B.bytes
  have hr := B.returns
  have hts := atoms_spec (ws := wsX2_has) B.pre
  have hown : s.vm.findClass RX2 = some m.cls := findClass_of_methodNamed B.named
  have hlocks := B.notSynchronized
  have kr : isRl (nI r) = true := isRl_nI (by omega)
  have kx1 : isTh (nI x) = true := isTh_nI (by omega)
  have ky : isTh (nI y) = true := isTh_nI (by omega)
  have lf_16 := hts (.fieldLink RX2 16 "ViewKeeper" "now" "[I") (by decide +kernel)
  have in_X2 : ∀ w ∈ u_ws RX2 TX2 6, w ∈ wsX2_has := by decide +kernel
  have hl := lv_entry ([.ref (a 0), .int (nI r), .int (nI x), .int (nI y)]) (n := 4) (Nat.le_of_ble_eq_true rfl)
  rw [lg_entry_eq]
  generalize (lg_sl ([.ref (a 0), .int (nI r), .int (nI x), .int (nI y)]) ++ List.replicate (4 - (lg_sl ([.ref (a 0), .int (nI r), .int (nI x), .int (nI y)])).length) Slot.unset).toArray = ls at hl ⊢
  have hl : lv_has ls 4 [(0, .ref (a 0)), (1, .int (nI r)), (2, .int (nI x)), (3, .int (nI y))] := hl
  refine lv_iload_n hx hb dX2_has_0 rfl (lv_at hl 1 rfl) ?_
  refine hx_read (va_runS (As := [.int (nI r)]) (rest := []) ⟨hx, hb, hml, hown, hts⟩ (c_X2_isRelation l (nI r)) (va_cwS 1 hts gX2_has_X2_isRelation rfl rfl rfl (by decide +kernel) ⟨Nat.le_of_ble_eq_true rfl, Nat.le_of_ble_eq_true rfl⟩) (nu_S _) rfl rfl hl.1 rfl (lv_room (Nat.le_of_ble_eq_true rfl)) dX2_has_1 ⟨Nat.zero_le _, Nat.zero_le _⟩) ?_
  refine hx_ifB (tgt := 39) hx hb dX2_has_4 (by decide) (fun c_1 => ?_) (fun c_1 => ?_)
  · exact absurd (kr.symm.trans c_1) (by decide)
  · refine lv_iload_n hx hb dX2_has_7 rfl (lv_at hl 2 rfl) ?_
    refine hx_read (va_runS (As := [.int (nI x)]) (rest := []) ⟨hx, hb, hml, hown, hts⟩ (c_X2_isThing l (nI x)) (va_cwS 1 hts gX2_has_X2_isThing rfl rfl rfl (by decide +kernel) ⟨Nat.le_of_ble_eq_true rfl, Nat.le_of_ble_eq_true rfl⟩) (nu_S _) rfl rfl hl.1 rfl (lv_room (Nat.le_of_ble_eq_true rfl)) dX2_has_8 ⟨Nat.zero_le _, Nat.zero_le _⟩) ?_
    refine hx_ifB (tgt := 39) hx hb dX2_has_11 (by decide) (fun c_2 => ?_) (fun c_2 => ?_)
    · exact absurd (kx1.symm.trans c_2) (by decide)
    · refine lv_iload_n hx hb dX2_has_14 rfl (lv_at hl 3 rfl) ?_
      refine hx_read (va_runS (As := [.int (nI y)]) (rest := []) ⟨hx, hb, hml, hown, hts⟩ (c_X2_isThing l (nI y)) (va_cwS 1 hts gX2_has_X2_isThing rfl rfl rfl (by decide +kernel) ⟨Nat.le_of_ble_eq_true rfl, Nat.le_of_ble_eq_true rfl⟩) (nu_S _) rfl rfl hl.1 rfl (lv_room (Nat.le_of_ble_eq_true rfl)) dX2_has_15 ⟨Nat.zero_le _, Nat.zero_le _⟩) ?_
      refine hx_ifB (tgt := 39) hx hb dX2_has_18 (by decide) (fun c_3 => ?_) (fun c_3 => ?_)
      · exact absurd (ky.symm.trans c_3) (by decide)
      · refine lv_aload_n hx hb dX2_has_21 rfl (lv_at hl 0 rfl) ?_
        refine va_get (D := (dC, dI)) (ci := 2) (v := .ref (a 4)) (C := RX2) (T := TX2) (N := 6) hx hb hts in_X2 hown hK hP 0 rfl rfl 1 (by decide) lf_16 (fun _ h9 => h9) rfl dX2_has_22 ?_
        refine lv_iload_n hx hb dX2_has_25 rfl (lv_at hl 1 rfl) ?_
        refine hx_iald hx hb hK hP 4 2 rfl rfl (by omega) (by omega) dX2_has_26 ?_
        refine lv_iload_n hx hb dX2_has_27 rfl (lv_at hl 2 rfl) ?_
        refine lv_iload_n hx hb dX2_has_28 rfl (lv_at hl 3 rfl) ?_
        refine hx_read (va_runS (As := [.int (nw r), .int (nI x), .int (nI y)]) (rest := []) ⟨hx, hb, hml, hown, hts⟩ (c_X2_holds l (nw r) x y (by omega) (by omega)) (va_cwS 3 hts gX2_has_X2_holds rfl rfl rfl (by decide +kernel) ⟨Nat.le_of_ble_eq_true rfl, Nat.le_of_ble_eq_true rfl⟩) (nu_S _) rfl rfl hl.1 rfl (lv_room (Nat.le_of_ble_eq_true rfl)) dX2_has_29 ⟨Nat.zero_le _, Nat.zero_le _⟩) ?_
        refine hx_ifB (tgt := 39) hx hb dX2_has_32 (by decide) (fun c_4 => ?_) (fun c_4 => ?_)
        · refine lv_iconst (v := nI 0) hx hb dX2_has_39 (by decide) ?_
          exact W.zret (v := nI 0) hx hb hr rfl (fun t ht hW => ⟨_, rfl, by rw [c_4]; rfl, ht⟩) (fun _ h => by cases h) dX2_has_40
        · refine lv_iconst (v := nI 1) hx hb dX2_has_35 (by decide) ?_
          refine lv_goto (tgt := 40) hx hb dX2_has_36 (by decide) ?_
          exact W.zret (v := nI 1) hx hb hr rfl (fun t ht hW => ⟨_, rfl, by rw [c_4]; rfl, ht⟩) (fun _ h => by cases h) dX2_has_40
set_option maxHeartbeats 4000000 in
set_option maxRecDepth 100000 in
theorem c_X2_suspect_b (l : Launch) (dC : Nat → ClassId) (dI : Nat → Nat → Nat) (a : Nat → Nat) (cA : Nat → ClassId) (n : Nat) (hd fm rp rq : Nat → Nat) (nd nw bf su sI sO : Nat → Int32) (r0 x0 y0 : Int32) (hy_0 : prGood r0 x0 y0 = false) : RdM l yX2_suspect wsX2_suspect ({ frames := 1, cells := 0, slots := 0, locals := 22 }) (dC, dI) vwCl (vkW a cA n hd fm rp rq nd nw bf su sI sO) (vkT cA) nstW [.ref (a 0), .int (r0), .int (x0), .int (y0)] (bI false) := by
  refine Met.ofW (cc := cX2_suspect) (maxL := 4) (ret := (some .boolean)) (by decide) rfl ?_
  intro p e s m args below meth c s₁ B hml hv
  obtain ⟨rfl, hP, hK, hN⟩ := hv
  have hx := B.exec
  have hb := B.bytes
  have hr := B.returns
  have hts := atoms_spec (ws := wsX2_suspect) B.pre
  have hown : s.vm.findClass RX2 = some m.cls := findClass_of_methodNamed B.named
  have hlocks := B.notSynchronized
  have lf_23 := hts (.fieldLink RX2 23 "ViewKeeper" "suspects" "[I") (by decide +kernel)
  have in_X2 : ∀ w ∈ u_ws RX2 TX2 6, w ∈ wsX2_suspect := by decide +kernel
  have hl := lv_entry ([.ref (a 0), .int (r0), .int (x0), .int (y0)]) (n := 4) (Nat.le_of_ble_eq_true rfl)
  rw [lg_entry_eq]
  generalize (lg_sl ([.ref (a 0), .int (r0), .int (x0), .int (y0)]) ++ List.replicate (4 - (lg_sl ([.ref (a 0), .int (r0), .int (x0), .int (y0)])).length) Slot.unset).toArray = ls at hl ⊢
  have hl : lv_has ls 4 [(0, .ref (a 0)), (1, .int (r0)), (2, .int (x0)), (3, .int (y0))] := hl
  refine lv_iload_n hx hb dX2_suspect_0 rfl (lv_at hl 1 rfl) ?_
  refine hx_read (va_runS (As := [.int (r0)]) (rest := []) ⟨hx, hb, hml, hown, hts⟩ (c_X2_isRelation l r0) (va_cwS 1 hts gX2_suspect_X2_isRelation rfl rfl rfl (by decide +kernel) ⟨Nat.le_of_ble_eq_true rfl, Nat.le_of_ble_eq_true rfl⟩) (nu_S _) rfl rfl hl.1 rfl (lv_room (Nat.le_of_ble_eq_true rfl)) dX2_suspect_1 ⟨Nat.zero_le _, Nat.zero_le _⟩) ?_
  refine hx_ifB (tgt := 39) hx hb dX2_suspect_4 (by decide) (fun c_1 => ?_) (fun c_1 => ?_)
  · refine lv_iconst (v := nI 0) hx hb dX2_suspect_39 (by decide) ?_
    exact W.zret (v := nI 0) hx hb hr rfl (fun t ht hW => ⟨_, rfl, rfl, ht⟩) (fun _ h => by cases h) dX2_suspect_40
  · refine lv_iload_n hx hb dX2_suspect_7 rfl (lv_at hl 2 rfl) ?_
    refine hx_read (va_runS (As := [.int (x0)]) (rest := []) ⟨hx, hb, hml, hown, hts⟩ (c_X2_isThing l x0) (va_cwS 1 hts gX2_suspect_X2_isThing rfl rfl rfl (by decide +kernel) ⟨Nat.le_of_ble_eq_true rfl, Nat.le_of_ble_eq_true rfl⟩) (nu_S _) rfl rfl hl.1 rfl (lv_room (Nat.le_of_ble_eq_true rfl)) dX2_suspect_8 ⟨Nat.zero_le _, Nat.zero_le _⟩) ?_
    refine hx_ifB (tgt := 39) hx hb dX2_suspect_11 (by decide) (fun c_2 => ?_) (fun c_2 => ?_)
    · refine lv_iconst (v := nI 0) hx hb dX2_suspect_39 (by decide) ?_
      exact W.zret (v := nI 0) hx hb hr rfl (fun t ht hW => ⟨_, rfl, rfl, ht⟩) (fun _ h => by cases h) dX2_suspect_40
    · refine lv_iload_n hx hb dX2_suspect_14 rfl (lv_at hl 3 rfl) ?_
      refine hx_read (va_runS (As := [.int (y0)]) (rest := []) ⟨hx, hb, hml, hown, hts⟩ (c_X2_isThing l y0) (va_cwS 1 hts gX2_suspect_X2_isThing rfl rfl rfl (by decide +kernel) ⟨Nat.le_of_ble_eq_true rfl, Nat.le_of_ble_eq_true rfl⟩) (nu_S _) rfl rfl hl.1 rfl (lv_room (Nat.le_of_ble_eq_true rfl)) dX2_suspect_15 ⟨Nat.zero_le _, Nat.zero_le _⟩) ?_
      refine hx_ifB (tgt := 39) hx hb dX2_suspect_18 (by decide) (fun c_3 => ?_) (fun c_3 => ?_)
      · refine lv_iconst (v := nI 0) hx hb dX2_suspect_39 (by decide) ?_
        exact W.zret (v := nI 0) hx hb hr rfl (fun t ht hW => ⟨_, rfl, rfl, ht⟩) (fun _ h => by cases h) dX2_suspect_40
      · exact absurd hy_0 (by simp [prGood, c_1, c_2, c_3])
set_option maxHeartbeats 4000000 in
set_option maxRecDepth 100000 in
theorem c_X2_suspect_g (l : Launch) (dC : Nat → ClassId) (dI : Nat → Nat → Nat) (a : Nat → Nat) (cA : Nat → ClassId) (n : Nat) (hd fm rp rq : Nat → Nat) (nd nw bf su sI sO : Nat → Int32) (r x y : Nat) (hy_0 : r < 7) (hy_1 : x < 5) (hy_2 : y < 5) : RdM l yX2_suspect wsX2_suspect ({ frames := 1, cells := 0, slots := 0, locals := 22 }) (dC, dI) vwCl (vkW a cA n hd fm rp rq nd nw bf su sI sO) (vkT cA) nstW [.ref (a 0), .int (nI r), .int (nI x), .int (nI y)] (bI (bt (su r) (5 * x + y))) := by
  refine Met.ofW (cc := cX2_suspect) (maxL := 4) (ret := (some .boolean)) (by decide) rfl ?_
  intro p e s m args below meth c s₁ B hml hv
  obtain ⟨rfl, hP, hK, hN⟩ := hv
  have hx := B.exec
  have hb := B.bytes
  have hr := B.returns
  have hts := atoms_spec (ws := wsX2_suspect) B.pre
  have hown : s.vm.findClass RX2 = some m.cls := findClass_of_methodNamed B.named
  have hlocks := B.notSynchronized
  have kr : isRl (nI r) = true := isRl_nI (by omega)
  have kx1 : isTh (nI x) = true := isTh_nI (by omega)
  have ky : isTh (nI y) = true := isTh_nI (by omega)
  have lf_23 := hts (.fieldLink RX2 23 "ViewKeeper" "suspects" "[I") (by decide +kernel)
  have in_X2 : ∀ w ∈ u_ws RX2 TX2 6, w ∈ wsX2_suspect := by decide +kernel
  have hl := lv_entry ([.ref (a 0), .int (nI r), .int (nI x), .int (nI y)]) (n := 4) (Nat.le_of_ble_eq_true rfl)
  rw [lg_entry_eq]
  generalize (lg_sl ([.ref (a 0), .int (nI r), .int (nI x), .int (nI y)]) ++ List.replicate (4 - (lg_sl ([.ref (a 0), .int (nI r), .int (nI x), .int (nI y)])).length) Slot.unset).toArray = ls at hl ⊢
  have hl : lv_has ls 4 [(0, .ref (a 0)), (1, .int (nI r)), (2, .int (nI x)), (3, .int (nI y))] := hl
  refine lv_iload_n hx hb dX2_suspect_0 rfl (lv_at hl 1 rfl) ?_
  refine hx_read (va_runS (As := [.int (nI r)]) (rest := []) ⟨hx, hb, hml, hown, hts⟩ (c_X2_isRelation l (nI r)) (va_cwS 1 hts gX2_suspect_X2_isRelation rfl rfl rfl (by decide +kernel) ⟨Nat.le_of_ble_eq_true rfl, Nat.le_of_ble_eq_true rfl⟩) (nu_S _) rfl rfl hl.1 rfl (lv_room (Nat.le_of_ble_eq_true rfl)) dX2_suspect_1 ⟨Nat.zero_le _, Nat.zero_le _⟩) ?_
  refine hx_ifB (tgt := 39) hx hb dX2_suspect_4 (by decide) (fun c_1 => ?_) (fun c_1 => ?_)
  · exact absurd (kr.symm.trans c_1) (by decide)
  · refine lv_iload_n hx hb dX2_suspect_7 rfl (lv_at hl 2 rfl) ?_
    refine hx_read (va_runS (As := [.int (nI x)]) (rest := []) ⟨hx, hb, hml, hown, hts⟩ (c_X2_isThing l (nI x)) (va_cwS 1 hts gX2_suspect_X2_isThing rfl rfl rfl (by decide +kernel) ⟨Nat.le_of_ble_eq_true rfl, Nat.le_of_ble_eq_true rfl⟩) (nu_S _) rfl rfl hl.1 rfl (lv_room (Nat.le_of_ble_eq_true rfl)) dX2_suspect_8 ⟨Nat.zero_le _, Nat.zero_le _⟩) ?_
    refine hx_ifB (tgt := 39) hx hb dX2_suspect_11 (by decide) (fun c_2 => ?_) (fun c_2 => ?_)
    · exact absurd (kx1.symm.trans c_2) (by decide)
    · refine lv_iload_n hx hb dX2_suspect_14 rfl (lv_at hl 3 rfl) ?_
      refine hx_read (va_runS (As := [.int (nI y)]) (rest := []) ⟨hx, hb, hml, hown, hts⟩ (c_X2_isThing l (nI y)) (va_cwS 1 hts gX2_suspect_X2_isThing rfl rfl rfl (by decide +kernel) ⟨Nat.le_of_ble_eq_true rfl, Nat.le_of_ble_eq_true rfl⟩) (nu_S _) rfl rfl hl.1 rfl (lv_room (Nat.le_of_ble_eq_true rfl)) dX2_suspect_15 ⟨Nat.zero_le _, Nat.zero_le _⟩) ?_
      refine hx_ifB (tgt := 39) hx hb dX2_suspect_18 (by decide) (fun c_3 => ?_) (fun c_3 => ?_)
      · exact absurd (ky.symm.trans c_3) (by decide)
      · refine lv_aload_n hx hb dX2_suspect_21 rfl (lv_at hl 0 rfl) ?_
        refine va_get (D := (dC, dI)) (ci := 2) (v := .ref (a 6)) (C := RX2) (T := TX2) (N := 6) hx hb hts in_X2 hown hK hP 0 rfl rfl 3 (by decide) lf_23 (fun _ h9 => h9) rfl dX2_suspect_22 ?_
        refine lv_iload_n hx hb dX2_suspect_25 rfl (lv_at hl 1 rfl) ?_
        refine hx_iald hx hb hK hP 6 4 rfl rfl (by omega) (by omega) dX2_suspect_26 ?_
        refine lv_iload_n hx hb dX2_suspect_27 rfl (lv_at hl 2 rfl) ?_
        refine lv_iload_n hx hb dX2_suspect_28 rfl (lv_at hl 3 rfl) ?_
        refine hx_read (va_runS (As := [.int (su r), .int (nI x), .int (nI y)]) (rest := []) ⟨hx, hb, hml, hown, hts⟩ (c_X2_holds l (su r) x y (by omega) (by omega)) (va_cwS 3 hts gX2_suspect_X2_holds rfl rfl rfl (by decide +kernel) ⟨Nat.le_of_ble_eq_true rfl, Nat.le_of_ble_eq_true rfl⟩) (nu_S _) rfl rfl hl.1 rfl (lv_room (Nat.le_of_ble_eq_true rfl)) dX2_suspect_29 ⟨Nat.zero_le _, Nat.zero_le _⟩) ?_
        refine hx_ifB (tgt := 39) hx hb dX2_suspect_32 (by decide) (fun c_4 => ?_) (fun c_4 => ?_)
        · refine lv_iconst (v := nI 0) hx hb dX2_suspect_39 (by decide) ?_
          exact W.zret (v := nI 0) hx hb hr rfl (fun t ht hW => ⟨_, rfl, by rw [c_4]; rfl, ht⟩) (fun _ h => by cases h) dX2_suspect_40
        · refine lv_iconst (v := nI 1) hx hb dX2_suspect_35 (by decide) ?_
          refine lv_goto (tgt := 40) hx hb dX2_suspect_36 (by decide) ?_
          exact W.zret (v := nI 1) hx hb hr rfl (fun t ht hW => ⟨_, rfl, by rw [c_4]; rfl, ht⟩) (fun _ h => by cases h) dX2_suspect_40
set_option maxHeartbeats 4000000 in
set_option maxRecDepth 100000 in
theorem c_X2_count_b (l : Launch) (dC : Nat → ClassId) (dI : Nat → Nat → Nat) (a : Nat → Nat) (cA : Nat → ClassId) (n : Nat) (hd fm rp rq : Nat → Nat) (nd nw bf su sI sO : Nat → Int32) (r0 x0 y0 : Int32) (hy_0 : prGood r0 x0 y0 = false) : RdM l yX2_count wsX2_count ({ frames := 4, cells := 0, slots := 0, locals := 92 }) (dC, dI) vwCl (vkW a cA n hd fm rp rq nd nw bf su sI sO) (vkT cA) nstW [.ref (a 0), .int (r0), .int (x0), .int (y0)] ((-1)) := by
  refine Met.ofW (cc := cX2_count) (maxL := 6) (ret := (some .int)) (by decide) rfl ?_
  intro p e s m args below meth c s₁ B hml hv
  obtain ⟨rfl, hP, hK, hN⟩ := hv
  have hx := B.exec
  have hb := B.bytes
  have hr := B.returns
  have hts := atoms_spec (ws := wsX2_count) B.pre
  have hown : s.vm.findClass RX2 = some m.cls := findClass_of_methodNamed B.named
  have hlocks := B.notSynchronized
  have lf_10 := hts (.fieldLink RX2 10 "ViewKeeper" "book" "LViewKeeper$RuleBook;") (by decide +kernel)
  have in_X2 : ∀ w ∈ u_ws RX2 TX2 6, w ∈ wsX2_count := by decide +kernel
  have lf_16 := hts (.fieldLink RX2 16 "ViewKeeper" "now" "[I") (by decide +kernel)
  have lf_39 : (Cond.fieldLinkNest RX2 39 "ViewKeeper$RuleBook" "made" "I" "ViewKeeper").before ([.ref (a 0), .int (r0), .int (x0), .int (y0)] : List Value).toArray s = true := va_Nw.use rfl (hN _ (by decide +kernel))
  have in_X1 : ∀ w ∈ u_ws RX1 TX1 3, w ∈ wsX2_count := by decide +kernel
  have lf_103 : (Cond.fieldLinkNest RX2 103 "ViewKeeper$RuleBook" "rows" "[LViewKeeper$Rule;" "ViewKeeper").before ([.ref (a 0), .int (r0), .int (x0), .int (y0)] : List Value).toArray s = true := va_Nw.use rfl (hN _ (by decide +kernel))
  have lf_107 : (Cond.fieldLinkNest RX2 107 "ViewKeeper$Rule" "head" "I" "ViewKeeper").before ([.ref (a 0), .int (r0), .int (x0), .int (y0)] : List Value).toArray s = true := va_Nw.use rfl (hN _ (by decide +kernel))
  have in_X0 : ∀ w ∈ u_ws RX0 TX0 4, w ∈ wsX2_count := by decide +kernel
  have hl := lv_entry ([.ref (a 0), .int (r0), .int (x0), .int (y0)]) (n := 6) (Nat.le_of_ble_eq_true rfl)
  rw [lg_entry_eq]
  generalize (lg_sl ([.ref (a 0), .int (r0), .int (x0), .int (y0)]) ++ List.replicate (6 - (lg_sl ([.ref (a 0), .int (r0), .int (x0), .int (y0)])).length) Slot.unset).toArray = ls at hl ⊢
  have hl : lv_has ls 6 [(0, .ref (a 0)), (1, .int (r0)), (2, .int (x0)), (3, .int (y0))] := hl
  refine lv_iload_n hx hb dX2_count_0 rfl (lv_at hl 1 rfl) ?_
  refine hx_read (va_runS (As := [.int (r0)]) (rest := []) ⟨hx, hb, hml, hown, hts⟩ (c_X2_isRelation l r0) (va_cwS 1 hts gX2_count_X2_isRelation rfl rfl rfl (by decide +kernel) ⟨Nat.le_of_ble_eq_true rfl, Nat.le_of_ble_eq_true rfl⟩) (nu_S _) rfl rfl hl.1 rfl (lv_room (Nat.le_of_ble_eq_true rfl)) dX2_count_1 ⟨Nat.zero_le _, Nat.zero_le _⟩) ?_
  refine hx_ifB (tgt := 33) hx hb dX2_count_4 (by decide) (fun c_1 => ?_) (fun c_1 => ?_)
  · refine lv_iconst (v := (-1)) hx hb dX2_count_33 (by decide) ?_
    exact W.iret (v := (-1)) hx hb hr (fun t ht hW => ⟨_, rfl, rfl, ht⟩) (fun _ h => by cases h) dX2_count_34
  · refine lv_iload_n hx hb dX2_count_7 rfl (lv_at hl 2 rfl) ?_
    refine hx_read (va_runS (As := [.int (x0)]) (rest := []) ⟨hx, hb, hml, hown, hts⟩ (c_X2_isThing l x0) (va_cwS 1 hts gX2_count_X2_isThing rfl rfl rfl (by decide +kernel) ⟨Nat.le_of_ble_eq_true rfl, Nat.le_of_ble_eq_true rfl⟩) (nu_S _) rfl rfl hl.1 rfl (lv_room (Nat.le_of_ble_eq_true rfl)) dX2_count_8 ⟨Nat.zero_le _, Nat.zero_le _⟩) ?_
    refine hx_ifB (tgt := 33) hx hb dX2_count_11 (by decide) (fun c_2 => ?_) (fun c_2 => ?_)
    · refine lv_iconst (v := (-1)) hx hb dX2_count_33 (by decide) ?_
      exact W.iret (v := (-1)) hx hb hr (fun t ht hW => ⟨_, rfl, rfl, ht⟩) (fun _ h => by cases h) dX2_count_34
    · refine lv_iload_n hx hb dX2_count_14 rfl (lv_at hl 3 rfl) ?_
      refine hx_read (va_runS (As := [.int (y0)]) (rest := []) ⟨hx, hb, hml, hown, hts⟩ (c_X2_isThing l y0) (va_cwS 1 hts gX2_count_X2_isThing rfl rfl rfl (by decide +kernel) ⟨Nat.le_of_ble_eq_true rfl, Nat.le_of_ble_eq_true rfl⟩) (nu_S _) rfl rfl hl.1 rfl (lv_room (Nat.le_of_ble_eq_true rfl)) dX2_count_15 ⟨Nat.zero_le _, Nat.zero_le _⟩) ?_
      refine hx_ifB (tgt := 33) hx hb dX2_count_18 (by decide) (fun c_3 => ?_) (fun c_3 => ?_)
      · refine lv_iconst (v := (-1)) hx hb dX2_count_33 (by decide) ?_
        exact W.iret (v := (-1)) hx hb hr (fun t ht hW => ⟨_, rfl, rfl, ht⟩) (fun _ h => by cases h) dX2_count_34
      · exact absurd hy_0 (by simp [prGood, c_1, c_2, c_3])
set_option maxHeartbeats 4000000 in
set_option maxRecDepth 100000 in
theorem c_X2_count_r (l : Launch) (dC : Nat → ClassId) (dI : Nat → Nat → Nat) (a : Nat → Nat) (cA : Nat → ClassId) (n : Nat) (hd fm rp rq : Nat → Nat) (nd nw bf su sI sO : Nat → Int32) (r x y : Nat) (hy_0 : r < 7) (hy_1 : x < 5) (hy_2 : y < 5) (hy_3 : bt (nd r) r = true) : RdM l yX2_count wsX2_count ({ frames := 4, cells := 0, slots := 0, locals := 92 }) (dC, dI) vwCl (vkW a cA n hd fm rp rq nd nw bf su sI sO) (vkT cA) nstW [.ref (a 0), .int (nI r), .int (nI x), .int (nI y)] ((-1)) := by
  refine Met.ofW (cc := cX2_count) (maxL := 6) (ret := (some .int)) (by decide) rfl ?_
  intro p e s m args below meth c s₁ B hml hv
  obtain ⟨rfl, hP, hK, hN⟩ := hv
  have hx := B.exec
  have hb := B.bytes
  have hr := B.returns
  have hts := atoms_spec (ws := wsX2_count) B.pre
  have hown : s.vm.findClass RX2 = some m.cls := findClass_of_methodNamed B.named
  have hlocks := B.notSynchronized
  have kr : isRl (nI r) = true := isRl_nI (by omega)
  have kx1 : isTh (nI x) = true := isTh_nI (by omega)
  have ky : isTh (nI y) = true := isTh_nI (by omega)
  have lf_10 := hts (.fieldLink RX2 10 "ViewKeeper" "book" "LViewKeeper$RuleBook;") (by decide +kernel)
  have in_X2 : ∀ w ∈ u_ws RX2 TX2 6, w ∈ wsX2_count := by decide +kernel
  have lf_16 := hts (.fieldLink RX2 16 "ViewKeeper" "now" "[I") (by decide +kernel)
  have lf_39 : (Cond.fieldLinkNest RX2 39 "ViewKeeper$RuleBook" "made" "I" "ViewKeeper").before ([.ref (a 0), .int (nI r), .int (nI x), .int (nI y)] : List Value).toArray s = true := va_Nw.use rfl (hN _ (by decide +kernel))
  have in_X1 : ∀ w ∈ u_ws RX1 TX1 3, w ∈ wsX2_count := by decide +kernel
  have lf_103 : (Cond.fieldLinkNest RX2 103 "ViewKeeper$RuleBook" "rows" "[LViewKeeper$Rule;" "ViewKeeper").before ([.ref (a 0), .int (nI r), .int (nI x), .int (nI y)] : List Value).toArray s = true := va_Nw.use rfl (hN _ (by decide +kernel))
  have lf_107 : (Cond.fieldLinkNest RX2 107 "ViewKeeper$Rule" "head" "I" "ViewKeeper").before ([.ref (a 0), .int (nI r), .int (nI x), .int (nI y)] : List Value).toArray s = true := va_Nw.use rfl (hN _ (by decide +kernel))
  have in_X0 : ∀ w ∈ u_ws RX0 TX0 4, w ∈ wsX2_count := by decide +kernel
  have hl := lv_entry ([.ref (a 0), .int (nI r), .int (nI x), .int (nI y)]) (n := 6) (Nat.le_of_ble_eq_true rfl)
  rw [lg_entry_eq]
  generalize (lg_sl ([.ref (a 0), .int (nI r), .int (nI x), .int (nI y)]) ++ List.replicate (6 - (lg_sl ([.ref (a 0), .int (nI r), .int (nI x), .int (nI y)])).length) Slot.unset).toArray = ls at hl ⊢
  have hl : lv_has ls 6 [(0, .ref (a 0)), (1, .int (nI r)), (2, .int (nI x)), (3, .int (nI y))] := hl
  refine lv_iload_n hx hb dX2_count_0 rfl (lv_at hl 1 rfl) ?_
  refine hx_read (va_runS (As := [.int (nI r)]) (rest := []) ⟨hx, hb, hml, hown, hts⟩ (c_X2_isRelation l (nI r)) (va_cwS 1 hts gX2_count_X2_isRelation rfl rfl rfl (by decide +kernel) ⟨Nat.le_of_ble_eq_true rfl, Nat.le_of_ble_eq_true rfl⟩) (nu_S _) rfl rfl hl.1 rfl (lv_room (Nat.le_of_ble_eq_true rfl)) dX2_count_1 ⟨Nat.zero_le _, Nat.zero_le _⟩) ?_
  refine hx_ifB (tgt := 33) hx hb dX2_count_4 (by decide) (fun c_1 => ?_) (fun c_1 => ?_)
  · exact absurd (kr.symm.trans c_1) (by decide)
  · refine lv_iload_n hx hb dX2_count_7 rfl (lv_at hl 2 rfl) ?_
    refine hx_read (va_runS (As := [.int (nI x)]) (rest := []) ⟨hx, hb, hml, hown, hts⟩ (c_X2_isThing l (nI x)) (va_cwS 1 hts gX2_count_X2_isThing rfl rfl rfl (by decide +kernel) ⟨Nat.le_of_ble_eq_true rfl, Nat.le_of_ble_eq_true rfl⟩) (nu_S _) rfl rfl hl.1 rfl (lv_room (Nat.le_of_ble_eq_true rfl)) dX2_count_8 ⟨Nat.zero_le _, Nat.zero_le _⟩) ?_
    refine hx_ifB (tgt := 33) hx hb dX2_count_11 (by decide) (fun c_2 => ?_) (fun c_2 => ?_)
    · exact absurd (kx1.symm.trans c_2) (by decide)
    · refine lv_iload_n hx hb dX2_count_14 rfl (lv_at hl 3 rfl) ?_
      refine hx_read (va_runS (As := [.int (nI y)]) (rest := []) ⟨hx, hb, hml, hown, hts⟩ (c_X2_isThing l (nI y)) (va_cwS 1 hts gX2_count_X2_isThing rfl rfl rfl (by decide +kernel) ⟨Nat.le_of_ble_eq_true rfl, Nat.le_of_ble_eq_true rfl⟩) (nu_S _) rfl rfl hl.1 rfl (lv_room (Nat.le_of_ble_eq_true rfl)) dX2_count_15 ⟨Nat.zero_le _, Nat.zero_le _⟩) ?_
      refine hx_ifB (tgt := 33) hx hb dX2_count_18 (by decide) (fun c_3 => ?_) (fun c_3 => ?_)
      · exact absurd (ky.symm.trans c_3) (by decide)
      · refine lv_aload_n hx hb dX2_count_21 rfl (lv_at hl 0 rfl) ?_
        refine va_get (D := (dC, dI)) (ci := 2) (v := .ref (a 1)) (C := RX2) (T := TX2) (N := 6) hx hb hts in_X2 hown hK hP 0 rfl rfl 0 (by decide) lf_10 (fun _ h9 => h9) rfl dX2_count_22 ?_
        refine lv_iload_n hx hb dX2_count_25 rfl (lv_at hl 1 rfl) ?_
        refine lv_iload_n hx hb dX2_count_26 rfl (lv_at hl 1 rfl) ?_
        refine hx_read (va_runVN (C := RX1) (As := [.int (nI r), .int (nI r)]) (rest := []) ⟨hx, hb, hml, hown, hts⟩ (c_X1_leadsTo l dC dI a cA n hd fm rp rq nd nw bf su sI sO r r (by omega) (by omega)) ⟨va_cnB 2 hts gX2_count_X1_leadsTo_n99 rfl rfl rfl (hN (.methodLinkNest RX2 99 yX1_leadsTo "ViewKeeper") (by decide +kernel)) (hts (.initialized RX1) (by decide +kernel)) (by decide +kernel) ⟨Nat.le_of_ble_eq_true rfl, Nat.le_of_ble_eq_true rfl⟩, hts (.instanceMethod yX1_leadsTo) (by decide +kernel), hts (.selects RX1 yX1_leadsTo yX1_leadsTo) (by decide +kernel)⟩ (rd_V nstW_ok hP hK hN 1 rfl rfl _) rfl rfl hl.1 rfl (lv_room (Nat.le_of_ble_eq_true rfl)) dX2_count_27 ⟨Nat.zero_le _, Nat.zero_le _⟩) ?_
        refine hx_ifB (tgt := 35) hx hb dX2_count_30 (by decide) (fun c_4 => ?_) (fun c_4 => ?_)
        · exact absurd (hy_3.symm.trans c_4) (by decide)
        · refine lv_iconst (v := (-1)) hx hb dX2_count_33 (by decide) ?_
          exact W.iret (v := (-1)) hx hb hr (fun t ht hW => ⟨_, rfl, rfl, ht⟩) (fun _ h => by cases h) dX2_count_34
set_option maxHeartbeats 4000000 in
set_option maxRecDepth 100000 in
theorem c_X2_count_f (l : Launch) (dC : Nat → ClassId) (dI : Nat → Nat → Nat) (a : Nat → Nat) (cA : Nat → ClassId) (n : Nat) (hd fm rp rq : Nat → Nat) (nd nw bf su sI sO : Nat → Int32) (r x y : Nat) (hy_0 : r < 7) (hy_1 : x < 5) (hy_2 : y < 5) (hy_3 : bt (nd r) r = false) (hy_4 : r < 2) : RdM l yX2_count wsX2_count ({ frames := 4, cells := 0, slots := 0, locals := 92 }) (dC, dI) vwCl (vkW a cA n hd fm rp rq nd nw bf su sI sO) (vkT cA) nstW [.ref (a 0), .int (nI r), .int (nI x), .int (nI y)] (bI (bt (nw r) (5 * x + y))) := by
  refine Met.ofW (cc := cX2_count) (maxL := 6) (ret := (some .int)) (by decide) rfl ?_
  intro p e s m args below meth c s₁ B hml hv
  obtain ⟨rfl, hP, hK, hN⟩ := hv
  have hx := B.exec
  have hb := B.bytes
  have hr := B.returns
  have hts := atoms_spec (ws := wsX2_count) B.pre
  have hown : s.vm.findClass RX2 = some m.cls := findClass_of_methodNamed B.named
  have hlocks := B.notSynchronized
  have kr : isRl (nI r) = true := isRl_nI (by omega)
  have kx1 : isTh (nI x) = true := isTh_nI (by omega)
  have ky : isTh (nI y) = true := isTh_nI (by omega)
  have kw : isVw (nI r) = false := isVw_f (by omega)
  have lf_10 := hts (.fieldLink RX2 10 "ViewKeeper" "book" "LViewKeeper$RuleBook;") (by decide +kernel)
  have in_X2 : ∀ w ∈ u_ws RX2 TX2 6, w ∈ wsX2_count := by decide +kernel
  have lf_16 := hts (.fieldLink RX2 16 "ViewKeeper" "now" "[I") (by decide +kernel)
  have lf_39 : (Cond.fieldLinkNest RX2 39 "ViewKeeper$RuleBook" "made" "I" "ViewKeeper").before ([.ref (a 0), .int (nI r), .int (nI x), .int (nI y)] : List Value).toArray s = true := va_Nw.use rfl (hN _ (by decide +kernel))
  have in_X1 : ∀ w ∈ u_ws RX1 TX1 3, w ∈ wsX2_count := by decide +kernel
  have lf_103 : (Cond.fieldLinkNest RX2 103 "ViewKeeper$RuleBook" "rows" "[LViewKeeper$Rule;" "ViewKeeper").before ([.ref (a 0), .int (nI r), .int (nI x), .int (nI y)] : List Value).toArray s = true := va_Nw.use rfl (hN _ (by decide +kernel))
  have lf_107 : (Cond.fieldLinkNest RX2 107 "ViewKeeper$Rule" "head" "I" "ViewKeeper").before ([.ref (a 0), .int (nI r), .int (nI x), .int (nI y)] : List Value).toArray s = true := va_Nw.use rfl (hN _ (by decide +kernel))
  have in_X0 : ∀ w ∈ u_ws RX0 TX0 4, w ∈ wsX2_count := by decide +kernel
  have hl := lv_entry ([.ref (a 0), .int (nI r), .int (nI x), .int (nI y)]) (n := 6) (Nat.le_of_ble_eq_true rfl)
  rw [lg_entry_eq]
  generalize (lg_sl ([.ref (a 0), .int (nI r), .int (nI x), .int (nI y)]) ++ List.replicate (6 - (lg_sl ([.ref (a 0), .int (nI r), .int (nI x), .int (nI y)])).length) Slot.unset).toArray = ls at hl ⊢
  have hl : lv_has ls 6 [(0, .ref (a 0)), (1, .int (nI r)), (2, .int (nI x)), (3, .int (nI y))] := hl
  refine lv_iload_n hx hb dX2_count_0 rfl (lv_at hl 1 rfl) ?_
  refine hx_read (va_runS (As := [.int (nI r)]) (rest := []) ⟨hx, hb, hml, hown, hts⟩ (c_X2_isRelation l (nI r)) (va_cwS 1 hts gX2_count_X2_isRelation rfl rfl rfl (by decide +kernel) ⟨Nat.le_of_ble_eq_true rfl, Nat.le_of_ble_eq_true rfl⟩) (nu_S _) rfl rfl hl.1 rfl (lv_room (Nat.le_of_ble_eq_true rfl)) dX2_count_1 ⟨Nat.zero_le _, Nat.zero_le _⟩) ?_
  refine hx_ifB (tgt := 33) hx hb dX2_count_4 (by decide) (fun c_1 => ?_) (fun c_1 => ?_)
  · exact absurd (kr.symm.trans c_1) (by decide)
  · refine lv_iload_n hx hb dX2_count_7 rfl (lv_at hl 2 rfl) ?_
    refine hx_read (va_runS (As := [.int (nI x)]) (rest := []) ⟨hx, hb, hml, hown, hts⟩ (c_X2_isThing l (nI x)) (va_cwS 1 hts gX2_count_X2_isThing rfl rfl rfl (by decide +kernel) ⟨Nat.le_of_ble_eq_true rfl, Nat.le_of_ble_eq_true rfl⟩) (nu_S _) rfl rfl hl.1 rfl (lv_room (Nat.le_of_ble_eq_true rfl)) dX2_count_8 ⟨Nat.zero_le _, Nat.zero_le _⟩) ?_
    refine hx_ifB (tgt := 33) hx hb dX2_count_11 (by decide) (fun c_2 => ?_) (fun c_2 => ?_)
    · exact absurd (kx1.symm.trans c_2) (by decide)
    · refine lv_iload_n hx hb dX2_count_14 rfl (lv_at hl 3 rfl) ?_
      refine hx_read (va_runS (As := [.int (nI y)]) (rest := []) ⟨hx, hb, hml, hown, hts⟩ (c_X2_isThing l (nI y)) (va_cwS 1 hts gX2_count_X2_isThing rfl rfl rfl (by decide +kernel) ⟨Nat.le_of_ble_eq_true rfl, Nat.le_of_ble_eq_true rfl⟩) (nu_S _) rfl rfl hl.1 rfl (lv_room (Nat.le_of_ble_eq_true rfl)) dX2_count_15 ⟨Nat.zero_le _, Nat.zero_le _⟩) ?_
      refine hx_ifB (tgt := 33) hx hb dX2_count_18 (by decide) (fun c_3 => ?_) (fun c_3 => ?_)
      · exact absurd (ky.symm.trans c_3) (by decide)
      · refine lv_aload_n hx hb dX2_count_21 rfl (lv_at hl 0 rfl) ?_
        refine va_get (D := (dC, dI)) (ci := 2) (v := .ref (a 1)) (C := RX2) (T := TX2) (N := 6) hx hb hts in_X2 hown hK hP 0 rfl rfl 0 (by decide) lf_10 (fun _ h9 => h9) rfl dX2_count_22 ?_
        refine lv_iload_n hx hb dX2_count_25 rfl (lv_at hl 1 rfl) ?_
        refine lv_iload_n hx hb dX2_count_26 rfl (lv_at hl 1 rfl) ?_
        refine hx_read (va_runVN (C := RX1) (As := [.int (nI r), .int (nI r)]) (rest := []) ⟨hx, hb, hml, hown, hts⟩ (c_X1_leadsTo l dC dI a cA n hd fm rp rq nd nw bf su sI sO r r (by omega) (by omega)) ⟨va_cnB 2 hts gX2_count_X1_leadsTo_n99 rfl rfl rfl (hN (.methodLinkNest RX2 99 yX1_leadsTo "ViewKeeper") (by decide +kernel)) (hts (.initialized RX1) (by decide +kernel)) (by decide +kernel) ⟨Nat.le_of_ble_eq_true rfl, Nat.le_of_ble_eq_true rfl⟩, hts (.instanceMethod yX1_leadsTo) (by decide +kernel), hts (.selects RX1 yX1_leadsTo yX1_leadsTo) (by decide +kernel)⟩ (rd_V nstW_ok hP hK hN 1 rfl rfl _) rfl rfl hl.1 rfl (lv_room (Nat.le_of_ble_eq_true rfl)) dX2_count_27 ⟨Nat.zero_le _, Nat.zero_le _⟩) ?_
        refine hx_ifB (tgt := 35) hx hb dX2_count_30 (by decide) (fun c_4 => ?_) (fun c_4 => ?_)
        · refine lv_iload_n hx hb dX2_count_35 rfl (lv_at hl 1 rfl) ?_
          refine hx_read (va_runS (As := [.int (nI r)]) (rest := []) ⟨hx, hb, hml, hown, hts⟩ (c_X2_isView l (nI r)) (va_cwS 1 hts gX2_count_X2_isView rfl rfl rfl (by decide +kernel) ⟨Nat.le_of_ble_eq_true rfl, Nat.le_of_ble_eq_true rfl⟩) (nu_S _) rfl rfl hl.1 rfl (lv_room (Nat.le_of_ble_eq_true rfl)) dX2_count_36 ⟨Nat.zero_le _, Nat.zero_le _⟩) ?_
          refine hx_ifnB (tgt := 62) hx hb dX2_count_39 (by decide) (fun c_5 => ?_) (fun c_5 => ?_)
          · exact absurd (kw.symm.trans c_5) (by decide)
          · refine lv_aload_n hx hb dX2_count_42 rfl (lv_at hl 0 rfl) ?_
            refine va_get (D := (dC, dI)) (ci := 2) (v := .ref (a 4)) (C := RX2) (T := TX2) (N := 6) hx hb hts in_X2 hown hK hP 0 rfl rfl 1 (by decide) lf_16 (fun _ h9 => h9) rfl dX2_count_43 ?_
            refine lv_iload_n hx hb dX2_count_46 rfl (lv_at hl 1 rfl) ?_
            refine hx_iald hx hb hK hP 4 2 rfl rfl (by omega) (by omega) dX2_count_47 ?_
            refine lv_iload_n hx hb dX2_count_48 rfl (lv_at hl 2 rfl) ?_
            refine lv_iload_n hx hb dX2_count_49 rfl (lv_at hl 3 rfl) ?_
            refine hx_read (va_runS (As := [.int (nw r), .int (nI x), .int (nI y)]) (rest := []) ⟨hx, hb, hml, hown, hts⟩ (c_X2_holds l (nw r) x y (by omega) (by omega)) (va_cwS 3 hts gX2_count_X2_holds rfl rfl rfl (by decide +kernel) ⟨Nat.le_of_ble_eq_true rfl, Nat.le_of_ble_eq_true rfl⟩) (nu_S _) rfl rfl hl.1 rfl (lv_room (Nat.le_of_ble_eq_true rfl)) dX2_count_50 ⟨Nat.zero_le _, Nat.zero_le _⟩) ?_
            refine hx_ifB (tgt := 60) hx hb dX2_count_53 (by decide) (fun c_6 => ?_) (fun c_6 => ?_)
            · refine lv_iconst (v := nI 0) hx hb dX2_count_60 (by decide) ?_
              exact W.iret (v := nI 0) hx hb hr (fun t ht hW => ⟨_, rfl, by rw [c_6]; rfl, ht⟩) (fun _ h => by cases h) dX2_count_61
            · refine lv_iconst (v := nI 1) hx hb dX2_count_56 (by decide) ?_
              refine lv_goto (tgt := 61) hx hb dX2_count_57 (by decide) ?_
              exact W.iret (v := nI 1) hx hb hr (fun t ht hW => ⟨_, rfl, by rw [c_6]; rfl, ht⟩) (fun _ h => by cases h) dX2_count_61
        · exact absurd (hy_3.symm.trans c_4) (by decide)
set_option maxHeartbeats 4000000 in
set_option maxRecDepth 100000 in
theorem c_X2_count_v (l : Launch) (dC : Nat → ClassId) (dI : Nat → Nat → Nat) (a : Nat → Nat) (cA : Nat → ClassId) (n : Nat) (hd fm rp rq : Nat → Nat) (nd nw bf su sI sO : Nat → Int32) (r x y : Nat) (hy_0 : r < 7) (hy_1 : x < 5) (hy_2 : y < 5) (hy_3 : bt (nd r) r = false) (hy_4 : 2 ≤ r) (hy_5 : ruOk n hd fm rp rq) : RdM l yX2_count wsX2_count ({ frames := 4, cells := 0, slots := 0, locals := 92 }) (dC, dI) vwCl (vkW a cA n hd fm rp rq nd nw bf su sI sO) (vkT cA) nstW [.ref (a 0), .int (nI r), .int (nI x), .int (nI y)] (nI (couF hd fm rp rq nw r x y n 0 0)) := by
  refine Met.ofW (cc := cX2_count) (maxL := 6) (ret := (some .int)) (by decide) rfl ?_
  intro p e s m args below meth c s₁ B hml hv
  obtain ⟨rfl, hP, hK, hN⟩ := hv
  have hx := B.exec
  have hb := B.bytes
  have hr := B.returns
  have hts := atoms_spec (ws := wsX2_count) B.pre
  have hown : s.vm.findClass RX2 = some m.cls := findClass_of_methodNamed B.named
  have hlocks := B.notSynchronized
  have kr : isRl (nI r) = true := isRl_nI (by omega)
  have kx1 : isTh (nI x) = true := isTh_nI (by omega)
  have ky : isTh (nI y) = true := isTh_nI (by omega)
  have kw : isVw (nI r) = true := isVw_nI (by omega) (by omega)
  obtain ⟨hn12, hru⟩ := id hy_5
  have lf_10 := hts (.fieldLink RX2 10 "ViewKeeper" "book" "LViewKeeper$RuleBook;") (by decide +kernel)
  have in_X2 : ∀ w ∈ u_ws RX2 TX2 6, w ∈ wsX2_count := by decide +kernel
  have lf_16 := hts (.fieldLink RX2 16 "ViewKeeper" "now" "[I") (by decide +kernel)
  have lf_39 : (Cond.fieldLinkNest RX2 39 "ViewKeeper$RuleBook" "made" "I" "ViewKeeper").before ([.ref (a 0), .int (nI r), .int (nI x), .int (nI y)] : List Value).toArray s = true := va_Nw.use rfl (hN _ (by decide +kernel))
  have in_X1 : ∀ w ∈ u_ws RX1 TX1 3, w ∈ wsX2_count := by decide +kernel
  have lf_103 : (Cond.fieldLinkNest RX2 103 "ViewKeeper$RuleBook" "rows" "[LViewKeeper$Rule;" "ViewKeeper").before ([.ref (a 0), .int (nI r), .int (nI x), .int (nI y)] : List Value).toArray s = true := va_Nw.use rfl (hN _ (by decide +kernel))
  have lf_107 : (Cond.fieldLinkNest RX2 107 "ViewKeeper$Rule" "head" "I" "ViewKeeper").before ([.ref (a 0), .int (nI r), .int (nI x), .int (nI y)] : List Value).toArray s = true := va_Nw.use rfl (hN _ (by decide +kernel))
  have in_X0 : ∀ w ∈ u_ws RX0 TX0 4, w ∈ wsX2_count := by decide +kernel
  have hl := lv_entry ([.ref (a 0), .int (nI r), .int (nI x), .int (nI y)]) (n := 6) (Nat.le_of_ble_eq_true rfl)
  rw [lg_entry_eq]
  generalize (lg_sl ([.ref (a 0), .int (nI r), .int (nI x), .int (nI y)]) ++ List.replicate (6 - (lg_sl ([.ref (a 0), .int (nI r), .int (nI x), .int (nI y)])).length) Slot.unset).toArray = ls at hl ⊢
  have hl : lv_has ls 6 [(0, .ref (a 0)), (1, .int (nI r)), (2, .int (nI x)), (3, .int (nI y))] := hl
  refine lv_iload_n hx hb dX2_count_0 rfl (lv_at hl 1 rfl) ?_
  refine hx_read (va_runS (As := [.int (nI r)]) (rest := []) ⟨hx, hb, hml, hown, hts⟩ (c_X2_isRelation l (nI r)) (va_cwS 1 hts gX2_count_X2_isRelation rfl rfl rfl (by decide +kernel) ⟨Nat.le_of_ble_eq_true rfl, Nat.le_of_ble_eq_true rfl⟩) (nu_S _) rfl rfl hl.1 rfl (lv_room (Nat.le_of_ble_eq_true rfl)) dX2_count_1 ⟨Nat.zero_le _, Nat.zero_le _⟩) ?_
  refine hx_ifB (tgt := 33) hx hb dX2_count_4 (by decide) (fun c_1 => ?_) (fun c_1 => ?_)
  · exact absurd (kr.symm.trans c_1) (by decide)
  · refine lv_iload_n hx hb dX2_count_7 rfl (lv_at hl 2 rfl) ?_
    refine hx_read (va_runS (As := [.int (nI x)]) (rest := []) ⟨hx, hb, hml, hown, hts⟩ (c_X2_isThing l (nI x)) (va_cwS 1 hts gX2_count_X2_isThing rfl rfl rfl (by decide +kernel) ⟨Nat.le_of_ble_eq_true rfl, Nat.le_of_ble_eq_true rfl⟩) (nu_S _) rfl rfl hl.1 rfl (lv_room (Nat.le_of_ble_eq_true rfl)) dX2_count_8 ⟨Nat.zero_le _, Nat.zero_le _⟩) ?_
    refine hx_ifB (tgt := 33) hx hb dX2_count_11 (by decide) (fun c_2 => ?_) (fun c_2 => ?_)
    · exact absurd (kx1.symm.trans c_2) (by decide)
    · refine lv_iload_n hx hb dX2_count_14 rfl (lv_at hl 3 rfl) ?_
      refine hx_read (va_runS (As := [.int (nI y)]) (rest := []) ⟨hx, hb, hml, hown, hts⟩ (c_X2_isThing l (nI y)) (va_cwS 1 hts gX2_count_X2_isThing rfl rfl rfl (by decide +kernel) ⟨Nat.le_of_ble_eq_true rfl, Nat.le_of_ble_eq_true rfl⟩) (nu_S _) rfl rfl hl.1 rfl (lv_room (Nat.le_of_ble_eq_true rfl)) dX2_count_15 ⟨Nat.zero_le _, Nat.zero_le _⟩) ?_
      refine hx_ifB (tgt := 33) hx hb dX2_count_18 (by decide) (fun c_3 => ?_) (fun c_3 => ?_)
      · exact absurd (ky.symm.trans c_3) (by decide)
      · refine lv_aload_n hx hb dX2_count_21 rfl (lv_at hl 0 rfl) ?_
        refine va_get (D := (dC, dI)) (ci := 2) (v := .ref (a 1)) (C := RX2) (T := TX2) (N := 6) hx hb hts in_X2 hown hK hP 0 rfl rfl 0 (by decide) lf_10 (fun _ h9 => h9) rfl dX2_count_22 ?_
        refine lv_iload_n hx hb dX2_count_25 rfl (lv_at hl 1 rfl) ?_
        refine lv_iload_n hx hb dX2_count_26 rfl (lv_at hl 1 rfl) ?_
        refine hx_read (va_runVN (C := RX1) (As := [.int (nI r), .int (nI r)]) (rest := []) ⟨hx, hb, hml, hown, hts⟩ (c_X1_leadsTo l dC dI a cA n hd fm rp rq nd nw bf su sI sO r r (by omega) (by omega)) ⟨va_cnB 2 hts gX2_count_X1_leadsTo_n99 rfl rfl rfl (hN (.methodLinkNest RX2 99 yX1_leadsTo "ViewKeeper") (by decide +kernel)) (hts (.initialized RX1) (by decide +kernel)) (by decide +kernel) ⟨Nat.le_of_ble_eq_true rfl, Nat.le_of_ble_eq_true rfl⟩, hts (.instanceMethod yX1_leadsTo) (by decide +kernel), hts (.selects RX1 yX1_leadsTo yX1_leadsTo) (by decide +kernel)⟩ (rd_V nstW_ok hP hK hN 1 rfl rfl _) rfl rfl hl.1 rfl (lv_room (Nat.le_of_ble_eq_true rfl)) dX2_count_27 ⟨Nat.zero_le _, Nat.zero_le _⟩) ?_
        refine hx_ifB (tgt := 35) hx hb dX2_count_30 (by decide) (fun c_4 => ?_) (fun c_4 => ?_)
        · refine lv_iload_n hx hb dX2_count_35 rfl (lv_at hl 1 rfl) ?_
          refine hx_read (va_runS (As := [.int (nI r)]) (rest := []) ⟨hx, hb, hml, hown, hts⟩ (c_X2_isView l (nI r)) (va_cwS 1 hts gX2_count_X2_isView rfl rfl rfl (by decide +kernel) ⟨Nat.le_of_ble_eq_true rfl, Nat.le_of_ble_eq_true rfl⟩) (nu_S _) rfl rfl hl.1 rfl (lv_room (Nat.le_of_ble_eq_true rfl)) dX2_count_36 ⟨Nat.zero_le _, Nat.zero_le _⟩) ?_
          refine hx_ifnB (tgt := 62) hx hb dX2_count_39 (by decide) (fun c_5 => ?_) (fun c_5 => ?_)
          · refine lv_iconst (v := nI 0) hx hb dX2_count_62 (by decide) ?_
            refine lv_istore (lv' := [(4, .int (nI 0)), (0, .ref (a 0)), (1, .int (nI r)), (2, .int (nI x)), (3, .int (nI y))]) hx hb dX2_count_63 hl (by decide) rfl (fun ls hl => ?_)
            refine lv_iconst (v := nI 0) hx hb dX2_count_65 (by decide) ?_
            refine lv_istore (lv' := [(5, .int (nI 0)), (4, .int (nI 0)), (0, .ref (a 0)), (1, .int (nI r)), (2, .int (nI x)), (3, .int (nI y))]) hx hb dX2_count_66 hl (by decide) rfl (fun ls hl => ?_)
            have L_68_5 : ∀ (nn : Nat) (i : Nat) (w : Nat), i + nn = n → ∀ ls : Array Slot, lv_has ls 6 [(0, .ref (a 0)), (1, .int (nI r)), (2, .int (nI x)), (3, .int (nI y)), (4, .int (nI w)), (5, .int (nI i))] → (∀ ls : Array Slot, lv_has ls 6 [(0, .ref (a 0)), (1, .int (nI r)), (2, .int (nI x)), (3, .int (nI y)), (4, .int (nI (couF hd fm rp rq nw r x y nn i w))), (5, .int (nI n))] → W p l e (headSpec wsX2_count ({ frames := 4, cells := 0, slots := 0, locals := 92 })).room s m ([.ref (a 0), .int (nI r), .int (nI x), .int (nI y)] : List Value).toArray below meth c s.heap [] 0 0 (MQ below (vp_Si (fun rz9 => rz9 = (nI (couF hd fm rp rq nw r x y n 0 0)))) ([.ref (a 0), .int (nI r), .int (nI x), .int (nI y)] : List Value).toArray s 0 0 (fun _ => False)) (F0 m 127 ls [])) → W p l e (headSpec wsX2_count ({ frames := 4, cells := 0, slots := 0, locals := 92 })).room s m ([.ref (a 0), .int (nI r), .int (nI x), .int (nI y)] : List Value).toArray below meth c s.heap [] 0 0 (MQ below (vp_Si (fun rz9 => rz9 = (nI (couF hd fm rp rq nw r x y n 0 0)))) ([.ref (a 0), .int (nI r), .int (nI x), .int (nI y)] : List Value).toArray s 0 0 (fun _ => False)) (F0 m 68 ls []) := by
              intro nn
              induction nn with
              | zero =>
                intro i w hni ls hl kx
                obtain rfl : n = i := by omega
                refine lv_iload hx hb dX2_count_68 (lv_at hl 5 rfl) ?_
                refine lv_aload_n hx hb dX2_count_70 rfl (lv_at hl 0 rfl) ?_
                refine va_get (D := (dC, dI)) (ci := 2) (v := .ref (a 1)) (C := RX2) (T := TX2) (N := 6) hx hb hts in_X2 hown hK hP 0 rfl rfl 0 (by decide) lf_10 (fun _ h9 => h9) rfl dX2_count_71 ?_
                refine va_getN (D := (dC, dI)) (ci := 1) (v := .int (nI n)) (C := RX1) (T := TX1) (N := 3) hx hb hts in_X1 hown hK hP 1 rfl rfl 2 (by decide) lf_39 (fun _ h9 => h9) rfl dX2_count_74 ?_
                refine hx_geN (tgt := 127) hx hb dX2_count_77 (by decide) (by omega) (by omega) (fun c_7 => ?_) (fun c_7 => ?_)
                · exact kx ls (lv_sub hl [0, 1, 2, 3, 4, 5] rfl)
                · exact absurd c_7 (by omega)
              | succ nn ih =>
                intro i w hni ls hl kx
                refine lv_iload hx hb dX2_count_68 (lv_at hl 5 rfl) ?_
                refine lv_aload_n hx hb dX2_count_70 rfl (lv_at hl 0 rfl) ?_
                refine va_get (D := (dC, dI)) (ci := 2) (v := .ref (a 1)) (C := RX2) (T := TX2) (N := 6) hx hb hts in_X2 hown hK hP 0 rfl rfl 0 (by decide) lf_10 (fun _ h9 => h9) rfl dX2_count_71 ?_
                refine va_getN (D := (dC, dI)) (ci := 1) (v := .int (nI n)) (C := RX1) (T := TX1) (N := 3) hx hb hts in_X1 hown hK hP 1 rfl rfl 2 (by decide) lf_39 (fun _ h9 => h9) rfl dX2_count_74 ?_
                refine hx_geN (tgt := 127) hx hb dX2_count_77 (by decide) (by omega) (by omega) (fun c_8 => ?_) (fun c_8 => ?_)
                · exact absurd c_8 (by omega)
                · have hr9 := hru i (by omega)
                  refine lv_aload_n hx hb dX2_count_80 rfl (lv_at hl 0 rfl) ?_
                  refine va_get (D := (dC, dI)) (ci := 2) (v := .ref (a 1)) (C := RX2) (T := TX2) (N := 6) hx hb hts in_X2 hown hK hP 0 rfl rfl 0 (by decide) lf_10 (fun _ h9 => h9) rfl dX2_count_81 ?_
                  refine va_getN (D := (dC, dI)) (ci := 1) (v := .ref (a 2)) (C := RX1) (T := TX1) (N := 3) hx hb hts in_X1 hown hK hP 1 rfl rfl 0 (by decide) lf_103 (fun _ h9 => h9) rfl dX2_count_84 ?_
                  refine lv_iload hx hb dX2_count_87 (lv_at hl 5 rfl) ?_
                  refine hx_aald hx hb hK hP 2 0 rfl rfl (by omega) (by omega) dX2_count_89 ?_
                  refine va_getN (D := (dC, dI)) (ci := 0) (v := .int (nI (hd i))) (C := RX0) (T := TX0) (N := 4) hx hb hts in_X0 hown hK hP (9 + i) (vkW_rule (by omega)) rfl 0 (by decide) lf_107 (fun _ h9 => h9) rfl dX2_count_90 ?_
                  refine lv_iload_n hx hb dX2_count_93 rfl (lv_at hl 1 rfl) ?_
                  refine hx_neN (tgt := 121) hx hb dX2_count_94 (by decide) (by omega) (by omega) (fun c_9 => ?_) (fun c_9 => ?_)
                  · refine lv_iinc (v := nI (i + 1)) (lv' := [(5, .int (nI (i + 1))), (0, .ref (a 0)), (1, .int (nI r)), (2, .int (nI x)), (3, .int (nI y)), (4, .int (nI w))]) hx hb dX2_count_121 hl (k := 5) rfl (nI_add i 1) (by decide) rfl (fun ls hl => ?_)
                    refine lv_goto (tgt := 68) hx hb dX2_count_124 (by decide) ?_
                    have kx := kx
                    rw [show couF hd fm rp rq nw r x y (nn + 1) i w = couF hd fm rp rq nw r x y nn (i + 1) w from by simp only [couF, c_1, c_2, c_3, c_4, c_5, c_8, c_9, ↓reduceIte, decide_true, decide_false, Bool.not_true, Bool.not_false, Bool.or_true, Bool.true_or, Bool.or_false, Bool.false_or, Bool.and_true, Bool.true_and, Bool.and_false, Bool.false_and, and_true, true_and, and_false, false_and, and_self, or_self, or_true, true_or, or_false, false_or, Bool.false_eq_true, Bool.true_eq_false, not_true_eq_false, not_false_eq_true, Bool.or_self, decide_eq_true_eq]] at kx
                    exact ih (i + 1) w (by omega) ls (lv_sub hl [1, 2, 3, 4, 5, 0] rfl) kx
                  · refine lv_iload hx hb dX2_count_97 (lv_at hl 4 rfl) ?_
                    refine lv_aload_n hx hb dX2_count_99 rfl (lv_at hl 0 rfl) ?_
                    refine va_get (D := (dC, dI)) (ci := 2) (v := .ref (a 1)) (C := RX2) (T := TX2) (N := 6) hx hb hts in_X2 hown hK hP 0 rfl rfl 0 (by decide) lf_10 (fun _ h9 => h9) rfl dX2_count_100 ?_
                    refine va_getN (D := (dC, dI)) (ci := 1) (v := .ref (a 2)) (C := RX1) (T := TX1) (N := 3) hx hb hts in_X1 hown hK hP 1 rfl rfl 0 (by decide) lf_103 (fun _ h9 => h9) rfl dX2_count_103 ?_
                    refine lv_iload hx hb dX2_count_106 (lv_at hl 5 rfl) ?_
                    refine hx_aald hx hb hK hP 2 0 rfl rfl (by omega) (by omega) dX2_count_108 ?_
                    refine lv_aload_n hx hb dX2_count_109 rfl (lv_at hl 0 rfl) ?_
                    refine va_get (D := (dC, dI)) (ci := 2) (v := .ref (a 4)) (C := RX2) (T := TX2) (N := 6) hx hb hts in_X2 hown hK hP 0 rfl rfl 1 (by decide) lf_16 (fun _ h9 => h9) rfl dX2_count_110 ?_
                    refine lv_iload_n hx hb dX2_count_113 rfl (lv_at hl 2 rfl) ?_
                    refine lv_iload_n hx hb dX2_count_114 rfl (lv_at hl 3 rfl) ?_
                    refine hx_read (va_runVN (C := RX0) (As := [.ref (a 4), .int (nI x), .int (nI y)]) (rest := [.int (nI w)]) ⟨hx, hb, hml, hown, hts⟩ (c_X0_instances l dC dI a cA n hd fm rp rq nd nw bf su sI sO i x y (by omega) (by omega) (by omega) (by omega) (by omega) (by omega)) ⟨va_cnB 3 hts gX2_count_X0_instances_n112 rfl rfl rfl (hN (.methodLinkNest RX2 112 yX0_instances "ViewKeeper") (by decide +kernel)) (hts (.initialized RX0) (by decide +kernel)) (by decide +kernel) ⟨Nat.le_of_ble_eq_true rfl, Nat.le_of_ble_eq_true rfl⟩, hts (.instanceMethod yX0_instances) (by decide +kernel), hts (.selects RX0 yX0_instances yX0_instances) (by decide +kernel)⟩ (rd_V nstW_ok hP hK hN (9 + i) (vkW_rule (by omega)) rfl _) rfl rfl hl.1 rfl (lv_room (Nat.le_of_ble_eq_true rfl)) dX2_count_115 ⟨Nat.zero_le _, Nat.zero_le _⟩) ?_
                    refine hx_iadd hx hb dX2_count_118 ?_
                    refine lv_istore (lv' := [(4, .int (nI (w + (insM (fm i) (nw (rp i)) (nw (rq i)) x y)))), (0, .ref (a 0)), (1, .int (nI r)), (2, .int (nI x)), (3, .int (nI y)), (5, .int (nI i))]) hx hb dX2_count_119 hl (by decide) rfl (fun ls hl => ?_)
                    refine lv_iinc (v := nI (i + 1)) (lv' := [(5, .int (nI (i + 1))), (4, .int (nI (w + (insM (fm i) (nw (rp i)) (nw (rq i)) x y)))), (0, .ref (a 0)), (1, .int (nI r)), (2, .int (nI x)), (3, .int (nI y))]) hx hb dX2_count_121 hl (k := 5) rfl (nI_add i 1) (by decide) rfl (fun ls hl => ?_)
                    refine lv_goto (tgt := 68) hx hb dX2_count_124 (by decide) ?_
                    have kx := kx
                    rw [show couF hd fm rp rq nw r x y (nn + 1) i w = couF hd fm rp rq nw r x y nn (i + 1) (w + (insM (fm i) (nw (rp i)) (nw (rq i)) x y)) from by simp only [couF, c_1, c_2, c_3, c_4, c_5, c_8, c_9, ↓reduceIte, decide_true, decide_false, Bool.not_true, Bool.not_false, Bool.or_true, Bool.true_or, Bool.or_false, Bool.false_or, Bool.and_true, Bool.true_and, Bool.and_false, Bool.false_and, and_true, true_and, and_false, false_and, and_self, or_self, or_true, true_or, or_false, false_or, Bool.false_eq_true, Bool.true_eq_false, not_true_eq_false, not_false_eq_true, Bool.or_self, decide_eq_true_eq]] at kx
                    exact ih (i + 1) (w + (insM (fm i) (nw (rp i)) (nw (rq i)) x y)) (by omega) ls (lv_sub hl [2, 3, 4, 5, 1, 0] rfl) kx
            refine L_68_5 n 0 0 (by omega) ls (lv_sub hl [2, 3, 4, 5, 1, 0] rfl) (fun ls hl => ?_)
            have hl : lv_has ls 6 [(0, .ref (a 0)), (1, .int (nI r)), (2, .int (nI x)), (3, .int (nI y)), (4, .int (nI (couF hd fm rp rq nw r x y n 0 0))), (5, .int (nI n))] := hl
            refine lv_iload hx hb dX2_count_127 (lv_at hl 4 rfl) ?_
            exact W.iret (v := nI (couF hd fm rp rq nw r x y n 0 0)) hx hb hr (fun t ht hW => ⟨_, rfl, rfl, ht⟩) (fun _ h => by cases h) dX2_count_129
          · exact absurd (kw.symm.trans c_5) (by decide)
        · exact absurd (hy_3.symm.trans c_4) (by decide)
set_option maxHeartbeats 4000000 in
set_option maxRecDepth 100000 in
theorem c_X2_size_b (l : Launch) (dC : Nat → ClassId) (dI : Nat → Nat → Nat) (a : Nat → Nat) (cA : Nat → ClassId) (n : Nat) (hd fm rp rq : Nat → Nat) (nd nw bf su sI sO : Nat → Int32) (r0 : Int32) (hy_0 : isRl r0 = false) : RdM l yX2_size wsX2_size ({ frames := 1, cells := 0, slots := 0, locals := 20 }) (dC, dI) vwCl (vkW a cA n hd fm rp rq nd nw bf su sI sO) (vkT cA) nstW [.ref (a 0), .int (r0)] ((-1)) := by
  refine Met.ofW (cc := cX2_size) (maxL := 2) (ret := (some .int)) (by decide) rfl ?_
  intro p e s m args below meth c s₁ B hml hv
  obtain ⟨rfl, hP, hK, hN⟩ := hv
  have hx := B.exec
  have hb := B.bytes
  have hr := B.returns
  have hts := atoms_spec (ws := wsX2_size) B.pre
  have hown : s.vm.findClass RX2 = some m.cls := findClass_of_methodNamed B.named
  have hlocks := B.notSynchronized
  have lf_16 := hts (.fieldLink RX2 16 "ViewKeeper" "now" "[I") (by decide +kernel)
  have in_X2 : ∀ w ∈ u_ws RX2 TX2 6, w ∈ wsX2_size := by decide +kernel
  have hl := lv_entry ([.ref (a 0), .int (r0)]) (n := 2) (Nat.le_of_ble_eq_true rfl)
  rw [lg_entry_eq]
  generalize (lg_sl ([.ref (a 0), .int (r0)]) ++ List.replicate (2 - (lg_sl ([.ref (a 0), .int (r0)])).length) Slot.unset).toArray = ls at hl ⊢
  have hl : lv_has ls 2 [(0, .ref (a 0)), (1, .int (r0))] := hl
  refine lv_iload_n hx hb dX2_size_0 rfl (lv_at hl 1 rfl) ?_
  refine hx_read (va_runS (As := [.int (r0)]) (rest := []) ⟨hx, hb, hml, hown, hts⟩ (c_X2_isRelation l r0) (va_cwS 1 hts gX2_size_X2_isRelation rfl rfl rfl (by decide +kernel) ⟨Nat.le_of_ble_eq_true rfl, Nat.le_of_ble_eq_true rfl⟩) (nu_S _) rfl rfl hl.1 rfl (lv_room (Nat.le_of_ble_eq_true rfl)) dX2_size_1 ⟨Nat.zero_le _, Nat.zero_le _⟩) ?_
  refine hx_ifB (tgt := 19) hx hb dX2_size_4 (by decide) (fun c_1 => ?_) (fun c_1 => ?_)
  · refine lv_iconst (v := (-1)) hx hb dX2_size_19 (by decide) ?_
    exact W.iret (v := (-1)) hx hb hr (fun t ht hW => ⟨_, rfl, rfl, ht⟩) (fun _ h => by cases h) dX2_size_20
  · exact absurd (hy_0.symm.trans c_1) (by decide)
set_option maxHeartbeats 4000000 in
set_option maxRecDepth 100000 in
theorem c_X2_size_g (l : Launch) (dC : Nat → ClassId) (dI : Nat → Nat → Nat) (a : Nat → Nat) (cA : Nat → ClassId) (n : Nat) (hd fm rp rq : Nat → Nat) (nd nw bf su sI sO : Nat → Int32) (r : Nat) (hy_0 : r < 7) : RdM l yX2_size wsX2_size ({ frames := 1, cells := 0, slots := 0, locals := 20 }) (dC, dI) vwCl (vkW a cA n hd fm rp rq nd nw bf su sI sO) (vkT cA) nstW [.ref (a 0), .int (nI r)] (nI (cntB (nw r) 32)) := by
  refine Met.ofW (cc := cX2_size) (maxL := 2) (ret := (some .int)) (by decide) rfl ?_
  intro p e s m args below meth c s₁ B hml hv
  obtain ⟨rfl, hP, hK, hN⟩ := hv
  have hx := B.exec
  have hb := B.bytes
  have hr := B.returns
  have hts := atoms_spec (ws := wsX2_size) B.pre
  have hown : s.vm.findClass RX2 = some m.cls := findClass_of_methodNamed B.named
  have hlocks := B.notSynchronized
  have kr : isRl (nI r) = true := isRl_nI (by omega)
  have lf_16 := hts (.fieldLink RX2 16 "ViewKeeper" "now" "[I") (by decide +kernel)
  have in_X2 : ∀ w ∈ u_ws RX2 TX2 6, w ∈ wsX2_size := by decide +kernel
  have hl := lv_entry ([.ref (a 0), .int (nI r)]) (n := 2) (Nat.le_of_ble_eq_true rfl)
  rw [lg_entry_eq]
  generalize (lg_sl ([.ref (a 0), .int (nI r)]) ++ List.replicate (2 - (lg_sl ([.ref (a 0), .int (nI r)])).length) Slot.unset).toArray = ls at hl ⊢
  have hl : lv_has ls 2 [(0, .ref (a 0)), (1, .int (nI r))] := hl
  refine lv_iload_n hx hb dX2_size_0 rfl (lv_at hl 1 rfl) ?_
  refine hx_read (va_runS (As := [.int (nI r)]) (rest := []) ⟨hx, hb, hml, hown, hts⟩ (c_X2_isRelation l (nI r)) (va_cwS 1 hts gX2_size_X2_isRelation rfl rfl rfl (by decide +kernel) ⟨Nat.le_of_ble_eq_true rfl, Nat.le_of_ble_eq_true rfl⟩) (nu_S _) rfl rfl hl.1 rfl (lv_room (Nat.le_of_ble_eq_true rfl)) dX2_size_1 ⟨Nat.zero_le _, Nat.zero_le _⟩) ?_
  refine hx_ifB (tgt := 19) hx hb dX2_size_4 (by decide) (fun c_1 => ?_) (fun c_1 => ?_)
  · exact absurd (kr.symm.trans c_1) (by decide)
  · refine lv_aload_n hx hb dX2_size_7 rfl (lv_at hl 0 rfl) ?_
    refine va_get (D := (dC, dI)) (ci := 2) (v := .ref (a 4)) (C := RX2) (T := TX2) (N := 6) hx hb hts in_X2 hown hK hP 0 rfl rfl 1 (by decide) lf_16 (fun _ h9 => h9) rfl dX2_size_8 ?_
    refine lv_iload_n hx hb dX2_size_11 rfl (lv_at hl 1 rfl) ?_
    refine hx_iald hx hb hK hP 4 2 rfl rfl (by omega) (by omega) dX2_size_12 ?_
    refine hx_read (va_runS (As := [.int (nw r)]) (rest := []) ⟨hx, hb, hml, hown, hts⟩ (c_J6_bitCount_0f7a4 l (nw r)) (va_cwS 1 hts gX2_size_J6_bitCount_0f7a4 rfl rfl rfl (by decide +kernel) ⟨Nat.le_of_ble_eq_true rfl, Nat.le_of_ble_eq_true rfl⟩) (nu_S _) rfl rfl hl.1 rfl (lv_room (Nat.le_of_ble_eq_true rfl)) dX2_size_13 ⟨Nat.zero_le _, Nat.zero_le _⟩) ?_
    have hc_2 := cntB_le (nw r) 32
    refine lv_goto (tgt := 20) hx hb dX2_size_16 (by decide) ?_
    exact W.iret (v := nI (cntB (nw r) 32)) hx hb hr (fun t ht hW => ⟨_, rfl, rfl, ht⟩) (fun _ h => by cases h) dX2_size_20
set_option maxHeartbeats 4000000 in
set_option maxRecDepth 100000 in
theorem c_X2_recursive_b (l : Launch) (dC : Nat → ClassId) (dI : Nat → Nat → Nat) (a : Nat → Nat) (cA : Nat → ClassId) (n : Nat) (hd fm rp rq : Nat → Nat) (nd nw bf su sI sO : Nat → Int32) (r0 : Int32) (hy_0 : isRl r0 = false) : RdM l yX2_recursive wsX2_recursive ({ frames := 1, cells := 0, slots := 0, locals := 22 }) (dC, dI) vwCl (vkW a cA n hd fm rp rq nd nw bf su sI sO) (vkT cA) nstW [.ref (a 0), .int (r0)] (bI false) := by
  refine Met.ofW (cc := cX2_recursive) (maxL := 2) (ret := (some .boolean)) (by decide) rfl ?_
  intro p e s m args below meth c s₁ B hml hv
  obtain ⟨rfl, hP, hK, hN⟩ := hv
  have hx := B.exec
  have hb := B.bytes
  have hr := B.returns
  have hts := atoms_spec (ws := wsX2_recursive) B.pre
  have hown : s.vm.findClass RX2 = some m.cls := findClass_of_methodNamed B.named
  have hlocks := B.notSynchronized
  have lf_10 := hts (.fieldLink RX2 10 "ViewKeeper" "book" "LViewKeeper$RuleBook;") (by decide +kernel)
  have in_X2 : ∀ w ∈ u_ws RX2 TX2 6, w ∈ wsX2_recursive := by decide +kernel
  have hl := lv_entry ([.ref (a 0), .int (r0)]) (n := 2) (Nat.le_of_ble_eq_true rfl)
  rw [lg_entry_eq]
  generalize (lg_sl ([.ref (a 0), .int (r0)]) ++ List.replicate (2 - (lg_sl ([.ref (a 0), .int (r0)])).length) Slot.unset).toArray = ls at hl ⊢
  have hl : lv_has ls 2 [(0, .ref (a 0)), (1, .int (r0))] := hl
  refine lv_iload_n hx hb dX2_recursive_0 rfl (lv_at hl 1 rfl) ?_
  refine hx_read (va_runS (As := [.int (r0)]) (rest := []) ⟨hx, hb, hml, hown, hts⟩ (c_X2_isRelation l r0) (va_cwS 1 hts gX2_recursive_X2_isRelation rfl rfl rfl (by decide +kernel) ⟨Nat.le_of_ble_eq_true rfl, Nat.le_of_ble_eq_true rfl⟩) (nu_S _) rfl rfl hl.1 rfl (lv_room (Nat.le_of_ble_eq_true rfl)) dX2_recursive_1 ⟨Nat.zero_le _, Nat.zero_le _⟩) ?_
  refine hx_ifB (tgt := 23) hx hb dX2_recursive_4 (by decide) (fun c_1 => ?_) (fun c_1 => ?_)
  · refine lv_iconst (v := nI 0) hx hb dX2_recursive_23 (by decide) ?_
    exact W.zret (v := nI 0) hx hb hr rfl (fun t ht hW => ⟨_, rfl, rfl, ht⟩) (fun _ h => by cases h) dX2_recursive_24
  · exact absurd (hy_0.symm.trans c_1) (by decide)
set_option maxHeartbeats 4000000 in
set_option maxRecDepth 100000 in
theorem c_X2_recursive_g (l : Launch) (dC : Nat → ClassId) (dI : Nat → Nat → Nat) (a : Nat → Nat) (cA : Nat → ClassId) (n : Nat) (hd fm rp rq : Nat → Nat) (nd nw bf su sI sO : Nat → Int32) (r : Nat) (hy_0 : r < 7) : RdM l yX2_recursive wsX2_recursive ({ frames := 1, cells := 0, slots := 0, locals := 22 }) (dC, dI) vwCl (vkW a cA n hd fm rp rq nd nw bf su sI sO) (vkT cA) nstW [.ref (a 0), .int (nI r)] (bI (bt (nd r) r)) := by
  refine Met.ofW (cc := cX2_recursive) (maxL := 2) (ret := (some .boolean)) (by decide) rfl ?_
  intro p e s m args below meth c s₁ B hml hv
  obtain ⟨rfl, hP, hK, hN⟩ := hv
  have hx := B.exec
  have hb := B.bytes
  have hr := B.returns
  have hts := atoms_spec (ws := wsX2_recursive) B.pre
  have hown : s.vm.findClass RX2 = some m.cls := findClass_of_methodNamed B.named
  have hlocks := B.notSynchronized
  have kr : isRl (nI r) = true := isRl_nI (by omega)
  have lf_10 := hts (.fieldLink RX2 10 "ViewKeeper" "book" "LViewKeeper$RuleBook;") (by decide +kernel)
  have in_X2 : ∀ w ∈ u_ws RX2 TX2 6, w ∈ wsX2_recursive := by decide +kernel
  have hl := lv_entry ([.ref (a 0), .int (nI r)]) (n := 2) (Nat.le_of_ble_eq_true rfl)
  rw [lg_entry_eq]
  generalize (lg_sl ([.ref (a 0), .int (nI r)]) ++ List.replicate (2 - (lg_sl ([.ref (a 0), .int (nI r)])).length) Slot.unset).toArray = ls at hl ⊢
  have hl : lv_has ls 2 [(0, .ref (a 0)), (1, .int (nI r))] := hl
  refine lv_iload_n hx hb dX2_recursive_0 rfl (lv_at hl 1 rfl) ?_
  refine hx_read (va_runS (As := [.int (nI r)]) (rest := []) ⟨hx, hb, hml, hown, hts⟩ (c_X2_isRelation l (nI r)) (va_cwS 1 hts gX2_recursive_X2_isRelation rfl rfl rfl (by decide +kernel) ⟨Nat.le_of_ble_eq_true rfl, Nat.le_of_ble_eq_true rfl⟩) (nu_S _) rfl rfl hl.1 rfl (lv_room (Nat.le_of_ble_eq_true rfl)) dX2_recursive_1 ⟨Nat.zero_le _, Nat.zero_le _⟩) ?_
  refine hx_ifB (tgt := 23) hx hb dX2_recursive_4 (by decide) (fun c_1 => ?_) (fun c_1 => ?_)
  · exact absurd (kr.symm.trans c_1) (by decide)
  · refine lv_aload_n hx hb dX2_recursive_7 rfl (lv_at hl 0 rfl) ?_
    refine va_get (D := (dC, dI)) (ci := 2) (v := .ref (a 1)) (C := RX2) (T := TX2) (N := 6) hx hb hts in_X2 hown hK hP 0 rfl rfl 0 (by decide) lf_10 (fun _ h9 => h9) rfl dX2_recursive_8 ?_
    refine lv_iload_n hx hb dX2_recursive_11 rfl (lv_at hl 1 rfl) ?_
    refine lv_iload_n hx hb dX2_recursive_12 rfl (lv_at hl 1 rfl) ?_
    refine hx_read (va_runVN (C := RX1) (As := [.int (nI r), .int (nI r)]) (rest := []) ⟨hx, hb, hml, hown, hts⟩ (c_X1_leadsTo l dC dI a cA n hd fm rp rq nd nw bf su sI sO r r (by omega) (by omega)) ⟨va_cnB 2 hts gX2_recursive_X1_leadsTo_n99 rfl rfl rfl (hN (.methodLinkNest RX2 99 yX1_leadsTo "ViewKeeper") (by decide +kernel)) (hts (.initialized RX1) (by decide +kernel)) (by decide +kernel) ⟨Nat.le_of_ble_eq_true rfl, Nat.le_of_ble_eq_true rfl⟩, hts (.instanceMethod yX1_leadsTo) (by decide +kernel), hts (.selects RX1 yX1_leadsTo yX1_leadsTo) (by decide +kernel)⟩ (rd_V nstW_ok hP hK hN 1 rfl rfl _) rfl rfl hl.1 rfl (lv_room (Nat.le_of_ble_eq_true rfl)) dX2_recursive_13 ⟨Nat.zero_le _, Nat.zero_le _⟩) ?_
    refine hx_ifB (tgt := 23) hx hb dX2_recursive_16 (by decide) (fun c_2 => ?_) (fun c_2 => ?_)
    · refine lv_iconst (v := nI 0) hx hb dX2_recursive_23 (by decide) ?_
      exact W.zret (v := nI 0) hx hb hr rfl (fun t ht hW => ⟨_, rfl, by rw [c_2]; rfl, ht⟩) (fun _ h => by cases h) dX2_recursive_24
    · refine lv_iconst (v := nI 1) hx hb dX2_recursive_19 (by decide) ?_
      refine lv_goto (tgt := 24) hx hb dX2_recursive_20 (by decide) ?_
      exact W.zret (v := nI 1) hx hb hr rfl (fun t ht hW => ⟨_, rfl, by rw [c_2]; rfl, ht⟩) (fun _ h => by cases h) dX2_recursive_24
set_option maxHeartbeats 4000000 in
set_option maxRecDepth 100000 in
theorem c_X2_needs_b (l : Launch) (dC : Nat → ClassId) (dI : Nat → Nat → Nat) (a : Nat → Nat) (cA : Nat → ClassId) (n : Nat) (hd fm rp rq : Nat → Nat) (nd nw bf su sI sO : Nat → Int32) (v0 r0 : Int32) (hy_0 : (isVw v0 && isRl r0) = false) : RdM l yX2_needs wsX2_needs ({ frames := 1, cells := 0, slots := 0, locals := 22 }) (dC, dI) vwCl (vkW a cA n hd fm rp rq nd nw bf su sI sO) (vkT cA) nstW [.ref (a 0), .int (v0), .int (r0)] (bI false) := by
  refine Met.ofW (cc := cX2_needs) (maxL := 3) (ret := (some .boolean)) (by decide) rfl ?_
  intro p e s m args below meth c s₁ B hml hv
  obtain ⟨rfl, hP, hK, hN⟩ := hv
  have hx := B.exec
  have hb := B.bytes
  have hr := B.returns
  have hts := atoms_spec (ws := wsX2_needs) B.pre
  have hown : s.vm.findClass RX2 = some m.cls := findClass_of_methodNamed B.named
  have hlocks := B.notSynchronized
  have lf_10 := hts (.fieldLink RX2 10 "ViewKeeper" "book" "LViewKeeper$RuleBook;") (by decide +kernel)
  have in_X2 : ∀ w ∈ u_ws RX2 TX2 6, w ∈ wsX2_needs := by decide +kernel
  have hl := lv_entry ([.ref (a 0), .int (v0), .int (r0)]) (n := 3) (Nat.le_of_ble_eq_true rfl)
  rw [lg_entry_eq]
  generalize (lg_sl ([.ref (a 0), .int (v0), .int (r0)]) ++ List.replicate (3 - (lg_sl ([.ref (a 0), .int (v0), .int (r0)])).length) Slot.unset).toArray = ls at hl ⊢
  have hl : lv_has ls 3 [(0, .ref (a 0)), (1, .int (v0)), (2, .int (r0))] := hl
  refine lv_iload_n hx hb dX2_needs_0 rfl (lv_at hl 1 rfl) ?_
  refine hx_read (va_runS (As := [.int (v0)]) (rest := []) ⟨hx, hb, hml, hown, hts⟩ (c_X2_isView l v0) (va_cwS 1 hts gX2_needs_X2_isView rfl rfl rfl (by decide +kernel) ⟨Nat.le_of_ble_eq_true rfl, Nat.le_of_ble_eq_true rfl⟩) (nu_S _) rfl rfl hl.1 rfl (lv_room (Nat.le_of_ble_eq_true rfl)) dX2_needs_1 ⟨Nat.zero_le _, Nat.zero_le _⟩) ?_
  refine hx_ifB (tgt := 30) hx hb dX2_needs_4 (by decide) (fun c_1 => ?_) (fun c_1 => ?_)
  · refine lv_iconst (v := nI 0) hx hb dX2_needs_30 (by decide) ?_
    exact W.zret (v := nI 0) hx hb hr rfl (fun t ht hW => ⟨_, rfl, rfl, ht⟩) (fun _ h => by cases h) dX2_needs_31
  · refine lv_iload_n hx hb dX2_needs_7 rfl (lv_at hl 2 rfl) ?_
    refine hx_read (va_runS (As := [.int (r0)]) (rest := []) ⟨hx, hb, hml, hown, hts⟩ (c_X2_isRelation l r0) (va_cwS 1 hts gX2_needs_X2_isRelation rfl rfl rfl (by decide +kernel) ⟨Nat.le_of_ble_eq_true rfl, Nat.le_of_ble_eq_true rfl⟩) (nu_S _) rfl rfl hl.1 rfl (lv_room (Nat.le_of_ble_eq_true rfl)) dX2_needs_8 ⟨Nat.zero_le _, Nat.zero_le _⟩) ?_
    refine hx_ifB (tgt := 30) hx hb dX2_needs_11 (by decide) (fun c_2 => ?_) (fun c_2 => ?_)
    · refine lv_iconst (v := nI 0) hx hb dX2_needs_30 (by decide) ?_
      exact W.zret (v := nI 0) hx hb hr rfl (fun t ht hW => ⟨_, rfl, rfl, ht⟩) (fun _ h => by cases h) dX2_needs_31
    · exact absurd hy_0 (by simp [c_1, c_2])
set_option maxHeartbeats 4000000 in
set_option maxRecDepth 100000 in
theorem c_X2_needs_g (l : Launch) (dC : Nat → ClassId) (dI : Nat → Nat → Nat) (a : Nat → Nat) (cA : Nat → ClassId) (n : Nat) (hd fm rp rq : Nat → Nat) (nd nw bf su sI sO : Nat → Int32) (v r : Nat) (hy_0 : 2 ≤ v) (hy_1 : v < 7) (hy_2 : r < 7) : RdM l yX2_needs wsX2_needs ({ frames := 1, cells := 0, slots := 0, locals := 22 }) (dC, dI) vwCl (vkW a cA n hd fm rp rq nd nw bf su sI sO) (vkT cA) nstW [.ref (a 0), .int (nI v), .int (nI r)] (bI (bt (nd v) r)) := by
  refine Met.ofW (cc := cX2_needs) (maxL := 3) (ret := (some .boolean)) (by decide) rfl ?_
  intro p e s m args below meth c s₁ B hml hv
  obtain ⟨rfl, hP, hK, hN⟩ := hv
  have hx := B.exec
  have hb := B.bytes
  have hr := B.returns
  have hts := atoms_spec (ws := wsX2_needs) B.pre
  have hown : s.vm.findClass RX2 = some m.cls := findClass_of_methodNamed B.named
  have hlocks := B.notSynchronized
  have kv : isVw (nI v) = true := isVw_nI (by omega) (by omega)
  have kr : isRl (nI r) = true := isRl_nI (by omega)
  have lf_10 := hts (.fieldLink RX2 10 "ViewKeeper" "book" "LViewKeeper$RuleBook;") (by decide +kernel)
  have in_X2 : ∀ w ∈ u_ws RX2 TX2 6, w ∈ wsX2_needs := by decide +kernel
  have hl := lv_entry ([.ref (a 0), .int (nI v), .int (nI r)]) (n := 3) (Nat.le_of_ble_eq_true rfl)
  rw [lg_entry_eq]
  generalize (lg_sl ([.ref (a 0), .int (nI v), .int (nI r)]) ++ List.replicate (3 - (lg_sl ([.ref (a 0), .int (nI v), .int (nI r)])).length) Slot.unset).toArray = ls at hl ⊢
  have hl : lv_has ls 3 [(0, .ref (a 0)), (1, .int (nI v)), (2, .int (nI r))] := hl
  refine lv_iload_n hx hb dX2_needs_0 rfl (lv_at hl 1 rfl) ?_
  refine hx_read (va_runS (As := [.int (nI v)]) (rest := []) ⟨hx, hb, hml, hown, hts⟩ (c_X2_isView l (nI v)) (va_cwS 1 hts gX2_needs_X2_isView rfl rfl rfl (by decide +kernel) ⟨Nat.le_of_ble_eq_true rfl, Nat.le_of_ble_eq_true rfl⟩) (nu_S _) rfl rfl hl.1 rfl (lv_room (Nat.le_of_ble_eq_true rfl)) dX2_needs_1 ⟨Nat.zero_le _, Nat.zero_le _⟩) ?_
  refine hx_ifB (tgt := 30) hx hb dX2_needs_4 (by decide) (fun c_1 => ?_) (fun c_1 => ?_)
  · exact absurd (kv.symm.trans c_1) (by decide)
  · refine lv_iload_n hx hb dX2_needs_7 rfl (lv_at hl 2 rfl) ?_
    refine hx_read (va_runS (As := [.int (nI r)]) (rest := []) ⟨hx, hb, hml, hown, hts⟩ (c_X2_isRelation l (nI r)) (va_cwS 1 hts gX2_needs_X2_isRelation rfl rfl rfl (by decide +kernel) ⟨Nat.le_of_ble_eq_true rfl, Nat.le_of_ble_eq_true rfl⟩) (nu_S _) rfl rfl hl.1 rfl (lv_room (Nat.le_of_ble_eq_true rfl)) dX2_needs_8 ⟨Nat.zero_le _, Nat.zero_le _⟩) ?_
    refine hx_ifB (tgt := 30) hx hb dX2_needs_11 (by decide) (fun c_2 => ?_) (fun c_2 => ?_)
    · exact absurd (kr.symm.trans c_2) (by decide)
    · refine lv_aload_n hx hb dX2_needs_14 rfl (lv_at hl 0 rfl) ?_
      refine va_get (D := (dC, dI)) (ci := 2) (v := .ref (a 1)) (C := RX2) (T := TX2) (N := 6) hx hb hts in_X2 hown hK hP 0 rfl rfl 0 (by decide) lf_10 (fun _ h9 => h9) rfl dX2_needs_15 ?_
      refine lv_iload_n hx hb dX2_needs_18 rfl (lv_at hl 1 rfl) ?_
      refine lv_iload_n hx hb dX2_needs_19 rfl (lv_at hl 2 rfl) ?_
      refine hx_read (va_runVN (C := RX1) (As := [.int (nI v), .int (nI r)]) (rest := []) ⟨hx, hb, hml, hown, hts⟩ (c_X1_leadsTo l dC dI a cA n hd fm rp rq nd nw bf su sI sO v r (by omega) (by omega)) ⟨va_cnB 2 hts gX2_needs_X1_leadsTo_n99 rfl rfl rfl (hN (.methodLinkNest RX2 99 yX1_leadsTo "ViewKeeper") (by decide +kernel)) (hts (.initialized RX1) (by decide +kernel)) (by decide +kernel) ⟨Nat.le_of_ble_eq_true rfl, Nat.le_of_ble_eq_true rfl⟩, hts (.instanceMethod yX1_leadsTo) (by decide +kernel), hts (.selects RX1 yX1_leadsTo yX1_leadsTo) (by decide +kernel)⟩ (rd_V nstW_ok hP hK hN 1 rfl rfl _) rfl rfl hl.1 rfl (lv_room (Nat.le_of_ble_eq_true rfl)) dX2_needs_20 ⟨Nat.zero_le _, Nat.zero_le _⟩) ?_
      refine hx_ifB (tgt := 30) hx hb dX2_needs_23 (by decide) (fun c_3 => ?_) (fun c_3 => ?_)
      · refine lv_iconst (v := nI 0) hx hb dX2_needs_30 (by decide) ?_
        exact W.zret (v := nI 0) hx hb hr rfl (fun t ht hW => ⟨_, rfl, by rw [c_3]; rfl, ht⟩) (fun _ h => by cases h) dX2_needs_31
      · refine lv_iconst (v := nI 1) hx hb dX2_needs_26 (by decide) ?_
        refine lv_goto (tgt := 31) hx hb dX2_needs_27 (by decide) ?_
        exact W.zret (v := nI 1) hx hb hr rfl (fun t ht hW => ⟨_, rfl, by rw [c_3]; rfl, ht⟩) (fun _ h => by cases h) dX2_needs_31
set_option maxHeartbeats 4000000 in
set_option maxRecDepth 100000 in
theorem c_X2_rules (l : Launch) (dC : Nat → ClassId) (dI : Nat → Nat → Nat) (a : Nat → Nat) (cA : Nat → ClassId) (n : Nat) (hd fm rp rq : Nat → Nat) (nd nw bf su sI sO : Nat → Int32)  : RdM l yX2_rules wsX2_rules ({ frames := 0, cells := 0, slots := 0, locals := 0 }) (dC, dI) vwCl (vkW a cA n hd fm rp rq nd nw bf su sI sO) (vkT cA) nstW [.ref (a 0)] (nI n) := by
  refine Met.ofW (cc := cX2_rules) (maxL := 1) (ret := (some .int)) (by decide) rfl ?_
  intro p e s m args below meth c s₁ B hml hv
  obtain ⟨rfl, hP, hK, hN⟩ := hv
  have hx := B.exec
  have hb := B.bytes
  have hr := B.returns
  have hts := atoms_spec (ws := wsX2_rules) B.pre
  have hown : s.vm.findClass RX2 = some m.cls := findClass_of_methodNamed B.named
  have hlocks := B.notSynchronized
  have lf_10 := hts (.fieldLink RX2 10 "ViewKeeper" "book" "LViewKeeper$RuleBook;") (by decide +kernel)
  have in_X2 : ∀ w ∈ u_ws RX2 TX2 6, w ∈ wsX2_rules := by decide +kernel
  have lf_39 : (Cond.fieldLinkNest RX2 39 "ViewKeeper$RuleBook" "made" "I" "ViewKeeper").before ([.ref (a 0)] : List Value).toArray s = true := va_Nw.use rfl (hN _ (by decide +kernel))
  have in_X1 : ∀ w ∈ u_ws RX1 TX1 3, w ∈ wsX2_rules := by decide +kernel
  have hl := lv_entry ([.ref (a 0)]) (n := 1) (Nat.le_of_ble_eq_true rfl)
  rw [lg_entry_eq]
  generalize (lg_sl ([.ref (a 0)]) ++ List.replicate (1 - (lg_sl ([.ref (a 0)])).length) Slot.unset).toArray = ls at hl ⊢
  have hl : lv_has ls 1 [(0, .ref (a 0))] := hl
  refine lv_aload_n hx hb dX2_rules_0 rfl (lv_at hl 0 rfl) ?_
  refine va_get (D := (dC, dI)) (ci := 2) (v := .ref (a 1)) (C := RX2) (T := TX2) (N := 6) hx hb hts in_X2 hown hK hP 0 rfl rfl 0 (by decide) lf_10 (fun _ h9 => h9) rfl dX2_rules_1 ?_
  refine va_getN (D := (dC, dI)) (ci := 1) (v := .int (nI n)) (C := RX1) (T := TX1) (N := 3) hx hb hts in_X1 hown hK hP 1 rfl rfl 2 (by decide) lf_39 (fun _ h9 => h9) rfl dX2_rules_4 ?_
  exact W.iret (v := nI n) hx hb hr (fun t ht hW => ⟨_, rfl, rfl, ht⟩) (fun _ h => by cases h) dX2_rules_7
set_option maxHeartbeats 4000000 in
set_option maxRecDepth 100000 in
theorem c_X2_changed_b (l : Launch) (dC : Nat → ClassId) (dI : Nat → Nat → Nat) (a : Nat → Nat) (cA : Nat → ClassId) (n : Nat) (hd fm rp rq : Nat → Nat) (nd nw bf su sI sO : Nat → Int32) (r0 w0 : Int32) (hy_0 : isRl r0 = false) : RdM l yX2_changed wsX2_changed ({ frames := 1, cells := 0, slots := 0, locals := 21 }) (dC, dI) vwCl (vkW a cA n hd fm rp rq nd nw bf su sI sO) (vkT cA) nstW [.ref (a 0), .int (r0), .int (w0)] ((-1)) := by
  refine Met.ofW (cc := cX2_changed) (maxL := 3) (ret := (some .int)) (by decide) rfl ?_
  intro p e s m args below meth c s₁ B hml hv
  obtain ⟨rfl, hP, hK, hN⟩ := hv
  have hx := B.exec
  have hb := B.bytes
  have hr := B.returns
  have hts := atoms_spec (ws := wsX2_changed) B.pre
  have hown : s.vm.findClass RX2 = some m.cls := findClass_of_methodNamed B.named
  have hlocks := B.notSynchronized
  have lf_23 := hts (.fieldLink RX2 23 "ViewKeeper" "suspects" "[I") (by decide +kernel)
  have in_X2 : ∀ w ∈ u_ws RX2 TX2 6, w ∈ wsX2_changed := by decide +kernel
  have lf_16 := hts (.fieldLink RX2 16 "ViewKeeper" "now" "[I") (by decide +kernel)
  have hl := lv_entry ([.ref (a 0), .int (r0), .int (w0)]) (n := 3) (Nat.le_of_ble_eq_true rfl)
  rw [lg_entry_eq]
  generalize (lg_sl ([.ref (a 0), .int (r0), .int (w0)]) ++ List.replicate (3 - (lg_sl ([.ref (a 0), .int (r0), .int (w0)])).length) Slot.unset).toArray = ls at hl ⊢
  have hl : lv_has ls 3 [(0, .ref (a 0)), (1, .int (r0)), (2, .int (w0))] := hl
  refine lv_iload_n hx hb dX2_changed_0 rfl (lv_at hl 1 rfl) ?_
  refine hx_read (va_runS (As := [.int (r0)]) (rest := []) ⟨hx, hb, hml, hown, hts⟩ (c_X2_isRelation l r0) (va_cwS 1 hts gX2_changed_X2_isRelation rfl rfl rfl (by decide +kernel) ⟨Nat.le_of_ble_eq_true rfl, Nat.le_of_ble_eq_true rfl⟩) (nu_S _) rfl rfl hl.1 rfl (lv_room (Nat.le_of_ble_eq_true rfl)) dX2_changed_1 ⟨Nat.zero_le _, Nat.zero_le _⟩) ?_
  refine hx_ifnB (tgt := 9) hx hb dX2_changed_4 (by decide) (fun c_1 => ?_) (fun c_1 => ?_)
  · exact absurd (hy_0.symm.trans c_1) (by decide)
  · refine lv_iconst (v := (-1)) hx hb dX2_changed_7 (by decide) ?_
    exact W.iret (v := (-1)) hx hb hr (fun t ht hW => ⟨_, rfl, rfl, ht⟩) (fun _ h => by cases h) dX2_changed_8
set_option maxHeartbeats 4000000 in
set_option maxRecDepth 100000 in
theorem c_X2_changed_c (l : Launch) (dC : Nat → ClassId) (dI : Nat → Nat → Nat) (a : Nat → Nat) (cA : Nat → ClassId) (n : Nat) (hd fm rp rq : Nat → Nat) (nd nw bf su sI sO : Nat → Int32) (r : Nat) (w0 : Int32) (hy_0 : r < 7) (hy_1 : w0 < 0 ∨ nI 4 ≤ w0) : RdM l yX2_changed wsX2_changed ({ frames := 1, cells := 0, slots := 0, locals := 21 }) (dC, dI) vwCl (vkW a cA n hd fm rp rq nd nw bf su sI sO) (vkT cA) nstW [.ref (a 0), .int (nI r), .int (w0)] ((-1)) := by
  refine Met.ofW (cc := cX2_changed) (maxL := 3) (ret := (some .int)) (by decide) rfl ?_
  intro p e s m args below meth c s₁ B hml hv
  obtain ⟨rfl, hP, hK, hN⟩ := hv
  have hx := B.exec
  have hb := B.bytes
  have hr := B.returns
  have hts := atoms_spec (ws := wsX2_changed) B.pre
  have hown : s.vm.findClass RX2 = some m.cls := findClass_of_methodNamed B.named
  have hlocks := B.notSynchronized
  have kr : isRl (nI r) = true := isRl_nI (by omega)
  have lf_23 := hts (.fieldLink RX2 23 "ViewKeeper" "suspects" "[I") (by decide +kernel)
  have in_X2 : ∀ w ∈ u_ws RX2 TX2 6, w ∈ wsX2_changed := by decide +kernel
  have lf_16 := hts (.fieldLink RX2 16 "ViewKeeper" "now" "[I") (by decide +kernel)
  have hl := lv_entry ([.ref (a 0), .int (nI r), .int (w0)]) (n := 3) (Nat.le_of_ble_eq_true rfl)
  rw [lg_entry_eq]
  generalize (lg_sl ([.ref (a 0), .int (nI r), .int (w0)]) ++ List.replicate (3 - (lg_sl ([.ref (a 0), .int (nI r), .int (w0)])).length) Slot.unset).toArray = ls at hl ⊢
  have hl : lv_has ls 3 [(0, .ref (a 0)), (1, .int (nI r)), (2, .int (w0))] := hl
  refine lv_iload_n hx hb dX2_changed_0 rfl (lv_at hl 1 rfl) ?_
  refine hx_read (va_runS (As := [.int (nI r)]) (rest := []) ⟨hx, hb, hml, hown, hts⟩ (c_X2_isRelation l (nI r)) (va_cwS 1 hts gX2_changed_X2_isRelation rfl rfl rfl (by decide +kernel) ⟨Nat.le_of_ble_eq_true rfl, Nat.le_of_ble_eq_true rfl⟩) (nu_S _) rfl rfl hl.1 rfl (lv_room (Nat.le_of_ble_eq_true rfl)) dX2_changed_1 ⟨Nat.zero_le _, Nat.zero_le _⟩) ?_
  refine hx_ifnB (tgt := 9) hx hb dX2_changed_4 (by decide) (fun c_1 => ?_) (fun c_1 => ?_)
  · refine lv_iload_n hx hb dX2_changed_9 rfl (lv_at hl 2 rfl) ?_
    refine lv_tableOut (tgt := 85) hx hb dX2_changed_10 (tab_out hy_1) (by decide) ?_
    refine lv_iconst (v := (-1)) hx hb dX2_changed_85 (by decide) ?_
    exact W.iret (v := (-1)) hx hb hr (fun t ht hW => ⟨_, rfl, rfl, ht⟩) (fun _ h => by cases h) dX2_changed_86
  · exact absurd (kr.symm.trans c_1) (by decide)
set_option maxHeartbeats 4000000 in
set_option maxRecDepth 100000 in
theorem c_X2_changed_g (l : Launch) (dC : Nat → ClassId) (dI : Nat → Nat → Nat) (a : Nat → Nat) (cA : Nat → ClassId) (n : Nat) (hd fm rp rq : Nat → Nat) (nd nw bf su sI sO : Nat → Int32) (r w : Nat) (hy_0 : r < 7) (hy_1 : w < 4) : RdM l yX2_changed wsX2_changed ({ frames := 1, cells := 0, slots := 0, locals := 21 }) (dC, dI) vwCl (vkW a cA n hd fm rp rq nd nw bf su sI sO) (vkT cA) nstW [.ref (a 0), .int (nI r), .int (nI w)] (nI (chgM nw bf su r w)) := by
  refine Met.ofW (cc := cX2_changed) (maxL := 3) (ret := (some .int)) (by decide) rfl ?_
  intro p e s m args below meth c s₁ B hml hv
  obtain ⟨rfl, hP, hK, hN⟩ := hv
  have hx := B.exec
  have hb := B.bytes
  have hr := B.returns
  have hts := atoms_spec (ws := wsX2_changed) B.pre
  have hown : s.vm.findClass RX2 = some m.cls := findClass_of_methodNamed B.named
  have hlocks := B.notSynchronized
  have kr : isRl (nI r) = true := isRl_nI (by omega)
  have lf_23 := hts (.fieldLink RX2 23 "ViewKeeper" "suspects" "[I") (by decide +kernel)
  have in_X2 : ∀ w ∈ u_ws RX2 TX2 6, w ∈ wsX2_changed := by decide +kernel
  have lf_16 := hts (.fieldLink RX2 16 "ViewKeeper" "now" "[I") (by decide +kernel)
  have hl := lv_entry ([.ref (a 0), .int (nI r), .int (nI w)]) (n := 3) (Nat.le_of_ble_eq_true rfl)
  rw [lg_entry_eq]
  generalize (lg_sl ([.ref (a 0), .int (nI r), .int (nI w)]) ++ List.replicate (3 - (lg_sl ([.ref (a 0), .int (nI r), .int (nI w)])).length) Slot.unset).toArray = ls at hl ⊢
  have hl : lv_has ls 3 [(0, .ref (a 0)), (1, .int (nI r)), (2, .int (nI w))] := hl
  refine lv_iload_n hx hb dX2_changed_0 rfl (lv_at hl 1 rfl) ?_
  refine hx_read (va_runS (As := [.int (nI r)]) (rest := []) ⟨hx, hb, hml, hown, hts⟩ (c_X2_isRelation l (nI r)) (va_cwS 1 hts gX2_changed_X2_isRelation rfl rfl rfl (by decide +kernel) ⟨Nat.le_of_ble_eq_true rfl, Nat.le_of_ble_eq_true rfl⟩) (nu_S _) rfl rfl hl.1 rfl (lv_room (Nat.le_of_ble_eq_true rfl)) dX2_changed_1 ⟨Nat.zero_le _, Nat.zero_le _⟩) ?_
  refine hx_ifnB (tgt := 9) hx hb dX2_changed_4 (by decide) (fun c_1 => ?_) (fun c_1 => ?_)
  · refine lv_iload_n hx hb dX2_changed_9 rfl (lv_at hl 2 rfl) ?_
    rcases (show w = 0 ∨ w = 1 ∨ w = 2 ∨ w = 3 by omega) with q_2 | q_2 | q_2 | q_2
    · refine hx_eq (y := nI 0) (by rw [q_2]) ?_
      refine lv_tableIn (tgt := 40) hx hb dX2_changed_10 (by decide) (by decide) (off := 30) rfl (by decide) ?_
      refine lv_aload_n hx hb dX2_changed_40 rfl (lv_at hl 0 rfl) ?_
      refine lv_iload_n hx hb dX2_changed_41 rfl (lv_at hl 1 rfl) ?_
      refine hx_read (va_runV (As := [.int (nI r)]) (rest := []) ⟨hx, hb, hml, hown, hts⟩ (c_X2_putInto l dC dI a cA n hd fm rp rq nd nw bf su sI sO r (by omega)) (cwV 1 hts gX2_changed_X2_putInto rfl rfl rfl (by decide +kernel) ⟨Nat.le_of_ble_eq_true rfl, Nat.le_of_ble_eq_true rfl⟩) (rd_V nstW_ok hP hK hN 0 rfl rfl _) rfl rfl hl.1 rfl (lv_room (Nat.le_of_ble_eq_true rfl)) dX2_changed_42 ⟨Nat.zero_le _, Nat.zero_le _⟩) ?_
      refine hx_read (va_runS (As := [.int (putM nw bf r)]) (rest := []) ⟨hx, hb, hml, hown, hts⟩ (c_J6_bitCount_0f7a4 l (putM nw bf r)) (va_cwS 1 hts gX2_changed_J6_bitCount_0f7a4 rfl rfl rfl (by decide +kernel) ⟨Nat.le_of_ble_eq_true rfl, Nat.le_of_ble_eq_true rfl⟩) (nu_S _) rfl rfl hl.1 rfl (lv_room (Nat.le_of_ble_eq_true rfl)) dX2_changed_45 ⟨Nat.zero_le _, Nat.zero_le _⟩) ?_
      have hc_3 := cntB_le (putM nw bf r) 32
      exact W.iret (v := nI (cntB (putM nw bf r) 32)) hx hb hr (fun t ht hW => ⟨_, rfl, by simp [chgM, c_1, q_2], ht⟩) (fun _ h => by cases h) dX2_changed_48
    · refine hx_eq (y := nI 1) (by rw [q_2]) ?_
      refine lv_tableIn (tgt := 49) hx hb dX2_changed_10 (by decide) (by decide) (off := 39) rfl (by decide) ?_
      refine lv_aload_n hx hb dX2_changed_49 rfl (lv_at hl 0 rfl) ?_
      refine lv_iload_n hx hb dX2_changed_50 rfl (lv_at hl 1 rfl) ?_
      refine hx_read (va_runV (As := [.int (nI r)]) (rest := []) ⟨hx, hb, hml, hown, hts⟩ (c_X2_takenOutOf l dC dI a cA n hd fm rp rq nd nw bf su sI sO r (by omega)) (cwV 1 hts gX2_changed_X2_takenOutOf rfl rfl rfl (by decide +kernel) ⟨Nat.le_of_ble_eq_true rfl, Nat.le_of_ble_eq_true rfl⟩) (rd_V nstW_ok hP hK hN 0 rfl rfl _) rfl rfl hl.1 rfl (lv_room (Nat.le_of_ble_eq_true rfl)) dX2_changed_51 ⟨Nat.zero_le _, Nat.zero_le _⟩) ?_
      refine hx_read (va_runS (As := [.int (takM nw bf r)]) (rest := []) ⟨hx, hb, hml, hown, hts⟩ (c_J6_bitCount_0f7a4 l (takM nw bf r)) (va_cwS 1 hts gX2_changed_J6_bitCount_0f7a4 rfl rfl rfl (by decide +kernel) ⟨Nat.le_of_ble_eq_true rfl, Nat.le_of_ble_eq_true rfl⟩) (nu_S _) rfl rfl hl.1 rfl (lv_room (Nat.le_of_ble_eq_true rfl)) dX2_changed_54 ⟨Nat.zero_le _, Nat.zero_le _⟩) ?_
      have hc_4 := cntB_le (takM nw bf r) 32
      exact W.iret (v := nI (cntB (takM nw bf r) 32)) hx hb hr (fun t ht hW => ⟨_, rfl, by simp [chgM, c_1, q_2], ht⟩) (fun _ h => by cases h) dX2_changed_57
    · refine hx_eq (y := nI 2) (by rw [q_2]) ?_
      refine lv_tableIn (tgt := 58) hx hb dX2_changed_10 (by decide) (by decide) (off := 48) rfl (by decide) ?_
      refine lv_aload_n hx hb dX2_changed_58 rfl (lv_at hl 0 rfl) ?_
      refine va_get (D := (dC, dI)) (ci := 2) (v := .ref (a 6)) (C := RX2) (T := TX2) (N := 6) hx hb hts in_X2 hown hK hP 0 rfl rfl 3 (by decide) lf_23 (fun _ h9 => h9) rfl dX2_changed_59 ?_
      refine lv_iload_n hx hb dX2_changed_62 rfl (lv_at hl 1 rfl) ?_
      refine hx_iald hx hb hK hP 6 4 rfl rfl (by omega) (by omega) dX2_changed_63 ?_
      refine hx_read (va_runS (As := [.int (su r)]) (rest := []) ⟨hx, hb, hml, hown, hts⟩ (c_J6_bitCount_0f7a4 l (su r)) (va_cwS 1 hts gX2_changed_J6_bitCount_0f7a4 rfl rfl rfl (by decide +kernel) ⟨Nat.le_of_ble_eq_true rfl, Nat.le_of_ble_eq_true rfl⟩) (nu_S _) rfl rfl hl.1 rfl (lv_room (Nat.le_of_ble_eq_true rfl)) dX2_changed_64 ⟨Nat.zero_le _, Nat.zero_le _⟩) ?_
      have hc_5 := cntB_le (su r) 32
      exact W.iret (v := nI (cntB (su r) 32)) hx hb hr (fun t ht hW => ⟨_, rfl, by simp [chgM, c_1, q_2], ht⟩) (fun _ h => by cases h) dX2_changed_67
    · refine hx_eq (y := nI 3) (by rw [q_2]) ?_
      refine lv_tableIn (tgt := 68) hx hb dX2_changed_10 (by decide) (by decide) (off := 58) rfl (by decide) ?_
      refine lv_aload_n hx hb dX2_changed_68 rfl (lv_at hl 0 rfl) ?_
      refine va_get (D := (dC, dI)) (ci := 2) (v := .ref (a 6)) (C := RX2) (T := TX2) (N := 6) hx hb hts in_X2 hown hK hP 0 rfl rfl 3 (by decide) lf_23 (fun _ h9 => h9) rfl dX2_changed_69 ?_
      refine lv_iload_n hx hb dX2_changed_72 rfl (lv_at hl 1 rfl) ?_
      refine hx_iald hx hb hK hP 6 4 rfl rfl (by omega) (by omega) dX2_changed_73 ?_
      refine lv_aload_n hx hb dX2_changed_74 rfl (lv_at hl 0 rfl) ?_
      refine va_get (D := (dC, dI)) (ci := 2) (v := .ref (a 4)) (C := RX2) (T := TX2) (N := 6) hx hb hts in_X2 hown hK hP 0 rfl rfl 1 (by decide) lf_16 (fun _ h9 => h9) rfl dX2_changed_75 ?_
      refine lv_iload_n hx hb dX2_changed_78 rfl (lv_at hl 1 rfl) ?_
      refine hx_iald hx hb hK hP 4 2 rfl rfl (by omega) (by omega) dX2_changed_79 ?_
      refine lv_iand hx hb dX2_changed_80 ?_
      refine hx_read (va_runS (As := [.int ((su r) &&& (nw r))]) (rest := []) ⟨hx, hb, hml, hown, hts⟩ (c_J6_bitCount_0f7a4 l ((su r) &&& (nw r))) (va_cwS 1 hts gX2_changed_J6_bitCount_0f7a4 rfl rfl rfl (by decide +kernel) ⟨Nat.le_of_ble_eq_true rfl, Nat.le_of_ble_eq_true rfl⟩) (nu_S _) rfl rfl hl.1 rfl (lv_room (Nat.le_of_ble_eq_true rfl)) dX2_changed_81 ⟨Nat.zero_le _, Nat.zero_le _⟩) ?_
      have hc_6 := cntB_le ((su r) &&& (nw r)) 32
      exact W.iret (v := nI (cntB ((su r) &&& (nw r)) 32)) hx hb hr (fun t ht hW => ⟨_, rfl, by simp [chgM, c_1, q_2], ht⟩) (fun _ h => by cases h) dX2_changed_84
  · exact absurd (kr.symm.trans c_1) (by decide)
end

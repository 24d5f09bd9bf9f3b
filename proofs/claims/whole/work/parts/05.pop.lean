/-! how many bits a number has: what java/lang/Integer.bitCount makes -/
theorem and_cat {u s v t : Nat} (hv : v < 2 ^ 8) (ht : t < 2 ^ 8) : (2 ^ 8 * u + v) &&& (2 ^ 8 * s + t) = 2 ^ 8 * (u &&& s) + (v &&& t) := by
  apply Nat.eq_of_testBit_eq
  intro j
  rw [Nat.testBit_and, Nat.testBit_two_pow_mul_add _ hv, Nat.testBit_two_pow_mul_add _ ht, Nat.testBit_two_pow_mul_add _ (Nat.and_lt_two_pow _ ht)]
  split
  · rw [Nat.testBit_and]
  · rw [Nat.testBit_and]
theorem and4 (m d0 d1 d2 d3 : Nat) (hm : m < 256) (h0 : d0 < 256) (h1 : d1 < 256) (h2 : d2 < 256) : (d0 + 256 * d1 + 65536 * d2 + 16777216 * d3) &&& (m * 16843009) = (d0 &&& m) + 256 * (d1 &&& m) + 65536 * (d2 &&& m) + 16777216 * (d3 &&& m) := by
  rw [show d0 + 256 * d1 + 65536 * d2 + 16777216 * d3 = 2 ^ 8 * (2 ^ 8 * (2 ^ 8 * d3 + d2) + d1) + d0 by omega, show m * 16843009 = 2 ^ 8 * (2 ^ 8 * (2 ^ 8 * m + m) + m) + m by omega, and_cat (by omega) (by omega), and_cat (by omega) (by omega), and_cat (by omega) (by omega)]
  omega
def pb1 (d : Nat) : Nat := d - ((d / 2) &&& 85)
def pb2 (d : Nat) : Nat := (pb1 d &&& 51) + ((pb1 d / 4) &&& 51)
def popB (a : Nat) : Nat := a % 2 + a / 2 % 2 + a / 4 % 2 + a / 8 % 2 + a / 16 % 2 + a / 32 % 2 + a / 64 % 2 + a / 128 % 2
theorem pb_1 : ∀ d, d < 256 → ((d / 2) &&& 85) ≤ d ∧ (d / 2 + 128) &&& 85 = (d / 2) &&& 85 := by decide +kernel
theorem pb_2 : ∀ d, d < 256 → ∀ r, r < 4 → (d / 4 + 64 * r) &&& 51 = (d / 4) &&& 51 := by decide +kernel
theorem pb_3 : ∀ d, d < 256 → pb2 d < 128 ∧ pb2 d % 16 < 5 ∧ ∀ r, r < 5 → (pb2 d + pb2 d / 16 + 16 * r) < 256 ∧ (pb2 d + pb2 d / 16 + 16 * r) &&& 15 = popB d := by decide +kernel
theorem pb_4 : ∀ d, d < 256 → popB d ≤ 8 := by decide +kernel
theorem pb1_lt {d : Nat} (h : d < 256) : pb1 d < 256 := by unfold pb1; omega
theorem pb_1' {d : Nat} (h : d < 256) (r : Nat) (hr : r < 2) : (d / 2 + 128 * r) &&& 85 = (d / 2) &&& 85 := by
  rcases (show r = 0 ∨ r = 1 by omega) with q | q
  · rw [q, Nat.mul_zero, Nat.add_zero]
  · rw [q, Nat.mul_one]; exact (pb_1 d h).2
/-- the steps, on natural numbers -/
def bn1 (a : Nat) : Nat := a - ((a / 2) &&& 1431655765)
def bn2 (a : Nat) : Nat := (bn1 a &&& 858993459) + ((bn1 a / 4) &&& 858993459)
def bn3 (a : Nat) : Nat := (bn2 a + bn2 a / 16) &&& 252645135
def bn4 (a : Nat) : Nat := bn3 a + bn3 a / 256
def bn5 (a : Nat) : Nat := bn4 a + bn4 a / 65536
theorem bn_1 {d0 d1 d2 d3 : Nat} (h0 : d0 < 256) (h1 : d1 < 256) (h2 : d2 < 256) (h3 : d3 < 256) : ((d0 + 256 * d1 + 65536 * d2 + 16777216 * d3) / 2 &&& 1431655765) = ((d0 / 2) &&& 85) + 256 * ((d1 / 2) &&& 85) + 65536 * ((d2 / 2) &&& 85) + 16777216 * ((d3 / 2) &&& 85) := by
  rw [show (d0 + 256 * d1 + 65536 * d2 + 16777216 * d3) / 2 = (d0 / 2 + 128 * (d1 % 2)) + 256 * (d1 / 2 + 128 * (d2 % 2)) + 65536 * (d2 / 2 + 128 * (d3 % 2)) + 16777216 * (d3 / 2) by omega, show (1431655765 : Nat) = 85 * 16843009 from rfl, and4 85 _ _ _ _ (by omega) (by omega) (by omega) (by omega), pb_1' h0 _ (by omega), pb_1' h1 _ (by omega), pb_1' h2 _ (by omega)]
theorem bn1_eq {d0 d1 d2 d3 : Nat} (h0 : d0 < 256) (h1 : d1 < 256) (h2 : d2 < 256) (h3 : d3 < 256) : bn1 (d0 + 256 * d1 + 65536 * d2 + 16777216 * d3) = pb1 d0 + 256 * pb1 d1 + 65536 * pb1 d2 + 16777216 * pb1 d3 := by
  unfold bn1 pb1
  rw [bn_1 h0 h1 h2 h3]
  have a0 := (pb_1 d0 h0).1; have a1 := (pb_1 d1 h1).1; have a2 := (pb_1 d2 h2).1; have a3 := (pb_1 d3 h3).1
  omega
theorem bn2_eq {d0 d1 d2 d3 : Nat} (h0 : d0 < 256) (h1 : d1 < 256) (h2 : d2 < 256) (h3 : d3 < 256) : bn2 (d0 + 256 * d1 + 65536 * d2 + 16777216 * d3) = pb2 d0 + 256 * pb2 d1 + 65536 * pb2 d2 + 16777216 * pb2 d3 := by
  have a0 := pb1_lt h0; have a1 := pb1_lt h1; have a2 := pb1_lt h2; have a3 := pb1_lt h3
  unfold bn2
  rw [bn1_eq h0 h1 h2 h3]
  unfold pb2
  generalize pb1 d0 = e0 at *
  generalize pb1 d1 = e1 at *
  generalize pb1 d2 = e2 at *
  generalize pb1 d3 = e3 at *
  rw [show (e0 + 256 * e1 + 65536 * e2 + 16777216 * e3) / 4 = (e0 / 4 + 64 * (e1 % 4)) + 256 * (e1 / 4 + 64 * (e2 % 4)) + 65536 * (e2 / 4 + 64 * (e3 % 4)) + 16777216 * (e3 / 4) by omega, show (858993459 : Nat) = 51 * 16843009 from rfl, and4 51 _ _ _ _ (by omega) (by omega) (by omega) (by omega), and4 51 _ _ _ _ (by omega) (by omega) (by omega) (by omega), pb_2 _ a0 _ (by omega), pb_2 _ a1 _ (by omega), pb_2 _ a2 _ (by omega)]
  omega
theorem bn3_eq {d0 d1 d2 d3 : Nat} (h0 : d0 < 256) (h1 : d1 < 256) (h2 : d2 < 256) (h3 : d3 < 256) : bn3 (d0 + 256 * d1 + 65536 * d2 + 16777216 * d3) = popB d0 + 256 * popB d1 + 65536 * popB d2 + 16777216 * popB d3 := by
  obtain ⟨a0, b0, c0⟩ := pb_3 d0 h0
  obtain ⟨a1, b1, c1⟩ := pb_3 d1 h1
  obtain ⟨a2, b2, c2⟩ := pb_3 d2 h2
  obtain ⟨a3, b3, c3⟩ := pb_3 d3 h3
  unfold bn3
  rw [bn2_eq h0 h1 h2 h3]
  have e0 := c0 _ b1; have e1 := c1 _ b2; have e2 := c2 _ b3; have e3 := c3 0 (by omega)
  rw [show pb2 d0 + 256 * pb2 d1 + 65536 * pb2 d2 + 16777216 * pb2 d3 + (pb2 d0 + 256 * pb2 d1 + 65536 * pb2 d2 + 16777216 * pb2 d3) / 16 = (pb2 d0 + pb2 d0 / 16 + 16 * (pb2 d1 % 16)) + 256 * (pb2 d1 + pb2 d1 / 16 + 16 * (pb2 d2 % 16)) + 65536 * (pb2 d2 + pb2 d2 / 16 + 16 * (pb2 d3 % 16)) + 16777216 * (pb2 d3 + pb2 d3 / 16 + 16 * 0) by omega, show (252645135 : Nat) = 15 * 16843009 from rfl, and4 15 _ _ _ _ (by omega) e0.1 e1.1 e2.1, e0.2, e1.2, e2.2, e3.2]
theorem bn5_eq {d0 d1 d2 d3 : Nat} (h0 : d0 < 256) (h1 : d1 < 256) (h2 : d2 < 256) (h3 : d3 < 256) : bn5 (d0 + 256 * d1 + 65536 * d2 + 16777216 * d3) &&& 63 = popB d0 + popB d1 + popB d2 + popB d3 := by
  have a0 := pb_4 d0 h0; have a1 := pb_4 d1 h1; have a2 := pb_4 d2 h2; have a3 := pb_4 d3 h3
  rw [show (63 : Nat) = 2 ^ 6 - 1 from rfl, Nat.and_two_pow_sub_one_eq_mod]
  unfold bn5 bn4
  rw [bn3_eq h0 h1 h2 h3]
  generalize popB d0 = g0 at *
  generalize popB d1 = g1 at *
  generalize popB d2 = g2 at *
  generalize popB d3 = g3 at *
  have e1 : (g0 + 256 * g1 + 65536 * g2 + 16777216 * g3) / 256 = g1 + 256 * g2 + 65536 * g3 := by omega
  rw [e1]
  have e2 : (g0 + 256 * g1 + 65536 * g2 + 16777216 * g3 + (g1 + 256 * g2 + 65536 * g3)) / 65536 = g2 + g3 + 256 * g3 := by omega
  rw [e2]
  have e3 : g0 + 256 * g1 + 65536 * g2 + 16777216 * g3 + (g1 + 256 * g2 + 65536 * g3) + (g2 + g3 + 256 * g3) = (g0 + g1 + g2 + g3) + 64 * (4 * (g1 + g2 + g3) + 1024 * (g2 + g3) + 262144 * g3) := by omega
  rw [e3, show (2 : Nat) ^ 6 = 64 from rfl, Nat.add_mul_mod_self_left]
  exact Nat.mod_eq_of_lt (by omega)
/-- the bits below k, counted -/
def cntB (m : Int32) : Nat → Nat
  | 0 => 0
  | k + 1 => cntB m k + (if bt m k = true then 1 else 0)
theorem bt_nI (a : Nat) {k : Nat} (hk : k < 32) : bt (nI a) k = a.testBit k := by
  show (BitVec.ofNat 32 a).getLsbD k = _
  rw [BitVec.getLsbD_ofNat, decide_eq_true hk, Bool.true_and]
theorem bitN (a : Nat) {k : Nat} (hk : k < 32) : (if bt (nI a) k = true then 1 else 0) = a / 2 ^ k % 2 := by
  rw [bt_nI a hk, Nat.testBit_eq_decide_div_mod_eq]
  by_cases h : a / 2 ^ k % 2 = 1
  · rw [decide_eq_true h, if_pos rfl, h]
  · rw [decide_eq_false h, if_neg (by decide)]
    omega
theorem cnt8 (m : Int32) (k : Nat) : cntB m (k + 8) = cntB m k + (if bt m k = true then 1 else 0) + (if bt m (k + 1) = true then 1 else 0) + (if bt m (k + 2) = true then 1 else 0) + (if bt m (k + 3) = true then 1 else 0) + (if bt m (k + 4) = true then 1 else 0) + (if bt m (k + 5) = true then 1 else 0) + (if bt m (k + 6) = true then 1 else 0) + (if bt m (k + 7) = true then 1 else 0) := rfl
theorem cntByte (a k : Nat) (hk : k + 8 ≤ 32) : cntB (nI a) (k + 8) = cntB (nI a) k + popB (a / 2 ^ k % 256) := by
  rw [cnt8, bitN a (by omega), bitN a (by omega), bitN a (by omega), bitN a (by omega), bitN a (by omega), bitN a (by omega), bitN a (by omega), bitN a (by omega)]
  have e : ∀ j, a / 2 ^ (k + j) = a / 2 ^ k / 2 ^ j := fun j => by rw [Nat.pow_add, Nat.div_div_eq_div_mul]
  rw [e 1, e 2, e 3, e 4, e 5, e 6, e 7]
  generalize a / 2 ^ k = y
  unfold popB
  omega
theorem cnt_pop (a : Nat) (ha : a < 4294967296) : cntB (nI a) 32 = popB (a % 256) + popB (a / 256 % 256) + popB (a / 65536 % 256) + popB (a / 16777216) := by
  have e0 := cntByte a 0 (by omega)
  have e1 := cntByte a 8 (by omega)
  have e2 := cntByte a 16 (by omega)
  have e3 := cntByte a 24 (by omega)
  rw [show (0 : Nat) + 8 = 8 from rfl, show cntB (nI a) 0 = 0 from rfl, Nat.zero_add, show a / 2 ^ 0 = a by omega] at e0
  rw [show (8 : Nat) + 8 = 16 from rfl, e0, show (2 : Nat) ^ 8 = 256 from rfl] at e1
  rw [show (16 : Nat) + 8 = 24 from rfl, e1, show (2 : Nat) ^ 16 = 65536 from rfl] at e2
  rw [show (24 : Nat) + 8 = 32 from rfl, e2, show (2 : Nat) ^ 24 = 16777216 from rfl, Nat.mod_eq_of_lt (a := a / 16777216) (by omega)] at e3
  exact e3
/-- the steps, as the machine does them -/
def bc1 (x : Int32) : Int32 := x - ((x.toUInt32 >>> ((nI 1).toUInt32 &&& Int32.toUInt32 31)).toInt32 &&& 1431655765)
def bc2' (x : Int32) : Int32 := (bc1 x &&& 858993459) + (((bc1 x).toUInt32 >>> ((nI 2).toUInt32 &&& Int32.toUInt32 31)).toInt32 &&& 858993459)
def bc3 (x : Int32) : Int32 := (bc2' x + ((bc2' x).toUInt32 >>> ((nI 4).toUInt32 &&& Int32.toUInt32 31)).toInt32) &&& 252645135
def bc4 (x : Int32) : Int32 := bc3 x + ((bc3 x).toUInt32 >>> ((nI 8).toUInt32 &&& Int32.toUInt32 31)).toInt32
def bc5 (x : Int32) : Int32 := bc4 x + ((bc4 x).toUInt32 >>> ((nI 16).toUInt32 &&& Int32.toUInt32 31)).toInt32
theorem bc_ush {n : Nat} (hn : n < 2 ^ 32) (k : Nat) (hk : k < 32) : ((nI n).toUInt32 >>> ((nI k).toUInt32 &&& Int32.toUInt32 31)).toInt32 = nI (n / 2 ^ k) := pk_ushrN hn (nI k) k (s_u k hk)
theorem bc_ok (x : Int32) : bc5 x &&& nI 63 = nI (cntB x 32) := by
  obtain ⟨a, ha, rfl⟩ : ∃ n, n < 2 ^ 32 ∧ x = nI n := ⟨x.toBitVec.toNat, x.toBitVec.isLt, by
    apply Int32.toBitVec_inj.1
    show x.toBitVec = BitVec.ofNat 32 x.toBitVec.toNat
    simp⟩
  have hb1 : bn1 a ≤ a := by unfold bn1; omega
  have e1 : bc1 (nI a) = nI (bn1 a) := by
    unfold bc1 bn1
    rw [bc_ush ha 1 (by omega), show (1431655765 : Int32) = nI 1431655765 from rfl, nx_and, pk_sub]
    have := Nat.and_le_left (n := a / 2 ^ 1) (m := 1431655765)
    omega
  have e2 : bc2' (nI a) = nI (bn2 a) := by
    unfold bc2' bn2
    rw [e1, bc_ush (by omega) 2 (by omega), show (858993459 : Int32) = nI 858993459 from rfl, nx_and, nx_and, nI_add]
  have hb2 : bn2 a ≤ 1717986918 := by
    unfold bn2
    have q1 := Nat.and_le_right (n := bn1 a) (m := 858993459)
    have q2 := Nat.and_le_right (n := bn1 a / 4) (m := 858993459)
    omega
  have e3 : bc3 (nI a) = nI (bn3 a) := by
    unfold bc3 bn3
    rw [e2, bc_ush (by omega) 4 (by omega), show (252645135 : Int32) = nI 252645135 from rfl, nI_add, nx_and]
  have hb3 : bn3 a ≤ 252645135 := Nat.and_le_right
  have e4 : bc4 (nI a) = nI (bn4 a) := by
    unfold bc4 bn4
    rw [e3, bc_ush (by omega) 8 (by omega), nI_add]
  have hb4 : bn4 a ≤ 2 * 252645135 := by unfold bn4; omega
  have e5 : bc5 (nI a) = nI (bn5 a) := by
    unfold bc5 bn5
    rw [e4, bc_ush (by omega) 16 (by omega), nI_add]
  rw [e5, nx_and, cnt_pop a (by omega)]
  congr 1
  have h := bn5_eq (d0 := a % 256) (d1 := a / 256 % 256) (d2 := a / 65536 % 256) (d3 := a / 16777216) (by omega) (by omega) (by omega) (by omega)
  rw [show a % 256 + 256 * (a / 256 % 256) + 65536 * (a / 65536 % 256) + 16777216 * (a / 16777216) = a by omega] at h
  exact h
theorem cnt25 {m : Int32} (h : lt25 m) : cntB m 32 = cntB m 25 := by
  have e : ∀ k, 25 ≤ k → cntB m (k + 1) = cntB m k := fun k hk => by rw [cntB, h k hk, if_neg (by decide), Nat.add_zero]
  rw [e 31 (by omega), e 30 (by omega), e 29 (by omega), e 28 (by omega), e 27 (by omega), e 26 (by omega), e 25 (by omega)]

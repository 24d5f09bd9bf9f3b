/-! THE COUNTS: how many ways of rules give a pair; a view that does not lead back to itself has a pair as long as there is one; the counts are kept by what has come and what has gone -/
theorem col_bits : ∀ w, w < 5 → ∀ x, x < 5 → ∀ z, z < 5 → bt (colM w) (5 * x + z) = decide (z = w) := by decide +kernel
theorem gby_join {P Q : Int32} {w x y : Nat} (hw : w < 5) (hx : x < 5) (hy : y < 5) : bt (gbyM 2 w P Q) (5 * x + y) = (bt P (5 * x + w) && bt Q (5 * w + y)) := by
  have e1 : (5 * x + y) % 5 = y := by omega
  have e2 : (5 * x + y) / 5 = x := by omega
  unfold gbyM
  rw [if_pos rfl, bt_join, e1, e2, decide_eq_true (show 5 * x + y < 25 by omega), Bool.true_and, Bool.eq_iff_iff, anyN_iff, Bool.and_eq_true]
  constructor
  · rintro ⟨z, _, hz, h⟩
    rw [b_and, col_bits w hw x hx z (by omega), Bool.and_eq_true, Bool.and_eq_true, decide_eq_true_eq] at h
    obtain ⟨⟨h1, h2⟩, h3⟩ := h
    rw [← h2]
    exact ⟨h1, h3⟩
  · intro h
    refine ⟨w, Nat.zero_le _, by omega, ?_⟩
    rw [b_and, col_bits w hw x hx w hw, h.1, h.2, decide_eq_true rfl]
    rfl
theorem gby_congr {f w : Nat} {P Q P' Q' : Int32} (hp : P = P') (hq : 2 ≤ f → Q = Q') : gbyM f w P Q = gbyM f w P' Q' := by
  subst hp
  by_cases h : 2 ≤ f
  · rw [hq h]
  · rcases (show f = 0 ∨ f = 1 by omega) with e | e <;> subst e
    · have z : ∀ R, gbyM 0 w P R = P := fun R => by unfold gbyM givM; rw [if_neg (by decide), if_pos rfl]
      rw [z, z]
    · have z : ∀ R, gbyM 1 w P R = turnM P := fun R => by unfold gbyM givM; rw [if_neg (by decide), if_neg (by decide), if_pos rfl]
      rw [z, z]
/-- how many of the ways w, w + 1, .. (k of them) give the pair b -/
def cwN (f : Nat) (P Q : Int32) (b : Nat) : Nat → Nat → Nat
  | 0, _ => 0
  | k + 1, w => (if bt (gbyM f w P Q) b = true then 1 else 0) + cwN f P Q b k (w + 1)
/-- how many ways of the rules i, i + 1, .. (k of them) for v give the pair b -/
def crN (hd fm rp rq : Nat → Nat) (S : Nat → Int32) (v b : Nat) : Nat → Nat → Nat
  | 0, _ => 0
  | k + 1, i => (if hd i = v then cwN (fm i) (S (rp i)) (S (rq i)) b (wayM (fm i)) 0 else 0) + crN hd fm rp rq S v b k (i + 1)
theorem cw_congr {f : Nat} {P Q P' Q' : Int32} {b : Nat} (hp : P = P') (hq : 2 ≤ f → Q = Q') : ∀ (k w : Nat), cwN f P Q b k w = cwN f P' Q' b k w := by
  intro k
  induction k with
  | zero => intro w; rfl
  | succ k ih => intro w; rw [cwN, cwN, ih (w + 1), gby_congr hp hq]
theorem cr_congr {hd fm rp rq : Nat → Nat} {S T : Nat → Int32} {v b : Nat} : ∀ (k i : Nat), (∀ j, i ≤ j → j < i + k → hd j = v → S (rp j) = T (rp j) ∧ (2 ≤ fm j → S (rq j) = T (rq j))) → crN hd fm rp rq S v b k i = crN hd fm rp rq T v b k i := by
  intro k
  induction k with
  | zero => intro i _; rfl
  | succ k ih =>
    intro i h
    rw [crN, crN, ih (i + 1) (fun j h1 h2 => h j (by omega) (by omega))]
    by_cases e : hd i = v
    · obtain ⟨a, c⟩ := h i (Nat.le_refl _) (by omega) e
      rw [if_pos e, if_pos e, cw_congr a c]
    · rw [if_neg e, if_neg e]
theorem cr_rules {hd fm rp rq hd' fm' rp' rq' : Nat → Nat} {S : Nat → Int32} {v b : Nat} : ∀ (k i : Nat), (∀ j, i ≤ j → j < i + k → hd' j = hd j ∧ fm' j = fm j ∧ rp' j = rp j ∧ rq' j = rq j) → crN hd' fm' rp' rq' S v b k i = crN hd fm rp rq S v b k i := by
  intro k
  induction k with
  | zero => intro i _; rfl
  | succ k ih =>
    intro i h
    obtain ⟨e1, e2, e3, e4⟩ := h i (Nat.le_refl _) (by omega)
    rw [crN, crN, ih (i + 1) (fun j h1 h2 => h j (by omega) (by omega)), e1, e2, e3, e4]
theorem cw_ins {P Q : Int32} {x y : Nat} (hx : x < 5) (hy : y < 5) : ∀ (k w a : Nat), w + k ≤ 5 → insJ P Q x y k w a = a + cwN 2 P Q (5 * x + y) k w := by
  intro k
  induction k with
  | zero => intro w a _; rfl
  | succ k ih =>
    intro w a h
    rw [insJ, ih (w + 1) _ (by omega), cwN, gby_join (by omega) hx hy]
    by_cases c : (bt P (5 * x + w) && bt Q (5 * w + y)) = true
    · rw [if_pos c, if_pos c]; omega
    · rw [if_neg c, if_neg c]; omega
theorem cw_mi {f : Nat} (hf : f ≤ 4) (P Q : Int32) {x y : Nat} (hx : x < 5) (hy : y < 5) : cwN f P Q (5 * x + y) (wayM f) 0 = miM f P Q x y := by
  have e1 : (5 * x + y) % 5 = y := by omega
  have e2 : (5 * x + y) / 5 = x := by omega
  have k1 : ¬ f = 2 → cwN f P Q (5 * x + y) (wayM f) 0 = if bt (givM f P Q) (5 * x + y) = true then 1 else 0 := fun h => by
    rw [show wayM f = 1 by unfold wayM; rw [if_neg h]]
    show (if bt (gbyM f 0 P Q) (5 * x + y) = true then 1 else 0) + 0 = _
    rw [Nat.add_zero, show gbyM f 0 P Q = givM f P Q by unfold gbyM; rw [if_neg h]]
  rcases (show f = 0 ∨ f = 1 ∨ f = 2 ∨ f = 3 ∨ f = 4 by omega) with e | e | e | e | e <;> subst e
  · rw [k1 (by decide)]; unfold miM givM; simp
  · rw [k1 (by decide)]; unfold miM givM; simp [bt_turn, e1, e2, show 5 * x + y < 25 by omega]
  · show cwN 2 P Q (5 * x + y) 5 0 = insJ P Q x y 5 0 0
    rw [cw_ins hx hy 5 0 0 (by omega), Nat.zero_add]
  · rw [k1 (by decide)]; unfold miM givM; simp [b_and]
  · have h9 := bt_not Q (show 5 * x + y < 32 by omega)
    rw [k1 (by decide)]
    unfold miM givM
    simp only [show ¬ (4 : Nat) = 0 from by decide, show ¬ (4 : Nat) = 1 from by decide, show ¬ (4 : Nat) = 2 from by decide, show ¬ (4 : Nat) = 3 from by decide, ↓reduceIte, b_and, h9]
/-- the reference counts the same -/
theorem cr_mc {n : Nat} {hd fm rp rq : Nat → Nat} (hr : ruOk n hd fm rp rq) {nw nwM : Nat → Int32} (e : ∀ r, r < 7 → nwM r = nw r) {r x y : Nat} (hx : x < 5) (hy : y < 5) : ∀ (k i w : Nat), i + k ≤ n → mcF hd fm rp rq nwM r x y k i w = w + crN hd fm rp rq nw r (5 * x + y) k i := by
  intro k
  induction k with
  | zero => intro i w _; rfl
  | succ k ih =>
    intro i w h
    have hri := hr.2 i (by omega)
    rw [mcF, ih (i + 1) _ (by omega), crN, e _ hri.2.2.2.1, e _ hri.2.2.2.2, cw_mi hri.2.2.1 _ _ hx hy]
    by_cases c : hd i = r
    · rw [if_pos c, if_pos c]; omega
    · rw [if_neg c, if_neg c]; omega
theorem gby_gv {f p q w : Nat} {nw : Nat → Int32} (hf : f ≤ 4) (hw : w < wayM f) {i : Nat} (hi : i < 25) (h : bt (gbyM f w (nw p) (nw q)) i = true) : gvP f p q (SPm nw) i := by
  by_cases e : f = 2
  · subst e
    have hw5 : w < 5 := by have : wayM 2 = 5 := rfl; omega
    have hz := gby_join (P := nw p) (Q := nw q) hw5 (show i / 5 < 5 by omega) (show i % 5 < 5 by omega)
    rw [show 5 * (i / 5) + i % 5 = i by omega, h, eq_comm, Bool.and_eq_true] at hz
    exact Or.inr (Or.inr (Or.inl ⟨rfl, w, hw5, hz⟩))
  · rw [show gbyM f w (nw p) (nw q) = givM f (nw p) (nw q) by unfold gbyM; rw [if_neg e]] at h
    exact (giv_bits hf hi).mp h
theorem gv_gby {f p q : Nat} {nw : Nat → Int32} (hf : f ≤ 4) {i : Nat} (hi : i < 25) (h : gvP f p q (SPm nw) i) : ∃ w, w < wayM f ∧ bt (gbyM f w (nw p) (nw q)) i = true := by
  by_cases e : f = 2
  · subst e
    rcases h with ⟨e, _⟩ | ⟨e, _⟩ | ⟨_, z, hz, a, b⟩ | ⟨e, _⟩ | ⟨e, _⟩
    · exact absurd e (by decide)
    · exact absurd e (by decide)
    · refine ⟨z, by have : wayM 2 = 5 := rfl; omega, ?_⟩
      have hj := gby_join (P := nw p) (Q := nw q) hz (show i / 5 < 5 by omega) (show i % 5 < 5 by omega)
      rw [show 5 * (i / 5) + i % 5 = i by omega] at hj
      rw [hj, Bool.and_eq_true]
      exact ⟨a, b⟩
    · exact absurd e (by decide)
    · exact absurd e (by decide)
  · refine ⟨0, by rw [show wayM f = 1 by unfold wayM; rw [if_neg e]]; omega, ?_⟩
    rw [show gbyM f 0 (nw p) (nw q) = givM f (nw p) (nw q) by unfold gbyM; rw [if_neg e]]
    exact (giv_bits hf hi).mpr h
theorem cw_pos {f : Nat} {P Q : Int32} {b : Nat} : ∀ (k w : Nat), 0 < cwN f P Q b k w ↔ ∃ u, w ≤ u ∧ u < w + k ∧ bt (gbyM f u P Q) b = true := by
  intro k
  induction k with
  | zero => intro w; exact ⟨fun h => absurd h (Nat.lt_irrefl 0), fun ⟨u, h1, h2, _⟩ => absurd h2 (by omega)⟩
  | succ k ih =>
    intro w
    have h := ih (w + 1)
    rw [cwN]
    by_cases c : bt (gbyM f w P Q) b = true
    · rw [if_pos c]
      exact ⟨fun _ => ⟨w, Nat.le_refl _, by omega, c⟩, fun _ => by omega⟩
    · rw [if_neg c, Nat.zero_add, h]
      constructor
      · rintro ⟨u, h1, h2, h3⟩; exact ⟨u, by omega, by omega, h3⟩
      · rintro ⟨u, h1, h2, h3⟩
        have e : ¬ u = w := fun e => c (by rw [← e]; exact h3)
        exact ⟨u, by omega, by omega, h3⟩
theorem cr_pos {hd fm rp rq : Nat → Nat} {S : Nat → Int32} {v b : Nat} : ∀ (k i : Nat), 0 < crN hd fm rp rq S v b k i ↔ ∃ j, i ≤ j ∧ j < i + k ∧ hd j = v ∧ 0 < cwN (fm j) (S (rp j)) (S (rq j)) b (wayM (fm j)) 0 := by
  intro k
  induction k with
  | zero => intro i; exact ⟨fun h => absurd h (Nat.lt_irrefl 0), fun ⟨u, h1, h2, _⟩ => absurd h2 (by omega)⟩
  | succ k ih =>
    intro i
    have h := ih (i + 1)
    rw [crN]
    by_cases c : hd i = v ∧ 0 < cwN (fm i) (S (rp i)) (S (rq i)) b (wayM (fm i)) 0
    · rw [if_pos c.1]
      exact ⟨fun _ => ⟨i, Nat.le_refl _, by omega, c⟩, fun _ => by omega⟩
    · have z : (if hd i = v then cwN (fm i) (S (rp i)) (S (rq i)) b (wayM (fm i)) 0 else 0) = 0 := by
        by_cases e : hd i = v
        · rw [if_pos e]
          refine Classical.byContradiction fun q => c ⟨e, by omega⟩
        · rw [if_neg e]
      rw [z, Nat.zero_add, h]
      constructor
      · rintro ⟨u, h1, h2, h3⟩; exact ⟨u, by omega, by omega, h3⟩
      · rintro ⟨u, h1, h2, h3⟩
        have e : ¬ u = i := fun e => c (by rw [← e]; exact h3)
        exact ⟨u, by omega, by omega, h3⟩
theorem cr_gv {n : Nat} {hd fm rp rq : Nat → Nat} (hr : ruOk n hd fm rp rq) {S : Nat → Int32} {v b : Nat} (hb : b < 25) : 0 < crN hd fm rp rq S v b n 0 ↔ ∃ k, k < n ∧ hd k = v ∧ gvP (fm k) (rp k) (rq k) (SPm S) b := by
  rw [cr_pos]
  constructor
  · rintro ⟨j, _, h2, h3, h4⟩
    obtain ⟨u, _, h6, h7⟩ := (cw_pos _ _).mp h4
    exact ⟨j, by omega, h3, gby_gv (hr.2 j (by omega)).2.2.1 (by omega) hb h7⟩
  · rintro ⟨j, h1, h2, h3⟩
    obtain ⟨w, h4, h5⟩ := gv_gby (hr.2 j h1).2.2.1 hb h3
    exact ⟨j, Nat.zero_le _, by omega, h2, (cw_pos _ _).mpr ⟨w, Nat.zero_le _, by omega, h5⟩⟩
theorem cw_le {f : Nat} {P Q : Int32} {b : Nat} : ∀ (k w : Nat), cwN f P Q b k w ≤ k := by
  intro k
  induction k with
  | zero => intro w; exact Nat.le_refl 0
  | succ k ih =>
    intro w
    have h := ih (w + 1)
    rw [cwN]
    split <;> omega
theorem cr_le {hd fm rp rq : Nat → Nat} {S : Nat → Int32} {v b : Nat} : ∀ (k i : Nat), crN hd fm rp rq S v b k i ≤ 5 * k := by
  intro k
  induction k with
  | zero => intro i; exact Nat.le_refl 0
  | succ k ih =>
    intro i
    have h := ih (i + 1)
    have h1 := cw_le (f := fm i) (P := S (rp i)) (Q := S (rq i)) (b := b) (wayM (fm i)) 0
    have h2 := wayM_le (fm i)
    rw [crN]
    split <;> omega
/-- a count is above nothing iff something is counted -/
theorem pos_nI {c : Nat} (h : c < 1000) : (!decide (nI c ≤ 0)) = decide (0 < c) := by
  have h0 : nI c ≤ 0 ↔ c = 0 := by
    rw [Int32.le_iff_toInt_le, nI_toInt (by omega)]
    show (c : Int) ≤ 0 ↔ _
    omega
  rw [decide_eq_decide.mpr h0]
  by_cases e : c = 0
  · rw [decide_eq_true e, decide_eq_false (by omega)]; rfl
  · rw [decide_eq_false e, decide_eq_true (by omega)]; rfl
theorem i_join {R r1 c bo co bn cn : Int32} (h1 : R + co = r1 + cn) (h2 : r1 + bo = c + bn) : R + (bo + co) = c + (bn + cn) := by
  rw [Int32.add_comm bo co, ← Int32.add_assoc, h1, Int32.add_assoc, Int32.add_comm cn bo, ← Int32.add_assoc, h2, Int32.add_assoc]
theorem upd_at (f : Nat → Int32) (k : Nat) (v : Int32) : upd f k v k = v := by unfold upd; rw [if_pos rfl]
theorem upd_not (f : Nat → Int32) {k j : Nat} (v : Int32) (h : ¬ j = k) : upd f k v j = f j := by unfold upd; rw [if_neg h]
/-- one way of a rule: its old pairs o, its new pairs m -/
theorem rpF_ok {v : Nat} {o m : Int32} : ∀ (k j : Nat) (ct nw : Nat → Int32), j + k ≤ 25 →
    (∀ r, ¬ r = v → (rpF v o m k j ct nw).2 r = nw r) ∧ (∀ a, ¬ (25 * v + j ≤ a ∧ a < 25 * v + j + k) → (rpF v o m k j ct nw).1 a = ct a) ∧ (∀ b, ¬ (j ≤ b ∧ b < j + k) → bt ((rpF v o m k j ct nw).2 v) b = bt (nw v) b) ∧
    (∀ b, j ≤ b → b < j + k → (rpF v o m k j ct nw).1 (25 * v + b) + bI (bt o b) = ct (25 * v + b) + bI (bt m b)) ∧
    (∀ b, j ≤ b → b < j + k → bt (nw v) b = !decide (ct (25 * v + b) ≤ 0) → bt ((rpF v o m k j ct nw).2 v) b = !decide ((rpF v o m k j ct nw).1 (25 * v + b) ≤ 0)) := by
  intro k
  induction k with
  | zero =>
    intro j ct nw _
    exact ⟨fun _ _ => rfl, fun _ _ => rfl, fun _ _ => rfl, fun b h1 h2 => absurd h2 (by omega), fun b h1 h2 => absurd h2 (by omega)⟩
  | succ k ih =>
    intro j ct nw hj
    rw [rpF]
    by_cases d : (o ^^^ m) &&& bm j = 0
    · rw [if_pos d]
      have hs := and_bm0 (by omega) d
      rw [b_xor] at hs
      have hs : bt o j = bt m j := by revert hs; cases bt o j <;> cases bt m j <;> decide
      obtain ⟨a1, a2, a3, a4, a5⟩ := ih (j + 1) ct nw (by omega)
      refine ⟨a1, fun a h => a2 a (by omega), fun b h => a3 b (by omega), fun b h1 h2 => ?_, fun b h1 h2 h3 => ?_⟩
      · by_cases e : b = j
        · subst e; rw [a2 _ (by omega), hs]
        · exact a4 b (by omega) (by omega)
      · by_cases e : b = j
        · subst e; rw [a2 _ (by omega), a3 _ (by omega)]; exact h3
        · exact a5 b (by omega) (by omega) h3
    · rw [if_neg d]
      have hs := and_bm1 (by omega) d
      rw [b_xor] at hs
      have hx : ct (25 * v + j) + (if m &&& bm j = 0 then (-1) else nI 1) + bI (bt o j) = ct (25 * v + j) + bI (bt m j) := by
        by_cases e : m &&& bm j = 0
        · have e2 := and_bm0 (by omega) e
          have e3 : bt o j = true := by rw [e2] at hs; revert hs; cases bt o j <;> decide
          rw [if_pos e, e2, e3, Int32.add_assoc]
          rfl
        · have e2 := and_bm1 (by omega) e
          have e3 : bt o j = false := by rw [e2] at hs; revert hs; cases bt o j <;> decide
          rw [if_neg e, e2, e3, Int32.add_assoc]
          rfl
      generalize ct (25 * v + j) + (if m &&& bm j = 0 then (-1) else nI 1) = x at hx ⊢
      have hy : ∀ b, b < 32 → bt (if x ≤ 0 then nw v &&& (bm j ^^^ (-1)) else nw v ||| bm j) b = if b = j then !decide (x ≤ 0) else bt (nw v) b := by
        intro b hb
        by_cases c : x ≤ 0
        · rw [if_pos c, b_and, bt_not _ hb, bt_bm (by omega), decide_eq_true c]
          by_cases e : b = j
          · rw [if_pos e, decide_eq_true e]; simp
          · rw [if_neg e, decide_eq_false e]; simp
        · rw [if_neg c, b_or, bt_bm (by omega), decide_eq_false c]
          by_cases e : b = j
          · rw [if_pos e, decide_eq_true e]; simp
          · rw [if_neg e, decide_eq_false e]; simp
      generalize (if x ≤ 0 then nw v &&& (bm j ^^^ (-1)) else nw v ||| bm j) = y at hy ⊢
      obtain ⟨a1, a2, a3, a4, a5⟩ := ih (j + 1) (upd ct (25 * v + j) x) (upd nw v y) (by omega)
      have u : ∀ b, ¬ b = j → upd ct (25 * v + j) x (25 * v + b) = ct (25 * v + b) := fun b h => upd_not _ _ (by omega)
      have w : ∀ b, ¬ b = j → bt (upd nw v y v) b = bt (nw v) b := fun b h => by
        rw [upd_at]
        rcases Nat.lt_or_ge b 32 with q | q
        · rw [hy b q, if_neg h]
        · rw [b_big q, b_big q]
      refine ⟨fun r h => (a1 r h).trans (upd_not _ _ h), fun a h => (a2 a (by omega)).trans (upd_not _ _ (by omega)), fun b h => (a3 b (by omega)).trans (w b (by omega)), fun b h1 h2 => ?_, fun b h1 h2 h3 => ?_⟩
      · by_cases e : b = j
        · subst e; rw [a2 _ (by omega), upd_at]; exact hx
        · rw [← u b e]; exact a4 b (by omega) (by omega)
      · by_cases e : b = j
        · subst e
          rw [a2 _ (by omega), a3 _ (by omega), upd_at, upd_at, hy b (by omega), if_pos rfl]
        · exact a5 b (by omega) (by omega) (by rw [w b e, u b e]; exact h3)
/-- all ways of one rule; n0 is the state as it was ahead of the recount -/
theorem rwF_ok {v f p q : Nat} {bf n0 : Nat → Int32} (hp : ¬ p = v) (hq : 2 ≤ f → ¬ q = v) : ∀ (k w : Nat) (ct nw : Nat → Int32), nw p = n0 p → (2 ≤ f → nw q = n0 q) →
    (∀ r, ¬ r = v → (rwF v f p q bf k w ct nw).2 r = nw r) ∧ (∀ a, ¬ (25 * v ≤ a ∧ a < 25 * v + 25) → (rwF v f p q bf k w ct nw).1 a = ct a) ∧ (lt25 (nw v) → lt25 ((rwF v f p q bf k w ct nw).2 v)) ∧
    (∀ b, b < 25 → (rwF v f p q bf k w ct nw).1 (25 * v + b) + nI (cwN f (bf p) (bf q) b k w) = ct (25 * v + b) + nI (cwN f (n0 p) (n0 q) b k w)) ∧
    ((∀ b, b < 25 → bt (nw v) b = !decide (ct (25 * v + b) ≤ 0)) → ∀ b, b < 25 → bt ((rwF v f p q bf k w ct nw).2 v) b = !decide ((rwF v f p q bf k w ct nw).1 (25 * v + b) ≤ 0)) := by
  intro k
  induction k with
  | zero =>
    intro w ct nw _ _
    exact ⟨fun _ _ => rfl, fun _ _ => rfl, fun h => h, fun b h => rfl, fun h => h⟩
  | succ k ih =>
    intro w ct nw ep eq
    rw [rwF, gby_congr (f := f) (w := w) ep eq]
    obtain ⟨r1, r2, r3, r4, r5⟩ := rpF_ok (v := v) (o := gbyM f w (bf p) (bf q)) (m := gbyM f w (n0 p) (n0 q)) 25 0 ct nw (by omega)
    obtain ⟨a1, a2, a3, a4, a5⟩ := ih (w + 1) (rpF v (gbyM f w (bf p) (bf q)) (gbyM f w (n0 p) (n0 q)) 25 0 ct nw).1 (rpF v (gbyM f w (bf p) (bf q)) (gbyM f w (n0 p) (n0 q)) 25 0 ct nw).2 ((r1 p hp).trans ep) (fun h => (r1 q (hq h)).trans (eq h))
    refine ⟨fun r h => (a1 r h).trans (r1 r h), fun a h => (a2 a h).trans (r2 a (by omega)), fun h => a3 (fun b hb => (r3 b (by omega)).trans (h b hb)), fun b hb => ?_, fun h => a5 (fun b hb => r5 b (Nat.zero_le _) (by omega) (h b hb))⟩
    rw [cwN, cwN, ← nI_add, ← nI_add, ← bI_nI, ← bI_nI]
    exact i_join (a4 b hb) (r4 b (Nat.zero_le _) (by omega))
/-- the views whose counts a layer's recount keeps -/
def acP (nd : Nat → Int32) (L r : Nat) : Prop := 2 ≤ r ∧ r < 7 ∧ layM nd r = L ∧ bt (nd r) r = false
theorem rcF_ok {n : Nat} {hd fm rp rq : Nat → Nat} {nd : Nat → Int32} (hr : ruOk n hd fm rp rq) {L : Nat} {bf n0 : Nat → Int32} (hb : ∀ i, i < n → acP nd L (hd i) → ¬ acP nd L (rp i) ∧ (2 ≤ fm i → ¬ acP nd L (rq i))) : ∀ (k i : Nat) (ct nw : Nat → Int32), i + k ≤ n → (∀ r, ¬ acP nd L r → nw r = n0 r) → L25 nw →
    (∀ r, ¬ acP nd L r → (rcF hd fm rp rq nd bf L k i ct nw).2 r = n0 r) ∧ L25 (rcF hd fm rp rq nd bf L k i ct nw).2 ∧ (∀ v, ¬ acP nd L v → ∀ b, b < 25 → (rcF hd fm rp rq nd bf L k i ct nw).1 (25 * v + b) = ct (25 * v + b)) ∧
    (∀ v, acP nd L v → ∀ b, b < 25 → (rcF hd fm rp rq nd bf L k i ct nw).1 (25 * v + b) + nI (crN hd fm rp rq bf v b k i) = ct (25 * v + b) + nI (crN hd fm rp rq n0 v b k i)) ∧
    (∀ v, acP nd L v → (∀ b, b < 25 → bt (nw v) b = !decide (ct (25 * v + b) ≤ 0)) → ∀ b, b < 25 → bt ((rcF hd fm rp rq nd bf L k i ct nw).2 v) b = !decide ((rcF hd fm rp rq nd bf L k i ct nw).1 (25 * v + b) ≤ 0)) := by
  intro k
  induction k with
  | zero =>
    intro i ct nw _ h1 h2
    exact ⟨h1, h2, fun _ _ _ _ => rfl, fun v _ b _ => rfl, fun v _ h => h⟩
  | succ k ih =>
    intro i ct nw hi h1 h2
    have hri := hr.2 i (by omega)
    rw [rcF]
    by_cases c : layM nd (hd i) = L ∧ bt (nd (hd i)) (hd i) = false
    · rw [if_pos c]
      have ac : acP nd L (hd i) := ⟨hri.1, hri.2.1, c.1, c.2⟩
      obtain ⟨np, nq⟩ := hb i (by omega) ac
      have hp : ¬ rp i = hd i := fun e => np (by rw [e]; exact ac)
      have hq : 2 ≤ fm i → ¬ rq i = hd i := fun h e => nq h (by rw [e]; exact ac)
      obtain ⟨r1, r2, r3, r4, r5⟩ := rwF_ok (v := hd i) (f := fm i) (p := rp i) (q := rq i) (bf := bf) (n0 := n0) hp hq (wayM (fm i)) 0 ct nw (h1 _ np) (fun h => h1 _ (nq h))
      obtain ⟨a1, a2, a3, a4, a5⟩ := ih (i + 1) (rwF (hd i) (fm i) (rp i) (rq i) bf (wayM (fm i)) 0 ct nw).1 (rwF (hd i) (fm i) (rp i) (rq i) bf (wayM (fm i)) 0 ct nw).2 (by omega) (fun r h => (r1 r (fun e => h (by rw [e]; exact ac))).trans (h1 r h)) (fun r h7 => by
        by_cases e : r = hd i
        · rw [e]; exact r3 (h2 _ hri.2.1)
        · rw [r1 r e]; exact h2 r h7)
      refine ⟨a1, a2, fun v h b hb => ?_, fun v h b hb => ?_, fun v h hv b hb => a5 v h (fun b hb => ?_) b hb⟩
      · have e : ¬ v = hd i := fun e => h (by rw [e]; exact ac)
        rw [a3 v h b hb, r2 _ (by omega)]
      · rw [crN, crN]
        by_cases e : hd i = v
        · subst e
          rw [if_pos rfl, if_pos rfl, ← nI_add, ← nI_add]
          exact i_join (a4 _ h b hb) (r4 b hb)
        · rw [if_neg e, if_neg e, Nat.zero_add, Nat.zero_add, a4 v h b hb, r2 _ (by omega)]
      · by_cases e : v = hd i
        · subst e; exact r5 hv b hb
        · rw [r1 v e, r2 _ (by omega)]; exact hv b hb
    · rw [if_neg c]
      obtain ⟨a1, a2, a3, a4, a5⟩ := ih (i + 1) ct nw (by omega) h1 h2
      refine ⟨a1, a2, a3, fun v h b hb => ?_, a5⟩
      have e : ¬ hd i = v := fun e => c (by rw [e]; exact h.2.2)
      rw [crN, crN, if_neg e, if_neg e, Nat.zero_add, Nat.zero_add]
      exact a4 v h b hb
section CT
variable {n : Nat} {hd fm rp rq : Nat → Nat} {nd : Nat → Int32}
/-- a view that does not lead back to itself: a pair is in iff a rule gives it -/
theorem md_nonrec (E : EnvOk n hd fm rp rq (nbC n hd fm rp rq)) {v : Nat} (hn : ¬ nbC n hd fm rp rq v v = true) {S : Nat → Nat → Prop} : MdAt n hd fm rp rq (nbC n hd fm rp rq) v S ↔ ∀ i, i < 25 → (S v i ↔ ∃ k, k < n ∧ hd k = v ∧ gvP (fm k) (rp k) (rq k) S i) := by
  have tv : ∀ w, togP (nbC n hd fm rp rq) v w → v = w := fun w t => t.elim id (fun q => absurd (E.2.2.1 _ _ _ q.1 q.2) hn)
  have nt : ∀ r, nbC n hd fm rp rq v r = true → ¬ togP (nbC n hd fm rp rq) v r := fun r h t => hn (by have e := tv r t; rw [← e] at h; exact h)
  constructor
  · intro M i hi
    constructor
    · intro s
      have h := M.2 (fun w j => (w = v ∧ ∃ k, k < n ∧ hd k = v ∧ gvP (fm k) (rp k) (rq k) S j) ∨ (¬ w = v ∧ S w j)) (fun w hw ht j hj => ?_) (fun k hk ht j hj g => ?_) v (Or.inl rfl) i hi s
      · exact h.elim (fun q => q.2) (fun q => absurd rfl q.1)
      · have e : ¬ w = v := fun e => ht (Or.inl e.symm)
        exact ⟨fun q => q.elim (fun q => absurd q.1 e) (fun q => q.2), fun q => Or.inr ⟨e, q⟩⟩
      · have e := (tv _ ht).symm
        refine Or.inl ⟨e, k, hk, e, gvP_mono hj (fun u hu a => ?_) (fun hf u hu a => ?_) (fun hf u hu a => ?_) g⟩
        · exact a.elim (fun q => absurd (Or.inl q.1.symm) (nt _ (by rw [← e]; exact E.1 k hk))) (fun q => q.2)
        · exact a.elim (fun q => absurd (Or.inl q.1.symm) (nt _ (by rw [← e]; exact E.2.1 k hk (by omega)))) (fun q => q.2)
        · exact Or.inr ⟨fun q => nt _ (by rw [← e]; exact E.2.1 k hk (by omega)) (Or.inl q.symm), a⟩
    · rintro ⟨k, hk, e, g⟩
      have h := M.1 k hk (Or.inl e.symm) i hi g
      rw [e] at h
      exact h
  · intro H
    refine ⟨fun k hk ht i hi g => ?_, fun X hX hc w ht i hi s => ?_⟩
    · have e := tv _ ht
      rw [← e]
      exact (H i hi).mpr ⟨k, hk, e.symm, g⟩
    · have e := tv _ ht
      subst e
      obtain ⟨k, hk, e, g⟩ := (H i hi).mp s
      have h := hc k hk (Or.inl e.symm) i hi (gvP_mono hi (fun u hu a => ?_) (fun hf u hu a => ?_) (fun hf u hu a => ?_) g)
      · rw [e] at h; exact h
      · have q : nbC n hd fm rp rq v (rp k) = true := by have := E.1 k hk; rw [e] at this; exact this
        exact (hX _ q (nt _ q) u hu).mpr a
      · have q : nbC n hd fm rp rq v (rq k) = true := by have := E.2.1 k hk (by omega); rw [e] at this; exact this
        exact (hX _ q (nt _ q) u hu).mpr a
      · have q : nbC n hd fm rp rq v (rq k) = true := by have := E.2.1 k hk (by omega); rw [e] at this; exact this
        exact (hX _ q (nt _ q) u hu).mp a
/-- what the rules of a view that does not lead back lean on is of lower rank -/
theorem low_nonrec (E : EnvOk n hd fm rp rq (nbC n hd fm rp rq)) {v r : Nat} (hn : ¬ nbC n hd fm rp rq v v = true) (h : nbC n hd fm rp rq v r = true) : rkN (nbC n hd fm rp rq) r < rkN (nbC n hd fm rp rq) v := rkN_lt E h (fun q => hn (E.2.2.1 _ _ _ h q))
theorem cr_low (E : EnvOk n hd fm rp rq (nbC n hd fm rp rq)) {S T : Nat → Int32} {v b : Nat} (hn : ¬ nbC n hd fm rp rq v v = true) (h : ∀ r, r < 7 → rkN (nbC n hd fm rp rq) r < rkN (nbC n hd fm rp rq) v → S r = T r) : crN hd fm rp rq S v b n 0 = crN hd fm rp rq T v b n 0 := by
  refine cr_congr n 0 (fun j _ hj e => ?_)
  have hk := E.2.2.2.2.2 j (by omega)
  refine ⟨h _ hk.2.2.2.1 (low_nonrec E hn ?_), fun h2 => h _ hk.2.2.2.2 (low_nonrec E hn ?_)⟩
  · have := E.1 j (by omega); rw [e] at this; exact this
  · have := E.2.1 j (by omega) h2; rw [e] at this; exact this
/-- the counts of the views that do not lead back -/
def ctOk (n : Nat) (hd fm rp rq : Nat → Nat) (S ct : Nat → Int32) : Prop := ∀ v, 2 ≤ v → v < 7 → ¬ nbC n hd fm rp rq v v = true → ∀ b, b < 25 → ct (25 * v + b) = nI (crN hd fm rp rq S v b n 0)
/-- one layer's recount -/
theorem count_layer (E : EnvOk n hd fm rp rq (nbC n hd fm rp rq)) (G : RfG nd (gC n hd fm rp rq)) (hr : ruOk n hd fm rp rq) {L : Nat} {bf nw ct : Nat → Int32} (hl : L25 nw) (hB : ∀ v, 2 ≤ v → v < 7 → MdAt n hd fm rp rq (nbC n hd fm rp rq) v (SPm bf))
    (hc : ∀ v, 2 ≤ v → v < 7 → rkN (nbC n hd fm rp rq) v = L → ¬ nbC n hd fm rp rq v v = true → ∀ b, b < 25 → ct (25 * v + b) = nI (crN hd fm rp rq bf v b n 0)) (hv : ∀ v, 2 ≤ v → v < 7 → rkN (nbC n hd fm rp rq) v = L → nw v = bf v) :
    L25 (rcF hd fm rp rq nd bf L n 0 ct nw).2 ∧ (∀ r, ¬ (2 ≤ r ∧ r < 7 ∧ rkN (nbC n hd fm rp rq) r = L ∧ ¬ nbC n hd fm rp rq r r = true) → (rcF hd fm rp rq nd bf L n 0 ct nw).2 r = nw r) ∧
    (∀ v, ¬ (2 ≤ v ∧ v < 7 ∧ rkN (nbC n hd fm rp rq) v = L ∧ ¬ nbC n hd fm rp rq v v = true) → ∀ b, b < 25 → (rcF hd fm rp rq nd bf L n 0 ct nw).1 (25 * v + b) = ct (25 * v + b)) ∧
    (∀ v, 2 ≤ v → v < 7 → rkN (nbC n hd fm rp rq) v = L → ¬ nbC n hd fm rp rq v v = true → ∀ b, b < 25 → (rcF hd fm rp rq nd bf L n 0 ct nw).1 (25 * v + b) = nI (crN hd fm rp rq (rcF hd fm rp rq nd bf L n 0 ct nw).2 v b n 0)) ∧
    ∀ v, 2 ≤ v → v < 7 → rkN (nbC n hd fm rp rq) v = L → ¬ nbC n hd fm rp rq v v = true → MdAt n hd fm rp rq (nbC n hd fm rp rq) v (SPm (rcF hd fm rp rq nd bf L n 0 ct nw).2) := by
  have hn12 := hr.1
  have ac : ∀ r, acP nd L r ↔ (2 ≤ r ∧ r < 7 ∧ rkN (nbC n hd fm rp rq) r = L ∧ ¬ nbC n hd fm rp rq r r = true) := by
    intro r
    unfold acP
    constructor
    · rintro ⟨h1, h2, h3, h4⟩
      rw [layM_rk G h2] at h3
      refine ⟨h1, h2, h3, ?_⟩
      rw [nbC_lt h2 h2, ← G.1 r r h2 h2, h4]
      decide
    · rintro ⟨h1, h2, h3, h4⟩
      rw [nbC_lt h2 h2, ← G.1 r r h2 h2, Bool.not_eq_true] at h4
      refine ⟨h1, h2, ?_, h4⟩
      rw [layM_rk G h2]
      exact h3
  have hb : ∀ i, i < n → acP nd L (hd i) → ¬ acP nd L (rp i) ∧ (2 ≤ fm i → ¬ acP nd L (rq i)) := by
    intro i hi h
    have h := (ac _).mp h
    refine ⟨fun q => ?_, fun h2 q => ?_⟩
    · have l := low_nonrec E h.2.2.2 (E.1 i hi)
      have := ((ac _).mp q).2.2.1
      omega
    · have l := low_nonrec E h.2.2.2 (E.2.1 i hi h2)
      have := ((ac _).mp q).2.2.1
      omega
  obtain ⟨a1, a2, a3, a4, a5⟩ := rcF_ok (nd := nd) hr (L := L) (bf := bf) (n0 := nw) hb n 0 ct nw (by omega) (fun _ _ => rfl) hl
  have low : ∀ v b, rkN (nbC n hd fm rp rq) v = L → ¬ nbC n hd fm rp rq v v = true → crN hd fm rp rq nw v b n 0 = crN hd fm rp rq (rcF hd fm rp rq nd bf L n 0 ct nw).2 v b n 0 := fun v b h3 h4 => cr_low E h4 (fun r _ l => (a1 r (fun q => by have := ((ac r).mp q).2.2.1; omega)).symm)
  have k4 : ∀ v, 2 ≤ v → v < 7 → rkN (nbC n hd fm rp rq) v = L → ¬ nbC n hd fm rp rq v v = true → ∀ b, b < 25 → (rcF hd fm rp rq nd bf L n 0 ct nw).1 (25 * v + b) = nI (crN hd fm rp rq (rcF hd fm rp rq nd bf L n 0 ct nw).2 v b n 0) := by
    intro v h1 h2 h3 h4 b hb
    have h := a4 v ((ac v).mpr ⟨h1, h2, h3, h4⟩) b hb
    rw [hc v h1 h2 h3 h4 b hb, Int32.add_comm (nI (crN hd fm rp rq bf v b n 0)) (nI (crN hd fm rp rq nw v b n 0))] at h
    have h' := congrArg (fun z => z - nI (crN hd fm rp rq bf v b n 0)) h
    simp only [Int32.add_sub_cancel] at h'
    rw [h', low v b h3 h4]
  refine ⟨a2, fun r h => a1 r (fun q => h ((ac r).mp q)), fun v h b hb => a3 v (fun q => h ((ac v).mp q)) b hb, k4, fun v h1 h2 h3 h4 => ?_⟩
  refine (md_nonrec E h4).mpr (fun i hi => ?_)
  have old : ∀ b, b < 25 → bt (nw v) b = !decide (ct (25 * v + b) ≤ 0) := by
    intro b hb
    have m := (md_nonrec E h4).mp (hB v h1 h2) b hb
    have le := cr_le (hd := hd) (fm := fm) (rp := rp) (rq := rq) (S := bf) (v := v) (b := b) n 0
    rw [hc v h1 h2 h3 h4 b hb, pos_nI (by omega), hv v h1 h2 h3, Bool.eq_iff_iff, decide_eq_true_eq, cr_gv hr hb]
    exact m
  have new := a5 v ((ac v).mpr ⟨h1, h2, h3, h4⟩) old i hi
  have le := cr_le (hd := hd) (fm := fm) (rp := rp) (rq := rq) (S := (rcF hd fm rp rq nd bf L n 0 ct nw).2) (v := v) (b := i) n 0
  rw [k4 v h1 h2 h3 h4 i hi, pos_nI (by omega), Bool.eq_iff_iff, decide_eq_true_eq, cr_gv hr hi] at new
  exact new
end CT

/-! the reference: the views anew, the suspects, a commit; that its open loops end -/
def mpF (n : Nat) (hd fm rp rq : Nat → Nat) (ne : Nat → Bool) (v : Nat) : Nat → Nat → (Nat → Int32) → Bool → (Nat → Int32) × Bool
  | 0, _, nw, more => (nw, more)
  | k + 1, w, nw, more => if toM ne v w = true then mpF n hd fm rp rq ne v k (w + 1) (upd nw w (grO n hd fm rp rq nw w 5 0 (nw w))) (!decide (grO n hd fm rp rq nw w 5 0 (nw w) = nw w) || more) else mpF n hd fm rp rq ne v k (w + 1) nw more
def mkF (n : Nat) (hd fm rp rq : Nat → Nat) (ne : Nat → Bool) (v : Nat) : Nat → Bool → (Nat → Int32) → Nat → Int32
  | 0, _, nw => nw
  | k + 1, more, nw => if more = true then mkF n hd fm rp rq ne v k (mpF n hd fm rp rq ne v 5 2 nw false).2 (mpF n hd fm rp rq ne v 5 2 nw false).1 else nw
def mkT (n : Nat) (hd fm rp rq : Nat → Nat) (ne : Nat → Bool) (v : Nat) : Nat → Bool → (Nat → Int32) → Bool
  | 0, more, _ => !more
  | k + 1, more, nw => if more = true then mkT n hd fm rp rq ne v k (mpF n hd fm rp rq ne v 5 2 nw false).2 (mpF n hd fm rp rq ne v 5 2 nw false).1 else true
def mdF (ne : Nat → Bool) (v : Nat) : Nat → Nat → (Nat → Bool) → Nat → Bool
  | 0, _, dn => dn
  | k + 1, w, dn => mdF ne v k (w + 1) (va_up dn w (dn w || toM ne v w))
def zfF : Nat → Nat → (Nat → Bool) → Nat → Bool
  | 0, _, f => f
  | k + 1, v, f => zfF k (v + 1) (va_up f v false)
def maV (n : Nat) (hd fm rp rq : Nat → Nat) (ne : Nat → Bool) : Nat → Nat → (Nat → Int32) → (Nat → Bool) → (Nat → Int32) × (Nat → Bool)
  | 0, _, nw, dn => (nw, dn)
  | k + 1, v, nw, dn => if duF ne dn v 5 2 (!dn v) = true then maV n hd fm rp rq ne k (v + 1) (mkF n hd fm rp rq ne v 126 true nw) (mdF ne v 5 2 dn) else maV n hd fm rp rq ne k (v + 1) nw dn
def maO (n : Nat) (hd fm rp rq : Nat → Nat) (ne : Nat → Bool) : Nat → (Nat → Int32) → (Nat → Bool) → (Nat → Int32) × (Nat → Bool)
  | 0, nw, dn => (nw, dn)
  | k + 1, nw, dn => maO n hd fm rp rq ne k (maV n hd fm rp rq ne 5 2 nw dn).1 (maV n hd fm rp rq ne 5 2 nw dn).2
def maW (n : Nat) (hd fm rp rq : Nat → Nat) (ne : Nat → Bool) (nw : Nat → Int32) (dn : Nat → Bool) : Nat → Int32 := (maO n hd fm rp rq ne 5 (zeF 5 2 nw) (zfF 5 2 dn)).1
def maD (n : Nat) (hd fm rp rq : Nat → Nat) (ne : Nat → Bool) (nw : Nat → Int32) (dn : Nat → Bool) : Nat → Bool := (maO n hd fm rp rq ne 5 (zeF 5 2 nw) (zfF 5 2 dn)).2
def cpF (src : Nat → Int32) : Nat → Nat → (Nat → Int32) → Nat → Int32
  | 0, _, f => f
  | k + 1, r, f => cpF src k (r + 1) (upd f r (src r))
def loM (ne : Nat → Bool) (nw bf db : Nat → Int32) (v r k : Nat) : Bool := if r < 2 then bt (takM nw bf r) k else if ne (7 * r + v) = true then bt (db r) k else bt (takM nw bf r) k
def dbJ (ne : Nat → Bool) (nw bf db : Nat → Int32) (v p q x y : Nat) : Nat → Nat → Bool → Bool
  | 0, _, sm => sm
  | k + 1, z, sm => dbJ ne nw bf db v p q x y k (z + 1) (sm || ((bt (bf p) (5 * x + z) && bt (bf q) (5 * z + y)) && (loM ne nw bf db v p (5 * x + z) || loM ne nw bf db v q (5 * z + y))))
def dbM (ne : Nat → Bool) (nw bf db : Nat → Int32) (v f p q x y : Nat) : Bool :=
  if f = 0 then bt (bf p) (5 * x + y) && loM ne nw bf db v p (5 * x + y) else if f = 1 then bt (bf p) (5 * y + x) && loM ne nw bf db v p (5 * y + x) else if f = 2 then dbJ ne nw bf db v p q x y 5 0 false
  else if f = 3 then (bt (bf p) (5 * x + y) && bt (bf q) (5 * x + y)) && (loM ne nw bf db v p (5 * x + y) || loM ne nw bf db v q (5 * x + y)) else (bt (bf p) (5 * x + y) && !bt (bf q) (5 * x + y)) && (loM ne nw bf db v p (5 * x + y) || bt (putM nw bf q) (5 * x + y))
def smY (ne : Nat → Bool) (nw bf : Nat → Int32) (v f p q x : Nat) : Nat → Nat → (Nat → Int32) → Bool → (Nat → Int32) × Bool
  | 0, _, db, more => (db, more)
  | k + 1, y, db, more => if bt (db v) (5 * x + y) = false ∧ dbM ne nw bf db v f p q x y = true then smY ne nw bf v f p q x k (y + 1) (upd db v (db v ||| bm (5 * x + y))) true else smY ne nw bf v f p q x k (y + 1) db more
def smX (ne : Nat → Bool) (nw bf : Nat → Int32) (v f p q : Nat) : Nat → Nat → (Nat → Int32) → Bool → (Nat → Int32) × Bool
  | 0, _, db, more => (db, more)
  | k + 1, x, db, more => if ne (8 * v) = true then smX ne nw bf v f p q k (x + 1) (smY ne nw bf v f p q x 5 0 db more).1 (smY ne nw bf v f p q x 5 0 db more).2 else (db, more)
def smF (hd fm rp rq : Nat → Nat) (ne : Nat → Bool) (nw bf : Nat → Int32) : Nat → Nat → (Nat → Int32) → Bool → (Nat → Int32) × Bool
  | 0, _, db, more => (db, more)
  | k + 1, i, db, more => smF hd fm rp rq ne nw bf k (i + 1) (smX ne nw bf (hd i) (fm i) (rp i) (rq i) 5 0 db more).1 (smX ne nw bf (hd i) (fm i) (rp i) (rq i) 5 0 db more).2
def scF (n : Nat) (hd fm rp rq : Nat → Nat) (ne : Nat → Bool) (nw bf : Nat → Int32) : Nat → Bool → (Nat → Int32) → Nat → Int32
  | 0, _, db => db
  | k + 1, more, db => if more = true then scF n hd fm rp rq ne nw bf k (smF hd fm rp rq ne nw bf n 0 db false).2 (smF hd fm rp rq ne nw bf n 0 db false).1 else db
def scT (n : Nat) (hd fm rp rq : Nat → Nat) (ne : Nat → Bool) (nw bf : Nat → Int32) : Nat → Bool → (Nat → Int32) → Bool
  | 0, more, _ => !more
  | k + 1, more, db => if more = true then scT n hd fm rp rq ne nw bf k (smF hd fm rp rq ne nw bf n 0 db false).2 (smF hd fm rp rq ne nw bf n 0 db false).1 else true
def mdN : Nat → Nat → (Nat → Int32) → (Nat → Int32) → (Nat → Int32) → Nat → Int32
  | 0, _, nw, _, _ => nw
  | k + 1, r, nw, sg, wt => mdN k (r + 1) (upd nw r ((nw r &&& (sg r ^^^ (-1))) ||| (wt r &&& sg r))) (upd sg r (nI 0)) (upd wt r (nI 0))
def mcW (nw bf : Nat → Int32) : Nat → Nat → Nat → Nat
  | 0, _, w => w
  | k + 1, r, w => mcW nw bf k (r + 1) (w + cntB (takM nw bf r) 25 + cntB (putM nw bf r) 25)
/-! the measure: the pairs that the views have not -/
theorem cntB_mono {a b : Int32} : ∀ k, (∀ i, i < k → bt a i = true → bt b i = true) → cntB a k ≤ cntB b k := by
  intro k
  induction k with
  | zero => intro _; exact Nat.le_refl 0
  | succ k ih =>
    intro h
    have h1 := ih (fun i hi => h i (by omega))
    have h2 := h k (by omega)
    rw [cntB, cntB]
    cases qa : bt a k with
    | false => simp; omega
    | true => rw [h2 qa]; simp; omega
theorem cntB_lt {a b : Int32} : ∀ k, (∀ i, i < k → bt a i = true → bt b i = true) → (∃ i, i < k ∧ bt a i = false ∧ bt b i = true) → cntB a k < cntB b k := by
  intro k
  induction k with
  | zero => intro _ ⟨i, hi, _⟩; exact absurd hi (Nat.not_lt_zero _)
  | succ k ih =>
    intro h ⟨i, hi, ha, hb⟩
    rw [cntB, cntB]
    have h2 := h k (by omega)
    by_cases e : i = k
    · subst e
      have := cntB_mono (a := a) (b := b) i (fun j hj => h j (by omega))
      rw [ha, hb]
      simp
      omega
    · have := ih (fun j hj => h j (by omega)) ⟨i, by omega, ha, hb⟩
      cases qa : bt a k with
      | false => simp; omega
      | true => rw [h2 qa]; simp; omega
/-- b has what a has, and beyond the 25 pairs nothing else -/
def grew (a b : Int32) : Prop := (∀ i, bt a i = true → bt b i = true) ∧ ∀ i, 25 ≤ i → bt b i = bt a i
theorem grew.rf (a : Int32) : grew a a := ⟨fun _ h => h, fun _ _ => rfl⟩
theorem grew.tr {a b c : Int32} (h : grew a b) (k : grew b c) : grew a c := ⟨fun i q => k.1 i (h.1 i q), fun i q => (k.2 i q).trans (h.2 i q)⟩
theorem grew.bit {a : Int32} {k : Nat} (hk : k < 25) : grew a (a ||| bm k) := ⟨fun i h => by rw [b_or, h, Bool.true_or], fun i h => by rw [b_or, bt_bm (by omega), decide_eq_false (by omega), Bool.or_false]⟩
theorem grew.lt {a b : Int32} (h : grew a b) (hn : ¬ b = a) : cntB a 25 < cntB b 25 := by
  refine cntB_lt 25 (fun i _ => h.1 i) ?_
  refine Classical.byContradiction fun q => hn (b_ext fun i hi => ?_)
  rcases Nat.lt_or_ge i 25 with h1 | h1
  · cases qb : bt b i with
    | false =>
      cases qa : bt a i with
      | false => rfl
      | true => rw [h.1 i qa] at qb; exact absurd qb (by decide)
    | true =>
      cases qa : bt a i with
      | false => exact absurd ⟨i, h1, qa, qb⟩ q
      | true => rfl
  · exact h.2 i h1
theorem grew.le {a b : Int32} (h : grew a b) : cntB a 25 ≤ cntB b 25 := cntB_mono 25 (fun i _ => h.1 i)
theorem grI_grew (n : Nat) (hd fm rp rq : Nat → Nat) (nw : Nat → Int32) (v x : Nat) : ∀ (k y : Nat) (m : Int32), 5 * x + y + k ≤ 25 → grew m (grI n hd fm rp rq nw v x k y m) := by
  intro k
  induction k with
  | zero => intro y m _; exact grew.rf m
  | succ k ih =>
    intro y m h
    rw [grI]
    refine grew.tr ?_ (ih (y + 1) _ (by omega))
    split
    · exact grew.rf m
    · exact grew.bit (by omega)
theorem grO_grew (n : Nat) (hd fm rp rq : Nat → Nat) (nw : Nat → Int32) (v : Nat) : ∀ (k x : Nat) (m : Int32), x + k ≤ 5 → grew m (grO n hd fm rp rq nw v k x m) := by
  intro k
  induction k with
  | zero => intro x m _; exact grew.rf m
  | succ k ih =>
    intro x m h
    rw [grO]
    exact grew.tr (grI_grew n hd fm rp rq nw v x 5 0 m (by omega)) (ih (x + 1) _ (by omega))
def muF (f : Nat → Int32) : Nat := (25 - cntB (f 2) 25) + (25 - cntB (f 3) 25) + (25 - cntB (f 4) 25) + (25 - cntB (f 5) 25) + (25 - cntB (f 6) 25)
theorem muF_le (f : Nat → Int32) : muF f ≤ 125 := by unfold muF; omega
theorem muF_upd {f : Nat → Int32} {w : Nat} {m : Int32} (h2 : 2 ≤ w) (h7 : w < 7) (h : cntB (f w) 25 ≤ cntB m 25) : muF (upd f w m) ≤ muF f ∧ (cntB (f w) 25 < cntB m 25 → muF (upd f w m) < muF f) := by
  have c9 := cntB_le m 25
  have key : ∀ j, upd f w m j = if j = w then m else f j := fun j => rfl
  unfold muF
  rw [key 2, key 3, key 4, key 5, key 6]
  rcases (show w = 2 ∨ w = 3 ∨ w = 4 ∨ w = 5 ∨ w = 6 by omega) with q | q | q | q | q <;> subst q <;> simp <;> omega
theorem mpF_mu (n : Nat) (hd fm rp rq : Nat → Nat) (ne : Nat → Bool) (v : Nat) : ∀ (k w : Nat) (nw : Nat → Int32) (more : Bool), 2 ≤ w → w + k ≤ 7 → muF (mpF n hd fm rp rq ne v k w nw more).1 ≤ muF nw ∧ ((mpF n hd fm rp rq ne v k w nw more).2 = true → more = true ∨ muF (mpF n hd fm rp rq ne v k w nw more).1 < muF nw) := by
  intro k
  induction k with
  | zero => intro w nw more _ _; exact ⟨Nat.le_refl _, fun h => Or.inl h⟩
  | succ k ih =>
    intro w nw more h2 h7
    rw [mpF]
    split
    · have hg := grO_grew n hd fm rp rq nw w 5 0 (nw w) (by omega)
      have hu := muF_upd (f := nw) h2 (by omega) hg.le
      have h := ih (w + 1) (upd nw w (grO n hd fm rp rq nw w 5 0 (nw w))) (!decide (grO n hd fm rp rq nw w 5 0 (nw w) = nw w) || more) (by omega) (by omega)
      refine ⟨Nat.le_trans h.1 hu.1, fun q => ?_⟩
      rcases h.2 q with q | q
      · rw [Bool.or_eq_true] at q
        rcases q with q | q
        · have hne : ¬ grO n hd fm rp rq nw w 5 0 (nw w) = nw w := by simpa using q
          exact Or.inr (Nat.lt_of_le_of_lt h.1 (hu.2 (hg.lt hne)))
        · exact Or.inl q
      · exact Or.inr (Nat.lt_of_lt_of_le q hu.1)
    · exact ih (w + 1) nw more (by omega) (by omega)
theorem mkT_false (n : Nat) (hd fm rp rq : Nat → Nat) (ne : Nat → Bool) (v k : Nat) (nw : Nat → Int32) : mkT n hd fm rp rq ne v k false nw = true := by cases k <;> rfl
theorem mkT_mu (n : Nat) (hd fm rp rq : Nat → Nat) (ne : Nat → Bool) (v : Nat) : ∀ (k : Nat) (more : Bool) (nw : Nat → Int32), muF nw < k → mkT n hd fm rp rq ne v k more nw = true := by
  intro k
  induction k with
  | zero => intro more nw h; exact absurd h (Nat.not_lt_zero _)
  | succ k ih =>
    intro more nw h
    rw [mkT]
    split
    · have hm := mpF_mu n hd fm rp rq ne v 5 2 nw false (by omega) (by omega)
      cases q : (mpF n hd fm rp rq ne v 5 2 nw false).2 with
      | false => exact mkT_false n hd fm rp rq ne v k _
      | true =>
        rcases hm.2 q with z | z
        · cases z
        · exact ih true _ (by omega)
    · rfl
theorem mkT_ok (n : Nat) (hd fm rp rq : Nat → Nat) (ne : Nat → Bool) (v : Nat) (nw : Nat → Int32) : mkT n hd fm rp rq ne v 126 true nw = true := mkT_mu n hd fm rp rq ne v 126 true nw (Nat.lt_succ_of_le (muF_le nw))
theorem smY_mu (ne : Nat → Bool) (nw bf : Nat → Int32) (v f p q x : Nat) (h2 : 2 ≤ v) (h7 : v < 7) (hx : x < 5) : ∀ (k y : Nat) (db : Nat → Int32) (more : Bool), y + k ≤ 5 → muF (smY ne nw bf v f p q x k y db more).1 ≤ muF db ∧ ((smY ne nw bf v f p q x k y db more).2 = true → more = true ∨ muF (smY ne nw bf v f p q x k y db more).1 < muF db) := by
  intro k
  induction k with
  | zero => intro y db more _; exact ⟨Nat.le_refl _, fun h => Or.inl h⟩
  | succ k ih =>
    intro y db more hy
    rw [smY]
    split
    · next hc =>
      have hg : grew (db v) (db v ||| bm (5 * x + y)) := grew.bit (by omega)
      have hne : ¬ (db v ||| bm (5 * x + y)) = db v := fun e => by
        have e2 := congrArg (fun z => bt z (5 * x + y)) e
        simp only [b_or, bt_bm (show 5 * x + y < 32 by omega), decide_true, Bool.or_true] at e2
        rw [hc.1] at e2
        cases e2
      have hu := muF_upd (f := db) h2 h7 hg.le
      have h := ih (y + 1) (upd db v (db v ||| bm (5 * x + y))) true (by omega)
      have h3 := hu.2 (hg.lt hne)
      exact ⟨Nat.le_trans h.1 hu.1, fun _ => Or.inr (Nat.lt_of_le_of_lt h.1 h3)⟩
    · exact ih (y + 1) db more (by omega)
theorem smX_mu (ne : Nat → Bool) (nw bf : Nat → Int32) (v f p q : Nat) (h2 : 2 ≤ v) (h7 : v < 7) : ∀ (k x : Nat) (db : Nat → Int32) (more : Bool), x + k ≤ 5 → muF (smX ne nw bf v f p q k x db more).1 ≤ muF db ∧ ((smX ne nw bf v f p q k x db more).2 = true → more = true ∨ muF (smX ne nw bf v f p q k x db more).1 < muF db) := by
  intro k
  induction k with
  | zero => intro x db more _; exact ⟨Nat.le_refl _, fun h => Or.inl h⟩
  | succ k ih =>
    intro x db more hx
    rw [smX]
    split
    · have h0 := smY_mu ne nw bf v f p q x h2 h7 (by omega) 5 0 db more (by omega)
      have h := ih (x + 1) (smY ne nw bf v f p q x 5 0 db more).1 (smY ne nw bf v f p q x 5 0 db more).2 (by omega)
      refine ⟨Nat.le_trans h.1 h0.1, fun z => ?_⟩
      rcases h.2 z with z | z
      · rcases h0.2 z with z | z
        · exact Or.inl z
        · exact Or.inr (Nat.lt_of_le_of_lt h.1 z)
      · exact Or.inr (Nat.lt_of_lt_of_le z h0.1)
    · exact ⟨Nat.le_refl _, fun h => Or.inl h⟩
theorem smF_mu {n : Nat} {hd fm rp rq : Nat → Nat} (hr : ruOk n hd fm rp rq) (ne : Nat → Bool) (nw bf : Nat → Int32) : ∀ (k i : Nat) (db : Nat → Int32) (more : Bool), i + k ≤ n → muF (smF hd fm rp rq ne nw bf k i db more).1 ≤ muF db ∧ ((smF hd fm rp rq ne nw bf k i db more).2 = true → more = true ∨ muF (smF hd fm rp rq ne nw bf k i db more).1 < muF db) := by
  intro k
  induction k with
  | zero => intro i db more _; exact ⟨Nat.le_refl _, fun h => Or.inl h⟩
  | succ k ih =>
    intro i db more hi
    rw [smF]
    have hri := hr.2 i (by omega)
    have h0 := smX_mu ne nw bf (hd i) (fm i) (rp i) (rq i) hri.1 hri.2.1 5 0 db more (by omega)
    have h := ih (i + 1) (smX ne nw bf (hd i) (fm i) (rp i) (rq i) 5 0 db more).1 (smX ne nw bf (hd i) (fm i) (rp i) (rq i) 5 0 db more).2 (by omega)
    refine ⟨Nat.le_trans h.1 h0.1, fun z => ?_⟩
    rcases h.2 z with z | z
    · rcases h0.2 z with z | z
      · exact Or.inl z
      · exact Or.inr (Nat.lt_of_le_of_lt h.1 z)
    · exact Or.inr (Nat.lt_of_lt_of_le z h0.1)
theorem scT_false (n : Nat) (hd fm rp rq : Nat → Nat) (ne : Nat → Bool) (nw bf : Nat → Int32) (k : Nat) (db : Nat → Int32) : scT n hd fm rp rq ne nw bf k false db = true := by cases k <;> rfl
theorem scT_mu {n : Nat} {hd fm rp rq : Nat → Nat} (hr : ruOk n hd fm rp rq) (ne : Nat → Bool) (nw bf : Nat → Int32) : ∀ (k : Nat) (more : Bool) (db : Nat → Int32), muF db < k → scT n hd fm rp rq ne nw bf k more db = true := by
  intro k
  induction k with
  | zero => intro more db h; exact absurd h (Nat.not_lt_zero _)
  | succ k ih =>
    intro more db h
    rw [scT]
    split
    · have hm := smF_mu hr ne nw bf n 0 db false (by omega)
      cases q : (smF hd fm rp rq ne nw bf n 0 db false).2 with
      | false => exact scT_false n hd fm rp rq ne nw bf k _
      | true =>
        rcases hm.2 q with z | z
        · cases z
        · exact ih true _ (by omega)
    · rfl
theorem scT_ok {n : Nat} {hd fm rp rq : Nat → Nat} (hr : ruOk n hd fm rp rq) (ne : Nat → Bool) (nw bf db : Nat → Int32) : scT n hd fm rp rq ne nw bf 126 true db = true := scT_mu hr ne nw bf 126 true db (Nat.lt_succ_of_le (muF_le db))
set_option maxHeartbeats 4000000 in
set_option maxRecDepth 100000 in
theorem c_X3_make (l : Launch) (dC : Nat → ClassId) (dI : Nat → Nat → Nat) (b : Nat → Nat) (cB : Nat → ClassId) (n : Nat) (hd fm rp rq : Nat → Nat) (nw bf db sg wt : Nat → Int32) (ne dn : Nat → Bool) (v : Nat) (hy_0 : ruOk n hd fm rp rq) (hy_1 : v < 7) : WrV l yX3_make wsX3_make ({ frames := 4, cells := 0, slots := 0, locals := 98 }) (dC, dI) vwCl (mdW b cB n hd fm rp rq nw bf db sg wt ne dn) (mdW b cB n hd fm rp rq (mkF n hd fm rp rq ne v 126 true nw) bf db sg wt ne (mdF ne v 5 2 dn)) (mdT cB) nstW [.ref (b 0), .int (nI v)] := by
  intro sz
  refine Met.ofW (cc := cX3_make) (maxL := 4) (ret := none) (by decide) rfl ?_
  intro p e s m args below meth c s₁ B hml hv
  obtain ⟨rfl, hsz, ⟨hP, hK, hN⟩, hD0⟩ := hv
  subst hsz
  have hx := B.exec
  have hb := B.bytes
  have hr := B.returns
  have hts := atoms_spec (ws := wsX3_make) B.pre
  have hown : s.vm.findClass RX3 = some m.cls := findClass_of_methodNamed B.named
  have hlocks := B.notSynchronized
  obtain ⟨A, hAe⟩ : ∃ A, A = va_A (mdW b cB n hd fm rp rq nw bf db sg wt ne dn) s.heap.size := ⟨_, rfl⟩
  have hD : va_D A (mdW b cB n hd fm rp rq nw bf db sg wt ne dn) := by rw [hAe]; exact hD0.self (sz := s.heap.size)
  have hA : ∀ q : Nat, s.heap.size ≤ q → A q := fun q h => by rw [hAe]; exact Or.inr h
  have hS : va_S A s.heap s.heap [] := va_S.rf
  have hP : va_P (dC, dI) vwCl (mdW b cB n hd fm rp rq nw bf db sg wt ne dn) s.heap := hP
  have hn12 := hy_0.1
  have lf_41 := hts (.fieldLink RX3 41 "ViewKeeperModel" "done" "[Z") (by decide +kernel)
  have in_X3 : ∀ w ∈ u_ws RX3 TX3 12, w ∈ wsX3_make := by decide +kernel
  have hl := lv_entry ([.ref (b 0), .int (nI v)]) (n := 4) (Nat.le_of_ble_eq_true rfl)
  rw [lg_entry_eq]
  generalize (lg_sl ([.ref (b 0), .int (nI v)]) ++ List.replicate (4 - (lg_sl ([.ref (b 0), .int (nI v)])).length) Slot.unset).toArray = ls at hl ⊢
  have hl : lv_has ls 4 [(0, .ref (b 0)), (1, .int (nI v))] := hl
  refine lv_iconst (v := nI 1) hx hb dX3_make_0 (by decide) ?_
  refine lv_istore_n (lv' := [(2, .int (nI 1)), (0, .ref (b 0)), (1, .int (nI v))]) hx hb dX3_make_1 rfl hl (by decide) rfl (fun ls hl => ?_)
  have L_2_0 : ∀ (nn : Nat) (more : Bool) (nw1 : Nat → Int32), mkT n hd fm rp rq ne v nn more nw1 = true → ∀ (H : Heap) (locs : List Loc), va_P (dC, dI) vwCl (mdW b cB n hd fm rp rq nw1 bf db sg wt ne dn) H → va_D A (mdW b cB n hd fm rp rq nw1 bf db sg wt ne dn) → va_S A s.heap H locs → ∀ ls : Array Slot, lv_has ls 4 [(0, .ref (b 0)), (1, .int (nI v)), (2, .int (bI more))] → (∀ (H : Heap) (locs : List Loc), va_P (dC, dI) vwCl (mdW b cB n hd fm rp rq (mkF n hd fm rp rq ne v nn more nw1) bf db sg wt ne dn) H → va_D A (mdW b cB n hd fm rp rq (mkF n hd fm rp rq ne v nn more nw1) bf db sg wt ne dn) → va_S A s.heap H locs → ∀ ls : Array Slot, lv_has ls 4 [(0, .ref (b 0)), (1, .int (nI v))] → W p l e (headSpec wsX3_make ({ frames := 4, cells := 0, slots := 0, locals := 98 })).room s m ([.ref (b 0), .int (nI v)] : List Value).toArray below meth c H locs 0 0 (MQ below (va_Qv (fun _ : Unit => True) (wrB (dC, dI) vwCl (mdW b cB n hd fm rp rq nw bf db sg wt ne dn) (mdW b cB n hd fm rp rq (mkF n hd fm rp rq ne v 126 true nw) bf db sg wt ne (mdF ne v 5 2 dn)) (mdT cB) s.heap.size) (va_A (mdW b cB n hd fm rp rq nw bf db sg wt ne dn) s.heap.size)) ([.ref (b 0), .int (nI v)] : List Value).toArray s 0 0 (va_A (mdW b cB n hd fm rp rq nw bf db sg wt ne dn) s.heap.size)) (F0 m 52 ls [])) → W p l e (headSpec wsX3_make ({ frames := 4, cells := 0, slots := 0, locals := 98 })).room s m ([.ref (b 0), .int (nI v)] : List Value).toArray below meth c H locs 0 0 (MQ below (va_Qv (fun _ : Unit => True) (wrB (dC, dI) vwCl (mdW b cB n hd fm rp rq nw bf db sg wt ne dn) (mdW b cB n hd fm rp rq (mkF n hd fm rp rq ne v 126 true nw) bf db sg wt ne (mdF ne v 5 2 dn)) (mdT cB) s.heap.size) (va_A (mdW b cB n hd fm rp rq nw bf db sg wt ne dn) s.heap.size)) ([.ref (b 0), .int (nI v)] : List Value).toArray s 0 0 (va_A (mdW b cB n hd fm rp rq nw bf db sg wt ne dn) s.heap.size)) (F0 m 2 ls []) := by
    intro nn
    induction nn with
    | zero =>
      intro more nw1 hT H locs hP hD hS ls hl kx
      refine lv_iload_n hx hb dX3_make_2 rfl (lv_at hl 2 rfl) ?_
      refine hx_ifB (tgt := 52) hx hb dX3_make_3 (by decide) (fun c_2 => ?_) (fun c_2 => ?_)
      · exact kx _ _ hP hD hS ls (lv_sub hl [0, 1] rfl)
      · exact absurd hT (by simp only [mkT, c_2, ↓reduceIte, decide_true, decide_false, Bool.not_true, Bool.not_false, Bool.or_true, Bool.true_or, Bool.or_false, Bool.false_or, Bool.and_true, Bool.true_and, Bool.and_false, Bool.false_and, and_true, true_and, and_false, false_and, and_self, or_self, or_true, true_or, or_false, false_or, Bool.false_eq_true, Bool.true_eq_false, not_true_eq_false, not_false_eq_true, Bool.or_self, decide_eq_true_eq])
    | succ nn ih =>
      intro more nw1 hT H locs hP hD hS ls hl kx
      refine lv_iload_n hx hb dX3_make_2 rfl (lv_at hl 2 rfl) ?_
      refine hx_ifB (tgt := 52) hx hb dX3_make_3 (by decide) (fun c_3 => ?_) (fun c_3 => ?_)
      · have kx := kx
        rw [show mkF n hd fm rp rq ne v (nn + 1) more nw1 = nw1 from by simp only [mkF, c_3, ↓reduceIte, decide_true, decide_false, Bool.not_true, Bool.not_false, Bool.or_true, Bool.true_or, Bool.or_false, Bool.false_or, Bool.and_true, Bool.true_and, Bool.and_false, Bool.false_and, and_true, true_and, and_false, false_and, and_self, or_self, or_true, true_or, or_false, false_or, Bool.false_eq_true, Bool.true_eq_false, not_true_eq_false, not_false_eq_true, Bool.or_self, decide_eq_true_eq]] at kx
        exact kx _ _ hP hD hS ls (lv_sub hl [0, 1] rfl)
      · refine lv_iconst (v := nI 0) hx hb dX3_make_6 (by decide) ?_
        refine lv_istore_n (lv' := [(2, .int (nI 0)), (0, .ref (b 0)), (1, .int (nI v))]) hx hb dX3_make_7 rfl hl (by decide) rfl (fun ls hl => ?_)
        refine lv_iconst (v := nI 2) hx hb dX3_make_8 (by decide) ?_
        refine lv_istore_n (lv' := [(3, .int (nI 2)), (2, .int (nI 0)), (0, .ref (b 0)), (1, .int (nI v))]) hx hb dX3_make_9 rfl hl (by decide) rfl (fun ls hl => ?_)
        have L_10_3 : ∀ (nn : Nat) (w : Nat) (more2 : Bool) (nw2 : Nat → Int32), w + nn = 7 → ∀ (H : Heap) (locs : List Loc), va_P (dC, dI) vwCl (mdW b cB n hd fm rp rq nw2 bf db sg wt ne dn) H → va_D A (mdW b cB n hd fm rp rq nw2 bf db sg wt ne dn) → va_S A s.heap H locs → ∀ ls : Array Slot, lv_has ls 4 [(0, .ref (b 0)), (1, .int (nI v)), (2, .int (bI more2)), (3, .int (nI w))] → (∀ (H : Heap) (locs : List Loc), va_P (dC, dI) vwCl (mdW b cB n hd fm rp rq ((mpF n hd fm rp rq ne v nn w nw2 more2).1) bf db sg wt ne dn) H → va_D A (mdW b cB n hd fm rp rq ((mpF n hd fm rp rq ne v nn w nw2 more2).1) bf db sg wt ne dn) → va_S A s.heap H locs → ∀ ls : Array Slot, lv_has ls 4 [(0, .ref (b 0)), (1, .int (nI v)), (2, .int (bI ((mpF n hd fm rp rq ne v nn w nw2 more2).2))), (3, .int (nI 7))] → W p l e (headSpec wsX3_make ({ frames := 4, cells := 0, slots := 0, locals := 98 })).room s m ([.ref (b 0), .int (nI v)] : List Value).toArray below meth c H locs 0 0 (MQ below (va_Qv (fun _ : Unit => True) (wrB (dC, dI) vwCl (mdW b cB n hd fm rp rq nw bf db sg wt ne dn) (mdW b cB n hd fm rp rq (mkF n hd fm rp rq ne v 126 true nw) bf db sg wt ne (mdF ne v 5 2 dn)) (mdT cB) s.heap.size) (va_A (mdW b cB n hd fm rp rq nw bf db sg wt ne dn) s.heap.size)) ([.ref (b 0), .int (nI v)] : List Value).toArray s 0 0 (va_A (mdW b cB n hd fm rp rq nw bf db sg wt ne dn) s.heap.size)) (F0 m 49 ls [])) → W p l e (headSpec wsX3_make ({ frames := 4, cells := 0, slots := 0, locals := 98 })).room s m ([.ref (b 0), .int (nI v)] : List Value).toArray below meth c H locs 0 0 (MQ below (va_Qv (fun _ : Unit => True) (wrB (dC, dI) vwCl (mdW b cB n hd fm rp rq nw bf db sg wt ne dn) (mdW b cB n hd fm rp rq (mkF n hd fm rp rq ne v 126 true nw) bf db sg wt ne (mdF ne v 5 2 dn)) (mdT cB) s.heap.size) (va_A (mdW b cB n hd fm rp rq nw bf db sg wt ne dn) s.heap.size)) ([.ref (b 0), .int (nI v)] : List Value).toArray s 0 0 (va_A (mdW b cB n hd fm rp rq nw bf db sg wt ne dn) s.heap.size)) (F0 m 10 ls []) := by
          intro nn
          induction nn with
          | zero =>
            intro w more2 nw2 hn_w H locs hP hD hS ls hl kx
            obtain rfl : w = 7 := by omega
            refine lv_iload_n hx hb dX3_make_10 rfl (lv_at hl 3 rfl) ?_
            refine lv_bipush (v := nI 7) hx hb dX3_make_11 (by decide) ?_
            refine hx_geN (tgt := 49) hx hb dX3_make_13 (by decide) (by omega) (by omega) (fun c_5 => ?_) (fun c_5 => ?_)
            · exact kx _ _ hP hD hS ls (lv_sub hl [0, 1, 2, 3] rfl)
            · exact absurd c_5 (by omega)
          | succ nn ih =>
            intro w more2 nw2 hn_w H locs hP hD hS ls hl kx
            refine lv_iload_n hx hb dX3_make_10 rfl (lv_at hl 3 rfl) ?_
            refine lv_bipush (v := nI 7) hx hb dX3_make_11 (by decide) ?_
            refine hx_geN (tgt := 49) hx hb dX3_make_13 (by decide) (by omega) (by omega) (fun c_6 => ?_) (fun c_6 => ?_)
            · exact absurd c_6 (by omega)
            · refine lv_aload_n hx hb dX3_make_16 rfl (lv_at hl 0 rfl) ?_
              refine lv_iload_n hx hb dX3_make_17 rfl (lv_at hl 1 rfl) ?_
              refine lv_iload_n hx hb dX3_make_18 rfl (lv_at hl 3 rfl) ?_
              refine hx_read (va_runV (As := [.int (nI v), .int (nI w)]) (rest := []) ⟨hx, hb, hml, hown, hts⟩ (c_X3_together l dC dI b cB n hd fm rp rq nw2 bf db sg wt ne dn v w (by omega) (by omega)) (cwV 2 hts gX3_make_X3_together rfl rfl rfl (by decide +kernel) ⟨Nat.le_of_ble_eq_true rfl, Nat.le_of_ble_eq_true rfl⟩) (rd_V nstW_ok hP hK hN 0 rfl rfl _) rfl rfl hl.1 rfl (lv_room (Nat.le_of_ble_eq_true rfl)) dX3_make_19 ⟨Nat.zero_le _, Nat.zero_le _⟩) ?_
              refine hx_ifB (tgt := 43) hx hb dX3_make_22 (by decide) (fun c_7 => ?_) (fun c_7 => ?_)
              · refine lv_iinc (v := nI (w + 1)) (lv' := [(3, .int (nI (w + 1))), (0, .ref (b 0)), (1, .int (nI v)), (2, .int (bI more2))]) hx hb dX3_make_43 hl (k := 3) rfl (nI_add w 1) (by decide) rfl (fun ls hl => ?_)
                refine lv_goto (tgt := 10) hx hb dX3_make_46 (by decide) ?_
                have kx := kx
                rw [show (mpF n hd fm rp rq ne v (nn + 1) w nw2 more2).2 = (mpF n hd fm rp rq ne v nn (w + 1) nw2 more2).2 from by simp only [mpF, c_3, c_6, c_7, ↓reduceIte, decide_true, decide_false, Bool.not_true, Bool.not_false, Bool.or_true, Bool.true_or, Bool.or_false, Bool.false_or, Bool.and_true, Bool.true_and, Bool.and_false, Bool.false_and, and_true, true_and, and_false, false_and, and_self, or_self, or_true, true_or, or_false, false_or, Bool.false_eq_true, Bool.true_eq_false, not_true_eq_false, not_false_eq_true, Bool.or_self, decide_eq_true_eq]] at kx
                rw [show (mpF n hd fm rp rq ne v (nn + 1) w nw2 more2).1 = (mpF n hd fm rp rq ne v nn (w + 1) nw2 more2).1 from by simp only [mpF, c_3, c_6, c_7, ↓reduceIte, decide_true, decide_false, Bool.not_true, Bool.not_false, Bool.or_true, Bool.true_or, Bool.or_false, Bool.false_or, Bool.and_true, Bool.true_and, Bool.and_false, Bool.false_and, and_true, true_and, and_false, false_and, and_self, or_self, or_true, true_or, or_false, false_or, Bool.false_eq_true, Bool.true_eq_false, not_true_eq_false, not_false_eq_true, Bool.or_self, decide_eq_true_eq]] at kx
                exact ih (w + 1) more2 nw2 (by omega) _ _ hP hD hS ls (lv_sub hl [1, 2, 3, 0] rfl) kx
              · refine lv_aload_n hx hb dX3_make_25 rfl (lv_at hl 0 rfl) ?_
                refine lv_iload_n hx hb dX3_make_26 rfl (lv_at hl 3 rfl) ?_
                refine hx_wri (va_runV (As := [.int (nI w)]) (rest := []) ⟨hx, hb, hml, hown, hts⟩ (c_X3_grow l dC dI b cB n hd fm rp rq nw2 bf db sg wt ne dn w (hy_0) (by omega) H.size) (cwV 1 hts gX3_make_X3_grow rfl rfl rfl (by decide +kernel) ⟨Nat.le_of_ble_eq_true rfl, Nat.le_of_ble_eq_true rfl⟩) (wr_V nstW_ok hP hK hN hD 0 rfl rfl _) rfl rfl hl.1 rfl (lv_room (Nat.le_of_ble_eq_true rfl)) dX3_make_27 ⟨Nat.zero_le _, Nat.zero_le _⟩) hD hS hA (fun H locs hP hD hS => ?_)
                have hP : va_P (dC, dI) vwCl (mdW b cB n hd fm rp rq (upd nw2 w (grO n hd fm rp rq nw2 w 5 0 (nw2 w))) bf db sg wt ne dn) H := hP
                have hD : va_D A (mdW b cB n hd fm rp rq (upd nw2 w (grO n hd fm rp rq nw2 w 5 0 (nw2 w))) bf db sg wt ne dn) := hD
                refine hx_ifnB (tgt := 37) hx hb dX3_make_30 (by decide) (fun c_8 => ?_) (fun c_8 => ?_)
                · refine lv_iconst (v := nI 1) hx hb dX3_make_37 (by decide) ?_
                  refine lv_goto (tgt := 42) hx hb dX3_make_38 (by decide) ?_
                  refine lv_istore_n (lv' := [(2, .int (nI 1)), (0, .ref (b 0)), (1, .int (nI v)), (3, .int (nI w))]) hx hb dX3_make_42 rfl hl (by decide) rfl (fun ls hl => ?_)
                  refine lv_iinc (v := nI (w + 1)) (lv' := [(3, .int (nI (w + 1))), (2, .int (nI 1)), (0, .ref (b 0)), (1, .int (nI v))]) hx hb dX3_make_43 hl (k := 3) rfl (nI_add w 1) (by decide) rfl (fun ls hl => ?_)
                  refine lv_goto (tgt := 10) hx hb dX3_make_46 (by decide) ?_
                  have kx := kx
                  rw [show (mpF n hd fm rp rq ne v (nn + 1) w nw2 more2).2 = (mpF n hd fm rp rq ne v nn (w + 1) (upd nw2 w (grO n hd fm rp rq nw2 w 5 0 (nw2 w))) true).2 from by simp only [mpF, c_3, c_6, c_7, c_8, ↓reduceIte, decide_true, decide_false, Bool.not_true, Bool.not_false, Bool.or_true, Bool.true_or, Bool.or_false, Bool.false_or, Bool.and_true, Bool.true_and, Bool.and_false, Bool.false_and, and_true, true_and, and_false, false_and, and_self, or_self, or_true, true_or, or_false, false_or, Bool.false_eq_true, Bool.true_eq_false, not_true_eq_false, not_false_eq_true, Bool.or_self, decide_eq_true_eq]] at kx
                  rw [show (mpF n hd fm rp rq ne v (nn + 1) w nw2 more2).1 = (mpF n hd fm rp rq ne v nn (w + 1) (upd nw2 w (grO n hd fm rp rq nw2 w 5 0 (nw2 w))) true).1 from by simp only [mpF, c_3, c_6, c_7, c_8, ↓reduceIte, decide_true, decide_false, Bool.not_true, Bool.not_false, Bool.or_true, Bool.true_or, Bool.or_false, Bool.false_or, Bool.and_true, Bool.true_and, Bool.and_false, Bool.false_and, and_true, true_and, and_false, false_and, and_self, or_self, or_true, true_or, or_false, false_or, Bool.false_eq_true, Bool.true_eq_false, not_true_eq_false, not_false_eq_true, Bool.or_self, decide_eq_true_eq]] at kx
                  exact ih (w + 1) true (upd nw2 w (grO n hd fm rp rq nw2 w 5 0 (nw2 w))) (by omega) _ _ hP hD hS ls (lv_sub hl [2, 3, 1, 0] rfl) kx
                · refine lv_iload_n hx hb dX3_make_33 rfl (lv_at hl 2 rfl) ?_
                  refine hx_ifB (tgt := 41) hx hb dX3_make_34 (by decide) (fun c_9 => ?_) (fun c_9 => ?_)
                  · refine lv_iconst (v := nI 0) hx hb dX3_make_41 (by decide) ?_
                    refine lv_istore_n (lv' := [(2, .int (nI 0)), (0, .ref (b 0)), (1, .int (nI v)), (3, .int (nI w))]) hx hb dX3_make_42 rfl hl (by decide) rfl (fun ls hl => ?_)
                    refine lv_iinc (v := nI (w + 1)) (lv' := [(3, .int (nI (w + 1))), (2, .int (nI 0)), (0, .ref (b 0)), (1, .int (nI v))]) hx hb dX3_make_43 hl (k := 3) rfl (nI_add w 1) (by decide) rfl (fun ls hl => ?_)
                    refine lv_goto (tgt := 10) hx hb dX3_make_46 (by decide) ?_
                    have kx := kx
                    rw [show (mpF n hd fm rp rq ne v (nn + 1) w nw2 more2).2 = (mpF n hd fm rp rq ne v nn (w + 1) (upd nw2 w (grO n hd fm rp rq nw2 w 5 0 (nw2 w))) false).2 from by simp only [mpF, c_3, c_6, c_7, c_8, c_9, ↓reduceIte, decide_true, decide_false, Bool.not_true, Bool.not_false, Bool.or_true, Bool.true_or, Bool.or_false, Bool.false_or, Bool.and_true, Bool.true_and, Bool.and_false, Bool.false_and, and_true, true_and, and_false, false_and, and_self, or_self, or_true, true_or, or_false, false_or, Bool.false_eq_true, Bool.true_eq_false, not_true_eq_false, not_false_eq_true, Bool.or_self, decide_eq_true_eq]] at kx
                    rw [show (mpF n hd fm rp rq ne v (nn + 1) w nw2 more2).1 = (mpF n hd fm rp rq ne v nn (w + 1) (upd nw2 w (grO n hd fm rp rq nw2 w 5 0 (nw2 w))) false).1 from by simp only [mpF, c_3, c_6, c_7, c_8, c_9, ↓reduceIte, decide_true, decide_false, Bool.not_true, Bool.not_false, Bool.or_true, Bool.true_or, Bool.or_false, Bool.false_or, Bool.and_true, Bool.true_and, Bool.and_false, Bool.false_and, and_true, true_and, and_false, false_and, and_self, or_self, or_true, true_or, or_false, false_or, Bool.false_eq_true, Bool.true_eq_false, not_true_eq_false, not_false_eq_true, Bool.or_self, decide_eq_true_eq]] at kx
                    exact ih (w + 1) false (upd nw2 w (grO n hd fm rp rq nw2 w 5 0 (nw2 w))) (by omega) _ _ hP hD hS ls (lv_sub hl [2, 3, 1, 0] rfl) kx
                  · refine lv_iconst (v := nI 1) hx hb dX3_make_37 (by decide) ?_
                    refine lv_goto (tgt := 42) hx hb dX3_make_38 (by decide) ?_
                    refine lv_istore_n (lv' := [(2, .int (nI 1)), (0, .ref (b 0)), (1, .int (nI v)), (3, .int (nI w))]) hx hb dX3_make_42 rfl hl (by decide) rfl (fun ls hl => ?_)
                    refine lv_iinc (v := nI (w + 1)) (lv' := [(3, .int (nI (w + 1))), (2, .int (nI 1)), (0, .ref (b 0)), (1, .int (nI v))]) hx hb dX3_make_43 hl (k := 3) rfl (nI_add w 1) (by decide) rfl (fun ls hl => ?_)
                    refine lv_goto (tgt := 10) hx hb dX3_make_46 (by decide) ?_
                    have kx := kx
                    rw [show (mpF n hd fm rp rq ne v (nn + 1) w nw2 more2).2 = (mpF n hd fm rp rq ne v nn (w + 1) (upd nw2 w (grO n hd fm rp rq nw2 w 5 0 (nw2 w))) true).2 from by simp only [mpF, c_3, c_6, c_7, c_8, c_9, ↓reduceIte, decide_true, decide_false, Bool.not_true, Bool.not_false, Bool.or_true, Bool.true_or, Bool.or_false, Bool.false_or, Bool.and_true, Bool.true_and, Bool.and_false, Bool.false_and, and_true, true_and, and_false, false_and, and_self, or_self, or_true, true_or, or_false, false_or, Bool.false_eq_true, Bool.true_eq_false, not_true_eq_false, not_false_eq_true, Bool.or_self, decide_eq_true_eq]] at kx
                    rw [show (mpF n hd fm rp rq ne v (nn + 1) w nw2 more2).1 = (mpF n hd fm rp rq ne v nn (w + 1) (upd nw2 w (grO n hd fm rp rq nw2 w 5 0 (nw2 w))) true).1 from by simp only [mpF, c_3, c_6, c_7, c_8, c_9, ↓reduceIte, decide_true, decide_false, Bool.not_true, Bool.not_false, Bool.or_true, Bool.true_or, Bool.or_false, Bool.false_or, Bool.and_true, Bool.true_and, Bool.and_false, Bool.false_and, and_true, true_and, and_false, false_and, and_self, or_self, or_true, true_or, or_false, false_or, Bool.false_eq_true, Bool.true_eq_false, not_true_eq_false, not_false_eq_true, Bool.or_self, decide_eq_true_eq]] at kx
                    exact ih (w + 1) true (upd nw2 w (grO n hd fm rp rq nw2 w 5 0 (nw2 w))) (by omega) _ _ hP hD hS ls (lv_sub hl [2, 3, 1, 0] rfl) kx
        refine L_10_3 5 2 false nw1 (by omega) _ _ hP hD hS ls (lv_sub hl [2, 3, 1, 0] rfl) (fun H locs hP hD hS ls hl => ?_)
        have hP : va_P (dC, dI) vwCl (mdW b cB n hd fm rp rq ((mpF n hd fm rp rq ne v 5 2 nw1 false).1) bf db sg wt ne dn) H := hP
        have hD : va_D A (mdW b cB n hd fm rp rq ((mpF n hd fm rp rq ne v 5 2 nw1 false).1) bf db sg wt ne dn) := hD
        have hl : lv_has ls 4 [(0, .ref (b 0)), (1, .int (nI v)), (2, .int (bI ((mpF n hd fm rp rq ne v 5 2 nw1 false).2))), (3, .int (nI 7))] := hl
        refine lv_goto (tgt := 2) hx hb dX3_make_49 (by decide) ?_
        have kx := kx
        rw [show mkF n hd fm rp rq ne v (nn + 1) more nw1 = mkF n hd fm rp rq ne v nn ((mpF n hd fm rp rq ne v 5 2 nw1 false).2) ((mpF n hd fm rp rq ne v 5 2 nw1 false).1) from by simp only [mkF, c_3, ↓reduceIte, decide_true, decide_false, Bool.not_true, Bool.not_false, Bool.or_true, Bool.true_or, Bool.or_false, Bool.false_or, Bool.and_true, Bool.true_and, Bool.and_false, Bool.false_and, and_true, true_and, and_false, false_and, and_self, or_self, or_true, true_or, or_false, false_or, Bool.false_eq_true, Bool.true_eq_false, not_true_eq_false, not_false_eq_true, Bool.or_self, decide_eq_true_eq]] at kx
        exact ih ((mpF n hd fm rp rq ne v 5 2 nw1 false).2) ((mpF n hd fm rp rq ne v 5 2 nw1 false).1) (by have h9 := hT; simp only [mkT, c_3, ↓reduceIte] at h9; exact h9) _ _ hP hD hS ls (lv_sub hl [0, 1, 2] rfl) kx
  refine L_2_0 126 true nw (mkT_ok n hd fm rp rq ne v nw) _ _ hP hD hS ls (lv_sub hl [1, 2, 0] rfl) (fun H locs hP hD hS ls hl => ?_)
  have hP : va_P (dC, dI) vwCl (mdW b cB n hd fm rp rq (mkF n hd fm rp rq ne v 126 true nw) bf db sg wt ne dn) H := hP
  have hD : va_D A (mdW b cB n hd fm rp rq (mkF n hd fm rp rq ne v 126 true nw) bf db sg wt ne dn) := hD
  have hl : lv_has ls 4 [(0, .ref (b 0)), (1, .int (nI v))] := hl
  refine lv_iconst (v := nI 2) hx hb dX3_make_52 (by decide) ?_
  refine lv_istore_n (lv' := [(3, .int (nI 2)), (0, .ref (b 0)), (1, .int (nI v))]) hx hb dX3_make_53 rfl hl (by decide) rfl (fun ls hl => ?_)
  have L_54_9 : ∀ (nn : Nat) (u : Nat) (dn1 : Nat → Bool), u + nn = 7 → ∀ (H : Heap) (locs : List Loc), va_P (dC, dI) vwCl (mdW b cB n hd fm rp rq (mkF n hd fm rp rq ne v 126 true nw) bf db sg wt ne dn1) H → va_D A (mdW b cB n hd fm rp rq (mkF n hd fm rp rq ne v 126 true nw) bf db sg wt ne dn1) → va_S A s.heap H locs → ∀ ls : Array Slot, lv_has ls 4 [(0, .ref (b 0)), (1, .int (nI v)), (3, .int (nI u))] → (∀ (H : Heap) (locs : List Loc), va_P (dC, dI) vwCl (mdW b cB n hd fm rp rq (mkF n hd fm rp rq ne v 126 true nw) bf db sg wt ne (mdF ne v nn u dn1)) H → va_D A (mdW b cB n hd fm rp rq (mkF n hd fm rp rq ne v 126 true nw) bf db sg wt ne (mdF ne v nn u dn1)) → va_S A s.heap H locs → ∀ ls : Array Slot, lv_has ls 4 [(0, .ref (b 0)), (1, .int (nI v)), (3, .int (nI 7))] → W p l e (headSpec wsX3_make ({ frames := 4, cells := 0, slots := 0, locals := 98 })).room s m ([.ref (b 0), .int (nI v)] : List Value).toArray below meth c H locs 0 0 (MQ below (va_Qv (fun _ : Unit => True) (wrB (dC, dI) vwCl (mdW b cB n hd fm rp rq nw bf db sg wt ne dn) (mdW b cB n hd fm rp rq (mkF n hd fm rp rq ne v 126 true nw) bf db sg wt ne (mdF ne v 5 2 dn)) (mdT cB) s.heap.size) (va_A (mdW b cB n hd fm rp rq nw bf db sg wt ne dn) s.heap.size)) ([.ref (b 0), .int (nI v)] : List Value).toArray s 0 0 (va_A (mdW b cB n hd fm rp rq nw bf db sg wt ne dn) s.heap.size)) (F0 m 95 ls [])) → W p l e (headSpec wsX3_make ({ frames := 4, cells := 0, slots := 0, locals := 98 })).room s m ([.ref (b 0), .int (nI v)] : List Value).toArray below meth c H locs 0 0 (MQ below (va_Qv (fun _ : Unit => True) (wrB (dC, dI) vwCl (mdW b cB n hd fm rp rq nw bf db sg wt ne dn) (mdW b cB n hd fm rp rq (mkF n hd fm rp rq ne v 126 true nw) bf db sg wt ne (mdF ne v 5 2 dn)) (mdT cB) s.heap.size) (va_A (mdW b cB n hd fm rp rq nw bf db sg wt ne dn) s.heap.size)) ([.ref (b 0), .int (nI v)] : List Value).toArray s 0 0 (va_A (mdW b cB n hd fm rp rq nw bf db sg wt ne dn) s.heap.size)) (F0 m 54 ls []) := by
    intro nn
    induction nn with
    | zero =>
      intro u dn1 hn_u H locs hP hD hS ls hl kx
      obtain rfl : u = 7 := by omega
      refine lv_iload_n hx hb dX3_make_54 rfl (lv_at hl 2 rfl) ?_
      refine lv_bipush (v := nI 7) hx hb dX3_make_55 (by decide) ?_
      refine hx_geN (tgt := 95) hx hb dX3_make_57 (by decide) (by omega) (by omega) (fun c_11 => ?_) (fun c_11 => ?_)
      · exact kx _ _ hP hD hS ls (lv_sub hl [0, 1, 2] rfl)
      · exact absurd c_11 (by omega)
    | succ nn ih =>
      intro u dn1 hn_u H locs hP hD hS ls hl kx
      refine lv_iload_n hx hb dX3_make_54 rfl (lv_at hl 2 rfl) ?_
      refine lv_bipush (v := nI 7) hx hb dX3_make_55 (by decide) ?_
      refine hx_geN (tgt := 95) hx hb dX3_make_57 (by decide) (by omega) (by omega) (fun c_12 => ?_) (fun c_12 => ?_)
      · exact absurd c_12 (by omega)
      · refine lv_aload_n hx hb dX3_make_60 rfl (lv_at hl 0 rfl) ?_
        refine va_get (D := (dC, dI)) (ci := 3) (v := .ref (b 11)) (C := RX3) (T := TX3) (N := 12) hx hb hts in_X3 hown hK hP 0 rfl rfl 11 (by decide) lf_41 (fun _ h9 => h9) rfl dX3_make_61 ?_
        refine lv_iload_n hx hb dX3_make_64 rfl (lv_at hl 2 rfl) ?_
        refine lv_aload_n hx hb dX3_make_65 rfl (lv_at hl 0 rfl) ?_
        refine va_get (D := (dC, dI)) (ci := 3) (v := .ref (b 11)) (C := RX3) (T := TX3) (N := 12) hx hb hts in_X3 hown hK hP 0 rfl rfl 11 (by decide) lf_41 (fun _ h9 => h9) rfl dX3_make_66 ?_
        refine lv_iload_n hx hb dX3_make_69 rfl (lv_at hl 2 rfl) ?_
        refine hx_zald hx hb hK hP 11 10 rfl rfl (by omega) (by omega) dX3_make_70 ?_
        refine hx_ifnB (tgt := 83) hx hb dX3_make_71 (by decide) (fun c_13 => ?_) (fun c_13 => ?_)
        · refine lv_iconst (v := nI 1) hx hb dX3_make_83 (by decide) ?_
          refine lv_goto (tgt := 88) hx hb dX3_make_84 (by decide) ?_
          refine hx_zast (v := true) hx hb hK hP hD hS 11 10 rfl rfl (by omega) (by omega) dX3_make_88 (fun H locs hP hD hS => ?_)
          have hP : va_P (dC, dI) vwCl (mdW b cB n hd fm rp rq (mkF n hd fm rp rq ne v 126 true nw) bf db sg wt ne (va_up dn1 u true)) H := hP
          have hD : va_D A (mdW b cB n hd fm rp rq (mkF n hd fm rp rq ne v 126 true nw) bf db sg wt ne (va_up dn1 u true)) := hD
          refine lv_iinc (v := nI (u + 1)) (lv' := [(3, .int (nI (u + 1))), (0, .ref (b 0)), (1, .int (nI v))]) hx hb dX3_make_89 hl (k := 2) rfl (nI_add u 1) (by decide) rfl (fun ls hl => ?_)
          refine lv_goto (tgt := 54) hx hb dX3_make_92 (by decide) ?_
          have kx := kx
          rw [show mdF ne v (nn + 1) u dn1 = mdF ne v nn (u + 1) (va_up dn1 u true) from by simp only [mdF, c_12, c_13, ↓reduceIte, decide_true, decide_false, Bool.not_true, Bool.not_false, Bool.or_true, Bool.true_or, Bool.or_false, Bool.false_or, Bool.and_true, Bool.true_and, Bool.and_false, Bool.false_and, and_true, true_and, and_false, false_and, and_self, or_self, or_true, true_or, or_false, false_or, Bool.false_eq_true, Bool.true_eq_false, not_true_eq_false, not_false_eq_true, Bool.or_self, decide_eq_true_eq]] at kx
          exact ih (u + 1) (va_up dn1 u true) (by omega) _ _ hP hD hS ls (lv_sub hl [1, 2, 0] rfl) kx
        · refine lv_aload_n hx hb dX3_make_74 rfl (lv_at hl 0 rfl) ?_
          refine lv_iload_n hx hb dX3_make_75 rfl (lv_at hl 1 rfl) ?_
          refine lv_iload_n hx hb dX3_make_76 rfl (lv_at hl 2 rfl) ?_
          refine hx_read (va_runV (As := [.int (nI v), .int (nI u)]) (rest := [.int (nI u), .ref (b 11)]) ⟨hx, hb, hml, hown, hts⟩ (c_X3_together l dC dI b cB n hd fm rp rq (mkF n hd fm rp rq ne v 126 true nw) bf db sg wt ne dn1 v u (by omega) (by omega)) (cwV 2 hts gX3_make_X3_together rfl rfl rfl (by decide +kernel) ⟨Nat.le_of_ble_eq_true rfl, Nat.le_of_ble_eq_true rfl⟩) (rd_V nstW_ok hP hK hN 0 rfl rfl _) rfl rfl hl.1 rfl (lv_room (Nat.le_of_ble_eq_true rfl)) dX3_make_77 ⟨Nat.zero_le _, Nat.zero_le _⟩) ?_
          refine hx_ifB (tgt := 87) hx hb dX3_make_80 (by decide) (fun c_14 => ?_) (fun c_14 => ?_)
          · refine lv_iconst (v := nI 0) hx hb dX3_make_87 (by decide) ?_
            refine hx_zast (v := false) hx hb hK hP hD hS 11 10 rfl rfl (by omega) (by omega) dX3_make_88 (fun H locs hP hD hS => ?_)
            have hP : va_P (dC, dI) vwCl (mdW b cB n hd fm rp rq (mkF n hd fm rp rq ne v 126 true nw) bf db sg wt ne (va_up dn1 u false)) H := hP
            have hD : va_D A (mdW b cB n hd fm rp rq (mkF n hd fm rp rq ne v 126 true nw) bf db sg wt ne (va_up dn1 u false)) := hD
            refine lv_iinc (v := nI (u + 1)) (lv' := [(3, .int (nI (u + 1))), (0, .ref (b 0)), (1, .int (nI v))]) hx hb dX3_make_89 hl (k := 2) rfl (nI_add u 1) (by decide) rfl (fun ls hl => ?_)
            refine lv_goto (tgt := 54) hx hb dX3_make_92 (by decide) ?_
            have kx := kx
            rw [show mdF ne v (nn + 1) u dn1 = mdF ne v nn (u + 1) (va_up dn1 u false) from by simp only [mdF, c_12, c_13, c_14, ↓reduceIte, decide_true, decide_false, Bool.not_true, Bool.not_false, Bool.or_true, Bool.true_or, Bool.or_false, Bool.false_or, Bool.and_true, Bool.true_and, Bool.and_false, Bool.false_and, and_true, true_and, and_false, false_and, and_self, or_self, or_true, true_or, or_false, false_or, Bool.false_eq_true, Bool.true_eq_false, not_true_eq_false, not_false_eq_true, Bool.or_self, decide_eq_true_eq]] at kx
            exact ih (u + 1) (va_up dn1 u false) (by omega) _ _ hP hD hS ls (lv_sub hl [1, 2, 0] rfl) kx
          · refine lv_iconst (v := nI 1) hx hb dX3_make_83 (by decide) ?_
            refine lv_goto (tgt := 88) hx hb dX3_make_84 (by decide) ?_
            refine hx_zast (v := true) hx hb hK hP hD hS 11 10 rfl rfl (by omega) (by omega) dX3_make_88 (fun H locs hP hD hS => ?_)
            have hP : va_P (dC, dI) vwCl (mdW b cB n hd fm rp rq (mkF n hd fm rp rq ne v 126 true nw) bf db sg wt ne (va_up dn1 u true)) H := hP
            have hD : va_D A (mdW b cB n hd fm rp rq (mkF n hd fm rp rq ne v 126 true nw) bf db sg wt ne (va_up dn1 u true)) := hD
            refine lv_iinc (v := nI (u + 1)) (lv' := [(3, .int (nI (u + 1))), (0, .ref (b 0)), (1, .int (nI v))]) hx hb dX3_make_89 hl (k := 2) rfl (nI_add u 1) (by decide) rfl (fun ls hl => ?_)
            refine lv_goto (tgt := 54) hx hb dX3_make_92 (by decide) ?_
            have kx := kx
            rw [show mdF ne v (nn + 1) u dn1 = mdF ne v nn (u + 1) (va_up dn1 u true) from by simp only [mdF, c_12, c_13, c_14, ↓reduceIte, decide_true, decide_false, Bool.not_true, Bool.not_false, Bool.or_true, Bool.true_or, Bool.or_false, Bool.false_or, Bool.and_true, Bool.true_and, Bool.and_false, Bool.false_and, and_true, true_and, and_false, false_and, and_self, or_self, or_true, true_or, or_false, false_or, Bool.false_eq_true, Bool.true_eq_false, not_true_eq_false, not_false_eq_true, Bool.or_self, decide_eq_true_eq]] at kx
            exact ih (u + 1) (va_up dn1 u true) (by omega) _ _ hP hD hS ls (lv_sub hl [1, 2, 0] rfl) kx
  refine L_54_9 5 2 dn (by omega) _ _ hP hD hS ls (lv_sub hl [1, 2, 0] rfl) (fun H locs hP hD hS ls hl => ?_)
  have hP : va_P (dC, dI) vwCl (mdW b cB n hd fm rp rq (mkF n hd fm rp rq ne v 126 true nw) bf db sg wt ne (mdF ne v 5 2 dn)) H := hP
  have hD : va_D A (mdW b cB n hd fm rp rq (mkF n hd fm rp rq ne v 126 true nw) bf db sg wt ne (mdF ne v 5 2 dn)) := hD
  have hl : lv_has ls 4 [(0, .ref (b 0)), (1, .int (nI v)), (3, .int (nI 7))] := hl
  have e9 : mdW b cB n hd fm rp rq (mkF n hd fm rp rq ne v 126 true nw) bf db sg wt ne (mdF ne v 5 2 dn) = mdW b cB n hd fm rp rq (mkF n hd fm rp rq ne v 126 true nw) bf db sg wt ne (mdF ne v 5 2 dn) := rfl
  rw [e9] at hP hD
  subst hAe
  exact W.vret hx hb hr (fun t ht hW => ⟨⟨(), rfl, trivial, by rw [ht]; exact hP, va_K.moved hW.alike hK, hD⟩, hS.F ht⟩) hS.2.2 dX3_make_95
set_option maxHeartbeats 4000000 in
set_option maxRecDepth 100000 in
theorem c_X3_makeAll (l : Launch) (dC : Nat → ClassId) (dI : Nat → Nat → Nat) (b : Nat → Nat) (cB : Nat → ClassId) (n : Nat) (hd fm rp rq : Nat → Nat) (nw bf db sg wt : Nat → Int32) (ne dn : Nat → Bool) (hy_0 : ruOk n hd fm rp rq) : WrV l yX3_makeAll wsX3_makeAll ({ frames := 5, cells := 0, slots := 0, locals := 121 }) (dC, dI) vwCl (mdW b cB n hd fm rp rq nw bf db sg wt ne dn) (mdW b cB n hd fm rp rq (maW n hd fm rp rq ne nw dn) bf db sg wt ne (maD n hd fm rp rq ne nw dn)) (mdT cB) nstW [.ref (b 0)] := by
  intro sz
  refine Met.ofW (cc := cX3_makeAll) (maxL := 3) (ret := none) (by decide) rfl ?_
  intro p e s m args below meth c s₁ B hml hv
  obtain ⟨rfl, hsz, ⟨hP, hK, hN⟩, hD0⟩ := hv
  subst hsz
  have hx := B.exec
  have hb := B.bytes
  have hr := B.returns
  have hts := atoms_spec (ws := wsX3_makeAll) B.pre
  have hown : s.vm.findClass RX3 = some m.cls := findClass_of_methodNamed B.named
  have hlocks := B.notSynchronized
  obtain ⟨A, hAe⟩ : ∃ A, A = va_A (mdW b cB n hd fm rp rq nw bf db sg wt ne dn) s.heap.size := ⟨_, rfl⟩
  have hD : va_D A (mdW b cB n hd fm rp rq nw bf db sg wt ne dn) := by rw [hAe]; exact hD0.self (sz := s.heap.size)
  have hA : ∀ q : Nat, s.heap.size ≤ q → A q := fun q h => by rw [hAe]; exact Or.inr h
  have hS : va_S A s.heap s.heap [] := va_S.rf
  have hP : va_P (dC, dI) vwCl (mdW b cB n hd fm rp rq nw bf db sg wt ne dn) s.heap := hP
  have lf_22 := hts (.fieldLink RX3 22 "ViewKeeperModel" "now" "[I") (by decide +kernel)
  have in_X3 : ∀ w ∈ u_ws RX3 TX3 12, w ∈ wsX3_makeAll := by decide +kernel
  have lf_41 := hts (.fieldLink RX3 41 "ViewKeeperModel" "done" "[Z") (by decide +kernel)
  have hl := lv_entry ([.ref (b 0)]) (n := 3) (Nat.le_of_ble_eq_true rfl)
  rw [lg_entry_eq]
  generalize (lg_sl ([.ref (b 0)]) ++ List.replicate (3 - (lg_sl ([.ref (b 0)])).length) Slot.unset).toArray = ls at hl ⊢
  have hl : lv_has ls 3 [(0, .ref (b 0))] := hl
  refine lv_iconst (v := nI 2) hx hb dX3_makeAll_0 (by decide) ?_
  refine lv_istore_n (lv' := [(1, .int (nI 2)), (0, .ref (b 0))]) hx hb dX3_makeAll_1 rfl hl (by decide) rfl (fun ls hl => ?_)
  have L_2_0 : ∀ (nn : Nat) (v : Nat) (nw1 : Nat → Int32) (dn1 : Nat → Bool), v + nn = 7 → ∀ (H : Heap) (locs : List Loc), va_P (dC, dI) vwCl (mdW b cB n hd fm rp rq nw1 bf db sg wt ne dn1) H → va_D A (mdW b cB n hd fm rp rq nw1 bf db sg wt ne dn1) → va_S A s.heap H locs → ∀ ls : Array Slot, lv_has ls 3 [(0, .ref (b 0)), (1, .int (nI v))] → (∀ (H : Heap) (locs : List Loc), va_P (dC, dI) vwCl (mdW b cB n hd fm rp rq (zeF nn v nw1) bf db sg wt ne (zfF nn v dn1)) H → va_D A (mdW b cB n hd fm rp rq (zeF nn v nw1) bf db sg wt ne (zfF nn v dn1)) → va_S A s.heap H locs → ∀ ls : Array Slot, lv_has ls 3 [(0, .ref (b 0)), (1, .int (nI 7))] → W p l e (headSpec wsX3_makeAll ({ frames := 5, cells := 0, slots := 0, locals := 121 })).room s m ([.ref (b 0)] : List Value).toArray below meth c H locs 0 0 (MQ below (va_Qv (fun _ : Unit => True) (wrB (dC, dI) vwCl (mdW b cB n hd fm rp rq nw bf db sg wt ne dn) (mdW b cB n hd fm rp rq (maW n hd fm rp rq ne nw dn) bf db sg wt ne (maD n hd fm rp rq ne nw dn)) (mdT cB) s.heap.size) (va_A (mdW b cB n hd fm rp rq nw bf db sg wt ne dn) s.heap.size)) ([.ref (b 0)] : List Value).toArray s 0 0 (va_A (mdW b cB n hd fm rp rq nw bf db sg wt ne dn) s.heap.size)) (F0 m 28 ls [])) → W p l e (headSpec wsX3_makeAll ({ frames := 5, cells := 0, slots := 0, locals := 121 })).room s m ([.ref (b 0)] : List Value).toArray below meth c H locs 0 0 (MQ below (va_Qv (fun _ : Unit => True) (wrB (dC, dI) vwCl (mdW b cB n hd fm rp rq nw bf db sg wt ne dn) (mdW b cB n hd fm rp rq (maW n hd fm rp rq ne nw dn) bf db sg wt ne (maD n hd fm rp rq ne nw dn)) (mdT cB) s.heap.size) (va_A (mdW b cB n hd fm rp rq nw bf db sg wt ne dn) s.heap.size)) ([.ref (b 0)] : List Value).toArray s 0 0 (va_A (mdW b cB n hd fm rp rq nw bf db sg wt ne dn) s.heap.size)) (F0 m 2 ls []) := by
    intro nn
    induction nn with
    | zero =>
      intro v nw1 dn1 hn_v H locs hP hD hS ls hl kx
      obtain rfl : v = 7 := by omega
      refine lv_iload_n hx hb dX3_makeAll_2 rfl (lv_at hl 1 rfl) ?_
      refine lv_bipush (v := nI 7) hx hb dX3_makeAll_3 (by decide) ?_
      refine hx_geN (tgt := 28) hx hb dX3_makeAll_5 (by decide) (by omega) (by omega) (fun c_2 => ?_) (fun c_2 => ?_)
      · exact kx _ _ hP hD hS ls (lv_sub hl [0, 1] rfl)
      · exact absurd c_2 (by omega)
    | succ nn ih =>
      intro v nw1 dn1 hn_v H locs hP hD hS ls hl kx
      refine lv_iload_n hx hb dX3_makeAll_2 rfl (lv_at hl 1 rfl) ?_
      refine lv_bipush (v := nI 7) hx hb dX3_makeAll_3 (by decide) ?_
      refine hx_geN (tgt := 28) hx hb dX3_makeAll_5 (by decide) (by omega) (by omega) (fun c_3 => ?_) (fun c_3 => ?_)
      · exact absurd c_3 (by omega)
      · refine lv_aload_n hx hb dX3_makeAll_8 rfl (lv_at hl 0 rfl) ?_
        refine va_get (D := (dC, dI)) (ci := 3) (v := .ref (b 5)) (C := RX3) (T := TX3) (N := 12) hx hb hts in_X3 hown hK hP 0 rfl rfl 5 (by decide) lf_22 (fun _ h9 => h9) rfl dX3_makeAll_9 ?_
        refine lv_iload_n hx hb dX3_makeAll_12 rfl (lv_at hl 1 rfl) ?_
        refine lv_iconst (v := nI 0) hx hb dX3_makeAll_13 (by decide) ?_
        refine hx_iast hx hb hK hP hD hS 5 4 rfl rfl (by omega) (by omega) dX3_makeAll_14 (fun H locs hP hD hS => ?_)
        have hP : va_P (dC, dI) vwCl (mdW b cB n hd fm rp rq (upd nw1 v (nI 0)) bf db sg wt ne dn1) H := hP
        have hD : va_D A (mdW b cB n hd fm rp rq (upd nw1 v (nI 0)) bf db sg wt ne dn1) := hD
        refine lv_aload_n hx hb dX3_makeAll_15 rfl (lv_at hl 0 rfl) ?_
        refine va_get (D := (dC, dI)) (ci := 3) (v := .ref (b 11)) (C := RX3) (T := TX3) (N := 12) hx hb hts in_X3 hown hK hP 0 rfl rfl 11 (by decide) lf_41 (fun _ h9 => h9) rfl dX3_makeAll_16 ?_
        refine lv_iload_n hx hb dX3_makeAll_19 rfl (lv_at hl 1 rfl) ?_
        refine lv_iconst (v := nI 0) hx hb dX3_makeAll_20 (by decide) ?_
        refine hx_zast (v := false) hx hb hK hP hD hS 11 10 rfl rfl (by omega) (by omega) dX3_makeAll_21 (fun H locs hP hD hS => ?_)
        have hP : va_P (dC, dI) vwCl (mdW b cB n hd fm rp rq (upd nw1 v (nI 0)) bf db sg wt ne (va_up dn1 v false)) H := hP
        have hD : va_D A (mdW b cB n hd fm rp rq (upd nw1 v (nI 0)) bf db sg wt ne (va_up dn1 v false)) := hD
        refine lv_iinc (v := nI (v + 1)) (lv' := [(1, .int (nI (v + 1))), (0, .ref (b 0))]) hx hb dX3_makeAll_22 hl (k := 1) rfl (nI_add v 1) (by decide) rfl (fun ls hl => ?_)
        refine lv_goto (tgt := 2) hx hb dX3_makeAll_25 (by decide) ?_
        have kx := kx
        rw [show zeF (nn + 1) v nw1 = zeF nn (v + 1) (upd nw1 v (nI 0)) from rfl] at kx
        rw [show zfF (nn + 1) v dn1 = zfF nn (v + 1) (va_up dn1 v false) from rfl] at kx
        exact ih (v + 1) (upd nw1 v (nI 0)) (va_up dn1 v false) (by omega) _ _ hP hD hS ls (lv_sub hl [1, 0] rfl) kx
  refine L_2_0 5 2 nw dn (by omega) _ _ hP hD hS ls (lv_sub hl [1, 0] rfl) (fun H locs hP hD hS ls hl => ?_)
  have hP : va_P (dC, dI) vwCl (mdW b cB n hd fm rp rq (zeF 5 2 nw) bf db sg wt ne (zfF 5 2 dn)) H := hP
  have hD : va_D A (mdW b cB n hd fm rp rq (zeF 5 2 nw) bf db sg wt ne (zfF 5 2 dn)) := hD
  have hl : lv_has ls 3 [(0, .ref (b 0)), (1, .int (nI 7))] := hl
  refine lv_iconst (v := nI 0) hx hb dX3_makeAll_28 (by decide) ?_
  refine lv_istore_n (lv' := [(1, .int (nI 0)), (0, .ref (b 0))]) hx hb dX3_makeAll_29 rfl hl (by decide) rfl (fun ls hl => ?_)
  have L_30_3 : ∀ (nn : Nat) (tn : Nat) (nw2 : Nat → Int32) (dn2 : Nat → Bool), tn + nn = 5 → ∀ (H : Heap) (locs : List Loc), va_P (dC, dI) vwCl (mdW b cB n hd fm rp rq nw2 bf db sg wt ne dn2) H → va_D A (mdW b cB n hd fm rp rq nw2 bf db sg wt ne dn2) → va_S A s.heap H locs → ∀ ls : Array Slot, lv_has ls 3 [(0, .ref (b 0)), (1, .int (nI tn))] → (∀ (H : Heap) (locs : List Loc), va_P (dC, dI) vwCl (mdW b cB n hd fm rp rq ((maO n hd fm rp rq ne nn nw2 dn2).1) bf db sg wt ne ((maO n hd fm rp rq ne nn nw2 dn2).2)) H → va_D A (mdW b cB n hd fm rp rq ((maO n hd fm rp rq ne nn nw2 dn2).1) bf db sg wt ne ((maO n hd fm rp rq ne nn nw2 dn2).2)) → va_S A s.heap H locs → ∀ ls : Array Slot, lv_has ls 3 [(0, .ref (b 0)), (1, .int (nI 5))] → W p l e (headSpec wsX3_makeAll ({ frames := 5, cells := 0, slots := 0, locals := 121 })).room s m ([.ref (b 0)] : List Value).toArray below meth c H locs 0 0 (MQ below (va_Qv (fun _ : Unit => True) (wrB (dC, dI) vwCl (mdW b cB n hd fm rp rq nw bf db sg wt ne dn) (mdW b cB n hd fm rp rq (maW n hd fm rp rq ne nw dn) bf db sg wt ne (maD n hd fm rp rq ne nw dn)) (mdT cB) s.heap.size) (va_A (mdW b cB n hd fm rp rq nw bf db sg wt ne dn) s.heap.size)) ([.ref (b 0)] : List Value).toArray s 0 0 (va_A (mdW b cB n hd fm rp rq nw bf db sg wt ne dn) s.heap.size)) (F0 m 68 ls [])) → W p l e (headSpec wsX3_makeAll ({ frames := 5, cells := 0, slots := 0, locals := 121 })).room s m ([.ref (b 0)] : List Value).toArray below meth c H locs 0 0 (MQ below (va_Qv (fun _ : Unit => True) (wrB (dC, dI) vwCl (mdW b cB n hd fm rp rq nw bf db sg wt ne dn) (mdW b cB n hd fm rp rq (maW n hd fm rp rq ne nw dn) bf db sg wt ne (maD n hd fm rp rq ne nw dn)) (mdT cB) s.heap.size) (va_A (mdW b cB n hd fm rp rq nw bf db sg wt ne dn) s.heap.size)) ([.ref (b 0)] : List Value).toArray s 0 0 (va_A (mdW b cB n hd fm rp rq nw bf db sg wt ne dn) s.heap.size)) (F0 m 30 ls []) := by
    intro nn
    induction nn with
    | zero =>
      intro tn nw2 dn2 hn_tn H locs hP hD hS ls hl kx
      obtain rfl : tn = 5 := by omega
      refine lv_iload_n hx hb dX3_makeAll_30 rfl (lv_at hl 1 rfl) ?_
      refine lv_iconst (v := nI 5) hx hb dX3_makeAll_31 (by decide) ?_
      refine hx_geN (tgt := 68) hx hb dX3_makeAll_32 (by decide) (by omega) (by omega) (fun c_5 => ?_) (fun c_5 => ?_)
      · exact kx _ _ hP hD hS ls (lv_sub hl [0, 1] rfl)
      · exact absurd c_5 (by omega)
    | succ nn ih =>
      intro tn nw2 dn2 hn_tn H locs hP hD hS ls hl kx
      refine lv_iload_n hx hb dX3_makeAll_30 rfl (lv_at hl 1 rfl) ?_
      refine lv_iconst (v := nI 5) hx hb dX3_makeAll_31 (by decide) ?_
      refine hx_geN (tgt := 68) hx hb dX3_makeAll_32 (by decide) (by omega) (by omega) (fun c_6 => ?_) (fun c_6 => ?_)
      · exact absurd c_6 (by omega)
      · refine lv_iconst (v := nI 2) hx hb dX3_makeAll_35 (by decide) ?_
        refine lv_istore_n (lv' := [(2, .int (nI 2)), (0, .ref (b 0)), (1, .int (nI tn))]) hx hb dX3_makeAll_36 rfl hl (by decide) rfl (fun ls hl => ?_)
        have L_37_6 : ∀ (nn : Nat) (v : Nat) (nw3 : Nat → Int32) (dn3 : Nat → Bool), v + nn = 7 → ∀ (H : Heap) (locs : List Loc), va_P (dC, dI) vwCl (mdW b cB n hd fm rp rq nw3 bf db sg wt ne dn3) H → va_D A (mdW b cB n hd fm rp rq nw3 bf db sg wt ne dn3) → va_S A s.heap H locs → ∀ ls : Array Slot, lv_has ls 3 [(0, .ref (b 0)), (1, .int (nI tn)), (2, .int (nI v))] → (∀ (H : Heap) (locs : List Loc), va_P (dC, dI) vwCl (mdW b cB n hd fm rp rq ((maV n hd fm rp rq ne nn v nw3 dn3).1) bf db sg wt ne ((maV n hd fm rp rq ne nn v nw3 dn3).2)) H → va_D A (mdW b cB n hd fm rp rq ((maV n hd fm rp rq ne nn v nw3 dn3).1) bf db sg wt ne ((maV n hd fm rp rq ne nn v nw3 dn3).2)) → va_S A s.heap H locs → ∀ ls : Array Slot, lv_has ls 3 [(0, .ref (b 0)), (1, .int (nI tn)), (2, .int (nI 7))] → W p l e (headSpec wsX3_makeAll ({ frames := 5, cells := 0, slots := 0, locals := 121 })).room s m ([.ref (b 0)] : List Value).toArray below meth c H locs 0 0 (MQ below (va_Qv (fun _ : Unit => True) (wrB (dC, dI) vwCl (mdW b cB n hd fm rp rq nw bf db sg wt ne dn) (mdW b cB n hd fm rp rq (maW n hd fm rp rq ne nw dn) bf db sg wt ne (maD n hd fm rp rq ne nw dn)) (mdT cB) s.heap.size) (va_A (mdW b cB n hd fm rp rq nw bf db sg wt ne dn) s.heap.size)) ([.ref (b 0)] : List Value).toArray s 0 0 (va_A (mdW b cB n hd fm rp rq nw bf db sg wt ne dn) s.heap.size)) (F0 m 62 ls [])) → W p l e (headSpec wsX3_makeAll ({ frames := 5, cells := 0, slots := 0, locals := 121 })).room s m ([.ref (b 0)] : List Value).toArray below meth c H locs 0 0 (MQ below (va_Qv (fun _ : Unit => True) (wrB (dC, dI) vwCl (mdW b cB n hd fm rp rq nw bf db sg wt ne dn) (mdW b cB n hd fm rp rq (maW n hd fm rp rq ne nw dn) bf db sg wt ne (maD n hd fm rp rq ne nw dn)) (mdT cB) s.heap.size) (va_A (mdW b cB n hd fm rp rq nw bf db sg wt ne dn) s.heap.size)) ([.ref (b 0)] : List Value).toArray s 0 0 (va_A (mdW b cB n hd fm rp rq nw bf db sg wt ne dn) s.heap.size)) (F0 m 37 ls []) := by
          intro nn
          induction nn with
          | zero =>
            intro v nw3 dn3 hn_v H locs hP hD hS ls hl kx
            obtain rfl : v = 7 := by omega
            refine lv_iload_n hx hb dX3_makeAll_37 rfl (lv_at hl 2 rfl) ?_
            refine lv_bipush (v := nI 7) hx hb dX3_makeAll_38 (by decide) ?_
            refine hx_geN (tgt := 62) hx hb dX3_makeAll_40 (by decide) (by omega) (by omega) (fun c_8 => ?_) (fun c_8 => ?_)
            · exact kx _ _ hP hD hS ls (lv_sub hl [0, 1, 2] rfl)
            · exact absurd c_8 (by omega)
          | succ nn ih =>
            intro v nw3 dn3 hn_v H locs hP hD hS ls hl kx
            refine lv_iload_n hx hb dX3_makeAll_37 rfl (lv_at hl 2 rfl) ?_
            refine lv_bipush (v := nI 7) hx hb dX3_makeAll_38 (by decide) ?_
            refine hx_geN (tgt := 62) hx hb dX3_makeAll_40 (by decide) (by omega) (by omega) (fun c_9 => ?_) (fun c_9 => ?_)
            · exact absurd c_9 (by omega)
            · refine lv_aload_n hx hb dX3_makeAll_43 rfl (lv_at hl 0 rfl) ?_
              refine lv_iload_n hx hb dX3_makeAll_44 rfl (lv_at hl 2 rfl) ?_
              refine hx_read (va_runV (As := [.int (nI v)]) (rest := []) ⟨hx, hb, hml, hown, hts⟩ (c_X3_due l dC dI b cB n hd fm rp rq nw3 bf db sg wt ne dn3 v (by omega)) (cwV 1 hts gX3_makeAll_X3_due rfl rfl rfl (by decide +kernel) ⟨Nat.le_of_ble_eq_true rfl, Nat.le_of_ble_eq_true rfl⟩) (rd_V nstW_ok hP hK hN 0 rfl rfl _) rfl rfl hl.1 rfl (lv_room (Nat.le_of_ble_eq_true rfl)) dX3_makeAll_45 ⟨Nat.zero_le _, Nat.zero_le _⟩) ?_
              refine hx_ifB (tgt := 56) hx hb dX3_makeAll_48 (by decide) (fun c_10 => ?_) (fun c_10 => ?_)
              · refine lv_iinc (v := nI (v + 1)) (lv' := [(2, .int (nI (v + 1))), (0, .ref (b 0)), (1, .int (nI tn))]) hx hb dX3_makeAll_56 hl (k := 2) rfl (nI_add v 1) (by decide) rfl (fun ls hl => ?_)
                refine lv_goto (tgt := 37) hx hb dX3_makeAll_59 (by decide) ?_
                have kx := kx
                rw [show (maV n hd fm rp rq ne (nn + 1) v nw3 dn3).1 = (maV n hd fm rp rq ne nn (v + 1) nw3 dn3).1 from by simp only [maV, c_6, c_9, c_10, ↓reduceIte, decide_true, decide_false, Bool.not_true, Bool.not_false, Bool.or_true, Bool.true_or, Bool.or_false, Bool.false_or, Bool.and_true, Bool.true_and, Bool.and_false, Bool.false_and, and_true, true_and, and_false, false_and, and_self, or_self, or_true, true_or, or_false, false_or, Bool.false_eq_true, Bool.true_eq_false, not_true_eq_false, not_false_eq_true, Bool.or_self, decide_eq_true_eq]] at kx
                rw [show (maV n hd fm rp rq ne (nn + 1) v nw3 dn3).2 = (maV n hd fm rp rq ne nn (v + 1) nw3 dn3).2 from by simp only [maV, c_6, c_9, c_10, ↓reduceIte, decide_true, decide_false, Bool.not_true, Bool.not_false, Bool.or_true, Bool.true_or, Bool.or_false, Bool.false_or, Bool.and_true, Bool.true_and, Bool.and_false, Bool.false_and, and_true, true_and, and_false, false_and, and_self, or_self, or_true, true_or, or_false, false_or, Bool.false_eq_true, Bool.true_eq_false, not_true_eq_false, not_false_eq_true, Bool.or_self, decide_eq_true_eq]] at kx
                exact ih (v + 1) nw3 dn3 (by omega) _ _ hP hD hS ls (lv_sub hl [1, 2, 0] rfl) kx
              · refine lv_aload_n hx hb dX3_makeAll_51 rfl (lv_at hl 0 rfl) ?_
                refine lv_iload_n hx hb dX3_makeAll_52 rfl (lv_at hl 2 rfl) ?_
                refine hx_wrv (va_runV (As := [.int (nI v)]) (rest := []) ⟨hx, hb, hml, hown, hts⟩ (c_X3_make l dC dI b cB n hd fm rp rq nw3 bf db sg wt ne dn3 v (hy_0) (by omega) H.size) (cwV 1 hts gX3_makeAll_X3_make rfl rfl rfl (by decide +kernel) ⟨Nat.le_of_ble_eq_true rfl, Nat.le_of_ble_eq_true rfl⟩) (wr_V nstW_ok hP hK hN hD 0 rfl rfl _) rfl rfl hl.1 rfl (lv_room (Nat.le_of_ble_eq_true rfl)) dX3_makeAll_53 ⟨Nat.zero_le _, Nat.zero_le _⟩) hD hS hA (fun H locs hP hD hS => ?_)
                have hP : va_P (dC, dI) vwCl (mdW b cB n hd fm rp rq (mkF n hd fm rp rq ne v 126 true nw3) bf db sg wt ne (mdF ne v 5 2 dn3)) H := hP
                have hD : va_D A (mdW b cB n hd fm rp rq (mkF n hd fm rp rq ne v 126 true nw3) bf db sg wt ne (mdF ne v 5 2 dn3)) := hD
                refine lv_iinc (v := nI (v + 1)) (lv' := [(2, .int (nI (v + 1))), (0, .ref (b 0)), (1, .int (nI tn))]) hx hb dX3_makeAll_56 hl (k := 2) rfl (nI_add v 1) (by decide) rfl (fun ls hl => ?_)
                refine lv_goto (tgt := 37) hx hb dX3_makeAll_59 (by decide) ?_
                have kx := kx
                rw [show (maV n hd fm rp rq ne (nn + 1) v nw3 dn3).1 = (maV n hd fm rp rq ne nn (v + 1) (mkF n hd fm rp rq ne v 126 true nw3) (mdF ne v 5 2 dn3)).1 from by simp only [maV, c_6, c_9, c_10, ↓reduceIte, decide_true, decide_false, Bool.not_true, Bool.not_false, Bool.or_true, Bool.true_or, Bool.or_false, Bool.false_or, Bool.and_true, Bool.true_and, Bool.and_false, Bool.false_and, and_true, true_and, and_false, false_and, and_self, or_self, or_true, true_or, or_false, false_or, Bool.false_eq_true, Bool.true_eq_false, not_true_eq_false, not_false_eq_true, Bool.or_self, decide_eq_true_eq]] at kx
                rw [show (maV n hd fm rp rq ne (nn + 1) v nw3 dn3).2 = (maV n hd fm rp rq ne nn (v + 1) (mkF n hd fm rp rq ne v 126 true nw3) (mdF ne v 5 2 dn3)).2 from by simp only [maV, c_6, c_9, c_10, ↓reduceIte, decide_true, decide_false, Bool.not_true, Bool.not_false, Bool.or_true, Bool.true_or, Bool.or_false, Bool.false_or, Bool.and_true, Bool.true_and, Bool.and_false, Bool.false_and, and_true, true_and, and_false, false_and, and_self, or_self, or_true, true_or, or_false, false_or, Bool.false_eq_true, Bool.true_eq_false, not_true_eq_false, not_false_eq_true, Bool.or_self, decide_eq_true_eq]] at kx
                exact ih (v + 1) (mkF n hd fm rp rq ne v 126 true nw3) (mdF ne v 5 2 dn3) (by omega) _ _ hP hD hS ls (lv_sub hl [1, 2, 0] rfl) kx
        refine L_37_6 5 2 nw2 dn2 (by omega) _ _ hP hD hS ls (lv_sub hl [1, 2, 0] rfl) (fun H locs hP hD hS ls hl => ?_)
        have hP : va_P (dC, dI) vwCl (mdW b cB n hd fm rp rq ((maV n hd fm rp rq ne 5 2 nw2 dn2).1) bf db sg wt ne ((maV n hd fm rp rq ne 5 2 nw2 dn2).2)) H := hP
        have hD : va_D A (mdW b cB n hd fm rp rq ((maV n hd fm rp rq ne 5 2 nw2 dn2).1) bf db sg wt ne ((maV n hd fm rp rq ne 5 2 nw2 dn2).2)) := hD
        have hl : lv_has ls 3 [(0, .ref (b 0)), (1, .int (nI tn)), (2, .int (nI 7))] := hl
        refine lv_iinc (v := nI (tn + 1)) (lv' := [(1, .int (nI (tn + 1))), (0, .ref (b 0)), (2, .int (nI 7))]) hx hb dX3_makeAll_62 hl (k := 1) rfl (nI_add tn 1) (by decide) rfl (fun ls hl => ?_)
        refine lv_goto (tgt := 30) hx hb dX3_makeAll_65 (by decide) ?_
        have kx := kx
        rw [show (maO n hd fm rp rq ne (nn + 1) nw2 dn2).1 = (maO n hd fm rp rq ne nn ((maV n hd fm rp rq ne 5 2 nw2 dn2).1) ((maV n hd fm rp rq ne 5 2 nw2 dn2).2)).1 from rfl] at kx
        rw [show (maO n hd fm rp rq ne (nn + 1) nw2 dn2).2 = (maO n hd fm rp rq ne nn ((maV n hd fm rp rq ne 5 2 nw2 dn2).1) ((maV n hd fm rp rq ne 5 2 nw2 dn2).2)).2 from rfl] at kx
        exact ih (tn + 1) ((maV n hd fm rp rq ne 5 2 nw2 dn2).1) ((maV n hd fm rp rq ne 5 2 nw2 dn2).2) (by omega) _ _ hP hD hS ls (lv_sub hl [1, 0] rfl) kx
  refine L_30_3 5 0 (zeF 5 2 nw) (zfF 5 2 dn) (by omega) _ _ hP hD hS ls (lv_sub hl [1, 0] rfl) (fun H locs hP hD hS ls hl => ?_)
  have hP : va_P (dC, dI) vwCl (mdW b cB n hd fm rp rq ((maO n hd fm rp rq ne 5 (zeF 5 2 nw) (zfF 5 2 dn)).1) bf db sg wt ne ((maO n hd fm rp rq ne 5 (zeF 5 2 nw) (zfF 5 2 dn)).2)) H := hP
  have hD : va_D A (mdW b cB n hd fm rp rq ((maO n hd fm rp rq ne 5 (zeF 5 2 nw) (zfF 5 2 dn)).1) bf db sg wt ne ((maO n hd fm rp rq ne 5 (zeF 5 2 nw) (zfF 5 2 dn)).2)) := hD
  have hl : lv_has ls 3 [(0, .ref (b 0)), (1, .int (nI 5))] := hl
  have e9 : mdW b cB n hd fm rp rq ((maO n hd fm rp rq ne 5 (zeF 5 2 nw) (zfF 5 2 dn)).1) bf db sg wt ne ((maO n hd fm rp rq ne 5 (zeF 5 2 nw) (zfF 5 2 dn)).2) = mdW b cB n hd fm rp rq (maW n hd fm rp rq ne nw dn) bf db sg wt ne (maD n hd fm rp rq ne nw dn) := rfl
  rw [e9] at hP hD
  subst hAe
  exact W.vret hx hb hr (fun t ht hW => ⟨⟨(), rfl, trivial, by rw [ht]; exact hP, va_K.moved hW.alike hK, hD⟩, hS.F ht⟩) hS.2.2 dX3_makeAll_68
set_option maxHeartbeats 4000000 in
set_option maxRecDepth 100000 in
theorem c_X3_anew (l : Launch) (dC : Nat → ClassId) (dI : Nat → Nat → Nat) (b : Nat → Nat) (cB : Nat → ClassId) (n : Nat) (hd fm rp rq : Nat → Nat) (nw bf db sg wt : Nat → Int32) (ne dn : Nat → Bool) (hy_0 : ruOk n hd fm rp rq) : WrV l yX3_anew wsX3_anew ({ frames := 6, cells := 0, slots := 0, locals := 143 }) (dC, dI) vwCl (mdW b cB n hd fm rp rq nw bf db sg wt ne dn) (mdW b cB n hd fm rp rq (maW n hd fm rp rq ne nw dn) (cpF (maW n hd fm rp rq ne nw dn) 7 0 bf) (zeF 7 0 db) sg wt ne (maD n hd fm rp rq ne nw dn)) (mdT cB) nstW [.ref (b 0)] := by
  intro sz
  refine Met.ofW (cc := cX3_anew) (maxL := 2) (ret := none) (by decide) rfl ?_
  intro p e s m args below meth c s₁ B hml hv
  obtain ⟨rfl, hsz, ⟨hP, hK, hN⟩, hD0⟩ := hv
  subst hsz
  have hx := B.exec
  have hb := B.bytes
  have hr := B.returns
  have hts := atoms_spec (ws := wsX3_anew) B.pre
  have hown : s.vm.findClass RX3 = some m.cls := findClass_of_methodNamed B.named
  have hlocks := B.notSynchronized
  obtain ⟨A, hAe⟩ : ∃ A, A = va_A (mdW b cB n hd fm rp rq nw bf db sg wt ne dn) s.heap.size := ⟨_, rfl⟩
  have hD : va_D A (mdW b cB n hd fm rp rq nw bf db sg wt ne dn) := by rw [hAe]; exact hD0.self (sz := s.heap.size)
  have hA : ∀ q : Nat, s.heap.size ≤ q → A q := fun q h => by rw [hAe]; exact Or.inr h
  have hS : va_S A s.heap s.heap [] := va_S.rf
  have hP : va_P (dC, dI) vwCl (mdW b cB n hd fm rp rq nw bf db sg wt ne dn) s.heap := hP
  have lf_25 := hts (.fieldLink RX3 25 "ViewKeeperModel" "before" "[I") (by decide +kernel)
  have in_X3 : ∀ w ∈ u_ws RX3 TX3 12, w ∈ wsX3_anew := by decide +kernel
  have lf_22 := hts (.fieldLink RX3 22 "ViewKeeperModel" "now" "[I") (by decide +kernel)
  have lf_28 := hts (.fieldLink RX3 28 "ViewKeeperModel" "doubt" "[I") (by decide +kernel)
  have hl := lv_entry ([.ref (b 0)]) (n := 2) (Nat.le_of_ble_eq_true rfl)
  rw [lg_entry_eq]
  generalize (lg_sl ([.ref (b 0)]) ++ List.replicate (2 - (lg_sl ([.ref (b 0)])).length) Slot.unset).toArray = ls at hl ⊢
  have hl : lv_has ls 2 [(0, .ref (b 0))] := hl
  refine lv_aload_n hx hb dX3_anew_0 rfl (lv_at hl 0 rfl) ?_
  refine hx_wrv (va_runV (As := []) (rest := []) ⟨hx, hb, hml, hown, hts⟩ (c_X3_makeAll l dC dI b cB n hd fm rp rq nw bf db sg wt ne dn (hy_0) s.heap.size) (cwV 0 hts gX3_anew_X3_makeAll rfl rfl rfl (by decide +kernel) ⟨Nat.le_of_ble_eq_true rfl, Nat.le_of_ble_eq_true rfl⟩) (wr_V nstW_ok hP hK hN hD 0 rfl rfl _) rfl rfl hl.1 rfl (lv_room (Nat.le_of_ble_eq_true rfl)) dX3_anew_1 ⟨Nat.zero_le _, Nat.zero_le _⟩) hD hS hA (fun H locs hP hD hS => ?_)
  have hP : va_P (dC, dI) vwCl (mdW b cB n hd fm rp rq (maW n hd fm rp rq ne nw dn) bf db sg wt ne (maD n hd fm rp rq ne nw dn)) H := hP
  have hD : va_D A (mdW b cB n hd fm rp rq (maW n hd fm rp rq ne nw dn) bf db sg wt ne (maD n hd fm rp rq ne nw dn)) := hD
  refine lv_iconst (v := nI 0) hx hb dX3_anew_4 (by decide) ?_
  refine lv_istore_n (lv' := [(1, .int (nI 0)), (0, .ref (b 0))]) hx hb dX3_anew_5 rfl hl (by decide) rfl (fun ls hl => ?_)
  have L_6_0 : ∀ (nn : Nat) (r : Nat) (bf1 : Nat → Int32) (db1 : Nat → Int32), r + nn = 7 → ∀ (H : Heap) (locs : List Loc), va_P (dC, dI) vwCl (mdW b cB n hd fm rp rq (maW n hd fm rp rq ne nw dn) bf1 db1 sg wt ne (maD n hd fm rp rq ne nw dn)) H → va_D A (mdW b cB n hd fm rp rq (maW n hd fm rp rq ne nw dn) bf1 db1 sg wt ne (maD n hd fm rp rq ne nw dn)) → va_S A s.heap H locs → ∀ ls : Array Slot, lv_has ls 2 [(0, .ref (b 0)), (1, .int (nI r))] → (∀ (H : Heap) (locs : List Loc), va_P (dC, dI) vwCl (mdW b cB n hd fm rp rq (maW n hd fm rp rq ne nw dn) (cpF (maW n hd fm rp rq ne nw dn) nn r bf1) (zeF nn r db1) sg wt ne (maD n hd fm rp rq ne nw dn)) H → va_D A (mdW b cB n hd fm rp rq (maW n hd fm rp rq ne nw dn) (cpF (maW n hd fm rp rq ne nw dn) nn r bf1) (zeF nn r db1) sg wt ne (maD n hd fm rp rq ne nw dn)) → va_S A s.heap H locs → ∀ ls : Array Slot, lv_has ls 2 [(0, .ref (b 0)), (1, .int (nI 7))] → W p l e (headSpec wsX3_anew ({ frames := 6, cells := 0, slots := 0, locals := 143 })).room s m ([.ref (b 0)] : List Value).toArray below meth c H locs 0 0 (MQ below (va_Qv (fun _ : Unit => True) (wrB (dC, dI) vwCl (mdW b cB n hd fm rp rq nw bf db sg wt ne dn) (mdW b cB n hd fm rp rq (maW n hd fm rp rq ne nw dn) (cpF (maW n hd fm rp rq ne nw dn) 7 0 bf) (zeF 7 0 db) sg wt ne (maD n hd fm rp rq ne nw dn)) (mdT cB) s.heap.size) (va_A (mdW b cB n hd fm rp rq nw bf db sg wt ne dn) s.heap.size)) ([.ref (b 0)] : List Value).toArray s 0 0 (va_A (mdW b cB n hd fm rp rq nw bf db sg wt ne dn) s.heap.size)) (F0 m 37 ls [])) → W p l e (headSpec wsX3_anew ({ frames := 6, cells := 0, slots := 0, locals := 143 })).room s m ([.ref (b 0)] : List Value).toArray below meth c H locs 0 0 (MQ below (va_Qv (fun _ : Unit => True) (wrB (dC, dI) vwCl (mdW b cB n hd fm rp rq nw bf db sg wt ne dn) (mdW b cB n hd fm rp rq (maW n hd fm rp rq ne nw dn) (cpF (maW n hd fm rp rq ne nw dn) 7 0 bf) (zeF 7 0 db) sg wt ne (maD n hd fm rp rq ne nw dn)) (mdT cB) s.heap.size) (va_A (mdW b cB n hd fm rp rq nw bf db sg wt ne dn) s.heap.size)) ([.ref (b 0)] : List Value).toArray s 0 0 (va_A (mdW b cB n hd fm rp rq nw bf db sg wt ne dn) s.heap.size)) (F0 m 6 ls []) := by
    intro nn
    induction nn with
    | zero =>
      intro r bf1 db1 hn_r H locs hP hD hS ls hl kx
      obtain rfl : r = 7 := by omega
      refine lv_iload_n hx hb dX3_anew_6 rfl (lv_at hl 1 rfl) ?_
      refine lv_bipush (v := nI 7) hx hb dX3_anew_7 (by decide) ?_
      refine hx_geN (tgt := 37) hx hb dX3_anew_9 (by decide) (by omega) (by omega) (fun c_2 => ?_) (fun c_2 => ?_)
      · exact kx _ _ hP hD hS ls (lv_sub hl [0, 1] rfl)
      · exact absurd c_2 (by omega)
    | succ nn ih =>
      intro r bf1 db1 hn_r H locs hP hD hS ls hl kx
      refine lv_iload_n hx hb dX3_anew_6 rfl (lv_at hl 1 rfl) ?_
      refine lv_bipush (v := nI 7) hx hb dX3_anew_7 (by decide) ?_
      refine hx_geN (tgt := 37) hx hb dX3_anew_9 (by decide) (by omega) (by omega) (fun c_3 => ?_) (fun c_3 => ?_)
      · exact absurd c_3 (by omega)
      · refine lv_aload_n hx hb dX3_anew_12 rfl (lv_at hl 0 rfl) ?_
        refine va_get (D := (dC, dI)) (ci := 3) (v := .ref (b 6)) (C := RX3) (T := TX3) (N := 12) hx hb hts in_X3 hown hK hP 0 rfl rfl 6 (by decide) lf_25 (fun _ h9 => h9) rfl dX3_anew_13 ?_
        refine lv_iload_n hx hb dX3_anew_16 rfl (lv_at hl 1 rfl) ?_
        refine lv_aload_n hx hb dX3_anew_17 rfl (lv_at hl 0 rfl) ?_
        refine va_get (D := (dC, dI)) (ci := 3) (v := .ref (b 5)) (C := RX3) (T := TX3) (N := 12) hx hb hts in_X3 hown hK hP 0 rfl rfl 5 (by decide) lf_22 (fun _ h9 => h9) rfl dX3_anew_18 ?_
        refine lv_iload_n hx hb dX3_anew_21 rfl (lv_at hl 1 rfl) ?_
        refine hx_iald hx hb hK hP 5 4 rfl rfl (by omega) (by omega) dX3_anew_22 ?_
        refine hx_iast hx hb hK hP hD hS 6 5 rfl rfl (by omega) (by omega) dX3_anew_23 (fun H locs hP hD hS => ?_)
        have hP : va_P (dC, dI) vwCl (mdW b cB n hd fm rp rq (maW n hd fm rp rq ne nw dn) (upd bf1 r ((maW n hd fm rp rq ne nw dn) r)) db1 sg wt ne (maD n hd fm rp rq ne nw dn)) H := hP
        have hD : va_D A (mdW b cB n hd fm rp rq (maW n hd fm rp rq ne nw dn) (upd bf1 r ((maW n hd fm rp rq ne nw dn) r)) db1 sg wt ne (maD n hd fm rp rq ne nw dn)) := hD
        refine lv_aload_n hx hb dX3_anew_24 rfl (lv_at hl 0 rfl) ?_
        refine va_get (D := (dC, dI)) (ci := 3) (v := .ref (b 7)) (C := RX3) (T := TX3) (N := 12) hx hb hts in_X3 hown hK hP 0 rfl rfl 7 (by decide) lf_28 (fun _ h9 => h9) rfl dX3_anew_25 ?_
        refine lv_iload_n hx hb dX3_anew_28 rfl (lv_at hl 1 rfl) ?_
        refine lv_iconst (v := nI 0) hx hb dX3_anew_29 (by decide) ?_
        refine hx_iast hx hb hK hP hD hS 7 6 rfl rfl (by omega) (by omega) dX3_anew_30 (fun H locs hP hD hS => ?_)
        have hP : va_P (dC, dI) vwCl (mdW b cB n hd fm rp rq (maW n hd fm rp rq ne nw dn) (upd bf1 r ((maW n hd fm rp rq ne nw dn) r)) (upd db1 r (nI 0)) sg wt ne (maD n hd fm rp rq ne nw dn)) H := hP
        have hD : va_D A (mdW b cB n hd fm rp rq (maW n hd fm rp rq ne nw dn) (upd bf1 r ((maW n hd fm rp rq ne nw dn) r)) (upd db1 r (nI 0)) sg wt ne (maD n hd fm rp rq ne nw dn)) := hD
        refine lv_iinc (v := nI (r + 1)) (lv' := [(1, .int (nI (r + 1))), (0, .ref (b 0))]) hx hb dX3_anew_31 hl (k := 1) rfl (nI_add r 1) (by decide) rfl (fun ls hl => ?_)
        refine lv_goto (tgt := 6) hx hb dX3_anew_34 (by decide) ?_
        have kx := kx
        rw [show cpF (maW n hd fm rp rq ne nw dn) (nn + 1) r bf1 = cpF (maW n hd fm rp rq ne nw dn) nn (r + 1) (upd bf1 r ((maW n hd fm rp rq ne nw dn) r)) from rfl] at kx
        rw [show zeF (nn + 1) r db1 = zeF nn (r + 1) (upd db1 r (nI 0)) from rfl] at kx
        exact ih (r + 1) (upd bf1 r ((maW n hd fm rp rq ne nw dn) r)) (upd db1 r (nI 0)) (by omega) _ _ hP hD hS ls (lv_sub hl [1, 0] rfl) kx
  refine L_6_0 7 0 bf db (by omega) _ _ hP hD hS ls (lv_sub hl [1, 0] rfl) (fun H locs hP hD hS ls hl => ?_)
  have hP : va_P (dC, dI) vwCl (mdW b cB n hd fm rp rq (maW n hd fm rp rq ne nw dn) (cpF (maW n hd fm rp rq ne nw dn) 7 0 bf) (zeF 7 0 db) sg wt ne (maD n hd fm rp rq ne nw dn)) H := hP
  have hD : va_D A (mdW b cB n hd fm rp rq (maW n hd fm rp rq ne nw dn) (cpF (maW n hd fm rp rq ne nw dn) 7 0 bf) (zeF 7 0 db) sg wt ne (maD n hd fm rp rq ne nw dn)) := hD
  have hl : lv_has ls 2 [(0, .ref (b 0)), (1, .int (nI 7))] := hl
  have e9 : mdW b cB n hd fm rp rq (maW n hd fm rp rq ne nw dn) (cpF (maW n hd fm rp rq ne nw dn) 7 0 bf) (zeF 7 0 db) sg wt ne (maD n hd fm rp rq ne nw dn) = mdW b cB n hd fm rp rq (maW n hd fm rp rq ne nw dn) (cpF (maW n hd fm rp rq ne nw dn) 7 0 bf) (zeF 7 0 db) sg wt ne (maD n hd fm rp rq ne nw dn) := rfl
  rw [e9] at hP hD
  subst hAe
  exact W.vret hx hb hr (fun t ht hW => ⟨⟨(), rfl, trivial, by rw [ht]; exact hP, va_K.moved hW.alike hK, hD⟩, hS.F ht⟩) hS.2.2 dX3_anew_37
set_option maxHeartbeats 4000000 in
set_option maxRecDepth 100000 in
theorem c_X3_taken (l : Launch) (dC : Nat → ClassId) (dI : Nat → Nat → Nat) (b : Nat → Nat) (cB : Nat → ClassId) (n : Nat) (hd fm rp rq : Nat → Nat) (nw bf db sg wt : Nat → Int32) (ne dn : Nat → Bool) (r : Nat) (hy_0 : r < 7) : RdM l yX3_taken wsX3_taken ({ frames := 0, cells := 0, slots := 0, locals := 0 }) (dC, dI) vwCl (mdW b cB n hd fm rp rq nw bf db sg wt ne dn) (mdT cB) nstW [.ref (b 0), .int (nI r)] (takM nw bf r) := by
  refine Met.ofW (cc := cX3_taken) (maxL := 2) (ret := (some .int)) (by decide) rfl ?_
  intro p e s m args below meth c s₁ B hml hv
  obtain ⟨rfl, hP, hK, hN⟩ := hv
  have hx := B.exec
  have hb := B.bytes
  have hr := B.returns
  have hts := atoms_spec (ws := wsX3_taken) B.pre
  have hown : s.vm.findClass RX3 = some m.cls := findClass_of_methodNamed B.named
  have hlocks := B.notSynchronized
  have lf_25 := hts (.fieldLink RX3 25 "ViewKeeperModel" "before" "[I") (by decide +kernel)
  have in_X3 : ∀ w ∈ u_ws RX3 TX3 12, w ∈ wsX3_taken := by decide +kernel
  have lf_22 := hts (.fieldLink RX3 22 "ViewKeeperModel" "now" "[I") (by decide +kernel)
  have hl := lv_entry ([.ref (b 0), .int (nI r)]) (n := 2) (Nat.le_of_ble_eq_true rfl)
  rw [lg_entry_eq]
  generalize (lg_sl ([.ref (b 0), .int (nI r)]) ++ List.replicate (2 - (lg_sl ([.ref (b 0), .int (nI r)])).length) Slot.unset).toArray = ls at hl ⊢
  have hl : lv_has ls 2 [(0, .ref (b 0)), (1, .int (nI r))] := hl
  refine lv_aload_n hx hb dX3_taken_0 rfl (lv_at hl 0 rfl) ?_
  refine va_get (D := (dC, dI)) (ci := 3) (v := .ref (b 6)) (C := RX3) (T := TX3) (N := 12) hx hb hts in_X3 hown hK hP 0 rfl rfl 6 (by decide) lf_25 (fun _ h9 => h9) rfl dX3_taken_1 ?_
  refine lv_iload_n hx hb dX3_taken_4 rfl (lv_at hl 1 rfl) ?_
  refine hx_iald hx hb hK hP 6 5 rfl rfl (by omega) (by omega) dX3_taken_5 ?_
  refine lv_aload_n hx hb dX3_taken_6 rfl (lv_at hl 0 rfl) ?_
  refine va_get (D := (dC, dI)) (ci := 3) (v := .ref (b 5)) (C := RX3) (T := TX3) (N := 12) hx hb hts in_X3 hown hK hP 0 rfl rfl 5 (by decide) lf_22 (fun _ h9 => h9) rfl dX3_taken_7 ?_
  refine lv_iload_n hx hb dX3_taken_10 rfl (lv_at hl 1 rfl) ?_
  refine hx_iald hx hb hK hP 5 4 rfl rfl (by omega) (by omega) dX3_taken_11 ?_
  refine lv_iconst (v := (-1)) hx hb dX3_taken_12 (by decide) ?_
  refine lv_ixor hx hb dX3_taken_13 ?_
  refine lv_iand hx hb dX3_taken_14 ?_
  exact W.iret (v := (bf r) &&& ((nw r) ^^^ ((-1)))) hx hb hr (fun t ht hW => ⟨_, rfl, rfl, ht⟩) (fun _ h => by cases h) dX3_taken_15
set_option maxHeartbeats 4000000 in
set_option maxRecDepth 100000 in
theorem c_X3_added (l : Launch) (dC : Nat → ClassId) (dI : Nat → Nat → Nat) (b : Nat → Nat) (cB : Nat → ClassId) (n : Nat) (hd fm rp rq : Nat → Nat) (nw bf db sg wt : Nat → Int32) (ne dn : Nat → Bool) (r : Nat) (hy_0 : r < 7) : RdM l yX3_added wsX3_added ({ frames := 0, cells := 0, slots := 0, locals := 0 }) (dC, dI) vwCl (mdW b cB n hd fm rp rq nw bf db sg wt ne dn) (mdT cB) nstW [.ref (b 0), .int (nI r)] (putM nw bf r) := by
  refine Met.ofW (cc := cX3_added) (maxL := 2) (ret := (some .int)) (by decide) rfl ?_
  intro p e s m args below meth c s₁ B hml hv
  obtain ⟨rfl, hP, hK, hN⟩ := hv
  have hx := B.exec
  have hb := B.bytes
  have hr := B.returns
  have hts := atoms_spec (ws := wsX3_added) B.pre
  have hown : s.vm.findClass RX3 = some m.cls := findClass_of_methodNamed B.named
  have hlocks := B.notSynchronized
  have lf_22 := hts (.fieldLink RX3 22 "ViewKeeperModel" "now" "[I") (by decide +kernel)
  have in_X3 : ∀ w ∈ u_ws RX3 TX3 12, w ∈ wsX3_added := by decide +kernel
  have lf_25 := hts (.fieldLink RX3 25 "ViewKeeperModel" "before" "[I") (by decide +kernel)
  have hl := lv_entry ([.ref (b 0), .int (nI r)]) (n := 2) (Nat.le_of_ble_eq_true rfl)
  rw [lg_entry_eq]
  generalize (lg_sl ([.ref (b 0), .int (nI r)]) ++ List.replicate (2 - (lg_sl ([.ref (b 0), .int (nI r)])).length) Slot.unset).toArray = ls at hl ⊢
  have hl : lv_has ls 2 [(0, .ref (b 0)), (1, .int (nI r))] := hl
  refine lv_aload_n hx hb dX3_added_0 rfl (lv_at hl 0 rfl) ?_
  refine va_get (D := (dC, dI)) (ci := 3) (v := .ref (b 5)) (C := RX3) (T := TX3) (N := 12) hx hb hts in_X3 hown hK hP 0 rfl rfl 5 (by decide) lf_22 (fun _ h9 => h9) rfl dX3_added_1 ?_
  refine lv_iload_n hx hb dX3_added_4 rfl (lv_at hl 1 rfl) ?_
  refine hx_iald hx hb hK hP 5 4 rfl rfl (by omega) (by omega) dX3_added_5 ?_
  refine lv_aload_n hx hb dX3_added_6 rfl (lv_at hl 0 rfl) ?_
  refine va_get (D := (dC, dI)) (ci := 3) (v := .ref (b 6)) (C := RX3) (T := TX3) (N := 12) hx hb hts in_X3 hown hK hP 0 rfl rfl 6 (by decide) lf_25 (fun _ h9 => h9) rfl dX3_added_7 ?_
  refine lv_iload_n hx hb dX3_added_10 rfl (lv_at hl 1 rfl) ?_
  refine hx_iald hx hb hK hP 6 5 rfl rfl (by omega) (by omega) dX3_added_11 ?_
  refine lv_iconst (v := (-1)) hx hb dX3_added_12 (by decide) ?_
  refine lv_ixor hx hb dX3_added_13 ?_
  refine lv_iand hx hb dX3_added_14 ?_
  exact W.iret (v := (nw r) &&& ((bf r) ^^^ ((-1)))) hx hb hr (fun t ht hW => ⟨_, rfl, rfl, ht⟩) (fun _ h => by cases h) dX3_added_15
set_option maxHeartbeats 4000000 in
set_option maxRecDepth 100000 in
theorem c_X3_lost (l : Launch) (dC : Nat → ClassId) (dI : Nat → Nat → Nat) (b : Nat → Nat) (cB : Nat → ClassId) (n : Nat) (hd fm rp rq : Nat → Nat) (nw bf db sg wt : Nat → Int32) (ne dn : Nat → Bool) (v r x y : Nat) (hy_0 : v < 7) (hy_1 : r < 7) (hy_2 : x < 5) (hy_3 : y < 5) : RdM l yX3_lost wsX3_lost ({ frames := 1, cells := 0, slots := 0, locals := 22 }) (dC, dI) vwCl (mdW b cB n hd fm rp rq nw bf db sg wt ne dn) (mdT cB) nstW [.ref (b 0), .int (nI v), .int (nI r), .int (nI x), .int (nI y)] (bI (loM ne nw bf db v r (5 * x + y))) := by
  refine Met.ofW (cc := cX3_lost) (maxL := 6) (ret := (some .boolean)) (by decide) rfl ?_
  intro p e s m args below meth c s₁ B hml hv
  obtain ⟨rfl, hP, hK, hN⟩ := hv
  have hx := B.exec
  have hb := B.bytes
  have hr := B.returns
  have hts := atoms_spec (ws := wsX3_lost) B.pre
  have hown : s.vm.findClass RX3 = some m.cls := findClass_of_methodNamed B.named
  have hlocks := B.notSynchronized
  have lf_37 := hts (.fieldLink RX3 37 "ViewKeeperModel" "need" "[Z") (by decide +kernel)
  have in_X3 : ∀ w ∈ u_ws RX3 TX3 12, w ∈ wsX3_lost := by decide +kernel
  have lf_28 := hts (.fieldLink RX3 28 "ViewKeeperModel" "doubt" "[I") (by decide +kernel)
  have hl := lv_entry ([.ref (b 0), .int (nI v), .int (nI r), .int (nI x), .int (nI y)]) (n := 6) (Nat.le_of_ble_eq_true rfl)
  rw [lg_entry_eq]
  generalize (lg_sl ([.ref (b 0), .int (nI v), .int (nI r), .int (nI x), .int (nI y)]) ++ List.replicate (6 - (lg_sl ([.ref (b 0), .int (nI v), .int (nI r), .int (nI x), .int (nI y)])).length) Slot.unset).toArray = ls at hl ⊢
  have hl : lv_has ls 6 [(0, .ref (b 0)), (1, .int (nI v)), (2, .int (nI r)), (3, .int (nI x)), (4, .int (nI y))] := hl
  refine lv_iload_n hx hb dX3_lost_0 rfl (lv_at hl 2 rfl) ?_
  refine lv_iconst (v := nI 2) hx hb dX3_lost_1 (by decide) ?_
  refine hx_ltN (tgt := 23) hx hb dX3_lost_2 (by decide) (by omega) (by omega) (fun c_1 => ?_) (fun c_1 => ?_)
  · refine lv_iconst (v := nI 0) hx hb dX3_lost_23 (by decide) ?_
    refine lv_istore (lv' := [(5, .int (nI 0)), (0, .ref (b 0)), (1, .int (nI v)), (2, .int (nI r)), (3, .int (nI x)), (4, .int (nI y))]) hx hb dX3_lost_24 hl (by decide) rfl (fun ls hl => ?_)
    refine lv_iload hx hb dX3_lost_26 (lv_at hl 0 rfl) ?_
    refine hx_if0 (tgt := 40) hx hb dX3_lost_28 (by decide) (by omega) (fun c_2 => ?_) (fun c_2 => ?_)
    · refine lv_aload_n hx hb dX3_lost_40 rfl (lv_at hl 1 rfl) ?_
      refine lv_iload_n hx hb dX3_lost_41 rfl (lv_at hl 3 rfl) ?_
      refine hx_read (va_runV (As := [.int (nI r)]) (rest := []) ⟨hx, hb, hml, hown, hts⟩ (c_X3_taken l dC dI b cB n hd fm rp rq nw bf db sg wt ne dn r (by omega)) (cwV 1 hts gX3_lost_X3_taken rfl rfl rfl (by decide +kernel) ⟨Nat.le_of_ble_eq_true rfl, Nat.le_of_ble_eq_true rfl⟩) (rd_V nstW_ok hP hK hN 0 rfl rfl _) rfl rfl hl.1 rfl (lv_room (Nat.le_of_ble_eq_true rfl)) dX3_lost_42 ⟨Nat.zero_le _, Nat.zero_le _⟩) ?_
      refine lv_iload_n hx hb dX3_lost_45 rfl (lv_at hl 4 rfl) ?_
      refine lv_iload hx hb dX3_lost_46 (lv_at hl 5 rfl) ?_
      refine hx_read (va_runS (As := [.int (takM nw bf r), .int (nI x), .int (nI y)]) (rest := []) ⟨hx, hb, hml, hown, hts⟩ (c_X3_in l (takM nw bf r) x y (by omega) (by omega)) (va_cwS 3 hts gX3_lost_X3_in rfl rfl rfl (by decide +kernel) ⟨Nat.le_of_ble_eq_true rfl, Nat.le_of_ble_eq_true rfl⟩) (nu_S _) rfl rfl hl.1 rfl (lv_room (Nat.le_of_ble_eq_true rfl)) dX3_lost_48 ⟨Nat.zero_le _, Nat.zero_le _⟩) ?_
      exact W.zret (v := bI (bt (takM nw bf r) (5 * x + y))) hx hb hr (nar_bI _) (fun t ht hW => ⟨_, rfl, by rw [show loM ne nw bf db v r (5 * x + y) = bt (takM nw bf r) (5 * x + y) from by simp only [loM, c_1, c_2, ↓reduceIte, decide_true, decide_false, Bool.not_true, Bool.not_false, Bool.or_true, Bool.true_or, Bool.or_false, Bool.false_or, Bool.and_true, Bool.true_and, Bool.and_false, Bool.false_and, and_true, true_and, and_false, false_and, and_self, or_self, or_true, true_or, or_false, false_or, Bool.false_eq_true, Bool.true_eq_false, not_true_eq_false, not_false_eq_true, Bool.or_self, decide_eq_true_eq]], ht⟩) (fun _ h => by cases h) dX3_lost_51
    · exact absurd c_2 (by omega)
  · refine lv_aload_n hx hb dX3_lost_5 rfl (lv_at hl 0 rfl) ?_
    refine va_get (D := (dC, dI)) (ci := 3) (v := .ref (b 10)) (C := RX3) (T := TX3) (N := 12) hx hb hts in_X3 hown hK hP 0 rfl rfl 10 (by decide) lf_37 (fun _ h9 => h9) rfl dX3_lost_6 ?_
    refine lv_bipush (v := nI 7) hx hb dX3_lost_9 (by decide) ?_
    refine lv_iload_n hx hb dX3_lost_11 rfl (lv_at hl 2 rfl) ?_
    refine hx_imul hx hb dX3_lost_12 ?_
    refine lv_iload_n hx hb dX3_lost_13 rfl (lv_at hl 1 rfl) ?_
    refine hx_iadd hx hb dX3_lost_14 ?_
    refine hx_zald hx hb hK hP 10 9 rfl rfl (by omega) (by omega) dX3_lost_15 ?_
    refine hx_ifB (tgt := 23) hx hb dX3_lost_16 (by decide) (fun c_3 => ?_) (fun c_3 => ?_)
    · refine lv_iconst (v := nI 0) hx hb dX3_lost_23 (by decide) ?_
      refine lv_istore (lv' := [(5, .int (nI 0)), (0, .ref (b 0)), (1, .int (nI v)), (2, .int (nI r)), (3, .int (nI x)), (4, .int (nI y))]) hx hb dX3_lost_24 hl (by decide) rfl (fun ls hl => ?_)
      refine lv_iload hx hb dX3_lost_26 (lv_at hl 0 rfl) ?_
      refine hx_if0 (tgt := 40) hx hb dX3_lost_28 (by decide) (by omega) (fun c_4 => ?_) (fun c_4 => ?_)
      · refine lv_aload_n hx hb dX3_lost_40 rfl (lv_at hl 1 rfl) ?_
        refine lv_iload_n hx hb dX3_lost_41 rfl (lv_at hl 3 rfl) ?_
        refine hx_read (va_runV (As := [.int (nI r)]) (rest := []) ⟨hx, hb, hml, hown, hts⟩ (c_X3_taken l dC dI b cB n hd fm rp rq nw bf db sg wt ne dn r (by omega)) (cwV 1 hts gX3_lost_X3_taken rfl rfl rfl (by decide +kernel) ⟨Nat.le_of_ble_eq_true rfl, Nat.le_of_ble_eq_true rfl⟩) (rd_V nstW_ok hP hK hN 0 rfl rfl _) rfl rfl hl.1 rfl (lv_room (Nat.le_of_ble_eq_true rfl)) dX3_lost_42 ⟨Nat.zero_le _, Nat.zero_le _⟩) ?_
        refine lv_iload_n hx hb dX3_lost_45 rfl (lv_at hl 4 rfl) ?_
        refine lv_iload hx hb dX3_lost_46 (lv_at hl 5 rfl) ?_
        refine hx_read (va_runS (As := [.int (takM nw bf r), .int (nI x), .int (nI y)]) (rest := []) ⟨hx, hb, hml, hown, hts⟩ (c_X3_in l (takM nw bf r) x y (by omega) (by omega)) (va_cwS 3 hts gX3_lost_X3_in rfl rfl rfl (by decide +kernel) ⟨Nat.le_of_ble_eq_true rfl, Nat.le_of_ble_eq_true rfl⟩) (nu_S _) rfl rfl hl.1 rfl (lv_room (Nat.le_of_ble_eq_true rfl)) dX3_lost_48 ⟨Nat.zero_le _, Nat.zero_le _⟩) ?_
        exact W.zret (v := bI (bt (takM nw bf r) (5 * x + y))) hx hb hr (nar_bI _) (fun t ht hW => ⟨_, rfl, by rw [show loM ne nw bf db v r (5 * x + y) = bt (takM nw bf r) (5 * x + y) from by simp only [loM, c_1, c_3, c_4, ↓reduceIte, decide_true, decide_false, Bool.not_true, Bool.not_false, Bool.or_true, Bool.true_or, Bool.or_false, Bool.false_or, Bool.and_true, Bool.true_and, Bool.and_false, Bool.false_and, and_true, true_and, and_false, false_and, and_self, or_self, or_true, true_or, or_false, false_or, Bool.false_eq_true, Bool.true_eq_false, not_true_eq_false, not_false_eq_true, Bool.or_self, decide_eq_true_eq]], ht⟩) (fun _ h => by cases h) dX3_lost_51
      · exact absurd c_4 (by omega)
    · refine lv_iconst (v := nI 1) hx hb dX3_lost_19 (by decide) ?_
      refine lv_goto (tgt := 24) hx hb dX3_lost_20 (by decide) ?_
      refine lv_istore (lv' := [(5, .int (nI 1)), (0, .ref (b 0)), (1, .int (nI v)), (2, .int (nI r)), (3, .int (nI x)), (4, .int (nI y))]) hx hb dX3_lost_24 hl (by decide) rfl (fun ls hl => ?_)
      refine lv_iload hx hb dX3_lost_26 (lv_at hl 0 rfl) ?_
      refine hx_if0 (tgt := 40) hx hb dX3_lost_28 (by decide) (by omega) (fun c_5 => ?_) (fun c_5 => ?_)
      · exact absurd c_5 (by omega)
      · refine lv_aload_n hx hb dX3_lost_31 rfl (lv_at hl 1 rfl) ?_
        refine va_get (D := (dC, dI)) (ci := 3) (v := .ref (b 7)) (C := RX3) (T := TX3) (N := 12) hx hb hts in_X3 hown hK hP 0 rfl rfl 7 (by decide) lf_28 (fun _ h9 => h9) rfl dX3_lost_32 ?_
        refine lv_iload_n hx hb dX3_lost_35 rfl (lv_at hl 3 rfl) ?_
        refine hx_iald hx hb hK hP 7 6 rfl rfl (by omega) (by omega) dX3_lost_36 ?_
        refine lv_goto (tgt := 45) hx hb dX3_lost_37 (by decide) ?_
        refine lv_iload_n hx hb dX3_lost_45 rfl (lv_at hl 4 rfl) ?_
        refine lv_iload hx hb dX3_lost_46 (lv_at hl 5 rfl) ?_
        refine hx_read (va_runS (As := [.int (db r), .int (nI x), .int (nI y)]) (rest := []) ⟨hx, hb, hml, hown, hts⟩ (c_X3_in l (db r) x y (by omega) (by omega)) (va_cwS 3 hts gX3_lost_X3_in rfl rfl rfl (by decide +kernel) ⟨Nat.le_of_ble_eq_true rfl, Nat.le_of_ble_eq_true rfl⟩) (nu_S _) rfl rfl hl.1 rfl (lv_room (Nat.le_of_ble_eq_true rfl)) dX3_lost_48 ⟨Nat.zero_le _, Nat.zero_le _⟩) ?_
        exact W.zret (v := bI (bt (db r) (5 * x + y))) hx hb hr (nar_bI _) (fun t ht hW => ⟨_, rfl, by rw [show loM ne nw bf db v r (5 * x + y) = bt (db r) (5 * x + y) from by simp only [loM, c_1, c_3, c_5, ↓reduceIte, decide_true, decide_false, Bool.not_true, Bool.not_false, Bool.or_true, Bool.true_or, Bool.or_false, Bool.false_or, Bool.and_true, Bool.true_and, Bool.and_false, Bool.false_and, and_true, true_and, and_false, false_and, and_self, or_self, or_true, true_or, or_false, false_or, Bool.false_eq_true, Bool.true_eq_false, not_true_eq_false, not_false_eq_true, Bool.or_self, decide_eq_true_eq]], ht⟩) (fun _ h => by cases h) dX3_lost_51
set_option maxHeartbeats 4000000 in
set_option maxRecDepth 100000 in
theorem c_X3_doubtful (l : Launch) (dC : Nat → ClassId) (dI : Nat → Nat → Nat) (b : Nat → Nat) (cB : Nat → ClassId) (n : Nat) (hd fm rp rq : Nat → Nat) (nw bf db sg wt : Nat → Int32) (ne dn : Nat → Bool) (i x y : Nat) (hy_0 : i < 13) (hy_1 : 2 ≤ hd i ∧ hd i < 7) (hy_2 : fm i ≤ 4) (hy_3 : rp i < 7) (hy_4 : rq i < 7) (hy_5 : x < 5) (hy_6 : y < 5) : RdM l yX3_doubtful wsX3_doubtful ({ frames := 2, cells := 0, slots := 0, locals := 47 }) (dC, dI) vwCl (mdW b cB n hd fm rp rq nw bf db sg wt ne dn) (mdT cB) nstW [.ref (b 0), .int (nI i), .int (nI x), .int (nI y)] (bI (dbM ne nw bf db (hd i) (fm i) (rp i) (rq i) x y)) := by
  refine Met.ofW (cc := cX3_doubtful) (maxL := 10) (ret := (some .boolean)) (by decide) rfl ?_
  intro p e s m args below meth c s₁ B hml hv
  obtain ⟨rfl, hP, hK, hN⟩ := hv
  have hx := B.exec
  have hb := B.bytes
  have hr := B.returns
  have hts := atoms_spec (ws := wsX3_doubtful) B.pre
  have hown : s.vm.findClass RX3 = some m.cls := findClass_of_methodNamed B.named
  have hlocks := B.notSynchronized
  have lf_7 := hts (.fieldLink RX3 7 "ViewKeeperModel" "heads" "[I") (by decide +kernel)
  have in_X3 : ∀ w ∈ u_ws RX3 TX3 12, w ∈ wsX3_doubtful := by decide +kernel
  have lf_16 := hts (.fieldLink RX3 16 "ViewKeeperModel" "first" "[I") (by decide +kernel)
  have lf_19 := hts (.fieldLink RX3 19 "ViewKeeperModel" "second" "[I") (by decide +kernel)
  have lf_13 := hts (.fieldLink RX3 13 "ViewKeeperModel" "forms" "[I") (by decide +kernel)
  have lf_25 := hts (.fieldLink RX3 25 "ViewKeeperModel" "before" "[I") (by decide +kernel)
  have hl := lv_entry ([.ref (b 0), .int (nI i), .int (nI x), .int (nI y)]) (n := 10) (Nat.le_of_ble_eq_true rfl)
  rw [lg_entry_eq]
  generalize (lg_sl ([.ref (b 0), .int (nI i), .int (nI x), .int (nI y)]) ++ List.replicate (10 - (lg_sl ([.ref (b 0), .int (nI i), .int (nI x), .int (nI y)])).length) Slot.unset).toArray = ls at hl ⊢
  have hl : lv_has ls 10 [(0, .ref (b 0)), (1, .int (nI i)), (2, .int (nI x)), (3, .int (nI y))] := hl
  refine lv_aload_n hx hb dX3_doubtful_0 rfl (lv_at hl 0 rfl) ?_
  refine va_get (D := (dC, dI)) (ci := 3) (v := .ref (b 1)) (C := RX3) (T := TX3) (N := 12) hx hb hts in_X3 hown hK hP 0 rfl rfl 1 (by decide) lf_7 (fun _ h9 => h9) rfl dX3_doubtful_1 ?_
  refine lv_iload_n hx hb dX3_doubtful_4 rfl (lv_at hl 1 rfl) ?_
  refine hx_ialdN hx hb hK hP 1 0 rfl rfl (by omega) (by omega) dX3_doubtful_5 ?_
  refine lv_istore (lv' := [(4, .int (nI (hd i))), (0, .ref (b 0)), (1, .int (nI i)), (2, .int (nI x)), (3, .int (nI y))]) hx hb dX3_doubtful_6 hl (by decide) rfl (fun ls hl => ?_)
  refine lv_aload_n hx hb dX3_doubtful_8 rfl (lv_at hl 1 rfl) ?_
  refine va_get (D := (dC, dI)) (ci := 3) (v := .ref (b 3)) (C := RX3) (T := TX3) (N := 12) hx hb hts in_X3 hown hK hP 0 rfl rfl 3 (by decide) lf_16 (fun _ h9 => h9) rfl dX3_doubtful_9 ?_
  refine lv_iload_n hx hb dX3_doubtful_12 rfl (lv_at hl 2 rfl) ?_
  refine hx_ialdN hx hb hK hP 3 2 rfl rfl (by omega) (by omega) dX3_doubtful_13 ?_
  refine lv_istore (lv' := [(5, .int (nI (rp i))), (4, .int (nI (hd i))), (0, .ref (b 0)), (1, .int (nI i)), (2, .int (nI x)), (3, .int (nI y))]) hx hb dX3_doubtful_14 hl (by decide) rfl (fun ls hl => ?_)
  refine lv_aload_n hx hb dX3_doubtful_16 rfl (lv_at hl 2 rfl) ?_
  refine va_get (D := (dC, dI)) (ci := 3) (v := .ref (b 4)) (C := RX3) (T := TX3) (N := 12) hx hb hts in_X3 hown hK hP 0 rfl rfl 4 (by decide) lf_19 (fun _ h9 => h9) rfl dX3_doubtful_17 ?_
  refine lv_iload_n hx hb dX3_doubtful_20 rfl (lv_at hl 3 rfl) ?_
  refine hx_ialdN hx hb hK hP 4 3 rfl rfl (by omega) (by omega) dX3_doubtful_21 ?_
  refine lv_istore (lv' := [(6, .int (nI (rq i))), (5, .int (nI (rp i))), (4, .int (nI (hd i))), (0, .ref (b 0)), (1, .int (nI i)), (2, .int (nI x)), (3, .int (nI y))]) hx hb dX3_doubtful_22 hl (by decide) rfl (fun ls hl => ?_)
  refine lv_aload_n hx hb dX3_doubtful_24 rfl (lv_at hl 3 rfl) ?_
  refine va_get (D := (dC, dI)) (ci := 3) (v := .ref (b 2)) (C := RX3) (T := TX3) (N := 12) hx hb hts in_X3 hown hK hP 0 rfl rfl 2 (by decide) lf_13 (fun _ h9 => h9) rfl dX3_doubtful_25 ?_
  refine lv_iload_n hx hb dX3_doubtful_28 rfl (lv_at hl 4 rfl) ?_
  refine hx_ialdN hx hb hK hP 2 1 rfl rfl (by omega) (by omega) dX3_doubtful_29 ?_
  refine hx_ifn0 (tgt := 67) hx hb dX3_doubtful_30 (by decide) (by omega) (fun c_1 => ?_) (fun c_1 => ?_)
  · refine lv_aload_n hx hb dX3_doubtful_67 rfl (lv_at hl 3 rfl) ?_
    refine va_get (D := (dC, dI)) (ci := 3) (v := .ref (b 2)) (C := RX3) (T := TX3) (N := 12) hx hb hts in_X3 hown hK hP 0 rfl rfl 2 (by decide) lf_13 (fun _ h9 => h9) rfl dX3_doubtful_68 ?_
    refine lv_iload_n hx hb dX3_doubtful_71 rfl (lv_at hl 4 rfl) ?_
    refine hx_ialdN hx hb hK hP 2 1 rfl rfl (by omega) (by omega) dX3_doubtful_72 ?_
    refine lv_iconst (v := nI 1) hx hb dX3_doubtful_73 (by decide) ?_
    refine hx_neN (tgt := 111) hx hb dX3_doubtful_74 (by decide) (by omega) (by omega) (fun c_2 => ?_) (fun c_2 => ?_)
    · refine lv_aload_n hx hb dX3_doubtful_111 rfl (lv_at hl 3 rfl) ?_
      refine va_get (D := (dC, dI)) (ci := 3) (v := .ref (b 2)) (C := RX3) (T := TX3) (N := 12) hx hb hts in_X3 hown hK hP 0 rfl rfl 2 (by decide) lf_13 (fun _ h9 => h9) rfl dX3_doubtful_112 ?_
      refine lv_iload_n hx hb dX3_doubtful_115 rfl (lv_at hl 4 rfl) ?_
      refine hx_ialdN hx hb hK hP 2 1 rfl rfl (by omega) (by omega) dX3_doubtful_116 ?_
      refine lv_iconst (v := nI 2) hx hb dX3_doubtful_117 (by decide) ?_
      refine hx_neN (tgt := 226) hx hb dX3_doubtful_118 (by decide) (by omega) (by omega) (fun c_3 => ?_) (fun c_3 => ?_)
      · refine lv_aload_n hx hb dX3_doubtful_226 rfl (lv_at hl 3 rfl) ?_
        refine va_get (D := (dC, dI)) (ci := 3) (v := .ref (b 2)) (C := RX3) (T := TX3) (N := 12) hx hb hts in_X3 hown hK hP 0 rfl rfl 2 (by decide) lf_13 (fun _ h9 => h9) rfl dX3_doubtful_227 ?_
        refine lv_iload_n hx hb dX3_doubtful_230 rfl (lv_at hl 4 rfl) ?_
        refine hx_ialdN hx hb hK hP 2 1 rfl rfl (by omega) (by omega) dX3_doubtful_231 ?_
        refine lv_iconst (v := nI 3) hx hb dX3_doubtful_232 (by decide) ?_
        refine hx_neN (tgt := 298) hx hb dX3_doubtful_233 (by decide) (by omega) (by omega) (fun c_4 => ?_) (fun c_4 => ?_)
        · refine lv_aload_n hx hb dX3_doubtful_298 rfl (lv_at hl 3 rfl) ?_
          refine va_get (D := (dC, dI)) (ci := 3) (v := .ref (b 6)) (C := RX3) (T := TX3) (N := 12) hx hb hts in_X3 hown hK hP 0 rfl rfl 6 (by decide) lf_25 (fun _ h9 => h9) rfl dX3_doubtful_299 ?_
          refine lv_iload hx hb dX3_doubtful_302 (lv_at hl 1 rfl) ?_
          refine hx_iald hx hb hK hP 6 5 rfl rfl (by omega) (by omega) dX3_doubtful_304 ?_
          refine lv_iload_n hx hb dX3_doubtful_305 rfl (lv_at hl 5 rfl) ?_
          refine lv_iload_n hx hb dX3_doubtful_306 rfl (lv_at hl 6 rfl) ?_
          refine hx_read (va_runS (As := [.int (bf (rp i)), .int (nI x), .int (nI y)]) (rest := []) ⟨hx, hb, hml, hown, hts⟩ (c_X3_in l (bf (rp i)) x y (by omega) (by omega)) (va_cwS 3 hts gX3_doubtful_X3_in rfl rfl rfl (by decide +kernel) ⟨Nat.le_of_ble_eq_true rfl, Nat.le_of_ble_eq_true rfl⟩) (nu_S _) rfl rfl hl.1 rfl (lv_room (Nat.le_of_ble_eq_true rfl)) dX3_doubtful_307 ⟨Nat.zero_le _, Nat.zero_le _⟩) ?_
          refine hx_ifB (tgt := 359) hx hb dX3_doubtful_310 (by decide) (fun c_5 => ?_) (fun c_5 => ?_)
          · refine lv_iconst (v := nI 0) hx hb dX3_doubtful_359 (by decide) ?_
            exact W.zret (v := nI 0) hx hb hr rfl (fun t ht hW => ⟨_, rfl, by rw [show dbM ne nw bf db (hd i) (fm i) (rp i) (rq i) x y = false from by simp [dbM, c_1, c_2, c_3, c_4, c_5]]; rfl, ht⟩) (fun _ h => by cases h) dX3_doubtful_360
          · refine lv_aload_n hx hb dX3_doubtful_313 rfl (lv_at hl 3 rfl) ?_
            refine va_get (D := (dC, dI)) (ci := 3) (v := .ref (b 6)) (C := RX3) (T := TX3) (N := 12) hx hb hts in_X3 hown hK hP 0 rfl rfl 6 (by decide) lf_25 (fun _ h9 => h9) rfl dX3_doubtful_314 ?_
            refine lv_iload hx hb dX3_doubtful_317 (lv_at hl 0 rfl) ?_
            refine hx_iald hx hb hK hP 6 5 rfl rfl (by omega) (by omega) dX3_doubtful_319 ?_
            refine lv_iload_n hx hb dX3_doubtful_320 rfl (lv_at hl 5 rfl) ?_
            refine lv_iload_n hx hb dX3_doubtful_321 rfl (lv_at hl 6 rfl) ?_
            refine hx_read (va_runS (As := [.int (bf (rq i)), .int (nI x), .int (nI y)]) (rest := []) ⟨hx, hb, hml, hown, hts⟩ (c_X3_in l (bf (rq i)) x y (by omega) (by omega)) (va_cwS 3 hts gX3_doubtful_X3_in rfl rfl rfl (by decide +kernel) ⟨Nat.le_of_ble_eq_true rfl, Nat.le_of_ble_eq_true rfl⟩) (nu_S _) rfl rfl hl.1 rfl (lv_room (Nat.le_of_ble_eq_true rfl)) dX3_doubtful_322 ⟨Nat.zero_le _, Nat.zero_le _⟩) ?_
            refine hx_ifnB (tgt := 359) hx hb dX3_doubtful_325 (by decide) (fun c_6 => ?_) (fun c_6 => ?_)
            · refine lv_iconst (v := nI 0) hx hb dX3_doubtful_359 (by decide) ?_
              exact W.zret (v := nI 0) hx hb hr rfl (fun t ht hW => ⟨_, rfl, by rw [show dbM ne nw bf db (hd i) (fm i) (rp i) (rq i) x y = false from by simp [dbM, c_1, c_2, c_3, c_4, c_5, c_6]]; rfl, ht⟩) (fun _ h => by cases h) dX3_doubtful_360
            · refine lv_aload_n hx hb dX3_doubtful_328 rfl (lv_at hl 3 rfl) ?_
              refine lv_iload hx hb dX3_doubtful_329 (lv_at hl 2 rfl) ?_
              refine lv_iload hx hb dX3_doubtful_331 (lv_at hl 1 rfl) ?_
              refine lv_iload_n hx hb dX3_doubtful_333 rfl (lv_at hl 5 rfl) ?_
              refine lv_iload_n hx hb dX3_doubtful_334 rfl (lv_at hl 6 rfl) ?_
              refine hx_read (va_runV (As := [.int (nI (hd i)), .int (nI (rp i)), .int (nI x), .int (nI y)]) (rest := []) ⟨hx, hb, hml, hown, hts⟩ (c_X3_lost l dC dI b cB n hd fm rp rq nw bf db sg wt ne dn (hd i) (rp i) x y (by omega) (by omega) (by omega) (by omega)) (cwV 4 hts gX3_doubtful_X3_lost rfl rfl rfl (by decide +kernel) ⟨Nat.le_of_ble_eq_true rfl, Nat.le_of_ble_eq_true rfl⟩) (rd_V nstW_ok hP hK hN 0 rfl rfl _) rfl rfl hl.1 rfl (lv_room (Nat.le_of_ble_eq_true rfl)) dX3_doubtful_335 ⟨Nat.zero_le _, Nat.zero_le _⟩) ?_
              refine hx_ifnB (tgt := 355) hx hb dX3_doubtful_338 (by decide) (fun c_7 => ?_) (fun c_7 => ?_)
              · refine lv_iconst (v := nI 1) hx hb dX3_doubtful_355 (by decide) ?_
                refine lv_goto (tgt := 360) hx hb dX3_doubtful_356 (by decide) ?_
                exact W.zret (v := nI 1) hx hb hr rfl (fun t ht hW => ⟨_, rfl, by rw [show dbM ne nw bf db (hd i) (fm i) (rp i) (rq i) x y = true from by simp [dbM, c_1, c_2, c_3, c_4, c_5, c_6, c_7]]; rfl, ht⟩) (fun _ h => by cases h) dX3_doubtful_360
              · refine lv_aload_n hx hb dX3_doubtful_341 rfl (lv_at hl 3 rfl) ?_
                refine lv_iload hx hb dX3_doubtful_342 (lv_at hl 0 rfl) ?_
                refine hx_read (va_runV (As := [.int (nI (rq i))]) (rest := []) ⟨hx, hb, hml, hown, hts⟩ (c_X3_added l dC dI b cB n hd fm rp rq nw bf db sg wt ne dn (rq i) (by omega)) (cwV 1 hts gX3_doubtful_X3_added rfl rfl rfl (by decide +kernel) ⟨Nat.le_of_ble_eq_true rfl, Nat.le_of_ble_eq_true rfl⟩) (rd_V nstW_ok hP hK hN 0 rfl rfl _) rfl rfl hl.1 rfl (lv_room (Nat.le_of_ble_eq_true rfl)) dX3_doubtful_344 ⟨Nat.zero_le _, Nat.zero_le _⟩) ?_
                refine lv_iload_n hx hb dX3_doubtful_347 rfl (lv_at hl 5 rfl) ?_
                refine lv_iload_n hx hb dX3_doubtful_348 rfl (lv_at hl 6 rfl) ?_
                refine hx_read (va_runS (As := [.int (putM nw bf (rq i)), .int (nI x), .int (nI y)]) (rest := []) ⟨hx, hb, hml, hown, hts⟩ (c_X3_in l (putM nw bf (rq i)) x y (by omega) (by omega)) (va_cwS 3 hts gX3_doubtful_X3_in rfl rfl rfl (by decide +kernel) ⟨Nat.le_of_ble_eq_true rfl, Nat.le_of_ble_eq_true rfl⟩) (nu_S _) rfl rfl hl.1 rfl (lv_room (Nat.le_of_ble_eq_true rfl)) dX3_doubtful_349 ⟨Nat.zero_le _, Nat.zero_le _⟩) ?_
                refine hx_ifB (tgt := 359) hx hb dX3_doubtful_352 (by decide) (fun c_8 => ?_) (fun c_8 => ?_)
                · refine lv_iconst (v := nI 0) hx hb dX3_doubtful_359 (by decide) ?_
                  exact W.zret (v := nI 0) hx hb hr rfl (fun t ht hW => ⟨_, rfl, by rw [show dbM ne nw bf db (hd i) (fm i) (rp i) (rq i) x y = false from by simp [dbM, c_1, c_2, c_3, c_4, c_5, c_6, c_7, c_8]]; rfl, ht⟩) (fun _ h => by cases h) dX3_doubtful_360
                · refine lv_iconst (v := nI 1) hx hb dX3_doubtful_355 (by decide) ?_
                  refine lv_goto (tgt := 360) hx hb dX3_doubtful_356 (by decide) ?_
                  exact W.zret (v := nI 1) hx hb hr rfl (fun t ht hW => ⟨_, rfl, by rw [show dbM ne nw bf db (hd i) (fm i) (rp i) (rq i) x y = true from by simp [dbM, c_1, c_2, c_3, c_4, c_5, c_6, c_7, c_8]]; rfl, ht⟩) (fun _ h => by cases h) dX3_doubtful_360
        · refine lv_aload_n hx hb dX3_doubtful_236 rfl (lv_at hl 3 rfl) ?_
          refine va_get (D := (dC, dI)) (ci := 3) (v := .ref (b 6)) (C := RX3) (T := TX3) (N := 12) hx hb hts in_X3 hown hK hP 0 rfl rfl 6 (by decide) lf_25 (fun _ h9 => h9) rfl dX3_doubtful_237 ?_
          refine lv_iload hx hb dX3_doubtful_240 (lv_at hl 1 rfl) ?_
          refine hx_iald hx hb hK hP 6 5 rfl rfl (by omega) (by omega) dX3_doubtful_242 ?_
          refine lv_iload_n hx hb dX3_doubtful_243 rfl (lv_at hl 5 rfl) ?_
          refine lv_iload_n hx hb dX3_doubtful_244 rfl (lv_at hl 6 rfl) ?_
          refine hx_read (va_runS (As := [.int (bf (rp i)), .int (nI x), .int (nI y)]) (rest := []) ⟨hx, hb, hml, hown, hts⟩ (c_X3_in l (bf (rp i)) x y (by omega) (by omega)) (va_cwS 3 hts gX3_doubtful_X3_in rfl rfl rfl (by decide +kernel) ⟨Nat.le_of_ble_eq_true rfl, Nat.le_of_ble_eq_true rfl⟩) (nu_S _) rfl rfl hl.1 rfl (lv_room (Nat.le_of_ble_eq_true rfl)) dX3_doubtful_245 ⟨Nat.zero_le _, Nat.zero_le _⟩) ?_
          refine hx_ifB (tgt := 296) hx hb dX3_doubtful_248 (by decide) (fun c_9 => ?_) (fun c_9 => ?_)
          · refine lv_iconst (v := nI 0) hx hb dX3_doubtful_296 (by decide) ?_
            exact W.zret (v := nI 0) hx hb hr rfl (fun t ht hW => ⟨_, rfl, by rw [show dbM ne nw bf db (hd i) (fm i) (rp i) (rq i) x y = false from by simp [dbM, c_1, c_2, c_3, c_4, c_9]]; rfl, ht⟩) (fun _ h => by cases h) dX3_doubtful_297
          · refine lv_aload_n hx hb dX3_doubtful_251 rfl (lv_at hl 3 rfl) ?_
            refine va_get (D := (dC, dI)) (ci := 3) (v := .ref (b 6)) (C := RX3) (T := TX3) (N := 12) hx hb hts in_X3 hown hK hP 0 rfl rfl 6 (by decide) lf_25 (fun _ h9 => h9) rfl dX3_doubtful_252 ?_
            refine lv_iload hx hb dX3_doubtful_255 (lv_at hl 0 rfl) ?_
            refine hx_iald hx hb hK hP 6 5 rfl rfl (by omega) (by omega) dX3_doubtful_257 ?_
            refine lv_iload_n hx hb dX3_doubtful_258 rfl (lv_at hl 5 rfl) ?_
            refine lv_iload_n hx hb dX3_doubtful_259 rfl (lv_at hl 6 rfl) ?_
            refine hx_read (va_runS (As := [.int (bf (rq i)), .int (nI x), .int (nI y)]) (rest := []) ⟨hx, hb, hml, hown, hts⟩ (c_X3_in l (bf (rq i)) x y (by omega) (by omega)) (va_cwS 3 hts gX3_doubtful_X3_in rfl rfl rfl (by decide +kernel) ⟨Nat.le_of_ble_eq_true rfl, Nat.le_of_ble_eq_true rfl⟩) (nu_S _) rfl rfl hl.1 rfl (lv_room (Nat.le_of_ble_eq_true rfl)) dX3_doubtful_260 ⟨Nat.zero_le _, Nat.zero_le _⟩) ?_
            refine hx_ifB (tgt := 296) hx hb dX3_doubtful_263 (by decide) (fun c_10 => ?_) (fun c_10 => ?_)
            · refine lv_iconst (v := nI 0) hx hb dX3_doubtful_296 (by decide) ?_
              exact W.zret (v := nI 0) hx hb hr rfl (fun t ht hW => ⟨_, rfl, by rw [show dbM ne nw bf db (hd i) (fm i) (rp i) (rq i) x y = false from by simp [dbM, c_1, c_2, c_3, c_4, c_9, c_10]]; rfl, ht⟩) (fun _ h => by cases h) dX3_doubtful_297
            · refine lv_aload_n hx hb dX3_doubtful_266 rfl (lv_at hl 3 rfl) ?_
              refine lv_iload hx hb dX3_doubtful_267 (lv_at hl 2 rfl) ?_
              refine lv_iload hx hb dX3_doubtful_269 (lv_at hl 1 rfl) ?_
              refine lv_iload_n hx hb dX3_doubtful_271 rfl (lv_at hl 5 rfl) ?_
              refine lv_iload_n hx hb dX3_doubtful_272 rfl (lv_at hl 6 rfl) ?_
              refine hx_read (va_runV (As := [.int (nI (hd i)), .int (nI (rp i)), .int (nI x), .int (nI y)]) (rest := []) ⟨hx, hb, hml, hown, hts⟩ (c_X3_lost l dC dI b cB n hd fm rp rq nw bf db sg wt ne dn (hd i) (rp i) x y (by omega) (by omega) (by omega) (by omega)) (cwV 4 hts gX3_doubtful_X3_lost rfl rfl rfl (by decide +kernel) ⟨Nat.le_of_ble_eq_true rfl, Nat.le_of_ble_eq_true rfl⟩) (rd_V nstW_ok hP hK hN 0 rfl rfl _) rfl rfl hl.1 rfl (lv_room (Nat.le_of_ble_eq_true rfl)) dX3_doubtful_273 ⟨Nat.zero_le _, Nat.zero_le _⟩) ?_
              refine hx_ifnB (tgt := 292) hx hb dX3_doubtful_276 (by decide) (fun c_11 => ?_) (fun c_11 => ?_)
              · refine lv_iconst (v := nI 1) hx hb dX3_doubtful_292 (by decide) ?_
                refine lv_goto (tgt := 297) hx hb dX3_doubtful_293 (by decide) ?_
                exact W.zret (v := nI 1) hx hb hr rfl (fun t ht hW => ⟨_, rfl, by rw [show dbM ne nw bf db (hd i) (fm i) (rp i) (rq i) x y = true from by simp [dbM, c_1, c_2, c_3, c_4, c_9, c_10, c_11]]; rfl, ht⟩) (fun _ h => by cases h) dX3_doubtful_297
              · refine lv_aload_n hx hb dX3_doubtful_279 rfl (lv_at hl 3 rfl) ?_
                refine lv_iload hx hb dX3_doubtful_280 (lv_at hl 2 rfl) ?_
                refine lv_iload hx hb dX3_doubtful_282 (lv_at hl 0 rfl) ?_
                refine lv_iload_n hx hb dX3_doubtful_284 rfl (lv_at hl 5 rfl) ?_
                refine lv_iload_n hx hb dX3_doubtful_285 rfl (lv_at hl 6 rfl) ?_
                refine hx_read (va_runV (As := [.int (nI (hd i)), .int (nI (rq i)), .int (nI x), .int (nI y)]) (rest := []) ⟨hx, hb, hml, hown, hts⟩ (c_X3_lost l dC dI b cB n hd fm rp rq nw bf db sg wt ne dn (hd i) (rq i) x y (by omega) (by omega) (by omega) (by omega)) (cwV 4 hts gX3_doubtful_X3_lost rfl rfl rfl (by decide +kernel) ⟨Nat.le_of_ble_eq_true rfl, Nat.le_of_ble_eq_true rfl⟩) (rd_V nstW_ok hP hK hN 0 rfl rfl _) rfl rfl hl.1 rfl (lv_room (Nat.le_of_ble_eq_true rfl)) dX3_doubtful_286 ⟨Nat.zero_le _, Nat.zero_le _⟩) ?_
                refine hx_ifB (tgt := 296) hx hb dX3_doubtful_289 (by decide) (fun c_12 => ?_) (fun c_12 => ?_)
                · refine lv_iconst (v := nI 0) hx hb dX3_doubtful_296 (by decide) ?_
                  exact W.zret (v := nI 0) hx hb hr rfl (fun t ht hW => ⟨_, rfl, by rw [show dbM ne nw bf db (hd i) (fm i) (rp i) (rq i) x y = false from by simp [dbM, c_1, c_2, c_3, c_4, c_9, c_10, c_11, c_12]]; rfl, ht⟩) (fun _ h => by cases h) dX3_doubtful_297
                · refine lv_iconst (v := nI 1) hx hb dX3_doubtful_292 (by decide) ?_
                  refine lv_goto (tgt := 297) hx hb dX3_doubtful_293 (by decide) ?_
                  exact W.zret (v := nI 1) hx hb hr rfl (fun t ht hW => ⟨_, rfl, by rw [show dbM ne nw bf db (hd i) (fm i) (rp i) (rq i) x y = true from by simp [dbM, c_1, c_2, c_3, c_4, c_9, c_10, c_11, c_12]]; rfl, ht⟩) (fun _ h => by cases h) dX3_doubtful_297
      · refine lv_iconst (v := nI 0) hx hb dX3_doubtful_121 (by decide) ?_
        refine lv_istore (lv' := [(7, .int (nI 0)), (6, .int (nI (rq i))), (5, .int (nI (rp i))), (4, .int (nI (hd i))), (0, .ref (b 0)), (1, .int (nI i)), (2, .int (nI x)), (3, .int (nI y))]) hx hb dX3_doubtful_122 hl (by decide) rfl (fun ls hl => ?_)
        refine lv_iconst (v := nI 0) hx hb dX3_doubtful_124 (by decide) ?_
        refine lv_istore (lv' := [(8, .int (nI 0)), (7, .int (nI 0)), (6, .int (nI (rq i))), (5, .int (nI (rp i))), (4, .int (nI (hd i))), (0, .ref (b 0)), (1, .int (nI i)), (2, .int (nI x)), (3, .int (nI y))]) hx hb dX3_doubtful_125 hl (by decide) rfl (fun ls hl => ?_)
        have L_127_12 : ∀ (nn : Nat) (z : Nat) (sm : Bool), z + nn = 5 → ∀ ls : Array Slot, lv_has ls 10 [(0, .ref (b 0)), (1, .int (nI i)), (2, .int (nI x)), (3, .int (nI y)), (4, .int (nI (hd i))), (5, .int (nI (rp i))), (6, .int (nI (rq i))), (7, .int (bI sm)), (8, .int (nI z))] → (∀ ls : Array Slot, lv_has ls 10 [(0, .ref (b 0)), (1, .int (nI i)), (2, .int (nI x)), (3, .int (nI y)), (4, .int (nI (hd i))), (5, .int (nI (rp i))), (6, .int (nI (rq i))), (7, .int (bI (dbJ ne nw bf db (hd i) (rp i) (rq i) x y nn z sm))), (8, .int (nI 5))] → W p l e (headSpec wsX3_doubtful ({ frames := 2, cells := 0, slots := 0, locals := 47 })).room s m ([.ref (b 0), .int (nI i), .int (nI x), .int (nI y)] : List Value).toArray below meth c s.heap [] 0 0 (MQ below (vp_Si (fun rz9 => rz9 = (bI (dbM ne nw bf db (hd i) (fm i) (rp i) (rq i) x y)))) ([.ref (b 0), .int (nI i), .int (nI x), .int (nI y)] : List Value).toArray s 0 0 (fun _ => False)) (F0 m 223 ls [])) → W p l e (headSpec wsX3_doubtful ({ frames := 2, cells := 0, slots := 0, locals := 47 })).room s m ([.ref (b 0), .int (nI i), .int (nI x), .int (nI y)] : List Value).toArray below meth c s.heap [] 0 0 (MQ below (vp_Si (fun rz9 => rz9 = (bI (dbM ne nw bf db (hd i) (fm i) (rp i) (rq i) x y)))) ([.ref (b 0), .int (nI i), .int (nI x), .int (nI y)] : List Value).toArray s 0 0 (fun _ => False)) (F0 m 127 ls []) := by
          intro nn
          induction nn with
          | zero =>
            intro z sm hn_z ls hl kx
            obtain rfl : z = 5 := by omega
            refine lv_iload hx hb dX3_doubtful_127 (lv_at hl 8 rfl) ?_
            refine lv_iconst (v := nI 5) hx hb dX3_doubtful_129 (by decide) ?_
            refine hx_geN (tgt := 223) hx hb dX3_doubtful_130 (by decide) (by omega) (by omega) (fun c_14 => ?_) (fun c_14 => ?_)
            · exact kx ls (lv_sub hl [0, 1, 2, 3, 4, 5, 6, 7, 8] rfl)
            · exact absurd c_14 (by omega)
          | succ nn ih =>
            intro z sm hn_z ls hl kx
            refine lv_iload hx hb dX3_doubtful_127 (lv_at hl 8 rfl) ?_
            refine lv_iconst (v := nI 5) hx hb dX3_doubtful_129 (by decide) ?_
            refine hx_geN (tgt := 223) hx hb dX3_doubtful_130 (by decide) (by omega) (by omega) (fun c_15 => ?_) (fun c_15 => ?_)
            · exact absurd c_15 (by omega)
            · refine lv_aload_n hx hb dX3_doubtful_133 rfl (lv_at hl 0 rfl) ?_
              refine va_get (D := (dC, dI)) (ci := 3) (v := .ref (b 6)) (C := RX3) (T := TX3) (N := 12) hx hb hts in_X3 hown hK hP 0 rfl rfl 6 (by decide) lf_25 (fun _ h9 => h9) rfl dX3_doubtful_134 ?_
              refine lv_iload hx hb dX3_doubtful_137 (lv_at hl 5 rfl) ?_
              refine hx_iald hx hb hK hP 6 5 rfl rfl (by omega) (by omega) dX3_doubtful_139 ?_
              refine lv_iload_n hx hb dX3_doubtful_140 rfl (lv_at hl 2 rfl) ?_
              refine lv_iload hx hb dX3_doubtful_141 (lv_at hl 8 rfl) ?_
              refine hx_read (va_runS (As := [.int (bf (rp i)), .int (nI x), .int (nI z)]) (rest := []) ⟨hx, hb, hml, hown, hts⟩ (c_X3_in l (bf (rp i)) x z (by omega) (by omega)) (va_cwS 3 hts gX3_doubtful_X3_in rfl rfl rfl (by decide +kernel) ⟨Nat.le_of_ble_eq_true rfl, Nat.le_of_ble_eq_true rfl⟩) (nu_S _) rfl rfl hl.1 rfl (lv_room (Nat.le_of_ble_eq_true rfl)) dX3_doubtful_143 ⟨Nat.zero_le _, Nat.zero_le _⟩) ?_
              refine hx_ifB (tgt := 169) hx hb dX3_doubtful_146 (by decide) (fun c_16 => ?_) (fun c_16 => ?_)
              · refine lv_iconst (v := nI 0) hx hb dX3_doubtful_169 (by decide) ?_
                refine lv_istore (lv' := [(9, .int (nI 0)), (0, .ref (b 0)), (1, .int (nI i)), (2, .int (nI x)), (3, .int (nI y)), (4, .int (nI (hd i))), (5, .int (nI (rp i))), (6, .int (nI (rq i))), (7, .int (bI sm)), (8, .int (nI z))]) hx hb dX3_doubtful_170 hl (by decide) rfl (fun ls hl => ?_)
                refine lv_iload hx hb dX3_doubtful_172 (lv_at hl 8 rfl) ?_
                refine hx_ifnB (tgt := 210) hx hb dX3_doubtful_174 (by decide) (fun c_17 => ?_) (fun c_17 => ?_)
                · refine lv_iconst (v := nI 1) hx hb dX3_doubtful_210 (by decide) ?_
                  refine lv_goto (tgt := 215) hx hb dX3_doubtful_211 (by decide) ?_
                  refine lv_istore (lv' := [(7, .int (nI 1)), (9, .int (nI 0)), (0, .ref (b 0)), (1, .int (nI i)), (2, .int (nI x)), (3, .int (nI y)), (4, .int (nI (hd i))), (5, .int (nI (rp i))), (6, .int (nI (rq i))), (8, .int (nI z))]) hx hb dX3_doubtful_215 hl (by decide) rfl (fun ls hl => ?_)
                  refine lv_iinc (v := nI (z + 1)) (lv' := [(8, .int (nI (z + 1))), (7, .int (nI 1)), (9, .int (nI 0)), (0, .ref (b 0)), (1, .int (nI i)), (2, .int (nI x)), (3, .int (nI y)), (4, .int (nI (hd i))), (5, .int (nI (rp i))), (6, .int (nI (rq i)))]) hx hb dX3_doubtful_217 hl (k := 9) rfl (nI_add z 1) (by decide) rfl (fun ls hl => ?_)
                  refine lv_goto (tgt := 127) hx hb dX3_doubtful_220 (by decide) ?_
                  have kx := kx
                  rw [show dbJ ne nw bf db (hd i) (rp i) (rq i) x y (nn + 1) z sm = dbJ ne nw bf db (hd i) (rp i) (rq i) x y nn (z + 1) true from by simp only [dbJ, c_1, c_2, c_3, c_15, c_16, c_17, ↓reduceIte, decide_true, decide_false, Bool.not_true, Bool.not_false, Bool.or_true, Bool.true_or, Bool.or_false, Bool.false_or, Bool.and_true, Bool.true_and, Bool.and_false, Bool.false_and, and_true, true_and, and_false, false_and, and_self, or_self, or_true, true_or, or_false, false_or, Bool.false_eq_true, Bool.true_eq_false, not_true_eq_false, not_false_eq_true, Bool.or_self, decide_eq_true_eq]] at kx
                  exact ih (z + 1) true (by omega) ls (lv_sub hl [3, 4, 5, 6, 7, 8, 9, 1, 0] rfl) kx
                · refine lv_iload hx hb dX3_doubtful_177 (lv_at hl 0 rfl) ?_
                  refine hx_if0 (tgt := 214) hx hb dX3_doubtful_179 (by decide) (by omega) (fun c_18 => ?_) (fun c_18 => ?_)
                  · refine lv_iconst (v := nI 0) hx hb dX3_doubtful_214 (by decide) ?_
                    refine lv_istore (lv' := [(7, .int (nI 0)), (9, .int (nI 0)), (0, .ref (b 0)), (1, .int (nI i)), (2, .int (nI x)), (3, .int (nI y)), (4, .int (nI (hd i))), (5, .int (nI (rp i))), (6, .int (nI (rq i))), (8, .int (nI z))]) hx hb dX3_doubtful_215 hl (by decide) rfl (fun ls hl => ?_)
                    refine lv_iinc (v := nI (z + 1)) (lv' := [(8, .int (nI (z + 1))), (7, .int (nI 0)), (9, .int (nI 0)), (0, .ref (b 0)), (1, .int (nI i)), (2, .int (nI x)), (3, .int (nI y)), (4, .int (nI (hd i))), (5, .int (nI (rp i))), (6, .int (nI (rq i)))]) hx hb dX3_doubtful_217 hl (k := 9) rfl (nI_add z 1) (by decide) rfl (fun ls hl => ?_)
                    refine lv_goto (tgt := 127) hx hb dX3_doubtful_220 (by decide) ?_
                    have kx := kx
                    rw [show dbJ ne nw bf db (hd i) (rp i) (rq i) x y (nn + 1) z sm = dbJ ne nw bf db (hd i) (rp i) (rq i) x y nn (z + 1) false from by simp only [dbJ, c_1, c_2, c_3, c_15, c_16, c_17, c_18, ↓reduceIte, decide_true, decide_false, Bool.not_true, Bool.not_false, Bool.or_true, Bool.true_or, Bool.or_false, Bool.false_or, Bool.and_true, Bool.true_and, Bool.and_false, Bool.false_and, and_true, true_and, and_false, false_and, and_self, or_self, or_true, true_or, or_false, false_or, Bool.false_eq_true, Bool.true_eq_false, not_true_eq_false, not_false_eq_true, Bool.or_self, decide_eq_true_eq]] at kx
                    exact ih (z + 1) false (by omega) ls (lv_sub hl [3, 4, 5, 6, 7, 8, 9, 1, 0] rfl) kx
                  · exact absurd c_18 (by omega)
              · refine lv_aload_n hx hb dX3_doubtful_149 rfl (lv_at hl 0 rfl) ?_
                refine va_get (D := (dC, dI)) (ci := 3) (v := .ref (b 6)) (C := RX3) (T := TX3) (N := 12) hx hb hts in_X3 hown hK hP 0 rfl rfl 6 (by decide) lf_25 (fun _ h9 => h9) rfl dX3_doubtful_150 ?_
                refine lv_iload hx hb dX3_doubtful_153 (lv_at hl 6 rfl) ?_
                refine hx_iald hx hb hK hP 6 5 rfl rfl (by omega) (by omega) dX3_doubtful_155 ?_
                refine lv_iload hx hb dX3_doubtful_156 (lv_at hl 8 rfl) ?_
                refine lv_iload_n hx hb dX3_doubtful_158 rfl (lv_at hl 3 rfl) ?_
                refine hx_read (va_runS (As := [.int (bf (rq i)), .int (nI z), .int (nI y)]) (rest := []) ⟨hx, hb, hml, hown, hts⟩ (c_X3_in l (bf (rq i)) z y (by omega) (by omega)) (va_cwS 3 hts gX3_doubtful_X3_in rfl rfl rfl (by decide +kernel) ⟨Nat.le_of_ble_eq_true rfl, Nat.le_of_ble_eq_true rfl⟩) (nu_S _) rfl rfl hl.1 rfl (lv_room (Nat.le_of_ble_eq_true rfl)) dX3_doubtful_159 ⟨Nat.zero_le _, Nat.zero_le _⟩) ?_
                refine hx_ifB (tgt := 169) hx hb dX3_doubtful_162 (by decide) (fun c_19 => ?_) (fun c_19 => ?_)
                · refine lv_iconst (v := nI 0) hx hb dX3_doubtful_169 (by decide) ?_
                  refine lv_istore (lv' := [(9, .int (nI 0)), (0, .ref (b 0)), (1, .int (nI i)), (2, .int (nI x)), (3, .int (nI y)), (4, .int (nI (hd i))), (5, .int (nI (rp i))), (6, .int (nI (rq i))), (7, .int (bI sm)), (8, .int (nI z))]) hx hb dX3_doubtful_170 hl (by decide) rfl (fun ls hl => ?_)
                  refine lv_iload hx hb dX3_doubtful_172 (lv_at hl 8 rfl) ?_
                  refine hx_ifnB (tgt := 210) hx hb dX3_doubtful_174 (by decide) (fun c_20 => ?_) (fun c_20 => ?_)
                  · refine lv_iconst (v := nI 1) hx hb dX3_doubtful_210 (by decide) ?_
                    refine lv_goto (tgt := 215) hx hb dX3_doubtful_211 (by decide) ?_
                    refine lv_istore (lv' := [(7, .int (nI 1)), (9, .int (nI 0)), (0, .ref (b 0)), (1, .int (nI i)), (2, .int (nI x)), (3, .int (nI y)), (4, .int (nI (hd i))), (5, .int (nI (rp i))), (6, .int (nI (rq i))), (8, .int (nI z))]) hx hb dX3_doubtful_215 hl (by decide) rfl (fun ls hl => ?_)
                    refine lv_iinc (v := nI (z + 1)) (lv' := [(8, .int (nI (z + 1))), (7, .int (nI 1)), (9, .int (nI 0)), (0, .ref (b 0)), (1, .int (nI i)), (2, .int (nI x)), (3, .int (nI y)), (4, .int (nI (hd i))), (5, .int (nI (rp i))), (6, .int (nI (rq i)))]) hx hb dX3_doubtful_217 hl (k := 9) rfl (nI_add z 1) (by decide) rfl (fun ls hl => ?_)
                    refine lv_goto (tgt := 127) hx hb dX3_doubtful_220 (by decide) ?_
                    have kx := kx
                    rw [show dbJ ne nw bf db (hd i) (rp i) (rq i) x y (nn + 1) z sm = dbJ ne nw bf db (hd i) (rp i) (rq i) x y nn (z + 1) true from by simp only [dbJ, c_1, c_2, c_3, c_15, c_16, c_19, c_20, ↓reduceIte, decide_true, decide_false, Bool.not_true, Bool.not_false, Bool.or_true, Bool.true_or, Bool.or_false, Bool.false_or, Bool.and_true, Bool.true_and, Bool.and_false, Bool.false_and, and_true, true_and, and_false, false_and, and_self, or_self, or_true, true_or, or_false, false_or, Bool.false_eq_true, Bool.true_eq_false, not_true_eq_false, not_false_eq_true, Bool.or_self, decide_eq_true_eq]] at kx
                    exact ih (z + 1) true (by omega) ls (lv_sub hl [3, 4, 5, 6, 7, 8, 9, 1, 0] rfl) kx
                  · refine lv_iload hx hb dX3_doubtful_177 (lv_at hl 0 rfl) ?_
                    refine hx_if0 (tgt := 214) hx hb dX3_doubtful_179 (by decide) (by omega) (fun c_21 => ?_) (fun c_21 => ?_)
                    · refine lv_iconst (v := nI 0) hx hb dX3_doubtful_214 (by decide) ?_
                      refine lv_istore (lv' := [(7, .int (nI 0)), (9, .int (nI 0)), (0, .ref (b 0)), (1, .int (nI i)), (2, .int (nI x)), (3, .int (nI y)), (4, .int (nI (hd i))), (5, .int (nI (rp i))), (6, .int (nI (rq i))), (8, .int (nI z))]) hx hb dX3_doubtful_215 hl (by decide) rfl (fun ls hl => ?_)
                      refine lv_iinc (v := nI (z + 1)) (lv' := [(8, .int (nI (z + 1))), (7, .int (nI 0)), (9, .int (nI 0)), (0, .ref (b 0)), (1, .int (nI i)), (2, .int (nI x)), (3, .int (nI y)), (4, .int (nI (hd i))), (5, .int (nI (rp i))), (6, .int (nI (rq i)))]) hx hb dX3_doubtful_217 hl (k := 9) rfl (nI_add z 1) (by decide) rfl (fun ls hl => ?_)
                      refine lv_goto (tgt := 127) hx hb dX3_doubtful_220 (by decide) ?_
                      have kx := kx
                      rw [show dbJ ne nw bf db (hd i) (rp i) (rq i) x y (nn + 1) z sm = dbJ ne nw bf db (hd i) (rp i) (rq i) x y nn (z + 1) false from by simp only [dbJ, c_1, c_2, c_3, c_15, c_16, c_19, c_20, c_21, ↓reduceIte, decide_true, decide_false, Bool.not_true, Bool.not_false, Bool.or_true, Bool.true_or, Bool.or_false, Bool.false_or, Bool.and_true, Bool.true_and, Bool.and_false, Bool.false_and, and_true, true_and, and_false, false_and, and_self, or_self, or_true, true_or, or_false, false_or, Bool.false_eq_true, Bool.true_eq_false, not_true_eq_false, not_false_eq_true, Bool.or_self, decide_eq_true_eq]] at kx
                      exact ih (z + 1) false (by omega) ls (lv_sub hl [3, 4, 5, 6, 7, 8, 9, 1, 0] rfl) kx
                    · exact absurd c_21 (by omega)
                · refine lv_iconst (v := nI 1) hx hb dX3_doubtful_165 (by decide) ?_
                  refine lv_goto (tgt := 170) hx hb dX3_doubtful_166 (by decide) ?_
                  refine lv_istore (lv' := [(9, .int (nI 1)), (0, .ref (b 0)), (1, .int (nI i)), (2, .int (nI x)), (3, .int (nI y)), (4, .int (nI (hd i))), (5, .int (nI (rp i))), (6, .int (nI (rq i))), (7, .int (bI sm)), (8, .int (nI z))]) hx hb dX3_doubtful_170 hl (by decide) rfl (fun ls hl => ?_)
                  refine lv_iload hx hb dX3_doubtful_172 (lv_at hl 8 rfl) ?_
                  refine hx_ifnB (tgt := 210) hx hb dX3_doubtful_174 (by decide) (fun c_22 => ?_) (fun c_22 => ?_)
                  · refine lv_iconst (v := nI 1) hx hb dX3_doubtful_210 (by decide) ?_
                    refine lv_goto (tgt := 215) hx hb dX3_doubtful_211 (by decide) ?_
                    refine lv_istore (lv' := [(7, .int (nI 1)), (9, .int (nI 1)), (0, .ref (b 0)), (1, .int (nI i)), (2, .int (nI x)), (3, .int (nI y)), (4, .int (nI (hd i))), (5, .int (nI (rp i))), (6, .int (nI (rq i))), (8, .int (nI z))]) hx hb dX3_doubtful_215 hl (by decide) rfl (fun ls hl => ?_)
                    refine lv_iinc (v := nI (z + 1)) (lv' := [(8, .int (nI (z + 1))), (7, .int (nI 1)), (9, .int (nI 1)), (0, .ref (b 0)), (1, .int (nI i)), (2, .int (nI x)), (3, .int (nI y)), (4, .int (nI (hd i))), (5, .int (nI (rp i))), (6, .int (nI (rq i)))]) hx hb dX3_doubtful_217 hl (k := 9) rfl (nI_add z 1) (by decide) rfl (fun ls hl => ?_)
                    refine lv_goto (tgt := 127) hx hb dX3_doubtful_220 (by decide) ?_
                    have kx := kx
                    rw [show dbJ ne nw bf db (hd i) (rp i) (rq i) x y (nn + 1) z sm = dbJ ne nw bf db (hd i) (rp i) (rq i) x y nn (z + 1) true from by simp only [dbJ, c_1, c_2, c_3, c_15, c_16, c_19, c_22, ↓reduceIte, decide_true, decide_false, Bool.not_true, Bool.not_false, Bool.or_true, Bool.true_or, Bool.or_false, Bool.false_or, Bool.and_true, Bool.true_and, Bool.and_false, Bool.false_and, and_true, true_and, and_false, false_and, and_self, or_self, or_true, true_or, or_false, false_or, Bool.false_eq_true, Bool.true_eq_false, not_true_eq_false, not_false_eq_true, Bool.or_self, decide_eq_true_eq]] at kx
                    exact ih (z + 1) true (by omega) ls (lv_sub hl [3, 4, 5, 6, 7, 8, 9, 1, 0] rfl) kx
                  · refine lv_iload hx hb dX3_doubtful_177 (lv_at hl 0 rfl) ?_
                    refine hx_if0 (tgt := 214) hx hb dX3_doubtful_179 (by decide) (by omega) (fun c_23 => ?_) (fun c_23 => ?_)
                    · exact absurd c_23 (by omega)
                    · refine lv_aload_n hx hb dX3_doubtful_182 rfl (lv_at hl 1 rfl) ?_
                      refine lv_iload hx hb dX3_doubtful_183 (lv_at hl 5 rfl) ?_
                      refine lv_iload hx hb dX3_doubtful_185 (lv_at hl 6 rfl) ?_
                      refine lv_iload_n hx hb dX3_doubtful_187 rfl (lv_at hl 3 rfl) ?_
                      refine lv_iload hx hb dX3_doubtful_188 (lv_at hl 9 rfl) ?_
                      refine hx_read (va_runV (As := [.int (nI (hd i)), .int (nI (rp i)), .int (nI x), .int (nI z)]) (rest := []) ⟨hx, hb, hml, hown, hts⟩ (c_X3_lost l dC dI b cB n hd fm rp rq nw bf db sg wt ne dn (hd i) (rp i) x z (by omega) (by omega) (by omega) (by omega)) (cwV 4 hts gX3_doubtful_X3_lost rfl rfl rfl (by decide +kernel) ⟨Nat.le_of_ble_eq_true rfl, Nat.le_of_ble_eq_true rfl⟩) (rd_V nstW_ok hP hK hN 0 rfl rfl _) rfl rfl hl.1 rfl (lv_room (Nat.le_of_ble_eq_true rfl)) dX3_doubtful_190 ⟨Nat.zero_le _, Nat.zero_le _⟩) ?_
                      refine hx_ifnB (tgt := 210) hx hb dX3_doubtful_193 (by decide) (fun c_24 => ?_) (fun c_24 => ?_)
                      · refine lv_iconst (v := nI 1) hx hb dX3_doubtful_210 (by decide) ?_
                        refine lv_goto (tgt := 215) hx hb dX3_doubtful_211 (by decide) ?_
                        refine lv_istore (lv' := [(7, .int (nI 1)), (9, .int (nI 1)), (0, .ref (b 0)), (1, .int (nI i)), (2, .int (nI x)), (3, .int (nI y)), (4, .int (nI (hd i))), (5, .int (nI (rp i))), (6, .int (nI (rq i))), (8, .int (nI z))]) hx hb dX3_doubtful_215 hl (by decide) rfl (fun ls hl => ?_)
                        refine lv_iinc (v := nI (z + 1)) (lv' := [(8, .int (nI (z + 1))), (7, .int (nI 1)), (9, .int (nI 1)), (0, .ref (b 0)), (1, .int (nI i)), (2, .int (nI x)), (3, .int (nI y)), (4, .int (nI (hd i))), (5, .int (nI (rp i))), (6, .int (nI (rq i)))]) hx hb dX3_doubtful_217 hl (k := 9) rfl (nI_add z 1) (by decide) rfl (fun ls hl => ?_)
                        refine lv_goto (tgt := 127) hx hb dX3_doubtful_220 (by decide) ?_
                        have kx := kx
                        rw [show dbJ ne nw bf db (hd i) (rp i) (rq i) x y (nn + 1) z sm = dbJ ne nw bf db (hd i) (rp i) (rq i) x y nn (z + 1) true from by simp only [dbJ, c_1, c_2, c_3, c_15, c_16, c_19, c_22, c_23, c_24, ↓reduceIte, decide_true, decide_false, Bool.not_true, Bool.not_false, Bool.or_true, Bool.true_or, Bool.or_false, Bool.false_or, Bool.and_true, Bool.true_and, Bool.and_false, Bool.false_and, and_true, true_and, and_false, false_and, and_self, or_self, or_true, true_or, or_false, false_or, Bool.false_eq_true, Bool.true_eq_false, not_true_eq_false, not_false_eq_true, Bool.or_self, decide_eq_true_eq]] at kx
                        exact ih (z + 1) true (by omega) ls (lv_sub hl [3, 4, 5, 6, 7, 8, 9, 1, 0] rfl) kx
                      · refine lv_aload_n hx hb dX3_doubtful_196 rfl (lv_at hl 1 rfl) ?_
                        refine lv_iload hx hb dX3_doubtful_197 (lv_at hl 5 rfl) ?_
                        refine lv_iload hx hb dX3_doubtful_199 (lv_at hl 7 rfl) ?_
                        refine lv_iload hx hb dX3_doubtful_201 (lv_at hl 9 rfl) ?_
                        refine lv_iload_n hx hb dX3_doubtful_203 rfl (lv_at hl 4 rfl) ?_
                        refine hx_read (va_runV (As := [.int (nI (hd i)), .int (nI (rq i)), .int (nI z), .int (nI y)]) (rest := []) ⟨hx, hb, hml, hown, hts⟩ (c_X3_lost l dC dI b cB n hd fm rp rq nw bf db sg wt ne dn (hd i) (rq i) z y (by omega) (by omega) (by omega) (by omega)) (cwV 4 hts gX3_doubtful_X3_lost rfl rfl rfl (by decide +kernel) ⟨Nat.le_of_ble_eq_true rfl, Nat.le_of_ble_eq_true rfl⟩) (rd_V nstW_ok hP hK hN 0 rfl rfl _) rfl rfl hl.1 rfl (lv_room (Nat.le_of_ble_eq_true rfl)) dX3_doubtful_204 ⟨Nat.zero_le _, Nat.zero_le _⟩) ?_
                        refine hx_ifB (tgt := 214) hx hb dX3_doubtful_207 (by decide) (fun c_25 => ?_) (fun c_25 => ?_)
                        · refine lv_iconst (v := nI 0) hx hb dX3_doubtful_214 (by decide) ?_
                          refine lv_istore (lv' := [(7, .int (nI 0)), (9, .int (nI 1)), (0, .ref (b 0)), (1, .int (nI i)), (2, .int (nI x)), (3, .int (nI y)), (4, .int (nI (hd i))), (5, .int (nI (rp i))), (6, .int (nI (rq i))), (8, .int (nI z))]) hx hb dX3_doubtful_215 hl (by decide) rfl (fun ls hl => ?_)
                          refine lv_iinc (v := nI (z + 1)) (lv' := [(8, .int (nI (z + 1))), (7, .int (nI 0)), (9, .int (nI 1)), (0, .ref (b 0)), (1, .int (nI i)), (2, .int (nI x)), (3, .int (nI y)), (4, .int (nI (hd i))), (5, .int (nI (rp i))), (6, .int (nI (rq i)))]) hx hb dX3_doubtful_217 hl (k := 9) rfl (nI_add z 1) (by decide) rfl (fun ls hl => ?_)
                          refine lv_goto (tgt := 127) hx hb dX3_doubtful_220 (by decide) ?_
                          have kx := kx
                          rw [show dbJ ne nw bf db (hd i) (rp i) (rq i) x y (nn + 1) z sm = dbJ ne nw bf db (hd i) (rp i) (rq i) x y nn (z + 1) false from by simp only [dbJ, c_1, c_2, c_3, c_15, c_16, c_19, c_22, c_23, c_24, c_25, ↓reduceIte, decide_true, decide_false, Bool.not_true, Bool.not_false, Bool.or_true, Bool.true_or, Bool.or_false, Bool.false_or, Bool.and_true, Bool.true_and, Bool.and_false, Bool.false_and, and_true, true_and, and_false, false_and, and_self, or_self, or_true, true_or, or_false, false_or, Bool.false_eq_true, Bool.true_eq_false, not_true_eq_false, not_false_eq_true, Bool.or_self, decide_eq_true_eq]] at kx
                          exact ih (z + 1) false (by omega) ls (lv_sub hl [3, 4, 5, 6, 7, 8, 9, 1, 0] rfl) kx
                        · refine lv_iconst (v := nI 1) hx hb dX3_doubtful_210 (by decide) ?_
                          refine lv_goto (tgt := 215) hx hb dX3_doubtful_211 (by decide) ?_
                          refine lv_istore (lv' := [(7, .int (nI 1)), (9, .int (nI 1)), (0, .ref (b 0)), (1, .int (nI i)), (2, .int (nI x)), (3, .int (nI y)), (4, .int (nI (hd i))), (5, .int (nI (rp i))), (6, .int (nI (rq i))), (8, .int (nI z))]) hx hb dX3_doubtful_215 hl (by decide) rfl (fun ls hl => ?_)
                          refine lv_iinc (v := nI (z + 1)) (lv' := [(8, .int (nI (z + 1))), (7, .int (nI 1)), (9, .int (nI 1)), (0, .ref (b 0)), (1, .int (nI i)), (2, .int (nI x)), (3, .int (nI y)), (4, .int (nI (hd i))), (5, .int (nI (rp i))), (6, .int (nI (rq i)))]) hx hb dX3_doubtful_217 hl (k := 9) rfl (nI_add z 1) (by decide) rfl (fun ls hl => ?_)
                          refine lv_goto (tgt := 127) hx hb dX3_doubtful_220 (by decide) ?_
                          have kx := kx
                          rw [show dbJ ne nw bf db (hd i) (rp i) (rq i) x y (nn + 1) z sm = dbJ ne nw bf db (hd i) (rp i) (rq i) x y nn (z + 1) true from by simp only [dbJ, c_1, c_2, c_3, c_15, c_16, c_19, c_22, c_23, c_24, c_25, ↓reduceIte, decide_true, decide_false, Bool.not_true, Bool.not_false, Bool.or_true, Bool.true_or, Bool.or_false, Bool.false_or, Bool.and_true, Bool.true_and, Bool.and_false, Bool.false_and, and_true, true_and, and_false, false_and, and_self, or_self, or_true, true_or, or_false, false_or, Bool.false_eq_true, Bool.true_eq_false, not_true_eq_false, not_false_eq_true, Bool.or_self, decide_eq_true_eq]] at kx
                          exact ih (z + 1) true (by omega) ls (lv_sub hl [3, 4, 5, 6, 7, 8, 9, 1, 0] rfl) kx
        refine L_127_12 5 0 false (by omega) ls (lv_sub hl [5, 6, 7, 8, 4, 3, 2, 1, 0] rfl) (fun ls hl => ?_)
        have hl : lv_has ls 10 [(0, .ref (b 0)), (1, .int (nI i)), (2, .int (nI x)), (3, .int (nI y)), (4, .int (nI (hd i))), (5, .int (nI (rp i))), (6, .int (nI (rq i))), (7, .int (bI (dbJ ne nw bf db (hd i) (rp i) (rq i) x y 5 0 false))), (8, .int (nI 5))] := hl
        refine lv_iload hx hb dX3_doubtful_223 (lv_at hl 7 rfl) ?_
        exact W.zret (v := bI (dbJ ne nw bf db (hd i) (rp i) (rq i) x y 5 0 false)) hx hb hr (nar_bI _) (fun t ht hW => ⟨_, rfl, by rw [show dbM ne nw bf db (hd i) (fm i) (rp i) (rq i) x y = dbJ ne nw bf db (hd i) (rp i) (rq i) x y 5 0 false from by simp [dbM, c_1, c_2, c_3]], ht⟩) (fun _ h => by cases h) dX3_doubtful_225
    · refine lv_aload_n hx hb dX3_doubtful_77 rfl (lv_at hl 3 rfl) ?_
      refine va_get (D := (dC, dI)) (ci := 3) (v := .ref (b 6)) (C := RX3) (T := TX3) (N := 12) hx hb hts in_X3 hown hK hP 0 rfl rfl 6 (by decide) lf_25 (fun _ h9 => h9) rfl dX3_doubtful_78 ?_
      refine lv_iload hx hb dX3_doubtful_81 (lv_at hl 1 rfl) ?_
      refine hx_iald hx hb hK hP 6 5 rfl rfl (by omega) (by omega) dX3_doubtful_83 ?_
      refine lv_iload_n hx hb dX3_doubtful_84 rfl (lv_at hl 6 rfl) ?_
      refine lv_iload_n hx hb dX3_doubtful_85 rfl (lv_at hl 5 rfl) ?_
      refine hx_read (va_runS (As := [.int (bf (rp i)), .int (nI y), .int (nI x)]) (rest := []) ⟨hx, hb, hml, hown, hts⟩ (c_X3_in l (bf (rp i)) y x (by omega) (by omega)) (va_cwS 3 hts gX3_doubtful_X3_in rfl rfl rfl (by decide +kernel) ⟨Nat.le_of_ble_eq_true rfl, Nat.le_of_ble_eq_true rfl⟩) (nu_S _) rfl rfl hl.1 rfl (lv_room (Nat.le_of_ble_eq_true rfl)) dX3_doubtful_86 ⟨Nat.zero_le _, Nat.zero_le _⟩) ?_
      refine hx_ifB (tgt := 109) hx hb dX3_doubtful_89 (by decide) (fun c_26 => ?_) (fun c_26 => ?_)
      · refine lv_iconst (v := nI 0) hx hb dX3_doubtful_109 (by decide) ?_
        exact W.zret (v := nI 0) hx hb hr rfl (fun t ht hW => ⟨_, rfl, by rw [show dbM ne nw bf db (hd i) (fm i) (rp i) (rq i) x y = false from by simp [dbM, c_1, c_2, c_26]]; rfl, ht⟩) (fun _ h => by cases h) dX3_doubtful_110
      · refine lv_aload_n hx hb dX3_doubtful_92 rfl (lv_at hl 3 rfl) ?_
        refine lv_iload hx hb dX3_doubtful_93 (lv_at hl 2 rfl) ?_
        refine lv_iload hx hb dX3_doubtful_95 (lv_at hl 1 rfl) ?_
        refine lv_iload_n hx hb dX3_doubtful_97 rfl (lv_at hl 6 rfl) ?_
        refine lv_iload_n hx hb dX3_doubtful_98 rfl (lv_at hl 5 rfl) ?_
        refine hx_read (va_runV (As := [.int (nI (hd i)), .int (nI (rp i)), .int (nI y), .int (nI x)]) (rest := []) ⟨hx, hb, hml, hown, hts⟩ (c_X3_lost l dC dI b cB n hd fm rp rq nw bf db sg wt ne dn (hd i) (rp i) y x (by omega) (by omega) (by omega) (by omega)) (cwV 4 hts gX3_doubtful_X3_lost rfl rfl rfl (by decide +kernel) ⟨Nat.le_of_ble_eq_true rfl, Nat.le_of_ble_eq_true rfl⟩) (rd_V nstW_ok hP hK hN 0 rfl rfl _) rfl rfl hl.1 rfl (lv_room (Nat.le_of_ble_eq_true rfl)) dX3_doubtful_99 ⟨Nat.zero_le _, Nat.zero_le _⟩) ?_
        refine hx_ifB (tgt := 109) hx hb dX3_doubtful_102 (by decide) (fun c_27 => ?_) (fun c_27 => ?_)
        · refine lv_iconst (v := nI 0) hx hb dX3_doubtful_109 (by decide) ?_
          exact W.zret (v := nI 0) hx hb hr rfl (fun t ht hW => ⟨_, rfl, by rw [show dbM ne nw bf db (hd i) (fm i) (rp i) (rq i) x y = false from by simp [dbM, c_1, c_2, c_26, c_27]]; rfl, ht⟩) (fun _ h => by cases h) dX3_doubtful_110
        · refine lv_iconst (v := nI 1) hx hb dX3_doubtful_105 (by decide) ?_
          refine lv_goto (tgt := 110) hx hb dX3_doubtful_106 (by decide) ?_
          exact W.zret (v := nI 1) hx hb hr rfl (fun t ht hW => ⟨_, rfl, by rw [show dbM ne nw bf db (hd i) (fm i) (rp i) (rq i) x y = true from by simp [dbM, c_1, c_2, c_26, c_27]]; rfl, ht⟩) (fun _ h => by cases h) dX3_doubtful_110
  · refine lv_aload_n hx hb dX3_doubtful_33 rfl (lv_at hl 3 rfl) ?_
    refine va_get (D := (dC, dI)) (ci := 3) (v := .ref (b 6)) (C := RX3) (T := TX3) (N := 12) hx hb hts in_X3 hown hK hP 0 rfl rfl 6 (by decide) lf_25 (fun _ h9 => h9) rfl dX3_doubtful_34 ?_
    refine lv_iload hx hb dX3_doubtful_37 (lv_at hl 1 rfl) ?_
    refine hx_iald hx hb hK hP 6 5 rfl rfl (by omega) (by omega) dX3_doubtful_39 ?_
    refine lv_iload_n hx hb dX3_doubtful_40 rfl (lv_at hl 5 rfl) ?_
    refine lv_iload_n hx hb dX3_doubtful_41 rfl (lv_at hl 6 rfl) ?_
    refine hx_read (va_runS (As := [.int (bf (rp i)), .int (nI x), .int (nI y)]) (rest := []) ⟨hx, hb, hml, hown, hts⟩ (c_X3_in l (bf (rp i)) x y (by omega) (by omega)) (va_cwS 3 hts gX3_doubtful_X3_in rfl rfl rfl (by decide +kernel) ⟨Nat.le_of_ble_eq_true rfl, Nat.le_of_ble_eq_true rfl⟩) (nu_S _) rfl rfl hl.1 rfl (lv_room (Nat.le_of_ble_eq_true rfl)) dX3_doubtful_42 ⟨Nat.zero_le _, Nat.zero_le _⟩) ?_
    refine hx_ifB (tgt := 65) hx hb dX3_doubtful_45 (by decide) (fun c_28 => ?_) (fun c_28 => ?_)
    · refine lv_iconst (v := nI 0) hx hb dX3_doubtful_65 (by decide) ?_
      exact W.zret (v := nI 0) hx hb hr rfl (fun t ht hW => ⟨_, rfl, by rw [show dbM ne nw bf db (hd i) (fm i) (rp i) (rq i) x y = false from by simp [dbM, c_1, c_28]]; rfl, ht⟩) (fun _ h => by cases h) dX3_doubtful_66
    · refine lv_aload_n hx hb dX3_doubtful_48 rfl (lv_at hl 3 rfl) ?_
      refine lv_iload hx hb dX3_doubtful_49 (lv_at hl 2 rfl) ?_
      refine lv_iload hx hb dX3_doubtful_51 (lv_at hl 1 rfl) ?_
      refine lv_iload_n hx hb dX3_doubtful_53 rfl (lv_at hl 5 rfl) ?_
      refine lv_iload_n hx hb dX3_doubtful_54 rfl (lv_at hl 6 rfl) ?_
      refine hx_read (va_runV (As := [.int (nI (hd i)), .int (nI (rp i)), .int (nI x), .int (nI y)]) (rest := []) ⟨hx, hb, hml, hown, hts⟩ (c_X3_lost l dC dI b cB n hd fm rp rq nw bf db sg wt ne dn (hd i) (rp i) x y (by omega) (by omega) (by omega) (by omega)) (cwV 4 hts gX3_doubtful_X3_lost rfl rfl rfl (by decide +kernel) ⟨Nat.le_of_ble_eq_true rfl, Nat.le_of_ble_eq_true rfl⟩) (rd_V nstW_ok hP hK hN 0 rfl rfl _) rfl rfl hl.1 rfl (lv_room (Nat.le_of_ble_eq_true rfl)) dX3_doubtful_55 ⟨Nat.zero_le _, Nat.zero_le _⟩) ?_
      refine hx_ifB (tgt := 65) hx hb dX3_doubtful_58 (by decide) (fun c_29 => ?_) (fun c_29 => ?_)
      · refine lv_iconst (v := nI 0) hx hb dX3_doubtful_65 (by decide) ?_
        exact W.zret (v := nI 0) hx hb hr rfl (fun t ht hW => ⟨_, rfl, by rw [show dbM ne nw bf db (hd i) (fm i) (rp i) (rq i) x y = false from by simp [dbM, c_1, c_28, c_29]]; rfl, ht⟩) (fun _ h => by cases h) dX3_doubtful_66
      · refine lv_iconst (v := nI 1) hx hb dX3_doubtful_61 (by decide) ?_
        refine lv_goto (tgt := 66) hx hb dX3_doubtful_62 (by decide) ?_
        exact W.zret (v := nI 1) hx hb hr rfl (fun t ht hW => ⟨_, rfl, by rw [show dbM ne nw bf db (hd i) (fm i) (rp i) (rq i) x y = true from by simp [dbM, c_1, c_28, c_29]]; rfl, ht⟩) (fun _ h => by cases h) dX3_doubtful_66
set_option maxHeartbeats 4000000 in
set_option maxRecDepth 100000 in
theorem c_X3_suspectMore (l : Launch) (dC : Nat → ClassId) (dI : Nat → Nat → Nat) (b : Nat → Nat) (cB : Nat → ClassId) (n : Nat) (hd fm rp rq : Nat → Nat) (nw bf db sg wt : Nat → Int32) (ne dn : Nat → Bool) (hy_0 : ruOk n hd fm rp rq) : WrI l yX3_suspectMore wsX3_suspectMore ({ frames := 3, cells := 0, slots := 0, locals := 76 }) (dC, dI) vwCl (mdW b cB n hd fm rp rq nw bf db sg wt ne dn) (mdW b cB n hd fm rp rq nw bf ((smF hd fm rp rq ne nw bf n 0 db false).1) sg wt ne dn) (mdT cB) nstW [.ref (b 0)] (bI ((smF hd fm rp rq ne nw bf n 0 db false).2)) := by
  intro sz
  refine Met.ofW (cc := cX3_suspectMore) (maxL := 6) (ret := (some .boolean)) (by decide) rfl ?_
  intro p e s m args below meth c s₁ B hml hv
  obtain ⟨rfl, hsz, ⟨hP, hK, hN⟩, hD0⟩ := hv
  subst hsz
  have hx := B.exec
  have hb := B.bytes
  have hr := B.returns
  have hts := atoms_spec (ws := wsX3_suspectMore) B.pre
  have hown : s.vm.findClass RX3 = some m.cls := findClass_of_methodNamed B.named
  have hlocks := B.notSynchronized
  obtain ⟨A, hAe⟩ : ∃ A, A = va_A (mdW b cB n hd fm rp rq nw bf db sg wt ne dn) s.heap.size := ⟨_, rfl⟩
  have hD : va_D A (mdW b cB n hd fm rp rq nw bf db sg wt ne dn) := by rw [hAe]; exact hD0.self (sz := s.heap.size)
  have hA : ∀ q : Nat, s.heap.size ≤ q → A q := fun q h => by rw [hAe]; exact Or.inr h
  have hS : va_S A s.heap s.heap [] := va_S.rf
  have hP : va_P (dC, dI) vwCl (mdW b cB n hd fm rp rq nw bf db sg wt ne dn) s.heap := hP
  obtain ⟨hn12, hru⟩ := id hy_0
  have lf_44 := hts (.fieldLink RX3 44 "ViewKeeperModel" "count" "I") (by decide +kernel)
  have in_X3 : ∀ w ∈ u_ws RX3 TX3 12, w ∈ wsX3_suspectMore := by decide +kernel
  have lf_7 := hts (.fieldLink RX3 7 "ViewKeeperModel" "heads" "[I") (by decide +kernel)
  have lf_37 := hts (.fieldLink RX3 37 "ViewKeeperModel" "need" "[Z") (by decide +kernel)
  have lf_28 := hts (.fieldLink RX3 28 "ViewKeeperModel" "doubt" "[I") (by decide +kernel)
  have hl := lv_entry ([.ref (b 0)]) (n := 6) (Nat.le_of_ble_eq_true rfl)
  rw [lg_entry_eq]
  generalize (lg_sl ([.ref (b 0)]) ++ List.replicate (6 - (lg_sl ([.ref (b 0)])).length) Slot.unset).toArray = ls at hl ⊢
  have hl : lv_has ls 6 [(0, .ref (b 0))] := hl
  refine lv_iconst (v := nI 0) hx hb dX3_suspectMore_0 (by decide) ?_
  refine lv_istore_n (lv' := [(1, .int (nI 0)), (0, .ref (b 0))]) hx hb dX3_suspectMore_1 rfl hl (by decide) rfl (fun ls hl => ?_)
  refine lv_iconst (v := nI 0) hx hb dX3_suspectMore_2 (by decide) ?_
  refine lv_istore_n (lv' := [(2, .int (nI 0)), (1, .int (nI 0)), (0, .ref (b 0))]) hx hb dX3_suspectMore_3 rfl hl (by decide) rfl (fun ls hl => ?_)
  have L_4_0 : ∀ (nn : Nat) (i : Nat) (more : Bool) (db1 : Nat → Int32), i + nn = n → ∀ (H : Heap) (locs : List Loc), va_P (dC, dI) vwCl (mdW b cB n hd fm rp rq nw bf db1 sg wt ne dn) H → va_D A (mdW b cB n hd fm rp rq nw bf db1 sg wt ne dn) → va_S A s.heap H locs → ∀ ls : Array Slot, lv_has ls 6 [(0, .ref (b 0)), (1, .int (bI more)), (2, .int (nI i))] → (∀ (H : Heap) (locs : List Loc), va_P (dC, dI) vwCl (mdW b cB n hd fm rp rq nw bf ((smF hd fm rp rq ne nw bf nn i db1 more).1) sg wt ne dn) H → va_D A (mdW b cB n hd fm rp rq nw bf ((smF hd fm rp rq ne nw bf nn i db1 more).1) sg wt ne dn) → va_S A s.heap H locs → ∀ ls : Array Slot, lv_has ls 6 [(0, .ref (b 0)), (1, .int (bI ((smF hd fm rp rq ne nw bf nn i db1 more).2))), (2, .int (nI n))] → W p l e (headSpec wsX3_suspectMore ({ frames := 3, cells := 0, slots := 0, locals := 76 })).room s m ([.ref (b 0)] : List Value).toArray below meth c H locs 0 0 (MQ below (va_Qi (fun (rz9 : Int32) (_ : Unit) => rz9 = (bI ((smF hd fm rp rq ne nw bf n 0 db false).2))) (wrB (dC, dI) vwCl (mdW b cB n hd fm rp rq nw bf db sg wt ne dn) (mdW b cB n hd fm rp rq nw bf ((smF hd fm rp rq ne nw bf n 0 db false).1) sg wt ne dn) (mdT cB) s.heap.size) (va_A (mdW b cB n hd fm rp rq nw bf db sg wt ne dn) s.heap.size)) ([.ref (b 0)] : List Value).toArray s 0 0 (va_A (mdW b cB n hd fm rp rq nw bf db sg wt ne dn) s.heap.size)) (F0 m 117 ls [])) → W p l e (headSpec wsX3_suspectMore ({ frames := 3, cells := 0, slots := 0, locals := 76 })).room s m ([.ref (b 0)] : List Value).toArray below meth c H locs 0 0 (MQ below (va_Qi (fun (rz9 : Int32) (_ : Unit) => rz9 = (bI ((smF hd fm rp rq ne nw bf n 0 db false).2))) (wrB (dC, dI) vwCl (mdW b cB n hd fm rp rq nw bf db sg wt ne dn) (mdW b cB n hd fm rp rq nw bf ((smF hd fm rp rq ne nw bf n 0 db false).1) sg wt ne dn) (mdT cB) s.heap.size) (va_A (mdW b cB n hd fm rp rq nw bf db sg wt ne dn) s.heap.size)) ([.ref (b 0)] : List Value).toArray s 0 0 (va_A (mdW b cB n hd fm rp rq nw bf db sg wt ne dn) s.heap.size)) (F0 m 4 ls []) := by
    intro nn
    induction nn with
    | zero =>
      intro i more db1 hn_i H locs hP hD hS ls hl kx
      obtain rfl : n = i := by omega
      refine lv_iload_n hx hb dX3_suspectMore_4 rfl (lv_at hl 2 rfl) ?_
      refine lv_aload_n hx hb dX3_suspectMore_5 rfl (lv_at hl 0 rfl) ?_
      refine va_get (D := (dC, dI)) (ci := 3) (v := .int (nI n)) (C := RX3) (T := TX3) (N := 12) hx hb hts in_X3 hown hK hP 0 rfl rfl 0 (by decide) lf_44 (fun _ h9 => h9) rfl dX3_suspectMore_6 ?_
      refine hx_geN (tgt := 117) hx hb dX3_suspectMore_9 (by decide) (by omega) (by omega) (fun c_2 => ?_) (fun c_2 => ?_)
      · exact kx _ _ hP hD hS ls (lv_sub hl [0, 1, 2] rfl)
      · exact absurd c_2 (by omega)
    | succ nn ih =>
      intro i more db1 hn_i H locs hP hD hS ls hl kx
      refine lv_iload_n hx hb dX3_suspectMore_4 rfl (lv_at hl 2 rfl) ?_
      refine lv_aload_n hx hb dX3_suspectMore_5 rfl (lv_at hl 0 rfl) ?_
      refine va_get (D := (dC, dI)) (ci := 3) (v := .int (nI n)) (C := RX3) (T := TX3) (N := 12) hx hb hts in_X3 hown hK hP 0 rfl rfl 0 (by decide) lf_44 (fun _ h9 => h9) rfl dX3_suspectMore_6 ?_
      refine hx_geN (tgt := 117) hx hb dX3_suspectMore_9 (by decide) (by omega) (by omega) (fun c_3 => ?_) (fun c_3 => ?_)
      · exact absurd c_3 (by omega)
      · have hr9 := hru i (by omega)
        refine lv_aload_n hx hb dX3_suspectMore_12 rfl (lv_at hl 0 rfl) ?_
        refine va_get (D := (dC, dI)) (ci := 3) (v := .ref (b 1)) (C := RX3) (T := TX3) (N := 12) hx hb hts in_X3 hown hK hP 0 rfl rfl 1 (by decide) lf_7 (fun _ h9 => h9) rfl dX3_suspectMore_13 ?_
        refine lv_iload_n hx hb dX3_suspectMore_16 rfl (lv_at hl 2 rfl) ?_
        refine hx_ialdN hx hb hK hP 1 0 rfl rfl (by omega) (by omega) dX3_suspectMore_17 ?_
        refine lv_istore_n (lv' := [(3, .int (nI (hd i))), (0, .ref (b 0)), (1, .int (bI more)), (2, .int (nI i))]) hx hb dX3_suspectMore_18 rfl hl (by decide) rfl (fun ls hl => ?_)
        refine lv_iconst (v := nI 0) hx hb dX3_suspectMore_19 (by decide) ?_
        refine lv_istore (lv' := [(4, .int (nI 0)), (3, .int (nI (hd i))), (0, .ref (b 0)), (1, .int (bI more)), (2, .int (nI i))]) hx hb dX3_suspectMore_20 hl (by decide) rfl (fun ls hl => ?_)
        have L_22_3 : ∀ (nn : Nat) (x : Nat) (more2 : Bool) (db2 : Nat → Int32), x + nn = 5 → ∀ (H : Heap) (locs : List Loc), va_P (dC, dI) vwCl (mdW b cB n hd fm rp rq nw bf db2 sg wt ne dn) H → va_D A (mdW b cB n hd fm rp rq nw bf db2 sg wt ne dn) → va_S A s.heap H locs → ∀ ls : Array Slot, lv_has ls 6 [(0, .ref (b 0)), (1, .int (bI more2)), (2, .int (nI i)), (3, .int (nI (hd i))), (4, .int (nI x))] → (∀ (H : Heap) (locs : List Loc), va_P (dC, dI) vwCl (mdW b cB n hd fm rp rq nw bf ((smX ne nw bf (hd i) (fm i) (rp i) (rq i) nn x db2 more2).1) sg wt ne dn) H → va_D A (mdW b cB n hd fm rp rq nw bf ((smX ne nw bf (hd i) (fm i) (rp i) (rq i) nn x db2 more2).1) sg wt ne dn) → va_S A s.heap H locs → ∀ ls : Array Slot, lv_has ls 6 [(0, .ref (b 0)), (1, .int (bI ((smX ne nw bf (hd i) (fm i) (rp i) (rq i) nn x db2 more2).2))), (2, .int (nI i)), (3, .int (nI (hd i)))] → W p l e (headSpec wsX3_suspectMore ({ frames := 3, cells := 0, slots := 0, locals := 76 })).room s m ([.ref (b 0)] : List Value).toArray below meth c H locs 0 0 (MQ below (va_Qi (fun (rz9 : Int32) (_ : Unit) => rz9 = (bI ((smF hd fm rp rq ne nw bf n 0 db false).2))) (wrB (dC, dI) vwCl (mdW b cB n hd fm rp rq nw bf db sg wt ne dn) (mdW b cB n hd fm rp rq nw bf ((smF hd fm rp rq ne nw bf n 0 db false).1) sg wt ne dn) (mdT cB) s.heap.size) (va_A (mdW b cB n hd fm rp rq nw bf db sg wt ne dn) s.heap.size)) ([.ref (b 0)] : List Value).toArray s 0 0 (va_A (mdW b cB n hd fm rp rq nw bf db sg wt ne dn) s.heap.size)) (F0 m 111 ls [])) → W p l e (headSpec wsX3_suspectMore ({ frames := 3, cells := 0, slots := 0, locals := 76 })).room s m ([.ref (b 0)] : List Value).toArray below meth c H locs 0 0 (MQ below (va_Qi (fun (rz9 : Int32) (_ : Unit) => rz9 = (bI ((smF hd fm rp rq ne nw bf n 0 db false).2))) (wrB (dC, dI) vwCl (mdW b cB n hd fm rp rq nw bf db sg wt ne dn) (mdW b cB n hd fm rp rq nw bf ((smF hd fm rp rq ne nw bf n 0 db false).1) sg wt ne dn) (mdT cB) s.heap.size) (va_A (mdW b cB n hd fm rp rq nw bf db sg wt ne dn) s.heap.size)) ([.ref (b 0)] : List Value).toArray s 0 0 (va_A (mdW b cB n hd fm rp rq nw bf db sg wt ne dn) s.heap.size)) (F0 m 22 ls []) := by
          intro nn
          induction nn with
          | zero =>
            intro x more2 db2 hn_x H locs hP hD hS ls hl kx
            obtain rfl : x = 5 := by omega
            refine lv_iload hx hb dX3_suspectMore_22 (lv_at hl 4 rfl) ?_
            refine lv_iconst (v := nI 5) hx hb dX3_suspectMore_24 (by decide) ?_
            refine hx_geN (tgt := 111) hx hb dX3_suspectMore_25 (by decide) (by omega) (by omega) (fun c_5 => ?_) (fun c_5 => ?_)
            · exact kx _ _ hP hD hS ls (lv_sub hl [0, 1, 2, 3] rfl)
            · exact absurd c_5 (by omega)
          | succ nn ih =>
            intro x more2 db2 hn_x H locs hP hD hS ls hl kx
            refine lv_iload hx hb dX3_suspectMore_22 (lv_at hl 4 rfl) ?_
            refine lv_iconst (v := nI 5) hx hb dX3_suspectMore_24 (by decide) ?_
            refine hx_geN (tgt := 111) hx hb dX3_suspectMore_25 (by decide) (by omega) (by omega) (fun c_6 => ?_) (fun c_6 => ?_)
            · exact absurd c_6 (by omega)
            · refine lv_aload_n hx hb dX3_suspectMore_28 rfl (lv_at hl 0 rfl) ?_
              refine va_get (D := (dC, dI)) (ci := 3) (v := .ref (b 10)) (C := RX3) (T := TX3) (N := 12) hx hb hts in_X3 hown hK hP 0 rfl rfl 10 (by decide) lf_37 (fun _ h9 => h9) rfl dX3_suspectMore_29 ?_
              refine lv_bipush (v := nI 8) hx hb dX3_suspectMore_32 (by decide) ?_
              refine lv_iload_n hx hb dX3_suspectMore_34 rfl (lv_at hl 3 rfl) ?_
              refine hx_imul hx hb dX3_suspectMore_35 ?_
              refine hx_zald hx hb hK hP 10 9 rfl rfl (by omega) (by omega) dX3_suspectMore_36 ?_
              refine hx_ifB (tgt := 111) hx hb dX3_suspectMore_37 (by decide) (fun c_7 => ?_) (fun c_7 => ?_)
              · have kx := kx
                rw [show (smX ne nw bf (hd i) (fm i) (rp i) (rq i) (nn + 1) x db2 more2).2 = more2 from by simp only [smX, c_3, c_6, c_7, ↓reduceIte, decide_true, decide_false, Bool.not_true, Bool.not_false, Bool.or_true, Bool.true_or, Bool.or_false, Bool.false_or, Bool.and_true, Bool.true_and, Bool.and_false, Bool.false_and, and_true, true_and, and_false, false_and, and_self, or_self, or_true, true_or, or_false, false_or, Bool.false_eq_true, Bool.true_eq_false, not_true_eq_false, not_false_eq_true, Bool.or_self, decide_eq_true_eq]] at kx
                rw [show (smX ne nw bf (hd i) (fm i) (rp i) (rq i) (nn + 1) x db2 more2).1 = db2 from by simp only [smX, c_3, c_6, c_7, ↓reduceIte, decide_true, decide_false, Bool.not_true, Bool.not_false, Bool.or_true, Bool.true_or, Bool.or_false, Bool.false_or, Bool.and_true, Bool.true_and, Bool.and_false, Bool.false_and, and_true, true_and, and_false, false_and, and_self, or_self, or_true, true_or, or_false, false_or, Bool.false_eq_true, Bool.true_eq_false, not_true_eq_false, not_false_eq_true, Bool.or_self, decide_eq_true_eq]] at kx
                exact kx _ _ hP hD hS ls (lv_sub hl [0, 1, 2, 3] rfl)
              · refine lv_iconst (v := nI 0) hx hb dX3_suspectMore_40 (by decide) ?_
                refine lv_istore (lv' := [(5, .int (nI 0)), (0, .ref (b 0)), (1, .int (bI more2)), (2, .int (nI i)), (3, .int (nI (hd i))), (4, .int (nI x))]) hx hb dX3_suspectMore_41 hl (by decide) rfl (fun ls hl => ?_)
                have L_43_7 : ∀ (nn : Nat) (y : Nat) (more3 : Bool) (db3 : Nat → Int32), y + nn = 5 → ∀ (H : Heap) (locs : List Loc), va_P (dC, dI) vwCl (mdW b cB n hd fm rp rq nw bf db3 sg wt ne dn) H → va_D A (mdW b cB n hd fm rp rq nw bf db3 sg wt ne dn) → va_S A s.heap H locs → ∀ ls : Array Slot, lv_has ls 6 [(0, .ref (b 0)), (1, .int (bI more3)), (2, .int (nI i)), (3, .int (nI (hd i))), (4, .int (nI x)), (5, .int (nI y))] → (∀ (H : Heap) (locs : List Loc), va_P (dC, dI) vwCl (mdW b cB n hd fm rp rq nw bf ((smY ne nw bf (hd i) (fm i) (rp i) (rq i) x nn y db3 more3).1) sg wt ne dn) H → va_D A (mdW b cB n hd fm rp rq nw bf ((smY ne nw bf (hd i) (fm i) (rp i) (rq i) x nn y db3 more3).1) sg wt ne dn) → va_S A s.heap H locs → ∀ ls : Array Slot, lv_has ls 6 [(0, .ref (b 0)), (1, .int (bI ((smY ne nw bf (hd i) (fm i) (rp i) (rq i) x nn y db3 more3).2))), (2, .int (nI i)), (3, .int (nI (hd i))), (4, .int (nI x)), (5, .int (nI 5))] → W p l e (headSpec wsX3_suspectMore ({ frames := 3, cells := 0, slots := 0, locals := 76 })).room s m ([.ref (b 0)] : List Value).toArray below meth c H locs 0 0 (MQ below (va_Qi (fun (rz9 : Int32) (_ : Unit) => rz9 = (bI ((smF hd fm rp rq ne nw bf n 0 db false).2))) (wrB (dC, dI) vwCl (mdW b cB n hd fm rp rq nw bf db sg wt ne dn) (mdW b cB n hd fm rp rq nw bf ((smF hd fm rp rq ne nw bf n 0 db false).1) sg wt ne dn) (mdT cB) s.heap.size) (va_A (mdW b cB n hd fm rp rq nw bf db sg wt ne dn) s.heap.size)) ([.ref (b 0)] : List Value).toArray s 0 0 (va_A (mdW b cB n hd fm rp rq nw bf db sg wt ne dn) s.heap.size)) (F0 m 105 ls [])) → W p l e (headSpec wsX3_suspectMore ({ frames := 3, cells := 0, slots := 0, locals := 76 })).room s m ([.ref (b 0)] : List Value).toArray below meth c H locs 0 0 (MQ below (va_Qi (fun (rz9 : Int32) (_ : Unit) => rz9 = (bI ((smF hd fm rp rq ne nw bf n 0 db false).2))) (wrB (dC, dI) vwCl (mdW b cB n hd fm rp rq nw bf db sg wt ne dn) (mdW b cB n hd fm rp rq nw bf ((smF hd fm rp rq ne nw bf n 0 db false).1) sg wt ne dn) (mdT cB) s.heap.size) (va_A (mdW b cB n hd fm rp rq nw bf db sg wt ne dn) s.heap.size)) ([.ref (b 0)] : List Value).toArray s 0 0 (va_A (mdW b cB n hd fm rp rq nw bf db sg wt ne dn) s.heap.size)) (F0 m 43 ls []) := by
                  intro nn
                  induction nn with
                  | zero =>
                    intro y more3 db3 hn_y H locs hP hD hS ls hl kx
                    obtain rfl : y = 5 := by omega
                    refine lv_iload hx hb dX3_suspectMore_43 (lv_at hl 5 rfl) ?_
                    refine lv_iconst (v := nI 5) hx hb dX3_suspectMore_45 (by decide) ?_
                    refine hx_geN (tgt := 105) hx hb dX3_suspectMore_46 (by decide) (by omega) (by omega) (fun c_9 => ?_) (fun c_9 => ?_)
                    · exact kx _ _ hP hD hS ls (lv_sub hl [0, 1, 2, 3, 4, 5] rfl)
                    · exact absurd c_9 (by omega)
                  | succ nn ih =>
                    intro y more3 db3 hn_y H locs hP hD hS ls hl kx
                    refine lv_iload hx hb dX3_suspectMore_43 (lv_at hl 5 rfl) ?_
                    refine lv_iconst (v := nI 5) hx hb dX3_suspectMore_45 (by decide) ?_
                    refine hx_geN (tgt := 105) hx hb dX3_suspectMore_46 (by decide) (by omega) (by omega) (fun c_10 => ?_) (fun c_10 => ?_)
                    · exact absurd c_10 (by omega)
                    · refine lv_aload_n hx hb dX3_suspectMore_49 rfl (lv_at hl 0 rfl) ?_
                      refine va_get (D := (dC, dI)) (ci := 3) (v := .ref (b 7)) (C := RX3) (T := TX3) (N := 12) hx hb hts in_X3 hown hK hP 0 rfl rfl 7 (by decide) lf_28 (fun _ h9 => h9) rfl dX3_suspectMore_50 ?_
                      refine lv_iload_n hx hb dX3_suspectMore_53 rfl (lv_at hl 3 rfl) ?_
                      refine hx_iald hx hb hK hP 7 6 rfl rfl (by omega) (by omega) dX3_suspectMore_54 ?_
                      refine lv_iload hx hb dX3_suspectMore_55 (lv_at hl 4 rfl) ?_
                      refine lv_iload hx hb dX3_suspectMore_57 (lv_at hl 5 rfl) ?_
                      refine hx_read (va_runS (As := [.int (db3 (hd i)), .int (nI x), .int (nI y)]) (rest := []) ⟨hx, hb, hml, hown, hts⟩ (c_X3_in l (db3 (hd i)) x y (by omega) (by omega)) (va_cwS 3 hts gX3_suspectMore_X3_in rfl rfl rfl (by decide +kernel) ⟨Nat.le_of_ble_eq_true rfl, Nat.le_of_ble_eq_true rfl⟩) (nu_S _) rfl rfl hl.1 rfl (lv_room (Nat.le_of_ble_eq_true rfl)) dX3_suspectMore_59 ⟨Nat.zero_le _, Nat.zero_le _⟩) ?_
                      refine hx_ifnB (tgt := 99) hx hb dX3_suspectMore_62 (by decide) (fun c_11 => ?_) (fun c_11 => ?_)
                      · refine lv_iinc (v := nI (y + 1)) (lv' := [(5, .int (nI (y + 1))), (0, .ref (b 0)), (1, .int (bI more3)), (2, .int (nI i)), (3, .int (nI (hd i))), (4, .int (nI x))]) hx hb dX3_suspectMore_99 hl (k := 5) rfl (nI_add y 1) (by decide) rfl (fun ls hl => ?_)
                        refine lv_goto (tgt := 43) hx hb dX3_suspectMore_102 (by decide) ?_
                        have kx := kx
                        rw [show (smY ne nw bf (hd i) (fm i) (rp i) (rq i) x (nn + 1) y db3 more3).2 = (smY ne nw bf (hd i) (fm i) (rp i) (rq i) x nn (y + 1) db3 more3).2 from by simp only [smY, c_3, c_6, c_7, c_10, c_11, ↓reduceIte, decide_true, decide_false, Bool.not_true, Bool.not_false, Bool.or_true, Bool.true_or, Bool.or_false, Bool.false_or, Bool.and_true, Bool.true_and, Bool.and_false, Bool.false_and, and_true, true_and, and_false, false_and, and_self, or_self, or_true, true_or, or_false, false_or, Bool.false_eq_true, Bool.true_eq_false, not_true_eq_false, not_false_eq_true, Bool.or_self, decide_eq_true_eq]] at kx
                        rw [show (smY ne nw bf (hd i) (fm i) (rp i) (rq i) x (nn + 1) y db3 more3).1 = (smY ne nw bf (hd i) (fm i) (rp i) (rq i) x nn (y + 1) db3 more3).1 from by simp only [smY, c_3, c_6, c_7, c_10, c_11, ↓reduceIte, decide_true, decide_false, Bool.not_true, Bool.not_false, Bool.or_true, Bool.true_or, Bool.or_false, Bool.false_or, Bool.and_true, Bool.true_and, Bool.and_false, Bool.false_and, and_true, true_and, and_false, false_and, and_self, or_self, or_true, true_or, or_false, false_or, Bool.false_eq_true, Bool.true_eq_false, not_true_eq_false, not_false_eq_true, Bool.or_self, decide_eq_true_eq]] at kx
                        exact ih (y + 1) more3 db3 (by omega) _ _ hP hD hS ls (lv_sub hl [1, 2, 3, 4, 5, 0] rfl) kx
                      · refine lv_aload_n hx hb dX3_suspectMore_65 rfl (lv_at hl 0 rfl) ?_
                        refine lv_iload_n hx hb dX3_suspectMore_66 rfl (lv_at hl 2 rfl) ?_
                        refine lv_iload hx hb dX3_suspectMore_67 (lv_at hl 4 rfl) ?_
                        refine lv_iload hx hb dX3_suspectMore_69 (lv_at hl 5 rfl) ?_
                        refine hx_read (va_runV (As := [.int (nI i), .int (nI x), .int (nI y)]) (rest := []) ⟨hx, hb, hml, hown, hts⟩ (c_X3_doubtful l dC dI b cB n hd fm rp rq nw bf db3 sg wt ne dn i x y (by omega) (by omega) (by omega) (by omega) (by omega) (by omega) (by omega)) (cwV 3 hts gX3_suspectMore_X3_doubtful rfl rfl rfl (by decide +kernel) ⟨Nat.le_of_ble_eq_true rfl, Nat.le_of_ble_eq_true rfl⟩) (rd_V nstW_ok hP hK hN 0 rfl rfl _) rfl rfl hl.1 rfl (lv_room (Nat.le_of_ble_eq_true rfl)) dX3_suspectMore_71 ⟨Nat.zero_le _, Nat.zero_le _⟩) ?_
                        refine hx_ifB (tgt := 99) hx hb dX3_suspectMore_74 (by decide) (fun c_12 => ?_) (fun c_12 => ?_)
                        · refine lv_iinc (v := nI (y + 1)) (lv' := [(5, .int (nI (y + 1))), (0, .ref (b 0)), (1, .int (bI more3)), (2, .int (nI i)), (3, .int (nI (hd i))), (4, .int (nI x))]) hx hb dX3_suspectMore_99 hl (k := 5) rfl (nI_add y 1) (by decide) rfl (fun ls hl => ?_)
                          refine lv_goto (tgt := 43) hx hb dX3_suspectMore_102 (by decide) ?_
                          have kx := kx
                          rw [show (smY ne nw bf (hd i) (fm i) (rp i) (rq i) x (nn + 1) y db3 more3).2 = (smY ne nw bf (hd i) (fm i) (rp i) (rq i) x nn (y + 1) db3 more3).2 from by simp only [smY, c_3, c_6, c_7, c_10, c_11, c_12, ↓reduceIte, decide_true, decide_false, Bool.not_true, Bool.not_false, Bool.or_true, Bool.true_or, Bool.or_false, Bool.false_or, Bool.and_true, Bool.true_and, Bool.and_false, Bool.false_and, and_true, true_and, and_false, false_and, and_self, or_self, or_true, true_or, or_false, false_or, Bool.false_eq_true, Bool.true_eq_false, not_true_eq_false, not_false_eq_true, Bool.or_self, decide_eq_true_eq]] at kx
                          rw [show (smY ne nw bf (hd i) (fm i) (rp i) (rq i) x (nn + 1) y db3 more3).1 = (smY ne nw bf (hd i) (fm i) (rp i) (rq i) x nn (y + 1) db3 more3).1 from by simp only [smY, c_3, c_6, c_7, c_10, c_11, c_12, ↓reduceIte, decide_true, decide_false, Bool.not_true, Bool.not_false, Bool.or_true, Bool.true_or, Bool.or_false, Bool.false_or, Bool.and_true, Bool.true_and, Bool.and_false, Bool.false_and, and_true, true_and, and_false, false_and, and_self, or_self, or_true, true_or, or_false, false_or, Bool.false_eq_true, Bool.true_eq_false, not_true_eq_false, not_false_eq_true, Bool.or_self, decide_eq_true_eq]] at kx
                          exact ih (y + 1) more3 db3 (by omega) _ _ hP hD hS ls (lv_sub hl [1, 2, 3, 4, 5, 0] rfl) kx
                        · refine lv_aload_n hx hb dX3_suspectMore_77 rfl (lv_at hl 0 rfl) ?_
                          refine va_get (D := (dC, dI)) (ci := 3) (v := .ref (b 7)) (C := RX3) (T := TX3) (N := 12) hx hb hts in_X3 hown hK hP 0 rfl rfl 7 (by decide) lf_28 (fun _ h9 => h9) rfl dX3_suspectMore_78 ?_
                          refine lv_iload_n hx hb dX3_suspectMore_81 rfl (lv_at hl 3 rfl) ?_
                          refine lv_aload_n hx hb dX3_suspectMore_82 rfl (lv_at hl 0 rfl) ?_
                          refine va_get (D := (dC, dI)) (ci := 3) (v := .ref (b 7)) (C := RX3) (T := TX3) (N := 12) hx hb hts in_X3 hown hK hP 0 rfl rfl 7 (by decide) lf_28 (fun _ h9 => h9) rfl dX3_suspectMore_83 ?_
                          refine lv_iload_n hx hb dX3_suspectMore_86 rfl (lv_at hl 3 rfl) ?_
                          refine hx_iald hx hb hK hP 7 6 rfl rfl (by omega) (by omega) dX3_suspectMore_87 ?_
                          refine lv_iload hx hb dX3_suspectMore_88 (lv_at hl 4 rfl) ?_
                          refine lv_iload hx hb dX3_suspectMore_90 (lv_at hl 5 rfl) ?_
                          refine hx_read (va_runS (As := [.int (nI x), .int (nI y)]) (rest := [.int (db3 (hd i)), .int (nI (hd i)), .ref (b 7)]) ⟨hx, hb, hml, hown, hts⟩ (c_X3_bit l x y) (va_cwS 2 hts gX3_suspectMore_X3_bit rfl rfl rfl (by decide +kernel) ⟨Nat.le_of_ble_eq_true rfl, Nat.le_of_ble_eq_true rfl⟩) (nu_S _) rfl rfl hl.1 rfl (lv_room (Nat.le_of_ble_eq_true rfl)) dX3_suspectMore_92 ⟨Nat.zero_le _, Nat.zero_le _⟩) ?_
                          refine lv_ior hx hb dX3_suspectMore_95 ?_
                          refine hx_iast hx hb hK hP hD hS 7 6 rfl rfl (by omega) (by omega) dX3_suspectMore_96 (fun H locs hP hD hS => ?_)
                          have hP : va_P (dC, dI) vwCl (mdW b cB n hd fm rp rq nw bf (upd db3 (hd i) ((db3 (hd i)) ||| (bm (5 * x + y)))) sg wt ne dn) H := hP
                          have hD : va_D A (mdW b cB n hd fm rp rq nw bf (upd db3 (hd i) ((db3 (hd i)) ||| (bm (5 * x + y)))) sg wt ne dn) := hD
                          refine lv_iconst (v := nI 1) hx hb dX3_suspectMore_97 (by decide) ?_
                          refine lv_istore_n (lv' := [(1, .int (nI 1)), (0, .ref (b 0)), (2, .int (nI i)), (3, .int (nI (hd i))), (4, .int (nI x)), (5, .int (nI y))]) hx hb dX3_suspectMore_98 rfl hl (by decide) rfl (fun ls hl => ?_)
                          refine lv_iinc (v := nI (y + 1)) (lv' := [(5, .int (nI (y + 1))), (1, .int (nI 1)), (0, .ref (b 0)), (2, .int (nI i)), (3, .int (nI (hd i))), (4, .int (nI x))]) hx hb dX3_suspectMore_99 hl (k := 5) rfl (nI_add y 1) (by decide) rfl (fun ls hl => ?_)
                          refine lv_goto (tgt := 43) hx hb dX3_suspectMore_102 (by decide) ?_
                          have kx := kx
                          rw [show (smY ne nw bf (hd i) (fm i) (rp i) (rq i) x (nn + 1) y db3 more3).2 = (smY ne nw bf (hd i) (fm i) (rp i) (rq i) x nn (y + 1) (upd db3 (hd i) ((db3 (hd i)) ||| (bm (5 * x + y)))) true).2 from by simp only [smY, c_3, c_6, c_7, c_10, c_11, c_12, ↓reduceIte, decide_true, decide_false, Bool.not_true, Bool.not_false, Bool.or_true, Bool.true_or, Bool.or_false, Bool.false_or, Bool.and_true, Bool.true_and, Bool.and_false, Bool.false_and, and_true, true_and, and_false, false_and, and_self, or_self, or_true, true_or, or_false, false_or, Bool.false_eq_true, Bool.true_eq_false, not_true_eq_false, not_false_eq_true, Bool.or_self, decide_eq_true_eq]] at kx
                          rw [show (smY ne nw bf (hd i) (fm i) (rp i) (rq i) x (nn + 1) y db3 more3).1 = (smY ne nw bf (hd i) (fm i) (rp i) (rq i) x nn (y + 1) (upd db3 (hd i) ((db3 (hd i)) ||| (bm (5 * x + y)))) true).1 from by simp only [smY, c_3, c_6, c_7, c_10, c_11, c_12, ↓reduceIte, decide_true, decide_false, Bool.not_true, Bool.not_false, Bool.or_true, Bool.true_or, Bool.or_false, Bool.false_or, Bool.and_true, Bool.true_and, Bool.and_false, Bool.false_and, and_true, true_and, and_false, false_and, and_self, or_self, or_true, true_or, or_false, false_or, Bool.false_eq_true, Bool.true_eq_false, not_true_eq_false, not_false_eq_true, Bool.or_self, decide_eq_true_eq]] at kx
                          exact ih (y + 1) true (upd db3 (hd i) ((db3 (hd i)) ||| (bm (5 * x + y)))) (by omega) _ _ hP hD hS ls (lv_sub hl [2, 1, 3, 4, 5, 0] rfl) kx
                refine L_43_7 5 0 more2 db2 (by omega) _ _ hP hD hS ls (lv_sub hl [1, 2, 3, 4, 5, 0] rfl) (fun H locs hP hD hS ls hl => ?_)
                have hP : va_P (dC, dI) vwCl (mdW b cB n hd fm rp rq nw bf ((smY ne nw bf (hd i) (fm i) (rp i) (rq i) x 5 0 db2 more2).1) sg wt ne dn) H := hP
                have hD : va_D A (mdW b cB n hd fm rp rq nw bf ((smY ne nw bf (hd i) (fm i) (rp i) (rq i) x 5 0 db2 more2).1) sg wt ne dn) := hD
                have hl : lv_has ls 6 [(0, .ref (b 0)), (1, .int (bI ((smY ne nw bf (hd i) (fm i) (rp i) (rq i) x 5 0 db2 more2).2))), (2, .int (nI i)), (3, .int (nI (hd i))), (4, .int (nI x)), (5, .int (nI 5))] := hl
                refine lv_iinc (v := nI (x + 1)) (lv' := [(4, .int (nI (x + 1))), (0, .ref (b 0)), (1, .int (bI ((smY ne nw bf (hd i) (fm i) (rp i) (rq i) x 5 0 db2 more2).2))), (2, .int (nI i)), (3, .int (nI (hd i))), (5, .int (nI 5))]) hx hb dX3_suspectMore_105 hl (k := 4) rfl (nI_add x 1) (by decide) rfl (fun ls hl => ?_)
                refine lv_goto (tgt := 22) hx hb dX3_suspectMore_108 (by decide) ?_
                have kx := kx
                rw [show (smX ne nw bf (hd i) (fm i) (rp i) (rq i) (nn + 1) x db2 more2).2 = (smX ne nw bf (hd i) (fm i) (rp i) (rq i) nn (x + 1) ((smY ne nw bf (hd i) (fm i) (rp i) (rq i) x 5 0 db2 more2).1) ((smY ne nw bf (hd i) (fm i) (rp i) (rq i) x 5 0 db2 more2).2)).2 from by simp only [smX, c_3, c_6, c_7, ↓reduceIte, decide_true, decide_false, Bool.not_true, Bool.not_false, Bool.or_true, Bool.true_or, Bool.or_false, Bool.false_or, Bool.and_true, Bool.true_and, Bool.and_false, Bool.false_and, and_true, true_and, and_false, false_and, and_self, or_self, or_true, true_or, or_false, false_or, Bool.false_eq_true, Bool.true_eq_false, not_true_eq_false, not_false_eq_true, Bool.or_self, decide_eq_true_eq]] at kx
                rw [show (smX ne nw bf (hd i) (fm i) (rp i) (rq i) (nn + 1) x db2 more2).1 = (smX ne nw bf (hd i) (fm i) (rp i) (rq i) nn (x + 1) ((smY ne nw bf (hd i) (fm i) (rp i) (rq i) x 5 0 db2 more2).1) ((smY ne nw bf (hd i) (fm i) (rp i) (rq i) x 5 0 db2 more2).2)).1 from by simp only [smX, c_3, c_6, c_7, ↓reduceIte, decide_true, decide_false, Bool.not_true, Bool.not_false, Bool.or_true, Bool.true_or, Bool.or_false, Bool.false_or, Bool.and_true, Bool.true_and, Bool.and_false, Bool.false_and, and_true, true_and, and_false, false_and, and_self, or_self, or_true, true_or, or_false, false_or, Bool.false_eq_true, Bool.true_eq_false, not_true_eq_false, not_false_eq_true, Bool.or_self, decide_eq_true_eq]] at kx
                exact ih (x + 1) ((smY ne nw bf (hd i) (fm i) (rp i) (rq i) x 5 0 db2 more2).2) ((smY ne nw bf (hd i) (fm i) (rp i) (rq i) x 5 0 db2 more2).1) (by omega) _ _ hP hD hS ls (lv_sub hl [1, 2, 3, 4, 0] rfl) kx
        refine L_22_3 5 0 more db1 (by omega) _ _ hP hD hS ls (lv_sub hl [2, 3, 4, 1, 0] rfl) (fun H locs hP hD hS ls hl => ?_)
        have hP : va_P (dC, dI) vwCl (mdW b cB n hd fm rp rq nw bf ((smX ne nw bf (hd i) (fm i) (rp i) (rq i) 5 0 db1 more).1) sg wt ne dn) H := hP
        have hD : va_D A (mdW b cB n hd fm rp rq nw bf ((smX ne nw bf (hd i) (fm i) (rp i) (rq i) 5 0 db1 more).1) sg wt ne dn) := hD
        have hl : lv_has ls 6 [(0, .ref (b 0)), (1, .int (bI ((smX ne nw bf (hd i) (fm i) (rp i) (rq i) 5 0 db1 more).2))), (2, .int (nI i)), (3, .int (nI (hd i)))] := hl
        refine lv_iinc (v := nI (i + 1)) (lv' := [(2, .int (nI (i + 1))), (0, .ref (b 0)), (1, .int (bI ((smX ne nw bf (hd i) (fm i) (rp i) (rq i) 5 0 db1 more).2))), (3, .int (nI (hd i)))]) hx hb dX3_suspectMore_111 hl (k := 2) rfl (nI_add i 1) (by decide) rfl (fun ls hl => ?_)
        refine lv_goto (tgt := 4) hx hb dX3_suspectMore_114 (by decide) ?_
        have kx := kx
        rw [show (smF hd fm rp rq ne nw bf (nn + 1) i db1 more).2 = (smF hd fm rp rq ne nw bf nn (i + 1) ((smX ne nw bf (hd i) (fm i) (rp i) (rq i) 5 0 db1 more).1) ((smX ne nw bf (hd i) (fm i) (rp i) (rq i) 5 0 db1 more).2)).2 from rfl] at kx
        rw [show (smF hd fm rp rq ne nw bf (nn + 1) i db1 more).1 = (smF hd fm rp rq ne nw bf nn (i + 1) ((smX ne nw bf (hd i) (fm i) (rp i) (rq i) 5 0 db1 more).1) ((smX ne nw bf (hd i) (fm i) (rp i) (rq i) 5 0 db1 more).2)).1 from rfl] at kx
        exact ih (i + 1) ((smX ne nw bf (hd i) (fm i) (rp i) (rq i) 5 0 db1 more).2) ((smX ne nw bf (hd i) (fm i) (rp i) (rq i) 5 0 db1 more).1) (by omega) _ _ hP hD hS ls (lv_sub hl [1, 2, 0] rfl) kx
  refine L_4_0 n 0 false db (by omega) _ _ hP hD hS ls (lv_sub hl [2, 1, 0] rfl) (fun H locs hP hD hS ls hl => ?_)
  have hP : va_P (dC, dI) vwCl (mdW b cB n hd fm rp rq nw bf ((smF hd fm rp rq ne nw bf n 0 db false).1) sg wt ne dn) H := hP
  have hD : va_D A (mdW b cB n hd fm rp rq nw bf ((smF hd fm rp rq ne nw bf n 0 db false).1) sg wt ne dn) := hD
  have hl : lv_has ls 6 [(0, .ref (b 0)), (1, .int (bI ((smF hd fm rp rq ne nw bf n 0 db false).2))), (2, .int (nI n))] := hl
  refine lv_iload_n hx hb dX3_suspectMore_117 rfl (lv_at hl 1 rfl) ?_
  have e9 : mdW b cB n hd fm rp rq nw bf ((smF hd fm rp rq ne nw bf n 0 db false).1) sg wt ne dn = mdW b cB n hd fm rp rq nw bf ((smF hd fm rp rq ne nw bf n 0 db false).1) sg wt ne dn := rfl
  rw [e9] at hP hD
  subst hAe
  exact W.zret (v := bI ((smF hd fm rp rq ne nw bf n 0 db false).2)) hx hb hr (nar_bI _) (fun t ht hW => ⟨⟨_, (), rfl, rfl, by rw [ht]; exact hP, va_K.moved hW.alike hK, hD⟩, hS.F ht⟩) hS.2.2 dX3_suspectMore_118
set_option maxHeartbeats 4000000 in
set_option maxRecDepth 100000 in
theorem c_X3_commit (l : Launch) (dC : Nat → ClassId) (dI : Nat → Nat → Nat) (b : Nat → Nat) (cB : Nat → ClassId) (n : Nat) (hd fm rp rq : Nat → Nat) (nw bf db sg wt : Nat → Int32) (ne dn : Nat → Bool) (hy_0 : ruOk n hd fm rp rq) : WrI l yX3_commit wsX3_commit ({ frames := 6, cells := 0, slots := 0, locals := 143 }) (dC, dI) vwCl (mdW b cB n hd fm rp rq nw bf db sg wt ne dn) (mdW b cB n hd fm rp rq (maW n hd fm rp rq ne (mdN 2 0 nw sg wt) dn) (cpF nw 7 0 bf) (scF n hd fm rp rq ne (maW n hd fm rp rq ne (mdN 2 0 nw sg wt) dn) (cpF nw 7 0 bf) 126 true (zeF 7 0 db)) (zeF 2 0 sg) (zeF 2 0 wt) ne (maD n hd fm rp rq ne (mdN 2 0 nw sg wt) dn)) (mdT cB) nstW [.ref (b 0)] (nI (mcW (maW n hd fm rp rq ne (mdN 2 0 nw sg wt) dn) (cpF nw 7 0 bf) 7 0 0)) := by
  intro sz
  refine Met.ofW (cc := cX3_commit) (maxL := 4) (ret := (some .int)) (by decide) rfl ?_
  intro p e s m args below meth c s₁ B hml hv
  obtain ⟨rfl, hsz, ⟨hP, hK, hN⟩, hD0⟩ := hv
  subst hsz
  have hx := B.exec
  have hb := B.bytes
  have hr := B.returns
  have hts := atoms_spec (ws := wsX3_commit) B.pre
  have hown : s.vm.findClass RX3 = some m.cls := findClass_of_methodNamed B.named
  have hlocks := B.notSynchronized
  obtain ⟨A, hAe⟩ : ∃ A, A = va_A (mdW b cB n hd fm rp rq nw bf db sg wt ne dn) s.heap.size := ⟨_, rfl⟩
  have hD : va_D A (mdW b cB n hd fm rp rq nw bf db sg wt ne dn) := by rw [hAe]; exact hD0.self (sz := s.heap.size)
  have hA : ∀ q : Nat, s.heap.size ≤ q → A q := fun q h => by rw [hAe]; exact Or.inr h
  have hS : va_S A s.heap s.heap [] := va_S.rf
  have hP : va_P (dC, dI) vwCl (mdW b cB n hd fm rp rq nw bf db sg wt ne dn) s.heap := hP
  have lf_25 := hts (.fieldLink RX3 25 "ViewKeeperModel" "before" "[I") (by decide +kernel)
  have in_X3 : ∀ w ∈ u_ws RX3 TX3 12, w ∈ wsX3_commit := by decide +kernel
  have lf_22 := hts (.fieldLink RX3 22 "ViewKeeperModel" "now" "[I") (by decide +kernel)
  have lf_28 := hts (.fieldLink RX3 28 "ViewKeeperModel" "doubt" "[I") (by decide +kernel)
  have lf_31 := hts (.fieldLink RX3 31 "ViewKeeperModel" "staged" "[I") (by decide +kernel)
  have lf_34 := hts (.fieldLink RX3 34 "ViewKeeperModel" "wanted" "[I") (by decide +kernel)
  have hl := lv_entry ([.ref (b 0)]) (n := 4) (Nat.le_of_ble_eq_true rfl)
  rw [lg_entry_eq]
  generalize (lg_sl ([.ref (b 0)]) ++ List.replicate (4 - (lg_sl ([.ref (b 0)])).length) Slot.unset).toArray = ls at hl ⊢
  have hl : lv_has ls 4 [(0, .ref (b 0))] := hl
  refine lv_iconst (v := nI 0) hx hb dX3_commit_0 (by decide) ?_
  refine lv_istore_n (lv' := [(1, .int (nI 0)), (0, .ref (b 0))]) hx hb dX3_commit_1 rfl hl (by decide) rfl (fun ls hl => ?_)
  have L_2_0 : ∀ (nn : Nat) (r : Nat) (bf1 : Nat → Int32) (db1 : Nat → Int32), r + nn = 7 → ∀ (H : Heap) (locs : List Loc), va_P (dC, dI) vwCl (mdW b cB n hd fm rp rq nw bf1 db1 sg wt ne dn) H → va_D A (mdW b cB n hd fm rp rq nw bf1 db1 sg wt ne dn) → va_S A s.heap H locs → ∀ ls : Array Slot, lv_has ls 4 [(0, .ref (b 0)), (1, .int (nI r))] → (∀ (H : Heap) (locs : List Loc), va_P (dC, dI) vwCl (mdW b cB n hd fm rp rq nw (cpF nw nn r bf1) (zeF nn r db1) sg wt ne dn) H → va_D A (mdW b cB n hd fm rp rq nw (cpF nw nn r bf1) (zeF nn r db1) sg wt ne dn) → va_S A s.heap H locs → ∀ ls : Array Slot, lv_has ls 4 [(0, .ref (b 0)), (1, .int (nI 7))] → W p l e (headSpec wsX3_commit ({ frames := 6, cells := 0, slots := 0, locals := 143 })).room s m ([.ref (b 0)] : List Value).toArray below meth c H locs 0 0 (MQ below (va_Qi (fun (rz9 : Int32) (_ : Unit) => rz9 = (nI (mcW (maW n hd fm rp rq ne (mdN 2 0 nw sg wt) dn) (cpF nw 7 0 bf) 7 0 0))) (wrB (dC, dI) vwCl (mdW b cB n hd fm rp rq nw bf db sg wt ne dn) (mdW b cB n hd fm rp rq (maW n hd fm rp rq ne (mdN 2 0 nw sg wt) dn) (cpF nw 7 0 bf) (scF n hd fm rp rq ne (maW n hd fm rp rq ne (mdN 2 0 nw sg wt) dn) (cpF nw 7 0 bf) 126 true (zeF 7 0 db)) (zeF 2 0 sg) (zeF 2 0 wt) ne (maD n hd fm rp rq ne (mdN 2 0 nw sg wt) dn)) (mdT cB) s.heap.size) (va_A (mdW b cB n hd fm rp rq nw bf db sg wt ne dn) s.heap.size)) ([.ref (b 0)] : List Value).toArray s 0 0 (va_A (mdW b cB n hd fm rp rq nw bf db sg wt ne dn) s.heap.size)) (F0 m 33 ls [])) → W p l e (headSpec wsX3_commit ({ frames := 6, cells := 0, slots := 0, locals := 143 })).room s m ([.ref (b 0)] : List Value).toArray below meth c H locs 0 0 (MQ below (va_Qi (fun (rz9 : Int32) (_ : Unit) => rz9 = (nI (mcW (maW n hd fm rp rq ne (mdN 2 0 nw sg wt) dn) (cpF nw 7 0 bf) 7 0 0))) (wrB (dC, dI) vwCl (mdW b cB n hd fm rp rq nw bf db sg wt ne dn) (mdW b cB n hd fm rp rq (maW n hd fm rp rq ne (mdN 2 0 nw sg wt) dn) (cpF nw 7 0 bf) (scF n hd fm rp rq ne (maW n hd fm rp rq ne (mdN 2 0 nw sg wt) dn) (cpF nw 7 0 bf) 126 true (zeF 7 0 db)) (zeF 2 0 sg) (zeF 2 0 wt) ne (maD n hd fm rp rq ne (mdN 2 0 nw sg wt) dn)) (mdT cB) s.heap.size) (va_A (mdW b cB n hd fm rp rq nw bf db sg wt ne dn) s.heap.size)) ([.ref (b 0)] : List Value).toArray s 0 0 (va_A (mdW b cB n hd fm rp rq nw bf db sg wt ne dn) s.heap.size)) (F0 m 2 ls []) := by
    intro nn
    induction nn with
    | zero =>
      intro r bf1 db1 hn_r H locs hP hD hS ls hl kx
      obtain rfl : r = 7 := by omega
      refine lv_iload_n hx hb dX3_commit_2 rfl (lv_at hl 1 rfl) ?_
      refine lv_bipush (v := nI 7) hx hb dX3_commit_3 (by decide) ?_
      refine hx_geN (tgt := 33) hx hb dX3_commit_5 (by decide) (by omega) (by omega) (fun c_2 => ?_) (fun c_2 => ?_)
      · exact kx _ _ hP hD hS ls (lv_sub hl [0, 1] rfl)
      · exact absurd c_2 (by omega)
    | succ nn ih =>
      intro r bf1 db1 hn_r H locs hP hD hS ls hl kx
      refine lv_iload_n hx hb dX3_commit_2 rfl (lv_at hl 1 rfl) ?_
      refine lv_bipush (v := nI 7) hx hb dX3_commit_3 (by decide) ?_
      refine hx_geN (tgt := 33) hx hb dX3_commit_5 (by decide) (by omega) (by omega) (fun c_3 => ?_) (fun c_3 => ?_)
      · exact absurd c_3 (by omega)
      · refine lv_aload_n hx hb dX3_commit_8 rfl (lv_at hl 0 rfl) ?_
        refine va_get (D := (dC, dI)) (ci := 3) (v := .ref (b 6)) (C := RX3) (T := TX3) (N := 12) hx hb hts in_X3 hown hK hP 0 rfl rfl 6 (by decide) lf_25 (fun _ h9 => h9) rfl dX3_commit_9 ?_
        refine lv_iload_n hx hb dX3_commit_12 rfl (lv_at hl 1 rfl) ?_
        refine lv_aload_n hx hb dX3_commit_13 rfl (lv_at hl 0 rfl) ?_
        refine va_get (D := (dC, dI)) (ci := 3) (v := .ref (b 5)) (C := RX3) (T := TX3) (N := 12) hx hb hts in_X3 hown hK hP 0 rfl rfl 5 (by decide) lf_22 (fun _ h9 => h9) rfl dX3_commit_14 ?_
        refine lv_iload_n hx hb dX3_commit_17 rfl (lv_at hl 1 rfl) ?_
        refine hx_iald hx hb hK hP 5 4 rfl rfl (by omega) (by omega) dX3_commit_18 ?_
        refine hx_iast hx hb hK hP hD hS 6 5 rfl rfl (by omega) (by omega) dX3_commit_19 (fun H locs hP hD hS => ?_)
        have hP : va_P (dC, dI) vwCl (mdW b cB n hd fm rp rq nw (upd bf1 r (nw r)) db1 sg wt ne dn) H := hP
        have hD : va_D A (mdW b cB n hd fm rp rq nw (upd bf1 r (nw r)) db1 sg wt ne dn) := hD
        refine lv_aload_n hx hb dX3_commit_20 rfl (lv_at hl 0 rfl) ?_
        refine va_get (D := (dC, dI)) (ci := 3) (v := .ref (b 7)) (C := RX3) (T := TX3) (N := 12) hx hb hts in_X3 hown hK hP 0 rfl rfl 7 (by decide) lf_28 (fun _ h9 => h9) rfl dX3_commit_21 ?_
        refine lv_iload_n hx hb dX3_commit_24 rfl (lv_at hl 1 rfl) ?_
        refine lv_iconst (v := nI 0) hx hb dX3_commit_25 (by decide) ?_
        refine hx_iast hx hb hK hP hD hS 7 6 rfl rfl (by omega) (by omega) dX3_commit_26 (fun H locs hP hD hS => ?_)
        have hP : va_P (dC, dI) vwCl (mdW b cB n hd fm rp rq nw (upd bf1 r (nw r)) (upd db1 r (nI 0)) sg wt ne dn) H := hP
        have hD : va_D A (mdW b cB n hd fm rp rq nw (upd bf1 r (nw r)) (upd db1 r (nI 0)) sg wt ne dn) := hD
        refine lv_iinc (v := nI (r + 1)) (lv' := [(1, .int (nI (r + 1))), (0, .ref (b 0))]) hx hb dX3_commit_27 hl (k := 1) rfl (nI_add r 1) (by decide) rfl (fun ls hl => ?_)
        refine lv_goto (tgt := 2) hx hb dX3_commit_30 (by decide) ?_
        have kx := kx
        rw [show cpF nw (nn + 1) r bf1 = cpF nw nn (r + 1) (upd bf1 r (nw r)) from rfl] at kx
        rw [show zeF (nn + 1) r db1 = zeF nn (r + 1) (upd db1 r (nI 0)) from rfl] at kx
        exact ih (r + 1) (upd bf1 r (nw r)) (upd db1 r (nI 0)) (by omega) _ _ hP hD hS ls (lv_sub hl [1, 0] rfl) kx
  refine L_2_0 7 0 bf db (by omega) _ _ hP hD hS ls (lv_sub hl [1, 0] rfl) (fun H locs hP hD hS ls hl => ?_)
  have hP : va_P (dC, dI) vwCl (mdW b cB n hd fm rp rq nw (cpF nw 7 0 bf) (zeF 7 0 db) sg wt ne dn) H := hP
  have hD : va_D A (mdW b cB n hd fm rp rq nw (cpF nw 7 0 bf) (zeF 7 0 db) sg wt ne dn) := hD
  have hl : lv_has ls 4 [(0, .ref (b 0)), (1, .int (nI 7))] := hl
  refine lv_iconst (v := nI 0) hx hb dX3_commit_33 (by decide) ?_
  refine lv_istore_n (lv' := [(1, .int (nI 0)), (0, .ref (b 0))]) hx hb dX3_commit_34 rfl hl (by decide) rfl (fun ls hl => ?_)
  have L_35_3 : ∀ (nn : Nat) (r : Nat) (nw1 : Nat → Int32) (sg1 : Nat → Int32) (wt1 : Nat → Int32), r + nn = 2 → ∀ (H : Heap) (locs : List Loc), va_P (dC, dI) vwCl (mdW b cB n hd fm rp rq nw1 (cpF nw 7 0 bf) (zeF 7 0 db) sg1 wt1 ne dn) H → va_D A (mdW b cB n hd fm rp rq nw1 (cpF nw 7 0 bf) (zeF 7 0 db) sg1 wt1 ne dn) → va_S A s.heap H locs → ∀ ls : Array Slot, lv_has ls 4 [(0, .ref (b 0)), (1, .int (nI r))] → (∀ (H : Heap) (locs : List Loc), va_P (dC, dI) vwCl (mdW b cB n hd fm rp rq (mdN nn r nw1 sg1 wt1) (cpF nw 7 0 bf) (zeF 7 0 db) (zeF nn r sg1) (zeF nn r wt1) ne dn) H → va_D A (mdW b cB n hd fm rp rq (mdN nn r nw1 sg1 wt1) (cpF nw 7 0 bf) (zeF 7 0 db) (zeF nn r sg1) (zeF nn r wt1) ne dn) → va_S A s.heap H locs → ∀ ls : Array Slot, lv_has ls 4 [(0, .ref (b 0)), (1, .int (nI 2))] → W p l e (headSpec wsX3_commit ({ frames := 6, cells := 0, slots := 0, locals := 143 })).room s m ([.ref (b 0)] : List Value).toArray below meth c H locs 0 0 (MQ below (va_Qi (fun (rz9 : Int32) (_ : Unit) => rz9 = (nI (mcW (maW n hd fm rp rq ne (mdN 2 0 nw sg wt) dn) (cpF nw 7 0 bf) 7 0 0))) (wrB (dC, dI) vwCl (mdW b cB n hd fm rp rq nw bf db sg wt ne dn) (mdW b cB n hd fm rp rq (maW n hd fm rp rq ne (mdN 2 0 nw sg wt) dn) (cpF nw 7 0 bf) (scF n hd fm rp rq ne (maW n hd fm rp rq ne (mdN 2 0 nw sg wt) dn) (cpF nw 7 0 bf) 126 true (zeF 7 0 db)) (zeF 2 0 sg) (zeF 2 0 wt) ne (maD n hd fm rp rq ne (mdN 2 0 nw sg wt) dn)) (mdT cB) s.heap.size) (va_A (mdW b cB n hd fm rp rq nw bf db sg wt ne dn) s.heap.size)) ([.ref (b 0)] : List Value).toArray s 0 0 (va_A (mdW b cB n hd fm rp rq nw bf db sg wt ne dn) s.heap.size)) (F0 m 95 ls [])) → W p l e (headSpec wsX3_commit ({ frames := 6, cells := 0, slots := 0, locals := 143 })).room s m ([.ref (b 0)] : List Value).toArray below meth c H locs 0 0 (MQ below (va_Qi (fun (rz9 : Int32) (_ : Unit) => rz9 = (nI (mcW (maW n hd fm rp rq ne (mdN 2 0 nw sg wt) dn) (cpF nw 7 0 bf) 7 0 0))) (wrB (dC, dI) vwCl (mdW b cB n hd fm rp rq nw bf db sg wt ne dn) (mdW b cB n hd fm rp rq (maW n hd fm rp rq ne (mdN 2 0 nw sg wt) dn) (cpF nw 7 0 bf) (scF n hd fm rp rq ne (maW n hd fm rp rq ne (mdN 2 0 nw sg wt) dn) (cpF nw 7 0 bf) 126 true (zeF 7 0 db)) (zeF 2 0 sg) (zeF 2 0 wt) ne (maD n hd fm rp rq ne (mdN 2 0 nw sg wt) dn)) (mdT cB) s.heap.size) (va_A (mdW b cB n hd fm rp rq nw bf db sg wt ne dn) s.heap.size)) ([.ref (b 0)] : List Value).toArray s 0 0 (va_A (mdW b cB n hd fm rp rq nw bf db sg wt ne dn) s.heap.size)) (F0 m 35 ls []) := by
    intro nn
    induction nn with
    | zero =>
      intro r nw1 sg1 wt1 hn_r H locs hP hD hS ls hl kx
      obtain rfl : r = 2 := by omega
      refine lv_iload_n hx hb dX3_commit_35 rfl (lv_at hl 1 rfl) ?_
      refine lv_iconst (v := nI 2) hx hb dX3_commit_36 (by decide) ?_
      refine hx_geN (tgt := 95) hx hb dX3_commit_37 (by decide) (by omega) (by omega) (fun c_5 => ?_) (fun c_5 => ?_)
      · exact kx _ _ hP hD hS ls (lv_sub hl [0, 1] rfl)
      · exact absurd c_5 (by omega)
    | succ nn ih =>
      intro r nw1 sg1 wt1 hn_r H locs hP hD hS ls hl kx
      refine lv_iload_n hx hb dX3_commit_35 rfl (lv_at hl 1 rfl) ?_
      refine lv_iconst (v := nI 2) hx hb dX3_commit_36 (by decide) ?_
      refine hx_geN (tgt := 95) hx hb dX3_commit_37 (by decide) (by omega) (by omega) (fun c_6 => ?_) (fun c_6 => ?_)
      · exact absurd c_6 (by omega)
      · refine lv_aload_n hx hb dX3_commit_40 rfl (lv_at hl 0 rfl) ?_
        refine va_get (D := (dC, dI)) (ci := 3) (v := .ref (b 5)) (C := RX3) (T := TX3) (N := 12) hx hb hts in_X3 hown hK hP 0 rfl rfl 5 (by decide) lf_22 (fun _ h9 => h9) rfl dX3_commit_41 ?_
        refine lv_iload_n hx hb dX3_commit_44 rfl (lv_at hl 1 rfl) ?_
        refine lv_aload_n hx hb dX3_commit_45 rfl (lv_at hl 0 rfl) ?_
        refine va_get (D := (dC, dI)) (ci := 3) (v := .ref (b 5)) (C := RX3) (T := TX3) (N := 12) hx hb hts in_X3 hown hK hP 0 rfl rfl 5 (by decide) lf_22 (fun _ h9 => h9) rfl dX3_commit_46 ?_
        refine lv_iload_n hx hb dX3_commit_49 rfl (lv_at hl 1 rfl) ?_
        refine hx_iald hx hb hK hP 5 4 rfl rfl (by omega) (by omega) dX3_commit_50 ?_
        refine lv_aload_n hx hb dX3_commit_51 rfl (lv_at hl 0 rfl) ?_
        refine va_get (D := (dC, dI)) (ci := 3) (v := .ref (b 8)) (C := RX3) (T := TX3) (N := 12) hx hb hts in_X3 hown hK hP 0 rfl rfl 8 (by decide) lf_31 (fun _ h9 => h9) rfl dX3_commit_52 ?_
        refine lv_iload_n hx hb dX3_commit_55 rfl (lv_at hl 1 rfl) ?_
        refine hx_iald hx hb hK hP 8 7 rfl rfl (by omega) (by omega) dX3_commit_56 ?_
        refine lv_iconst (v := (-1)) hx hb dX3_commit_57 (by decide) ?_
        refine lv_ixor hx hb dX3_commit_58 ?_
        refine lv_iand hx hb dX3_commit_59 ?_
        refine lv_aload_n hx hb dX3_commit_60 rfl (lv_at hl 0 rfl) ?_
        refine va_get (D := (dC, dI)) (ci := 3) (v := .ref (b 9)) (C := RX3) (T := TX3) (N := 12) hx hb hts in_X3 hown hK hP 0 rfl rfl 9 (by decide) lf_34 (fun _ h9 => h9) rfl dX3_commit_61 ?_
        refine lv_iload_n hx hb dX3_commit_64 rfl (lv_at hl 1 rfl) ?_
        refine hx_iald hx hb hK hP 9 8 rfl rfl (by omega) (by omega) dX3_commit_65 ?_
        refine lv_aload_n hx hb dX3_commit_66 rfl (lv_at hl 0 rfl) ?_
        refine va_get (D := (dC, dI)) (ci := 3) (v := .ref (b 8)) (C := RX3) (T := TX3) (N := 12) hx hb hts in_X3 hown hK hP 0 rfl rfl 8 (by decide) lf_31 (fun _ h9 => h9) rfl dX3_commit_67 ?_
        refine lv_iload_n hx hb dX3_commit_70 rfl (lv_at hl 1 rfl) ?_
        refine hx_iald hx hb hK hP 8 7 rfl rfl (by omega) (by omega) dX3_commit_71 ?_
        refine lv_iand hx hb dX3_commit_72 ?_
        refine lv_ior hx hb dX3_commit_73 ?_
        refine hx_iast hx hb hK hP hD hS 5 4 rfl rfl (by omega) (by omega) dX3_commit_74 (fun H locs hP hD hS => ?_)
        have hP : va_P (dC, dI) vwCl (mdW b cB n hd fm rp rq (upd nw1 r (((nw1 r) &&& ((sg1 r) ^^^ ((-1)))) ||| ((wt1 r) &&& (sg1 r)))) (cpF nw 7 0 bf) (zeF 7 0 db) sg1 wt1 ne dn) H := hP
        have hD : va_D A (mdW b cB n hd fm rp rq (upd nw1 r (((nw1 r) &&& ((sg1 r) ^^^ ((-1)))) ||| ((wt1 r) &&& (sg1 r)))) (cpF nw 7 0 bf) (zeF 7 0 db) sg1 wt1 ne dn) := hD
        refine lv_aload_n hx hb dX3_commit_75 rfl (lv_at hl 0 rfl) ?_
        refine va_get (D := (dC, dI)) (ci := 3) (v := .ref (b 8)) (C := RX3) (T := TX3) (N := 12) hx hb hts in_X3 hown hK hP 0 rfl rfl 8 (by decide) lf_31 (fun _ h9 => h9) rfl dX3_commit_76 ?_
        refine lv_iload_n hx hb dX3_commit_79 rfl (lv_at hl 1 rfl) ?_
        refine lv_iconst (v := nI 0) hx hb dX3_commit_80 (by decide) ?_
        refine hx_iast hx hb hK hP hD hS 8 7 rfl rfl (by omega) (by omega) dX3_commit_81 (fun H locs hP hD hS => ?_)
        have hP : va_P (dC, dI) vwCl (mdW b cB n hd fm rp rq (upd nw1 r (((nw1 r) &&& ((sg1 r) ^^^ ((-1)))) ||| ((wt1 r) &&& (sg1 r)))) (cpF nw 7 0 bf) (zeF 7 0 db) (upd sg1 r (nI 0)) wt1 ne dn) H := hP
        have hD : va_D A (mdW b cB n hd fm rp rq (upd nw1 r (((nw1 r) &&& ((sg1 r) ^^^ ((-1)))) ||| ((wt1 r) &&& (sg1 r)))) (cpF nw 7 0 bf) (zeF 7 0 db) (upd sg1 r (nI 0)) wt1 ne dn) := hD
        refine lv_aload_n hx hb dX3_commit_82 rfl (lv_at hl 0 rfl) ?_
        refine va_get (D := (dC, dI)) (ci := 3) (v := .ref (b 9)) (C := RX3) (T := TX3) (N := 12) hx hb hts in_X3 hown hK hP 0 rfl rfl 9 (by decide) lf_34 (fun _ h9 => h9) rfl dX3_commit_83 ?_
        refine lv_iload_n hx hb dX3_commit_86 rfl (lv_at hl 1 rfl) ?_
        refine lv_iconst (v := nI 0) hx hb dX3_commit_87 (by decide) ?_
        refine hx_iast hx hb hK hP hD hS 9 8 rfl rfl (by omega) (by omega) dX3_commit_88 (fun H locs hP hD hS => ?_)
        have hP : va_P (dC, dI) vwCl (mdW b cB n hd fm rp rq (upd nw1 r (((nw1 r) &&& ((sg1 r) ^^^ ((-1)))) ||| ((wt1 r) &&& (sg1 r)))) (cpF nw 7 0 bf) (zeF 7 0 db) (upd sg1 r (nI 0)) (upd wt1 r (nI 0)) ne dn) H := hP
        have hD : va_D A (mdW b cB n hd fm rp rq (upd nw1 r (((nw1 r) &&& ((sg1 r) ^^^ ((-1)))) ||| ((wt1 r) &&& (sg1 r)))) (cpF nw 7 0 bf) (zeF 7 0 db) (upd sg1 r (nI 0)) (upd wt1 r (nI 0)) ne dn) := hD
        refine lv_iinc (v := nI (r + 1)) (lv' := [(1, .int (nI (r + 1))), (0, .ref (b 0))]) hx hb dX3_commit_89 hl (k := 1) rfl (nI_add r 1) (by decide) rfl (fun ls hl => ?_)
        refine lv_goto (tgt := 35) hx hb dX3_commit_92 (by decide) ?_
        have kx := kx
        rw [show mdN (nn + 1) r nw1 sg1 wt1 = mdN nn (r + 1) (upd nw1 r (((nw1 r) &&& ((sg1 r) ^^^ ((-1)))) ||| ((wt1 r) &&& (sg1 r)))) (upd sg1 r (nI 0)) (upd wt1 r (nI 0)) from rfl] at kx
        rw [show zeF (nn + 1) r sg1 = zeF nn (r + 1) (upd sg1 r (nI 0)) from rfl] at kx
        rw [show zeF (nn + 1) r wt1 = zeF nn (r + 1) (upd wt1 r (nI 0)) from rfl] at kx
        exact ih (r + 1) (upd nw1 r (((nw1 r) &&& ((sg1 r) ^^^ ((-1)))) ||| ((wt1 r) &&& (sg1 r)))) (upd sg1 r (nI 0)) (upd wt1 r (nI 0)) (by omega) _ _ hP hD hS ls (lv_sub hl [1, 0] rfl) kx
  refine L_35_3 2 0 nw sg wt (by omega) _ _ hP hD hS ls (lv_sub hl [1, 0] rfl) (fun H locs hP hD hS ls hl => ?_)
  have hP : va_P (dC, dI) vwCl (mdW b cB n hd fm rp rq (mdN 2 0 nw sg wt) (cpF nw 7 0 bf) (zeF 7 0 db) (zeF 2 0 sg) (zeF 2 0 wt) ne dn) H := hP
  have hD : va_D A (mdW b cB n hd fm rp rq (mdN 2 0 nw sg wt) (cpF nw 7 0 bf) (zeF 7 0 db) (zeF 2 0 sg) (zeF 2 0 wt) ne dn) := hD
  have hl : lv_has ls 4 [(0, .ref (b 0)), (1, .int (nI 2))] := hl
  refine lv_aload_n hx hb dX3_commit_95 rfl (lv_at hl 0 rfl) ?_
  refine hx_wrv (va_runV (As := []) (rest := []) ⟨hx, hb, hml, hown, hts⟩ (c_X3_makeAll l dC dI b cB n hd fm rp rq (mdN 2 0 nw sg wt) (cpF nw 7 0 bf) (zeF 7 0 db) (zeF 2 0 sg) (zeF 2 0 wt) ne dn (hy_0) H.size) (cwV 0 hts gX3_commit_X3_makeAll rfl rfl rfl (by decide +kernel) ⟨Nat.le_of_ble_eq_true rfl, Nat.le_of_ble_eq_true rfl⟩) (wr_V nstW_ok hP hK hN hD 0 rfl rfl _) rfl rfl hl.1 rfl (lv_room (Nat.le_of_ble_eq_true rfl)) dX3_commit_96 ⟨Nat.zero_le _, Nat.zero_le _⟩) hD hS hA (fun H locs hP hD hS => ?_)
  have hP : va_P (dC, dI) vwCl (mdW b cB n hd fm rp rq (maW n hd fm rp rq ne (mdN 2 0 nw sg wt) dn) ((cpF nw 7 0 bf)) ((zeF 7 0 db)) ((zeF 2 0 sg)) ((zeF 2 0 wt)) ne (maD n hd fm rp rq ne (mdN 2 0 nw sg wt) dn)) H := hP
  have hD : va_D A (mdW b cB n hd fm rp rq (maW n hd fm rp rq ne (mdN 2 0 nw sg wt) dn) ((cpF nw 7 0 bf)) ((zeF 7 0 db)) ((zeF 2 0 sg)) ((zeF 2 0 wt)) ne (maD n hd fm rp rq ne (mdN 2 0 nw sg wt) dn)) := hD
  refine lv_iconst (v := nI 1) hx hb dX3_commit_99 (by decide) ?_
  refine lv_istore_n (lv' := [(1, .int (nI 1)), (0, .ref (b 0))]) hx hb dX3_commit_100 rfl hl (by decide) rfl (fun ls hl => ?_)
  have L_101_6 : ∀ (nn : Nat) (more : Bool) (db1 : Nat → Int32), scT n hd fm rp rq ne (maW n hd fm rp rq ne (mdN 2 0 nw sg wt) dn) (cpF nw 7 0 bf) nn more db1 = true → ∀ (H : Heap) (locs : List Loc), va_P (dC, dI) vwCl (mdW b cB n hd fm rp rq (maW n hd fm rp rq ne (mdN 2 0 nw sg wt) dn) ((cpF nw 7 0 bf)) db1 ((zeF 2 0 sg)) ((zeF 2 0 wt)) ne (maD n hd fm rp rq ne (mdN 2 0 nw sg wt) dn)) H → va_D A (mdW b cB n hd fm rp rq (maW n hd fm rp rq ne (mdN 2 0 nw sg wt) dn) ((cpF nw 7 0 bf)) db1 ((zeF 2 0 sg)) ((zeF 2 0 wt)) ne (maD n hd fm rp rq ne (mdN 2 0 nw sg wt) dn)) → va_S A s.heap H locs → ∀ ls : Array Slot, lv_has ls 4 [(0, .ref (b 0)), (1, .int (bI more))] → (∀ (H : Heap) (locs : List Loc), va_P (dC, dI) vwCl (mdW b cB n hd fm rp rq (maW n hd fm rp rq ne (mdN 2 0 nw sg wt) dn) ((cpF nw 7 0 bf)) (scF n hd fm rp rq ne (maW n hd fm rp rq ne (mdN 2 0 nw sg wt) dn) (cpF nw 7 0 bf) nn more db1) ((zeF 2 0 sg)) ((zeF 2 0 wt)) ne (maD n hd fm rp rq ne (mdN 2 0 nw sg wt) dn)) H → va_D A (mdW b cB n hd fm rp rq (maW n hd fm rp rq ne (mdN 2 0 nw sg wt) dn) ((cpF nw 7 0 bf)) (scF n hd fm rp rq ne (maW n hd fm rp rq ne (mdN 2 0 nw sg wt) dn) (cpF nw 7 0 bf) nn more db1) ((zeF 2 0 sg)) ((zeF 2 0 wt)) ne (maD n hd fm rp rq ne (mdN 2 0 nw sg wt) dn)) → va_S A s.heap H locs → ∀ ls : Array Slot, lv_has ls 4 [(0, .ref (b 0))] → W p l e (headSpec wsX3_commit ({ frames := 6, cells := 0, slots := 0, locals := 143 })).room s m ([.ref (b 0)] : List Value).toArray below meth c H locs 0 0 (MQ below (va_Qi (fun (rz9 : Int32) (_ : Unit) => rz9 = (nI (mcW (maW n hd fm rp rq ne (mdN 2 0 nw sg wt) dn) (cpF nw 7 0 bf) 7 0 0))) (wrB (dC, dI) vwCl (mdW b cB n hd fm rp rq nw bf db sg wt ne dn) (mdW b cB n hd fm rp rq (maW n hd fm rp rq ne (mdN 2 0 nw sg wt) dn) (cpF nw 7 0 bf) (scF n hd fm rp rq ne (maW n hd fm rp rq ne (mdN 2 0 nw sg wt) dn) (cpF nw 7 0 bf) 126 true (zeF 7 0 db)) (zeF 2 0 sg) (zeF 2 0 wt) ne (maD n hd fm rp rq ne (mdN 2 0 nw sg wt) dn)) (mdT cB) s.heap.size) (va_A (mdW b cB n hd fm rp rq nw bf db sg wt ne dn) s.heap.size)) ([.ref (b 0)] : List Value).toArray s 0 0 (va_A (mdW b cB n hd fm rp rq nw bf db sg wt ne dn) s.heap.size)) (F0 m 113 ls [])) → W p l e (headSpec wsX3_commit ({ frames := 6, cells := 0, slots := 0, locals := 143 })).room s m ([.ref (b 0)] : List Value).toArray below meth c H locs 0 0 (MQ below (va_Qi (fun (rz9 : Int32) (_ : Unit) => rz9 = (nI (mcW (maW n hd fm rp rq ne (mdN 2 0 nw sg wt) dn) (cpF nw 7 0 bf) 7 0 0))) (wrB (dC, dI) vwCl (mdW b cB n hd fm rp rq nw bf db sg wt ne dn) (mdW b cB n hd fm rp rq (maW n hd fm rp rq ne (mdN 2 0 nw sg wt) dn) (cpF nw 7 0 bf) (scF n hd fm rp rq ne (maW n hd fm rp rq ne (mdN 2 0 nw sg wt) dn) (cpF nw 7 0 bf) 126 true (zeF 7 0 db)) (zeF 2 0 sg) (zeF 2 0 wt) ne (maD n hd fm rp rq ne (mdN 2 0 nw sg wt) dn)) (mdT cB) s.heap.size) (va_A (mdW b cB n hd fm rp rq nw bf db sg wt ne dn) s.heap.size)) ([.ref (b 0)] : List Value).toArray s 0 0 (va_A (mdW b cB n hd fm rp rq nw bf db sg wt ne dn) s.heap.size)) (F0 m 101 ls []) := by
    intro nn
    induction nn with
    | zero =>
      intro more db1 hT H locs hP hD hS ls hl kx
      refine lv_iload_n hx hb dX3_commit_101 rfl (lv_at hl 1 rfl) ?_
      refine hx_ifB (tgt := 113) hx hb dX3_commit_102 (by decide) (fun c_8 => ?_) (fun c_8 => ?_)
      · exact kx _ _ hP hD hS ls (lv_sub hl [0] rfl)
      · exact absurd hT (by simp only [scT, c_8, ↓reduceIte, decide_true, decide_false, Bool.not_true, Bool.not_false, Bool.or_true, Bool.true_or, Bool.or_false, Bool.false_or, Bool.and_true, Bool.true_and, Bool.and_false, Bool.false_and, and_true, true_and, and_false, false_and, and_self, or_self, or_true, true_or, or_false, false_or, Bool.false_eq_true, Bool.true_eq_false, not_true_eq_false, not_false_eq_true, Bool.or_self, decide_eq_true_eq])
    | succ nn ih =>
      intro more db1 hT H locs hP hD hS ls hl kx
      refine lv_iload_n hx hb dX3_commit_101 rfl (lv_at hl 1 rfl) ?_
      refine hx_ifB (tgt := 113) hx hb dX3_commit_102 (by decide) (fun c_9 => ?_) (fun c_9 => ?_)
      · have kx := kx
        rw [show scF n hd fm rp rq ne (maW n hd fm rp rq ne (mdN 2 0 nw sg wt) dn) (cpF nw 7 0 bf) (nn + 1) more db1 = db1 from by simp only [scF, c_9, ↓reduceIte, decide_true, decide_false, Bool.not_true, Bool.not_false, Bool.or_true, Bool.true_or, Bool.or_false, Bool.false_or, Bool.and_true, Bool.true_and, Bool.and_false, Bool.false_and, and_true, true_and, and_false, false_and, and_self, or_self, or_true, true_or, or_false, false_or, Bool.false_eq_true, Bool.true_eq_false, not_true_eq_false, not_false_eq_true, Bool.or_self, decide_eq_true_eq]] at kx
        exact kx _ _ hP hD hS ls (lv_sub hl [0] rfl)
      · refine lv_aload_n hx hb dX3_commit_105 rfl (lv_at hl 0 rfl) ?_
        refine hx_wri (va_runV (As := []) (rest := []) ⟨hx, hb, hml, hown, hts⟩ (c_X3_suspectMore l dC dI b cB n hd fm rp rq (maW n hd fm rp rq ne (mdN 2 0 nw sg wt) dn) ((cpF nw 7 0 bf)) db1 ((zeF 2 0 sg)) ((zeF 2 0 wt)) ne (maD n hd fm rp rq ne (mdN 2 0 nw sg wt) dn) (hy_0) H.size) (cwV 0 hts gX3_commit_X3_suspectMore rfl rfl rfl (by decide +kernel) ⟨Nat.le_of_ble_eq_true rfl, Nat.le_of_ble_eq_true rfl⟩) (wr_V nstW_ok hP hK hN hD 0 rfl rfl _) rfl rfl hl.1 rfl (lv_room (Nat.le_of_ble_eq_true rfl)) dX3_commit_106 ⟨Nat.zero_le _, Nat.zero_le _⟩) hD hS hA (fun H locs hP hD hS => ?_)
        have hP : va_P (dC, dI) vwCl (mdW b cB n hd fm rp rq ((maW n hd fm rp rq ne (mdN 2 0 nw sg wt) dn)) (((cpF nw 7 0 bf))) ((smF hd fm rp rq ne (maW n hd fm rp rq ne (mdN 2 0 nw sg wt) dn) ((cpF nw 7 0 bf)) n 0 db1 false).1) (((zeF 2 0 sg))) (((zeF 2 0 wt))) ne ((maD n hd fm rp rq ne (mdN 2 0 nw sg wt) dn))) H := hP
        have hD : va_D A (mdW b cB n hd fm rp rq ((maW n hd fm rp rq ne (mdN 2 0 nw sg wt) dn)) (((cpF nw 7 0 bf))) ((smF hd fm rp rq ne (maW n hd fm rp rq ne (mdN 2 0 nw sg wt) dn) ((cpF nw 7 0 bf)) n 0 db1 false).1) (((zeF 2 0 sg))) (((zeF 2 0 wt))) ne ((maD n hd fm rp rq ne (mdN 2 0 nw sg wt) dn))) := hD
        refine lv_istore_n (lv' := [(1, .int (bI ((smF hd fm rp rq ne (maW n hd fm rp rq ne (mdN 2 0 nw sg wt) dn) ((cpF nw 7 0 bf)) n 0 db1 false).2))), (0, .ref (b 0))]) hx hb dX3_commit_109 rfl hl (by decide) rfl (fun ls hl => ?_)
        refine lv_goto (tgt := 101) hx hb dX3_commit_110 (by decide) ?_
        have kx := kx
        rw [show scF n hd fm rp rq ne (maW n hd fm rp rq ne (mdN 2 0 nw sg wt) dn) (cpF nw 7 0 bf) (nn + 1) more db1 = scF n hd fm rp rq ne (maW n hd fm rp rq ne (mdN 2 0 nw sg wt) dn) (cpF nw 7 0 bf) nn ((smF hd fm rp rq ne (maW n hd fm rp rq ne (mdN 2 0 nw sg wt) dn) ((cpF nw 7 0 bf)) n 0 db1 false).2) ((smF hd fm rp rq ne (maW n hd fm rp rq ne (mdN 2 0 nw sg wt) dn) ((cpF nw 7 0 bf)) n 0 db1 false).1) from by simp only [scF, c_9, ↓reduceIte, decide_true, decide_false, Bool.not_true, Bool.not_false, Bool.or_true, Bool.true_or, Bool.or_false, Bool.false_or, Bool.and_true, Bool.true_and, Bool.and_false, Bool.false_and, and_true, true_and, and_false, false_and, and_self, or_self, or_true, true_or, or_false, false_or, Bool.false_eq_true, Bool.true_eq_false, not_true_eq_false, not_false_eq_true, Bool.or_self, decide_eq_true_eq]] at kx
        exact ih ((smF hd fm rp rq ne (maW n hd fm rp rq ne (mdN 2 0 nw sg wt) dn) ((cpF nw 7 0 bf)) n 0 db1 false).2) ((smF hd fm rp rq ne (maW n hd fm rp rq ne (mdN 2 0 nw sg wt) dn) ((cpF nw 7 0 bf)) n 0 db1 false).1) (by have h9 := hT; simp only [scT, c_9, ↓reduceIte] at h9; exact h9) _ _ hP hD hS ls (lv_sub hl [1, 0] rfl) kx
  refine L_101_6 126 true ((zeF 7 0 db)) (scT_ok hy_0 ne _ _ _) _ _ hP hD hS ls (lv_sub hl [1, 0] rfl) (fun H locs hP hD hS ls hl => ?_)
  have hP : va_P (dC, dI) vwCl (mdW b cB n hd fm rp rq (maW n hd fm rp rq ne (mdN 2 0 nw sg wt) dn) ((cpF nw 7 0 bf)) (scF n hd fm rp rq ne (maW n hd fm rp rq ne (mdN 2 0 nw sg wt) dn) (cpF nw 7 0 bf) 126 true ((zeF 7 0 db))) ((zeF 2 0 sg)) ((zeF 2 0 wt)) ne (maD n hd fm rp rq ne (mdN 2 0 nw sg wt) dn)) H := hP
  have hD : va_D A (mdW b cB n hd fm rp rq (maW n hd fm rp rq ne (mdN 2 0 nw sg wt) dn) ((cpF nw 7 0 bf)) (scF n hd fm rp rq ne (maW n hd fm rp rq ne (mdN 2 0 nw sg wt) dn) (cpF nw 7 0 bf) 126 true ((zeF 7 0 db))) ((zeF 2 0 sg)) ((zeF 2 0 wt)) ne (maD n hd fm rp rq ne (mdN 2 0 nw sg wt) dn)) := hD
  have hl : lv_has ls 4 [(0, .ref (b 0))] := hl
  refine lv_iconst (v := nI 0) hx hb dX3_commit_113 (by decide) ?_
  refine lv_istore_n (lv' := [(2, .int (nI 0)), (0, .ref (b 0))]) hx hb dX3_commit_114 rfl hl (by decide) rfl (fun ls hl => ?_)
  refine lv_iconst (v := nI 0) hx hb dX3_commit_115 (by decide) ?_
  refine lv_istore_n (lv' := [(3, .int (nI 0)), (2, .int (nI 0)), (0, .ref (b 0))]) hx hb dX3_commit_116 rfl hl (by decide) rfl (fun ls hl => ?_)
  have L_117_9 : ∀ (nn : Nat) (r : Nat) (w : Nat), r + nn = 7 → ∀ (H : Heap) (locs : List Loc), va_P (dC, dI) vwCl (mdW b cB n hd fm rp rq (maW n hd fm rp rq ne (mdN 2 0 nw sg wt) dn) ((cpF nw 7 0 bf)) (scF n hd fm rp rq ne (maW n hd fm rp rq ne (mdN 2 0 nw sg wt) dn) (cpF nw 7 0 bf) 126 true ((zeF 7 0 db))) ((zeF 2 0 sg)) ((zeF 2 0 wt)) ne (maD n hd fm rp rq ne (mdN 2 0 nw sg wt) dn)) H → va_D A (mdW b cB n hd fm rp rq (maW n hd fm rp rq ne (mdN 2 0 nw sg wt) dn) ((cpF nw 7 0 bf)) (scF n hd fm rp rq ne (maW n hd fm rp rq ne (mdN 2 0 nw sg wt) dn) (cpF nw 7 0 bf) 126 true ((zeF 7 0 db))) ((zeF 2 0 sg)) ((zeF 2 0 wt)) ne (maD n hd fm rp rq ne (mdN 2 0 nw sg wt) dn)) → va_S A s.heap H locs → ∀ ls : Array Slot, lv_has ls 4 [(0, .ref (b 0)), (2, .int (nI w)), (3, .int (nI r))] → (∀ (H : Heap) (locs : List Loc), va_P (dC, dI) vwCl (mdW b cB n hd fm rp rq (maW n hd fm rp rq ne (mdN 2 0 nw sg wt) dn) ((cpF nw 7 0 bf)) (scF n hd fm rp rq ne (maW n hd fm rp rq ne (mdN 2 0 nw sg wt) dn) (cpF nw 7 0 bf) 126 true ((zeF 7 0 db))) ((zeF 2 0 sg)) ((zeF 2 0 wt)) ne (maD n hd fm rp rq ne (mdN 2 0 nw sg wt) dn)) H → va_D A (mdW b cB n hd fm rp rq (maW n hd fm rp rq ne (mdN 2 0 nw sg wt) dn) ((cpF nw 7 0 bf)) (scF n hd fm rp rq ne (maW n hd fm rp rq ne (mdN 2 0 nw sg wt) dn) (cpF nw 7 0 bf) 126 true ((zeF 7 0 db))) ((zeF 2 0 sg)) ((zeF 2 0 wt)) ne (maD n hd fm rp rq ne (mdN 2 0 nw sg wt) dn)) → va_S A s.heap H locs → ∀ ls : Array Slot, lv_has ls 4 [(0, .ref (b 0)), (2, .int (nI (mcW (maW n hd fm rp rq ne (mdN 2 0 nw sg wt) dn) (cpF nw 7 0 bf) nn r w))), (3, .int (nI 7))] → W p l e (headSpec wsX3_commit ({ frames := 6, cells := 0, slots := 0, locals := 143 })).room s m ([.ref (b 0)] : List Value).toArray below meth c H locs 0 0 (MQ below (va_Qi (fun (rz9 : Int32) (_ : Unit) => rz9 = (nI (mcW (maW n hd fm rp rq ne (mdN 2 0 nw sg wt) dn) (cpF nw 7 0 bf) 7 0 0))) (wrB (dC, dI) vwCl (mdW b cB n hd fm rp rq nw bf db sg wt ne dn) (mdW b cB n hd fm rp rq (maW n hd fm rp rq ne (mdN 2 0 nw sg wt) dn) (cpF nw 7 0 bf) (scF n hd fm rp rq ne (maW n hd fm rp rq ne (mdN 2 0 nw sg wt) dn) (cpF nw 7 0 bf) 126 true (zeF 7 0 db)) (zeF 2 0 sg) (zeF 2 0 wt) ne (maD n hd fm rp rq ne (mdN 2 0 nw sg wt) dn)) (mdT cB) s.heap.size) (va_A (mdW b cB n hd fm rp rq nw bf db sg wt ne dn) s.heap.size)) ([.ref (b 0)] : List Value).toArray s 0 0 (va_A (mdW b cB n hd fm rp rq nw bf db sg wt ne dn) s.heap.size)) (F0 m 149 ls [])) → W p l e (headSpec wsX3_commit ({ frames := 6, cells := 0, slots := 0, locals := 143 })).room s m ([.ref (b 0)] : List Value).toArray below meth c H locs 0 0 (MQ below (va_Qi (fun (rz9 : Int32) (_ : Unit) => rz9 = (nI (mcW (maW n hd fm rp rq ne (mdN 2 0 nw sg wt) dn) (cpF nw 7 0 bf) 7 0 0))) (wrB (dC, dI) vwCl (mdW b cB n hd fm rp rq nw bf db sg wt ne dn) (mdW b cB n hd fm rp rq (maW n hd fm rp rq ne (mdN 2 0 nw sg wt) dn) (cpF nw 7 0 bf) (scF n hd fm rp rq ne (maW n hd fm rp rq ne (mdN 2 0 nw sg wt) dn) (cpF nw 7 0 bf) 126 true (zeF 7 0 db)) (zeF 2 0 sg) (zeF 2 0 wt) ne (maD n hd fm rp rq ne (mdN 2 0 nw sg wt) dn)) (mdT cB) s.heap.size) (va_A (mdW b cB n hd fm rp rq nw bf db sg wt ne dn) s.heap.size)) ([.ref (b 0)] : List Value).toArray s 0 0 (va_A (mdW b cB n hd fm rp rq nw bf db sg wt ne dn) s.heap.size)) (F0 m 117 ls []) := by
    intro nn
    induction nn with
    | zero =>
      intro r w hn_r H locs hP hD hS ls hl kx
      obtain rfl : r = 7 := by omega
      refine lv_iload_n hx hb dX3_commit_117 rfl (lv_at hl 2 rfl) ?_
      refine lv_bipush (v := nI 7) hx hb dX3_commit_118 (by decide) ?_
      refine hx_geN (tgt := 149) hx hb dX3_commit_120 (by decide) (by omega) (by omega) (fun c_11 => ?_) (fun c_11 => ?_)
      · exact kx _ _ hP hD hS ls (lv_sub hl [0, 1, 2] rfl)
      · exact absurd c_11 (by omega)
    | succ nn ih =>
      intro r w hn_r H locs hP hD hS ls hl kx
      refine lv_iload_n hx hb dX3_commit_117 rfl (lv_at hl 2 rfl) ?_
      refine lv_bipush (v := nI 7) hx hb dX3_commit_118 (by decide) ?_
      refine hx_geN (tgt := 149) hx hb dX3_commit_120 (by decide) (by omega) (by omega) (fun c_12 => ?_) (fun c_12 => ?_)
      · exact absurd c_12 (by omega)
      · refine lv_iload_n hx hb dX3_commit_123 rfl (lv_at hl 1 rfl) ?_
        refine lv_aload_n hx hb dX3_commit_124 rfl (lv_at hl 0 rfl) ?_
        refine lv_iload_n hx hb dX3_commit_125 rfl (lv_at hl 2 rfl) ?_
        refine hx_read (va_runV (As := [.int (nI r)]) (rest := [.int (nI w)]) ⟨hx, hb, hml, hown, hts⟩ (c_X3_taken l dC dI b cB n hd fm rp rq (maW n hd fm rp rq ne (mdN 2 0 nw sg wt) dn) ((cpF nw 7 0 bf)) (scF n hd fm rp rq ne (maW n hd fm rp rq ne (mdN 2 0 nw sg wt) dn) (cpF nw 7 0 bf) 126 true ((zeF 7 0 db))) ((zeF 2 0 sg)) ((zeF 2 0 wt)) ne (maD n hd fm rp rq ne (mdN 2 0 nw sg wt) dn) r (by omega)) (cwV 1 hts gX3_commit_X3_taken rfl rfl rfl (by decide +kernel) ⟨Nat.le_of_ble_eq_true rfl, Nat.le_of_ble_eq_true rfl⟩) (rd_V nstW_ok hP hK hN 0 rfl rfl _) rfl rfl hl.1 rfl (lv_room (Nat.le_of_ble_eq_true rfl)) dX3_commit_126 ⟨Nat.zero_le _, Nat.zero_le _⟩) ?_
        refine hx_read (va_runS (As := [.int (takM (maW n hd fm rp rq ne (mdN 2 0 nw sg wt) dn) ((cpF nw 7 0 bf)) r)]) (rest := [.int (nI w)]) ⟨hx, hb, hml, hown, hts⟩ (c_X3_ones l (takM (maW n hd fm rp rq ne (mdN 2 0 nw sg wt) dn) ((cpF nw 7 0 bf)) r)) (va_cwS 1 hts gX3_commit_X3_ones rfl rfl rfl (by decide +kernel) ⟨Nat.le_of_ble_eq_true rfl, Nat.le_of_ble_eq_true rfl⟩) (nu_S _) rfl rfl hl.1 rfl (lv_room (Nat.le_of_ble_eq_true rfl)) dX3_commit_129 ⟨Nat.zero_le _, Nat.zero_le _⟩) ?_
        have hc_13 := cntB_le (takM (maW n hd fm rp rq ne (mdN 2 0 nw sg wt) dn) ((cpF nw 7 0 bf)) r) 25
        refine hx_iadd hx hb dX3_commit_132 ?_
        refine lv_aload_n hx hb dX3_commit_133 rfl (lv_at hl 0 rfl) ?_
        refine lv_iload_n hx hb dX3_commit_134 rfl (lv_at hl 2 rfl) ?_
        refine hx_read (va_runV (As := [.int (nI r)]) (rest := [.int (nI (w + (cntB (takM (maW n hd fm rp rq ne (mdN 2 0 nw sg wt) dn) ((cpF nw 7 0 bf)) r) 25)))]) ⟨hx, hb, hml, hown, hts⟩ (c_X3_added l dC dI b cB n hd fm rp rq (maW n hd fm rp rq ne (mdN 2 0 nw sg wt) dn) ((cpF nw 7 0 bf)) (scF n hd fm rp rq ne (maW n hd fm rp rq ne (mdN 2 0 nw sg wt) dn) (cpF nw 7 0 bf) 126 true ((zeF 7 0 db))) ((zeF 2 0 sg)) ((zeF 2 0 wt)) ne (maD n hd fm rp rq ne (mdN 2 0 nw sg wt) dn) r (by omega)) (cwV 1 hts gX3_commit_X3_added rfl rfl rfl (by decide +kernel) ⟨Nat.le_of_ble_eq_true rfl, Nat.le_of_ble_eq_true rfl⟩) (rd_V nstW_ok hP hK hN 0 rfl rfl _) rfl rfl hl.1 rfl (lv_room (Nat.le_of_ble_eq_true rfl)) dX3_commit_135 ⟨Nat.zero_le _, Nat.zero_le _⟩) ?_
        refine hx_read (va_runS (As := [.int (putM (maW n hd fm rp rq ne (mdN 2 0 nw sg wt) dn) ((cpF nw 7 0 bf)) r)]) (rest := [.int (nI (w + (cntB (takM (maW n hd fm rp rq ne (mdN 2 0 nw sg wt) dn) ((cpF nw 7 0 bf)) r) 25)))]) ⟨hx, hb, hml, hown, hts⟩ (c_X3_ones l (putM (maW n hd fm rp rq ne (mdN 2 0 nw sg wt) dn) ((cpF nw 7 0 bf)) r)) (va_cwS 1 hts gX3_commit_X3_ones rfl rfl rfl (by decide +kernel) ⟨Nat.le_of_ble_eq_true rfl, Nat.le_of_ble_eq_true rfl⟩) (nu_S _) rfl rfl hl.1 rfl (lv_room (Nat.le_of_ble_eq_true rfl)) dX3_commit_138 ⟨Nat.zero_le _, Nat.zero_le _⟩) ?_
        have hc_14 := cntB_le (putM (maW n hd fm rp rq ne (mdN 2 0 nw sg wt) dn) ((cpF nw 7 0 bf)) r) 25
        refine hx_iadd hx hb dX3_commit_141 ?_
        refine lv_istore_n (lv' := [(2, .int (nI ((w + (cntB (takM (maW n hd fm rp rq ne (mdN 2 0 nw sg wt) dn) ((cpF nw 7 0 bf)) r) 25)) + (cntB (putM (maW n hd fm rp rq ne (mdN 2 0 nw sg wt) dn) ((cpF nw 7 0 bf)) r) 25)))), (0, .ref (b 0)), (3, .int (nI r))]) hx hb dX3_commit_142 rfl hl (by decide) rfl (fun ls hl => ?_)
        refine lv_iinc (v := nI (r + 1)) (lv' := [(3, .int (nI (r + 1))), (2, .int (nI ((w + (cntB (takM (maW n hd fm rp rq ne (mdN 2 0 nw sg wt) dn) ((cpF nw 7 0 bf)) r) 25)) + (cntB (putM (maW n hd fm rp rq ne (mdN 2 0 nw sg wt) dn) ((cpF nw 7 0 bf)) r) 25)))), (0, .ref (b 0))]) hx hb dX3_commit_143 hl (k := 2) rfl (nI_add r 1) (by decide) rfl (fun ls hl => ?_)
        refine lv_goto (tgt := 117) hx hb dX3_commit_146 (by decide) ?_
        have kx := kx
        rw [show mcW (maW n hd fm rp rq ne (mdN 2 0 nw sg wt) dn) (cpF nw 7 0 bf) (nn + 1) r w = mcW (maW n hd fm rp rq ne (mdN 2 0 nw sg wt) dn) (cpF nw 7 0 bf) nn (r + 1) ((w + (cntB (takM (maW n hd fm rp rq ne (mdN 2 0 nw sg wt) dn) ((cpF nw 7 0 bf)) r) 25)) + (cntB (putM (maW n hd fm rp rq ne (mdN 2 0 nw sg wt) dn) ((cpF nw 7 0 bf)) r) 25)) from rfl] at kx
        exact ih (r + 1) ((w + (cntB (takM (maW n hd fm rp rq ne (mdN 2 0 nw sg wt) dn) ((cpF nw 7 0 bf)) r) 25)) + (cntB (putM (maW n hd fm rp rq ne (mdN 2 0 nw sg wt) dn) ((cpF nw 7 0 bf)) r) 25)) (by omega) _ _ hP hD hS ls (lv_sub hl [2, 1, 0] rfl) kx
  refine L_117_9 7 0 0 (by omega) _ _ hP hD hS ls (lv_sub hl [2, 1, 0] rfl) (fun H locs hP hD hS ls hl => ?_)
  have hP : va_P (dC, dI) vwCl (mdW b cB n hd fm rp rq (maW n hd fm rp rq ne (mdN 2 0 nw sg wt) dn) ((cpF nw 7 0 bf)) (scF n hd fm rp rq ne (maW n hd fm rp rq ne (mdN 2 0 nw sg wt) dn) (cpF nw 7 0 bf) 126 true ((zeF 7 0 db))) ((zeF 2 0 sg)) ((zeF 2 0 wt)) ne (maD n hd fm rp rq ne (mdN 2 0 nw sg wt) dn)) H := hP
  have hD : va_D A (mdW b cB n hd fm rp rq (maW n hd fm rp rq ne (mdN 2 0 nw sg wt) dn) ((cpF nw 7 0 bf)) (scF n hd fm rp rq ne (maW n hd fm rp rq ne (mdN 2 0 nw sg wt) dn) (cpF nw 7 0 bf) 126 true ((zeF 7 0 db))) ((zeF 2 0 sg)) ((zeF 2 0 wt)) ne (maD n hd fm rp rq ne (mdN 2 0 nw sg wt) dn)) := hD
  have hl : lv_has ls 4 [(0, .ref (b 0)), (2, .int (nI (mcW (maW n hd fm rp rq ne (mdN 2 0 nw sg wt) dn) (cpF nw 7 0 bf) 7 0 0))), (3, .int (nI 7))] := hl
  refine lv_iload_n hx hb dX3_commit_149 rfl (lv_at hl 1 rfl) ?_
  have e9 : mdW b cB n hd fm rp rq (maW n hd fm rp rq ne (mdN 2 0 nw sg wt) dn) ((cpF nw 7 0 bf)) (scF n hd fm rp rq ne (maW n hd fm rp rq ne (mdN 2 0 nw sg wt) dn) (cpF nw 7 0 bf) 126 true ((zeF 7 0 db))) ((zeF 2 0 sg)) ((zeF 2 0 wt)) ne (maD n hd fm rp rq ne (mdN 2 0 nw sg wt) dn) = mdW b cB n hd fm rp rq (maW n hd fm rp rq ne (mdN 2 0 nw sg wt) dn) (cpF nw 7 0 bf) (scF n hd fm rp rq ne (maW n hd fm rp rq ne (mdN 2 0 nw sg wt) dn) (cpF nw 7 0 bf) 126 true (zeF 7 0 db)) (zeF 2 0 sg) (zeF 2 0 wt) ne (maD n hd fm rp rq ne (mdN 2 0 nw sg wt) dn) := rfl
  rw [e9] at hP hD
  subst hAe
  exact W.iret (v := nI (mcW (maW n hd fm rp rq ne (mdN 2 0 nw sg wt) dn) (cpF nw 7 0 bf) 7 0 0)) hx hb hr (fun t ht hW => ⟨⟨_, (), rfl, rfl, by rw [ht]; exact hP, va_K.moved hW.alike hK, hD⟩, hS.F ht⟩) hS.2.2 dX3_commit_150
set_option maxHeartbeats 4000000 in
set_option maxRecDepth 100000 in
theorem c_X3_abort (l : Launch) (dC : Nat → ClassId) (dI : Nat → Nat → Nat) (b : Nat → Nat) (cB : Nat → ClassId) (n : Nat) (hd fm rp rq : Nat → Nat) (nw bf db sg wt : Nat → Int32) (ne dn : Nat → Bool)  : WrI l yX3_abort wsX3_abort ({ frames := 1, cells := 0, slots := 0, locals := 22 }) (dC, dI) vwCl (mdW b cB n hd fm rp rq nw bf db sg wt ne dn) (mdW b cB n hd fm rp rq nw bf db (zeF 2 0 sg) (zeF 2 0 wt) ne dn) (mdT cB) nstW [.ref (b 0)] (nI (cntB (sg 0) 25 + cntB (sg 1) 25)) := by
  intro sz
  refine Met.ofW (cc := cX3_abort) (maxL := 3) (ret := (some .int)) (by decide) rfl ?_
  intro p e s m args below meth c s₁ B hml hv
  obtain ⟨rfl, hsz, ⟨hP, hK, hN⟩, hD0⟩ := hv
  subst hsz
  have hx := B.exec
  have hb := B.bytes
  have hr := B.returns
  have hts := atoms_spec (ws := wsX3_abort) B.pre
  have hown : s.vm.findClass RX3 = some m.cls := findClass_of_methodNamed B.named
  have hlocks := B.notSynchronized
  obtain ⟨A, hAe⟩ : ∃ A, A = va_A (mdW b cB n hd fm rp rq nw bf db sg wt ne dn) s.heap.size := ⟨_, rfl⟩
  have hD : va_D A (mdW b cB n hd fm rp rq nw bf db sg wt ne dn) := by rw [hAe]; exact hD0.self (sz := s.heap.size)
  have hA : ∀ q : Nat, s.heap.size ≤ q → A q := fun q h => by rw [hAe]; exact Or.inr h
  have hS : va_S A s.heap s.heap [] := va_S.rf
  have hP : va_P (dC, dI) vwCl (mdW b cB n hd fm rp rq nw bf db sg wt ne dn) s.heap := hP
  have lf_31 := hts (.fieldLink RX3 31 "ViewKeeperModel" "staged" "[I") (by decide +kernel)
  have in_X3 : ∀ w ∈ u_ws RX3 TX3 12, w ∈ wsX3_abort := by decide +kernel
  have lf_34 := hts (.fieldLink RX3 34 "ViewKeeperModel" "wanted" "[I") (by decide +kernel)
  have hl := lv_entry ([.ref (b 0)]) (n := 3) (Nat.le_of_ble_eq_true rfl)
  rw [lg_entry_eq]
  generalize (lg_sl ([.ref (b 0)]) ++ List.replicate (3 - (lg_sl ([.ref (b 0)])).length) Slot.unset).toArray = ls at hl ⊢
  have hl : lv_has ls 3 [(0, .ref (b 0))] := hl
  refine lv_aload_n hx hb dX3_abort_0 rfl (lv_at hl 0 rfl) ?_
  refine va_get (D := (dC, dI)) (ci := 3) (v := .ref (b 8)) (C := RX3) (T := TX3) (N := 12) hx hb hts in_X3 hown hK hP 0 rfl rfl 8 (by decide) lf_31 (fun _ h9 => h9) rfl dX3_abort_1 ?_
  refine lv_iconst (v := nI 0) hx hb dX3_abort_4 (by decide) ?_
  refine hx_iald hx hb hK hP 8 7 rfl rfl (by omega) (by omega) dX3_abort_5 ?_
  refine hx_read (va_runS (As := [.int (sg 0)]) (rest := []) ⟨hx, hb, hml, hown, hts⟩ (c_X3_ones l (sg 0)) (va_cwS 1 hts gX3_abort_X3_ones rfl rfl rfl (by decide +kernel) ⟨Nat.le_of_ble_eq_true rfl, Nat.le_of_ble_eq_true rfl⟩) (nu_S _) rfl rfl hl.1 rfl (lv_room (Nat.le_of_ble_eq_true rfl)) dX3_abort_6 ⟨Nat.zero_le _, Nat.zero_le _⟩) ?_
  have hc_1 := cntB_le (sg 0) 25
  refine lv_aload_n hx hb dX3_abort_9 rfl (lv_at hl 0 rfl) ?_
  refine va_get (D := (dC, dI)) (ci := 3) (v := .ref (b 8)) (C := RX3) (T := TX3) (N := 12) hx hb hts in_X3 hown hK hP 0 rfl rfl 8 (by decide) lf_31 (fun _ h9 => h9) rfl dX3_abort_10 ?_
  refine lv_iconst (v := nI 1) hx hb dX3_abort_13 (by decide) ?_
  refine hx_iald hx hb hK hP 8 7 rfl rfl (by omega) (by omega) dX3_abort_14 ?_
  refine hx_read (va_runS (As := [.int (sg 1)]) (rest := [.int (nI (cntB (sg 0) 25))]) ⟨hx, hb, hml, hown, hts⟩ (c_X3_ones l (sg 1)) (va_cwS 1 hts gX3_abort_X3_ones rfl rfl rfl (by decide +kernel) ⟨Nat.le_of_ble_eq_true rfl, Nat.le_of_ble_eq_true rfl⟩) (nu_S _) rfl rfl hl.1 rfl (lv_room (Nat.le_of_ble_eq_true rfl)) dX3_abort_15 ⟨Nat.zero_le _, Nat.zero_le _⟩) ?_
  have hc_2 := cntB_le (sg 1) 25
  refine hx_iadd hx hb dX3_abort_18 ?_
  refine lv_istore_n (lv' := [(1, .int (nI ((cntB (sg 0) 25) + (cntB (sg 1) 25)))), (0, .ref (b 0))]) hx hb dX3_abort_19 rfl hl (by decide) rfl (fun ls hl => ?_)
  refine lv_iconst (v := nI 0) hx hb dX3_abort_20 (by decide) ?_
  refine lv_istore_n (lv' := [(2, .int (nI 0)), (1, .int (nI ((cntB (sg 0) 25) + (cntB (sg 1) 25)))), (0, .ref (b 0))]) hx hb dX3_abort_21 rfl hl (by decide) rfl (fun ls hl => ?_)
  have L_22_2 : ∀ (nn : Nat) (r : Nat) (sg1 : Nat → Int32) (wt1 : Nat → Int32), r + nn = 2 → ∀ (H : Heap) (locs : List Loc), va_P (dC, dI) vwCl (mdW b cB n hd fm rp rq nw bf db sg1 wt1 ne dn) H → va_D A (mdW b cB n hd fm rp rq nw bf db sg1 wt1 ne dn) → va_S A s.heap H locs → ∀ ls : Array Slot, lv_has ls 3 [(0, .ref (b 0)), (1, .int (nI ((cntB (sg 0) 25) + (cntB (sg 1) 25)))), (2, .int (nI r))] → (∀ (H : Heap) (locs : List Loc), va_P (dC, dI) vwCl (mdW b cB n hd fm rp rq nw bf db (zeF nn r sg1) (zeF nn r wt1) ne dn) H → va_D A (mdW b cB n hd fm rp rq nw bf db (zeF nn r sg1) (zeF nn r wt1) ne dn) → va_S A s.heap H locs → ∀ ls : Array Slot, lv_has ls 3 [(0, .ref (b 0)), (1, .int (nI ((cntB (sg 0) 25) + (cntB (sg 1) 25)))), (2, .int (nI 2))] → W p l e (headSpec wsX3_abort ({ frames := 1, cells := 0, slots := 0, locals := 22 })).room s m ([.ref (b 0)] : List Value).toArray below meth c H locs 0 0 (MQ below (va_Qi (fun (rz9 : Int32) (_ : Unit) => rz9 = (nI (cntB (sg 0) 25 + cntB (sg 1) 25))) (wrB (dC, dI) vwCl (mdW b cB n hd fm rp rq nw bf db sg wt ne dn) (mdW b cB n hd fm rp rq nw bf db (zeF 2 0 sg) (zeF 2 0 wt) ne dn) (mdT cB) s.heap.size) (va_A (mdW b cB n hd fm rp rq nw bf db sg wt ne dn) s.heap.size)) ([.ref (b 0)] : List Value).toArray s 0 0 (va_A (mdW b cB n hd fm rp rq nw bf db sg wt ne dn) s.heap.size)) (F0 m 47 ls [])) → W p l e (headSpec wsX3_abort ({ frames := 1, cells := 0, slots := 0, locals := 22 })).room s m ([.ref (b 0)] : List Value).toArray below meth c H locs 0 0 (MQ below (va_Qi (fun (rz9 : Int32) (_ : Unit) => rz9 = (nI (cntB (sg 0) 25 + cntB (sg 1) 25))) (wrB (dC, dI) vwCl (mdW b cB n hd fm rp rq nw bf db sg wt ne dn) (mdW b cB n hd fm rp rq nw bf db (zeF 2 0 sg) (zeF 2 0 wt) ne dn) (mdT cB) s.heap.size) (va_A (mdW b cB n hd fm rp rq nw bf db sg wt ne dn) s.heap.size)) ([.ref (b 0)] : List Value).toArray s 0 0 (va_A (mdW b cB n hd fm rp rq nw bf db sg wt ne dn) s.heap.size)) (F0 m 22 ls []) := by
    intro nn
    induction nn with
    | zero =>
      intro r sg1 wt1 hn_r H locs hP hD hS ls hl kx
      obtain rfl : r = 2 := by omega
      refine lv_iload_n hx hb dX3_abort_22 rfl (lv_at hl 2 rfl) ?_
      refine lv_iconst (v := nI 2) hx hb dX3_abort_23 (by decide) ?_
      refine hx_geN (tgt := 47) hx hb dX3_abort_24 (by decide) (by omega) (by omega) (fun c_4 => ?_) (fun c_4 => ?_)
      · exact kx _ _ hP hD hS ls (lv_sub hl [0, 1, 2] rfl)
      · exact absurd c_4 (by omega)
    | succ nn ih =>
      intro r sg1 wt1 hn_r H locs hP hD hS ls hl kx
      refine lv_iload_n hx hb dX3_abort_22 rfl (lv_at hl 2 rfl) ?_
      refine lv_iconst (v := nI 2) hx hb dX3_abort_23 (by decide) ?_
      refine hx_geN (tgt := 47) hx hb dX3_abort_24 (by decide) (by omega) (by omega) (fun c_5 => ?_) (fun c_5 => ?_)
      · exact absurd c_5 (by omega)
      · refine lv_aload_n hx hb dX3_abort_27 rfl (lv_at hl 0 rfl) ?_
        refine va_get (D := (dC, dI)) (ci := 3) (v := .ref (b 8)) (C := RX3) (T := TX3) (N := 12) hx hb hts in_X3 hown hK hP 0 rfl rfl 8 (by decide) lf_31 (fun _ h9 => h9) rfl dX3_abort_28 ?_
        refine lv_iload_n hx hb dX3_abort_31 rfl (lv_at hl 2 rfl) ?_
        refine lv_iconst (v := nI 0) hx hb dX3_abort_32 (by decide) ?_
        refine hx_iast hx hb hK hP hD hS 8 7 rfl rfl (by omega) (by omega) dX3_abort_33 (fun H locs hP hD hS => ?_)
        have hP : va_P (dC, dI) vwCl (mdW b cB n hd fm rp rq nw bf db (upd sg1 r (nI 0)) wt1 ne dn) H := hP
        have hD : va_D A (mdW b cB n hd fm rp rq nw bf db (upd sg1 r (nI 0)) wt1 ne dn) := hD
        refine lv_aload_n hx hb dX3_abort_34 rfl (lv_at hl 0 rfl) ?_
        refine va_get (D := (dC, dI)) (ci := 3) (v := .ref (b 9)) (C := RX3) (T := TX3) (N := 12) hx hb hts in_X3 hown hK hP 0 rfl rfl 9 (by decide) lf_34 (fun _ h9 => h9) rfl dX3_abort_35 ?_
        refine lv_iload_n hx hb dX3_abort_38 rfl (lv_at hl 2 rfl) ?_
        refine lv_iconst (v := nI 0) hx hb dX3_abort_39 (by decide) ?_
        refine hx_iast hx hb hK hP hD hS 9 8 rfl rfl (by omega) (by omega) dX3_abort_40 (fun H locs hP hD hS => ?_)
        have hP : va_P (dC, dI) vwCl (mdW b cB n hd fm rp rq nw bf db (upd sg1 r (nI 0)) (upd wt1 r (nI 0)) ne dn) H := hP
        have hD : va_D A (mdW b cB n hd fm rp rq nw bf db (upd sg1 r (nI 0)) (upd wt1 r (nI 0)) ne dn) := hD
        refine lv_iinc (v := nI (r + 1)) (lv' := [(2, .int (nI (r + 1))), (0, .ref (b 0)), (1, .int (nI ((cntB (sg 0) 25) + (cntB (sg 1) 25))))]) hx hb dX3_abort_41 hl (k := 2) rfl (nI_add r 1) (by decide) rfl (fun ls hl => ?_)
        refine lv_goto (tgt := 22) hx hb dX3_abort_44 (by decide) ?_
        have kx := kx
        rw [show zeF (nn + 1) r sg1 = zeF nn (r + 1) (upd sg1 r (nI 0)) from rfl] at kx
        rw [show zeF (nn + 1) r wt1 = zeF nn (r + 1) (upd wt1 r (nI 0)) from rfl] at kx
        exact ih (r + 1) (upd sg1 r (nI 0)) (upd wt1 r (nI 0)) (by omega) _ _ hP hD hS ls (lv_sub hl [1, 2, 0] rfl) kx
  refine L_22_2 2 0 sg wt (by omega) _ _ hP hD hS ls (lv_sub hl [2, 1, 0] rfl) (fun H locs hP hD hS ls hl => ?_)
  have hP : va_P (dC, dI) vwCl (mdW b cB n hd fm rp rq nw bf db (zeF 2 0 sg) (zeF 2 0 wt) ne dn) H := hP
  have hD : va_D A (mdW b cB n hd fm rp rq nw bf db (zeF 2 0 sg) (zeF 2 0 wt) ne dn) := hD
  have hl : lv_has ls 3 [(0, .ref (b 0)), (1, .int (nI ((cntB (sg 0) 25) + (cntB (sg 1) 25)))), (2, .int (nI 2))] := hl
  refine lv_iload_n hx hb dX3_abort_47 rfl (lv_at hl 1 rfl) ?_
  have e9 : mdW b cB n hd fm rp rq nw bf db (zeF 2 0 sg) (zeF 2 0 wt) ne dn = mdW b cB n hd fm rp rq nw bf db (zeF 2 0 sg) (zeF 2 0 wt) ne dn := rfl
  rw [e9] at hP hD
  subst hAe
  exact W.iret (v := nI ((cntB (sg 0) 25) + (cntB (sg 1) 25))) hx hb hr (fun t ht hW => ⟨⟨_, (), rfl, rfl, by rw [ht]; exact hP, va_K.moved hW.alike hK, hD⟩, hS.F ht⟩) hS.2.2 dX3_abort_48

/-! WHAT NEEDS WHAT: the book's masks and the reference's table hold the same; it is closed under 'needs what that needs' -/
theorem nx7 {a b c d : Nat} (hb : b < 7) (hd : d < 7) : 7 * a + b = 7 * c + d ↔ a = c ∧ b = d := by omega
theorem va_up7 {g : Nat → Bool} {a b c d : Nat} {v : Bool} (hb : b < 7) (hd : d < 7) : va_up g (7 * c + d) v (7 * a + b) = if a = c ∧ b = d then v else g (7 * a + b) := by
  unfold va_up
  by_cases h : a = c ∧ b = d
  · rw [if_pos h, if_pos ((nx7 hb hd).mpr h)]
  · rw [if_neg h, if_neg (fun q => h ((nx7 hb hd).mp q))]
theorem neB_at (mm aa : Nat) (hm : mm < 7) (ha : aa < 7) (g0 : Nat → Bool) : ∀ (k bb : Nat) (g : Nat → Bool), bb + k = 7 → (∀ a b, a < 7 → b < 7 → g (7 * a + b) = if a = aa ∧ b < bb then (g0 (7 * a + b) || (g0 (7 * aa + mm) && g0 (7 * mm + b))) else g0 (7 * a + b)) → ∀ a b, a < 7 → b < 7 → neB mm aa k bb g (7 * a + b) = if a = aa then (g0 (7 * a + b) || (g0 (7 * aa + mm) && g0 (7 * mm + b))) else g0 (7 * a + b) := by
  intro k
  induction k with
  | zero =>
    intro bb g hbb h a b h7 hb7
    rw [neB, h a b h7 hb7]
    by_cases e : a = aa
    · rw [if_pos ⟨e, by omega⟩, if_pos e]
    · rw [if_neg (fun q => e q.1), if_neg e]
  | succ k ih =>
    intro bb g hbb h
    rw [neB]
    refine ih (bb + 1) _ (by omega) (fun a b h7 hb7 => ?_)
    rw [va_up7 hb7 (by omega)]
    have e1 : g (7 * aa + bb) = g0 (7 * aa + bb) := by rw [h aa bb ha (by omega), if_neg (by omega)]
    have e2 : g (7 * mm + bb) = g0 (7 * mm + bb) := by rw [h mm bb hm (by omega), if_neg (by omega)]
    have e3 : g (7 * aa + mm) = g0 (7 * aa + mm) := by
      rw [h aa mm ha hm]
      split
      · cases g0 (7 * aa + mm) <;> simp
      · rfl
    by_cases e : a = aa ∧ b = bb
    · rw [if_pos e, if_pos (by omega), e1, e2, e3, e.1, e.2]
    · rw [if_neg e, h a b h7 hb7]
      by_cases e4 : a = aa ∧ b < bb
      · rw [if_pos e4, if_pos (by omega)]
      · rw [if_neg e4, if_neg (by omega)]
theorem neB_all {mm aa : Nat} (hm : mm < 7) (ha : aa < 7) (g : Nat → Bool) {a b : Nat} (h7 : a < 7) (hb7 : b < 7) : neB mm aa 7 0 g (7 * a + b) = if a = aa then (g (7 * a + b) || (g (7 * aa + mm) && g (7 * mm + b))) else g (7 * a + b) :=
  neB_at mm aa hm ha g 7 0 g (by omega) (fun a b _ _ => by rw [if_neg (by omega)]) a b h7 hb7
theorem neA_at (mm : Nat) (hm : mm < 7) (g0 : Nat → Bool) : ∀ (k aa : Nat) (g : Nat → Bool), aa + k = 7 → (∀ a b, a < 7 → b < 7 → g (7 * a + b) = if a < aa then (g0 (7 * a + b) || (g0 (7 * a + mm) && g0 (7 * mm + b))) else g0 (7 * a + b)) → ∀ a b, a < 7 → b < 7 → neA mm k aa g (7 * a + b) = (g0 (7 * a + b) || (g0 (7 * a + mm) && g0 (7 * mm + b))) := by
  intro k
  induction k with
  | zero => intro aa g haa h a b h7 hb7; rw [neA, h a b h7 hb7, if_pos (by omega)]
  | succ k ih =>
    intro aa g haa h
    rw [neA]
    refine ih (aa + 1) _ (by omega) (fun a b h7 hb7 => ?_)
    rw [neB_all hm (by omega) g h7 hb7]
    have e1 : ∀ b, b < 7 → g (7 * aa + b) = g0 (7 * aa + b) := fun b hb => by rw [h aa b (by omega) hb, if_neg (by omega)]
    have e2 : ∀ b, b < 7 → g (7 * mm + b) = g0 (7 * mm + b) := fun b hb => by
      rw [h mm b hm hb]
      split
      · cases g0 (7 * mm + b) <;> simp
      · rfl
    by_cases e : a = aa
    · subst e
      rw [if_pos rfl, if_pos (by omega), e1 b hb7, e1 mm hm, e2 b hb7]
    · rw [if_neg e, h a b h7 hb7]
      by_cases e4 : a < aa
      · rw [if_pos e4, if_pos (by omega)]
      · rw [if_neg e4, if_neg (by omega)]
theorem neA_all {mm : Nat} (hm : mm < 7) (g : Nat → Bool) {a b : Nat} (h7 : a < 7) (hb7 : b < 7) : neA mm 7 0 g (7 * a + b) = (g (7 * a + b) || (g (7 * a + mm) && g (7 * mm + b))) :=
  neA_at mm hm g 7 0 g (by omega) (fun a b _ _ => by rw [if_neg (by omega)]) a b h7 hb7
/-- closed through the middles below m -/
def trF (m : Nat) (g : Nat → Bool) : Prop := ∀ a b c, a < 7 → b < 7 → c < 7 → b < m → g (7 * a + b) = true → g (7 * b + c) = true → g (7 * a + c) = true
theorem neM_tr : ∀ (k m : Nat) (g : Nat → Bool), m + k = 7 → trF m g → trF 7 (neM k m g) := by
  intro k
  induction k with
  | zero =>
    intro m g h t
    rw [neM]
    rw [show m = 7 by omega] at t
    exact t
  | succ k ih =>
    intro m g h t
    rw [neM]
    refine ih (m + 1) _ (by omega) (fun a b c ha hb hc hbm p q => ?_)
    have hm : m < 7 := by omega
    rw [neA_all hm g ha hb] at p
    rw [neA_all hm g hb hc] at q
    rw [neA_all hm g ha hc]
    simp only [Bool.or_eq_true, Bool.and_eq_true] at p q ⊢
    by_cases e : b = m
    · subst e
      have p' : g (7 * a + b) = true := p.elim id (fun z => z.1)
      have q' : g (7 * b + c) = true := q.elim id (fun z => z.2)
      exact Or.inr ⟨p', q'⟩
    · have hb' : b < m := by omega
      rcases p with p | p
      · rcases q with q | q
        · exact Or.inl (t a b c ha hb hc hb' p q)
        · exact Or.inr ⟨t a b m ha hb hm hb' p q.1, q.2⟩
      · rcases q with q | q
        · exact Or.inr ⟨p.1, t m b c hm hb hc hb' p.2 q⟩
        · exact Or.inr ⟨p.1, q.2⟩
theorem neM_mono : ∀ (k m : Nat) (g h : Nat → Bool), m + k = 7 → (∀ a b, a < 7 → b < 7 → g (7 * a + b) = true → h (7 * a + b) = true) → ∀ a b, a < 7 → b < 7 → neM k m g (7 * a + b) = true → neM k m h (7 * a + b) = true := by
  intro k
  induction k with
  | zero => intro m g h _ H; exact H
  | succ k ih =>
    intro m g h hk H
    rw [neM, neM]
    refine ih (m + 1) _ _ (by omega) (fun a b ha hb p => ?_)
    have hm : m < 7 := by omega
    rw [neA_all hm g ha hb] at p
    rw [neA_all hm h ha hb]
    simp only [Bool.or_eq_true, Bool.and_eq_true] at p ⊢
    exact p.elim (fun p => Or.inl (H a b ha hb p)) (fun p => Or.inr ⟨H a m ha hm p.1, H m b hm hb p.2⟩)
theorem neM_le : ∀ (k m : Nat) (g : Nat → Bool), m + k = 7 → ∀ a b, a < 7 → b < 7 → g (7 * a + b) = true → neM k m g (7 * a + b) = true := by
  intro k
  induction k with
  | zero => intro m g _ a b _ _ h; exact h
  | succ k ih =>
    intro m g hk a b ha hb h
    rw [neM]
    refine ih (m + 1) _ (by omega) a b ha hb ?_
    rw [neA_all (by omega) g ha hb, h, Bool.true_or]
theorem neM_z : ∀ (k m : Nat) (g : Nat → Bool), m + k = 7 → ∀ a, a < 7 → (∀ b, b < 7 → g (7 * a + b) = false) → ∀ b, b < 7 → neM k m g (7 * a + b) = false := by
  intro k
  induction k with
  | zero => intro m g _ a _ h; exact h
  | succ k ih =>
    intro m g hk a ha h
    rw [neM]
    refine ih (m + 1) _ (by omega) a ha (fun b hb => ?_)
    rw [neA_all (by omega) g ha hb, h b hb, h m (by omega)]
    rfl
/-- what a rule from i on, k of them, lets its head need -/
def bsP (hd fm rp rq : Nat → Nat) (k i a b : Nat) : Prop := ∃ j, i ≤ j ∧ j < i + k ∧ hd j = a ∧ (rp j = b ∨ (2 ≤ fm j ∧ rq j = b))
theorem bsP_succ {hd fm rp rq : Nat → Nat} {k i a b : Nat} : bsP hd fm rp rq (k + 1) i a b ↔ (hd i = a ∧ (rp i = b ∨ (2 ≤ fm i ∧ rq i = b))) ∨ bsP hd fm rp rq k (i + 1) a b := by
  constructor
  · rintro ⟨j, h1, h2, h3⟩
    by_cases e : j = i
    · subst e; exact Or.inl h3
    · exact Or.inr ⟨j, by omega, by omega, h3⟩
  · rintro (h | ⟨j, h1, h2, h3⟩)
    · exact ⟨i, Nat.le_refl _, by omega, h⟩
    · exact ⟨j, by omega, by omega, h3⟩
theorem neR_at {hd fm rp rq : Nat → Nat} : ∀ (k i : Nat) (f : Nat → Bool), (∀ j, i ≤ j → j < i + k → rp j < 7 ∧ rq j < 7) → ∀ a b, b < 7 → (neR hd fm rp rq k i f (7 * a + b) = true ↔ f (7 * a + b) = true ∨ bsP hd fm rp rq k i a b) := by
  intro k
  induction k with
  | zero => intro i f _ a b _; exact ⟨fun h => Or.inl h, fun h => h.elim id (fun ⟨j, h1, h2, _⟩ => absurd h2 (by omega))⟩
  | succ k ih =>
    intro i f hr a b hb
    have hi := hr i (Nat.le_refl _) (by omega)
    rw [neR, ih (i + 1) _ (fun j h1 h2 => hr j (by omega) (by omega)) a b hb, bsP_succ, va_up7 hb hi.2, va_up7 hb hi.1, va_up7 hi.2 hi.1]
    by_cases e1 : a = hd i
    · subst e1
      by_cases e2 : b = rq i
      · subst e2
        simp only [and_self, ↓reduceIte, Bool.or_eq_true, decide_eq_true_eq, true_and, and_true]
        by_cases e3 : rq i = rp i
        · simp [e3]
        · simp only [e3, ↓reduceIte, Ne.symm e3, false_or]
          constructor
          · rintro ((h | h) | h)
            · exact Or.inl h
            · exact Or.inr (Or.inl (by omega))
            · exact Or.inr (Or.inr h)
          · rintro (h | h | h)
            · exact Or.inl (Or.inl h)
            · exact Or.inl (Or.inr (by omega))
            · exact Or.inr h
      · simp only [e2, and_false, ↓reduceIte, true_and, Ne.symm e2, or_false]
        by_cases e3 : b = rp i
        · subst e3; simp
        · simp [e3, Ne.symm e3]
    · simp [e1, Ne.symm e1]
/-- the table of n rules, and what it says -/
def gC (n : Nat) (hd fm rp rq : Nat → Nat) : Nat → Bool := neM 7 0 (neR hd fm rp rq n 0 (fun _ => false))
def nbC (n : Nat) (hd fm rp rq : Nat → Nat) (a b : Nat) : Bool := decide (a < 7 ∧ b < 7) && gC n hd fm rp rq (7 * a + b)
theorem nbC_lt {n : Nat} {hd fm rp rq : Nat → Nat} {a b : Nat} (ha : a < 7) (hb : b < 7) : nbC n hd fm rp rq a b = gC n hd fm rp rq (7 * a + b) := by
  unfold nbC
  rw [decide_eq_true ⟨ha, hb⟩, Bool.true_and]
theorem nbC_in {n : Nat} {hd fm rp rq : Nat → Nat} {a b : Nat} (h : nbC n hd fm rp rq a b = true) : a < 7 ∧ b < 7 := by
  unfold nbC at h
  rw [Bool.and_eq_true, decide_eq_true_eq] at h
  exact h.1
theorem ruOk.rr {n : Nat} {hd fm rp rq : Nat → Nat} (h : ruOk n hd fm rp rq) : ∀ j, 0 ≤ j → j < 0 + n → rp j < 7 ∧ rq j < 7 := fun j _ hj => ⟨(h.2 j (by omega)).2.2.2.1, (h.2 j (by omega)).2.2.2.2⟩
theorem gC_base {n : Nat} {hd fm rp rq : Nat → Nat} (hr : ruOk n hd fm rp rq) {a b : Nat} (ha : a < 7) (hb : b < 7) (h : bsP hd fm rp rq n 0 a b) : gC n hd fm rp rq (7 * a + b) = true :=
  neM_le 7 0 _ (by omega) a b ha hb ((neR_at n 0 _ hr.rr a b hb).mpr (Or.inr h))
theorem gC_fact {n : Nat} {hd fm rp rq : Nat → Nat} (hr : ruOk n hd fm rp rq) {a : Nat} (ha : a < 2) {b : Nat} (hb : b < 7) : gC n hd fm rp rq (7 * a + b) = false := by
  refine neM_z 7 0 _ (by omega) a (by omega) (fun b hb => ?_) b hb
  cases q : neR hd fm rp rq n 0 (fun _ => false) (7 * a + b) with
  | false => rfl
  | true =>
    rcases (neR_at n 0 _ hr.rr a b hb).mp q with h | ⟨j, _, h2, h3, _⟩
    · cases h
    · have := (hr.2 j (by omega)).1
      omega
/-- the rules and what they need are as they must be, once no rule of form 4 is on a way back to itself -/
theorem envC {n : Nat} {hd fm rp rq : Nat → Nat} (hr : ruOk n hd fm rp rq) (hc : ∀ k, k < n → fm k = 4 → rq k ≠ hd k ∧ ¬ gC n hd fm rp rq (7 * rq k + hd k) = true) : EnvOk n hd fm rp rq (nbC n hd fm rp rq) := by
  refine ⟨fun k hk => ?_, fun k hk h2 => ?_, fun a b c p q => ?_, fun k hk h4 => ?_, fun a b h => ?_, fun k hk => ?_⟩
  · have h := hr.2 k hk
    rw [nbC_lt h.2.1 h.2.2.2.1]
    exact gC_base hr h.2.1 h.2.2.2.1 ⟨k, Nat.zero_le _, by omega, rfl, Or.inl rfl⟩
  · have h := hr.2 k hk
    rw [nbC_lt h.2.1 h.2.2.2.2]
    exact gC_base hr h.2.1 h.2.2.2.2 ⟨k, Nat.zero_le _, by omega, rfl, Or.inr ⟨h2, rfl⟩⟩
  · have h1 := nbC_in p
    have h2 := nbC_in q
    rw [nbC_lt h1.1 h1.2] at p
    rw [nbC_lt h2.1 h2.2] at q
    rw [nbC_lt h1.1 h2.2]
    exact neM_tr 7 0 _ (by omega) (fun _ b _ _ _ _ hb => absurd hb (Nat.not_lt_zero b)) a b c h1.1 h1.2 h2.2 h1.2 p q
  · have h := hr.2 k hk
    rw [nbC_lt h.2.2.2.2 h.2.1]
    exact hc k hk h4
  · have h1 := nbC_in h
    refine ⟨?_, h1.1, h1.2⟩
    rcases Nat.lt_or_ge a 2 with q | q
    · rw [nbC_lt h1.1 h1.2, gC_fact hr q h1.2] at h
      cases h
    · exact q
  · have h := hr.2 k hk
    exact ⟨h.2.2.1, h.1, h.2.1, h.2.2.2.1, h.2.2.2.2⟩
/-- fewer rules need less -/
theorem gC_pred {n : Nat} {hd fm rp rq : Nat → Nat} (hr : ruOk n hd fm rp rq) {a b : Nat} (ha : a < 7) (hb : b < 7) (h : gC (n - 1) hd fm rp rq (7 * a + b) = true) : gC n hd fm rp rq (7 * a + b) = true := by
  refine neM_mono 7 0 _ _ (by omega) (fun a b ha hb p => ?_) a b ha hb h
  rw [neR_at _ 0 _ (ruOk_pred hr).rr a b hb] at p
  rw [neR_at _ 0 _ hr.rr a b hb]
  exact p.elim Or.inl (fun ⟨j, h1, h2, h3⟩ => Or.inr ⟨j, h1, by omega, h3⟩)
/-- only the rules that there are count -/
theorem neR_congr {hd fm rp rq hd' fm' rp' rq' : Nat → Nat} : ∀ (k i : Nat) (f : Nat → Bool), (∀ j, i ≤ j → j < i + k → hd' j = hd j ∧ fm' j = fm j ∧ rp' j = rp j ∧ rq' j = rq j) → neR hd' fm' rp' rq' k i f = neR hd fm rp rq k i f := by
  intro k
  induction k with
  | zero => intro i f _; rfl
  | succ k ih =>
    intro i f h
    obtain ⟨e1, e2, e3, e4⟩ := h i (Nat.le_refl _) (by omega)
    rw [neR, neR, e1, e2, e3, e4]
    exact ih (i + 1) _ (fun j h1 h2 => h j (by omega) (by omega))
/-- the reference's own table, whatever stood there before -/
theorem fbF_at : ∀ (k j : Nat) (f : Nat → Bool) (i : Nat), fbF k j f i = if j ≤ i ∧ i < j + k then false else f i := by
  intro k
  induction k with
  | zero => intro j f i; rw [fbF, if_neg (by omega)]
  | succ k ih =>
    intro j f i
    rw [fbF, ih]
    unfold va_up
    by_cases e : i = j
    · subst e
      rw [if_neg (by omega), if_pos rfl, if_pos (by omega)]
    · by_cases h : j + 1 ≤ i ∧ i < j + 1 + k
      · rw [if_pos h, if_pos (by omega)]
      · rw [if_neg h, if_neg e, if_neg (by omega)]
theorem neW_gC {n : Nat} {hd fm rp rq : Nat → Nat} (hr : ruOk n hd fm rp rq) (ne : Nat → Bool) {a b : Nat} (ha : a < 7) (hb : b < 7) : neW n hd fm rp rq ne (7 * a + b) = gC n hd fm rp rq (7 * a + b) := by
  have key : ∀ a b, a < 7 → b < 7 → (neR hd fm rp rq n 0 (fbF 49 0 ne) (7 * a + b) = true ↔ neR hd fm rp rq n 0 (fun _ => false) (7 * a + b) = true) := by
    intro a b ha hb
    rw [neR_at n 0 _ hr.rr a b hb, neR_at n 0 _ hr.rr a b hb, fbF_at, if_pos (by omega)]
  rw [Bool.eq_iff_iff]
  exact ⟨neM_mono 7 0 _ _ (by omega) (fun a b ha hb p => (key a b ha hb).mp p) a b ha hb, neM_mono 7 0 _ _ (by omega) (fun a b ha hb p => (key a b ha hb).mpr p) a b ha hb⟩
/-! the book's masks -/
theorem bt_body {f p q : Nat} (hp : p < 7) (hq : q < 7) (b : Nat) : bt (bodyM f p q) b = true ↔ p = b ∨ (2 ≤ f ∧ q = b) := by
  unfold bodyM
  by_cases h : f = 0 ∨ f = 1
  · rw [if_pos h, bt_bm (by omega), decide_eq_true_eq]
    constructor
    · intro e; exact Or.inl e.symm
    · rintro (e | e)
      · exact e.symm
      · exact absurd e.1 (by omega)
  · rw [if_neg h, b_or, bt_bm (by omega), bt_bm (by omega), Bool.or_eq_true, decide_eq_true_eq, decide_eq_true_eq]
    constructor
    · rintro (e | e)
      · exact Or.inl e.symm
      · exact Or.inr ⟨by omega, e.symm⟩
    · rintro (e | e)
      · exact Or.inl e.symm
      · exact Or.inr e.2.symm
theorem ndR_at {hd fm rp rq : Nat → Nat} : ∀ (k i : Nat) (f : Nat → Int32), (∀ j, i ≤ j → j < i + k → rp j < 7 ∧ rq j < 7) → ∀ a b, (bt (ndR hd fm rp rq k i f a) b = true ↔ bt (f a) b = true ∨ bsP hd fm rp rq k i a b) := by
  intro k
  induction k with
  | zero => intro i f _ a b; exact ⟨fun h => Or.inl h, fun h => h.elim id (fun ⟨j, h1, h2, _⟩ => absurd h2 (by omega))⟩
  | succ k ih =>
    intro i f hr a b
    have hi := hr i (Nat.le_refl _) (by omega)
    rw [ndR, ih (i + 1) _ (fun j h1 h2 => hr j (by omega) (by omega)) a b, bsP_succ]
    unfold upd
    by_cases e : a = hd i
    · rw [if_pos e, b_or, Bool.or_eq_true, bt_body hi.1 hi.2, e]
      simp only [true_and, or_assoc]
    · rw [if_neg e]
      simp only [Ne.symm e, false_and, false_or]
theorem ndV_at (mid : Nat) (f0 : Nat → Int32) : ∀ (k w : Nat) (f : Nat → Int32), w + k = 7 → 2 ≤ w → (∀ a b, bt (f a) b = if 2 ≤ a ∧ a < w then (bt (f0 a) b || (bt (f0 a) mid && bt (f0 mid) b)) else bt (f0 a) b) → ∀ a b, bt (ndV mid k w f a) b = if 2 ≤ a ∧ a < 7 then (bt (f0 a) b || (bt (f0 a) mid && bt (f0 mid) b)) else bt (f0 a) b := by
  intro k
  induction k with
  | zero =>
    intro w f hw _ h a b
    rw [ndV, h a b, show w = 7 by omega]
  | succ k ih =>
    intro w f hw h2 h
    rw [ndV]
    refine ih (w + 1) _ (by omega) (by omega) (fun a b => ?_)
    have e1 : ∀ b, bt (f w) b = bt (f0 w) b := fun b => by rw [h w b, if_neg (by omega)]
    have e2 : ∀ b, bt (f mid) b = bt (f0 mid) b := fun b => by
      rw [h mid b]
      split
      · cases bt (f0 mid) b <;> simp
      · rfl
    have e3 : bt ((if bt (f w) mid = true then upd f w (f w ||| f mid) else f) a) b = if a = w then (bt (f0 a) b || (bt (f0 a) mid && bt (f0 mid) b)) else bt (f a) b := by
      by_cases e : a = w
      · subst e
        rw [if_pos rfl]
        cases q : bt (f a) mid with
        | false => rw [if_neg (by decide), e1 b, ← e1 mid, q, Bool.false_and, Bool.or_false]
        | true =>
          rw [if_pos rfl]
          unfold upd
          rw [if_pos rfl, b_or, e1 b, e2 b, ← e1 mid, q, Bool.true_and]
      · rw [if_neg e]
        split
        · unfold upd; rw [if_neg e]
        · rfl
    rw [e3]
    by_cases e : a = w
    · rw [if_pos e, if_pos (by omega)]
    · rw [if_neg e, h a b]
      by_cases e4 : 2 ≤ a ∧ a < w
      · rw [if_pos e4, if_pos (by omega)]
      · rw [if_neg e4, if_neg (by omega)]
theorem ndV_all (mid : Nat) (f : Nat → Int32) (a b : Nat) : bt (ndV mid 5 2 f a) b = if 2 ≤ a ∧ a < 7 then (bt (f a) b || (bt (f a) mid && bt (f mid) b)) else bt (f a) b :=
  ndV_at mid f 5 2 f (by omega) (by omega) (fun a b => by rw [if_neg (by omega)]) a b
/-- masks and table hold the same -/
def RfG (f : Nat → Int32) (g : Nat → Bool) : Prop := (∀ a b, a < 7 → b < 7 → bt (f a) b = g (7 * a + b)) ∧ (∀ a b, a < 2 → b < 7 → g (7 * a + b) = false) ∧ ∀ a b, a < 7 → 7 ≤ b → bt (f a) b = false
theorem ndM_R : ∀ (k mid : Nat) (f : Nat → Int32) (g : Nat → Bool), mid + k = 7 → 2 ≤ mid → RfG f g → RfG (ndM k mid f) (neM k mid g) := by
  intro k
  induction k with
  | zero => intro mid f g _ _ h; exact h
  | succ k ih =>
    intro mid f g hk h2 h
    rw [ndM, neM]
    have hm : mid < 7 := by omega
    refine ih (mid + 1) _ _ (by omega) (by omega) ⟨fun a b ha hb => ?_, fun a b ha hb => ?_, fun a b ha hb => ?_⟩
    · rw [ndV_all, neA_all hm g ha hb]
      by_cases e : 2 ≤ a ∧ a < 7
      · rw [if_pos e, h.1 a b ha hb, h.1 a mid ha hm, h.1 mid b hm hb]
      · rw [if_neg e, h.1 a b ha hb, h.2.1 a mid (by omega) hm, Bool.false_and, Bool.or_false]
    · rw [neA_all hm g (by omega) hb, h.2.1 a b ha hb, h.2.1 a mid ha hm]
      rfl
    · rw [ndV_all]
      split
      · rw [h.2.2 a b ha hb, h.2.2 mid b hm hb, Bool.and_false, Bool.or_false]
      · exact h.2.2 a b ha hb
theorem ndA_R {n : Nat} {hd fm rp rq : Nat → Nat} (hr : ruOk n hd fm rp rq) : RfG (ndA n hd fm rp rq) (gC n hd fm rp rq) := by
  have h0 : ∀ a b, a < 2 → b < 7 → neR hd fm rp rq n 0 (fun _ => false) (7 * a + b) = false := by
    intro a b ha hb
    cases q : neR hd fm rp rq n 0 (fun _ => false) (7 * a + b) with
    | false => rfl
    | true =>
      rcases (neR_at n 0 _ hr.rr a b hb).mp q with h | ⟨j, _, h2, h3, _⟩
      · cases h
      · have := (hr.2 j (by omega)).1
        omega
  have hz : ∀ b, bt (nI 0) b = false := fun b => b_0 b
  have base : RfG (ndR hd fm rp rq n 0 (fun _ => nI 0)) (neR hd fm rp rq n 0 (fun _ => false)) := by
    refine ⟨fun a b ha hb => ?_, h0, fun a b ha hb => ?_⟩
    · rw [Bool.eq_iff_iff, ndR_at n 0 _ hr.rr a b, neR_at n 0 _ hr.rr a b hb, hz b]
    · cases q : bt (ndR hd fm rp rq n 0 (fun _ => nI 0) a) b with
      | false => rfl
      | true =>
        rcases (ndR_at n 0 _ hr.rr a b).mp q with h | ⟨j, _, h2, _, h3⟩
        · rw [hz b] at h; cases h
        · have := hr.rr j (Nat.zero_le _) h2
          omega
  -- the middles 0 and 1 change nothing
  have skip : ∀ (mm : Nat) (f : Nat → Int32) (g : Nat → Bool), mm < 2 → RfG f g → RfG f (neA mm 7 0 g) := by
    intro mm f g hm h
    have e : ∀ a b, a < 7 → b < 7 → neA mm 7 0 g (7 * a + b) = g (7 * a + b) := fun a b ha hb => by rw [neA_all (by omega) g ha hb, h.2.1 mm b hm hb, Bool.and_false, Bool.or_false]
    exact ⟨fun a b ha hb => by rw [e a b ha hb]; exact h.1 a b ha hb, fun a b ha hb => by rw [e a b (by omega) hb]; exact h.2.1 a b ha hb, h.2.2⟩
  exact ndM_R 5 2 _ _ (by omega) (by omega) (skip 1 _ _ (by omega) (skip 0 _ _ (by omega) base))
/-! cycles -/
theorem cyM_eq {hd fm rq : Nat → Nat} {nd : Nat → Int32} {ne : Nat → Bool} : ∀ (k i : Nat) (bad : Bool), (∀ j, i ≤ j → j < i + k → ne (7 * rq j + hd j) = bt (nd (rq j)) (hd j)) → cyM hd fm rq ne k i bad = (bad || cycF hd fm rq nd k i) := by
  intro k
  induction k with
  | zero => intro i bad _; rw [cyM, cycF, Bool.or_false]
  | succ k ih =>
    intro i bad h
    rw [cyM, cycF, ih (i + 1) _ (fun j h1 h2 => h j (by omega) (by omega)), h i (Nat.le_refl _) (by omega)]
    by_cases h4 : fm i = 4
    · by_cases h5 : rq i = hd i
      · simp [h4, h5]
      · cases q : bt (nd (rq i)) (hd i) <;> simp [h4, h5]
    · simp [h4]
theorem cycF_no {hd fm rq : Nat → Nat} {nd : Nat → Int32} : ∀ (k i : Nat), cycF hd fm rq nd k i = false → ∀ j, i ≤ j → j < i + k → fm j = 4 → rq j ≠ hd j ∧ ¬ bt (nd (rq j)) (hd j) = true := by
  intro k
  induction k with
  | zero => intro i _ j h1 h2; exact absurd h2 (by omega)
  | succ k ih =>
    intro i h j h1 h2 h4
    rw [cycF] at h
    split at h
    · cases h
    · next hn =>
      by_cases e : j = i
      · subst e
        exact ⟨fun q => hn ⟨h4, Or.inl q⟩, fun q => hn ⟨h4, Or.inr q⟩⟩
      · exact ih (i + 1) h j (by omega) (by omega) h4
/-- layers are ranks -/
theorem layM_rk {nd : Nat → Int32} {n : Nat} {hd fm rp rq : Nat → Nat} (h : RfG nd (gC n hd fm rp rq)) {v : Nat} (hv : v < 7) : layM nd v = rkN (nbC n hd fm rp rq) v := by
  have e : ∀ b, b < 7 → (if bt (nd v ||| bm v) b = true then 1 else 0) = rkF (nbC n hd fm rp rq) v b := by
    intro b hb
    unfold rkF
    rw [nbC_lt hv hb, ← h.1 v b hv hb, b_or, bt_bm (by omega)]
    cases bt (nd v) b with
    | true => simp
    | false => simp
  have z : ∀ b, 7 ≤ b → cntB (nd v ||| bm v) (b + 1) = cntB (nd v ||| bm v) b := fun b hb => by
    rw [cntB, b_or, h.2.2 v b hv hb, bt_bm (by omega), decide_eq_false (by omega), if_neg (by decide), Nat.add_zero]
  have z2 : ∀ d, cntB (nd v ||| bm v) (7 + d) = cntB (nd v ||| bm v) 7 := by
    intro d
    induction d with
    | zero => rfl
    | succ d ih => rw [show 7 + (d + 1) = 7 + d + 1 from rfl, z (7 + d) (by omega), ih]
  unfold layM rkN
  rw [show (32 : Nat) = 7 + 25 from rfl, z2 25, ← e 0 (by omega), ← e 1 (by omega), ← e 2 (by omega), ← e 3 (by omega), ← e 4 (by omega), ← e 5 (by omega), ← e 6 (by omega)]
  show 0 + _ + _ + _ + _ + _ + _ + _ = _
  rw [Nat.zero_add]

/-! THE REFERENCE'S VIEWS are what the rules make of the facts -/
theorem insJ_0 (P Q : Int32) (x y : Nat) : ∀ (n z w : Nat), insJ P Q x y n z w = 0 ↔ w = 0 ∧ ∀ u, z ≤ u → u < z + n → ¬ (bt P (5 * x + u) = true ∧ bt Q (5 * u + y) = true) := by
  intro n
  induction n with
  | zero => intro z w; exact ⟨fun h => ⟨h, fun u h1 h2 => absurd h2 (by omega)⟩, fun h => h.1⟩
  | succ n ih =>
    intro z w
    rw [insJ, ih]
    constructor
    · rintro ⟨h1, h2⟩
      by_cases c : (bt P (5 * x + z) && bt Q (5 * z + y)) = true
      · rw [if_pos c] at h1; omega
      · rw [if_neg c] at h1
        refine ⟨h1, fun u a b q => ?_⟩
        by_cases e : u = z
        · subst e; exact c (by rw [q.1, q.2]; rfl)
        · exact h2 u (by omega) (by omega) q
    · rintro ⟨h1, h2⟩
      have c : ¬ (bt P (5 * x + z) && bt Q (5 * z + y)) = true := fun c => h2 z (Nat.le_refl _) (by omega) (by rw [Bool.and_eq_true] at c; exact c)
      rw [if_neg c]
      exact ⟨h1, fun u a b => h2 u (by omega) (by omega)⟩
theorem mi_bits {f p q : Nat} {nw : Nat → Int32} (hf : f ≤ 4) {x y : Nat} (hx : x < 5) (hy : y < 5) : ¬ miM f (nw p) (nw q) x y = 0 ↔ gvP f p q (SPm nw) (5 * x + y) := by
  have e1 : (5 * x + y) % 5 = y := by omega
  have e2 : (5 * x + y) / 5 = x := by omega
  unfold miM gvP SPm
  rw [e1, e2]
  rcases (show f = 0 ∨ f = 1 ∨ f = 2 ∨ f = 3 ∨ f = 4 by omega) with e | e | e | e | e <;> subst e
  · simp
  · simp
  · rw [if_neg (by decide), if_neg (by decide), if_pos rfl, insJ_0]
    constructor
    · intro h
      refine Classical.byContradiction fun c => h ⟨rfl, fun u _ hu z => ?_⟩
      exact c (Or.inr (Or.inr (Or.inl ⟨rfl, u, by omega, z.1, z.2⟩)))
    · intro h c
      rcases h with ⟨e, _⟩ | ⟨e, _⟩ | ⟨_, u, hu, q1, q2⟩ | ⟨e, _⟩ | ⟨e, _⟩
      · exact absurd e (by decide)
      · exact absurd e (by decide)
      · exact c.2 u (Nat.zero_le _) (by omega) ⟨q1, q2⟩
      · exact absurd e (by decide)
      · exact absurd e (by decide)
  · simp
  · simp
theorem mcF_0 {hd fm rp rq : Nat → Nat} {nw : Nat → Int32} {v x y : Nat} : ∀ (k i w : Nat), mcF hd fm rp rq nw v x y k i w = 0 ↔ w = 0 ∧ ∀ j, i ≤ j → j < i + k → hd j = v → miM (fm j) (nw (rp j)) (nw (rq j)) x y = 0 := by
  intro k
  induction k with
  | zero => intro i w; exact ⟨fun h => ⟨h, fun j h1 h2 => absurd h2 (by omega)⟩, fun h => h.1⟩
  | succ k ih =>
    intro i w
    rw [mcF, ih]
    constructor
    · rintro ⟨h1, h2⟩
      by_cases c : hd i = v
      · rw [if_pos c] at h1
        refine ⟨by omega, fun j a b q => ?_⟩
        by_cases e : j = i
        · subst e; omega
        · exact h2 j (by omega) (by omega) q
      · rw [if_neg c] at h1
        refine ⟨h1, fun j a b q => ?_⟩
        by_cases e : j = i
        · subst e; exact absurd q c
        · exact h2 j (by omega) (by omega) q
    · rintro ⟨h1, h2⟩
      refine ⟨?_, fun j a b => h2 j (by omega) (by omega)⟩
      split
      · next c => have := h2 i (Nat.le_refl _) (by omega) c; omega
      · exact h1
section MV
variable {n : Nat} {hd fm rp rq : Nat → Nat} {ne : Nat → Bool}
theorem mc_bits (hr : ruOk n hd fm rp rq) {nw : Nat → Int32} {v x y : Nat} (hx : x < 5) (hy : y < 5) : ¬ mcF hd fm rp rq nw v x y n 0 0 = 0 ↔ ∃ k, k < n ∧ hd k = v ∧ gvP (fm k) (rp k) (rq k) (SPm nw) (5 * x + y) := by
  rw [mcF_0]
  constructor
  · intro h
    refine Classical.byContradiction fun c => h ⟨rfl, fun j _ hj e => ?_⟩
    refine Classical.byContradiction fun q => c ⟨j, by omega, e, (mi_bits (hr.2 j (by omega)).2.2.1 hx hy).mp q⟩
  · rintro ⟨k, hk, e, g⟩ c
    exact (mi_bits (hr.2 k hk).2.2.1 hx hy).mpr g (c.2 k (Nat.zero_le _) (by omega) e)
theorem grI_bits {nw : Nat → Int32} {v x : Nat} (hx : x < 5) (i : Nat) : ∀ (k y : Nat) (m : Int32), y + k ≤ 5 → (bt (grI n hd fm rp rq nw v x k y m) i = true ↔ bt m i = true ∨ ∃ u, y ≤ u ∧ u < y + k ∧ i = 5 * x + u ∧ ¬ mcF hd fm rp rq nw v x u n 0 0 = 0) := by
  intro k
  induction k with
  | zero => intro y m _; exact ⟨fun h => Or.inl h, fun h => h.elim id (fun ⟨u, h1, h2, _⟩ => absurd h2 (by omega))⟩
  | succ k ih =>
    intro y m hk
    rw [grI, ih (y + 1) _ (by omega)]
    constructor
    · rintro (h | ⟨u, h1, h2, h3⟩)
      · split at h
        · exact Or.inl h
        · next c =>
          rw [b_or, Bool.or_eq_true, bt_bm (by omega), decide_eq_true_eq] at h
          rcases h with h | h
          · exact Or.inl h
          · exact Or.inr ⟨y, Nat.le_refl _, by omega, h, c⟩
      · exact Or.inr ⟨u, by omega, by omega, h3⟩
    · rintro (h | ⟨u, h1, h2, h3, h4⟩)
      · left
        split
        · exact h
        · rw [b_or, h, Bool.true_or]
      · by_cases e : u = y
        · subst e
          left
          rw [if_neg h4, b_or, bt_bm (by omega), decide_eq_true h3, Bool.or_true]
        · exact Or.inr ⟨u, by omega, by omega, h3, h4⟩
theorem grO_bits {nw : Nat → Int32} {v : Nat} (i : Nat) : ∀ (k x : Nat) (m : Int32), x + k ≤ 5 → (bt (grO n hd fm rp rq nw v k x m) i = true ↔ bt m i = true ∨ ∃ t u, x ≤ t ∧ t < x + k ∧ u < 5 ∧ i = 5 * t + u ∧ ¬ mcF hd fm rp rq nw v t u n 0 0 = 0) := by
  intro k
  induction k with
  | zero => intro x m _; exact ⟨fun h => Or.inl h, fun h => h.elim id (fun ⟨t, u, h1, h2, _⟩ => absurd h2 (by omega))⟩
  | succ k ih =>
    intro x m hk
    rw [grO, ih (x + 1) _ (by omega), grI_bits (by omega) i 5 0 m (by omega)]
    constructor
    · rintro ((h | ⟨u, h1, h2, h3, h4⟩) | ⟨t, u, h1, h2, h3⟩)
      · exact Or.inl h
      · exact Or.inr ⟨x, u, Nat.le_refl _, by omega, by omega, h3, h4⟩
      · exact Or.inr ⟨t, u, by omega, by omega, h3⟩
    · rintro (h | ⟨t, u, h1, h2, h3, h4, h5⟩)
      · exact Or.inl (Or.inl h)
      · by_cases e : t = x
        · subst e; exact Or.inl (Or.inr ⟨u, Nat.zero_le _, by omega, h4, h5⟩)
        · exact Or.inr ⟨t, u, by omega, by omega, h3, h4, h5⟩
theorem gro (hr : ruOk n hd fm rp rq) {nw : Nat → Int32} {v i : Nat} (m : Int32) : bt (grO n hd fm rp rq nw v 5 0 m) i = true ↔ bt m i = true ∨ (i < 25 ∧ ∃ k, k < n ∧ hd k = v ∧ gvP (fm k) (rp k) (rq k) (SPm nw) i) := by
  rw [grO_bits i 5 0 m (by omega)]
  constructor
  · rintro (h | ⟨t, u, _, h2, h3, h4, h5⟩)
    · exact Or.inl h
    · subst h4
      exact Or.inr ⟨by omega, (mc_bits hr (by omega) h3).mp h5⟩
  · rintro (h | ⟨h1, h2⟩)
    · exact Or.inl h
    · refine Or.inr ⟨i / 5, i % 5, Nat.zero_le _, by omega, by omega, by omega, ?_⟩
      refine (mc_bits hr (by omega) (by omega)).mpr ?_
      rw [show 5 * (i / 5) + i % 5 = i by omega]
      exact h2
/-- the reference's table is the table -/
def neOk (n : Nat) (hd fm rp rq : Nat → Nat) (ne : Nat → Bool) : Prop := ∀ a b, a < 7 → b < 7 → ne (7 * a + b) = gC n hd fm rp rq (7 * a + b)
theorem toM_iff (N : neOk n hd fm rp rq ne) {v w : Nat} (hv : v < 7) (hw : w < 7) : toM ne v w = true ↔ togP (nbC n hd fm rp rq) v w := by
  unfold toM togP
  rw [N v w hv hw, N w v hw hv, nbC_lt hv hw, nbC_lt hw hv]
  simp
theorem mpF_keep (N : neOk n hd fm rp rq ne) {v : Nat} (hv : v < 7) : ∀ (k w : Nat) (nw : Nat → Int32) (more : Bool), w + k = 7 → 2 ≤ w → L25 nw → L25 (mpF n hd fm rp rq ne v k w nw more).1 ∧ ∀ u, ¬ (2 ≤ u ∧ u < 7 ∧ togP (nbC n hd fm rp rq) v u) → (mpF n hd fm rp rq ne v k w nw more).1 u = nw u := by
  intro k
  induction k with
  | zero => intro w nw more _ _ h; exact ⟨h, fun _ _ => rfl⟩
  | succ k ih =>
    intro w nw more hk h2 h
    rw [mpF]
    split
    · next ht =>
      have hg := grO_grew n hd fm rp rq nw w 5 0 (nw w) (by omega)
      obtain ⟨a1, a2⟩ := ih (w + 1) (upd nw w (grO n hd fm rp rq nw w 5 0 (nw w))) (!decide (grO n hd fm rp rq nw w 5 0 (nw w) = nw w) || more) (by omega) (by omega) (upd_L25 h (fun j hj => (hg.2 j hj).trans (h w (by omega) j hj)))
      refine ⟨a1, fun u hu => ?_⟩
      rw [a2 u hu]
      unfold upd
      rw [if_neg (fun e => hu (by rw [e]; exact ⟨h2, by omega, (toM_iff N hv (by omega)).mp ht⟩))]
    · exact ih (w + 1) nw more (by omega) (by omega) h
theorem mpF_none (N : neOk n hd fm rp rq ne) (hr : ruOk n hd fm rp rq) {v : Nat} (hv : v < 7) : ∀ (k w : Nat) (nw : Nat → Int32) (more : Bool), w + k = 7 → 2 ≤ w → (mpF n hd fm rp rq ne v k w nw more).2 = false → more = false ∧ (mpF n hd fm rp rq ne v k w nw more).1 = nw ∧ ∀ u, w ≤ u → u < 7 → togP (nbC n hd fm rp rq) v u → ∀ j, j < n → hd j = u → ∀ b, b < 25 → gvP (fm j) (rp j) (rq j) (SPm nw) b → SPm nw u b := by
  intro k
  induction k with
  | zero => intro w nw more hk _ h; exact ⟨h, rfl, fun u h1 h2 => absurd h2 (by omega)⟩
  | succ k ih =>
    intro w nw more hk h2 h
    rw [mpF] at h ⊢
    split at h
    · next ht =>
      rw [if_pos ht]
      obtain ⟨b1, b2, b3⟩ := ih (w + 1) _ _ (by omega) (by omega) h
      rw [Bool.or_eq_false_iff] at b1
      have h0 : grO n hd fm rp rq nw w 5 0 (nw w) = nw w := by simpa using b1.1
      have e := upd_id (f := nw) (w := w) h0
      rw [e] at b2 b3 ⊢
      refine ⟨b1.2, b2, fun u h3 h4 htu j hj ej b hb g => ?_⟩
      by_cases eu : u = w
      · subst eu
        have q := (gro hr (i := b) (nw u)).mpr (Or.inr ⟨hb, j, hj, ej, g⟩)
        rw [h0] at q
        exact q
      · exact b3 u (by omega) h4 htu j hj ej b hb g
    · next ht =>
      rw [if_neg ht]
      obtain ⟨b1, b2, b3⟩ := ih (w + 1) _ _ (by omega) (by omega) h
      refine ⟨b1, b2, fun u h3 h4 htu j hj ej b hb g => ?_⟩
      by_cases eu : u = w
      · subst eu; exact absurd ((toM_iff N hv (by omega)).mpr htu) ht
      · exact b3 u (by omega) h4 htu j hj ej b hb g
theorem mpF_sub (E : EnvOk n hd fm rp rq (nbC n hd fm rp rq)) (N : neOk n hd fm rp rq ne) (hr : ruOk n hd fm rp rq) {v : Nat} (hv : v < 7) {X : Nat → Nat → Prop} (hc : clAt n hd fm rp rq (nbC n hd fm rp rq) v X) : ∀ (k w : Nat) (nw : Nat → Int32) (more : Bool), w + k = 7 → 2 ≤ w → SubAt (nbC n hd fm rp rq) v X (SPm nw) → SubAt (nbC n hd fm rp rq) v X (SPm (mpF n hd fm rp rq ne v k w nw more).1) := by
  intro k
  induction k with
  | zero => intro w nw more _ _ h; exact h
  | succ k ih =>
    intro w nw more hk h2 h
    rw [mpF]
    split
    · next ht =>
      have ht := (toM_iff N hv (by omega)).mp ht
      refine ih (w + 1) _ _ (by omega) (by omega) ⟨fun u hu b hb q => ?_, fun u hu hn b hb => ?_⟩
      · unfold SPm upd at q
        by_cases e : u = w
        · rw [if_pos e] at q
          rcases (gro hr (nw w)).mp q with q | ⟨_, j, hj, ej, g⟩
          · rw [e]; exact h.1 w ht b hb q
          · rw [e, ← ej]
            exact h.give E hc hj (by rw [ej]; exact ht) hb g
        · rw [if_neg e] at q
          exact h.1 u hu b hb q
      · have e : ¬ u = w := fun e => hn (by rw [e]; exact ht)
        unfold SPm upd
        rw [if_neg e]
        exact h.2 u hu hn b hb
    · exact ih (w + 1) nw more (by omega) (by omega) h
theorem mkF_pres (v : Nat) (P : (Nat → Int32) → Prop) (hP : ∀ nw, P nw → P (mpF n hd fm rp rq ne v 5 2 nw false).1) : ∀ (k : Nat) (more : Bool) (nw : Nat → Int32), P nw → P (mkF n hd fm rp rq ne v k more nw) := by
  intro k
  induction k with
  | zero => intro more nw h; exact h
  | succ k ih =>
    intro more nw h
    rw [mkF]
    split
    · exact ih _ _ (hP nw h)
    · exact h
theorem mkF_false (v k : Nat) (nw : Nat → Int32) : mkF n hd fm rp rq ne v k false nw = nw := by cases k <;> rfl
theorem mkF_closed (N : neOk n hd fm rp rq ne) (hr : ruOk n hd fm rp rq) {v : Nat} (hv : v < 7) : ∀ (k : Nat) (nw : Nat → Int32), mkT n hd fm rp rq ne v k true nw = true → clAt n hd fm rp rq (nbC n hd fm rp rq) v (SPm (mkF n hd fm rp rq ne v k true nw)) := by
  intro k
  induction k with
  | zero => intro nw h; cases h
  | succ k ih =>
    intro nw h
    rw [mkT, if_pos rfl] at h
    rw [mkF, if_pos rfl]
    cases q : (mpF n hd fm rp rq ne v 5 2 nw false).2 with
    | false =>
      have hn := mpF_none N hr hv 5 2 nw false (by omega) (by omega) q
      rw [mkF_false, hn.2.1]
      exact fun j hj ht b hb g => hn.2.2 (hd j) (hr.2 j hj).1 (hr.2 j hj).2.1 ht j hj rfl b hb g
    | true =>
      rw [q] at h
      exact ih _ h
/-- views that need one another, made from nothing -/
theorem make_ok (E : EnvOk n hd fm rp rq (nbC n hd fm rp rq)) (N : neOk n hd fm rp rq ne) (hr : ruOk n hd fm rp rq) {v : Nat} (hv : v < 7) {nw : Nat → Int32} (h : L25 nw) (h0 : ∀ w, togP (nbC n hd fm rp rq) v w → nw w = nI 0) :
    L25 (mkF n hd fm rp rq ne v 126 true nw) ∧ (∀ u, ¬ (2 ≤ u ∧ u < 7 ∧ togP (nbC n hd fm rp rq) v u) → mkF n hd fm rp rq ne v 126 true nw u = nw u) ∧ MdAt n hd fm rp rq (nbC n hd fm rp rq) v (SPm (mkF n hd fm rp rq ne v 126 true nw)) := by
  have keep := mkF_pres (n := n) (hd := hd) (fm := fm) (rp := rp) (rq := rq) (ne := ne) v (fun f => L25 f ∧ ∀ u, ¬ (2 ≤ u ∧ u < 7 ∧ togP (nbC n hd fm rp rq) v u) → f u = nw u) (fun f hf => by
    have hk := mpF_keep N hv 5 2 f false (by omega) (by omega) hf.1
    exact ⟨hk.1, fun u hu => (hk.2 u hu).trans (hf.2 u hu)⟩) 126 true nw ⟨h, fun _ _ => rfl⟩
  refine ⟨keep.1, keep.2, mkF_closed N hr hv 126 nw (mkT_ok n hd fm rp rq ne v nw), fun X hX hc w ht i hi hs => ?_⟩
  have s0 : SubAt (nbC n hd fm rp rq) v X (SPm nw) := by
    refine ⟨fun w hw i hi q => ?_, fun w hw hn i hi => ?_⟩
    · unfold SPm at q
      rw [h0 w hw, bt_nI0] at q
      cases q
    · rw [hX w hw hn i hi]
      unfold SPm
      rw [keep.2 w (fun q => hn q.2.2)]
  exact (mkF_pres (n := n) (hd := hd) (fm := fm) (rp := rp) (rq := rq) (ne := ne) v (fun f => SubAt (nbC n hd fm rp rq) v X (SPm f)) (fun f hf => mpF_sub E N hr hv hc 5 2 f false (by omega) (by omega) hf) 126 true nw s0).1 w ht i hi hs
theorem MdAt.tog (E : EnvOk n hd fm rp rq (nbC n hd fm rp rq)) {v u : Nat} {S : Nat → Nat → Prop} (t : togP (nbC n hd fm rp rq) v u) (h : MdAt n hd fm rp rq (nbC n hd fm rp rq) v S) : MdAt n hd fm rp rq (nbC n hd fm rp rq) u S := by
  have f1 : ∀ w, togP (nbC n hd fm rp rq) u w → togP (nbC n hd fm rp rq) v w := fun w q => t.trans E q
  have f2 : ∀ w, togP (nbC n hd fm rp rq) v w → togP (nbC n hd fm rp rq) u w := fun w q => t.symm.trans E q
  refine ⟨fun k hk ht => h.1 k hk (f1 _ ht), fun X hX hc w hw => ?_⟩
  refine h.2 X (fun w hw hn => hX w (t.symm.need E hw) (fun q => hn (f1 w q))) (fun k hk ht => hc k hk (f2 _ ht)) w (f1 w hw)
theorem duF_iff {dn : Nat → Bool} {v : Nat} : ∀ (k w : Nat) (al : Bool), duF ne dn v k w al = true ↔ al = true ∧ ∀ u, w ≤ u → u < w + k → dn u = true ∨ ne (7 * v + u) = false ∨ toM ne v u = true := by
  intro k
  induction k with
  | zero => intro w al; exact ⟨fun h => ⟨h, fun u h1 h2 => absurd h2 (by omega)⟩, fun h => h.1⟩
  | succ k ih =>
    intro w al
    rw [duF, ih]
    simp only [Bool.and_eq_true, Bool.or_eq_true, Bool.not_eq_true']
    constructor
    · rintro ⟨⟨h1, h2⟩, h3⟩
      refine ⟨h1, fun u a b => ?_⟩
      by_cases e : u = w
      · subst e; exact h2
      · exact h3 u (by omega) (by omega)
    · rintro ⟨h1, h2⟩
      exact ⟨⟨h1, h2 w (Nat.le_refl _) (by omega)⟩, fun u a b => h2 u (by omega) (by omega)⟩
theorem mdF_at {v : Nat} : ∀ (k w : Nat) (dn : Nat → Bool) (u : Nat), mdF ne v k w dn u = if w ≤ u ∧ u < w + k then (dn u || toM ne v u) else dn u := by
  intro k
  induction k with
  | zero => intro w dn u; rw [mdF, if_neg (by omega)]
  | succ k ih =>
    intro w dn u
    rw [mdF, ih]
    unfold va_up
    by_cases e : u = w
    · subst e
      rw [if_neg (by omega), if_pos rfl, if_pos (by omega)]
    · by_cases h : w + 1 ≤ u ∧ u < w + 1 + k
      · rw [if_pos h, if_neg e, if_pos (by omega)]
      · rw [if_neg h, if_neg e, if_neg (by omega)]
/-- while the reference makes its views: what is done is as it must be, what is not done is empty -/
def KIn (n : Nat) (hd fm rp rq : Nat → Nat) (f0 nw : Nat → Int32) (dn : Nat → Bool) : Prop :=
  L25 nw ∧ (∀ r, r < 2 → nw r = f0 r) ∧ (∀ v, 2 ≤ v → v < 7 → dn v = true → MdAt n hd fm rp rq (nbC n hd fm rp rq) v (SPm nw) ∧ ∀ w, 2 ≤ w → nbC n hd fm rp rq v w = true → dn w = true) ∧ ∀ v, 2 ≤ v → v < 7 → dn v = false → nw v = nI 0
theorem make_step (E : EnvOk n hd fm rp rq (nbC n hd fm rp rq)) (N : neOk n hd fm rp rq ne) (hr : ruOk n hd fm rp rq) {f0 nw : Nat → Int32} {dn : Nat → Bool} (K : KIn n hd fm rp rq f0 nw dn) {v : Nat} (h2 : 2 ≤ v) (h7 : v < 7) (hdu : duF ne dn v 5 2 (!dn v) = true) : KIn n hd fm rp rq f0 (mkF n hd fm rp rq ne v 126 true nw) (mdF ne v 5 2 dn) := by
  obtain ⟨k1, k2, k3, k4⟩ := K
  rw [duF_iff] at hdu
  have hnd : dn v = false := by simpa using hdu.1
  have tv : ∀ w, togP (nbC n hd fm rp rq) v w → 2 ≤ w ∧ w < 7 := fun w t => t.elim (fun e => by omega) (fun e => ⟨(E.2.2.2.2.1 _ _ e.2).1, (E.2.2.2.2.1 _ _ e.2).2.1⟩)
  have hnt : ∀ w, togP (nbC n hd fm rp rq) v w → dn w = false := by
    intro w t
    have hw := tv w t
    cases q : dn w with
    | false => rfl
    | true =>
      rcases t with e | e
      · subst e; rw [hnd] at q; cases q
      · have := (k3 w hw.1 hw.2 q).2 v h2 e.2
        rw [hnd] at this
        cases this
  obtain ⟨a1, a2, a3⟩ := make_ok E N hr h7 k1 (fun w t => k4 w (tv w t).1 (tv w t).2 (hnt w t))
  have dnE : ∀ u, 2 ≤ u → u < 7 → mdF ne v 5 2 dn u = (dn u || toM ne v u) := fun u a b => by rw [mdF_at, if_pos (by omega)]
  refine ⟨a1, fun r hr2 => (a2 r (by omega)).trans (k2 r hr2), fun u hu2 hu7 hu => ?_, fun u hu2 hu7 hu => ?_⟩
  · rw [dnE u hu2 hu7, Bool.or_eq_true] at hu
    rcases hu with hu | hu
    · obtain ⟨m1, m2⟩ := k3 u hu2 hu7 hu
      refine ⟨m1.congr E (fun w hw i hi => ?_), fun w hw q => ?_⟩
      · have : ¬ togP (nbC n hd fm rp rq) v w := by
          intro t
          have d := hnt w t
          rcases hw with e | e
          · subst e; rw [hu] at d; cases d
          · rw [m2 w (tv w t).1 e] at d; cases d
        unfold SPm
        rw [a2 w (fun q => this q.2.2)]
      · have hw7 := (E.2.2.2.2.1 _ _ q).2.2
        rw [dnE w hw hw7, m2 w hw q, Bool.true_or]
    · have t := (toM_iff N h7 hu7).mp hu
      refine ⟨a3.tog E t, fun w hw q => ?_⟩
      have hw7 := (E.2.2.2.2.1 _ _ q).2.2
      have qv := t.need E q
      rw [dnE w hw hw7, Bool.or_eq_true]
      rcases hdu.2 w hw (by omega) with z | z | z
      · exact Or.inl z
      · rw [N v w h7 hw7, ← nbC_lt h7 hw7, qv] at z
        cases z
      · exact Or.inr z
  · rw [dnE u hu2 hu7, Bool.or_eq_false_iff] at hu
    rw [a2 u (fun q => by rw [(toM_iff N h7 hu7).mpr q.2.2] at hu; exact absurd hu.2 (by decide))]
    exact k4 u hu2 hu7 hu.1
theorem maV_K (E : EnvOk n hd fm rp rq (nbC n hd fm rp rq)) (N : neOk n hd fm rp rq ne) (hr : ruOk n hd fm rp rq) {f0 : Nat → Int32} : ∀ (k v : Nat) (nw : Nat → Int32) (dn : Nat → Bool), v + k = 7 → 2 ≤ v → KIn n hd fm rp rq f0 nw dn → KIn n hd fm rp rq f0 (maV n hd fm rp rq ne k v nw dn).1 (maV n hd fm rp rq ne k v nw dn).2 := by
  intro k
  induction k with
  | zero => intro v nw dn _ _ K; exact K
  | succ k ih =>
    intro v nw dn hk h2 K
    rw [maV]
    split
    · next hdu => exact ih (v + 1) _ _ (by omega) (by omega) (make_step E N hr K h2 (by omega) hdu)
    · exact ih (v + 1) _ _ (by omega) (by omega) K
/-- what is done stays done -/
theorem maV_dn : ∀ (k v : Nat) (nw : Nat → Int32) (dn : Nat → Bool) (u : Nat), dn u = true → (maV n hd fm rp rq ne k v nw dn).2 u = true := by
  intro k
  induction k with
  | zero => intro v nw dn u h; exact h
  | succ k ih =>
    intro v nw dn u h
    rw [maV]
    split
    · refine ih (v + 1) _ _ u ?_
      rw [mdF_at]
      split
      · rw [h, Bool.true_or]
      · exact h
    · exact ih (v + 1) _ _ u h
/-- a view all of whose others are done is done behind the sweep -/
theorem maV_free (N : neOk n hd fm rp rq ne) {u : Nat} (hu2 : 2 ≤ u) (hu7 : u < 7) : ∀ (k v : Nat) (nw : Nat → Int32) (dn : Nat → Bool), v + k = 7 → 2 ≤ v → (v ≤ u ∨ dn u = true) → (∀ w, 2 ≤ w → w < 7 → nbC n hd fm rp rq u w = true → ¬ togP (nbC n hd fm rp rq) u w → dn w = true) → (maV n hd fm rp rq ne k v nw dn).2 u = true := by
  intro k
  induction k with
  | zero => intro v nw dn hk _ h _; exact h.elim (fun q => absurd q (by omega)) id
  | succ k ih =>
    intro v nw dn hk h2 h hf
    rw [maV]
    split
    · have up : ∀ w, dn w = true → mdF ne v 5 2 dn w = true := fun w q => by
        rw [mdF_at]
        split
        · rw [q, Bool.true_or]
        · exact q
      refine ih (v + 1) _ _ (by omega) (by omega) ?_ (fun w a b c d => up w (hf w a b c d))
      rcases h with h | h
      · by_cases e : v = u
        · right
          subst e
          rw [mdF_at, if_pos (by omega), (toM_iff N hu7 hu7).mpr (Or.inl rfl), Bool.or_true]
        · exact Or.inl (by omega)
      · exact Or.inr (up u h)
    · next hdu =>
      refine ih (v + 1) _ _ (by omega) (by omega) ?_ hf
      rcases h with h | h
      · by_cases e : v = u
        · right
          subst e
          cases q : dn v with
          | true => rfl
          | false =>
            refine absurd (duF_iff 5 2 (!dn v) |>.mpr ⟨by rw [q]; rfl, fun w a b => ?_⟩) hdu
            cases z : nbC n hd fm rp rq v w with
            | false =>
              right; left
              rw [N v w hu7 (by omega), ← nbC_lt hu7 (by omega)]
              exact z
            | true =>
              by_cases t : togP (nbC n hd fm rp rq) v w
              · exact Or.inr (Or.inr ((toM_iff N hu7 (by omega)).mpr t))
              · exact Or.inl (hf w a (by omega) z t)
        · exact Or.inl (by omega)
      · exact Or.inr h
/-- how many views are not done -/
def nd1 (dn : Nat → Bool) (v : Nat) : Nat := if dn v = true then 0 else 1
def ndc (dn : Nat → Bool) : Nat := nd1 dn 2 + nd1 dn 3 + nd1 dn 4 + nd1 dn 5 + nd1 dn 6
theorem nd1_le {dn dn' : Nat → Bool} (h : ∀ u, dn u = true → dn' u = true) (v : Nat) : nd1 dn' v ≤ nd1 dn v := by
  unfold nd1
  cases q : dn v with
  | true => rw [h v q]; exact Nat.le_refl _
  | false => simp; split <;> omega
theorem ndc_lt {dn dn' : Nat → Bool} (h : ∀ u, dn u = true → dn' u = true) {u : Nat} (hu2 : 2 ≤ u) (hu7 : u < 7) (h0 : dn u = false) (h1 : dn' u = true) : ndc dn' < ndc dn := by
  have a2 := nd1_le h 2; have a3 := nd1_le h 3; have a4 := nd1_le h 4; have a5 := nd1_le h 5; have a6 := nd1_le h 6
  have b0 : nd1 dn u = 1 := by unfold nd1; rw [h0]; rfl
  have b1 : nd1 dn' u = 0 := by unfold nd1; rw [h1]; rfl
  unfold ndc
  rcases (show u = 2 ∨ u = 3 ∨ u = 4 ∨ u = 5 ∨ u = 6 by omega) with q | q | q | q | q <;> (rw [q] at b0 b1; omega)
theorem ndc_0 {dn : Nat → Bool} (h : ndc dn = 0) : ∀ v, 2 ≤ v → v < 7 → dn v = true := by
  intro v h2 h7
  have key : nd1 dn v = 0 := by
    unfold ndc at h
    rcases (show v = 2 ∨ v = 3 ∨ v = 4 ∨ v = 5 ∨ v = 6 by omega) with q | q | q | q | q <;> (rw [q]; omega)
  unfold nd1 at key
  cases q : dn v with
  | true => rfl
  | false => rw [q] at key; simp at key
theorem maV_less (E : EnvOk n hd fm rp rq (nbC n hd fm rp rq)) (N : neOk n hd fm rp rq ne) (nw : Nat → Int32) {dn : Nat → Bool} (h : ndc dn ≠ 0) : ndc (maV n hd fm rp rq ne 5 2 nw dn).2 < ndc dn := by
  -- a view of least rank that is not done
  have ex : ∃ r v, 2 ≤ v ∧ v < 7 ∧ dn v = false ∧ rkN (nbC n hd fm rp rq) v = r := by
    refine Classical.byContradiction fun c => h ?_
    have all : ∀ v, 2 ≤ v → v < 7 → dn v = true := fun v a b => by
      cases q : dn v with
      | true => rfl
      | false => exact absurd ⟨_, v, a, b, q, rfl⟩ c
    unfold ndc nd1
    rw [all 2 (by omega) (by omega), all 3 (by omega) (by omega), all 4 (by omega) (by omega), all 5 (by omega) (by omega), all 6 (by omega) (by omega)]
    rfl
  obtain ⟨r, ⟨v, h2, h7, hv, hrk⟩, least⟩ := pk_least _ ex
  refine ndc_lt (fun u q => maV_dn 5 2 nw dn u q) h2 h7 hv (maV_free N h2 h7 5 2 nw dn (by omega) (by omega) (Or.inl h2) (fun w a b c d => ?_))
  cases q : dn w with
  | true => rfl
  | false =>
    have lt := rkN_lt E c (fun z => d (Or.inr ⟨c, z⟩))
    exact absurd ⟨w, a, b, q, rfl⟩ (least _ (by omega))
theorem maO_ok (E : EnvOk n hd fm rp rq (nbC n hd fm rp rq)) (N : neOk n hd fm rp rq ne) (hr : ruOk n hd fm rp rq) {f0 : Nat → Int32} : ∀ (k : Nat) (nw : Nat → Int32) (dn : Nat → Bool), ndc dn ≤ k → KIn n hd fm rp rq f0 nw dn → KIn n hd fm rp rq f0 (maO n hd fm rp rq ne k nw dn).1 (maO n hd fm rp rq ne k nw dn).2 ∧ ndc (maO n hd fm rp rq ne k nw dn).2 = 0 := by
  intro k
  induction k with
  | zero => intro nw dn h K; exact ⟨K, by have := h; show ndc dn = 0; omega⟩
  | succ k ih =>
    intro nw dn h K
    rw [maO]
    refine ih _ _ ?_ (maV_K E N hr 5 2 nw dn (by omega) (by omega) K)
    by_cases e : ndc dn = 0
    · have all := ndc_0 e
      have : ndc (maV n hd fm rp rq ne 5 2 nw dn).2 = 0 := by
        unfold ndc nd1
        rw [maV_dn 5 2 nw dn 2 (all 2 (by omega) (by omega)), maV_dn 5 2 nw dn 3 (all 3 (by omega) (by omega)), maV_dn 5 2 nw dn 4 (all 4 (by omega) (by omega)), maV_dn 5 2 nw dn 5 (all 5 (by omega) (by omega)), maV_dn 5 2 nw dn 6 (all 6 (by omega) (by omega))]
        rfl
      omega
    · have := maV_less E N nw e
      omega
theorem zfF_at : ∀ (k v : Nat) (f : Nat → Bool) (r : Nat), zfF k v f r = if v ≤ r ∧ r < v + k then false else f r := by
  intro k
  induction k with
  | zero => intro v f r; rw [zfF, if_neg (by omega)]
  | succ k ih =>
    intro v f r
    rw [zfF, ih]
    unfold va_up
    by_cases e : r = v
    · subst e
      rw [if_neg (by omega), if_pos rfl, if_pos (by omega)]
    · by_cases h : v + 1 ≤ r ∧ r < v + 1 + k
      · rw [if_pos h, if_pos (by omega)]
      · rw [if_neg h, if_neg e, if_neg (by omega)]
/-- the reference's views made anew -/
theorem maW_ok (E : EnvOk n hd fm rp rq (nbC n hd fm rp rq)) (N : neOk n hd fm rp rq ne) (hr : ruOk n hd fm rp rq) {nw : Nat → Int32} (dn : Nat → Bool) (h : L25 nw) : L25 (maW n hd fm rp rq ne nw dn) ∧ (∀ r, r < 2 → maW n hd fm rp rq ne nw dn r = nw r) ∧ ∀ v, 2 ≤ v → v < 7 → MdAt n hd fm rp rq (nbC n hd fm rp rq) v (SPm (maW n hd fm rp rq ne nw dn)) := by
  have z : ∀ v, 2 ≤ v → v < 7 → zfF 5 2 dn v = false := fun v a b => by rw [zfF_at, if_pos (by omega)]
  have K0 : KIn n hd fm rp rq nw (zeF 5 2 nw) (zfF 5 2 dn) := by
    refine ⟨fun r hr7 => ?_, fun r hr2 => ?_, fun v a b c => ?_, fun v a b _ => ?_⟩
    · rw [zeF_at]
      split
      · exact lt25_nI0
      · exact h r hr7
    · rw [zeF_at, if_neg (by omega)]
    · rw [z v a b] at c; cases c
    · rw [zeF_at, if_pos (by omega)]
  have c5 : ndc (zfF 5 2 dn) ≤ 5 := by
    unfold ndc nd1
    rw [z 2 (by omega) (by omega), z 3 (by omega) (by omega), z 4 (by omega) (by omega), z 5 (by omega) (by omega), z 6 (by omega) (by omega)]
    decide
  obtain ⟨⟨k1, k2, k3, _⟩, k5⟩ := maO_ok E N hr 5 _ _ c5 K0
  exact ⟨k1, k2, fun v a b => (k3 v a b (ndc_0 k5 v a b)).1⟩
/-- both sides make the same views of the same facts -/
theorem views_eq (E : EnvOk n hd fm rp rq (nbC n hd fm rp rq)) {S T : Nat → Int32} (hS : L25 S) (hT : L25 T) (hSm : ∀ v, 2 ≤ v → v < 7 → MdAt n hd fm rp rq (nbC n hd fm rp rq) v (SPm S)) (hTm : ∀ v, 2 ≤ v → v < 7 → MdAt n hd fm rp rq (nbC n hd fm rp rq) v (SPm T)) (hf : ∀ r, r < 2 → S r = T r) : ∀ r, r < 7 → S r = T r := by
  have h := md_all E hSm hTm (fun r hr i hi => by unfold SPm; rw [hf r hr])
  intro r hr
  refine lt25_ext (hS r hr) (hT r hr) (fun i hi => ?_)
  have q := h r hr i hi
  unfold SPm at q
  rw [Bool.eq_iff_iff]
  exact q
end MV

/-! THE VIEWS AS SETS: a state says of a relation and of a pair's number 5x + y whether the pair is in; what a rule gives; which states are what the rules make of the facts; two such states with the same facts are the same -/
def gvP (f p q : Nat) (S : Nat → Nat → Prop) (i : Nat) : Prop :=
  (f = 0 ∧ S p i) ∨ (f = 1 ∧ S p (5 * (i % 5) + i / 5)) ∨ (f = 2 ∧ ∃ z, z < 5 ∧ S p (5 * (i / 5) + z) ∧ S q (5 * z + i % 5)) ∨ (f = 3 ∧ S p i ∧ S q i) ∨ (f = 4 ∧ S p i ∧ ¬ S q i)
theorem gvP_mono {f p q : Nat} {S T : Nat → Nat → Prop} {i : Nat} (hi : i < 25) (h1 : ∀ j, j < 25 → S p j → T p j) (h2 : f = 2 ∨ f = 3 → ∀ j, j < 25 → S q j → T q j) (h3 : f = 4 → ∀ j, j < 25 → T q j → S q j) (h : gvP f p q S i) : gvP f p q T i := by
  rcases h with ⟨rfl, a⟩ | ⟨rfl, a⟩ | ⟨rfl, z, hz, a, b⟩ | ⟨rfl, a, b⟩ | ⟨rfl, a, b⟩
  · exact Or.inl ⟨rfl, h1 _ hi a⟩
  · exact Or.inr (Or.inl ⟨rfl, h1 _ (by omega) a⟩)
  · exact Or.inr (Or.inr (Or.inl ⟨rfl, z, hz, h1 _ (by omega) a, h2 (Or.inl rfl) _ (by omega) b⟩))
  · exact Or.inr (Or.inr (Or.inr (Or.inl ⟨rfl, h1 _ hi a, h2 (Or.inr rfl) _ hi b⟩)))
  · exact Or.inr (Or.inr (Or.inr (Or.inr ⟨rfl, h1 _ hi a, fun c => b (h3 rfl _ hi c)⟩)))
/-- what the rules (n of them: head, form, p, q) and what needs what (nb) keep to -/
def EnvOk (n : Nat) (hd fm rp rq : Nat → Nat) (nb : Nat → Nat → Bool) : Prop :=
  (∀ k, k < n → nb (hd k) (rp k) = true) ∧ (∀ k, k < n → 2 ≤ fm k → nb (hd k) (rq k) = true) ∧ (∀ a b c, nb a b = true → nb b c = true → nb a c = true) ∧ (∀ k, k < n → fm k = 4 → rq k ≠ hd k ∧ ¬ nb (rq k) (hd k) = true) ∧ (∀ a b, nb a b = true → 2 ≤ a ∧ a < 7 ∧ b < 7) ∧ (∀ k, k < n → fm k ≤ 4 ∧ 2 ≤ hd k ∧ hd k < 7 ∧ rp k < 7 ∧ rq k < 7)
def togP (nb : Nat → Nat → Bool) (v w : Nat) : Prop := v = w ∨ (nb v w = true ∧ nb w v = true)
theorem togP.need {n : Nat} {hd fm rp rq : Nat → Nat} {nb : Nat → Nat → Bool} (E : EnvOk n hd fm rp rq nb) {v h p : Nat} (t : togP nb v h) (hp : nb h p = true) : nb v p = true := by
  rcases t with rfl | t
  · exact hp
  · exact E.2.2.1 _ _ _ t.1 hp
theorem togP.back {n : Nat} {hd fm rp rq : Nat → Nat} {nb : Nat → Nat → Bool} (E : EnvOk n hd fm rp rq nb) {v h q : Nat} (t : togP nb v h) (hq : togP nb v q) : q = h ∨ nb q h = true := by
  rcases t with rfl | t
  · rcases hq with rfl | hq
    · exact Or.inl rfl
    · exact Or.inr hq.2
  · rcases hq with rfl | hq
    · exact Or.inr t.1
    · exact Or.inr (E.2.2.1 _ _ _ hq.2 t.1)
theorem togP.symm {nb : Nat → Nat → Bool} {v w : Nat} (t : togP nb v w) : togP nb w v := by
  rcases t with rfl | t
  · exact Or.inl rfl
  · exact Or.inr ⟨t.2, t.1⟩
theorem togP.trans {n : Nat} {hd fm rp rq : Nat → Nat} {nb : Nat → Nat → Bool} (E : EnvOk n hd fm rp rq nb) {u v w : Nat} (s : togP nb u v) (t : togP nb v w) : togP nb u w := by
  rcases s with rfl | s
  · exact t
  · rcases t with rfl | t
    · exact Or.inr s
    · exact Or.inr ⟨E.2.2.1 _ _ _ s.1 t.1, E.2.2.1 _ _ _ t.2 s.2⟩
/-- the views that need one another with v: closed under their rules, and within every closed state that has the same of what else v needs -/
def MdAt (n : Nat) (hd fm rp rq : Nat → Nat) (nb : Nat → Nat → Bool) (v : Nat) (S : Nat → Nat → Prop) : Prop :=
  (∀ k, k < n → togP nb v (hd k) → ∀ i, i < 25 → gvP (fm k) (rp k) (rq k) S i → S (hd k) i) ∧
  ∀ X : Nat → Nat → Prop, (∀ w, nb v w = true → ¬ togP nb v w → ∀ i, i < 25 → (X w i ↔ S w i)) → (∀ k, k < n → togP nb v (hd k) → ∀ i, i < 25 → gvP (fm k) (rp k) (rq k) X i → X (hd k) i) → ∀ w, togP nb v w → ∀ i, i < 25 → S w i → X w i
theorem MdAt.le {n : Nat} {hd fm rp rq : Nat → Nat} {nb : Nat → Nat → Bool} {v : Nat} {S T : Nat → Nat → Prop} (hS : MdAt n hd fm rp rq nb v S) (hT : MdAt n hd fm rp rq nb v T) (h : ∀ w, nb v w = true → ¬ togP nb v w → ∀ i, i < 25 → (S w i ↔ T w i)) : ∀ w, togP nb v w → ∀ i, i < 25 → S w i → T w i :=
  hS.2 T (fun w a b i hi => (h w a b i hi).symm) hT.1
/-- only what v needs counts -/
theorem MdAt.congr {n : Nat} {hd fm rp rq : Nat → Nat} {nb : Nat → Nat → Bool} (E : EnvOk n hd fm rp rq nb) {v : Nat} {S T : Nat → Nat → Prop} (hS : MdAt n hd fm rp rq nb v S) (h : ∀ w, v = w ∨ nb v w = true → ∀ i, i < 25 → (S w i ↔ T w i)) : MdAt n hd fm rp rq nb v T := by
  have tn : ∀ w, togP nb v w → v = w ∨ nb v w = true := fun w t => t.elim Or.inl (fun q => Or.inr q.1)
  refine ⟨fun k hk ht i hi g => ?_, fun X hX hc w ht i hi hs => ?_⟩
  · refine (h _ (tn _ ht) i hi).mp (hS.1 k hk ht i hi (gvP_mono hi (fun j hj a => ?_) (fun hf j hj a => ?_) (fun hf j hj a => ?_) g))
    · exact (h _ (Or.inr (ht.need E (E.1 k hk))) j hj).mpr a
    · exact (h _ (Or.inr (ht.need E (E.2.1 k hk (by omega)))) j hj).mpr a
    · exact (h _ (Or.inr (ht.need E (E.2.1 k hk (by omega)))) j hj).mp a
  · exact hS.2 X (fun w a b i hi => (hX w a b i hi).trans (h w (Or.inr a) i hi).symm) hc w ht i hi ((h w (tn _ ht) i hi).mpr hs)
/-- how many relations v needs, itself with them -/
def rkF (nb : Nat → Nat → Bool) (v r : Nat) : Nat := if nb v r = true ∨ r = v then 1 else 0
def rkN (nb : Nat → Nat → Bool) (v : Nat) : Nat := rkF nb v 0 + rkF nb v 1 + rkF nb v 2 + rkF nb v 3 + rkF nb v 4 + rkF nb v 5 + rkF nb v 6
theorem rkF_01 (nb : Nat → Nat → Bool) (v r : Nat) : rkF nb v r ≤ 1 := by unfold rkF; split <;> omega
theorem rkF_le {n : Nat} {hd fm rp rq : Nat → Nat} {nb : Nat → Nat → Bool} (E : EnvOk n hd fm rp rq nb) {v w : Nat} (h : nb v w = true) (r : Nat) : rkF nb w r ≤ rkF nb v r := by
  unfold rkF
  split
  · next a =>
    have : nb v r = true ∨ r = v := by
      rcases a with a | rfl
      · exact Or.inl (E.2.2.1 _ _ _ h a)
      · exact Or.inl h
    rw [if_pos this]
    exact Nat.le_refl 1
  · exact Nat.zero_le _
theorem rkN_le {n : Nat} {hd fm rp rq : Nat → Nat} {nb : Nat → Nat → Bool} (E : EnvOk n hd fm rp rq nb) {v w : Nat} (h : nb v w = true) : rkN nb w ≤ rkN nb v := by
  have a0 := rkF_le E h 0; have a1 := rkF_le E h 1; have a2 := rkF_le E h 2; have a3 := rkF_le E h 3; have a4 := rkF_le E h 4; have a5 := rkF_le E h 5; have a6 := rkF_le E h 6
  unfold rkN
  omega
theorem rkN_lt {n : Nat} {hd fm rp rq : Nat → Nat} {nb : Nat → Nat → Bool} (E : EnvOk n hd fm rp rq nb) {v w : Nat} (h : nb v w = true) (hn : ¬ nb w v = true) : rkN nb w < rkN nb v := by
  have hv : v < 7 := (E.2.2.2.2.1 _ _ h).2.1
  have hvw : v ≠ w := fun q => by subst q; exact hn h
  have a0 := rkF_le E h 0; have a1 := rkF_le E h 1; have a2 := rkF_le E h 2; have a3 := rkF_le E h 3; have a4 := rkF_le E h 4; have a5 := rkF_le E h 5; have a6 := rkF_le E h 6
  have b0 : rkF nb w v = 0 := by unfold rkF; rw [if_neg (fun q => q.elim hn hvw)]
  have b1 : rkF nb v v = 1 := by unfold rkF; rw [if_pos (Or.inr rfl)]
  unfold rkN
  rcases (show v = 0 ∨ v = 1 ∨ v = 2 ∨ v = 3 ∨ v = 4 ∨ v = 5 ∨ v = 6 by omega) with q | q | q | q | q | q | q <;> (rw [q] at b0 b1 a0 a1 a2 a3 a4 a5 a6 ⊢; omega)
theorem rkN_tog {n : Nat} {hd fm rp rq : Nat → Nat} {nb : Nat → Nat → Bool} (E : EnvOk n hd fm rp rq nb) {v w : Nat} (h : togP nb v w) : rkN nb v = rkN nb w := by
  rcases h with rfl | h
  · rfl
  · exact Nat.le_antisymm (rkN_le E h.2) (rkN_le E h.1)
/-- two states that are what the rules make of the same facts are the same -/
theorem md_all {n : Nat} {hd fm rp rq : Nat → Nat} {nb : Nat → Nat → Bool} (E : EnvOk n hd fm rp rq nb) {S T : Nat → Nat → Prop} (hS : ∀ v, 2 ≤ v → v < 7 → MdAt n hd fm rp rq nb v S) (hT : ∀ v, 2 ≤ v → v < 7 → MdAt n hd fm rp rq nb v T) (hf : ∀ r, r < 2 → ∀ i, i < 25 → (S r i ↔ T r i)) : ∀ v, v < 7 → ∀ i, i < 25 → (S v i ↔ T v i) := by
  have key : ∀ (d v : Nat), rkN nb v < d → v < 7 → ∀ i, i < 25 → (S v i ↔ T v i) := by
    intro d
    induction d with
    | zero => intro v h; exact absurd h (Nat.not_lt_zero _)
    | succ d ih =>
      intro v hd7 hv7 i hi
      rcases Nat.lt_or_ge v 2 with h2 | h2
      · exact hf v h2 i hi
      · have low : ∀ w, nb v w = true → ¬ togP nb v w → ∀ i, i < 25 → (S w i ↔ T w i) := by
          intro w hw ht
          have hn : ¬ nb w v = true := fun q => ht (Or.inr ⟨hw, q⟩)
          have := rkN_lt E hw hn
          exact ih w (by omega) (E.2.2.2.2.1 _ _ hw).2.2
        exact ⟨(hS v h2 hv7).le (hT v h2 hv7) low v (Or.inl rfl) i hi, (hT v h2 hv7).le (hS v h2 hv7) (fun w a b i hi => (low w a b i hi).symm) v (Or.inl rfl) i hi⟩
  exact fun v hv => key (rkN nb v + 1) v (Nat.lt_succ_self _) hv
/-- S is within X on the views together with v, and the same as X in what else v needs -/
def SubAt (nb : Nat → Nat → Bool) (v : Nat) (X S : Nat → Nat → Prop) : Prop := (∀ w, togP nb v w → ∀ i, i < 25 → S w i → X w i) ∧ ∀ w, nb v w = true → ¬ togP nb v w → ∀ i, i < 25 → (X w i ↔ S w i)
theorem SubAt.give {n : Nat} {hd fm rp rq : Nat → Nat} {nb : Nat → Nat → Bool} (E : EnvOk n hd fm rp rq nb) {v : Nat} {X S : Nat → Nat → Prop} (h : SubAt nb v X S) (hc : ∀ k, k < n → togP nb v (hd k) → ∀ i, i < 25 → gvP (fm k) (rp k) (rq k) X i → X (hd k) i) {k : Nat} (hk : k < n) (ht : togP nb v (hd k)) {i : Nat} (hi : i < 25) (g : gvP (fm k) (rp k) (rq k) S i) : X (hd k) i := by
  have one : ∀ r, nb v r = true → ∀ j, j < 25 → S r j → X r j := by
    intro r hr j hj a
    by_cases q : togP nb v r
    · exact h.1 r q j hj a
    · exact (h.2 r hr q j hj).mpr a
  refine hc k hk ht i hi (gvP_mono hi (one _ (ht.need E (E.1 k hk))) (fun hf => one _ (ht.need E (E.2.1 k hk (by omega)))) (fun hf j hj a => ?_) g)
  have hq := E.2.2.2.1 k hk hf
  have hnt : ¬ togP nb v (rq k) := fun q => (ht.back E q).elim hq.1 hq.2
  exact (h.2 _ (ht.need E (E.2.1 k hk (by omega))) hnt j hj).mp a
/-! THE SUSPECTS: B the state before, S the state after -/
def loP (nb : Nat → Nat → Bool) (B S D : Nat → Nat → Prop) (v r i : Nat) : Prop := (nb r v = true ∧ D r i) ∨ (¬ nb r v = true ∧ B r i ∧ ¬ S r i)
/-- an instance of a rule (head v) in the state before, that leans on a lost pair -/
def dbP (nb : Nat → Nat → Bool) (B S D : Nat → Nat → Prop) (v f p q i : Nat) : Prop :=
  (f = 0 ∧ B p i ∧ loP nb B S D v p i) ∨ (f = 1 ∧ B p (5 * (i % 5) + i / 5) ∧ loP nb B S D v p (5 * (i % 5) + i / 5)) ∨
  (f = 2 ∧ ∃ z, z < 5 ∧ (B p (5 * (i / 5) + z) ∧ B q (5 * z + i % 5)) ∧ (loP nb B S D v p (5 * (i / 5) + z) ∨ loP nb B S D v q (5 * z + i % 5))) ∨
  (f = 3 ∧ (B p i ∧ B q i) ∧ (loP nb B S D v p i ∨ loP nb B S D v q i)) ∨ (f = 4 ∧ (B p i ∧ ¬ B q i) ∧ (loP nb B S D v p i ∨ (S q i ∧ ¬ B q i)))
theorem dbP_gives {nb : Nat → Nat → Bool} {B S D : Nat → Nat → Prop} {v f p q i : Nat} (h : dbP nb B S D v f p q i) : gvP f p q B i := by
  rcases h with ⟨rfl, a, _⟩ | ⟨rfl, a, _⟩ | ⟨rfl, z, hz, a, _⟩ | ⟨rfl, a, _⟩ | ⟨rfl, a, _⟩
  · exact Or.inl ⟨rfl, a⟩
  · exact Or.inr (Or.inl ⟨rfl, a⟩)
  · exact Or.inr (Or.inr (Or.inl ⟨rfl, z, hz, a.1, a.2⟩))
  · exact Or.inr (Or.inr (Or.inr (Or.inl ⟨rfl, a⟩)))
  · exact Or.inr (Or.inr (Or.inr (Or.inr ⟨rfl, a⟩)))
/-- THE HEART OF THE TAKING OUT: before, the views were what the rules make; what is no suspect is within every closed state after -/
theorem keeps {n : Nat} {hd fm rp rq : Nat → Nat} {nb : Nat → Nat → Bool} (E : EnvOk n hd fm rp rq nb) {v : Nat} {B S D X : Nat → Nat → Prop} (hB : MdAt n hd fm rp rq nb v B) (hv : nb v v = true)
    (hDB : ∀ w, togP nb v w → ∀ i, i < 25 → D w i → B w i) (hD : ∀ k, k < n → togP nb v (hd k) → ∀ i, i < 25 → dbP nb B S D (hd k) (fm k) (rp k) (rq k) i → D (hd k) i)
    (hX : ∀ w, nb v w = true → ¬ togP nb v w → ∀ i, i < 25 → (X w i ↔ S w i)) (hc : ∀ k, k < n → togP nb v (hd k) → ∀ i, i < 25 → gvP (fm k) (rp k) (rq k) X i → X (hd k) i) : ∀ w, togP nb v w → ∀ i, i < 25 → B w i → ¬ D w i → X w i := by
  let Y : Nat → Nat → Prop := fun w i => (togP nb v w ∧ ((B w i ∧ X w i) ∨ D w i)) ∨ (¬ togP nb v w ∧ B w i)
  have YB : ∀ w i, i < 25 → Y w i → B w i := fun w i hi y => y.elim (fun y => y.2.elim (fun a => a.1) (fun a => hDB w y.1 i hi a)) (fun y => y.2)
  have hback : ∀ k, k < n → togP nb v (hd k) → ∀ r, nb v r = true → (togP nb v r ↔ nb r (hd k) = true) := by
    intro k hk ht r hr
    constructor
    · intro t
      rcases ht.back E t with q | q
      · subst q
        rcases ht with q2 | q2
        · rw [← q2]; exact hv
        · exact E.2.2.1 _ _ _ q2.2 q2.1
      · exact q
    · intro t
      refine Or.inr ⟨hr, ?_⟩
      rcases ht with q2 | q2
      · rw [q2]; exact t
      · exact E.2.2.1 _ _ _ t q2.2
  have main := hB.2 Y (fun w hw hn i hi => ⟨fun y => YB w i hi y, fun b => Or.inr ⟨hn, b⟩⟩) (fun k hk ht i hi g => by
    have gB : gvP (fm k) (rp k) (rq k) B i := gvP_mono hi (fun j hj => YB _ j hj) (fun _ j hj => YB _ j hj) (fun hf j hj b => by
      have hq := E.2.2.2.1 k hk hf
      exact Or.inr ⟨fun q => (ht.back E q).elim hq.1 hq.2, b⟩) g
    have hb := hB.1 k hk ht i hi gB
    by_cases hdd : D (hd k) i
    · exact Or.inl ⟨ht, Or.inr hdd⟩
    · have nd : ¬ dbP nb B S D (hd k) (fm k) (rp k) (rq k) i := fun q => hdd (hD k hk ht i hi q)
      have hp := ht.need E (E.1 k hk)
      -- a pair that the instance uses, and that is not lost, is in X
      have use : ∀ r, nb v r = true → ∀ j, j < 25 → Y r j → ¬ loP nb B S D (hd k) r j → X r j := by
        intro r hr j hj y nl
        by_cases tr : togP nb v r
        · rcases y with y | y
          · rcases y.2 with a | a
            · exact a.2
            · exact absurd (Or.inl ⟨(hback k hk ht r hr).mp tr, a⟩) nl
          · exact absurd tr y.1
        · have nr : ¬ nb r (hd k) = true := fun q => tr ((hback k hk ht r hr).mpr q)
          refine (hX r hr tr j hj).mpr ?_
          by_cases s : S r j
          · exact s
          · exact absurd (Or.inr ⟨nr, YB r j hj y, s⟩) nl
      refine Or.inl ⟨ht, Or.inl ⟨hb, hc k hk ht i hi ?_⟩⟩
      rcases g with ⟨f0, a⟩ | ⟨f0, a⟩ | ⟨f0, z, hz, a, b⟩ | ⟨f0, a, b⟩ | ⟨f0, a, b⟩
      · exact Or.inl ⟨f0, use _ hp _ hi a (fun l => nd (Or.inl ⟨f0, YB _ _ hi a, l⟩))⟩
      · exact Or.inr (Or.inl ⟨f0, use _ hp _ (by omega) a (fun l => nd (Or.inr (Or.inl ⟨f0, YB _ _ (by omega) a, l⟩)))⟩)
      · have hq := ht.need E (E.2.1 k hk (by omega))
        have ab := And.intro (YB _ _ (by omega) a) (YB _ _ (by omega) b)
        exact Or.inr (Or.inr (Or.inl ⟨f0, z, hz, use _ hp _ (by omega) a (fun l => nd (Or.inr (Or.inr (Or.inl ⟨f0, z, hz, ab, Or.inl l⟩)))), use _ hq _ (by omega) b (fun l => nd (Or.inr (Or.inr (Or.inl ⟨f0, z, hz, ab, Or.inr l⟩))))⟩))
      · have hq := ht.need E (E.2.1 k hk (by omega))
        have ab := And.intro (YB _ _ hi a) (YB _ _ hi b)
        exact Or.inr (Or.inr (Or.inr (Or.inl ⟨f0, use _ hp _ hi a (fun l => nd (Or.inr (Or.inr (Or.inr (Or.inl ⟨f0, ab, Or.inl l⟩))))), use _ hq _ hi b (fun l => nd (Or.inr (Or.inr (Or.inr (Or.inl ⟨f0, ab, Or.inr l⟩)))))⟩)))
      · have hq := ht.need E (E.2.1 k hk (by omega))
        have hqn := E.2.2.2.1 k hk f0
        have tq : ¬ togP nb v (rq k) := fun q => (ht.back E q).elim hqn.1 hqn.2
        have bq : ¬ B (rq k) i := fun q => b (Or.inr ⟨tq, q⟩)
        have ab := And.intro (YB _ _ hi a) bq
        refine Or.inr (Or.inr (Or.inr (Or.inr ⟨f0, use _ hp _ hi a (fun l => nd (Or.inr (Or.inr (Or.inr (Or.inr ⟨f0, ab, Or.inl l⟩))))), fun x => ?_⟩)))
        have s := (hX _ hq tq i hi).mp x
        exact nd (Or.inr (Or.inr (Or.inr (Or.inr ⟨f0, ab, Or.inr ⟨s, bq⟩⟩)))))
  intro w hw i hi hb hnd
  rcases main w hw i hi hb with y | y
  · rcases y.2 with a | a
    · exact a.2
    · exact absurd a hnd
  · exact absurd hw y.1

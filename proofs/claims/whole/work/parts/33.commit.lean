/-! A COMMIT: the keeper goes layer by layer, finds suspects, takes out, fills; the reference makes all anew and then seeks the suspects; both end in the same -/
section CM
variable {n : Nat} {hd fm rp rq : Nat → Nat} {nd : Nat → Int32} {ne : Nat → Bool}
theorem tak_bits (nw bf : Nat → Int32) (r : Nat) {i : Nat} (hi : i < 32) : bt (takM nw bf r) i = (bt (bf r) i && !bt (nw r) i) := by unfold takM; rw [b_and, bt_not _ hi]
theorem put_bits (nw bf : Nat → Int32) (r : Nat) {i : Nat} (hi : i < 32) : bt (putM nw bf r) i = (bt (nw r) i && !bt (bf r) i) := by unfold putM; rw [b_and, bt_not _ hi]
/-- only what is looked at counts, and more suspects make more doubt -/
theorem dbP_imp {nb : Nat → Nat → Bool} {B S D B' S' D' : Nat → Nat → Prop} {v f p q i : Nat} (hi : i < 25) (hBp : ∀ j, j < 25 → (B p j ↔ B' p j)) (hBq : 2 ≤ f → ∀ j, j < 25 → (B q j ↔ B' q j)) (hSp : ¬ nb p v = true → ∀ j, j < 25 → (S p j ↔ S' p j)) (hSq : 2 ≤ f → ¬ nb q v = true → ∀ j, j < 25 → (S q j ↔ S' q j)) (h4 : f = 4 → ¬ nb q v = true)
    (hDp : nb p v = true → ∀ j, j < 25 → D p j → D' p j) (hDq : 2 ≤ f → nb q v = true → ∀ j, j < 25 → D q j → D' q j) (h : dbP nb B S D v f p q i) : dbP nb B' S' D' v f p q i := by
  have lp : ∀ j, j < 25 → loP nb B S D v p j → loP nb B' S' D' v p j := by
    intro j hj l
    rcases l with ⟨a, b⟩ | ⟨a, b, c⟩
    · exact Or.inl ⟨a, hDp a j hj b⟩
    · exact Or.inr ⟨a, (hBp j hj).mp b, fun z => c ((hSp a j hj).mpr z)⟩
  have lq : 2 ≤ f → ∀ j, j < 25 → loP nb B S D v q j → loP nb B' S' D' v q j := by
    intro h2 j hj l
    rcases l with ⟨a, b⟩ | ⟨a, b, c⟩
    · exact Or.inl ⟨a, hDq h2 a j hj b⟩
    · exact Or.inr ⟨a, (hBq h2 j hj).mp b, fun z => c ((hSq h2 a j hj).mpr z)⟩
  rcases h with ⟨e, a, b⟩ | ⟨e, a, b⟩ | ⟨e, z, hz, a, b⟩ | ⟨e, a, b⟩ | ⟨e, a, b⟩
  · exact Or.inl ⟨e, (hBp _ hi).mp a, lp _ hi b⟩
  · exact Or.inr (Or.inl ⟨e, (hBp _ (by omega)).mp a, lp _ (by omega) b⟩)
  · exact Or.inr (Or.inr (Or.inl ⟨e, z, hz, ⟨(hBp _ (by omega)).mp a.1, (hBq (by omega) _ (by omega)).mp a.2⟩, b.elim (fun l => Or.inl (lp _ (by omega) l)) (fun l => Or.inr (lq (by omega) _ (by omega) l))⟩))
  · exact Or.inr (Or.inr (Or.inr (Or.inl ⟨e, ⟨(hBp _ hi).mp a.1, (hBq (by omega) _ hi).mp a.2⟩, b.elim (fun l => Or.inl (lp _ hi l)) (fun l => Or.inr (lq (by omega) _ hi l))⟩)))
  · refine Or.inr (Or.inr (Or.inr (Or.inr ⟨e, ⟨(hBp _ hi).mp a.1, fun z => a.2 ((hBq (by omega) _ hi).mpr z)⟩, b.elim (fun l => Or.inl (lp _ hi l)) (fun l => Or.inr ⟨(hSq (by omega) (h4 e) _ hi).mp l.1, fun z => l.2 ((hBq (by omega) _ hi).mpr z)⟩)⟩)))
/-- the same for a rule that stands -/
theorem dbP_rule (E : EnvOk n hd fm rp rq (nbC n hd fm rp rq)) {B S D S' D' : Nat → Nat → Prop} {k i : Nat} (hk : k < n) (hi : i < 25) (hS : ∀ r, nbC n hd fm rp rq (hd k) r = true → ¬ nbC n hd fm rp rq r (hd k) = true → ∀ j, j < 25 → (S r j ↔ S' r j)) (hD : ∀ r, nbC n hd fm rp rq (hd k) r = true → nbC n hd fm rp rq r (hd k) = true → ∀ j, j < 25 → D r j → D' r j) (h : dbP (nbC n hd fm rp rq) B S D (hd k) (fm k) (rp k) (rq k) i) : dbP (nbC n hd fm rp rq) B S' D' (hd k) (fm k) (rp k) (rq k) i :=
  dbP_imp hi (fun _ _ => Iff.rfl) (fun _ _ _ => Iff.rfl) (hS _ (E.1 k hk)) (fun h2 => hS _ (E.2.1 k hk h2)) (fun h4 => (E.2.2.2.1 k hk h4).2) (hD _ (E.1 k hk)) (fun h2 => hD _ (E.2.1 k hk h2)) h
theorem los_bits (G : RfG nd (gC n hd fm rp rq)) {nw bf su : Nat → Int32} {v r : Nat} (hv : v < 7) (hr7 : r < 7) {i : Nat} (hi : i < 25) : bt (losM nd nw bf su v r) i = true ↔ loP (nbC n hd fm rp rq) (SPm bf) (SPm nw) (SPm su) v r i := by
  unfold losM loP SPm
  rw [nbC_lt hr7 hv, ← G.1 r v hr7 hv]
  cases bt (nd r) v with
  | true => simp
  | false =>
    rw [if_neg (by decide), tak_bits nw bf r (by omega)]
    simp
theorem los_lt {nw bf su : Nat → Int32} {v r : Nat} (h1 : lt25 (su r)) (h2 : lt25 (bf r)) : lt25 (losM nd nw bf su v r) := by
  unfold losM takM
  split
  · exact h1
  · exact lt25_and _ h2
theorem sus_bits (G : RfG nd (gC n hd fm rp rq)) {nw bf su : Nat → Int32} {v f p q : Nat} (hf : f ≤ 4) (hv : v < 7) (hp : p < 7) (hq : q < 7) (hDp : nbC n hd fm rp rq p v = true → ∀ j, j < 25 → SPm su p j → SPm bf p j) (hDq : nbC n hd fm rp rq q v = true → ∀ j, j < 25 → SPm su q j → SPm bf q j) {i : Nat} (hi : i < 25) : bt (susM nd nw bf su v f p q) i = true → dbP (nbC n hd fm rp rq) (SPm bf) (SPm nw) (SPm su) v f p q i := by
  have lp : ∀ j, j < 25 → bt (losM nd nw bf su v p) j = true → SPm bf p j ∧ loP (nbC n hd fm rp rq) (SPm bf) (SPm nw) (SPm su) v p j := by
    intro j hj l
    have l := (los_bits G hv hp hj).mp l
    exact ⟨l.elim (fun a => hDp a.1 j hj a.2) (fun a => a.2.1), l⟩
  have lq : ∀ j, j < 25 → bt (losM nd nw bf su v q) j = true → SPm bf q j ∧ loP (nbC n hd fm rp rq) (SPm bf) (SPm nw) (SPm su) v q j := by
    intro j hj l
    have l := (los_bits G hv hq hj).mp l
    exact ⟨l.elim (fun a => hDq a.1 j hj a.2) (fun a => a.2.1), l⟩
  intro h
  unfold susM at h
  rcases (show f = 0 ∨ f = 1 ∨ f = 2 ∨ f = 3 ∨ f = 4 by omega) with e | e | e | e | e <;> subst e
  · rw [if_pos rfl] at h
    exact Or.inl ⟨rfl, lp i hi h⟩
  · rw [if_neg (by decide), if_pos rfl, bt_turn, Bool.and_eq_true] at h
    exact Or.inr (Or.inl ⟨rfl, lp _ (by omega) h.2⟩)
  · rw [if_neg (by decide), if_neg (by decide), if_pos rfl, b_or, Bool.or_eq_true, bt_join, bt_join, Bool.and_eq_true, Bool.and_eq_true, anyN_iff, anyN_iff] at h
    refine Or.inr (Or.inr (Or.inl ⟨rfl, ?_⟩))
    rcases h with ⟨_, z, _, hz, a⟩ | ⟨_, z, _, hz, a⟩
    · rw [Bool.and_eq_true] at a
      have l := lp _ (by omega) a.1
      exact ⟨z, by omega, ⟨l.1, a.2⟩, Or.inl l.2⟩
    · rw [Bool.and_eq_true] at a
      have l := lq _ (by omega) a.2
      exact ⟨z, by omega, ⟨a.1, l.1⟩, Or.inr l.2⟩
  · rw [if_neg (by decide), if_neg (by decide), if_neg (by decide), if_pos rfl, b_or, Bool.or_eq_true, b_and, b_and, Bool.and_eq_true, Bool.and_eq_true] at h
    refine Or.inr (Or.inr (Or.inr (Or.inl ⟨rfl, ?_⟩)))
    rcases h with a | a
    · have l := lp i hi a.1
      exact ⟨⟨l.1, a.2⟩, Or.inl l.2⟩
    · have l := lq i hi a.2
      exact ⟨⟨a.1, l.1⟩, Or.inr l.2⟩
  · rw [if_neg (by decide), if_neg (by decide), if_neg (by decide), if_neg (by decide), b_and, b_and, bt_not _ (by omega), b_or, put_bits nw bf q (by omega), Bool.and_eq_true, Bool.and_eq_true, Bool.or_eq_true, Bool.and_eq_true, Bool.not_eq_true'] at h
    refine Or.inr (Or.inr (Or.inr (Or.inr ⟨rfl, ⟨h.1.1, fun z => ?_⟩, ?_⟩)))
    · unfold SPm at z; rw [h.1.2] at z; cases z
    · rcases h.2 with a | a
      · exact Or.inl (lp i hi a).2
      · refine Or.inr ⟨a.1, fun z => ?_⟩
        unfold SPm at z
        have := h.1.2
        rw [z] at this
        cases this
theorem sus_back (G : RfG nd (gC n hd fm rp rq)) {nw bf su : Nat → Int32} {v f p q : Nat} (hv : v < 7) (hp : p < 7) (hq : q < 7) {i : Nat} (hi : i < 25) : dbP (nbC n hd fm rp rq) (SPm bf) (SPm nw) (SPm su) v f p q i → bt (susM nd nw bf su v f p q) i = true := by
  have lp : ∀ j, j < 25 → loP (nbC n hd fm rp rq) (SPm bf) (SPm nw) (SPm su) v p j → bt (losM nd nw bf su v p) j = true := fun j hj l => (los_bits G hv hp hj).mpr l
  have lq : ∀ j, j < 25 → loP (nbC n hd fm rp rq) (SPm bf) (SPm nw) (SPm su) v q j → bt (losM nd nw bf su v q) j = true := fun j hj l => (los_bits G hv hq hj).mpr l
  intro h
  unfold susM
  rcases h with ⟨e, a, b⟩ | ⟨e, a, b⟩ | ⟨e, z, hz, a, b⟩ | ⟨e, a, b⟩ | ⟨e, a, b⟩ <;> subst e
  · rw [if_pos rfl]; exact lp i hi b
  · rw [if_neg (by decide), if_pos rfl, bt_turn, decide_eq_true hi, Bool.true_and]; exact lp _ (by omega) b
  · rw [if_neg (by decide), if_neg (by decide), if_pos rfl, b_or, Bool.or_eq_true, bt_join, bt_join, decide_eq_true hi, Bool.true_and, Bool.true_and, anyN_iff, anyN_iff]
    rcases b with b | b
    · exact Or.inl ⟨z, Nat.zero_le _, by omega, by rw [Bool.and_eq_true]; exact ⟨lp _ (by omega) b, a.2⟩⟩
    · exact Or.inr ⟨z, Nat.zero_le _, by omega, by rw [Bool.and_eq_true]; exact ⟨a.1, lq _ (by omega) b⟩⟩
  · rw [if_neg (by decide), if_neg (by decide), if_neg (by decide), if_pos rfl, b_or, Bool.or_eq_true, b_and, b_and, Bool.and_eq_true, Bool.and_eq_true]
    exact b.elim (fun b => Or.inl ⟨lp i hi b, a.2⟩) (fun b => Or.inr ⟨a.1, lq i hi b⟩)
  · rw [if_neg (by decide), if_neg (by decide), if_neg (by decide), if_neg (by decide), b_and, b_and, bt_not _ (by omega), b_or, put_bits nw bf q (by omega), Bool.and_eq_true, Bool.and_eq_true, Bool.or_eq_true, Bool.and_eq_true, Bool.not_eq_true']
    have hq0 : bt (bf q) i = false := by
      cases z : bt (bf q) i with
      | false => rfl
      | true => exact absurd z a.2
    exact ⟨⟨a.1, hq0⟩, b.elim (fun b => Or.inl (lp i hi b)) (fun b => Or.inr ⟨b.1, hq0⟩)⟩
theorem sus_lt {nw bf su : Nat → Int32} {v f p q : Nat} (h1 : lt25 (su p)) (h3 : lt25 (bf p)) : lt25 (susM nd nw bf su v f p q) := by
  unfold susM
  have l1 := los_lt (nd := nd) (nw := nw) (v := v) h1 h3
  intro i hi
  split
  · exact l1 i hi
  · split
    · rw [bt_turn, decide_eq_false (by omega), Bool.false_and]
    · split
      · rw [b_or, bt_join, bt_join, decide_eq_false (by omega), Bool.false_and, Bool.false_and]; rfl
      · split
        · rw [b_or, b_and, b_and, l1 i hi, h3 i hi, Bool.false_and, Bool.false_and]; rfl
        · rw [b_and, b_and, h3 i hi, Bool.false_and, Bool.false_and]
/-- one pass for suspects: what stays -/
theorem soF_keep (hr : ruOk n hd fm rp rq) {nw bf : Nat → Int32} (hbf : L25 bf) (L : Nat) : ∀ (k i : Nat) (su : Nat → Int32) (more : Bool), i + k ≤ n → L25 su → L25 (soF hd fm rp rq nd nw bf L k i su more).1 ∧ (∀ w, ¬ (2 ≤ w ∧ w < 7 ∧ layM nd w = L ∧ bt (nd w) w = true) → (soF hd fm rp rq nd nw bf L k i su more).1 w = su w) ∧ muF (soF hd fm rp rq nd nw bf L k i su more).1 ≤ muF su ∧ ((soF hd fm rp rq nd nw bf L k i su more).2 = true → more = true ∨ muF (soF hd fm rp rq nd nw bf L k i su more).1 < muF su) := by
  intro k
  induction k with
  | zero => intro i su more _ h; exact ⟨h, fun _ _ => rfl, Nat.le_refl _, fun h => Or.inl h⟩
  | succ k ih =>
    intro i su more hi h
    have hri := hr.2 i (by omega)
    rw [soF]
    split
    · next hL =>
      have hg := new_grew (y := su (hd i)) (sus_lt (nd := nd) (nw := nw) (v := hd i) (f := fm i) (q := rq i) (h (rp i) (by omega)) (hbf (rp i) (by omega)))
      have hl : L25 (upd su (hd i) (su (hd i) ||| (susM nd nw bf su (hd i) (fm i) (rp i) (rq i) &&& (su (hd i) ^^^ (-1))))) := upd_L25 h (fun j hj => (hg.2 j hj).trans (h (hd i) (by omega) j hj))
      obtain ⟨a1, a2, a3, a4⟩ := ih (i + 1) _ (more || !decide (susM nd nw bf su (hd i) (fm i) (rp i) (rq i) &&& (su (hd i) ^^^ (-1)) = 0)) (by omega) hl
      have hu := muF_upd (f := su) hri.1 hri.2.1 hg.le
      refine ⟨a1, fun w hw => ?_, Nat.le_trans a3 hu.1, fun q => ?_⟩
      · rw [a2 w hw]
        unfold upd
        rw [if_neg (fun e => hw (by rw [e]; exact ⟨hri.1, hri.2.1, hL⟩))]
      · rcases a4 q with q | q
        · rw [Bool.or_eq_true] at q
          rcases q with q | q
          · exact Or.inl q
          · have hne : ¬ susM nd nw bf su (hd i) (fm i) (rp i) (rq i) &&& (su (hd i) ^^^ (-1)) = 0 := by
              intro e
              rw [e] at q
              simp at q
            exact Or.inr (Nat.lt_of_le_of_lt a3 (hu.2 (hg.lt (new_ne hne))))
        · exact Or.inr (Nat.lt_of_lt_of_le q hu.1)
    · exact ih (i + 1) su more (by omega) h
theorem soF_none (hr : ruOk n hd fm rp rq) {nw bf : Nat → Int32} (L : Nat) : ∀ (k i : Nat) (su : Nat → Int32) (more : Bool), i + k ≤ n → (soF hd fm rp rq nd nw bf L k i su more).2 = false → more = false ∧ (soF hd fm rp rq nd nw bf L k i su more).1 = su ∧ ∀ j, i ≤ j → j < i + k → layM nd (hd j) = L → bt (nd (hd j)) (hd j) = true → ∀ b, b < 25 → bt (susM nd nw bf su (hd j) (fm j) (rp j) (rq j)) b = true → SPm su (hd j) b := by
  intro k
  induction k with
  | zero => intro i su more _ h; exact ⟨h, rfl, fun j h1 h2 => absurd h2 (by omega)⟩
  | succ k ih =>
    intro i su more hi h
    have hri := hr.2 i (by omega)
    rw [soF] at h ⊢
    split at h
    · next hL =>
      rw [if_pos hL]
      obtain ⟨b1, b2, b3⟩ := ih (i + 1) _ _ (by omega) h
      rw [Bool.or_eq_false_iff] at b1
      have h0 : susM nd nw bf su (hd i) (fm i) (rp i) (rq i) &&& (su (hd i) ^^^ (-1)) = 0 := by simpa using b1.2
      have e := upd_id (f := su) (w := hd i) (new_0 h0)
      rw [e] at b2 b3 ⊢
      refine ⟨b1.1, b2, fun j h1 h2 hj hc b hb g => ?_⟩
      by_cases ej : j = i
      · subst ej
        exact new_sub h0 (by omega) g
      · exact b3 j (by omega) (by omega) hj hc b hb g
    · next hL =>
      rw [if_neg hL]
      obtain ⟨b1, b2, b3⟩ := ih (i + 1) _ _ (by omega) h
      refine ⟨b1, b2, fun j h1 h2 hj hc b hb g => ?_⟩
      by_cases ej : j = i
      · subst ej; exact absurd ⟨hj, hc⟩ hL
      · exact b3 j (by omega) (by omega) hj hc b hb g
/-- within X on the views of rank L -/
def subL (n : Nat) (hd fm rp rq : Nat → Nat) (L : Nat) (X : Nat → Nat → Prop) (su : Nat → Int32) : Prop := ∀ w, 2 ≤ w → w < 7 → rkN (nbC n hd fm rp rq) w = L → ∀ i, i < 25 → SPm su w i → X w i
/-- X has all the suspects that the rules of rank L make out of it -/
def dcL (n : Nat) (hd fm rp rq : Nat → Nat) (L : Nat) (B S X : Nat → Nat → Prop) : Prop := ∀ k, k < n → rkN (nbC n hd fm rp rq) (hd k) = L → nbC n hd fm rp rq (hd k) (hd k) = true → ∀ i, i < 25 → dbP (nbC n hd fm rp rq) B S X (hd k) (fm k) (rp k) (rq k) i → X (hd k) i
theorem soF_sub (E : EnvOk n hd fm rp rq (nbC n hd fm rp rq)) (G : RfG nd (gC n hd fm rp rq)) (hr : ruOk n hd fm rp rq) {nw bf : Nat → Int32} {L : Nat} {X : Nat → Nat → Prop} (hcB : dcL n hd fm rp rq L (SPm bf) (SPm nw) (SPm bf)) (hcX : dcL n hd fm rp rq L (SPm bf) (SPm nw) X) : ∀ (k i : Nat) (su : Nat → Int32) (more : Bool), i + k ≤ n → subL n hd fm rp rq L (SPm bf) su → subL n hd fm rp rq L X su → subL n hd fm rp rq L (SPm bf) (soF hd fm rp rq nd nw bf L k i su more).1 ∧ subL n hd fm rp rq L X (soF hd fm rp rq nd nw bf L k i su more).1 := by
  intro k
  induction k with
  | zero => intro i su more _ h1 h2; exact ⟨h1, h2⟩
  | succ k ih =>
    intro i su more hi h1 h2
    have hri := hr.2 i (by omega)
    rw [soF]
    split
    · next hL =>
      have hrk : rkN (nbC n hd fm rp rq) (hd i) = L := by rw [← layM_rk G hri.2.1]; exact hL.1
      have hrec : nbC n hd fm rp rq (hd i) (hd i) = true := by rw [nbC_lt hri.2.1 hri.2.1, ← G.1 _ _ hri.2.1 hri.2.1]; exact hL.2
      have tg : ∀ r, nbC n hd fm rp rq (hd i) r = true → nbC n hd fm rp rq r (hd i) = true → 2 ≤ r ∧ r < 7 ∧ rkN (nbC n hd fm rp rq) r = L := fun r a b => ⟨(E.2.2.2.2.1 _ _ b).1, (E.2.2.2.2.1 _ _ b).2.1, by rw [← rkN_tog E (Or.inr ⟨a, b⟩)]; exact hrk⟩
      have step : ∀ Y, dcL n hd fm rp rq L (SPm bf) (SPm nw) Y → subL n hd fm rp rq L Y su → subL n hd fm rp rq L Y (upd su (hd i) (su (hd i) ||| (susM nd nw bf su (hd i) (fm i) (rp i) (rq i) &&& (su (hd i) ^^^ (-1))))) := by
        intro Y hY hs w hw2 hw7 hwr b hb q
        unfold SPm upd at q
        by_cases e : w = hd i
        · rw [if_pos e, b_or, Bool.or_eq_true] at q
          rcases q with q | q
          · rw [e]; exact hs (hd i) hri.1 hri.2.1 hrk b hb q
          · rw [new_bits (by omega), Bool.and_eq_true] at q
            rw [e]
            have np := E.1 i (by omega)
            -- p and, where it is looked at, q: suspects are pairs that were there
            refine hY i (by omega) hrk hrec b hb (dbP_rule E (by omega) hb (fun _ _ _ _ _ => Iff.rfl) (fun r a c j hj z => hs r (tg r a c).1 (tg r a c).2.1 (tg r a c).2.2 j hj z) ?_)
            by_cases f2 : 2 ≤ fm i
            · have nq := E.2.1 i (by omega) f2
              exact sus_bits G hri.2.2.1 hri.2.1 hri.2.2.2.1 hri.2.2.2.2 (fun c j hj z => h1 _ (tg _ np c).1 (tg _ np c).2.1 (tg _ np c).2.2 j hj z) (fun c j hj z => h1 _ (tg _ nq c).1 (tg _ nq c).2.1 (tg _ nq c).2.2 j hj z) hb q.1
            · -- forms 0 and 1 do not look at q
              have q1 : bt (susM nd nw bf su (hd i) (fm i) (rp i) (rp i)) b = true := by
                have qq := q.1
                unfold susM at qq ⊢
                rcases (show fm i = 0 ∨ fm i = 1 by omega) with e0 | e0
                · rw [if_pos e0] at qq ⊢; exact qq
                · rw [if_neg (by omega), if_pos e0] at qq ⊢; exact qq
              have d := sus_bits G hri.2.2.1 hri.2.1 hri.2.2.2.1 hri.2.2.2.1 (fun c j hj z => h1 _ (tg _ np c).1 (tg _ np c).2.1 (tg _ np c).2.2 j hj z) (fun c j hj z => h1 _ (tg _ np c).1 (tg _ np c).2.1 (tg _ np c).2.2 j hj z) hb q1
              rcases d with d | d | d | d | d
              · exact Or.inl d
              · exact Or.inr (Or.inl d)
              · exact absurd d.1 (by omega)
              · exact absurd d.1 (by omega)
              · exact absurd d.1 (by omega)
        · rw [if_neg e] at q
          exact hs w hw2 hw7 hwr b hb q
      exact ih (i + 1) _ _ (by omega) (step _ hcB h1) (step _ hcX h2)
    · exact ih (i + 1) su more (by omega) h1 h2
theorem fsF_pres {nw bf : Nat → Int32} (L : Nat) (P : (Nat → Int32) → Prop) (hP : ∀ su, P su → P (soF hd fm rp rq nd nw bf L n 0 su false).1) : ∀ (k : Nat) (more : Bool) (su : Nat → Int32), P su → P (fsF n hd fm rp rq nd nw bf L k more su) := by
  intro k
  induction k with
  | zero => intro more su h; exact h
  | succ k ih =>
    intro more su h
    rw [fsF]
    split
    · exact ih _ _ (hP su h)
    · exact h
theorem fsF_false {nw bf : Nat → Int32} (L k : Nat) (su : Nat → Int32) : fsF n hd fm rp rq nd nw bf L k false su = su := by cases k <;> rfl
theorem fsF_closed (hr : ruOk n hd fm rp rq) {nw bf : Nat → Int32} (hbf : L25 bf) (L : Nat) : ∀ (k : Nat) (su : Nat → Int32), L25 su → muF su < k → ∀ j, j < n → layM nd (hd j) = L → bt (nd (hd j)) (hd j) = true → ∀ b, b < 25 → bt (susM nd nw bf (fsF n hd fm rp rq nd nw bf L k true su) (hd j) (fm j) (rp j) (rq j)) b = true → SPm (fsF n hd fm rp rq nd nw bf L k true su) (hd j) b := by
  intro k
  induction k with
  | zero => intro su _ h; exact absurd h (Nat.not_lt_zero _)
  | succ k ih =>
    intro su h hm
    rw [fsF, if_pos rfl]
    have hk := soF_keep (nd := nd) hr (nw := nw) hbf L n 0 su false (by omega) h
    cases q : (soF hd fm rp rq nd nw bf L n 0 su false).2 with
    | false =>
      have hn := soF_none (nd := nd) hr L n 0 su false (by omega) q
      rw [fsF_false, hn.2.1]
      exact fun j hj hL hc b hb g => hn.2.2 j (Nat.zero_le _) (by omega) hL hc b hb g
    | true =>
      rcases hk.2.2.2 q with z | z
      · cases z
      · exact ih _ hk.1 (by omega)
/-- the suspects of one layer -/
theorem susp_layer (E : EnvOk n hd fm rp rq (nbC n hd fm rp rq)) (G : RfG nd (gC n hd fm rp rq)) (hr : ruOk n hd fm rp rq) {nw bf su : Nat → Int32} (L : Nat) (hbf : L25 bf) (hsu : L25 su) (hcB : dcL n hd fm rp rq L (SPm bf) (SPm nw) (SPm bf)) (h0 : ∀ w, 2 ≤ w → w < 7 → rkN (nbC n hd fm rp rq) w = L → su w = nI 0) :
    L25 (fsF n hd fm rp rq nd nw bf L 126 true su) ∧ (∀ w, ¬ (2 ≤ w ∧ w < 7 ∧ rkN (nbC n hd fm rp rq) w = L ∧ nbC n hd fm rp rq w w = true) → fsF n hd fm rp rq nd nw bf L 126 true su w = su w) ∧ subL n hd fm rp rq L (SPm bf) (fsF n hd fm rp rq nd nw bf L 126 true su) ∧ dcL n hd fm rp rq L (SPm bf) (SPm nw) (SPm (fsF n hd fm rp rq nd nw bf L 126 true su)) ∧ ∀ X, dcL n hd fm rp rq L (SPm bf) (SPm nw) X → subL n hd fm rp rq L X (fsF n hd fm rp rq nd nw bf L 126 true su) := by
  have keep := fsF_pres (n := n) (hd := hd) (fm := fm) (rp := rp) (rq := rq) (nd := nd) (nw := nw) (bf := bf) L (fun f => L25 f ∧ ∀ w, ¬ (2 ≤ w ∧ w < 7 ∧ layM nd w = L ∧ bt (nd w) w = true) → f w = su w) (fun f hf => by
    have hk := soF_keep (nd := nd) hr (nw := nw) hbf L n 0 f false (by omega) hf.1
    exact ⟨hk.1, fun w hw => (hk.2.1 w hw).trans (hf.2 w hw)⟩) 126 true su ⟨hsu, fun _ _ => rfl⟩
  have z : ∀ X, subL n hd fm rp rq L X su := fun X w a b c i hi q => by
    unfold SPm at q
    rw [h0 w a b c, bt_nI0] at q
    cases q
  have sub : ∀ X, dcL n hd fm rp rq L (SPm bf) (SPm nw) X → subL n hd fm rp rq L (SPm bf) (fsF n hd fm rp rq nd nw bf L 126 true su) ∧ subL n hd fm rp rq L X (fsF n hd fm rp rq nd nw bf L 126 true su) := fun X hX =>
    fsF_pres (n := n) (hd := hd) (fm := fm) (rp := rp) (rq := rq) (nd := nd) (nw := nw) (bf := bf) L (fun f => subL n hd fm rp rq L (SPm bf) f ∧ subL n hd fm rp rq L X f) (fun f hf => soF_sub E G hr hcB hX n 0 f false (by omega) hf.1 hf.2) 126 true su ⟨z _, z _⟩
  refine ⟨keep.1, fun w hw => keep.2 w (fun q => hw ⟨q.1, q.2.1, by rw [← layM_rk G q.2.1]; exact q.2.2.1, by rw [nbC_lt q.2.1 q.2.1, ← G.1 _ _ q.2.1 q.2.1]; exact q.2.2.2⟩), (sub _ hcB).1, fun k hk hrk hrec i hi d => ?_, fun X hX => (sub X hX).2⟩
  have hri := hr.2 k hk
  refine fsF_closed (nd := nd) hr hbf L 126 su hsu (Nat.lt_succ_of_le (muF_le su)) k hk (by rw [layM_rk G hri.2.1]; exact hrk) (by rw [G.1 _ _ hri.2.1 hri.2.1, ← nbC_lt hri.2.1 hri.2.1]; exact hrec) i hi (sus_back G hri.2.1 hri.2.2.2.1 hri.2.2.2.2 hi d)
theorem toF_at {su : Nat → Int32} {L : Nat} : ∀ (k v : Nat) (nw : Nat → Int32) (r : Nat), toF nd su L k v nw r = if v ≤ r ∧ r < v + k ∧ layM nd r = L then nw r &&& (su r ^^^ (-1)) else nw r := by
  intro k
  induction k with
  | zero => intro v nw r; rw [toF, if_neg (by omega)]
  | succ k ih =>
    intro v nw r
    rw [toF, ih]
    by_cases e : r = v
    · subst e
      have h1 : ¬ (r + 1 ≤ r ∧ r < r + 1 + k ∧ layM nd r = L) := by omega
      rw [if_neg h1]
      by_cases hL : layM nd r = L
      · rw [if_pos hL, if_pos (⟨Nat.le_refl _, by omega, hL⟩ : r ≤ r ∧ r < r + (k + 1) ∧ layM nd r = L)]
        unfold upd
        rw [if_pos rfl]
      · rw [if_neg hL, if_neg (fun q => hL q.2.2)]
    · have hX : (if layM nd v = L then upd nw v (nw v &&& (su v ^^^ (-1))) else nw) r = nw r := by
        split
        · unfold upd; rw [if_neg e]
        · rfl
      rw [hX]
      have hc : (v + 1 ≤ r ∧ r < v + 1 + k ∧ layM nd r = L) ↔ (v ≤ r ∧ r < v + (k + 1) ∧ layM nd r = L) := by
        constructor
        · rintro ⟨a, b, c⟩; exact ⟨by omega, by omega, c⟩
        · rintro ⟨a, b, c⟩; exact ⟨by omega, by omega, c⟩
      simp only [hc]
end CM

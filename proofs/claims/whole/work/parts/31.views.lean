/-! THE VIEWS: what the keeper's filling makes, and what the reference's making makes, is what the rules make of the facts -/
def SPm (nw : Nat → Int32) (r i : Nat) : Prop := bt (nw r) i = true
def L25 (nw : Nat → Int32) : Prop := ∀ r, r < 7 → lt25 (nw r)
theorem bt_nI0 (i : Nat) : bt (nI 0) i = false := b_0 i
theorem giv_bits {f p q : Nat} {nw : Nat → Int32} (hf : f ≤ 4) {i : Nat} (hi : i < 25) : bt (givM f (nw p) (nw q)) i = true ↔ gvP f p q (SPm nw) i := by
  unfold givM gvP SPm
  rcases (show f = 0 ∨ f = 1 ∨ f = 2 ∨ f = 3 ∨ f = 4 by omega) with e | e | e | e | e <;> subst e
  · simp
  · simp [bt_turn, hi]
  · simp [bt_join, hi, anyN_iff]
  · simp [b_and]
  · rw [if_neg (by decide), if_neg (by decide), if_neg (by decide), if_neg (by decide), b_and, bt_not _ (by omega)]
    simp
theorem giv_lt {f p q : Nat} {nw : Nat → Int32} (hp : lt25 (nw p)) : lt25 (givM f (nw p) (nw q)) := by
  unfold givM
  intro i hi
  split
  · exact hp i hi
  · split
    · rw [bt_turn, decide_eq_false (by omega), Bool.false_and]
    · split
      · rw [bt_join, decide_eq_false (by omega), Bool.false_and]
      · split
        · rw [b_and, hp i hi, Bool.false_and]
        · rw [b_and, hp i hi, Bool.false_and]
/-- what is found new: x without y -/
theorem new_bits {x y : Int32} {i : Nat} (hi : i < 32) : bt (x &&& (y ^^^ (-1))) i = (bt x i && !bt y i) := by rw [b_and, bt_not y hi]
theorem new_grew {x y : Int32} (hx : lt25 x) : grew y (y ||| (x &&& (y ^^^ (-1)))) :=
  ⟨fun i h => by rw [b_or, h, Bool.true_or], fun i h => by rw [b_or, b_and, hx i h, Bool.false_and, Bool.or_false]⟩
theorem new_0 {x y : Int32} (h : x &&& (y ^^^ (-1)) = 0) : y ||| (x &&& (y ^^^ (-1))) = y := by
  rw [h]
  apply b_ext
  intro i _
  rw [b_or, b_0, Bool.or_false]
theorem new_sub {x y : Int32} (h : x &&& (y ^^^ (-1)) = 0) {i : Nat} (hi : i < 32) (hx : bt x i = true) : bt y i = true := by
  have e := new_bits (x := x) (y := y) hi
  rw [h, b_0, hx, Bool.true_and] at e
  cases q : bt y i with
  | true => rfl
  | false => rw [q] at e; cases e
theorem new_ne {x y : Int32} (h : ¬ x &&& (y ^^^ (-1)) = 0) : ¬ (y ||| (x &&& (y ^^^ (-1)))) = y := by
  intro e
  refine h (b_ext fun i hi => ?_)
  rw [b_0]
  cases q : bt (x &&& (y ^^^ (-1))) i with
  | false => rfl
  | true =>
    have e2 := congrArg (fun z => bt z i) e
    simp only [b_or, q, Bool.or_true] at e2
    rw [new_bits hi, ← e2] at q
    simp at q
theorem upd_id {f : Nat → Int32} {w : Nat} {m : Int32} (h : m = f w) : upd f w m = f := by
  funext j
  unfold upd
  split
  · next e => rw [e, h]
  · rfl
theorem upd_L25 {f : Nat → Int32} {w : Nat} {m : Int32} (h : L25 f) (hm : lt25 m) : L25 (upd f w m) := by
  intro r hr
  unfold upd
  split
  · exact hm
  · exact h r hr
section VW
variable {n : Nat} {hd fm rp rq : Nat → Nat} {nd : Nat → Int32}
/-- one pass of filling: what stays -/
theorem foF_keep (hr : ruOk n hd fm rp rq) (L : Nat) : ∀ (k i : Nat) (nw : Nat → Int32) (more : Bool), i + k ≤ n → L25 nw → L25 (foF hd fm rp rq nd L k i nw more).1 ∧ (∀ w, ¬ (2 ≤ w ∧ w < 7 ∧ layM nd w = L ∧ bt (nd w) w = true) → (foF hd fm rp rq nd L k i nw more).1 w = nw w) ∧ muF (foF hd fm rp rq nd L k i nw more).1 ≤ muF nw ∧ ((foF hd fm rp rq nd L k i nw more).2 = true → more = true ∨ muF (foF hd fm rp rq nd L k i nw more).1 < muF nw) := by
  intro k
  induction k with
  | zero => intro i nw more _ h; exact ⟨h, fun _ _ => rfl, Nat.le_refl _, fun h => Or.inl h⟩
  | succ k ih =>
    intro i nw more hi h
    have hri := hr.2 i (by omega)
    rw [foF]
    split
    · next hL =>
      have hg := new_grew (y := nw (hd i)) (giv_lt (f := fm i) (q := rq i) (h (rp i) (by omega)))
      have hl : L25 (upd nw (hd i) (nw (hd i) ||| (givM (fm i) (nw (rp i)) (nw (rq i)) &&& (nw (hd i) ^^^ (-1))))) := upd_L25 h (fun j hj => (hg.2 j hj).trans (h (hd i) (by omega) j hj))
      obtain ⟨a1, a2, a3, a4⟩ := ih (i + 1) _ (more || !decide (givM (fm i) (nw (rp i)) (nw (rq i)) &&& (nw (hd i) ^^^ (-1)) = 0)) (by omega) hl
      have hu := muF_upd (f := nw) hri.1 hri.2.1 hg.le
      refine ⟨a1, fun w hw => ?_, Nat.le_trans a3 hu.1, fun q => ?_⟩
      · rw [a2 w hw]
        unfold upd
        rw [if_neg (fun e => hw (by rw [e]; exact ⟨hri.1, hri.2.1, hL⟩))]
      · rcases a4 q with q | q
        · rw [Bool.or_eq_true] at q
          rcases q with q | q
          · exact Or.inl q
          · have hne : ¬ givM (fm i) (nw (rp i)) (nw (rq i)) &&& (nw (hd i) ^^^ (-1)) = 0 := by
              intro e
              rw [e] at q
              simp at q
            exact Or.inr (Nat.lt_of_le_of_lt a3 (hu.2 (hg.lt (new_ne hne))))
        · exact Or.inr (Nat.lt_of_lt_of_le q hu.1)
    · exact ih (i + 1) nw more (by omega) h
/-- one pass of filling that finds nothing -/
theorem foF_none (hr : ruOk n hd fm rp rq) (L : Nat) : ∀ (k i : Nat) (nw : Nat → Int32) (more : Bool), i + k ≤ n → (foF hd fm rp rq nd L k i nw more).2 = false → more = false ∧ (foF hd fm rp rq nd L k i nw more).1 = nw ∧ ∀ j, i ≤ j → j < i + k → layM nd (hd j) = L → bt (nd (hd j)) (hd j) = true → ∀ b, b < 25 → gvP (fm j) (rp j) (rq j) (SPm nw) b → SPm nw (hd j) b := by
  intro k
  induction k with
  | zero => intro i nw more _ h; exact ⟨h, rfl, fun j h1 h2 => absurd h2 (by omega)⟩
  | succ k ih =>
    intro i nw more hi h
    have hri := hr.2 i (by omega)
    rw [foF] at h ⊢
    split at h
    · next hL =>
      rw [if_pos hL]
      obtain ⟨b1, b2, b3⟩ := ih (i + 1) _ _ (by omega) h
      rw [Bool.or_eq_false_iff] at b1
      have h0 : givM (fm i) (nw (rp i)) (nw (rq i)) &&& (nw (hd i) ^^^ (-1)) = 0 := by simpa using b1.2
      have e := upd_id (f := nw) (w := hd i) (new_0 h0)
      rw [e] at b2 b3 ⊢
      refine ⟨b1.1, b2, fun j h1 h2 hj hc b hb g => ?_⟩
      by_cases ej : j = i
      · subst ej
        exact new_sub h0 (by omega) ((giv_bits hri.2.2.1 hb).mpr g)
      · exact b3 j (by omega) (by omega) hj hc b hb g
    · next hL =>
      rw [if_neg hL]
      obtain ⟨b1, b2, b3⟩ := ih (i + 1) _ _ (by omega) h
      refine ⟨b1, b2, fun j h1 h2 hj hc b hb g => ?_⟩
      by_cases ej : j = i
      · subst ej; exact absurd ⟨hj, hc⟩ hL
      · exact b3 j (by omega) (by omega) hj hc b hb g
def clAt (n : Nat) (hd fm rp rq : Nat → Nat) (nb : Nat → Nat → Bool) (v : Nat) (X : Nat → Nat → Prop) : Prop := ∀ k, k < n → togP nb v (hd k) → ∀ i, i < 25 → gvP (fm k) (rp k) (rq k) X i → X (hd k) i
/-- one pass of filling stays within every closed state -/
theorem foF_sub (E : EnvOk n hd fm rp rq (nbC n hd fm rp rq)) (G : RfG nd (gC n hd fm rp rq)) (hr : ruOk n hd fm rp rq) {v : Nat} {X : Nat → Nat → Prop} (hc : clAt n hd fm rp rq (nbC n hd fm rp rq) v X) : ∀ (k i : Nat) (nw : Nat → Int32) (more : Bool), i + k ≤ n → SubAt (nbC n hd fm rp rq) v X (SPm nw) → SubAt (nbC n hd fm rp rq) v X (SPm (foF hd fm rp rq nd (rkN (nbC n hd fm rp rq) v) k i nw more).1) := by
  intro k
  induction k with
  | zero => intro i nw more _ h; exact h
  | succ k ih =>
    intro i nw more hi h
    have hri := hr.2 i (by omega)
    rw [foF]
    split
    · next hL =>
      have hL := hL.1
      rw [layM_rk G hri.2.1] at hL
      refine ih (i + 1) _ _ (by omega) ⟨fun w hw b hb q => ?_, fun w hw ht b hb => ?_⟩
      · unfold SPm upd at q
        by_cases e : w = hd i
        · rw [if_pos e, b_or, Bool.or_eq_true] at q
          rcases q with q | q
          · rw [e]; exact h.1 (hd i) (e ▸ hw) b hb q
          · rw [new_bits (by omega), Bool.and_eq_true] at q
            rw [e]
            exact h.give E hc (by omega : i < n) (e ▸ hw) hb ((giv_bits hri.2.2.1 hb).mp q.1)
        · rw [if_neg e] at q
          exact h.1 w hw b hb q
      · have e : ¬ w = hd i := fun e => by
          have := rkN_lt E hw (fun q => ht (Or.inr ⟨hw, q⟩))
          rw [e] at this
          omega
        unfold SPm upd
        rw [if_neg e]
        exact h.2 w hw ht b hb
    · exact ih (i + 1) nw more (by omega) h
theorem flF_pres (L : Nat) (P : (Nat → Int32) → Prop) (hP : ∀ nw, P nw → P (foF hd fm rp rq nd L n 0 nw false).1) : ∀ (k : Nat) (more : Bool) (nw : Nat → Int32), P nw → P (flF n hd fm rp rq nd L k more nw) := by
  intro k
  induction k with
  | zero => intro more nw h; exact h
  | succ k ih =>
    intro more nw h
    rw [flF]
    split
    · exact ih _ _ (hP nw h)
    · exact h
theorem flF_false (L k : Nat) (nw : Nat → Int32) : flF n hd fm rp rq nd L k false nw = nw := by cases k <;> rfl
def clL (n : Nat) (hd fm rp rq : Nat → Nat) (nd : Nat → Int32) (L : Nat) (nw : Nat → Int32) : Prop := ∀ j, j < n → layM nd (hd j) = L → bt (nd (hd j)) (hd j) = true → ∀ b, b < 25 → gvP (fm j) (rp j) (rq j) (SPm nw) b → SPm nw (hd j) b
theorem flF_closed (hr : ruOk n hd fm rp rq) (L : Nat) : ∀ (k : Nat) (nw : Nat → Int32), L25 nw → muF nw < k → clL n hd fm rp rq nd L (flF n hd fm rp rq nd L k true nw) := by
  intro k
  induction k with
  | zero => intro nw _ h; exact absurd h (Nat.not_lt_zero _)
  | succ k ih =>
    intro nw h hm
    rw [flF, if_pos rfl]
    have hk := foF_keep (nd := nd) hr L n 0 nw false (by omega) h
    cases q : (foF hd fm rp rq nd L n 0 nw false).2 with
    | false =>
      have hn := foF_none (nd := nd) hr L n 0 nw false (by omega) q
      rw [flF_false, hn.2.1]
      exact fun j hj hL hc b hb g => hn.2.2 j (Nat.zero_le _) (by omega) hL hc b hb g
    | true =>
      rcases hk.2.2.2 q with z | z
      · cases z
      · exact ih _ hk.1 (by omega)
/-- the views of one layer that lead back to themselves, filled -/
theorem fill_layer (E : EnvOk n hd fm rp rq (nbC n hd fm rp rq)) (G : RfG nd (gC n hd fm rp rq)) (hr : ruOk n hd fm rp rq) (L : Nat) (nw : Nat → Int32) (h : L25 nw)
    (start : ∀ v, 2 ≤ v → v < 7 → rkN (nbC n hd fm rp rq) v = L → nbC n hd fm rp rq v v = true → ∀ X, clAt n hd fm rp rq (nbC n hd fm rp rq) v X → (∀ w, nbC n hd fm rp rq v w = true → ¬ togP (nbC n hd fm rp rq) v w → ∀ i, i < 25 → (X w i ↔ SPm nw w i)) → ∀ w, togP (nbC n hd fm rp rq) v w → ∀ i, i < 25 → SPm nw w i → X w i) :
    L25 (flF n hd fm rp rq nd L 126 true nw) ∧ (∀ w, ¬ (2 ≤ w ∧ w < 7 ∧ rkN (nbC n hd fm rp rq) w = L ∧ nbC n hd fm rp rq w w = true) → flF n hd fm rp rq nd L 126 true nw w = nw w) ∧ ∀ v, 2 ≤ v → v < 7 → rkN (nbC n hd fm rp rq) v = L → nbC n hd fm rp rq v v = true → MdAt n hd fm rp rq (nbC n hd fm rp rq) v (SPm (flF n hd fm rp rq nd L 126 true nw)) := by
  have keep : L25 (flF n hd fm rp rq nd L 126 true nw) ∧ ∀ w, ¬ (2 ≤ w ∧ w < 7 ∧ layM nd w = L ∧ bt (nd w) w = true) → flF n hd fm rp rq nd L 126 true nw w = nw w :=
    flF_pres L (fun f => L25 f ∧ ∀ w, ¬ (2 ≤ w ∧ w < 7 ∧ layM nd w = L ∧ bt (nd w) w = true) → f w = nw w) (fun f hf => by
      have hk := foF_keep (nd := nd) hr L n 0 f false (by omega) hf.1
      exact ⟨hk.1, fun w hw => (hk.2.1 w hw).trans (hf.2 w hw)⟩) 126 true nw ⟨h, fun _ _ => rfl⟩
  have frame : ∀ w, ¬ (2 ≤ w ∧ w < 7 ∧ rkN (nbC n hd fm rp rq) w = L ∧ nbC n hd fm rp rq w w = true) → flF n hd fm rp rq nd L 126 true nw w = nw w := fun w hw => keep.2 w (fun q => hw ⟨q.1, q.2.1, by rw [← layM_rk G q.2.1]; exact q.2.2.1, by rw [nbC_lt q.2.1 q.2.1, ← G.1 _ _ q.2.1 q.2.1]; exact q.2.2.2⟩)
  have closed := flF_closed (nd := nd) hr L 126 nw h (Nat.lt_succ_of_le (muF_le nw))
  refine ⟨keep.1, frame, fun v h2 h7 hv hrec => ⟨fun k hk ht i hi g => ?_, fun X hX hc w ht i hi hs => ?_⟩⟩
  · have hk7 := (hr.2 k hk).2.1
    refine closed k hk ?_ ?_ i hi g
    · rw [layM_rk G hk7, ← rkN_tog E ht]
      exact hv
    · rw [G.1 _ _ hk7 hk7, ← nbC_lt hk7 hk7]
      exact ht.elim (fun e => by rw [← e]; exact hrec) (fun e => E.2.2.1 _ _ _ e.2 e.1)
  · have hX' : ∀ w, nbC n hd fm rp rq v w = true → ¬ togP (nbC n hd fm rp rq) v w → ∀ i, i < 25 → (X w i ↔ SPm nw w i) := by
      intro w hw hn i hi
      have := rkN_lt E hw (fun q => hn (Or.inr ⟨hw, q⟩))
      rw [hX w hw hn i hi]
      unfold SPm
      rw [frame w (fun q => absurd q.2.2.1 (by omega))]
    have s0 : SubAt (nbC n hd fm rp rq) v X (SPm nw) := ⟨start v h2 h7 hv hrec X hc hX', hX'⟩
    have s1 := flF_pres (n := n) (hd := hd) (fm := fm) (rp := rp) (rq := rq) (nd := nd) (rkN (nbC n hd fm rp rq) v) (fun f => SubAt (nbC n hd fm rp rq) v X (SPm f)) (fun f hf => foF_sub E G hr hc n 0 f false (by omega) hf) 126 true nw s0
    rw [hv] at s1
    exact s1.1 w ht i hi hs
theorem rkN_in (nb : Nat → Nat → Bool) {v : Nat} (hv : v < 7) : 1 ≤ rkN nb v ∧ rkN nb v ≤ 7 := by
  have a0 := rkF_01 nb v 0; have a1 := rkF_01 nb v 1; have a2 := rkF_01 nb v 2; have a3 := rkF_01 nb v 3; have a4 := rkF_01 nb v 4; have a5 := rkF_01 nb v 5; have a6 := rkF_01 nb v 6
  have b1 : rkF nb v v = 1 := by unfold rkF; rw [if_pos (Or.inr rfl)]
  unfold rkN
  refine ⟨?_, by omega⟩
  rcases (show v = 0 ∨ v = 1 ∨ v = 2 ∨ v = 3 ∨ v = 4 ∨ v = 5 ∨ v = 6 by omega) with q | q | q | q | q | q | q <;> (rw [q] at b1 ⊢; omega)
theorem zeF_at : ∀ (k v : Nat) (nw : Nat → Int32) (r : Nat), zeF k v nw r = if v ≤ r ∧ r < v + k then nI 0 else nw r := by
  intro k
  induction k with
  | zero => intro v nw r; rw [zeF, if_neg (by omega)]
  | succ k ih =>
    intro v nw r
    rw [zeF, ih]
    unfold upd
    by_cases e : r = v
    · subst e
      rw [if_neg (by omega), if_pos rfl, if_pos (by omega)]
    · by_cases h : v + 1 ≤ r ∧ r < v + 1 + k
      · rw [if_pos h, if_pos (by omega)]
      · rw [if_neg h, if_neg e, if_neg (by omega)]
theorem lt25_nI0 : lt25 (nI 0) := fun i _ => b_0 i
end VW

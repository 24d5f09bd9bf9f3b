/-! a commit's layers one after another; the reference's suspects; both the same -/
section CN
variable {n : Nat} {hd fm rp rq : Nat → Nat} {nd : Nat → Int32} {ne : Nat → Bool}
/-- where a commit stands ahead of layer L: bf the state before, f0 the new facts -/
def CIn (n : Nat) (hd fm rp rq : Nat → Nat) (bf f0 : Nat → Int32) (L : Nat) (ct nw su : Nat → Int32) : Prop :=
  (L25 nw ∧ L25 su) ∧ (∀ r, r < 2 → nw r = f0 r) ∧ (∀ v, 2 ≤ v → v < 7 → rkN (nbC n hd fm rp rq) v < L → MdAt n hd fm rp rq (nbC n hd fm rp rq) v (SPm nw)) ∧ (∀ v, 2 ≤ v → v < 7 → L ≤ rkN (nbC n hd fm rp rq) v → nw v = bf v) ∧
  (∀ w, w < 7 → w < 2 ∨ L ≤ rkN (nbC n hd fm rp rq) w ∨ ¬ nbC n hd fm rp rq w w = true → su w = nI 0) ∧
  (∀ l, l < L → subL n hd fm rp rq l (SPm bf) su) ∧ (∀ l, l < L → dcL n hd fm rp rq l (SPm bf) (SPm nw) (SPm su)) ∧
  (∀ X, (∀ l, l < L → dcL n hd fm rp rq l (SPm bf) (SPm nw) X) → ∀ l, l < L → subL n hd fm rp rq l X su) ∧
  (∀ v, 2 ≤ v → v < 7 → rkN (nbC n hd fm rp rq) v < L → ¬ nbC n hd fm rp rq v v = true → ∀ b, b < 25 → ct (25 * v + b) = nI (crN hd fm rp rq nw v b n 0)) ∧
  ∀ v, 2 ≤ v → v < 7 → L ≤ rkN (nbC n hd fm rp rq) v → ¬ nbC n hd fm rp rq v v = true → ∀ b, b < 25 → ct (25 * v + b) = nI (crN hd fm rp rq bf v b n 0)
theorem and_n0 (x : Int32) : x &&& (nI 0 ^^^ (-1)) = x := by
  apply b_ext
  intro i hi
  rw [b_and, bt_not _ hi, bt_nI0, Bool.not_false, Bool.and_true]
theorem dcL_congr (E : EnvOk n hd fm rp rq (nbC n hd fm rp rq)) {l : Nat} {B S S' D D' : Nat → Nat → Prop} (hS : ∀ r, r < 7 → (r < 2 ∨ rkN (nbC n hd fm rp rq) r < l) → ∀ j, j < 25 → (S r j ↔ S' r j)) (hD : ∀ r, 2 ≤ r → r < 7 → rkN (nbC n hd fm rp rq) r = l → ∀ j, j < 25 → (D r j ↔ D' r j)) (h : dcL n hd fm rp rq l B S D) : dcL n hd fm rp rq l B S' D' := by
  intro k hk hrk hrec i hi d
  have hk7 := E.2.2.2.2.2 k hk
  refine (hD _ hk7.2.1 hk7.2.2.1 hrk i hi).mp (h k hk hrk hrec i hi (dbP_rule E hk hi (fun r a b j hj => ?_) (fun r a b j hj z => ?_) d))
  · have lt := rkN_lt E a b
    exact (hS r (E.2.2.2.2.1 _ _ a).2.2 (Or.inr (by omega)) j hj).symm
  · have e := rkN_tog E (Or.inr ⟨a, b⟩)
    have r7 := E.2.2.2.2.1 _ _ b
    exact (hD r r7.1 r7.2.1 (by omega) j hj).mpr z
theorem subL_congr {l : Nat} {X : Nat → Nat → Prop} {su su' : Nat → Int32} (h : ∀ w, 2 ≤ w → w < 7 → rkN (nbC n hd fm rp rq) w = l → su' w = su w) (q : subL n hd fm rp rq l X su) : subL n hd fm rp rq l X su' := by
  intro w a b c i hi z
  unfold SPm at z
  rw [h w a b c] at z
  exact q w a b c i hi z
/-- one layer of a commit -/
theorem cl_step (E : EnvOk n hd fm rp rq (nbC n hd fm rp rq)) (G : RfG nd (gC n hd fm rp rq)) (hr : ruOk n hd fm rp rq) {bf f0 : Nat → Int32} (hbf : L25 bf) (hB : ∀ v, 2 ≤ v → v < 7 → MdAt n hd fm rp rq (nbC n hd fm rp rq) v (SPm bf)) {L : Nat} {ct nw su : Nat → Int32} (C : CIn n hd fm rp rq bf f0 L ct nw su) :
    CIn n hd fm rp rq bf f0 (L + 1) (rcF hd fm rp rq nd bf L n 0 ct nw).1 (flF n hd fm rp rq nd L 126 true (toF nd (fsF n hd fm rp rq nd (rcF hd fm rp rq nd bf L n 0 ct nw).2 bf L 126 true su) L 5 2 (rcF hd fm rp rq nd bf L n 0 ct nw).2)) (fsF n hd fm rp rq nd (rcF hd fm rp rq nd bf L n 0 ct nw).2 bf L 126 true su) := by
  obtain ⟨⟨c1, c1'⟩, c2, c3, c4, c5, c6, c7, c8, c9, c10⟩ := C
  obtain ⟨k1, k2, k3, k4, k5⟩ := count_layer (nd := nd) E G hr (L := L) (bf := bf) (ct := ct) c1 hB (fun v a b c d => c10 v a b (by omega) d) (fun v a b c => c4 v a b (by omega))
  generalize hn1 : (rcF hd fm rp rq nd bf L n 0 ct nw).2 = n1 at k1 k2 k4 k5 ⊢
  generalize hct : (rcF hd fm rp rq nd bf L n 0 ct nw).1 = ct1 at k3 k4 ⊢
  -- before, the rules of this layer gave nothing that was not there
  have hcB : dcL n hd fm rp rq L (SPm bf) (SPm n1) (SPm bf) := fun k hk _ _ i hi d => (hB (hd k) (hr.2 k hk).1 (hr.2 k hk).2.1).1 k hk (Or.inl rfl) i hi (dbP_gives d)
  obtain ⟨s1, s2, s3, s4, s5⟩ := susp_layer E G hr (nw := n1) L hbf c1' hcB (fun w a b c => c5 w b (Or.inr (Or.inl (by omega))))
  generalize hfs : fsF n hd fm rp rq nd n1 bf L 126 true su = fs at s1 s2 s3 s4 s5 ⊢
  have t0 : ∀ r, ¬ (2 ≤ r ∧ r < 7 ∧ rkN (nbC n hd fm rp rq) r = L ∧ nbC n hd fm rp rq r r = true) → toF nd fs L 5 2 n1 r = n1 r := fun r h => by
    rw [toF_at]
    split
    · next q =>
      have r7 : r < 7 := by omega
      have rk : rkN (nbC n hd fm rp rq) r = L := by rw [← layM_rk G r7]; exact q.2.2
      rw [s2 r h, c5 r r7 (Or.inr (Or.inl (by omega))), and_n0]
    · rfl
  have t1 : ∀ r, 2 ≤ r → r < 7 → rkN (nbC n hd fm rp rq) r = L → nbC n hd fm rp rq r r = true → toF nd fs L 5 2 n1 r = nw r &&& (fs r ^^^ (-1)) := fun r a b c d => by
    rw [toF_at, if_pos ⟨a, by omega, by rw [layM_rk G b]; exact c⟩, k2 r (fun q => q.2.2.2 d)]
  have tl : L25 (toF nd fs L 5 2 n1) := by
    intro r hr7
    by_cases h : 2 ≤ r ∧ r < 7 ∧ rkN (nbC n hd fm rp rq) r = L ∧ nbC n hd fm rp rq r r = true
    · rw [t1 r h.1 h.2.1 h.2.2.1 h.2.2.2]; exact lt25_and _ (c1 r hr7)
    · rw [t0 r h]; exact k1 r hr7
  obtain ⟨a1, a2, a3⟩ := fill_layer E G hr L (toF nd fs L 5 2 n1) tl (fun v h2 h7 hv hrec X hc hX w ht i hi q => by
    have hw : 2 ≤ w ∧ w < 7 := ht.elim (fun e => by omega) (fun e => ⟨(E.2.2.2.2.1 _ _ e.2).1, (E.2.2.2.2.1 _ _ e.2).2.1⟩)
    have hwr : rkN (nbC n hd fm rp rq) w = L := by rw [← rkN_tog E ht]; exact hv
    have hww : nbC n hd fm rp rq w w = true := ht.elim (fun e => by rw [← e]; exact hrec) (fun e => E.2.2.1 _ _ _ e.2 e.1)
    unfold SPm at q
    rw [t1 w hw.1 hw.2 hwr hww, new_bits (by omega), Bool.and_eq_true, c4 w hw.1 hw.2 (by omega), Bool.not_eq_true'] at q
    refine keeps E (B := SPm bf) (S := SPm n1) (D := SPm fs) (hB v h2 h7) hrec (fun u tu j hj z => ?_) (fun k hk tk j hj d => ?_) (fun u hu hn j hj => ?_) hc w ht i hi q.1 (fun z => ?_)
    · have hu : 2 ≤ u ∧ u < 7 := tu.elim (fun e => by omega) (fun e => ⟨(E.2.2.2.2.1 _ _ e.2).1, (E.2.2.2.2.1 _ _ e.2).2.1⟩)
      exact s3 u hu.1 hu.2 (by rw [← rkN_tog E tu]; exact hv) j hj z
    · exact s4 k hk (by rw [← rkN_tog E tk]; exact hv) (tk.elim (fun e => by rw [← e]; exact hrec) (fun e => E.2.2.1 _ _ _ e.2 e.1)) j hj d
    · have lt := rkN_lt E hu (fun z => hn (Or.inr ⟨hu, z⟩))
      rw [hX u hu hn j hj]
      unfold SPm
      rw [t0 u (fun q => absurd q.2.2.1 (by omega))]
    · unfold SPm at z; rw [q.2] at z; cases z)
  generalize hfl : flF n hd fm rp rq nd L 126 true (toF nd fs L 5 2 n1) = fl at a1 a2 a3 ⊢
  have flE : ∀ r, ¬ (2 ≤ r ∧ r < 7 ∧ rkN (nbC n hd fm rp rq) r = L ∧ nbC n hd fm rp rq r r = true) → fl r = n1 r := fun r h => (a2 r h).trans (t0 r h)
  have nwE : ∀ r, ¬ (2 ≤ r ∧ r < 7 ∧ rkN (nbC n hd fm rp rq) r = L) → fl r = nw r := fun r h => (flE r (fun q => h ⟨q.1, q.2.1, q.2.2.1⟩)).trans (k2 r (fun q => h ⟨q.1, q.2.1, q.2.2.1⟩))
  have suE : ∀ w, 2 ≤ w → w < 7 → ∀ l, l < L → rkN (nbC n hd fm rp rq) w = l → fs w = su w := fun w a b l hl c => s2 w (by omega)
  have hS : ∀ l, l ≤ L → ∀ r, r < 7 → (r < 2 ∨ rkN (nbC n hd fm rp rq) r < l) → ∀ j, j < 25 → (SPm nw r j ↔ SPm fl r j) := fun l hl r hr7 h j hj => by
    unfold SPm
    rw [nwE r (by omega)]
  have hS1 : ∀ r, r < 7 → (r < 2 ∨ rkN (nbC n hd fm rp rq) r < L) → ∀ j, j < 25 → (SPm n1 r j ↔ SPm fl r j) := fun r hr7 h j hj => by
    unfold SPm
    rw [flE r (fun q => by omega)]
  refine ⟨⟨a1, s1⟩, fun r h => (nwE r (by omega)).trans (c2 r h), fun v h2 h7 hv => ?_, fun v h2 h7 hv => (nwE v (by omega)).trans (c4 v h2 h7 (by omega)), fun w h7 h => ?_, fun l hl => ?_, fun l hl => ?_, fun X hX l hl => ?_, fun v h2 h7 hv hn b hb => ?_, fun v h2 h7 hv hn b hb => ?_⟩
  · by_cases e : rkN (nbC n hd fm rp rq) v = L
    · by_cases hrec : nbC n hd fm rp rq v v = true
      · exact a3 v h2 h7 e hrec
      · refine (k5 v h2 h7 e hrec).congr E (fun w hw i hi => ?_)
        unfold SPm
        rw [flE w (fun q => ?_)]
        rcases hw with z | z
        · subst z; exact hrec q.2.2.2
        · have := low_nonrec E hrec z
          omega
    · refine (c3 v h2 h7 (by omega)).congr E (fun w hw i hi => ?_)
      have : rkN (nbC n hd fm rp rq) w ≤ rkN (nbC n hd fm rp rq) v := hw.elim (fun q => by rw [q]; exact Nat.le_refl _) (fun q => rkN_le E q)
      unfold SPm
      rw [nwE w (by omega)]
  · rw [s2 w (fun q => h.elim (fun z => by omega) (fun z => z.elim (fun z => by omega) (fun z => z q.2.2.2)))]
    exact c5 w h7 (h.elim Or.inl (fun z => Or.inr (z.elim (fun z => Or.inl (by omega)) Or.inr)))
  · by_cases e : l = L
    · rw [e]; exact s3
    · exact subL_congr (fun w a b c => suE w a b l (by omega) c) (c6 l (by omega))
  · by_cases e : l = L
    · rw [e]; exact dcL_congr E hS1 (fun _ _ _ _ _ _ => Iff.rfl) s4
    · refine dcL_congr E (hS l (by omega)) (fun w a b c j hj => ?_) (c7 l (by omega))
      unfold SPm
      rw [suE w a b l (by omega) c]
  · by_cases e : l = L
    · rw [e]
      exact s5 X (dcL_congr E (fun r a b j hj => (hS1 r a b j hj).symm) (fun _ _ _ _ _ _ => Iff.rfl) (hX L (by omega)))
    · exact subL_congr (fun w a b c => suE w a b l (by omega) c) (c8 X (fun l hl => dcL_congr E (fun r a b j hj => (hS l (by omega) r a b j hj).symm) (fun _ _ _ _ _ _ => Iff.rfl) (hX l (by omega))) l (by omega))
  · by_cases e : rkN (nbC n hd fm rp rq) v = L
    · rw [k4 v h2 h7 e hn b hb, cr_low E hn (fun r r7 l => (flE r (fun q => by omega)).symm)]
    · rw [k3 v (fun q => e q.2.2.1) b hb, c9 v h2 h7 (by omega) hn b hb, cr_low E hn (fun r r7 l => (nwE r (fun q => by omega)).symm)]
  · rw [k3 v (fun q => by omega) b hb]
    exact c10 v h2 h7 (by omega) hn b hb
theorem clF_ok (E : EnvOk n hd fm rp rq (nbC n hd fm rp rq)) (G : RfG nd (gC n hd fm rp rq)) (hr : ruOk n hd fm rp rq) {bf f0 : Nat → Int32} (hbf : L25 bf) (hB : ∀ v, 2 ≤ v → v < 7 → MdAt n hd fm rp rq (nbC n hd fm rp rq) v (SPm bf)) : ∀ (k L : Nat) (ct nw su : Nat → Int32), CIn n hd fm rp rq bf f0 L ct nw su → CIn n hd fm rp rq bf f0 (L + k) (clF n hd fm rp rq nd bf k L ct nw su).1 (clF n hd fm rp rq nd bf k L ct nw su).2.1 (clF n hd fm rp rq nd bf k L ct nw su).2.2 := by
  intro k
  induction k with
  | zero => intro L ct nw su C; exact C
  | succ k ih =>
    intro L ct nw su C
    rw [clF, show L + (k + 1) = L + 1 + k by omega]
    exact ih (L + 1) _ _ _ (cl_step E G hr hbf hB C)
/-- ahead of the first layer -/
theorem cl_start (hr : ruOk n hd fm rp rq) {bf f ct : Nat → Int32} (hf : L25 f) (hv : ∀ v, 2 ≤ v → v < 7 → f v = bf v) (hc : ctOk n hd fm rp rq bf ct) : CIn n hd fm rp rq bf f 1 ct f (fun _ => nI 0) := by
  refine ⟨⟨hf, fun r _ => lt25_nI0⟩, fun r _ => rfl, fun v a b c => ?_, fun v a b c => hv v a b, fun w _ _ => rfl, fun l hl w a b c i hi q => ?_, fun l hl k hk hrk => ?_, fun X hX l hl w a b c => ?_, fun v a b c => ?_, fun v a b c d => hc v a b d⟩
  · have := rkN_in (nbC n hd fm rp rq) b
    omega
  · have := rkN_in (nbC n hd fm rp rq) b
    omega
  · have := rkN_in (nbC n hd fm rp rq) (hr.2 k hk).2.1
    omega
  · have := rkN_in (nbC n hd fm rp rq) b
    omega
  · have := rkN_in (nbC n hd fm rp rq) b
    omega
theorem dsF_at {sI sO : Nat → Int32} : ∀ (k v : Nat) (nw : Nat → Int32) (r : Nat), dsF sI sO k v nw r = if v ≤ r ∧ r < v + k then ((nw r ||| sI r) &&& (sO r ^^^ (-1))) else nw r := by
  intro k
  induction k with
  | zero => intro v nw r; rw [dsF, if_neg (by omega)]
  | succ k ih =>
    intro v nw r
    rw [dsF, ih]
    unfold upd
    by_cases e : r = v
    · subst e
      rw [if_neg (by omega), if_pos rfl, if_pos (by omega)]
    · by_cases h : v + 1 ≤ r ∧ r < v + 1 + k
      · rw [if_pos h, if_neg e, if_pos (by omega)]
      · rw [if_neg h, if_neg e, if_neg (by omega)]
/-- the keeper's commit -/
theorem cm_ok (E : EnvOk n hd fm rp rq (nbC n hd fm rp rq)) (G : RfG nd (gC n hd fm rp rq)) (hr : ruOk n hd fm rp rq) {nw sI sO ct : Nat → Int32} (h : L25 nw) (hI : ∀ r, r < 2 → lt25 (sI r)) (hB : ∀ v, 2 ≤ v → v < 7 → MdAt n hd fm rp rq (nbC n hd fm rp rq) v (SPm nw)) (hc : ctOk n hd fm rp rq nw ct) : CIn n hd fm rp rq nw (dsF sI sO 2 0 nw) 8 (cmC n hd fm rp rq nd nw sI sO ct) (cmW n hd fm rp rq nd nw sI sO ct) (cmS n hd fm rp rq nd nw sI sO ct) := by
  refine clF_ok E G hr h hB 7 1 ct (dsF sI sO 2 0 nw) (fun _ => nI 0) (cl_start hr (fun r hr7 => ?_) (fun v a b => ?_) hc)
  · rw [dsF_at]
    split
    · exact lt25_and _ (lt25_or (h r hr7) (hI r (by omega)))
    · exact h r hr7
  · rw [dsF_at, if_neg (by omega)]
/-- nothing gives nothing -/
theorem gv_none {f p q i : Nat} : ¬ gvP f p q (SPm (fun _ => nI 0)) i := by
  have z : ∀ r j, ¬ SPm (fun _ => nI 0) r j := fun r j h => by
    unfold SPm at h
    rw [bt_nI0] at h
    cases h
  rintro (h | h | h | h | h)
  · exact z _ _ h.2
  · exact z _ _ h.2
  · obtain ⟨_, u, _, a, _⟩ := h; exact z _ _ a
  · exact z _ _ h.2.1
  · exact z _ _ h.2.1
/-- the keeper's views and counts made anew: as a commit out of nothing -/
theorem rmM_ok (E : EnvOk n hd fm rp rq (nbC n hd fm rp rq)) (G : RfG nd (gC n hd fm rp rq)) (hr : ruOk n hd fm rp rq) {nw : Nat → Int32} (h : L25 nw) : L25 (rmM n hd fm rp rq nd nw) ∧ (∀ r, r < 2 → rmM n hd fm rp rq nd nw r = nw r) ∧ (∀ v, 2 ≤ v → v < 7 → MdAt n hd fm rp rq (nbC n hd fm rp rq) v (SPm (rmM n hd fm rp rq nd nw))) ∧ ctOk n hd fm rp rq (rmM n hd fm rp rq nd nw) (rmC n hd fm rp rq nd nw) := by
  have hB : ∀ v, 2 ≤ v → v < 7 → MdAt n hd fm rp rq (nbC n hd fm rp rq) v (SPm (fun _ => nI 0)) := fun v _ _ => ⟨fun k _ _ i _ g => absurd g gv_none, fun X _ _ w _ i _ q => by
    unfold SPm at q
    rw [bt_nI0] at q
    cases q⟩
  have hc : ctOk n hd fm rp rq (fun _ => nI 0) (fun _ => nI 0) := fun v _ _ _ b hb => by
    have z : ¬ 0 < crN hd fm rp rq (fun _ => nI 0) v b n 0 := fun q => by
      obtain ⟨k, _, _, g⟩ := (cr_gv hr hb).mp q
      exact gv_none g
    rw [show crN hd fm rp rq (fun _ => nI 0) v b n 0 = 0 by omega]
  obtain ⟨⟨c1, _⟩, c2, c3, _, _, _, _, _, c9, _⟩ := clF_ok (nd := nd) E G hr (bf := fun _ => nI 0) (f0 := zeF 5 2 nw) (fun _ _ => lt25_nI0) hB 7 1 (fun _ => nI 0) (zeF 5 2 nw) (fun _ => nI 0) (cl_start hr (fun r hr7 => by
    rw [zeF_at]
    split
    · exact lt25_nI0
    · exact h r hr7) (fun v a b => by rw [zeF_at, if_pos (by omega)]) hc)
  refine ⟨c1, fun r hr2 => ?_, fun v a b => c3 v a b ?_, fun v a b d => c9 v a b ?_ d⟩
  · have := c2 r hr2
    rw [zeF_at, if_neg (by omega)] at this
    exact this
  · have := rkN_in (nbC n hd fm rp rq) b
    omega
  · have := rkN_in (nbC n hd fm rp rq) b
    omega
/-! the reference's suspects -/
theorem lo_iff (E : EnvOk n hd fm rp rq (nbC n hd fm rp rq)) (N : neOk n hd fm rp rq ne) {nw bf db : Nat → Int32} {v r : Nat} (hv : v < 7) (hr7 : r < 7) {i : Nat} (hi : i < 25) : loM ne nw bf db v r i = true ↔ loP (nbC n hd fm rp rq) (SPm bf) (SPm nw) (SPm db) v r i := by
  unfold loM loP SPm
  rw [N r v hr7 hv, ← nbC_lt hr7 hv, tak_bits nw bf r (by omega)]
  by_cases h2 : r < 2
  · have hn : ¬ nbC n hd fm rp rq r v = true := fun q => absurd (E.2.2.2.2.1 _ _ q).1 (by omega)
    rw [if_pos h2]
    simp [hn]
  · rw [if_neg h2]
    cases nbC n hd fm rp rq r v with
    | true => simp
    | false => simp
theorem dbJ_iff {nw bf db : Nat → Int32} {v p q x y : Nat} : ∀ (k z : Nat) (sm : Bool), dbJ ne nw bf db v p q x y k z sm = true ↔ sm = true ∨ ∃ u, z ≤ u ∧ u < z + k ∧ (bt (bf p) (5 * x + u) = true ∧ bt (bf q) (5 * u + y) = true) ∧ (loM ne nw bf db v p (5 * x + u) = true ∨ loM ne nw bf db v q (5 * u + y) = true) := by
  intro k
  induction k with
  | zero => intro z sm; exact ⟨fun h => Or.inl h, fun h => h.elim id (fun ⟨u, h1, h2, _⟩ => absurd h2 (by omega))⟩
  | succ k ih =>
    intro z sm
    rw [dbJ, ih]
    simp only [Bool.or_eq_true, Bool.and_eq_true]
    constructor
    · rintro ((h | h) | ⟨u, h1, h2, h3⟩)
      · exact Or.inl h
      · exact Or.inr ⟨z, Nat.le_refl _, by omega, h⟩
      · exact Or.inr ⟨u, by omega, by omega, h3⟩
    · rintro (h | ⟨u, h1, h2, h3⟩)
      · exact Or.inl (Or.inl h)
      · by_cases e : u = z
        · subst e; exact Or.inl (Or.inr h3)
        · exact Or.inr ⟨u, by omega, by omega, h3⟩
theorem db_iff (E : EnvOk n hd fm rp rq (nbC n hd fm rp rq)) (N : neOk n hd fm rp rq ne) {nw bf db : Nat → Int32} {v f p q : Nat} (hf : f ≤ 4) (hv : v < 7) (hp : p < 7) (hq : q < 7) {x y : Nat} (hx : x < 5) (hy : y < 5) : dbM ne nw bf db v f p q x y = true ↔ dbP (nbC n hd fm rp rq) (SPm bf) (SPm nw) (SPm db) v f p q (5 * x + y) := by
  have e1 : (5 * x + y) % 5 = y := by omega
  have e2 : (5 * x + y) / 5 = x := by omega
  have lp : ∀ i, i < 25 → (loM ne nw bf db v p i = true ↔ loP (nbC n hd fm rp rq) (SPm bf) (SPm nw) (SPm db) v p i) := fun i hi => lo_iff E N hv hp hi
  have lq : ∀ i, i < 25 → (loM ne nw bf db v q i = true ↔ loP (nbC n hd fm rp rq) (SPm bf) (SPm nw) (SPm db) v q i) := fun i hi => lo_iff E N hv hq hi
  unfold dbM dbP
  rw [e1, e2]
  rcases (show f = 0 ∨ f = 1 ∨ f = 2 ∨ f = 3 ∨ f = 4 by omega) with e | e | e | e | e <;> subst e
  · rw [if_pos rfl, Bool.and_eq_true, lp _ (by omega)]
    simp [SPm]
  · rw [if_neg (by decide), if_pos rfl, Bool.and_eq_true, lp _ (by omega)]
    simp [SPm]
  · rw [if_neg (by decide), if_neg (by decide), if_pos rfl, dbJ_iff]
    constructor
    · rintro (h | ⟨u, _, h2, h3, h4⟩)
      · cases h
      · exact Or.inr (Or.inr (Or.inl ⟨rfl, u, by omega, h3, h4.elim (fun l => Or.inl ((lp _ (by omega)).mp l)) (fun l => Or.inr ((lq _ (by omega)).mp l))⟩))
    · rintro (⟨e, _⟩ | ⟨e, _⟩ | ⟨_, u, h2, h3, h4⟩ | ⟨e, _⟩ | ⟨e, _⟩)
      · exact absurd e (by decide)
      · exact absurd e (by decide)
      · exact Or.inr ⟨u, Nat.zero_le _, by omega, h3, h4.elim (fun l => Or.inl ((lp _ (by omega)).mpr l)) (fun l => Or.inr ((lq _ (by omega)).mpr l))⟩
      · exact absurd e (by decide)
      · exact absurd e (by decide)
  · rw [if_neg (by decide), if_neg (by decide), if_neg (by decide), if_pos rfl, Bool.and_eq_true, Bool.and_eq_true, Bool.or_eq_true, lp _ (by omega), lq _ (by omega)]
    simp [SPm]
  · rw [if_neg (by decide), if_neg (by decide), if_neg (by decide), if_neg (by decide), Bool.and_eq_true, Bool.and_eq_true, Bool.or_eq_true, lp _ (by omega), put_bits nw bf q (by omega)]
    simp [SPm]
/-- X has all the suspects that the rules make out of it -/
def dcA (n : Nat) (hd fm rp rq : Nat → Nat) (B S X : Nat → Nat → Prop) : Prop := ∀ k, k < n → nbC n hd fm rp rq (hd k) (hd k) = true → ∀ i, i < 25 → dbP (nbC n hd fm rp rq) B S X (hd k) (fm k) (rp k) (rq k) i → X (hd k) i
def subA (X : Nat → Nat → Prop) (db : Nat → Int32) : Prop := ∀ w, w < 7 → ∀ i, i < 25 → SPm db w i → X w i
theorem smY_ok {nw bf : Nat → Int32} {v f p q x : Nat} (hv7 : v < 7) (hx : x < 5) {X : Nat → Nat → Prop} (hX : ∀ db, subA X db → ∀ u, u < 5 → dbM ne nw bf db v f p q x u = true → X v (5 * x + u)) : ∀ (k y : Nat) (db : Nat → Int32) (more : Bool), y + k ≤ 5 → L25 db → L25 (smY ne nw bf v f p q x k y db more).1 ∧ (∀ w, ¬ w = v → (smY ne nw bf v f p q x k y db more).1 w = db w) ∧ (subA X db → subA X (smY ne nw bf v f p q x k y db more).1) ∧ ((smY ne nw bf v f p q x k y db more).2 = false → more = false ∧ (smY ne nw bf v f p q x k y db more).1 = db ∧ ∀ u, y ≤ u → u < y + k → dbM ne nw bf db v f p q x u = true → bt (db v) (5 * x + u) = true) := by
  intro k
  induction k with
  | zero => intro y db more _ h; exact ⟨h, fun _ _ => rfl, id, fun q => ⟨q, rfl, fun u h1 h2 => absurd h2 (by omega)⟩⟩
  | succ k ih =>
    intro y db more hk h
    rw [smY]
    split
    · next hc =>
      have hl : L25 (upd db v (db v ||| bm (5 * x + y))) := upd_L25 h (lt25_or (h v hv7) (lt25_bm (by omega)))
      obtain ⟨a1, a2, a3, a4⟩ := ih (y + 1) (upd db v (db v ||| bm (5 * x + y))) true (by omega) hl
      refine ⟨a1, fun w hw => ?_, fun s => a3 (fun w hw i hi z => ?_), fun z => absurd (a4 z).1 (by decide)⟩
      · rw [a2 w hw]; unfold upd; rw [if_neg hw]
      · unfold SPm upd at z
        by_cases e : w = v
        · rw [if_pos e, b_or, Bool.or_eq_true, bt_bm (by omega), decide_eq_true_eq] at z
          rcases z with z | z
          · rw [e]; exact s v hv7 i hi z
          · rw [e, z]; exact hX db s y (by omega) hc.2
        · rw [if_neg e] at z
          exact s w hw i hi z
    · next hc =>
      obtain ⟨a1, a2, a3, a4⟩ := ih (y + 1) db more (by omega) h
      refine ⟨a1, a2, a3, fun z => ?_⟩
      obtain ⟨b1, b2, b3⟩ := a4 z
      refine ⟨b1, b2, fun u h1 h2 hd => ?_⟩
      by_cases e : u = y
      · subst e
        cases w : bt (db v) (5 * x + u) with
        | true => rfl
        | false => exact absurd ⟨w, hd⟩ hc
      · exact b3 u (by omega) (by omega) hd
theorem smX_ok {nw bf : Nat → Int32} {v f p q : Nat} (hv7 : v < 7) {X : Nat → Nat → Prop} (hX : ne (8 * v) = true → ∀ db, subA X db → ∀ t u, t < 5 → u < 5 → dbM ne nw bf db v f p q t u = true → X v (5 * t + u)) : ∀ (k x : Nat) (db : Nat → Int32) (more : Bool), x + k ≤ 5 → L25 db → L25 (smX ne nw bf v f p q k x db more).1 ∧ (∀ w, ¬ (w = v ∧ ne (8 * v) = true) → (smX ne nw bf v f p q k x db more).1 w = db w) ∧ (subA X db → subA X (smX ne nw bf v f p q k x db more).1) ∧ ((smX ne nw bf v f p q k x db more).2 = false → more = false ∧ (smX ne nw bf v f p q k x db more).1 = db ∧ (ne (8 * v) = true → ∀ t u, x ≤ t → t < x + k → u < 5 → dbM ne nw bf db v f p q t u = true → bt (db v) (5 * t + u) = true)) := by
  intro k
  induction k with
  | zero => intro x db more _ h; exact ⟨h, fun _ _ => rfl, id, fun q => ⟨q, rfl, fun _ t u h1 h2 => absurd h2 (by omega)⟩⟩
  | succ k ih =>
    intro x db more hk h
    rw [smX]
    split
    · next hc =>
      obtain ⟨y1, y2, y3, y4⟩ := smY_ok hv7 (show x < 5 by omega) (fun db s u hu d => hX hc db s x u (by omega) hu d) 5 0 db more (by omega) h
      obtain ⟨a1, a2, a3, a4⟩ := ih (x + 1) _ (smY ne nw bf v f p q x 5 0 db more).2 (by omega) y1
      refine ⟨a1, fun w hw => (a2 w hw).trans (y2 w (fun e => hw ⟨e, hc⟩)), fun s => a3 (y3 s), fun z => ?_⟩
      obtain ⟨b1, b2, b3⟩ := a4 z
      obtain ⟨d1, d2, d3⟩ := y4 b1
      rw [d2] at b2 b3
      refine ⟨d1, by rw [d2]; exact b2, fun hc t u h1 h2 hu hd => ?_⟩
      by_cases e : t = x
      · subst e; exact d3 u (Nat.zero_le _) (by omega) hd
      · exact b3 hc t u (by omega) (by omega) hu hd
    · next hc => exact ⟨h, fun _ _ => rfl, id, fun q => ⟨q, rfl, fun z => absurd z hc⟩⟩
theorem smF_ok (E : EnvOk n hd fm rp rq (nbC n hd fm rp rq)) (N : neOk n hd fm rp rq ne) (hr : ruOk n hd fm rp rq) {nw bf : Nat → Int32} {X : Nat → Nat → Prop} (hX : dcA n hd fm rp rq (SPm bf) (SPm nw) X) : ∀ (k i : Nat) (db : Nat → Int32) (more : Bool), i + k ≤ n → L25 db → L25 (smF hd fm rp rq ne nw bf k i db more).1 ∧ (∀ w, ¬ (2 ≤ w ∧ w < 7 ∧ nbC n hd fm rp rq w w = true) → (smF hd fm rp rq ne nw bf k i db more).1 w = db w) ∧ (subA X db → subA X (smF hd fm rp rq ne nw bf k i db more).1) ∧ ((smF hd fm rp rq ne nw bf k i db more).2 = false → more = false ∧ (smF hd fm rp rq ne nw bf k i db more).1 = db ∧ ∀ j, i ≤ j → j < i + k → nbC n hd fm rp rq (hd j) (hd j) = true → ∀ b, b < 25 → dbP (nbC n hd fm rp rq) (SPm bf) (SPm nw) (SPm db) (hd j) (fm j) (rp j) (rq j) b → SPm db (hd j) b) := by
  intro k
  induction k with
  | zero => intro i db more _ h; exact ⟨h, fun _ _ => rfl, id, fun q => ⟨q, rfl, fun j h1 h2 => absurd h2 (by omega)⟩⟩
  | succ k ih =>
    intro i db more hk h
    have hri := hr.2 i (by omega)
    have h8 : ne (8 * hd i) = nbC n hd fm rp rq (hd i) (hd i) := by rw [show 8 * hd i = 7 * hd i + hd i by omega, N _ _ hri.2.1 hri.2.1, nbC_lt hri.2.1 hri.2.1]
    rw [smF]
    obtain ⟨y1, y2, y3, y4⟩ := smX_ok (ne := ne) (nw := nw) (bf := bf) (f := fm i) (p := rp i) (q := rq i) hri.2.1 (X := X) (fun hc db s t u ht hu d => by
      rw [h8] at hc
      refine hX i (by omega) hc _ (by omega) (dbP_rule E (by omega) (by omega) (fun _ _ _ _ _ => Iff.rfl) (fun r a b j hj z => s r (E.2.2.2.2.1 _ _ a).2.2 j hj z) ((db_iff E N hri.2.2.1 hri.2.1 hri.2.2.2.1 hri.2.2.2.2 ht hu).mp d))) 5 0 db more (by omega) h
    obtain ⟨a1, a2, a3, a4⟩ := ih (i + 1) _ (smX ne nw bf (hd i) (fm i) (rp i) (rq i) 5 0 db more).2 (by omega) y1
    refine ⟨a1, fun w hw => (a2 w hw).trans (y2 w (fun e => hw ⟨by rw [e.1]; exact hri.1, by rw [e.1]; exact hri.2.1, by rw [e.1, ← h8]; exact e.2⟩)), fun s => a3 (y3 s), fun z => ?_⟩
    obtain ⟨b1, b2, b3⟩ := a4 z
    obtain ⟨d1, d2, d3⟩ := y4 b1
    rw [d2] at b2 b3
    refine ⟨d1, by rw [d2]; exact b2, fun j h1 h2 hrec b hb d => ?_⟩
    by_cases e : j = i
    · subst e
      have q := d3 (by rw [h8]; exact hrec) (b / 5) (b % 5) (Nat.zero_le _) (by omega) (by omega) ((db_iff E N hri.2.2.1 hri.2.1 hri.2.2.2.1 hri.2.2.2.2 (by omega) (by omega)).mpr (by rw [show 5 * (b / 5) + b % 5 = b by omega]; exact d))
      rw [show 5 * (b / 5) + b % 5 = b by omega] at q
      exact q
    · exact b3 j (by omega) (by omega) hrec b hb d
theorem scF_false {nw bf : Nat → Int32} (k : Nat) (db : Nat → Int32) : scF n hd fm rp rq ne nw bf k false db = db := by cases k <;> rfl
theorem scF_ok (E : EnvOk n hd fm rp rq (nbC n hd fm rp rq)) (N : neOk n hd fm rp rq ne) (hr : ruOk n hd fm rp rq) {nw bf : Nat → Int32} : ∀ (k : Nat) (db : Nat → Int32), scT n hd fm rp rq ne nw bf k true db = true → L25 db → L25 (scF n hd fm rp rq ne nw bf k true db) ∧ (∀ w, ¬ (2 ≤ w ∧ w < 7 ∧ nbC n hd fm rp rq w w = true) → scF n hd fm rp rq ne nw bf k true db w = db w) ∧ (∀ X, dcA n hd fm rp rq (SPm bf) (SPm nw) X → subA X db → subA X (scF n hd fm rp rq ne nw bf k true db)) ∧ dcA n hd fm rp rq (SPm bf) (SPm nw) (SPm (scF n hd fm rp rq ne nw bf k true db)) := by
  intro k
  induction k with
  | zero => intro db h; cases h
  | succ k ih =>
    intro db h hl
    rw [scT, if_pos rfl] at h
    rw [scF, if_pos rfl]
    have any := fun X hX => smF_ok E N hr (nw := nw) (bf := bf) (X := X) hX n 0 db false (by omega) hl
    obtain ⟨t1, t2, _, t4⟩ := any (fun _ _ => True) (fun _ _ _ _ _ _ => trivial)
    cases q : (smF hd fm rp rq ne nw bf n 0 db false).2 with
    | false =>
      obtain ⟨_, e, c⟩ := t4 q
      rw [scF_false, e]
      exact ⟨hl, fun _ _ => rfl, fun _ _ s => s, fun j hj hrec b hb d => c j (Nat.zero_le _) (by omega) hrec b hb d⟩
    | true =>
      rw [q] at h
      obtain ⟨a1, a2, a3, a4⟩ := ih _ h t1
      exact ⟨a1, fun w hw => (a2 w hw).trans (t2 w hw), fun X hX s => a3 X hX ((any X hX).2.2.1 s), a4⟩
/-- both sides' suspects are the same -/
theorem susp_eq (E : EnvOk n hd fm rp rq (nbC n hd fm rp rq)) (N : neOk n hd fm rp rq ne) (hr : ruOk n hd fm rp rq) {bf f0 nw su bfM nwM db : Nat → Int32} {ct : Nat → Int32} (C : CIn n hd fm rp rq bf f0 8 ct nw su) (hb : ∀ r, r < 7 → bfM r = bf r) (hw : ∀ r, r < 7 → nwM r = nw r) (h0 : ∀ r, r < 7 → db r = nI 0) : ∀ r, r < 7 → scF n hd fm rp rq ne nwM bfM 126 true db r = su r := by
  obtain ⟨⟨c1, c1'⟩, c2, c3, c4, c5, c6, c7, c8, _, _⟩ := C
  have hl : L25 db := fun r hr7 => by rw [h0 r hr7]; exact lt25_nI0
  obtain ⟨a1, a2, a3, a4⟩ := scF_ok E N hr (nw := nwM) (bf := bfM) 126 db (scT_ok hr ne nwM bfM db) hl
  generalize scF n hd fm rp rq ne nwM bfM 126 true db = dm at a1 a2 a3 a4 ⊢
  have tr : ∀ (D : Nat → Nat → Prop) (k i : Nat), k < n → i < 25 → (dbP (nbC n hd fm rp rq) (SPm bfM) (SPm nwM) D (hd k) (fm k) (rp k) (rq k) i ↔ dbP (nbC n hd fm rp rq) (SPm bf) (SPm nw) D (hd k) (fm k) (rp k) (rq k) i) := by
    intro D k i hk hi
    have hk7 := hr.2 k hk
    have b1 : ∀ r, r < 7 → ∀ j, j < 25 → (SPm bfM r j ↔ SPm bf r j) := fun r h j _ => by unfold SPm; rw [hb r h]
    have w1 : ∀ r, r < 7 → ∀ j, j < 25 → (SPm nwM r j ↔ SPm nw r j) := fun r h j _ => by unfold SPm; rw [hw r h]
    exact ⟨dbP_imp hi (b1 _ hk7.2.2.2.1) (fun _ => b1 _ hk7.2.2.2.2) (fun _ => w1 _ hk7.2.2.2.1) (fun _ _ => w1 _ hk7.2.2.2.2) (fun h4 => (E.2.2.2.1 k hk h4).2) (fun _ _ _ z => z) (fun _ _ _ _ z => z), dbP_imp hi (fun j hj => (b1 _ hk7.2.2.2.1 j hj).symm) (fun _ j hj => (b1 _ hk7.2.2.2.2 j hj).symm) (fun _ j hj => (w1 _ hk7.2.2.2.1 j hj).symm) (fun _ _ j hj => (w1 _ hk7.2.2.2.2 j hj).symm) (fun h4 => (E.2.2.2.1 k hk h4).2) (fun _ _ _ z => z) (fun _ _ _ _ z => z)⟩
  have rk8 : ∀ v, v < 7 → rkN (nbC n hd fm rp rq) v < 8 := fun v h => by have := rkN_in (nbC n hd fm rp rq) h; omega
  have s1 : subA (SPm su) dm := a3 _ (fun k hk hrec i hi d => c7 _ (rk8 _ (hr.2 k hk).2.1) k hk rfl hrec i hi ((tr _ k i hk hi).mp d)) (fun w hw i hi q => by unfold SPm at q; rw [h0 w hw, bt_nI0] at q; cases q)
  have s2 : ∀ w, 2 ≤ w → w < 7 → ∀ i, i < 25 → SPm su w i → SPm dm w i := fun w h2 h7 => c8 (SPm dm) (fun l hl k hk hrk hrec i hi d => a4 k hk hrec i hi ((tr _ k i hk hi).mpr d)) _ (rk8 w h7) w h2 h7 rfl
  intro r hr7
  by_cases h : 2 ≤ r ∧ r < 7 ∧ nbC n hd fm rp rq r r = true
  · refine lt25_ext (a1 r hr7) (c1' r hr7) (fun i hi => ?_)
    rw [Bool.eq_iff_iff]
    exact ⟨s1 r hr7 i hi, s2 r h.1 h.2.1 i hi⟩
  · rw [a2 r h, h0 r hr7, c5 r hr7 ?_]
    by_cases h2 : r < 2
    · exact Or.inl h2
    · exact Or.inr (Or.inr (fun q => h ⟨by omega, hr7, q⟩))
end CN

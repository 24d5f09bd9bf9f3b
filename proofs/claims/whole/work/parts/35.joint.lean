/-! BOTH SIDES TOGETHER: what holds between the keeper's state and the reference's between two calls -/
def stOk (i o s w : Int32) : Prop := lt25 s ∧ ∀ k, k < 32 → bt i k = (bt s k && bt w k) ∧ bt o k = (bt s k && !bt w k)
theorem stOk.lI {i o s w : Int32} (h : stOk i o s w) : lt25 i := fun k hk => by
  rcases Nat.lt_or_ge k 32 with q | q
  · rw [(h.2 k q).1, h.1 k hk, Bool.false_and]
  · exact b_big q
theorem stOk.lO {i o s w : Int32} (h : stOk i o s w) : lt25 o := fun k hk => by
  rcases Nat.lt_or_ge k 32 with q | q
  · rw [(h.2 k q).2, h.1 k hk, Bool.false_and]
  · exact b_big q
theorem stOk.z : stOk (nI 0) (nI 0) (nI 0) (nI 0) := ⟨lt25_nI0, fun k _ => by rw [bt_nI0]; exact ⟨rfl, rfl⟩⟩
def CI (n : Nat) (hd fm rp rq : Nat → Nat) (nd nw bf su sI sO ct nwM bfM db sg wt : Nat → Int32) (ne : Nat → Bool) : Prop :=
  ruOk n hd fm rp rq ∧ EnvOk n hd fm rp rq (nbC n hd fm rp rq) ∧ RfG nd (gC n hd fm rp rq) ∧ neOk n hd fm rp rq ne ∧ (L25 nw ∧ L25 bf ∧ L25 su) ∧ (∀ v, 2 ≤ v → v < 7 → MdAt n hd fm rp rq (nbC n hd fm rp rq) v (SPm nw)) ∧ (∀ r, r < 7 → nwM r = nw r ∧ bfM r = bf r ∧ db r = su r) ∧ (∀ r, r < 2 → stOk (sI r) (sO r) (sg r) (wt r)) ∧ ctOk n hd fm rp rq nw ct
theorem cpF_at {src : Nat → Int32} : ∀ (k v : Nat) (f : Nat → Int32) (r : Nat), cpF src k v f r = if v ≤ r ∧ r < v + k then src r else f r := by
  intro k
  induction k with
  | zero => intro v f r; rw [cpF, if_neg (by omega)]
  | succ k ih =>
    intro v f r
    rw [cpF, ih]
    unfold upd
    by_cases e : r = v
    · subst e
      rw [if_neg (by omega), if_pos rfl, if_pos (by omega)]
    · by_cases h : v + 1 ≤ r ∧ r < v + 1 + k
      · rw [if_pos h, if_pos (by omega)]
      · rw [if_neg h, if_neg e, if_neg (by omega)]
section JT
variable {n : Nat} {hd fm rp rq : Nat → Nat} {nd nw bf su sI sO ct nwM bfM db sg wt : Nat → Int32} {ne : Nat → Bool}
theorem L25_of {f g : Nat → Int32} (h : L25 f) (e : ∀ r, r < 7 → g r = f r) : L25 g := fun r hr => by rw [e r hr]; exact h r hr
/-- after the rules have changed: the views anew, on both sides -/
theorem ci_anew (hr : ruOk n hd fm rp rq) (E : EnvOk n hd fm rp rq (nbC n hd fm rp rq)) (dn : Nat → Bool) (hl : L25 nw) (hm : ∀ r, r < 7 → nwM r = nw r) (hs : ∀ r, r < 2 → stOk (sI r) (sO r) (sg r) (wt r)) :
    CI n hd fm rp rq (ndA n hd fm rp rq) (rmM n hd fm rp rq (ndA n hd fm rp rq) nw) (rmM n hd fm rp rq (ndA n hd fm rp rq) nw) (fun _ => nI 0) sI sO (rmC n hd fm rp rq (ndA n hd fm rp rq) nw) (maW n hd fm rp rq (neW n hd fm rp rq ne) nwM dn) (cpF (maW n hd fm rp rq (neW n hd fm rp rq ne) nwM dn) 7 0 bfM) (zeF 7 0 db) sg wt (neW n hd fm rp rq ne) := by
  have G := ndA_R hr
  have N : neOk n hd fm rp rq (neW n hd fm rp rq ne) := fun a b ha hb => neW_gC hr ne ha hb
  obtain ⟨a1, a2, a3, a4⟩ := rmM_ok E G hr hl
  obtain ⟨b1, b2, b3⟩ := maW_ok E N hr dn (L25_of hl hm)
  have eq := views_eq E b1 a1 b3 a3 (fun r h => by rw [b2 r h, a2 r h, hm r (by omega)])
  exact ⟨hr, E, G, N, ⟨a1, a1, fun _ _ => lt25_nI0⟩, a3, fun r h => ⟨eq r h, by rw [cpF_at, if_pos (by omega)]; exact eq r h, by rw [zeF_at, if_pos (by omega)]⟩, hs, a4⟩
theorem env_of_cyc (hr : ruOk n hd fm rp rq) (h : cycF hd fm rq (ndA n hd fm rp rq) n 0 = false) : EnvOk n hd fm rp rq (nbC n hd fm rp rq) := by
  refine envC hr (fun k hk h4 => ?_)
  have hk7 := hr.2 k hk
  have q := cycF_no n 0 h k (Nat.zero_le _) (by omega) h4
  rw [(ndA_R hr).1 _ _ hk7.2.2.2.2 hk7.2.1] at q
  exact q
theorem cyc_same (hr : ruOk n hd fm rp rq) (ne : Nat → Bool) : cyM hd fm rq (neW n hd fm rp rq ne) n 0 false = cycF hd fm rq (ndA n hd fm rp rq) n 0 := by
  have h := cyM_eq (hd := hd) (fm := fm) (rq := rq) (nd := ndA n hd fm rp rq) (ne := neW n hd fm rp rq ne) n 0 false (fun j _ hj => by
    have hj7 := hr.2 j (by omega)
    rw [neW_gC hr ne hj7.2.2.2.2 hj7.2.1, (ndA_R hr).1 _ _ hj7.2.2.2.2 hj7.2.1])
  rw [h, Bool.false_or]
theorem env_pred (hr : ruOk n hd fm rp rq) (E : EnvOk n hd fm rp rq (nbC n hd fm rp rq)) : EnvOk (n - 1) hd fm rp rq (nbC (n - 1) hd fm rp rq) := by
  refine envC (ruOk_pred hr) (fun k hk h4 => ?_)
  have hk7 := hr.2 k (by omega)
  have q := E.2.2.2.1 k (by omega) h4
  refine ⟨q.1, fun z => q.2 ?_⟩
  rw [nbC_lt hk7.2.2.2.2 hk7.2.1]
  exact gC_pred hr hk7.2.2.2.2 hk7.2.1 z
/-- a refused rule leaves all as it was -/
theorem ci_refused {vh vf vp vq : Nat} (C : CI n hd fm rp rq nd nw bf su sI sO ct nwM bfM db sg wt ne) (ne' : Nat → Bool) : CI n (va_up hd n vh) (va_up fm n vf) (va_up rp n vp) (va_up rq n vq) (ndA n (va_up hd n vh) (va_up fm n vf) (va_up rp n vp) (va_up rq n vq)) nw bf su sI sO ct nwM bfM db sg wt (neW n (va_up hd n vh) (va_up fm n vf) (va_up rp n vp) (va_up rq n vq) ne') := by
  obtain ⟨hr, E, G, N, hl, hM, he, hs, hcc⟩ := C
  have up : ∀ k, k < n → va_up hd n vh k = hd k ∧ va_up fm n vf k = fm k ∧ va_up rp n vp k = rp k ∧ va_up rq n vq k = rq k := fun k hk => by
    unfold va_up
    simp only [Nat.ne_of_lt hk, ↓reduceIte, and_self]
  have hr' : ruOk n (va_up hd n vh) (va_up fm n vf) (va_up rp n vp) (va_up rq n vq) := ⟨hr.1, fun k hk => by
    obtain ⟨e1, e2, e3, e4⟩ := up k hk
    rw [e1, e2, e3, e4]; exact hr.2 k hk⟩
  have eg : gC n (va_up hd n vh) (va_up fm n vf) (va_up rp n vp) (va_up rq n vq) = gC n hd fm rp rq := by
    unfold gC
    rw [neR_congr n 0 _ (fun j _ hj => up j (by omega))]
  have eb : nbC n (va_up hd n vh) (va_up fm n vf) (va_up rp n vp) (va_up rq n vq) = nbC n hd fm rp rq := by
    funext a b
    unfold nbC
    rw [eg]
  refine ⟨hr', envC hr' (fun k hk h4 => ?_), ndA_R hr', fun a b ha hb => neW_gC hr' ne' ha hb, hl, fun v h2 h7 => ?_, he, hs, fun v h2 h7 hn b hb => ?_⟩
  · obtain ⟨e1, e2, e3, e4⟩ := up k hk
    rw [e2] at h4
    rw [e1, e4, eg]
    have hk7 := hr.2 k hk
    have q := E.2.2.2.1 k hk h4
    rw [nbC_lt hk7.2.2.2.2 hk7.2.1] at q
    exact q
  · rw [eb]
    have m := hM v h2 h7
    refine ⟨fun k hk ht i hi g => ?_, fun X hX hc => m.2 X hX (fun k hk ht i hi g => ?_)⟩
    · obtain ⟨e1, e2, e3, e4⟩ := up k hk
      rw [e1] at ht ⊢
      rw [e2, e3, e4] at g
      exact m.1 k hk ht i hi g
    · have h := hc k hk
      obtain ⟨e1, e2, e3, e4⟩ := up k hk
      rw [e1, e2, e3, e4] at h
      exact h ht i hi g
  · rw [eb] at hn
    rw [cr_rules n 0 (fun j _ hj => up j (by omega))]
    exact hcc v h2 h7 hn b hb
theorem ci_stage (C : CI n hd fm rp rq nd nw bf su sI sO ct nwM bfM db sg wt ne) {r k : Nat} (hk : k < 25) (b : Bool) : CI n hd fm rp rq nd nw bf su (stI b sI r k) (stO b sO r k) ct nwM bfM db (upd sg r (sg r ||| bm k)) (upd wt r (if b = true then wt r ||| bm k else wt r &&& (bm k ^^^ (-1)))) ne := by
  obtain ⟨hr, E, G, N, hl, hM, he, hs, hcc⟩ := C
  refine ⟨hr, E, G, N, hl, hM, he, fun u hu => ?_, hcc⟩
  unfold stI stO upd
  by_cases e : u = r
  · subst e
    simp only [↓reduceIte]
    have h := hs u hu
    refine ⟨lt25_or h.1 (lt25_bm hk), fun j hj => ?_⟩
    obtain ⟨h1, h2⟩ := h.2 j hj
    cases b with
    | true =>
      simp only [↓reduceIte, b_or, b_and, bt_not _ hj, bt_bm (show k < 32 by omega), h1, h2]
      by_cases ej : j = k
      · subst ej; simp
      · simp [ej]
    | false =>
      simp only [Bool.false_eq_true, ↓reduceIte, b_or, b_and, bt_not _ hj, bt_bm (show k < 32 by omega), h1, h2]
      by_cases ej : j = k
      · subst ej; simp
      · simp [ej]
  · simp only [e, ↓reduceIte]
    exact hs u hu
theorem mdN_at (nw sg wt : Nat → Int32) (r : Nat) : mdN 2 0 nw sg wt r = if r < 2 then ((nw r &&& (sg r ^^^ (-1))) ||| (wt r &&& sg r)) else nw r := by
  show upd (upd nw 0 _) 1 _ r = _
  unfold upd
  rcases (show r = 0 ∨ r = 1 ∨ 2 ≤ r by omega) with e | e | e
  · subst e; simp
  · subst e; simp
  · rw [if_neg (by omega), if_neg (by omega), if_neg (by omega)]
theorem fact_same {x i o s w : Int32} (h : stOk i o s w) : (x &&& (s ^^^ (-1))) ||| (w &&& s) = (x ||| i) &&& (o ^^^ (-1)) := by
  apply b_ext
  intro j hj
  obtain ⟨h1, h2⟩ := h.2 j hj
  rw [b_or, b_and, b_and, bt_not _ hj, b_and, b_or, bt_not _ hj, h1, h2]
  cases bt x j <;> cases bt s j <;> cases bt w j <;> rfl
theorem ci_commit (C : CI n hd fm rp rq nd nw bf su sI sO ct nwM bfM db sg wt ne) (dn : Nat → Bool) : CI n hd fm rp rq nd (cmW n hd fm rp rq nd nw sI sO ct) nw (cmS n hd fm rp rq nd nw sI sO ct) (fun _ => nI 0) (fun _ => nI 0) (cmC n hd fm rp rq nd nw sI sO ct) (maW n hd fm rp rq ne (mdN 2 0 nwM sg wt) dn) (cpF nwM 7 0 bfM) (scF n hd fm rp rq ne (maW n hd fm rp rq ne (mdN 2 0 nwM sg wt) dn) (cpF nwM 7 0 bfM) 126 true (zeF 7 0 db)) (zeF 2 0 sg) (zeF 2 0 wt) ne := by
  obtain ⟨hr, E, G, N, ⟨l1, l2, l3⟩, hM, he, hs, hcc⟩ := C
  have K := cm_ok E G hr (sI := sI) (sO := sO) l1 (fun r h => (hs r h).lI) hM hcc
  have fs : ∀ r, r < 7 → mdN 2 0 nwM sg wt r = dsF sI sO 2 0 nw r := fun r h => by
    rw [mdN_at, dsF_at, (he r h).1]
    by_cases h2 : r < 2
    · rw [if_pos h2, if_pos (by omega), fact_same (hs r h2)]
    · rw [if_neg h2, if_neg (by omega)]
  have l0 : L25 (mdN 2 0 nwM sg wt) := fun r h => by
    rw [fs r h, dsF_at]
    split
    · exact lt25_and _ (lt25_or (l1 r h) (hs r (by omega)).lI)
    · exact l1 r h
  obtain ⟨b1, b2, b3⟩ := maW_ok E N hr dn l0
  have K' := id K
  obtain ⟨⟨k1, k1'⟩, k2, k3, _, _, _, _, _, k9, _⟩ := K'
  have k3' : ∀ v, 2 ≤ v → v < 7 → MdAt n hd fm rp rq (nbC n hd fm rp rq) v (SPm (cmW n hd fm rp rq nd nw sI sO ct)) := fun v h2 h7 => k3 v h2 h7 (by have := rkN_in (nbC n hd fm rp rq) h7; omega)
  have eq := views_eq E b1 k1 b3 k3' (fun r h => by rw [b2 r h, k2 r h, fs r (by omega)])
  have eb : ∀ r, r < 7 → cpF nwM 7 0 bfM r = nw r := fun r h => by rw [cpF_at, if_pos (by omega)]; exact (he r h).1
  have es := susp_eq E N hr K eb eq (db := zeF 7 0 db) (fun r h => by rw [zeF_at, if_pos (by omega)])
  refine ⟨hr, E, G, N, ⟨k1, l1, k1'⟩, k3', fun r h => ⟨eq r h, eb r h, es r h⟩, fun r h => ?_, fun v h2 h7 hn => k9 v h2 h7 (by have := rkN_in (nbC n hd fm rp rq) h7; omega) hn⟩
  rw [zeF_at, zeF_at, if_pos (by omega), if_pos (by omega)]
  exact stOk.z
theorem tak_lt {f g : Nat → Int32} {r : Nat} (h : lt25 (g r)) : lt25 (takM f g r) := lt25_and _ h
theorem put_lt {f g : Nat → Int32} {r : Nat} (h : lt25 (f r)) : lt25 (putM f g r) := lt25_and _ h
theorem cm_count {f g fM gM : Nat → Int32} (hf : L25 f) (hg : L25 g) (e1 : ∀ r, r < 7 → fM r = f r) (e2 : ∀ r, r < 7 → gM r = g r) : ∀ (k r w : Nat), r + k ≤ 7 → cmF f g k r w = mcW fM gM k r w := by
  intro k
  induction k with
  | zero => intro r w _; rfl
  | succ k ih =>
    intro r w h
    rw [cmF, mcW, ih (r + 1) _ (by omega)]
    have a1 : putM fM gM r = putM f g r := by unfold putM; rw [e1 r (by omega), e2 r (by omega)]
    have a2 : takM fM gM r = takM f g r := by unfold takM; rw [e1 r (by omega), e2 r (by omega)]
    rw [a1, a2, cnt25 (put_lt (hf r (by omega))), cnt25 (tak_lt (hg r (by omega)))]
    congr 1
    omega
theorem st_count {i o s w : Int32} (h : stOk i o s w) : cntB i 32 + cntB o 32 = cntB s 25 := by
  rw [cnt25 h.lI, cnt25 h.lO]
  have key : ∀ k, k ≤ 25 → cntB i k + cntB o k = cntB s k := by
    intro k
    induction k with
    | zero => intro _; rfl
    | succ k ih =>
      intro hk
      have := ih (by omega)
      obtain ⟨h1, h2⟩ := h.2 k (by omega)
      rw [cntB, cntB, cntB, h1, h2]
      cases bt s k <;> cases bt w k <;> simp <;> omega
  exact key 25 (Nat.le_refl _)
theorem ab_count (hs : ∀ r, r < 2 → stOk (sI r) (sO r) (sg r) (wt r)) : abF sI sO 2 0 0 = cntB (sg 0) 25 + cntB (sg 1) 25 := by
  show 0 + (cntB (sI 0) 32 + cntB (sO 0) 32) + (cntB (sI 1) 32 + cntB (sO 1) 32) = _
  rw [st_count (hs 0 (by omega)), st_count (hs 1 (by omega)), Nat.zero_add]
theorem ci_abort (C : CI n hd fm rp rq nd nw bf su sI sO ct nwM bfM db sg wt ne) : CI n hd fm rp rq nd nw bf su (fun _ => nI 0) (fun _ => nI 0) ct nwM bfM db (zeF 2 0 sg) (zeF 2 0 wt) ne := by
  obtain ⟨hr, E, G, N, hl, hM, he, hs, hcc⟩ := C
  exact ⟨hr, E, G, N, hl, hM, he, fun r h => by rw [zeF_at, zeF_at, if_pos (by omega), if_pos (by omega)]; exact stOk.z, hcc⟩
/-- a new object -/
theorem ci_new : CI 0 (fun _ => 0) (fun _ => 0) (fun _ => 0) (fun _ => 0) (fun _ => nI 0) (fun _ => nI 0) (fun _ => nI 0) (fun _ => nI 0) (fun _ => nI 0) (fun _ => nI 0) (fun _ => nI 0) (fun _ => nI 0) (fun _ => nI 0) (fun _ => nI 0) (fun _ => nI 0) (fun _ => nI 0) (fun _ => false) := by
  have hr : ruOk 0 (fun _ => 0) (fun _ => 0) (fun _ => 0) (fun _ => 0) := ⟨by omega, fun k hk => absurd hk (Nat.not_lt_zero _)⟩
  have g0 : ∀ a b, a < 7 → b < 7 → gC 0 (fun _ => 0) (fun _ => 0) (fun _ => 0) (fun _ => 0) (7 * a + b) = false := fun a b ha hb => neM_z 7 0 _ (by omega) a ha (fun _ _ => rfl) b hb
  refine ⟨hr, envC hr (fun k hk => absurd hk (Nat.not_lt_zero _)), ⟨fun a b ha hb => by rw [g0 a b ha hb]; exact bt_nI0 b, fun a b ha hb => g0 a b (by omega) hb, fun a b _ _ => bt_nI0 b⟩, fun a b ha hb => (g0 a b ha hb).symm, ⟨fun _ _ => lt25_nI0, fun _ _ => lt25_nI0, fun _ _ => lt25_nI0⟩, fun v _ _ => ⟨fun k hk => absurd hk (Nat.not_lt_zero _), fun X _ _ w _ i _ q => ?_⟩, fun _ _ => ⟨rfl, rfl, rfl⟩, fun _ _ => stOk.z, fun _ _ _ _ _ _ => rfl⟩
  unfold SPm at q
  rw [bt_nI0] at q
  cases q
end JT
/-! the arguments: good and bad on both sides alike -/
theorem isRl_wi (x : Int32) : wiM x 0 6 = isRl x := by
  have h : nI 6 < x ↔ nI 7 ≤ x := by
    rw [Int32.lt_iff_toInt_lt, Int32.le_iff_toInt_le, nI_toInt (by omega), nI_toInt (by omega)]
    omega
  unfold wiM isRl
  rw [decide_eq_decide.mpr h]
  rfl
theorem isTh_wi (x : Int32) : wiM x 0 4 = isTh x := by
  have h : nI 4 < x ↔ nI 5 ≤ x := by
    rw [Int32.lt_iff_toInt_lt, Int32.le_iff_toInt_le, nI_toInt (by omega), nI_toInt (by omega)]
    omega
  unfold wiM isTh
  rw [decide_eq_decide.mpr h]
  rfl
theorem isVw_wi (x : Int32) : wiM x 2 6 = isVw x := by
  have h : nI 6 < x ↔ nI 7 ≤ x := by
    rw [Int32.lt_iff_toInt_lt, Int32.le_iff_toInt_le, nI_toInt (by omega), nI_toInt (by omega)]
    omega
  unfold wiM isVw
  rw [decide_eq_decide.mpr h]
theorem wi_in {x : Int32} {lo hi : Nat} (h : wiM x lo hi = true) (hl : lo ≤ hi) (hh : hi < 2 ^ 30) : ∃ j, lo ≤ j ∧ j ≤ hi ∧ x = nI j := by
  unfold wiM at h
  rw [Bool.and_eq_true, Bool.not_eq_true', Bool.not_eq_true', decide_eq_false_iff_not, decide_eq_false_iff_not] at h
  rcases pk_ix x (n := hi + 1) (by omega) with q | q | ⟨j, hj, rfl⟩
  · refine absurd ?_ h.1
    have q1 := Int32.lt_iff_toInt_lt.mp q
    rw [Int32.lt_iff_toInt_lt, nI_toInt (by omega)]
    simp at q1
    omega
  · refine absurd ?_ h.2
    have q1 := Int32.le_iff_toInt_le.mp q
    rw [nI_toInt (by omega)] at q1
    rw [Int32.lt_iff_toInt_lt, nI_toInt (by omega)]
    omega
  · refine ⟨j, ?_, by omega, rfl⟩
    rcases Nat.lt_or_ge j lo with z | z
    · exact absurd (nI_lt z (by omega)) h.1
    · exact z

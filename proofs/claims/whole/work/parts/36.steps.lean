/-! THE STEPS: each call of the law on both sides: one answer, and what holds between both states holds again -/
theorem sp_rule (l : Launch) (dC : Nat → ClassId) (dI : Nat → Nat → Nat) (a b : Nat → Nat) (cA cB : Nat → ClassId) {n : Nat} {hd fm rp rq : Nat → Nat} {nd nw bf su sI sO ct nwM bfM db sg wt : Nat → Int32} {ne : Nat → Bool} (dn : Nat → Bool) (C : CI n hd fm rp rq nd nw bf su sI sO ct nwM bfM db sg wt ne) (h0 f0 p0 q0 : Int32) : ∃ (n' : Nat) (hd' fm' rp' rq' : Nat → Nat) (nd' nw' bf' su' sI' sO' ct' nwM' bfM' db' sg' wt' : Nat → Int32) (ne' dn' : Nat → Bool) (v : Int32), WrI l yX2_rule wsX2_rule ({ frames := 6, cells := 0, slots := 0, locals := 140 }) (dC, dI) vwCl (vkW a cA n hd fm rp rq nd nw bf su sI sO ct) (vkW a cA n' hd' fm' rp' rq' nd' nw' bf' su' sI' sO' ct') (vkT cA) nstW [.ref (a 0), .int h0, .int f0, .int p0, .int q0] v ∧ WrI l yX3_rule wsX3_rule ({ frames := 7, cells := 0, slots := 0, locals := 164 }) (dC, dI) vwCl (mdW b cB n hd fm rp rq nwM bfM db sg wt ne dn) (mdW b cB n' hd' fm' rp' rq' nwM' bfM' db' sg' wt' ne' dn') (mdT cB) nstW [.ref (b 0), .int h0, .int f0, .int p0, .int q0] v ∧ CI n' hd' fm' rp' rq' nd' nw' bf' su' sI' sO' ct' nwM' bfM' db' sg' wt' ne' := by
  obtain ⟨hr, E, G, N, hl, hM, he, hs, hc⟩ := id C
  have hg : (wiM h0 2 6 && (wiM f0 0 4 && (wiM p0 0 6 && wiM q0 0 6))) = ruGood h0 f0 p0 q0 := by
    rw [isVw_wi, isRl_wi, isRl_wi]
    unfold ruGood wiM
    rw [show nI 0 = 0 from rfl]
    cases isVw h0 <;> cases decide (f0 < 0) <;> cases decide (nI 4 < f0) <;> cases isRl p0 <;> cases isRl q0 <;> rfl
  cases q : ruGood h0 f0 p0 q0 with
  | false => exact ⟨_, _, _, _, _, _, _, _, _, _, _, _, _, _, _, _, _, _, _, _, c_X2_rule_b l dC dI a cA n hd fm rp rq nd nw bf su sI sO ct h0 f0 p0 q0 q, c_X3_rule_b l dC dI b cB n hd fm rp rq nwM bfM db sg wt ne dn h0 f0 p0 q0 (hg.trans q), C⟩
  | true =>
    rw [q] at hg
    simp only [Bool.and_eq_true] at hg
    obtain ⟨g1, g2, g3, g4⟩ := hg
    obtain ⟨vh, v1, v2, rfl⟩ := wi_in g1 (by omega) (by omega)
    obtain ⟨vf, _, v3, rfl⟩ := wi_in g2 (by omega) (by omega)
    obtain ⟨vp, _, v4, rfl⟩ := wi_in g3 (by omega) (by omega)
    obtain ⟨vq, _, v5, rfl⟩ := wi_in g4 (by omega) (by omega)
    have hv : 2 ≤ vh ∧ vh < 7 ∧ vf ≤ 4 ∧ vp < 7 ∧ vq < 7 := by omega
    by_cases hn : n = 12
    · exact ⟨_, _, _, _, _, _, _, _, _, _, _, _, _, _, _, _, _, _, _, _, c_X2_rule_f l dC dI a cA n hd fm rp rq nd nw bf su sI sO ct vh vf vp vq hr hn hv, c_X3_rule_f l dC dI b cB n hd fm rp rq nwM bfM db sg wt ne dn vh vf vp vq hr hn hv, C⟩
    · have hn : n < 12 := by have := hr.1; omega
      have hr' := ruOk_add hr hn hv
      have hcy := cyc_same hr' ne
      cases qc : cycF (va_up hd n vh) (va_up fm n vf) (va_up rq n vq) (ndA (n + 1) (va_up hd n vh) (va_up fm n vf) (va_up rp n vp) (va_up rq n vq)) (n + 1) 0 with
      | true => exact ⟨_, _, _, _, _, _, _, _, _, _, _, _, _, _, _, _, _, _, _, _, c_X2_rule_c l dC dI a cA n hd fm rp rq nd nw bf su sI sO ct vh vf vp vq hr hn hv qc, c_X3_rule_c l dC dI b cB n hd fm rp rq nwM bfM db sg wt ne dn vh vf vp vq hr hn hv (hcy.trans qc), ci_refused C _⟩
      | false => exact ⟨_, _, _, _, _, _, _, _, _, _, _, _, _, _, _, _, _, _, _, _, c_X2_rule_g l dC dI a cA n hd fm rp rq nd nw bf su sI sO ct vh vf vp vq hr hn hv qc, c_X3_rule_g l dC dI b cB n hd fm rp rq nwM bfM db sg wt ne dn vh vf vp vq hr hn hv (hcy.trans qc), ci_anew hr' (env_of_cyc hr' qc) dn hl.1 (fun r h => (he r h).1) hs⟩
theorem sp_undo (l : Launch) (dC : Nat → ClassId) (dI : Nat → Nat → Nat) (a b : Nat → Nat) (cA cB : Nat → ClassId) {n : Nat} {hd fm rp rq : Nat → Nat} {nd nw bf su sI sO ct nwM bfM db sg wt : Nat → Int32} {ne : Nat → Bool} (dn : Nat → Bool) (C : CI n hd fm rp rq nd nw bf su sI sO ct nwM bfM db sg wt ne)  : ∃ (n' : Nat) (hd' fm' rp' rq' : Nat → Nat) (nd' nw' bf' su' sI' sO' ct' nwM' bfM' db' sg' wt' : Nat → Int32) (ne' dn' : Nat → Bool) (v : Int32), WrI l yX2_undo wsX2_undo ({ frames := 6, cells := 0, slots := 0, locals := 140 }) (dC, dI) vwCl (vkW a cA n hd fm rp rq nd nw bf su sI sO ct) (vkW a cA n' hd' fm' rp' rq' nd' nw' bf' su' sI' sO' ct') (vkT cA) nstW [.ref (a 0)] v ∧ WrI l yX3_undo wsX3_undo ({ frames := 7, cells := 0, slots := 0, locals := 164 }) (dC, dI) vwCl (mdW b cB n hd fm rp rq nwM bfM db sg wt ne dn) (mdW b cB n' hd' fm' rp' rq' nwM' bfM' db' sg' wt' ne' dn') (mdT cB) nstW [.ref (b 0)] v ∧ CI n' hd' fm' rp' rq' nd' nw' bf' su' sI' sO' ct' nwM' bfM' db' sg' wt' ne' := by
  obtain ⟨hr, E, G, N, hl, hM, he, hs, hc⟩ := id C
  by_cases hn : n = 0
  · exact ⟨_, _, _, _, _, _, _, _, _, _, _, _, _, _, _, _, _, _, _, _, c_X2_undo_b l dC dI a cA n hd fm rp rq nd nw bf su sI sO ct hn, c_X3_undo_b l dC dI b cB n hd fm rp rq nwM bfM db sg wt ne dn hn, C⟩
  · exact ⟨_, _, _, _, _, _, _, _, _, _, _, _, _, _, _, _, _, _, _, _, c_X2_undo_g l dC dI a cA n hd fm rp rq nd nw bf su sI sO ct hr (by omega), c_X3_undo_g l dC dI b cB n hd fm rp rq nwM bfM db sg wt ne dn hr (by omega), ci_anew (ruOk_pred hr) (env_pred hr E) dn hl.1 (fun r h => (he r h).1) hs⟩
theorem sp_stage (l : Launch) (dC : Nat → ClassId) (dI : Nat → Nat → Nat) (a b : Nat → Nat) (cA cB : Nat → ClassId) {n : Nat} {hd fm rp rq : Nat → Nat} {nd nw bf su sI sO ct nwM bfM db sg wt : Nat → Int32} {ne : Nat → Bool} (dn : Nat → Bool) (C : CI n hd fm rp rq nd nw bf su sI sO ct nwM bfM db sg wt ne) (r0 x0 y0 : Int32) (bb : Bool) : ∃ (n' : Nat) (hd' fm' rp' rq' : Nat → Nat) (nd' nw' bf' su' sI' sO' ct' nwM' bfM' db' sg' wt' : Nat → Int32) (ne' dn' : Nat → Bool) (v : Int32), WrI l yX2_stage wsX2_stage ({ frames := 1, cells := 0, slots := 0, locals := 21 }) (dC, dI) vwCl (vkW a cA n hd fm rp rq nd nw bf su sI sO ct) (vkW a cA n' hd' fm' rp' rq' nd' nw' bf' su' sI' sO' ct') (vkT cA) nstW [.ref (a 0), .int r0, .int x0, .int y0, .int (bI bb)] v ∧ WrI l yX3_stage wsX3_stage ({ frames := 1, cells := 0, slots := 0, locals := 22 }) (dC, dI) vwCl (mdW b cB n hd fm rp rq nwM bfM db sg wt ne dn) (mdW b cB n' hd' fm' rp' rq' nwM' bfM' db' sg' wt' ne' dn') (mdT cB) nstW [.ref (b 0), .int r0, .int x0, .int y0, .int (bI bb)] v ∧ CI n' hd' fm' rp' rq' nd' nw' bf' su' sI' sO' ct' nwM' bfM' db' sg' wt' ne' := by
  obtain ⟨hr, E, G, N, hl, hM, he, hs, hc⟩ := id C
  have hf : wiM r0 0 1 = (isRl r0 && !isVw r0) := by
    have h1 : nI 1 < r0 ↔ nI 2 ≤ r0 := by
      rw [Int32.lt_iff_toInt_lt, Int32.le_iff_toInt_le, nI_toInt (by omega), nI_toInt (by omega)]
      omega
    unfold wiM isRl isVw
    rw [show nI 0 = 0 from rfl]
    by_cases a1 : r0 < 0
    · simp [a1]
    · by_cases a2 : nI 2 ≤ r0
      · rw [decide_eq_true (h1.mpr a2), decide_eq_false (Int32.not_lt.mpr a2)]
        cases decide (r0 < 0) <;> cases decide (nI 7 ≤ r0) <;> rfl
      · have a3 : ¬ nI 7 ≤ r0 := fun z => a2 (by
          rw [Int32.le_iff_toInt_le, nI_toInt (by omega)] at z ⊢
          omega)
        rw [decide_eq_false (fun z => a2 (h1.mp z)), decide_eq_true (Int32.not_le.mp a2), decide_eq_false a3]
        cases decide (r0 < 0) <;> rfl
  have hg : (wiM r0 0 1 && (wiM x0 0 4 && wiM y0 0 4)) = stGood r0 x0 y0 := by
    rw [hf, isTh_wi, isTh_wi]
    unfold stGood
    cases isRl r0 <;> cases isVw r0 <;> rfl
  cases q : stGood r0 x0 y0 with
  | false => exact ⟨_, _, _, _, _, _, _, _, _, _, _, _, _, _, _, _, _, _, _, _, c_X2_stage_b l dC dI a cA n hd fm rp rq nd nw bf su sI sO ct r0 x0 y0 bb q, c_X3_stage_b l dC dI b cB n hd fm rp rq nwM bfM db sg wt ne dn r0 x0 y0 bb (hg.trans q), C⟩
  | true =>
    rw [q] at hg
    simp only [Bool.and_eq_true] at hg
    obtain ⟨g1, g2, g3⟩ := hg
    obtain ⟨r, _, v1, rfl⟩ := wi_in g1 (by omega) (by omega)
    obtain ⟨x, _, v2, rfl⟩ := wi_in g2 (by omega) (by omega)
    obtain ⟨y, _, v3, rfl⟩ := wi_in g3 (by omega) (by omega)
    exact ⟨_, _, _, _, _, _, _, _, _, _, _, _, _, _, _, _, _, _, _, _, c_X2_stage_g l dC dI a cA n hd fm rp rq nd nw bf su sI sO ct r x y bb (by omega) (by omega) (by omega), c_X3_stage_g l dC dI b cB n hd fm rp rq nwM bfM db sg wt ne dn r x y bb (by omega) (by omega) (by omega), ci_stage C (by omega) bb⟩
theorem sp_commit (l : Launch) (dC : Nat → ClassId) (dI : Nat → Nat → Nat) (a b : Nat → Nat) (cA cB : Nat → ClassId) {n : Nat} {hd fm rp rq : Nat → Nat} {nd nw bf su sI sO ct nwM bfM db sg wt : Nat → Int32} {ne : Nat → Bool} (dn : Nat → Bool) (C : CI n hd fm rp rq nd nw bf su sI sO ct nwM bfM db sg wt ne)  : ∃ (n' : Nat) (hd' fm' rp' rq' : Nat → Nat) (nd' nw' bf' su' sI' sO' ct' nwM' bfM' db' sg' wt' : Nat → Int32) (ne' dn' : Nat → Bool) (v : Int32), WrI l yX2_commit wsX2_commit ({ frames := 6, cells := 0, slots := 0, locals := 140 }) (dC, dI) vwCl (vkW a cA n hd fm rp rq nd nw bf su sI sO ct) (vkW a cA n' hd' fm' rp' rq' nd' nw' bf' su' sI' sO' ct') (vkT cA) nstW [.ref (a 0)] v ∧ WrI l yX3_commit wsX3_commit ({ frames := 6, cells := 0, slots := 0, locals := 143 }) (dC, dI) vwCl (mdW b cB n hd fm rp rq nwM bfM db sg wt ne dn) (mdW b cB n' hd' fm' rp' rq' nwM' bfM' db' sg' wt' ne' dn') (mdT cB) nstW [.ref (b 0)] v ∧ CI n' hd' fm' rp' rq' nd' nw' bf' su' sI' sO' ct' nwM' bfM' db' sg' wt' ne' := by
  obtain ⟨hr, E, G, N, hl, hM, he, hs, hc⟩ := id C
  have C2 := ci_commit C dn
  obtain ⟨_, _, _, _, l2, _, e2, _, _⟩ := id C2
  have hm := c_X3_commit l dC dI b cB n hd fm rp rq nwM bfM db sg wt ne dn hr
  rw [← cm_count l2.1 l2.2.1 (fun r h => (e2 r h).1) (fun r h => (e2 r h).2.1) 7 0 0 (by omega)] at hm
  exact ⟨_, _, _, _, _, _, _, _, _, _, _, _, _, _, _, _, _, _, _, _, c_X2_commit l dC dI a cA n hd fm rp rq nd nw bf su sI sO ct hr, hm, C2⟩
theorem sp_abort (l : Launch) (dC : Nat → ClassId) (dI : Nat → Nat → Nat) (a b : Nat → Nat) (cA cB : Nat → ClassId) {n : Nat} {hd fm rp rq : Nat → Nat} {nd nw bf su sI sO ct nwM bfM db sg wt : Nat → Int32} {ne : Nat → Bool} (dn : Nat → Bool) (C : CI n hd fm rp rq nd nw bf su sI sO ct nwM bfM db sg wt ne)  : ∃ (n' : Nat) (hd' fm' rp' rq' : Nat → Nat) (nd' nw' bf' su' sI' sO' ct' nwM' bfM' db' sg' wt' : Nat → Int32) (ne' dn' : Nat → Bool) (v : Int32), WrI l yX2_abort wsX2_abort ({ frames := 2, cells := 0, slots := 0, locals := 43 }) (dC, dI) vwCl (vkW a cA n hd fm rp rq nd nw bf su sI sO ct) (vkW a cA n' hd' fm' rp' rq' nd' nw' bf' su' sI' sO' ct') (vkT cA) nstW [.ref (a 0)] v ∧ WrI l yX3_abort wsX3_abort ({ frames := 1, cells := 0, slots := 0, locals := 22 }) (dC, dI) vwCl (mdW b cB n hd fm rp rq nwM bfM db sg wt ne dn) (mdW b cB n' hd' fm' rp' rq' nwM' bfM' db' sg' wt' ne' dn') (mdT cB) nstW [.ref (b 0)] v ∧ CI n' hd' fm' rp' rq' nd' nw' bf' su' sI' sO' ct' nwM' bfM' db' sg' wt' ne' := by
  obtain ⟨hr, E, G, N, hl, hM, he, hs, hc⟩ := id C
  have hm := c_X3_abort l dC dI b cB n hd fm rp rq nwM bfM db sg wt ne dn
  rw [← ab_count hs] at hm
  exact ⟨_, _, _, _, _, _, _, _, _, _, _, _, _, _, _, _, _, _, _, _, c_X2_abort l dC dI a cA n hd fm rp rq nd nw bf su sI sO ct, hm, ci_abort C⟩
theorem sp_has (l : Launch) (dC : Nat → ClassId) (dI : Nat → Nat → Nat) (a b : Nat → Nat) (cA cB : Nat → ClassId) {n : Nat} {hd fm rp rq : Nat → Nat} {nd nw bf su sI sO ct nwM bfM db sg wt : Nat → Int32} {ne : Nat → Bool} (dn : Nat → Bool) (C : CI n hd fm rp rq nd nw bf su sI sO ct nwM bfM db sg wt ne) (r0 x0 y0 : Int32) : ∃ v : Int32, RdM l yX2_has wsX2_has ({ frames := 1, cells := 0, slots := 0, locals := 22 }) (dC, dI) vwCl (vkW a cA n hd fm rp rq nd nw bf su sI sO ct) (vkT cA) nstW [.ref (a 0), .int r0, .int x0, .int y0] v ∧ RdM l yX3_has wsX3_has ({ frames := 2, cells := 0, slots := 0, locals := 44 }) (dC, dI) vwCl (mdW b cB n hd fm rp rq nwM bfM db sg wt ne dn) (mdT cB) nstW [.ref (b 0), .int r0, .int x0, .int y0] v := by
  obtain ⟨hr, E, G, N, hl, hM, he, hs, hc⟩ := id C
  have hg : piM r0 x0 y0 = prGood r0 x0 y0 := by
    unfold piM prGood
    rw [isRl_wi, isTh_wi, isTh_wi]
  cases q : prGood r0 x0 y0 with
  | false => exact ⟨_, c_X2_has_b l dC dI a cA n hd fm rp rq nd nw bf su sI sO ct r0 x0 y0 q, c_X3_has_b l dC dI b cB n hd fm rp rq nwM bfM db sg wt ne dn r0 x0 y0 (hg.trans q)⟩
  | true =>
    rw [q] at hg
    unfold piM at hg
    simp only [Bool.and_eq_true] at hg
    obtain ⟨g1, g2, g3⟩ := hg
    obtain ⟨r, _, v1, rfl⟩ := wi_in g1 (by omega) (by omega)
    obtain ⟨x, _, v2, rfl⟩ := wi_in g2 (by omega) (by omega)
    obtain ⟨y, _, v3, rfl⟩ := wi_in g3 (by omega) (by omega)
    refine ⟨_, c_X2_has_g l dC dI a cA n hd fm rp rq nd nw bf su sI sO ct r x y (by omega) (by omega) (by omega), ?_⟩
    rw [← (he r (by omega)).1]
    exact c_X3_has_g l dC dI b cB n hd fm rp rq nwM bfM db sg wt ne dn r x y (by omega) (by omega) (by omega)
theorem sp_suspect (l : Launch) (dC : Nat → ClassId) (dI : Nat → Nat → Nat) (a b : Nat → Nat) (cA cB : Nat → ClassId) {n : Nat} {hd fm rp rq : Nat → Nat} {nd nw bf su sI sO ct nwM bfM db sg wt : Nat → Int32} {ne : Nat → Bool} (dn : Nat → Bool) (C : CI n hd fm rp rq nd nw bf su sI sO ct nwM bfM db sg wt ne) (r0 x0 y0 : Int32) : ∃ v : Int32, RdM l yX2_suspect wsX2_suspect ({ frames := 1, cells := 0, slots := 0, locals := 22 }) (dC, dI) vwCl (vkW a cA n hd fm rp rq nd nw bf su sI sO ct) (vkT cA) nstW [.ref (a 0), .int r0, .int x0, .int y0] v ∧ RdM l yX3_suspect wsX3_suspect ({ frames := 2, cells := 0, slots := 0, locals := 44 }) (dC, dI) vwCl (mdW b cB n hd fm rp rq nwM bfM db sg wt ne dn) (mdT cB) nstW [.ref (b 0), .int r0, .int x0, .int y0] v := by
  obtain ⟨hr, E, G, N, hl, hM, he, hs, hc⟩ := id C
  have hg : piM r0 x0 y0 = prGood r0 x0 y0 := by
    unfold piM prGood
    rw [isRl_wi, isTh_wi, isTh_wi]
  cases q : prGood r0 x0 y0 with
  | false => exact ⟨_, c_X2_suspect_b l dC dI a cA n hd fm rp rq nd nw bf su sI sO ct r0 x0 y0 q, c_X3_suspect_b l dC dI b cB n hd fm rp rq nwM bfM db sg wt ne dn r0 x0 y0 (hg.trans q)⟩
  | true =>
    rw [q] at hg
    unfold piM at hg
    simp only [Bool.and_eq_true] at hg
    obtain ⟨g1, g2, g3⟩ := hg
    obtain ⟨r, _, v1, rfl⟩ := wi_in g1 (by omega) (by omega)
    obtain ⟨x, _, v2, rfl⟩ := wi_in g2 (by omega) (by omega)
    obtain ⟨y, _, v3, rfl⟩ := wi_in g3 (by omega) (by omega)
    refine ⟨_, c_X2_suspect_g l dC dI a cA n hd fm rp rq nd nw bf su sI sO ct r x y (by omega) (by omega) (by omega), ?_⟩
    rw [← (he r (by omega)).2.2]
    exact c_X3_suspect_g l dC dI b cB n hd fm rp rq nwM bfM db sg wt ne dn r x y (by omega) (by omega) (by omega)
theorem sp_count (l : Launch) (dC : Nat → ClassId) (dI : Nat → Nat → Nat) (a b : Nat → Nat) (cA cB : Nat → ClassId) {n : Nat} {hd fm rp rq : Nat → Nat} {nd nw bf su sI sO ct nwM bfM db sg wt : Nat → Int32} {ne : Nat → Bool} (dn : Nat → Bool) (C : CI n hd fm rp rq nd nw bf su sI sO ct nwM bfM db sg wt ne) (r0 x0 y0 : Int32) : ∃ v : Int32, RdM l yX2_count wsX2_count ({ frames := 2, cells := 0, slots := 0, locals := 43 }) (dC, dI) vwCl (vkW a cA n hd fm rp rq nd nw bf su sI sO ct) (vkT cA) nstW [.ref (a 0), .int r0, .int x0, .int y0] v ∧ RdM l yX3_count wsX3_count ({ frames := 3, cells := 0, slots := 0, locals := 74 }) (dC, dI) vwCl (mdW b cB n hd fm rp rq nwM bfM db sg wt ne dn) (mdT cB) nstW [.ref (b 0), .int r0, .int x0, .int y0] v := by
  obtain ⟨hr, E, G, N, hl, hM, he, hs, hc⟩ := id C
  have hg : piM r0 x0 y0 = prGood r0 x0 y0 := by
    unfold piM prGood
    rw [isRl_wi, isTh_wi, isTh_wi]
  cases q : prGood r0 x0 y0 with
  | false => exact ⟨_, c_X2_count_b l dC dI a cA n hd fm rp rq nd nw bf su sI sO ct r0 x0 y0 q, c_X3_count_b l dC dI b cB n hd fm rp rq nwM bfM db sg wt ne dn r0 x0 y0 (hg.trans q)⟩
  | true =>
    rw [q] at hg
    unfold piM at hg
    simp only [Bool.and_eq_true] at hg
    obtain ⟨g1, g2, g3⟩ := hg
    obtain ⟨r, _, v1, rfl⟩ := wi_in g1 (by omega) (by omega)
    obtain ⟨x, _, v2, rfl⟩ := wi_in g2 (by omega) (by omega)
    obtain ⟨y, _, v3, rfl⟩ := wi_in g3 (by omega) (by omega)
    have h8 : ne (8 * r) = bt (nd r) r := by rw [show 8 * r = 7 * r + r by omega, N r r (by omega) (by omega), G.1 r r (by omega) (by omega)]
    cases qr : bt (nd r) r with
    | true => exact ⟨_, c_X2_count_r l dC dI a cA n hd fm rp rq nd nw bf su sI sO ct r x y (by omega) (by omega) (by omega) qr, c_X3_count_r l dC dI b cB n hd fm rp rq nwM bfM db sg wt ne dn r x y (by omega) (by omega) (by omega) (h8.trans qr)⟩
    | false =>
      by_cases h2 : r < 2
      · refine ⟨_, c_X2_count_f l dC dI a cA n hd fm rp rq nd nw bf su sI sO ct r x y (by omega) (by omega) (by omega) qr h2, ?_⟩
        rw [← (he r (by omega)).1]
        exact c_X3_count_f l dC dI b cB n hd fm rp rq nwM bfM db sg wt ne dn r x y (by omega) (by omega) (by omega) (h8.trans qr) h2
      · have hnr : ¬ nbC n hd fm rp rq r r = true := by rw [nbC_lt (by omega) (by omega), ← G.1 r r (by omega) (by omega), qr]; decide
        refine ⟨_, c_X2_count_v l dC dI a cA n hd fm rp rq nd nw bf su sI sO ct r x y (by omega) (by omega) (by omega) qr (by omega), ?_⟩
        have hm := c_X3_count_v l dC dI b cB n hd fm rp rq nwM bfM db sg wt ne dn r x y (by omega) (by omega) (by omega) (h8.trans qr) (by omega) hr
        rw [cr_mc hr (fun r h => (he r h).1) (by omega) (by omega) n 0 0 (by omega), Nat.zero_add, ← hc r (by omega) (by omega) hnr (5 * x + y) (by omega), ← Nat.add_assoc] at hm
        exact hm
theorem sp_size (l : Launch) (dC : Nat → ClassId) (dI : Nat → Nat → Nat) (a b : Nat → Nat) (cA cB : Nat → ClassId) {n : Nat} {hd fm rp rq : Nat → Nat} {nd nw bf su sI sO ct nwM bfM db sg wt : Nat → Int32} {ne : Nat → Bool} (dn : Nat → Bool) (C : CI n hd fm rp rq nd nw bf su sI sO ct nwM bfM db sg wt ne) (r0 : Int32) : ∃ v : Int32, RdM l yX2_size wsX2_size ({ frames := 1, cells := 0, slots := 0, locals := 20 }) (dC, dI) vwCl (vkW a cA n hd fm rp rq nd nw bf su sI sO ct) (vkT cA) nstW [.ref (a 0), .int r0] v ∧ RdM l yX3_size wsX3_size ({ frames := 1, cells := 0, slots := 0, locals := 22 }) (dC, dI) vwCl (mdW b cB n hd fm rp rq nwM bfM db sg wt ne dn) (mdT cB) nstW [.ref (b 0), .int r0] v := by
  obtain ⟨hr, E, G, N, hl, hM, he, hs, hc⟩ := id C
  cases q : isRl r0 with
  | false => exact ⟨_, c_X2_size_b l dC dI a cA n hd fm rp rq nd nw bf su sI sO ct r0 q, c_X3_size_b l dC dI b cB n hd fm rp rq nwM bfM db sg wt ne dn r0 ((isRl_wi r0).trans q)⟩
  | true =>
    obtain ⟨r, _, v1, rfl⟩ := wi_in ((isRl_wi r0).trans q) (by omega) (by omega)
    refine ⟨_, c_X2_size_g l dC dI a cA n hd fm rp rq nd nw bf su sI sO ct r (by omega), ?_⟩
    rw [cnt25 (hl.1 r (by omega)), ← (he r (by omega)).1]
    exact c_X3_size_g l dC dI b cB n hd fm rp rq nwM bfM db sg wt ne dn r (by omega)
theorem sp_recursive (l : Launch) (dC : Nat → ClassId) (dI : Nat → Nat → Nat) (a b : Nat → Nat) (cA cB : Nat → ClassId) {n : Nat} {hd fm rp rq : Nat → Nat} {nd nw bf su sI sO ct nwM bfM db sg wt : Nat → Int32} {ne : Nat → Bool} (dn : Nat → Bool) (C : CI n hd fm rp rq nd nw bf su sI sO ct nwM bfM db sg wt ne) (r0 : Int32) : ∃ v : Int32, RdM l yX2_recursive wsX2_recursive ({ frames := 2, cells := 0, slots := 0, locals := 43 }) (dC, dI) vwCl (vkW a cA n hd fm rp rq nd nw bf su sI sO ct) (vkT cA) nstW [.ref (a 0), .int r0] v ∧ RdM l yX3_recursive wsX3_recursive ({ frames := 1, cells := 0, slots := 0, locals := 22 }) (dC, dI) vwCl (mdW b cB n hd fm rp rq nwM bfM db sg wt ne dn) (mdT cB) nstW [.ref (b 0), .int r0] v := by
  obtain ⟨hr, E, G, N, hl, hM, he, hs, hc⟩ := id C
  cases q : isRl r0 with
  | false =>
    have q2 : isVw r0 = false := by
      cases z : isVw r0 with
      | false => rfl
      | true =>
        obtain ⟨r, _, v1, rfl⟩ := wi_in ((isVw_wi r0).trans z) (by omega) (by omega)
        rw [isRl_nI (by omega)] at q
        cases q
    exact ⟨_, c_X2_recursive_b l dC dI a cA n hd fm rp rq nd nw bf su sI sO ct r0 q, c_X3_recursive_b l dC dI b cB n hd fm rp rq nwM bfM db sg wt ne dn r0 ((isVw_wi r0).trans q2)⟩
  | true =>
    obtain ⟨r, _, v1, rfl⟩ := wi_in ((isRl_wi r0).trans q) (by omega) (by omega)
    refine ⟨_, c_X2_recursive_g l dC dI a cA n hd fm rp rq nd nw bf su sI sO ct r (by omega), ?_⟩
    rw [G.1 r r (by omega) (by omega)]
    by_cases h2 : r < 2
    · rw [gC_fact hr h2 (by omega)]
      exact c_X3_recursive_b l dC dI b cB n hd fm rp rq nwM bfM db sg wt ne dn (nI r) ((isVw_wi _).trans (isVw_f h2))
    · rw [← N r r (by omega) (by omega), show 7 * r + r = 8 * r by omega]
      exact c_X3_recursive_g l dC dI b cB n hd fm rp rq nwM bfM db sg wt ne dn r (by omega) (by omega)
theorem sp_needs (l : Launch) (dC : Nat → ClassId) (dI : Nat → Nat → Nat) (a b : Nat → Nat) (cA cB : Nat → ClassId) {n : Nat} {hd fm rp rq : Nat → Nat} {nd nw bf su sI sO ct nwM bfM db sg wt : Nat → Int32} {ne : Nat → Bool} (dn : Nat → Bool) (C : CI n hd fm rp rq nd nw bf su sI sO ct nwM bfM db sg wt ne) (v0 r0 : Int32) : ∃ v : Int32, RdM l yX2_needs wsX2_needs ({ frames := 1, cells := 0, slots := 0, locals := 22 }) (dC, dI) vwCl (vkW a cA n hd fm rp rq nd nw bf su sI sO ct) (vkT cA) nstW [.ref (a 0), .int v0, .int r0] v ∧ RdM l yX3_needs wsX3_needs ({ frames := 1, cells := 0, slots := 0, locals := 22 }) (dC, dI) vwCl (mdW b cB n hd fm rp rq nwM bfM db sg wt ne dn) (mdT cB) nstW [.ref (b 0), .int v0, .int r0] v := by
  obtain ⟨hr, E, G, N, hl, hM, he, hs, hc⟩ := id C
  have hg : (wiM v0 2 6 && wiM r0 0 6) = (isVw v0 && isRl r0) := by rw [isVw_wi, isRl_wi]
  cases q : (isVw v0 && isRl r0) with
  | false => exact ⟨_, c_X2_needs_b l dC dI a cA n hd fm rp rq nd nw bf su sI sO ct v0 r0 q, c_X3_needs_b l dC dI b cB n hd fm rp rq nwM bfM db sg wt ne dn v0 r0 (hg.trans q)⟩
  | true =>
    rw [q, Bool.and_eq_true] at hg
    obtain ⟨v, w1, w2, rfl⟩ := wi_in hg.1 (by omega) (by omega)
    obtain ⟨r, _, w3, rfl⟩ := wi_in hg.2 (by omega) (by omega)
    refine ⟨_, c_X2_needs_g l dC dI a cA n hd fm rp rq nd nw bf su sI sO ct v r (by omega) (by omega) (by omega), ?_⟩
    rw [G.1 v r (by omega) (by omega), ← N v r (by omega) (by omega)]
    exact c_X3_needs_g l dC dI b cB n hd fm rp rq nwM bfM db sg wt ne dn v r (by omega) (by omega) (by omega)
theorem sp_rules (l : Launch) (dC : Nat → ClassId) (dI : Nat → Nat → Nat) (a b : Nat → Nat) (cA cB : Nat → ClassId) {n : Nat} {hd fm rp rq : Nat → Nat} {nd nw bf su sI sO ct nwM bfM db sg wt : Nat → Int32} {ne : Nat → Bool} (dn : Nat → Bool) (C : CI n hd fm rp rq nd nw bf su sI sO ct nwM bfM db sg wt ne)  : ∃ v : Int32, RdM l yX2_rules wsX2_rules ({ frames := 0, cells := 0, slots := 0, locals := 0 }) (dC, dI) vwCl (vkW a cA n hd fm rp rq nd nw bf su sI sO ct) (vkT cA) nstW [.ref (a 0)] v ∧ RdM l yX3_rules wsX3_rules ({ frames := 0, cells := 0, slots := 0, locals := 0 }) (dC, dI) vwCl (mdW b cB n hd fm rp rq nwM bfM db sg wt ne dn) (mdT cB) nstW [.ref (b 0)] v := by
  exact ⟨_, c_X2_rules l dC dI a cA n hd fm rp rq nd nw bf su sI sO ct, c_X3_rules l dC dI b cB n hd fm rp rq nwM bfM db sg wt ne dn⟩
theorem sp_changed (l : Launch) (dC : Nat → ClassId) (dI : Nat → Nat → Nat) (a b : Nat → Nat) (cA cB : Nat → ClassId) {n : Nat} {hd fm rp rq : Nat → Nat} {nd nw bf su sI sO ct nwM bfM db sg wt : Nat → Int32} {ne : Nat → Bool} (dn : Nat → Bool) (C : CI n hd fm rp rq nd nw bf su sI sO ct nwM bfM db sg wt ne) (r0 w0 : Int32) : ∃ v : Int32, RdM l yX2_changed wsX2_changed ({ frames := 1, cells := 0, slots := 0, locals := 21 }) (dC, dI) vwCl (vkW a cA n hd fm rp rq nd nw bf su sI sO ct) (vkT cA) nstW [.ref (a 0), .int r0, .int w0] v ∧ RdM l yX3_changed wsX3_changed ({ frames := 1, cells := 0, slots := 0, locals := 22 }) (dC, dI) vwCl (mdW b cB n hd fm rp rq nwM bfM db sg wt ne dn) (mdT cB) nstW [.ref (b 0), .int r0, .int w0] v := by
  obtain ⟨hr, E, G, N, hl, hM, he, hs, hc⟩ := id C
  cases q : isRl r0 with
  | false => exact ⟨_, c_X2_changed_b l dC dI a cA n hd fm rp rq nd nw bf su sI sO ct r0 w0 q, c_X3_changed_b l dC dI b cB n hd fm rp rq nwM bfM db sg wt ne dn r0 w0 (by rw [isRl_wi, q, Bool.false_and])⟩
  | true =>
    have q6 := (isRl_wi r0).trans q
    obtain ⟨r, _, v1, rfl⟩ := wi_in q6 (by omega) (by omega)
    cases qw : wiM w0 0 3 with
    | false =>
      refine ⟨_, c_X2_changed_c l dC dI a cA n hd fm rp rq nd nw bf su sI sO ct r w0 (by omega) ?_, c_X3_changed_b l dC dI b cB n hd fm rp rq nwM bfM db sg wt ne dn (nI r) w0 (by rw [qw, Bool.and_false])⟩
      rcases pk_ix w0 (n := 4) (by omega) with z | z | ⟨j, hj, rfl⟩
      · exact Or.inl z
      · exact Or.inr z
      · rw [wiM_nI (by omega) (by omega) (by omega)] at qw
        cases qw
    | true =>
      obtain ⟨w, _, v2, rfl⟩ := wi_in qw (by omega) (by omega)
      refine ⟨_, c_X2_changed_g l dC dI a cA n hd fm rp rq nd nw bf su sI sO ct r w (by omega) (by omega), ?_⟩
      have e9 : chgM nw bf su r w = cntB (chgN nwM bfM db r w) 25 := by
        obtain ⟨x1, x2, x3⟩ := he r (by omega)
        have p1 : putM nwM bfM r = putM nw bf r := by unfold putM; rw [x1, x2]
        have p2 : takM nwM bfM r = takM nw bf r := by unfold takM; rw [x1, x2]
        unfold chgM chgN
        rw [p1, p2, x1, x3]
        split
        · exact cnt25 (put_lt (hl.1 r (by omega)))
        · split
          · exact cnt25 (tak_lt (hl.2.1 r (by omega)))
          · split
            · exact cnt25 (hl.2.2 r (by omega))
            · exact cnt25 (lt25_and _ (hl.2.2 r (by omega)))
      rw [e9]
      exact c_X3_changed_g l dC dI b cB n hd fm rp rq nwM bfM db sg wt ne dn r w (by omega) (by omega)

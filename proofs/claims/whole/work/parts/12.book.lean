/-! the rules and the book: what their reading methods answer -/
theorem and_bm0 {m : Int32} {k : Nat} (hk : k < 32) (h : m &&& bm k = 0) : bt m k = false := by
  have := congrArg (fun z => bt z k) h
  simp only [b_and, bt_bm hk, b_0, decide_true, Bool.and_true] at this
  exact this
theorem and_bm1 {m : Int32} {k : Nat} (hk : k < 32) (h : ¬ m &&& bm k = 0) : bt m k = true := by
  cases q : bt m k with
  | true => rfl
  | false =>
    refine absurd (b_ext fun i _ => ?_) h
    rw [b_and, bt_bm hk, b_0]
    by_cases e : i = k
    · rw [e, q, Bool.false_and]
    · rw [decide_eq_false e, Bool.and_false]
theorem cntB_le (m : Int32) : ∀ k, cntB m k ≤ k := by
  intro k
  induction k with
  | zero => exact Nat.le_refl 0
  | succ k ih => rw [cntB]; split <;> omega
def bodyM (f p q : Nat) : Int32 := if f = 0 ∨ f = 1 then bm p else bm p ||| bm q
def givM (f : Nat) (P Q : Int32) : Int32 := if f = 0 then P else if f = 1 then turnM P else if f = 2 then joinM P Q else if f = 3 then P &&& Q else P &&& (Q ^^^ (-1))
def insJ (P Q : Int32) (x y : Nat) : Nat → Nat → Nat → Nat
  | 0, _, w => w
  | n + 1, z, w => insJ P Q x y n (z + 1) (if (bt P (5 * x + z) && bt Q (5 * z + y)) = true then w + 1 else w)
/-- the pairs (x, w) of the way w; what the rule gives by that way; how many ways there are -/
def colM (w : Nat) : Int32 := 1082401 <<< (nI w &&& 31)
def gbyM (f w : Nat) (P Q : Int32) : Int32 := if f = 2 then joinM (P &&& colM w) Q else givM f P Q
def wayM (f : Nat) : Nat := if f = 2 then 5 else 1
theorem wayM_le (f : Nat) : wayM f ≤ 5 := by unfold wayM; split <;> omega
def cycF (hd fm rq : Nat → Nat) (nd : Nat → Int32) : Nat → Nat → Bool
  | 0, _ => false
  | k + 1, i => if fm i = 4 ∧ (rq i = hd i ∨ bt (nd (rq i)) (hd i) = true) then true else cycF hd fm rq nd k (i + 1)
set_option maxHeartbeats 4000000 in
set_option maxRecDepth 100000 in
theorem c_X0_body (l : Launch) (dC : Nat → ClassId) (dI : Nat → Nat → Nat) (a : Nat → Nat) (cA : Nat → ClassId) (n : Nat) (hd fm rp rq : Nat → Nat) (nd nw bf su sI sO ct : Nat → Int32) (i : Nat) (hy_0 : i < 12) (hy_1 : fm i ≤ 4) (hy_2 : rp i < 7) (hy_3 : rq i < 7) : RdM l yX0_body wsX0_body ({ frames := 0, cells := 0, slots := 0, locals := 0 }) (dC, dI) vwCl (vkW a cA n hd fm rp rq nd nw bf su sI sO ct) (vkT cA) nstW [.ref (a (10 + i))] (bodyM (fm i) (rp i) (rq i)) := by
  refine Met.ofW (cc := cX0_body) (maxL := 1) (ret := (some .int)) (by decide) rfl ?_
  intro p e s m args below meth c s₁ B hml hv
  obtain ⟨rfl, hP, hK, hN⟩ := hv
  have hx := B.exec
  have hb := B.bytes
  have hr := B.returns
  have hts := atoms_spec (ws := wsX0_body) B.pre
  have hown : s.vm.findClass RX0 = some m.cls := findClass_of_methodNamed B.named
  have hlocks := B.notSynchronized
  have lf_9 := hts (.fieldLink RX0 9 "ViewKeeper$Rule" "form" "I") (by decide +kernel)
  have in_X0 : ∀ w ∈ u_ws RX0 TX0 4, w ∈ wsX0_body := by decide +kernel
  have lf_15 := hts (.fieldLink RX0 15 "ViewKeeper$Rule" "p" "I") (by decide +kernel)
  have lf_18 := hts (.fieldLink RX0 18 "ViewKeeper$Rule" "q" "I") (by decide +kernel)
  have hl := lv_entry ([.ref (a (10 + i))]) (n := 1) (Nat.le_of_ble_eq_true rfl)
  rw [lg_entry_eq]
  generalize (lg_sl ([.ref (a (10 + i))]) ++ List.replicate (1 - (lg_sl ([.ref (a (10 + i))])).length) Slot.unset).toArray = ls at hl ⊢
  have hl : lv_has ls 1 [(0, .ref (a (10 + i)))] := hl
  refine lv_aload_n hx hb dX0_body_0 rfl (lv_at hl 0 rfl) ?_
  refine va_get (D := (dC, dI)) (ci := 0) (v := .int (nI (fm i))) (C := RX0) (T := TX0) (N := 4) hx hb hts in_X0 hown hK hP (10 + i) (vkW_rule (by omega)) rfl 1 (by decide) lf_9 (fun _ h9 => h9) rfl dX0_body_1 ?_
  refine hx_if0 (tgt := 15) hx hb dX0_body_4 (by decide) (by omega) (fun c_1 => ?_) (fun c_1 => ?_)
  · refine lv_iconst (v := nI 1) hx hb dX0_body_15 (by decide) ?_
    refine lv_aload_n hx hb dX0_body_16 rfl (lv_at hl 0 rfl) ?_
    refine va_get (D := (dC, dI)) (ci := 0) (v := .int (nI (rp i))) (C := RX0) (T := TX0) (N := 4) hx hb hts in_X0 hown hK hP (10 + i) (vkW_rule (by omega)) rfl 2 (by decide) lf_15 (fun _ h9 => h9) rfl dX0_body_17 ?_
    refine lv_ishl hx hb dX0_body_20 ?_
    refine hx_eq (y := bm (rp i)) rfl ?_
    refine lv_goto (tgt := 37) hx hb dX0_body_21 (by decide) ?_
    exact W.iret (v := bm (rp i)) hx hb hr (fun t ht hW => ⟨_, rfl, by simp [bodyM, c_1], ht⟩) (fun _ h => by cases h) dX0_body_37
  · refine lv_aload_n hx hb dX0_body_7 rfl (lv_at hl 0 rfl) ?_
    refine va_get (D := (dC, dI)) (ci := 0) (v := .int (nI (fm i))) (C := RX0) (T := TX0) (N := 4) hx hb hts in_X0 hown hK hP (10 + i) (vkW_rule (by omega)) rfl 1 (by decide) lf_9 (fun _ h9 => h9) rfl dX0_body_8 ?_
    refine lv_iconst (v := nI 1) hx hb dX0_body_11 (by decide) ?_
    refine hx_neN (tgt := 24) hx hb dX0_body_12 (by decide) (by omega) (by omega) (fun c_2 => ?_) (fun c_2 => ?_)
    · refine lv_iconst (v := nI 1) hx hb dX0_body_24 (by decide) ?_
      refine lv_aload_n hx hb dX0_body_25 rfl (lv_at hl 0 rfl) ?_
      refine va_get (D := (dC, dI)) (ci := 0) (v := .int (nI (rp i))) (C := RX0) (T := TX0) (N := 4) hx hb hts in_X0 hown hK hP (10 + i) (vkW_rule (by omega)) rfl 2 (by decide) lf_15 (fun _ h9 => h9) rfl dX0_body_26 ?_
      refine lv_ishl hx hb dX0_body_29 ?_
      refine hx_eq (y := bm (rp i)) rfl ?_
      refine lv_iconst (v := nI 1) hx hb dX0_body_30 (by decide) ?_
      refine lv_aload_n hx hb dX0_body_31 rfl (lv_at hl 0 rfl) ?_
      refine va_get (D := (dC, dI)) (ci := 0) (v := .int (nI (rq i))) (C := RX0) (T := TX0) (N := 4) hx hb hts in_X0 hown hK hP (10 + i) (vkW_rule (by omega)) rfl 3 (by decide) lf_18 (fun _ h9 => h9) rfl dX0_body_32 ?_
      refine lv_ishl hx hb dX0_body_35 ?_
      refine hx_eq (y := bm (rq i)) rfl ?_
      refine lv_ior hx hb dX0_body_36 ?_
      exact W.iret (v := (bm (rp i)) ||| (bm (rq i))) hx hb hr (fun t ht hW => ⟨_, rfl, by simp [bodyM, c_1, c_2], ht⟩) (fun _ h => by cases h) dX0_body_37
    · refine lv_iconst (v := nI 1) hx hb dX0_body_15 (by decide) ?_
      refine lv_aload_n hx hb dX0_body_16 rfl (lv_at hl 0 rfl) ?_
      refine va_get (D := (dC, dI)) (ci := 0) (v := .int (nI (rp i))) (C := RX0) (T := TX0) (N := 4) hx hb hts in_X0 hown hK hP (10 + i) (vkW_rule (by omega)) rfl 2 (by decide) lf_15 (fun _ h9 => h9) rfl dX0_body_17 ?_
      refine lv_ishl hx hb dX0_body_20 ?_
      refine hx_eq (y := bm (rp i)) rfl ?_
      refine lv_goto (tgt := 37) hx hb dX0_body_21 (by decide) ?_
      exact W.iret (v := bm (rp i)) hx hb hr (fun t ht hW => ⟨_, rfl, by simp [bodyM, c_1, c_2], ht⟩) (fun _ h => by cases h) dX0_body_37
set_option maxHeartbeats 4000000 in
set_option maxRecDepth 100000 in
theorem c_X0_given (l : Launch) (dC : Nat → ClassId) (dI : Nat → Nat → Nat) (a : Nat → Nat) (cA : Nat → ClassId) (n : Nat) (hd fm rp rq : Nat → Nat) (nd nw bf su sI sO ct : Nat → Int32) (i : Nat) (hy_0 : i < 12) (hy_1 : fm i ≤ 4) (hy_2 : rp i < 7) (hy_3 : rq i < 7) : RdM l yX0_given wsX0_given ({ frames := 2, cells := 0, slots := 0, locals := 46 }) (dC, dI) vwCl (vkW a cA n hd fm rp rq nd nw bf su sI sO ct) (vkT cA) nstW [.ref (a (10 + i)), .ref (a 4)] (givM (fm i) (nw (rp i)) (nw (rq i))) := by
  refine Met.ofW (cc := cX0_given) (maxL := 2) (ret := (some .int)) (by decide) rfl ?_
  intro p e s m args below meth c s₁ B hml hv
  obtain ⟨rfl, hP, hK, hN⟩ := hv
  have hx := B.exec
  have hb := B.bytes
  have hr := B.returns
  have hts := atoms_spec (ws := wsX0_given) B.pre
  have hown : s.vm.findClass RX0 = some m.cls := findClass_of_methodNamed B.named
  have hlocks := B.notSynchronized
  have lf_9 := hts (.fieldLink RX0 9 "ViewKeeper$Rule" "form" "I") (by decide +kernel)
  have in_X0 : ∀ w ∈ u_ws RX0 TX0 4, w ∈ wsX0_given := by decide +kernel
  have lf_15 := hts (.fieldLink RX0 15 "ViewKeeper$Rule" "p" "I") (by decide +kernel)
  have lf_18 := hts (.fieldLink RX0 18 "ViewKeeper$Rule" "q" "I") (by decide +kernel)
  have hl := lv_entry ([.ref (a (10 + i)), .ref (a 4)]) (n := 2) (Nat.le_of_ble_eq_true rfl)
  rw [lg_entry_eq]
  generalize (lg_sl ([.ref (a (10 + i)), .ref (a 4)]) ++ List.replicate (2 - (lg_sl ([.ref (a (10 + i)), .ref (a 4)])).length) Slot.unset).toArray = ls at hl ⊢
  have hl : lv_has ls 2 [(0, .ref (a (10 + i))), (1, .ref (a 4))] := hl
  refine lv_aload_n hx hb dX0_given_0 rfl (lv_at hl 0 rfl) ?_
  refine va_get (D := (dC, dI)) (ci := 0) (v := .int (nI (fm i))) (C := RX0) (T := TX0) (N := 4) hx hb hts in_X0 hown hK hP (10 + i) (vkW_rule (by omega)) rfl 1 (by decide) lf_9 (fun _ h9 => h9) rfl dX0_given_1 ?_
  rcases (show fm i = 0 ∨ fm i = 1 ∨ fm i = 2 ∨ fm i = 3 ∨ fm i = 4 by omega) with q_1 | q_1 | q_1 | q_1 | q_1
  · refine hx_eq (y := nI 0) (by rw [q_1]) ?_
    refine lv_tableIn (tgt := 36) hx hb dX0_given_4 (by decide) (by decide) (off := 32) rfl (by decide) ?_
    refine lv_aload_n hx hb dX0_given_36 rfl (lv_at hl 1 rfl) ?_
    refine lv_aload_n hx hb dX0_given_37 rfl (lv_at hl 0 rfl) ?_
    refine va_get (D := (dC, dI)) (ci := 0) (v := .int (nI (rp i))) (C := RX0) (T := TX0) (N := 4) hx hb hts in_X0 hown hK hP (10 + i) (vkW_rule (by omega)) rfl 2 (by decide) lf_15 (fun _ h9 => h9) rfl dX0_given_38 ?_
    refine hx_iald hx hb hK hP 4 2 rfl rfl (by omega) (by omega) dX0_given_41 ?_
    exact W.iret (v := nw (rp i)) hx hb hr (fun t ht hW => ⟨_, rfl, by simp [givM, q_1], ht⟩) (fun _ h => by cases h) dX0_given_42
  · refine hx_eq (y := nI 1) (by rw [q_1]) ?_
    refine lv_tableIn (tgt := 43) hx hb dX0_given_4 (by decide) (by decide) (off := 39) rfl (by decide) ?_
    refine lv_aload_n hx hb dX0_given_43 rfl (lv_at hl 1 rfl) ?_
    refine lv_aload_n hx hb dX0_given_44 rfl (lv_at hl 0 rfl) ?_
    refine va_get (D := (dC, dI)) (ci := 0) (v := .int (nI (rp i))) (C := RX0) (T := TX0) (N := 4) hx hb hts in_X0 hown hK hP (10 + i) (vkW_rule (by omega)) rfl 2 (by decide) lf_15 (fun _ h9 => h9) rfl dX0_given_45 ?_
    refine hx_iald hx hb hK hP 4 2 rfl rfl (by omega) (by omega) dX0_given_48 ?_
    refine hx_read (va_runSN (As := [.int (nw (rp i))]) (rest := []) ⟨hx, hb, hml, hown, hts⟩ (c_X2_turned l (nw (rp i))) ⟨va_cnB 1 hts gX0_given_X2_turned_n21 rfl rfl rfl (hN (.methodLinkNest RX0 21 yX2_turned "ViewKeeper") (by decide +kernel)) (hts (.initialized RX2) (by decide +kernel)) (by decide +kernel) ⟨Nat.le_of_ble_eq_true rfl, Nat.le_of_ble_eq_true rfl⟩, hts (.static yX2_turned) (by decide +kernel), trivial⟩ (nu_S _) rfl rfl hl.1 rfl (lv_room (Nat.le_of_ble_eq_true rfl)) dX0_given_49 ⟨Nat.zero_le _, Nat.zero_le _⟩) ?_
    exact W.iret (v := turnM (nw (rp i))) hx hb hr (fun t ht hW => ⟨_, rfl, by simp [givM, q_1], ht⟩) (fun _ h => by cases h) dX0_given_52
  · refine hx_eq (y := nI 2) (by rw [q_1]) ?_
    refine lv_tableIn (tgt := 53) hx hb dX0_given_4 (by decide) (by decide) (off := 49) rfl (by decide) ?_
    refine lv_aload_n hx hb dX0_given_53 rfl (lv_at hl 1 rfl) ?_
    refine lv_aload_n hx hb dX0_given_54 rfl (lv_at hl 0 rfl) ?_
    refine va_get (D := (dC, dI)) (ci := 0) (v := .int (nI (rp i))) (C := RX0) (T := TX0) (N := 4) hx hb hts in_X0 hown hK hP (10 + i) (vkW_rule (by omega)) rfl 2 (by decide) lf_15 (fun _ h9 => h9) rfl dX0_given_55 ?_
    refine hx_iald hx hb hK hP 4 2 rfl rfl (by omega) (by omega) dX0_given_58 ?_
    refine lv_aload_n hx hb dX0_given_59 rfl (lv_at hl 1 rfl) ?_
    refine lv_aload_n hx hb dX0_given_60 rfl (lv_at hl 0 rfl) ?_
    refine va_get (D := (dC, dI)) (ci := 0) (v := .int (nI (rq i))) (C := RX0) (T := TX0) (N := 4) hx hb hts in_X0 hown hK hP (10 + i) (vkW_rule (by omega)) rfl 3 (by decide) lf_18 (fun _ h9 => h9) rfl dX0_given_61 ?_
    refine hx_iald hx hb hK hP 4 2 rfl rfl (by omega) (by omega) dX0_given_64 ?_
    refine hx_read (va_runSN (As := [.int (nw (rp i)), .int (nw (rq i))]) (rest := []) ⟨hx, hb, hml, hown, hts⟩ (c_X2_joined l (nw (rp i)) (nw (rq i))) ⟨va_cnB 2 hts gX0_given_X2_joined_n25 rfl rfl rfl (hN (.methodLinkNest RX0 25 yX2_joined "ViewKeeper") (by decide +kernel)) (hts (.initialized RX2) (by decide +kernel)) (by decide +kernel) ⟨Nat.le_of_ble_eq_true rfl, Nat.le_of_ble_eq_true rfl⟩, hts (.static yX2_joined) (by decide +kernel), trivial⟩ (nu_S _) rfl rfl hl.1 rfl (lv_room (Nat.le_of_ble_eq_true rfl)) dX0_given_65 ⟨Nat.zero_le _, Nat.zero_le _⟩) ?_
    exact W.iret (v := joinM (nw (rp i)) (nw (rq i))) hx hb hr (fun t ht hW => ⟨_, rfl, by simp [givM, q_1], ht⟩) (fun _ h => by cases h) dX0_given_68
  · refine hx_eq (y := nI 3) (by rw [q_1]) ?_
    refine lv_tableIn (tgt := 69) hx hb dX0_given_4 (by decide) (by decide) (off := 65) rfl (by decide) ?_
    refine lv_aload_n hx hb dX0_given_69 rfl (lv_at hl 1 rfl) ?_
    refine lv_aload_n hx hb dX0_given_70 rfl (lv_at hl 0 rfl) ?_
    refine va_get (D := (dC, dI)) (ci := 0) (v := .int (nI (rp i))) (C := RX0) (T := TX0) (N := 4) hx hb hts in_X0 hown hK hP (10 + i) (vkW_rule (by omega)) rfl 2 (by decide) lf_15 (fun _ h9 => h9) rfl dX0_given_71 ?_
    refine hx_iald hx hb hK hP 4 2 rfl rfl (by omega) (by omega) dX0_given_74 ?_
    refine lv_aload_n hx hb dX0_given_75 rfl (lv_at hl 1 rfl) ?_
    refine lv_aload_n hx hb dX0_given_76 rfl (lv_at hl 0 rfl) ?_
    refine va_get (D := (dC, dI)) (ci := 0) (v := .int (nI (rq i))) (C := RX0) (T := TX0) (N := 4) hx hb hts in_X0 hown hK hP (10 + i) (vkW_rule (by omega)) rfl 3 (by decide) lf_18 (fun _ h9 => h9) rfl dX0_given_77 ?_
    refine hx_iald hx hb hK hP 4 2 rfl rfl (by omega) (by omega) dX0_given_80 ?_
    refine lv_iand hx hb dX0_given_81 ?_
    exact W.iret (v := (nw (rp i)) &&& (nw (rq i))) hx hb hr (fun t ht hW => ⟨_, rfl, by simp [givM, q_1], ht⟩) (fun _ h => by cases h) dX0_given_82
  · refine hx_eq (y := nI 4) (by rw [q_1]) ?_
    refine lv_tableOut (tgt := 83) hx hb dX0_given_4 (Or.inr (by decide)) (by decide) ?_
    refine lv_aload_n hx hb dX0_given_83 rfl (lv_at hl 1 rfl) ?_
    refine lv_aload_n hx hb dX0_given_84 rfl (lv_at hl 0 rfl) ?_
    refine va_get (D := (dC, dI)) (ci := 0) (v := .int (nI (rp i))) (C := RX0) (T := TX0) (N := 4) hx hb hts in_X0 hown hK hP (10 + i) (vkW_rule (by omega)) rfl 2 (by decide) lf_15 (fun _ h9 => h9) rfl dX0_given_85 ?_
    refine hx_iald hx hb hK hP 4 2 rfl rfl (by omega) (by omega) dX0_given_88 ?_
    refine lv_aload_n hx hb dX0_given_89 rfl (lv_at hl 1 rfl) ?_
    refine lv_aload_n hx hb dX0_given_90 rfl (lv_at hl 0 rfl) ?_
    refine va_get (D := (dC, dI)) (ci := 0) (v := .int (nI (rq i))) (C := RX0) (T := TX0) (N := 4) hx hb hts in_X0 hown hK hP (10 + i) (vkW_rule (by omega)) rfl 3 (by decide) lf_18 (fun _ h9 => h9) rfl dX0_given_91 ?_
    refine hx_iald hx hb hK hP 4 2 rfl rfl (by omega) (by omega) dX0_given_94 ?_
    refine lv_iconst (v := (-1)) hx hb dX0_given_95 (by decide) ?_
    refine lv_ixor hx hb dX0_given_96 ?_
    refine lv_iand hx hb dX0_given_97 ?_
    exact W.iret (v := (nw (rp i)) &&& ((nw (rq i)) ^^^ ((-1)))) hx hb hr (fun t ht hW => ⟨_, rfl, by simp [givM, q_1], ht⟩) (fun _ h => by cases h) dX0_given_98
set_option maxHeartbeats 4000000 in
set_option maxRecDepth 100000 in
theorem c_X0_given_b (l : Launch) (dC : Nat → ClassId) (dI : Nat → Nat → Nat) (a : Nat → Nat) (cA : Nat → ClassId) (n : Nat) (hd fm rp rq : Nat → Nat) (nd nw bf su sI sO ct : Nat → Int32) (i : Nat) (hy_0 : i < 12) (hy_1 : fm i ≤ 4) (hy_2 : rp i < 7) (hy_3 : rq i < 7) : RdM l yX0_given wsX0_given ({ frames := 2, cells := 0, slots := 0, locals := 46 }) (dC, dI) vwCl (vkW a cA n hd fm rp rq nd nw bf su sI sO ct) (vkT cA) nstW [.ref (a (10 + i)), .ref (a 5)] (givM (fm i) (bf (rp i)) (bf (rq i))) := by
  refine Met.ofW (cc := cX0_given) (maxL := 2) (ret := (some .int)) (by decide) rfl ?_
  intro p e s m args below meth c s₁ B hml hv
  obtain ⟨rfl, hP, hK, hN⟩ := hv
  have hx := B.exec
  have hb := B.bytes
  have hr := B.returns
  have hts := atoms_spec (ws := wsX0_given) B.pre
  have hown : s.vm.findClass RX0 = some m.cls := findClass_of_methodNamed B.named
  have hlocks := B.notSynchronized
  have lf_9 := hts (.fieldLink RX0 9 "ViewKeeper$Rule" "form" "I") (by decide +kernel)
  have in_X0 : ∀ w ∈ u_ws RX0 TX0 4, w ∈ wsX0_given := by decide +kernel
  have lf_15 := hts (.fieldLink RX0 15 "ViewKeeper$Rule" "p" "I") (by decide +kernel)
  have lf_18 := hts (.fieldLink RX0 18 "ViewKeeper$Rule" "q" "I") (by decide +kernel)
  have hl := lv_entry ([.ref (a (10 + i)), .ref (a 5)]) (n := 2) (Nat.le_of_ble_eq_true rfl)
  rw [lg_entry_eq]
  generalize (lg_sl ([.ref (a (10 + i)), .ref (a 5)]) ++ List.replicate (2 - (lg_sl ([.ref (a (10 + i)), .ref (a 5)])).length) Slot.unset).toArray = ls at hl ⊢
  have hl : lv_has ls 2 [(0, .ref (a (10 + i))), (1, .ref (a 5))] := hl
  refine lv_aload_n hx hb dX0_given_0 rfl (lv_at hl 0 rfl) ?_
  refine va_get (D := (dC, dI)) (ci := 0) (v := .int (nI (fm i))) (C := RX0) (T := TX0) (N := 4) hx hb hts in_X0 hown hK hP (10 + i) (vkW_rule (by omega)) rfl 1 (by decide) lf_9 (fun _ h9 => h9) rfl dX0_given_1 ?_
  rcases (show fm i = 0 ∨ fm i = 1 ∨ fm i = 2 ∨ fm i = 3 ∨ fm i = 4 by omega) with q_1 | q_1 | q_1 | q_1 | q_1
  · refine hx_eq (y := nI 0) (by rw [q_1]) ?_
    refine lv_tableIn (tgt := 36) hx hb dX0_given_4 (by decide) (by decide) (off := 32) rfl (by decide) ?_
    refine lv_aload_n hx hb dX0_given_36 rfl (lv_at hl 1 rfl) ?_
    refine lv_aload_n hx hb dX0_given_37 rfl (lv_at hl 0 rfl) ?_
    refine va_get (D := (dC, dI)) (ci := 0) (v := .int (nI (rp i))) (C := RX0) (T := TX0) (N := 4) hx hb hts in_X0 hown hK hP (10 + i) (vkW_rule (by omega)) rfl 2 (by decide) lf_15 (fun _ h9 => h9) rfl dX0_given_38 ?_
    refine hx_iald hx hb hK hP 5 3 rfl rfl (by omega) (by omega) dX0_given_41 ?_
    exact W.iret (v := bf (rp i)) hx hb hr (fun t ht hW => ⟨_, rfl, by simp [givM, q_1], ht⟩) (fun _ h => by cases h) dX0_given_42
  · refine hx_eq (y := nI 1) (by rw [q_1]) ?_
    refine lv_tableIn (tgt := 43) hx hb dX0_given_4 (by decide) (by decide) (off := 39) rfl (by decide) ?_
    refine lv_aload_n hx hb dX0_given_43 rfl (lv_at hl 1 rfl) ?_
    refine lv_aload_n hx hb dX0_given_44 rfl (lv_at hl 0 rfl) ?_
    refine va_get (D := (dC, dI)) (ci := 0) (v := .int (nI (rp i))) (C := RX0) (T := TX0) (N := 4) hx hb hts in_X0 hown hK hP (10 + i) (vkW_rule (by omega)) rfl 2 (by decide) lf_15 (fun _ h9 => h9) rfl dX0_given_45 ?_
    refine hx_iald hx hb hK hP 5 3 rfl rfl (by omega) (by omega) dX0_given_48 ?_
    refine hx_read (va_runSN (As := [.int (bf (rp i))]) (rest := []) ⟨hx, hb, hml, hown, hts⟩ (c_X2_turned l (bf (rp i))) ⟨va_cnB 1 hts gX0_given_X2_turned_n21 rfl rfl rfl (hN (.methodLinkNest RX0 21 yX2_turned "ViewKeeper") (by decide +kernel)) (hts (.initialized RX2) (by decide +kernel)) (by decide +kernel) ⟨Nat.le_of_ble_eq_true rfl, Nat.le_of_ble_eq_true rfl⟩, hts (.static yX2_turned) (by decide +kernel), trivial⟩ (nu_S _) rfl rfl hl.1 rfl (lv_room (Nat.le_of_ble_eq_true rfl)) dX0_given_49 ⟨Nat.zero_le _, Nat.zero_le _⟩) ?_
    exact W.iret (v := turnM (bf (rp i))) hx hb hr (fun t ht hW => ⟨_, rfl, by simp [givM, q_1], ht⟩) (fun _ h => by cases h) dX0_given_52
  · refine hx_eq (y := nI 2) (by rw [q_1]) ?_
    refine lv_tableIn (tgt := 53) hx hb dX0_given_4 (by decide) (by decide) (off := 49) rfl (by decide) ?_
    refine lv_aload_n hx hb dX0_given_53 rfl (lv_at hl 1 rfl) ?_
    refine lv_aload_n hx hb dX0_given_54 rfl (lv_at hl 0 rfl) ?_
    refine va_get (D := (dC, dI)) (ci := 0) (v := .int (nI (rp i))) (C := RX0) (T := TX0) (N := 4) hx hb hts in_X0 hown hK hP (10 + i) (vkW_rule (by omega)) rfl 2 (by decide) lf_15 (fun _ h9 => h9) rfl dX0_given_55 ?_
    refine hx_iald hx hb hK hP 5 3 rfl rfl (by omega) (by omega) dX0_given_58 ?_
    refine lv_aload_n hx hb dX0_given_59 rfl (lv_at hl 1 rfl) ?_
    refine lv_aload_n hx hb dX0_given_60 rfl (lv_at hl 0 rfl) ?_
    refine va_get (D := (dC, dI)) (ci := 0) (v := .int (nI (rq i))) (C := RX0) (T := TX0) (N := 4) hx hb hts in_X0 hown hK hP (10 + i) (vkW_rule (by omega)) rfl 3 (by decide) lf_18 (fun _ h9 => h9) rfl dX0_given_61 ?_
    refine hx_iald hx hb hK hP 5 3 rfl rfl (by omega) (by omega) dX0_given_64 ?_
    refine hx_read (va_runSN (As := [.int (bf (rp i)), .int (bf (rq i))]) (rest := []) ⟨hx, hb, hml, hown, hts⟩ (c_X2_joined l (bf (rp i)) (bf (rq i))) ⟨va_cnB 2 hts gX0_given_X2_joined_n25 rfl rfl rfl (hN (.methodLinkNest RX0 25 yX2_joined "ViewKeeper") (by decide +kernel)) (hts (.initialized RX2) (by decide +kernel)) (by decide +kernel) ⟨Nat.le_of_ble_eq_true rfl, Nat.le_of_ble_eq_true rfl⟩, hts (.static yX2_joined) (by decide +kernel), trivial⟩ (nu_S _) rfl rfl hl.1 rfl (lv_room (Nat.le_of_ble_eq_true rfl)) dX0_given_65 ⟨Nat.zero_le _, Nat.zero_le _⟩) ?_
    exact W.iret (v := joinM (bf (rp i)) (bf (rq i))) hx hb hr (fun t ht hW => ⟨_, rfl, by simp [givM, q_1], ht⟩) (fun _ h => by cases h) dX0_given_68
  · refine hx_eq (y := nI 3) (by rw [q_1]) ?_
    refine lv_tableIn (tgt := 69) hx hb dX0_given_4 (by decide) (by decide) (off := 65) rfl (by decide) ?_
    refine lv_aload_n hx hb dX0_given_69 rfl (lv_at hl 1 rfl) ?_
    refine lv_aload_n hx hb dX0_given_70 rfl (lv_at hl 0 rfl) ?_
    refine va_get (D := (dC, dI)) (ci := 0) (v := .int (nI (rp i))) (C := RX0) (T := TX0) (N := 4) hx hb hts in_X0 hown hK hP (10 + i) (vkW_rule (by omega)) rfl 2 (by decide) lf_15 (fun _ h9 => h9) rfl dX0_given_71 ?_
    refine hx_iald hx hb hK hP 5 3 rfl rfl (by omega) (by omega) dX0_given_74 ?_
    refine lv_aload_n hx hb dX0_given_75 rfl (lv_at hl 1 rfl) ?_
    refine lv_aload_n hx hb dX0_given_76 rfl (lv_at hl 0 rfl) ?_
    refine va_get (D := (dC, dI)) (ci := 0) (v := .int (nI (rq i))) (C := RX0) (T := TX0) (N := 4) hx hb hts in_X0 hown hK hP (10 + i) (vkW_rule (by omega)) rfl 3 (by decide) lf_18 (fun _ h9 => h9) rfl dX0_given_77 ?_
    refine hx_iald hx hb hK hP 5 3 rfl rfl (by omega) (by omega) dX0_given_80 ?_
    refine lv_iand hx hb dX0_given_81 ?_
    exact W.iret (v := (bf (rp i)) &&& (bf (rq i))) hx hb hr (fun t ht hW => ⟨_, rfl, by simp [givM, q_1], ht⟩) (fun _ h => by cases h) dX0_given_82
  · refine hx_eq (y := nI 4) (by rw [q_1]) ?_
    refine lv_tableOut (tgt := 83) hx hb dX0_given_4 (Or.inr (by decide)) (by decide) ?_
    refine lv_aload_n hx hb dX0_given_83 rfl (lv_at hl 1 rfl) ?_
    refine lv_aload_n hx hb dX0_given_84 rfl (lv_at hl 0 rfl) ?_
    refine va_get (D := (dC, dI)) (ci := 0) (v := .int (nI (rp i))) (C := RX0) (T := TX0) (N := 4) hx hb hts in_X0 hown hK hP (10 + i) (vkW_rule (by omega)) rfl 2 (by decide) lf_15 (fun _ h9 => h9) rfl dX0_given_85 ?_
    refine hx_iald hx hb hK hP 5 3 rfl rfl (by omega) (by omega) dX0_given_88 ?_
    refine lv_aload_n hx hb dX0_given_89 rfl (lv_at hl 1 rfl) ?_
    refine lv_aload_n hx hb dX0_given_90 rfl (lv_at hl 0 rfl) ?_
    refine va_get (D := (dC, dI)) (ci := 0) (v := .int (nI (rq i))) (C := RX0) (T := TX0) (N := 4) hx hb hts in_X0 hown hK hP (10 + i) (vkW_rule (by omega)) rfl 3 (by decide) lf_18 (fun _ h9 => h9) rfl dX0_given_91 ?_
    refine hx_iald hx hb hK hP 5 3 rfl rfl (by omega) (by omega) dX0_given_94 ?_
    refine lv_iconst (v := (-1)) hx hb dX0_given_95 (by decide) ?_
    refine lv_ixor hx hb dX0_given_96 ?_
    refine lv_iand hx hb dX0_given_97 ?_
    exact W.iret (v := (bf (rp i)) &&& ((bf (rq i)) ^^^ ((-1)))) hx hb hr (fun t ht hW => ⟨_, rfl, by simp [givM, q_1], ht⟩) (fun _ h => by cases h) dX0_given_98
set_option maxHeartbeats 4000000 in
set_option maxRecDepth 100000 in
theorem c_X0_ways (l : Launch) (dC : Nat → ClassId) (dI : Nat → Nat → Nat) (a : Nat → Nat) (cA : Nat → ClassId) (n : Nat) (hd fm rp rq : Nat → Nat) (nd nw bf su sI sO ct : Nat → Int32) (i : Nat) (hy_0 : i < 12) (hy_1 : fm i ≤ 4) (hy_2 : rp i < 7) (hy_3 : rq i < 7) : RdM l yX0_ways wsX0_ways ({ frames := 0, cells := 0, slots := 0, locals := 0 }) (dC, dI) vwCl (vkW a cA n hd fm rp rq nd nw bf su sI sO ct) (vkT cA) nstW [.ref (a (10 + i))] (nI (wayM (fm i))) := by
  refine Met.ofW (cc := cX0_ways) (maxL := 1) (ret := (some .int)) (by decide) rfl ?_
  intro p e s m args below meth c s₁ B hml hv
  obtain ⟨rfl, hP, hK, hN⟩ := hv
  have hx := B.exec
  have hb := B.bytes
  have hr := B.returns
  have hts := atoms_spec (ws := wsX0_ways) B.pre
  have hown : s.vm.findClass RX0 = some m.cls := findClass_of_methodNamed B.named
  have hlocks := B.notSynchronized
  have lf_9 := hts (.fieldLink RX0 9 "ViewKeeper$Rule" "form" "I") (by decide +kernel)
  have in_X0 : ∀ w ∈ u_ws RX0 TX0 4, w ∈ wsX0_ways := by decide +kernel
  have hl := lv_entry ([.ref (a (10 + i))]) (n := 1) (Nat.le_of_ble_eq_true rfl)
  rw [lg_entry_eq]
  generalize (lg_sl ([.ref (a (10 + i))]) ++ List.replicate (1 - (lg_sl ([.ref (a (10 + i))])).length) Slot.unset).toArray = ls at hl ⊢
  have hl : lv_has ls 1 [(0, .ref (a (10 + i)))] := hl
  refine lv_aload_n hx hb dX0_ways_0 rfl (lv_at hl 0 rfl) ?_
  refine va_get (D := (dC, dI)) (ci := 0) (v := .int (nI (fm i))) (C := RX0) (T := TX0) (N := 4) hx hb hts in_X0 hown hK hP (10 + i) (vkW_rule (by omega)) rfl 1 (by decide) lf_9 (fun _ h9 => h9) rfl dX0_ways_1 ?_
  refine lv_iconst (v := nI 2) hx hb dX0_ways_4 (by decide) ?_
  refine hx_neN (tgt := 12) hx hb dX0_ways_5 (by decide) (by omega) (by omega) (fun c_1 => ?_) (fun c_1 => ?_)
  · refine lv_iconst (v := nI 1) hx hb dX0_ways_12 (by decide) ?_
    exact W.iret (v := nI 1) hx hb hr (fun t ht hW => ⟨_, rfl, by first | (rw [wayM, if_pos c_1] <;> rfl) | (rw [wayM, if_neg c_1] <;> rfl), ht⟩) (fun _ h => by cases h) dX0_ways_13
  · refine lv_iconst (v := nI 5) hx hb dX0_ways_8 (by decide) ?_
    refine lv_goto (tgt := 13) hx hb dX0_ways_9 (by decide) ?_
    exact W.iret (v := nI 5) hx hb hr (fun t ht hW => ⟨_, rfl, by first | (rw [wayM, if_pos c_1] <;> rfl) | (rw [wayM, if_neg c_1] <;> rfl), ht⟩) (fun _ h => by cases h) dX0_ways_13
set_option maxHeartbeats 4000000 in
set_option maxRecDepth 100000 in
theorem c_X0_givenBy (l : Launch) (dC : Nat → ClassId) (dI : Nat → Nat → Nat) (a : Nat → Nat) (cA : Nat → ClassId) (n : Nat) (hd fm rp rq : Nat → Nat) (nd nw bf su sI sO ct : Nat → Int32) (i w : Nat) (hy_0 : i < 12) (hy_1 : fm i ≤ 4) (hy_2 : rp i < 7) (hy_3 : rq i < 7) : RdM l yX0_givenBy wsX0_givenBy ({ frames := 3, cells := 0, slots := 0, locals := 67 }) (dC, dI) vwCl (vkW a cA n hd fm rp rq nd nw bf su sI sO ct) (vkT cA) nstW [.ref (a (10 + i)), .int (nI w), .ref (a 4)] (gbyM (fm i) w (nw (rp i)) (nw (rq i))) := by
  refine Met.ofW (cc := cX0_givenBy) (maxL := 3) (ret := (some .int)) (by decide) rfl ?_
  intro p e s m args below meth c s₁ B hml hv
  obtain ⟨rfl, hP, hK, hN⟩ := hv
  have hx := B.exec
  have hb := B.bytes
  have hr := B.returns
  have hts := atoms_spec (ws := wsX0_givenBy) B.pre
  have hown : s.vm.findClass RX0 = some m.cls := findClass_of_methodNamed B.named
  have hlocks := B.notSynchronized
  have lf_9 := hts (.fieldLink RX0 9 "ViewKeeper$Rule" "form" "I") (by decide +kernel)
  have in_X0 : ∀ w ∈ u_ws RX0 TX0 4, w ∈ wsX0_givenBy := by decide +kernel
  have lf_15 := hts (.fieldLink RX0 15 "ViewKeeper$Rule" "p" "I") (by decide +kernel)
  have lf_18 := hts (.fieldLink RX0 18 "ViewKeeper$Rule" "q" "I") (by decide +kernel)
  have hl := lv_entry ([.ref (a (10 + i)), .int (nI w), .ref (a 4)]) (n := 3) (Nat.le_of_ble_eq_true rfl)
  rw [lg_entry_eq]
  generalize (lg_sl ([.ref (a (10 + i)), .int (nI w), .ref (a 4)]) ++ List.replicate (3 - (lg_sl ([.ref (a (10 + i)), .int (nI w), .ref (a 4)])).length) Slot.unset).toArray = ls at hl ⊢
  have hl : lv_has ls 3 [(0, .ref (a (10 + i))), (1, .int (nI w)), (2, .ref (a 4))] := hl
  refine lv_aload_n hx hb dX0_givenBy_0 rfl (lv_at hl 0 rfl) ?_
  refine va_get (D := (dC, dI)) (ci := 0) (v := .int (nI (fm i))) (C := RX0) (T := TX0) (N := 4) hx hb hts in_X0 hown hK hP (10 + i) (vkW_rule (by omega)) rfl 1 (by decide) lf_9 (fun _ h9 => h9) rfl dX0_givenBy_1 ?_
  refine lv_iconst (v := nI 2) hx hb dX0_givenBy_4 (by decide) ?_
  refine hx_neN (tgt := 31) hx hb dX0_givenBy_5 (by decide) (by omega) (by omega) (fun c_1 => ?_) (fun c_1 => ?_)
  · refine lv_aload_n hx hb dX0_givenBy_31 rfl (lv_at hl 0 rfl) ?_
    refine lv_aload_n hx hb dX0_givenBy_32 rfl (lv_at hl 2 rfl) ?_
    refine hx_read (va_runV (As := [.ref (a 4)]) (rest := []) ⟨hx, hb, hml, hown, hts⟩ (c_X0_given l dC dI a cA n hd fm rp rq nd nw bf su sI sO ct i (by omega) (by omega) (by omega) (by omega)) (cwV 1 hts gX0_givenBy_X0_given rfl rfl rfl (by decide +kernel) ⟨Nat.le_of_ble_eq_true rfl, Nat.le_of_ble_eq_true rfl⟩) (rd_V nstW_ok hP hK hN (10 + i) (vkW_rule (by omega)) rfl _) rfl rfl hl.1 rfl (lv_room (Nat.le_of_ble_eq_true rfl)) dX0_givenBy_33 ⟨Nat.zero_le _, Nat.zero_le _⟩) ?_
    exact W.iret (v := givM (fm i) (nw (rp i)) (nw (rq i))) hx hb hr (fun t ht hW => ⟨_, rfl, by first | (rw [gbyM, if_pos c_1] <;> rfl) | (rw [gbyM, if_neg c_1] <;> rfl), ht⟩) (fun _ h => by cases h) dX0_givenBy_36
  · refine lv_aload_n hx hb dX0_givenBy_8 rfl (lv_at hl 2 rfl) ?_
    refine lv_aload_n hx hb dX0_givenBy_9 rfl (lv_at hl 0 rfl) ?_
    refine va_get (D := (dC, dI)) (ci := 0) (v := .int (nI (rp i))) (C := RX0) (T := TX0) (N := 4) hx hb hts in_X0 hown hK hP (10 + i) (vkW_rule (by omega)) rfl 2 (by decide) lf_15 (fun _ h9 => h9) rfl dX0_givenBy_10 ?_
    refine hx_iald hx hb hK hP 4 2 rfl rfl (by omega) (by omega) dX0_givenBy_13 ?_
    refine lv_ldc (v := 1082401) hx hb hown (hts (.constant RX0 29 (1082401)) (by decide +kernel)) dX0_givenBy_14 ?_
    refine lv_iload_n hx hb dX0_givenBy_16 rfl (lv_at hl 1 rfl) ?_
    refine lv_ishl hx hb dX0_givenBy_17 ?_
    refine lv_iand hx hb dX0_givenBy_18 ?_
    refine lv_aload_n hx hb dX0_givenBy_19 rfl (lv_at hl 2 rfl) ?_
    refine lv_aload_n hx hb dX0_givenBy_20 rfl (lv_at hl 0 rfl) ?_
    refine va_get (D := (dC, dI)) (ci := 0) (v := .int (nI (rq i))) (C := RX0) (T := TX0) (N := 4) hx hb hts in_X0 hown hK hP (10 + i) (vkW_rule (by omega)) rfl 3 (by decide) lf_18 (fun _ h9 => h9) rfl dX0_givenBy_21 ?_
    refine hx_iald hx hb hK hP 4 2 rfl rfl (by omega) (by omega) dX0_givenBy_24 ?_
    refine hx_read (va_runSN (As := [.int ((nw (rp i)) &&& (1082401 <<< (nI w &&& 31))), .int (nw (rq i))]) (rest := []) ⟨hx, hb, hml, hown, hts⟩ (c_X2_joined l ((nw (rp i)) &&& (1082401 <<< (nI w &&& 31))) (nw (rq i))) ⟨va_cnB 2 hts gX0_givenBy_X2_joined_n25 rfl rfl rfl (hN (.methodLinkNest RX0 25 yX2_joined "ViewKeeper") (by decide +kernel)) (hts (.initialized RX2) (by decide +kernel)) (by decide +kernel) ⟨Nat.le_of_ble_eq_true rfl, Nat.le_of_ble_eq_true rfl⟩, hts (.static yX2_joined) (by decide +kernel), trivial⟩ (nu_S _) rfl rfl hl.1 rfl (lv_room (Nat.le_of_ble_eq_true rfl)) dX0_givenBy_25 ⟨Nat.zero_le _, Nat.zero_le _⟩) ?_
    refine lv_goto (tgt := 36) hx hb dX0_givenBy_28 (by decide) ?_
    exact W.iret (v := joinM ((nw (rp i)) &&& (1082401 <<< (nI w &&& 31))) (nw (rq i))) hx hb hr (fun t ht hW => ⟨_, rfl, by first | (rw [gbyM, if_pos c_1] <;> rfl) | (rw [gbyM, if_neg c_1] <;> rfl), ht⟩) (fun _ h => by cases h) dX0_givenBy_36
set_option maxHeartbeats 4000000 in
set_option maxRecDepth 100000 in
theorem c_X0_givenBy_b (l : Launch) (dC : Nat → ClassId) (dI : Nat → Nat → Nat) (a : Nat → Nat) (cA : Nat → ClassId) (n : Nat) (hd fm rp rq : Nat → Nat) (nd nw bf su sI sO ct : Nat → Int32) (i w : Nat) (hy_0 : i < 12) (hy_1 : fm i ≤ 4) (hy_2 : rp i < 7) (hy_3 : rq i < 7) : RdM l yX0_givenBy wsX0_givenBy ({ frames := 3, cells := 0, slots := 0, locals := 67 }) (dC, dI) vwCl (vkW a cA n hd fm rp rq nd nw bf su sI sO ct) (vkT cA) nstW [.ref (a (10 + i)), .int (nI w), .ref (a 5)] (gbyM (fm i) w (bf (rp i)) (bf (rq i))) := by
  refine Met.ofW (cc := cX0_givenBy) (maxL := 3) (ret := (some .int)) (by decide) rfl ?_
  intro p e s m args below meth c s₁ B hml hv
  obtain ⟨rfl, hP, hK, hN⟩ := hv
  have hx := B.exec
  have hb := B.bytes
  have hr := B.returns
  have hts := atoms_spec (ws := wsX0_givenBy) B.pre
  have hown : s.vm.findClass RX0 = some m.cls := findClass_of_methodNamed B.named
  have hlocks := B.notSynchronized
  have lf_9 := hts (.fieldLink RX0 9 "ViewKeeper$Rule" "form" "I") (by decide +kernel)
  have in_X0 : ∀ w ∈ u_ws RX0 TX0 4, w ∈ wsX0_givenBy := by decide +kernel
  have lf_15 := hts (.fieldLink RX0 15 "ViewKeeper$Rule" "p" "I") (by decide +kernel)
  have lf_18 := hts (.fieldLink RX0 18 "ViewKeeper$Rule" "q" "I") (by decide +kernel)
  have hl := lv_entry ([.ref (a (10 + i)), .int (nI w), .ref (a 5)]) (n := 3) (Nat.le_of_ble_eq_true rfl)
  rw [lg_entry_eq]
  generalize (lg_sl ([.ref (a (10 + i)), .int (nI w), .ref (a 5)]) ++ List.replicate (3 - (lg_sl ([.ref (a (10 + i)), .int (nI w), .ref (a 5)])).length) Slot.unset).toArray = ls at hl ⊢
  have hl : lv_has ls 3 [(0, .ref (a (10 + i))), (1, .int (nI w)), (2, .ref (a 5))] := hl
  refine lv_aload_n hx hb dX0_givenBy_0 rfl (lv_at hl 0 rfl) ?_
  refine va_get (D := (dC, dI)) (ci := 0) (v := .int (nI (fm i))) (C := RX0) (T := TX0) (N := 4) hx hb hts in_X0 hown hK hP (10 + i) (vkW_rule (by omega)) rfl 1 (by decide) lf_9 (fun _ h9 => h9) rfl dX0_givenBy_1 ?_
  refine lv_iconst (v := nI 2) hx hb dX0_givenBy_4 (by decide) ?_
  refine hx_neN (tgt := 31) hx hb dX0_givenBy_5 (by decide) (by omega) (by omega) (fun c_1 => ?_) (fun c_1 => ?_)
  · refine lv_aload_n hx hb dX0_givenBy_31 rfl (lv_at hl 0 rfl) ?_
    refine lv_aload_n hx hb dX0_givenBy_32 rfl (lv_at hl 2 rfl) ?_
    refine hx_read (va_runV (As := [.ref (a 5)]) (rest := []) ⟨hx, hb, hml, hown, hts⟩ (c_X0_given_b l dC dI a cA n hd fm rp rq nd nw bf su sI sO ct i (by omega) (by omega) (by omega) (by omega)) (cwV 1 hts gX0_givenBy_X0_given rfl rfl rfl (by decide +kernel) ⟨Nat.le_of_ble_eq_true rfl, Nat.le_of_ble_eq_true rfl⟩) (rd_V nstW_ok hP hK hN (10 + i) (vkW_rule (by omega)) rfl _) rfl rfl hl.1 rfl (lv_room (Nat.le_of_ble_eq_true rfl)) dX0_givenBy_33 ⟨Nat.zero_le _, Nat.zero_le _⟩) ?_
    exact W.iret (v := givM (fm i) (bf (rp i)) (bf (rq i))) hx hb hr (fun t ht hW => ⟨_, rfl, by first | (rw [gbyM, if_pos c_1] <;> rfl) | (rw [gbyM, if_neg c_1] <;> rfl), ht⟩) (fun _ h => by cases h) dX0_givenBy_36
  · refine lv_aload_n hx hb dX0_givenBy_8 rfl (lv_at hl 2 rfl) ?_
    refine lv_aload_n hx hb dX0_givenBy_9 rfl (lv_at hl 0 rfl) ?_
    refine va_get (D := (dC, dI)) (ci := 0) (v := .int (nI (rp i))) (C := RX0) (T := TX0) (N := 4) hx hb hts in_X0 hown hK hP (10 + i) (vkW_rule (by omega)) rfl 2 (by decide) lf_15 (fun _ h9 => h9) rfl dX0_givenBy_10 ?_
    refine hx_iald hx hb hK hP 5 3 rfl rfl (by omega) (by omega) dX0_givenBy_13 ?_
    refine lv_ldc (v := 1082401) hx hb hown (hts (.constant RX0 29 (1082401)) (by decide +kernel)) dX0_givenBy_14 ?_
    refine lv_iload_n hx hb dX0_givenBy_16 rfl (lv_at hl 1 rfl) ?_
    refine lv_ishl hx hb dX0_givenBy_17 ?_
    refine lv_iand hx hb dX0_givenBy_18 ?_
    refine lv_aload_n hx hb dX0_givenBy_19 rfl (lv_at hl 2 rfl) ?_
    refine lv_aload_n hx hb dX0_givenBy_20 rfl (lv_at hl 0 rfl) ?_
    refine va_get (D := (dC, dI)) (ci := 0) (v := .int (nI (rq i))) (C := RX0) (T := TX0) (N := 4) hx hb hts in_X0 hown hK hP (10 + i) (vkW_rule (by omega)) rfl 3 (by decide) lf_18 (fun _ h9 => h9) rfl dX0_givenBy_21 ?_
    refine hx_iald hx hb hK hP 5 3 rfl rfl (by omega) (by omega) dX0_givenBy_24 ?_
    refine hx_read (va_runSN (As := [.int ((bf (rp i)) &&& (1082401 <<< (nI w &&& 31))), .int (bf (rq i))]) (rest := []) ⟨hx, hb, hml, hown, hts⟩ (c_X2_joined l ((bf (rp i)) &&& (1082401 <<< (nI w &&& 31))) (bf (rq i))) ⟨va_cnB 2 hts gX0_givenBy_X2_joined_n25 rfl rfl rfl (hN (.methodLinkNest RX0 25 yX2_joined "ViewKeeper") (by decide +kernel)) (hts (.initialized RX2) (by decide +kernel)) (by decide +kernel) ⟨Nat.le_of_ble_eq_true rfl, Nat.le_of_ble_eq_true rfl⟩, hts (.static yX2_joined) (by decide +kernel), trivial⟩ (nu_S _) rfl rfl hl.1 rfl (lv_room (Nat.le_of_ble_eq_true rfl)) dX0_givenBy_25 ⟨Nat.zero_le _, Nat.zero_le _⟩) ?_
    refine lv_goto (tgt := 36) hx hb dX0_givenBy_28 (by decide) ?_
    exact W.iret (v := joinM ((bf (rp i)) &&& (1082401 <<< (nI w &&& 31))) (bf (rq i))) hx hb hr (fun t ht hW => ⟨_, rfl, by first | (rw [gbyM, if_pos c_1] <;> rfl) | (rw [gbyM, if_neg c_1] <;> rfl), ht⟩) (fun _ h => by cases h) dX0_givenBy_36
set_option maxHeartbeats 4000000 in
set_option maxRecDepth 100000 in
theorem c_X1_leadsTo (l : Launch) (dC : Nat → ClassId) (dI : Nat → Nat → Nat) (a : Nat → Nat) (cA : Nat → ClassId) (n : Nat) (hd fm rp rq : Nat → Nat) (nd nw bf su sI sO ct : Nat → Int32) (f t : Nat) (hy_0 : f < 7) (hy_1 : t < 7) : RdM l yX1_leadsTo wsX1_leadsTo ({ frames := 0, cells := 0, slots := 0, locals := 0 }) (dC, dI) vwCl (vkW a cA n hd fm rp rq nd nw bf su sI sO ct) (vkT cA) nstW [.ref (a 1), .int (nI f), .int (nI t)] (bI (bt (nd f) t)) := by
  refine Met.ofW (cc := cX1_leadsTo) (maxL := 3) (ret := (some .boolean)) (by decide) rfl ?_
  intro p e s m args below meth c s₁ B hml hv
  obtain ⟨rfl, hP, hK, hN⟩ := hv
  have hx := B.exec
  have hb := B.bytes
  have hr := B.returns
  have hts := atoms_spec (ws := wsX1_leadsTo) B.pre
  have hown : s.vm.findClass RX1 = some m.cls := findClass_of_methodNamed B.named
  have hlocks := B.notSynchronized
  have lf_18 := hts (.fieldLink RX1 18 "ViewKeeper$RuleBook" "needed" "[I") (by decide +kernel)
  have in_X1 : ∀ w ∈ u_ws RX1 TX1 3, w ∈ wsX1_leadsTo := by decide +kernel
  have hl := lv_entry ([.ref (a 1), .int (nI f), .int (nI t)]) (n := 3) (Nat.le_of_ble_eq_true rfl)
  rw [lg_entry_eq]
  generalize (lg_sl ([.ref (a 1), .int (nI f), .int (nI t)]) ++ List.replicate (3 - (lg_sl ([.ref (a 1), .int (nI f), .int (nI t)])).length) Slot.unset).toArray = ls at hl ⊢
  have hl : lv_has ls 3 [(0, .ref (a 1)), (1, .int (nI f)), (2, .int (nI t))] := hl
  refine lv_aload_n hx hb dX1_leadsTo_0 rfl (lv_at hl 0 rfl) ?_
  refine va_get (D := (dC, dI)) (ci := 1) (v := .ref (a 3)) (C := RX1) (T := TX1) (N := 3) hx hb hts in_X1 hown hK hP 1 rfl rfl 1 (by decide) lf_18 (fun _ h9 => h9) rfl dX1_leadsTo_1 ?_
  refine lv_iload_n hx hb dX1_leadsTo_4 rfl (lv_at hl 1 rfl) ?_
  refine hx_iald hx hb hK hP 3 1 rfl rfl (by omega) (by omega) dX1_leadsTo_5 ?_
  refine lv_iconst (v := nI 1) hx hb dX1_leadsTo_6 (by decide) ?_
  refine lv_iload_n hx hb dX1_leadsTo_7 rfl (lv_at hl 2 rfl) ?_
  refine lv_ishl hx hb dX1_leadsTo_8 ?_
  refine hx_eq (y := bm t) rfl ?_
  refine lv_iand hx hb dX1_leadsTo_9 ?_
  refine lv_if_eq (tgt := 17) hx hb dX1_leadsTo_10 (by decide) (fun c_1 => ?_) (fun c_1 => ?_)
  · refine lv_iconst (v := nI 0) hx hb dX1_leadsTo_17 (by decide) ?_
    exact W.zret (v := nI 0) hx hb hr rfl (fun t ht hW => ⟨_, rfl, by rw [and_bm0 (by omega) c_1]; rfl, ht⟩) (fun _ h => by cases h) dX1_leadsTo_18
  · refine lv_iconst (v := nI 1) hx hb dX1_leadsTo_13 (by decide) ?_
    refine lv_goto (tgt := 18) hx hb dX1_leadsTo_14 (by decide) ?_
    exact W.zret (v := nI 1) hx hb hr rfl (fun t ht hW => ⟨_, rfl, by rw [and_bm1 (by omega) c_1]; rfl, ht⟩) (fun _ h => by cases h) dX1_leadsTo_18
set_option maxHeartbeats 4000000 in
set_option maxRecDepth 100000 in
theorem c_X1_leadsBack (l : Launch) (dC : Nat → ClassId) (dI : Nat → Nat → Nat) (a : Nat → Nat) (cA : Nat → ClassId) (n : Nat) (hd fm rp rq : Nat → Nat) (nd nw bf su sI sO ct : Nat → Int32) (f : Nat) (hy_0 : f < 7) : RdM l yX1_leadsBack wsX1_leadsBack ({ frames := 1, cells := 0, slots := 0, locals := 22 }) (dC, dI) vwCl (vkW a cA n hd fm rp rq nd nw bf su sI sO ct) (vkT cA) nstW [.ref (a 1), .int (nI f)] (bI (bt (nd f) f)) := by
  refine Met.ofW (cc := cX1_leadsBack) (maxL := 2) (ret := (some .boolean)) (by decide) rfl ?_
  intro p e s m args below meth c s₁ B hml hv
  obtain ⟨rfl, hP, hK, hN⟩ := hv
  have hx := B.exec
  have hb := B.bytes
  have hr := B.returns
  have hts := atoms_spec (ws := wsX1_leadsBack) B.pre
  have hown : s.vm.findClass RX1 = some m.cls := findClass_of_methodNamed B.named
  have hlocks := B.notSynchronized
  have hl := lv_entry ([.ref (a 1), .int (nI f)]) (n := 2) (Nat.le_of_ble_eq_true rfl)
  rw [lg_entry_eq]
  generalize (lg_sl ([.ref (a 1), .int (nI f)]) ++ List.replicate (2 - (lg_sl ([.ref (a 1), .int (nI f)])).length) Slot.unset).toArray = ls at hl ⊢
  have hl : lv_has ls 2 [(0, .ref (a 1)), (1, .int (nI f))] := hl
  refine lv_aload_n hx hb dX1_leadsBack_0 rfl (lv_at hl 0 rfl) ?_
  refine lv_iload_n hx hb dX1_leadsBack_1 rfl (lv_at hl 1 rfl) ?_
  refine lv_iload_n hx hb dX1_leadsBack_2 rfl (lv_at hl 1 rfl) ?_
  refine hx_read (va_runV (As := [.int (nI f), .int (nI f)]) (rest := []) ⟨hx, hb, hml, hown, hts⟩ (c_X1_leadsTo l dC dI a cA n hd fm rp rq nd nw bf su sI sO ct f f (by omega) (by omega)) (cwV 2 hts gX1_leadsBack_X1_leadsTo rfl rfl rfl (by decide +kernel) ⟨Nat.le_of_ble_eq_true rfl, Nat.le_of_ble_eq_true rfl⟩) (rd_V nstW_ok hP hK hN 1 rfl rfl _) rfl rfl hl.1 rfl (lv_room (Nat.le_of_ble_eq_true rfl)) dX1_leadsBack_3 ⟨Nat.zero_le _, Nat.zero_le _⟩) ?_
  exact W.zret (v := bI (bt (nd f) f)) hx hb hr (nar_bI _) (fun t ht hW => ⟨_, rfl, rfl, ht⟩) (fun _ h => by cases h) dX1_leadsBack_6
set_option maxHeartbeats 4000000 in
set_option maxRecDepth 100000 in
theorem c_J6_bitCount_0f7a4 (l : Launch) (p0 : Int32)  : NuM l yJ6_bitCount_0f7a4 wsJ6_bitCount_0f7a4 ({ frames := 0, cells := 0, slots := 0, locals := 0 }) [.int (p0)] (nI (cntB p0 32)) := by
  refine va_MetF (cc := cJ6_bitCount_0f7a4) (maxL := 1) (ret := (some .int)) (by decide) rfl ?_
  intro p e s m args below meth c s₁ B hml hv
  obtain ⟨rfl, -⟩ := hv
  have hx := B.exec
  have hb := B.bytes
  have hr := B.returns
  have hts := atoms_spec (ws := wsJ6_bitCount_0f7a4) B.pre
  have hown : s.vm.findClass RJ6 = some m.cls := findClass_of_methodNamed B.named
  have hlocks := B.notSynchronized
  have hl := lv_entry ([.int (p0)]) (n := 1) (Nat.le_of_ble_eq_true rfl)
  rw [lg_entry_eq]
  generalize (lg_sl ([.int (p0)]) ++ List.replicate (1 - (lg_sl ([.int (p0)])).length) Slot.unset).toArray = ls at hl ⊢
  have hl : lv_has ls 1 [(0, .int (p0))] := hl
  refine lv_iload_n hx hb dJ6_bitCount_0f7a4_0 rfl (lv_at hl 0 rfl) ?_
  refine lv_iload_n hx hb dJ6_bitCount_0f7a4_1 rfl (lv_at hl 0 rfl) ?_
  refine lv_iconst (v := nI 1) hx hb dJ6_bitCount_0f7a4_2 (by decide) ?_
  refine lv_iushr hx hb dJ6_bitCount_0f7a4_3 rfl ?_
  refine lv_ldcw (v := 1431655765) hx hb hown (hts (.constant RJ6 265 (1431655765)) (by decide +kernel)) dJ6_bitCount_0f7a4_4 ?_
  refine lv_iand hx hb dJ6_bitCount_0f7a4_7 ?_
  refine lv_isub hx hb dJ6_bitCount_0f7a4_8 ?_
  refine hx_eq (y := bc1 p0) (rfl) ?_
  refine lv_istore_n (lv' := [(0, .int (bc1 p0))]) hx hb dJ6_bitCount_0f7a4_9 rfl hl (by decide) rfl (fun ls hl => ?_)
  refine lv_iload_n hx hb dJ6_bitCount_0f7a4_10 rfl (lv_at hl 0 rfl) ?_
  refine lv_ldcw (v := 858993459) hx hb hown (hts (.constant RJ6 266 (858993459)) (by decide +kernel)) dJ6_bitCount_0f7a4_11 ?_
  refine lv_iand hx hb dJ6_bitCount_0f7a4_14 ?_
  refine lv_iload_n hx hb dJ6_bitCount_0f7a4_15 rfl (lv_at hl 0 rfl) ?_
  refine lv_iconst (v := nI 2) hx hb dJ6_bitCount_0f7a4_16 (by decide) ?_
  refine lv_iushr hx hb dJ6_bitCount_0f7a4_17 rfl ?_
  refine lv_ldcw (v := 858993459) hx hb hown (hts (.constant RJ6 266 (858993459)) (by decide +kernel)) dJ6_bitCount_0f7a4_18 ?_
  refine lv_iand hx hb dJ6_bitCount_0f7a4_21 ?_
  refine lv_iadd hx hb dJ6_bitCount_0f7a4_22 ?_
  refine hx_eq (y := bc2' p0) (rfl) ?_
  refine lv_istore_n (lv' := [(0, .int (bc2' p0))]) hx hb dJ6_bitCount_0f7a4_23 rfl hl (by decide) rfl (fun ls hl => ?_)
  refine lv_iload_n hx hb dJ6_bitCount_0f7a4_24 rfl (lv_at hl 0 rfl) ?_
  refine lv_iload_n hx hb dJ6_bitCount_0f7a4_25 rfl (lv_at hl 0 rfl) ?_
  refine lv_iconst (v := nI 4) hx hb dJ6_bitCount_0f7a4_26 (by decide) ?_
  refine lv_iushr hx hb dJ6_bitCount_0f7a4_27 rfl ?_
  refine lv_iadd hx hb dJ6_bitCount_0f7a4_28 ?_
  refine lv_ldcw (v := 252645135) hx hb hown (hts (.constant RJ6 267 (252645135)) (by decide +kernel)) dJ6_bitCount_0f7a4_29 ?_
  refine lv_iand hx hb dJ6_bitCount_0f7a4_32 ?_
  refine hx_eq (y := bc3 p0) (rfl) ?_
  refine lv_istore_n (lv' := [(0, .int (bc3 p0))]) hx hb dJ6_bitCount_0f7a4_33 rfl hl (by decide) rfl (fun ls hl => ?_)
  refine lv_iload_n hx hb dJ6_bitCount_0f7a4_34 rfl (lv_at hl 0 rfl) ?_
  refine lv_iload_n hx hb dJ6_bitCount_0f7a4_35 rfl (lv_at hl 0 rfl) ?_
  refine lv_bipush (v := nI 8) hx hb dJ6_bitCount_0f7a4_36 (by decide) ?_
  refine lv_iushr hx hb dJ6_bitCount_0f7a4_38 rfl ?_
  refine lv_iadd hx hb dJ6_bitCount_0f7a4_39 ?_
  refine hx_eq (y := bc4 p0) (rfl) ?_
  refine lv_istore_n (lv' := [(0, .int (bc4 p0))]) hx hb dJ6_bitCount_0f7a4_40 rfl hl (by decide) rfl (fun ls hl => ?_)
  refine lv_iload_n hx hb dJ6_bitCount_0f7a4_41 rfl (lv_at hl 0 rfl) ?_
  refine lv_iload_n hx hb dJ6_bitCount_0f7a4_42 rfl (lv_at hl 0 rfl) ?_
  refine lv_bipush (v := nI 16) hx hb dJ6_bitCount_0f7a4_43 (by decide) ?_
  refine lv_iushr hx hb dJ6_bitCount_0f7a4_45 rfl ?_
  refine lv_iadd hx hb dJ6_bitCount_0f7a4_46 ?_
  refine hx_eq (y := bc5 p0) (rfl) ?_
  refine lv_istore_n (lv' := [(0, .int (bc5 p0))]) hx hb dJ6_bitCount_0f7a4_47 rfl hl (by decide) rfl (fun ls hl => ?_)
  refine lv_iload_n hx hb dJ6_bitCount_0f7a4_48 rfl (lv_at hl 0 rfl) ?_
  refine lv_bipush (v := nI 63) hx hb dJ6_bitCount_0f7a4_49 (by decide) ?_
  refine lv_iand hx hb dJ6_bitCount_0f7a4_51 ?_
  exact W.iret (v := (bc5 p0) &&& (nI 63)) hx hb hr (fun t ht hW => ⟨_, rfl, bc_ok p0, ht⟩) (fun _ h => by cases h) dJ6_bitCount_0f7a4_52
set_option maxHeartbeats 4000000 in
set_option maxRecDepth 100000 in
theorem c_X1_layerOf (l : Launch) (dC : Nat → ClassId) (dI : Nat → Nat → Nat) (a : Nat → Nat) (cA : Nat → ClassId) (n : Nat) (hd fm rp rq : Nat → Nat) (nd nw bf su sI sO ct : Nat → Int32) (v : Nat) (hy_0 : v < 7) : RdM l yX1_layerOf wsX1_layerOf ({ frames := 1, cells := 0, slots := 0, locals := 20 }) (dC, dI) vwCl (vkW a cA n hd fm rp rq nd nw bf su sI sO ct) (vkT cA) nstW [.ref (a 1), .int (nI v)] (nI (cntB (nd v ||| bm v) 32)) := by
  refine Met.ofW (cc := cX1_layerOf) (maxL := 2) (ret := (some .int)) (by decide) rfl ?_
  intro p e s m args below meth c s₁ B hml hv
  obtain ⟨rfl, hP, hK, hN⟩ := hv
  have hx := B.exec
  have hb := B.bytes
  have hr := B.returns
  have hts := atoms_spec (ws := wsX1_layerOf) B.pre
  have hown : s.vm.findClass RX1 = some m.cls := findClass_of_methodNamed B.named
  have hlocks := B.notSynchronized
  have lf_18 := hts (.fieldLink RX1 18 "ViewKeeper$RuleBook" "needed" "[I") (by decide +kernel)
  have in_X1 : ∀ w ∈ u_ws RX1 TX1 3, w ∈ wsX1_layerOf := by decide +kernel
  have hl := lv_entry ([.ref (a 1), .int (nI v)]) (n := 2) (Nat.le_of_ble_eq_true rfl)
  rw [lg_entry_eq]
  generalize (lg_sl ([.ref (a 1), .int (nI v)]) ++ List.replicate (2 - (lg_sl ([.ref (a 1), .int (nI v)])).length) Slot.unset).toArray = ls at hl ⊢
  have hl : lv_has ls 2 [(0, .ref (a 1)), (1, .int (nI v))] := hl
  refine lv_aload_n hx hb dX1_layerOf_0 rfl (lv_at hl 0 rfl) ?_
  refine va_get (D := (dC, dI)) (ci := 1) (v := .ref (a 3)) (C := RX1) (T := TX1) (N := 3) hx hb hts in_X1 hown hK hP 1 rfl rfl 1 (by decide) lf_18 (fun _ h9 => h9) rfl dX1_layerOf_1 ?_
  refine lv_iload_n hx hb dX1_layerOf_4 rfl (lv_at hl 1 rfl) ?_
  refine hx_iald hx hb hK hP 3 1 rfl rfl (by omega) (by omega) dX1_layerOf_5 ?_
  refine lv_iconst (v := nI 1) hx hb dX1_layerOf_6 (by decide) ?_
  refine lv_iload_n hx hb dX1_layerOf_7 rfl (lv_at hl 1 rfl) ?_
  refine lv_ishl hx hb dX1_layerOf_8 ?_
  refine hx_eq (y := bm v) rfl ?_
  refine lv_ior hx hb dX1_layerOf_9 ?_
  refine hx_read (va_runS (As := [.int ((nd v) ||| (bm v))]) (rest := []) ⟨hx, hb, hml, hown, hts⟩ (c_J6_bitCount_0f7a4 l ((nd v) ||| (bm v))) (va_cwS 1 hts gX1_layerOf_J6_bitCount_0f7a4 rfl rfl rfl (by decide +kernel) ⟨Nat.le_of_ble_eq_true rfl, Nat.le_of_ble_eq_true rfl⟩) (nu_S _) rfl rfl hl.1 rfl (lv_room (Nat.le_of_ble_eq_true rfl)) dX1_layerOf_10 ⟨Nat.zero_le _, Nat.zero_le _⟩) ?_
  have hc_1 := cntB_le ((nd v) ||| (bm v)) 32
  exact W.iret (v := nI (cntB ((nd v) ||| (bm v)) 32)) hx hb hr (fun t ht hW => ⟨_, rfl, rfl, ht⟩) (fun _ h => by cases h) dX1_layerOf_13
set_option maxHeartbeats 4000000 in
set_option maxRecDepth 100000 in
theorem c_X1_hasCycle (l : Launch) (dC : Nat → ClassId) (dI : Nat → Nat → Nat) (a : Nat → Nat) (cA : Nat → ClassId) (n : Nat) (hd fm rp rq : Nat → Nat) (nd nw bf su sI sO ct : Nat → Int32) (hy_0 : ruOk n hd fm rp rq) : RdM l yX1_hasCycle wsX1_hasCycle ({ frames := 1, cells := 0, slots := 0, locals := 22 }) (dC, dI) vwCl (vkW a cA n hd fm rp rq nd nw bf su sI sO ct) (vkT cA) nstW [.ref (a 1)] (bI (cycF hd fm rq nd n 0)) := by
  refine Met.ofW (cc := cX1_hasCycle) (maxL := 3) (ret := (some .boolean)) (by decide) rfl ?_
  intro p e s m args below meth c s₁ B hml hv
  obtain ⟨rfl, hP, hK, hN⟩ := hv
  have hx := B.exec
  have hb := B.bytes
  have hr := B.returns
  have hts := atoms_spec (ws := wsX1_hasCycle) B.pre
  have hown : s.vm.findClass RX1 = some m.cls := findClass_of_methodNamed B.named
  have hlocks := B.notSynchronized
  obtain ⟨hn12, hru⟩ := hy_0
  have lf_22 := hts (.fieldLink RX1 22 "ViewKeeper$RuleBook" "made" "I") (by decide +kernel)
  have in_X1 : ∀ w ∈ u_ws RX1 TX1 3, w ∈ wsX1_hasCycle := by decide +kernel
  have lf_11 := hts (.fieldLink RX1 11 "ViewKeeper$RuleBook" "rows" "[LViewKeeper$Rule;") (by decide +kernel)
  have lf_29 : (Cond.fieldLinkNest RX1 29 "ViewKeeper$Rule" "form" "I" "ViewKeeper").before ([.ref (a 1)] : List Value).toArray s = true := va_Nw.use rfl (hN _ (by decide +kernel))
  have in_X0 : ∀ w ∈ u_ws RX0 TX0 4, w ∈ wsX1_hasCycle := by decide +kernel
  have lf_35 : (Cond.fieldLinkNest RX1 35 "ViewKeeper$Rule" "q" "I" "ViewKeeper").before ([.ref (a 1)] : List Value).toArray s = true := va_Nw.use rfl (hN _ (by decide +kernel))
  have lf_26 : (Cond.fieldLinkNest RX1 26 "ViewKeeper$Rule" "head" "I" "ViewKeeper").before ([.ref (a 1)] : List Value).toArray s = true := va_Nw.use rfl (hN _ (by decide +kernel))
  have hl := lv_entry ([.ref (a 1)]) (n := 3) (Nat.le_of_ble_eq_true rfl)
  rw [lg_entry_eq]
  generalize (lg_sl ([.ref (a 1)]) ++ List.replicate (3 - (lg_sl ([.ref (a 1)])).length) Slot.unset).toArray = ls at hl ⊢
  have hl : lv_has ls 3 [(0, .ref (a 1))] := hl
  refine lv_iconst (v := nI 0) hx hb dX1_hasCycle_0 (by decide) ?_
  refine lv_istore_n (lv' := [(1, .int (nI 0)), (0, .ref (a 1))]) hx hb dX1_hasCycle_1 rfl hl (by decide) rfl (fun ls hl => ?_)
  have L_2_0 : ∀ (nn : Nat) (i : Nat), i + nn = n → cycF hd fm rq nd nn i = cycF hd fm rq nd n 0 → ∀ ls : Array Slot, lv_has ls 3 [(0, .ref (a 1)), (1, .int (nI i))] → W p l e (headSpec wsX1_hasCycle ({ frames := 1, cells := 0, slots := 0, locals := 22 })).room s m ([.ref (a 1)] : List Value).toArray below meth c s.heap [] 0 0 (MQ below (vp_Si (fun rz9 => rz9 = (bI (cycF hd fm rq nd n 0)))) ([.ref (a 1)] : List Value).toArray s 0 0 (fun _ => False)) (F0 m 2 ls []) := by
    intro nn
    induction nn with
    | zero =>
      intro i hni hV ls hl
      obtain rfl : n = i := by omega
      refine lv_iload_n hx hb dX1_hasCycle_2 rfl (lv_at hl 1 rfl) ?_
      refine lv_aload_n hx hb dX1_hasCycle_3 rfl (lv_at hl 0 rfl) ?_
      refine va_get (D := (dC, dI)) (ci := 1) (v := .int (nI n)) (C := RX1) (T := TX1) (N := 3) hx hb hts in_X1 hown hK hP 1 rfl rfl 2 (by decide) lf_22 (fun _ h9 => h9) rfl dX1_hasCycle_4 ?_
      refine hx_geN (tgt := 59) hx hb dX1_hasCycle_7 (by decide) (by omega) (by omega) (fun c_2 => ?_) (fun c_2 => ?_)
      · refine lv_iconst (v := nI 0) hx hb dX1_hasCycle_59 (by decide) ?_
        exact W.zret (v := nI 0) hx hb hr rfl (fun t ht hW => ⟨_, rfl, by rw [← hV]; simp [cycF, bI, nI, c_2], ht⟩) (fun _ h => by cases h) dX1_hasCycle_60
      · exact absurd c_2 (by omega)
    | succ nn ih =>
      intro i hni hV ls hl
      refine lv_iload_n hx hb dX1_hasCycle_2 rfl (lv_at hl 1 rfl) ?_
      refine lv_aload_n hx hb dX1_hasCycle_3 rfl (lv_at hl 0 rfl) ?_
      refine va_get (D := (dC, dI)) (ci := 1) (v := .int (nI n)) (C := RX1) (T := TX1) (N := 3) hx hb hts in_X1 hown hK hP 1 rfl rfl 2 (by decide) lf_22 (fun _ h9 => h9) rfl dX1_hasCycle_4 ?_
      refine hx_geN (tgt := 59) hx hb dX1_hasCycle_7 (by decide) (by omega) (by omega) (fun c_3 => ?_) (fun c_3 => ?_)
      · exact absurd c_3 (by omega)
      · have hr9 := hru i (by omega)
        refine lv_aload_n hx hb dX1_hasCycle_10 rfl (lv_at hl 0 rfl) ?_
        refine va_get (D := (dC, dI)) (ci := 1) (v := .ref (a 2)) (C := RX1) (T := TX1) (N := 3) hx hb hts in_X1 hown hK hP 1 rfl rfl 0 (by decide) lf_11 (fun _ h9 => h9) rfl dX1_hasCycle_11 ?_
        refine lv_iload_n hx hb dX1_hasCycle_14 rfl (lv_at hl 1 rfl) ?_
        refine hx_aald hx hb hK hP 2 0 rfl rfl (by omega) (by omega) dX1_hasCycle_15 ?_
        refine lv_astore_n (lv' := [(2, .ref (a (10 + i))), (0, .ref (a 1)), (1, .int (nI i))]) hx hb dX1_hasCycle_16 rfl hl (by decide) rfl (fun ls hl => ?_)
        refine lv_aload_n hx hb dX1_hasCycle_17 rfl (lv_at hl 0 rfl) ?_
        refine va_getN (D := (dC, dI)) (ci := 0) (v := .int (nI (fm i))) (C := RX0) (T := TX0) (N := 4) hx hb hts in_X0 hown hK hP (10 + i) (vkW_rule (by omega)) rfl 1 (by decide) lf_29 (fun _ h9 => h9) rfl dX1_hasCycle_18 ?_
        refine lv_iconst (v := nI 4) hx hb dX1_hasCycle_21 (by decide) ?_
        refine hx_neN (tgt := 53) hx hb dX1_hasCycle_22 (by decide) (by omega) (by omega) (fun c_4 => ?_) (fun c_4 => ?_)
        · refine lv_iinc (v := nI (i + 1)) (lv' := [(1, .int (nI (i + 1))), (2, .ref (a (10 + i))), (0, .ref (a 1))]) hx hb dX1_hasCycle_53 hl (k := 2) rfl (nI_add i 1) (by decide) rfl (fun ls hl => ?_)
          refine lv_goto (tgt := 2) hx hb dX1_hasCycle_56 (by decide) ?_
          exact ih (i + 1) (by omega) (by rw [← hV]; simp [cycF, c_3, c_4]) ls (lv_sub hl [2, 0] rfl)
        · refine lv_aload_n hx hb dX1_hasCycle_25 rfl (lv_at hl 0 rfl) ?_
          refine va_getN (D := (dC, dI)) (ci := 0) (v := .int (nI (rq i))) (C := RX0) (T := TX0) (N := 4) hx hb hts in_X0 hown hK hP (10 + i) (vkW_rule (by omega)) rfl 3 (by decide) lf_35 (fun _ h9 => h9) rfl dX1_hasCycle_26 ?_
          refine lv_aload_n hx hb dX1_hasCycle_29 rfl (lv_at hl 0 rfl) ?_
          refine va_getN (D := (dC, dI)) (ci := 0) (v := .int (nI (hd i))) (C := RX0) (T := TX0) (N := 4) hx hb hts in_X0 hown hK hP (10 + i) (vkW_rule (by omega)) rfl 0 (by decide) lf_26 (fun _ h9 => h9) rfl dX1_hasCycle_30 ?_
          refine hx_eqN (tgt := 51) hx hb dX1_hasCycle_33 (by decide) (by omega) (by omega) (fun c_5 => ?_) (fun c_5 => ?_)
          · refine lv_iconst (v := nI 1) hx hb dX1_hasCycle_51 (by decide) ?_
            exact W.zret (v := nI 1) hx hb hr rfl (fun t ht hW => ⟨_, rfl, by rw [← hV]; simp [cycF, bI, nI, c_3, c_4, c_5], ht⟩) (fun _ h => by cases h) dX1_hasCycle_52
          · refine lv_aload_n hx hb dX1_hasCycle_36 rfl (lv_at hl 1 rfl) ?_
            refine lv_aload_n hx hb dX1_hasCycle_37 rfl (lv_at hl 0 rfl) ?_
            refine va_getN (D := (dC, dI)) (ci := 0) (v := .int (nI (rq i))) (C := RX0) (T := TX0) (N := 4) hx hb hts in_X0 hown hK hP (10 + i) (vkW_rule (by omega)) rfl 3 (by decide) lf_35 (fun _ h9 => h9) rfl dX1_hasCycle_38 ?_
            refine lv_aload_n hx hb dX1_hasCycle_41 rfl (lv_at hl 0 rfl) ?_
            refine va_getN (D := (dC, dI)) (ci := 0) (v := .int (nI (hd i))) (C := RX0) (T := TX0) (N := 4) hx hb hts in_X0 hown hK hP (10 + i) (vkW_rule (by omega)) rfl 0 (by decide) lf_26 (fun _ h9 => h9) rfl dX1_hasCycle_42 ?_
            refine hx_read (va_runV (As := [.int (nI (rq i)), .int (nI (hd i))]) (rest := []) ⟨hx, hb, hml, hown, hts⟩ (c_X1_leadsTo l dC dI a cA n hd fm rp rq nd nw bf su sI sO ct (rq i) (hd i) (by omega) (by omega)) (cwV 2 hts gX1_hasCycle_X1_leadsTo rfl rfl rfl (by decide +kernel) ⟨Nat.le_of_ble_eq_true rfl, Nat.le_of_ble_eq_true rfl⟩) (rd_V nstW_ok hP hK hN 1 rfl rfl _) rfl rfl hl.1 rfl (lv_room (Nat.le_of_ble_eq_true rfl)) dX1_hasCycle_45 ⟨Nat.zero_le _, Nat.zero_le _⟩) ?_
            refine hx_ifB (tgt := 53) hx hb dX1_hasCycle_48 (by decide) (fun c_6 => ?_) (fun c_6 => ?_)
            · refine lv_iinc (v := nI (i + 1)) (lv' := [(1, .int (nI (i + 1))), (2, .ref (a (10 + i))), (0, .ref (a 1))]) hx hb dX1_hasCycle_53 hl (k := 2) rfl (nI_add i 1) (by decide) rfl (fun ls hl => ?_)
              refine lv_goto (tgt := 2) hx hb dX1_hasCycle_56 (by decide) ?_
              exact ih (i + 1) (by omega) (by rw [← hV]; simp [cycF, c_3, c_4, c_5, c_6]) ls (lv_sub hl [2, 0] rfl)
            · refine lv_iconst (v := nI 1) hx hb dX1_hasCycle_51 (by decide) ?_
              exact W.zret (v := nI 1) hx hb hr rfl (fun t ht hW => ⟨_, rfl, by rw [← hV]; simp [cycF, bI, nI, c_3, c_4, c_5, c_6], ht⟩) (fun _ h => by cases h) dX1_hasCycle_52
  exact L_2_0 n 0 (by omega) (rfl) ls (lv_sub hl [1, 0] rfl)

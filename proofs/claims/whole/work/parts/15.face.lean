/-! the keeper's face -/
theorem isRl_nI {r : Nat} (h : r < 7) : isRl (nI r) = true := by
  unfold isRl
  rw [decide_eq_false (nI_pos (by omega)), decide_eq_false (nI_ge h (by omega))]
  rfl
theorem isTh_nI {r : Nat} (h : r < 5) : isTh (nI r) = true := by
  unfold isTh
  rw [decide_eq_false (nI_pos (by omega)), decide_eq_false (nI_ge h (by omega))]
  rfl
theorem isVw_nI {r : Nat} (h2 : 2 ≤ r) (h : r < 7) : isVw (nI r) = true := by
  unfold isVw
  rw [decide_eq_false (nI_nlt h2 (by omega)), decide_eq_false (nI_ge h (by omega))]
  rfl
theorem isVw_f {r : Nat} (h : r < 2) : isVw (nI r) = false := by
  unfold isVw
  rw [decide_eq_true (nI_lt h (by omega))]
  rfl
theorem tab_out {x : Int32} (h : x < 0 ∨ nI 4 ≤ x) : x.toInt < 0 ∨ 3 < x.toInt := by
  rcases h with h | h
  · exact Or.inl (by simpa using Int32.lt_iff_toInt_lt.mp h)
  · have h1 := Int32.le_iff_toInt_le.mp h
    rw [nI_toInt (by omega)] at h1
    exact Or.inr (by omega)
def ruGood (h f p q : Int32) : Bool := isVw h && (!decide (f < 0) && (!decide (nI 4 < f) && (isRl p && isRl q)))
def stGood (r x y : Int32) : Bool := isRl r && (!isVw r && (isTh x && isTh y))
def prGood (r x y : Int32) : Bool := isRl r && (isTh x && isTh y)
def stI (b : Bool) (sI : Nat → Int32) (r k : Nat) : Nat → Int32 := upd sI r (if b = true then sI r ||| bm k else sI r &&& (bm k ^^^ (-1)))
def stO (b : Bool) (sO : Nat → Int32) (r k : Nat) : Nat → Int32 := upd sO r (if b = true then sO r &&& (bm k ^^^ (-1)) else sO r ||| bm k)
def cmW (n : Nat) (hd fm rp rq : Nat → Nat) (nd nw sI sO ct : Nat → Int32) : Nat → Int32 := (clF n hd fm rp rq nd nw 7 1 ct (dsF sI sO 2 0 nw) (fun _ => nI 0)).2.1
def cmS (n : Nat) (hd fm rp rq : Nat → Nat) (nd nw sI sO ct : Nat → Int32) : Nat → Int32 := (clF n hd fm rp rq nd nw 7 1 ct (dsF sI sO 2 0 nw) (fun _ => nI 0)).2.2
def cmC (n : Nat) (hd fm rp rq : Nat → Nat) (nd nw sI sO ct : Nat → Int32) : Nat → Int32 := (clF n hd fm rp rq nd nw 7 1 ct (dsF sI sO 2 0 nw) (fun _ => nI 0)).1
def cmF (nw bf : Nat → Int32) : Nat → Nat → Nat → Nat
  | 0, _, w => w
  | k + 1, r, w => cmF nw bf k (r + 1) (w + (cntB (putM nw bf r) 32 + cntB (takM nw bf r) 32))
def abF (sI sO : Nat → Int32) : Nat → Nat → Nat → Nat
  | 0, _, w => w
  | k + 1, r, w => abF sI sO k (r + 1) (w + (cntB (sI r) 32 + cntB (sO r) 32))
def chgM (nw bf su : Nat → Int32) (r w : Nat) : Nat := if w = 0 then cntB (putM nw bf r) 32 else if w = 1 then cntB (takM nw bf r) 32 else if w = 2 then cntB (su r) 32 else cntB (su r &&& nw r) 32
set_option maxHeartbeats 4000000 in
set_option maxRecDepth 100000 in
theorem c_X2_rule_b (l : Launch) (dC : Nat → ClassId) (dI : Nat → Nat → Nat) (a : Nat → Nat) (cA : Nat → ClassId) (n : Nat) (hd fm rp rq : Nat → Nat) (nd nw bf su sI sO ct : Nat → Int32) (h0 f0 p0 q0 : Int32) (hy_0 : ruGood h0 f0 p0 q0 = false) : WrI l yX2_rule wsX2_rule ({ frames := 6, cells := 0, slots := 0, locals := 140 }) (dC, dI) vwCl (vkW a cA n hd fm rp rq nd nw bf su sI sO ct) (vkW a cA n hd fm rp rq nd nw bf su sI sO ct) (vkT cA) nstW [.ref (a 0), .int (h0), .int (f0), .int (p0), .int (q0)] ((-1)) := by
  intro sz
  refine Met.ofW (cc := cX2_rule) (maxL := 5) (ret := (some .int)) (by decide) rfl ?_
  intro p e s m args below meth c s₁ B hml hv
  obtain ⟨rfl, hsz, ⟨hP, hK, hN⟩, hD0⟩ := hv
  subst hsz
  have hx := B.exec
  have hb := B.bytes
  have hr := B.returns
  have hts := atoms_spec (ws := wsX2_rule) B.pre
  have hown : s.vm.findClass RX2 = some m.cls := findClass_of_methodNamed B.named
  have hlocks := B.notSynchronized
  obtain ⟨A, hAe⟩ : ∃ A, A = va_A (vkW a cA n hd fm rp rq nd nw bf su sI sO ct) s.heap.size := ⟨_, rfl⟩
  have hD : va_D A (vkW a cA n hd fm rp rq nd nw bf su sI sO ct) := by rw [hAe]; exact hD0.self (sz := s.heap.size)
  have hA : ∀ q : Nat, s.heap.size ≤ q → A q := fun q h => by rw [hAe]; exact Or.inr h
  have hS : va_S A s.heap s.heap [] := va_S.rf
  have hP : va_P (dC, dI) vwCl (vkW a cA n hd fm rp rq nd nw bf su sI sO ct) s.heap := hP
  have lf_10 := hts (.fieldLink RX2 10 "ViewKeeper" "book" "LViewKeeper$RuleBook;") (by decide +kernel)
  have in_X2 : ∀ w ∈ u_ws RX2 TX2 7, w ∈ wsX2_rule := by decide +kernel
  have lf_42 : (Cond.fieldLinkNest RX2 42 "ViewKeeper$RuleBook" "made" "I" "ViewKeeper").before ([.ref (a 0), .int (h0), .int (f0), .int (p0), .int (q0)] : List Value).toArray s = true := va_Nw.use rfl (hN _ (by decide +kernel))
  have in_X1 : ∀ w ∈ u_ws RX1 TX1 3, w ∈ wsX2_rule := by decide +kernel
  have hl := lv_entry ([.ref (a 0), .int (h0), .int (f0), .int (p0), .int (q0)]) (n := 5) (Nat.le_of_ble_eq_true rfl)
  rw [lg_entry_eq]
  generalize (lg_sl ([.ref (a 0), .int (h0), .int (f0), .int (p0), .int (q0)]) ++ List.replicate (5 - (lg_sl ([.ref (a 0), .int (h0), .int (f0), .int (p0), .int (q0)])).length) Slot.unset).toArray = ls at hl ⊢
  have hl : lv_has ls 5 [(0, .ref (a 0)), (1, .int (h0)), (2, .int (f0)), (3, .int (p0)), (4, .int (q0))] := hl
  refine lv_iload_n hx hb dX2_rule_0 rfl (lv_at hl 1 rfl) ?_
  refine hx_read (va_runS (As := [.int (h0)]) (rest := []) ⟨hx, hb, hml, hown, hts⟩ (c_X2_isView l h0) (va_cwS 1 hts gX2_rule_X2_isView rfl rfl rfl (by decide +kernel) ⟨Nat.le_of_ble_eq_true rfl, Nat.le_of_ble_eq_true rfl⟩) (nu_S _) rfl rfl hl.1 rfl (lv_room (Nat.le_of_ble_eq_true rfl)) dX2_rule_1 ⟨Nat.zero_le _, Nat.zero_le _⟩) ?_
  refine hx_ifB (tgt := 31) hx hb dX2_rule_4 (by decide) (fun c_1 => ?_) (fun c_1 => ?_)
  · refine lv_iconst (v := (-1)) hx hb dX2_rule_31 (by decide) ?_
    have e9 : vkW a cA n hd fm rp rq nd nw bf su sI sO ct = vkW a cA n hd fm rp rq nd nw bf su sI sO ct := rfl
    rw [e9] at hP hD
    subst hAe
    exact W.iret (v := (-1)) hx hb hr (fun t ht hW => ⟨⟨_, (), rfl, rfl, by rw [ht]; exact hP, va_K.moved hW.alike hK, hD⟩, hS.F ht⟩) hS.2.2 dX2_rule_32
  · refine lv_iload_n hx hb dX2_rule_7 rfl (lv_at hl 2 rfl) ?_
    refine lv_if_lt (tgt := 31) hx hb dX2_rule_8 (by decide) (fun c_2 => ?_) (fun c_2 => ?_)
    · refine lv_iconst (v := (-1)) hx hb dX2_rule_31 (by decide) ?_
      have e9 : vkW a cA n hd fm rp rq nd nw bf su sI sO ct = vkW a cA n hd fm rp rq nd nw bf su sI sO ct := rfl
      rw [e9] at hP hD
      subst hAe
      exact W.iret (v := (-1)) hx hb hr (fun t ht hW => ⟨⟨_, (), rfl, rfl, by rw [ht]; exact hP, va_K.moved hW.alike hK, hD⟩, hS.F ht⟩) hS.2.2 dX2_rule_32
    · refine lv_iload_n hx hb dX2_rule_11 rfl (lv_at hl 2 rfl) ?_
      refine lv_iconst (v := nI 4) hx hb dX2_rule_12 (by decide) ?_
      refine lv_icmp_gt (tgt := 31) hx hb dX2_rule_13 (by decide) (fun c_3 => ?_) (fun c_3 => ?_)
      · refine lv_iconst (v := (-1)) hx hb dX2_rule_31 (by decide) ?_
        have e9 : vkW a cA n hd fm rp rq nd nw bf su sI sO ct = vkW a cA n hd fm rp rq nd nw bf su sI sO ct := rfl
        rw [e9] at hP hD
        subst hAe
        exact W.iret (v := (-1)) hx hb hr (fun t ht hW => ⟨⟨_, (), rfl, rfl, by rw [ht]; exact hP, va_K.moved hW.alike hK, hD⟩, hS.F ht⟩) hS.2.2 dX2_rule_32
      · refine lv_iload_n hx hb dX2_rule_16 rfl (lv_at hl 3 rfl) ?_
        refine hx_read (va_runS (As := [.int (p0)]) (rest := []) ⟨hx, hb, hml, hown, hts⟩ (c_X2_isRelation l p0) (va_cwS 1 hts gX2_rule_X2_isRelation rfl rfl rfl (by decide +kernel) ⟨Nat.le_of_ble_eq_true rfl, Nat.le_of_ble_eq_true rfl⟩) (nu_S _) rfl rfl hl.1 rfl (lv_room (Nat.le_of_ble_eq_true rfl)) dX2_rule_17 ⟨Nat.zero_le _, Nat.zero_le _⟩) ?_
        refine hx_ifB (tgt := 31) hx hb dX2_rule_20 (by decide) (fun c_4 => ?_) (fun c_4 => ?_)
        · refine lv_iconst (v := (-1)) hx hb dX2_rule_31 (by decide) ?_
          have e9 : vkW a cA n hd fm rp rq nd nw bf su sI sO ct = vkW a cA n hd fm rp rq nd nw bf su sI sO ct := rfl
          rw [e9] at hP hD
          subst hAe
          exact W.iret (v := (-1)) hx hb hr (fun t ht hW => ⟨⟨_, (), rfl, rfl, by rw [ht]; exact hP, va_K.moved hW.alike hK, hD⟩, hS.F ht⟩) hS.2.2 dX2_rule_32
        · refine lv_iload hx hb dX2_rule_23 (lv_at hl 4 rfl) ?_
          refine hx_read (va_runS (As := [.int (q0)]) (rest := []) ⟨hx, hb, hml, hown, hts⟩ (c_X2_isRelation l q0) (va_cwS 1 hts gX2_rule_X2_isRelation rfl rfl rfl (by decide +kernel) ⟨Nat.le_of_ble_eq_true rfl, Nat.le_of_ble_eq_true rfl⟩) (nu_S _) rfl rfl hl.1 rfl (lv_room (Nat.le_of_ble_eq_true rfl)) dX2_rule_25 ⟨Nat.zero_le _, Nat.zero_le _⟩) ?_
          refine hx_ifnB (tgt := 33) hx hb dX2_rule_28 (by decide) (fun c_5 => ?_) (fun c_5 => ?_)
          · exact absurd hy_0 (by simp [ruGood, c_1, c_2, c_3, c_4, c_5])
          · refine lv_iconst (v := (-1)) hx hb dX2_rule_31 (by decide) ?_
            have e9 : vkW a cA n hd fm rp rq nd nw bf su sI sO ct = vkW a cA n hd fm rp rq nd nw bf su sI sO ct := rfl
            rw [e9] at hP hD
            subst hAe
            exact W.iret (v := (-1)) hx hb hr (fun t ht hW => ⟨⟨_, (), rfl, rfl, by rw [ht]; exact hP, va_K.moved hW.alike hK, hD⟩, hS.F ht⟩) hS.2.2 dX2_rule_32
set_option maxHeartbeats 4000000 in
set_option maxRecDepth 100000 in
theorem c_X2_rule_f (l : Launch) (dC : Nat → ClassId) (dI : Nat → Nat → Nat) (a : Nat → Nat) (cA : Nat → ClassId) (n : Nat) (hd fm rp rq : Nat → Nat) (nd nw bf su sI sO ct : Nat → Int32) (vh vf vp vq : Nat) (hy_0 : ruOk n hd fm rp rq) (hy_1 : n = 12) (hy_2 : 2 ≤ vh ∧ vh < 7 ∧ vf ≤ 4 ∧ vp < 7 ∧ vq < 7) : WrI l yX2_rule wsX2_rule ({ frames := 6, cells := 0, slots := 0, locals := 140 }) (dC, dI) vwCl (vkW a cA n hd fm rp rq nd nw bf su sI sO ct) (vkW a cA n hd fm rp rq nd nw bf su sI sO ct) (vkT cA) nstW [.ref (a 0), .int (nI vh), .int (nI vf), .int (nI vp), .int (nI vq)] ((-2)) := by
  intro sz
  refine Met.ofW (cc := cX2_rule) (maxL := 5) (ret := (some .int)) (by decide) rfl ?_
  intro p e s m args below meth c s₁ B hml hv
  obtain ⟨rfl, hsz, ⟨hP, hK, hN⟩, hD0⟩ := hv
  subst hsz
  have hx := B.exec
  have hb := B.bytes
  have hr := B.returns
  have hts := atoms_spec (ws := wsX2_rule) B.pre
  have hown : s.vm.findClass RX2 = some m.cls := findClass_of_methodNamed B.named
  have hlocks := B.notSynchronized
  obtain ⟨A, hAe⟩ : ∃ A, A = va_A (vkW a cA n hd fm rp rq nd nw bf su sI sO ct) s.heap.size := ⟨_, rfl⟩
  have hD : va_D A (vkW a cA n hd fm rp rq nd nw bf su sI sO ct) := by rw [hAe]; exact hD0.self (sz := s.heap.size)
  have hA : ∀ q : Nat, s.heap.size ≤ q → A q := fun q h => by rw [hAe]; exact Or.inr h
  have hS : va_S A s.heap s.heap [] := va_S.rf
  have hP : va_P (dC, dI) vwCl (vkW a cA n hd fm rp rq nd nw bf su sI sO ct) s.heap := hP
  have kv : isVw (nI vh) = true := isVw_nI (by omega) (by omega)
  have kp : isRl (nI vp) = true := isRl_nI (by omega)
  have kq : isRl (nI vq) = true := isRl_nI (by omega)
  have lf_10 := hts (.fieldLink RX2 10 "ViewKeeper" "book" "LViewKeeper$RuleBook;") (by decide +kernel)
  have in_X2 : ∀ w ∈ u_ws RX2 TX2 7, w ∈ wsX2_rule := by decide +kernel
  have lf_42 : (Cond.fieldLinkNest RX2 42 "ViewKeeper$RuleBook" "made" "I" "ViewKeeper").before ([.ref (a 0), .int (nI vh), .int (nI vf), .int (nI vp), .int (nI vq)] : List Value).toArray s = true := va_Nw.use rfl (hN _ (by decide +kernel))
  have in_X1 : ∀ w ∈ u_ws RX1 TX1 3, w ∈ wsX2_rule := by decide +kernel
  have hl := lv_entry ([.ref (a 0), .int (nI vh), .int (nI vf), .int (nI vp), .int (nI vq)]) (n := 5) (Nat.le_of_ble_eq_true rfl)
  rw [lg_entry_eq]
  generalize (lg_sl ([.ref (a 0), .int (nI vh), .int (nI vf), .int (nI vp), .int (nI vq)]) ++ List.replicate (5 - (lg_sl ([.ref (a 0), .int (nI vh), .int (nI vf), .int (nI vp), .int (nI vq)])).length) Slot.unset).toArray = ls at hl ⊢
  have hl : lv_has ls 5 [(0, .ref (a 0)), (1, .int (nI vh)), (2, .int (nI vf)), (3, .int (nI vp)), (4, .int (nI vq))] := hl
  refine lv_iload_n hx hb dX2_rule_0 rfl (lv_at hl 1 rfl) ?_
  refine hx_read (va_runS (As := [.int (nI vh)]) (rest := []) ⟨hx, hb, hml, hown, hts⟩ (c_X2_isView l (nI vh)) (va_cwS 1 hts gX2_rule_X2_isView rfl rfl rfl (by decide +kernel) ⟨Nat.le_of_ble_eq_true rfl, Nat.le_of_ble_eq_true rfl⟩) (nu_S _) rfl rfl hl.1 rfl (lv_room (Nat.le_of_ble_eq_true rfl)) dX2_rule_1 ⟨Nat.zero_le _, Nat.zero_le _⟩) ?_
  refine hx_ifB (tgt := 31) hx hb dX2_rule_4 (by decide) (fun c_1 => ?_) (fun c_1 => ?_)
  · exact absurd (kv.symm.trans c_1) (by decide)
  · refine lv_iload_n hx hb dX2_rule_7 rfl (lv_at hl 2 rfl) ?_
    refine lv_if_lt (tgt := 31) hx hb dX2_rule_8 (by decide) (fun c_2 => ?_) (fun c_2 => ?_)
    · exact absurd c_2 (nI_pos (by omega))
    · refine lv_iload_n hx hb dX2_rule_11 rfl (lv_at hl 2 rfl) ?_
      refine lv_iconst (v := nI 4) hx hb dX2_rule_12 (by decide) ?_
      refine hx_gtN (tgt := 31) hx hb dX2_rule_13 (by decide) (by omega) (by omega) (fun c_3 => ?_) (fun c_3 => ?_)
      · exact absurd c_3 (by omega)
      · refine lv_iload_n hx hb dX2_rule_16 rfl (lv_at hl 3 rfl) ?_
        refine hx_read (va_runS (As := [.int (nI vp)]) (rest := []) ⟨hx, hb, hml, hown, hts⟩ (c_X2_isRelation l (nI vp)) (va_cwS 1 hts gX2_rule_X2_isRelation rfl rfl rfl (by decide +kernel) ⟨Nat.le_of_ble_eq_true rfl, Nat.le_of_ble_eq_true rfl⟩) (nu_S _) rfl rfl hl.1 rfl (lv_room (Nat.le_of_ble_eq_true rfl)) dX2_rule_17 ⟨Nat.zero_le _, Nat.zero_le _⟩) ?_
        refine hx_ifB (tgt := 31) hx hb dX2_rule_20 (by decide) (fun c_4 => ?_) (fun c_4 => ?_)
        · exact absurd (kp.symm.trans c_4) (by decide)
        · refine lv_iload hx hb dX2_rule_23 (lv_at hl 4 rfl) ?_
          refine hx_read (va_runS (As := [.int (nI vq)]) (rest := []) ⟨hx, hb, hml, hown, hts⟩ (c_X2_isRelation l (nI vq)) (va_cwS 1 hts gX2_rule_X2_isRelation rfl rfl rfl (by decide +kernel) ⟨Nat.le_of_ble_eq_true rfl, Nat.le_of_ble_eq_true rfl⟩) (nu_S _) rfl rfl hl.1 rfl (lv_room (Nat.le_of_ble_eq_true rfl)) dX2_rule_25 ⟨Nat.zero_le _, Nat.zero_le _⟩) ?_
          refine hx_ifnB (tgt := 33) hx hb dX2_rule_28 (by decide) (fun c_5 => ?_) (fun c_5 => ?_)
          · refine lv_aload_n hx hb dX2_rule_33 rfl (lv_at hl 0 rfl) ?_
            refine va_get (D := (dC, dI)) (ci := 2) (v := .ref (a 1)) (C := RX2) (T := TX2) (N := 7) hx hb hts in_X2 hown hK hP 0 rfl rfl 0 (by decide) lf_10 (fun _ h9 => h9) rfl dX2_rule_34 ?_
            refine va_getN (D := (dC, dI)) (ci := 1) (v := .int (nI n)) (C := RX1) (T := TX1) (N := 3) hx hb hts in_X1 hown hK hP 1 rfl rfl 2 (by decide) lf_42 (fun _ h9 => h9) rfl dX2_rule_37 ?_
            refine lv_bipush (v := nI 12) hx hb dX2_rule_40 (by decide) ?_
            refine hx_ltN (tgt := 48) hx hb dX2_rule_42 (by decide) (by omega) (by omega) (fun c_6 => ?_) (fun c_6 => ?_)
            · exact absurd c_6 (by omega)
            · refine lv_bipush (v := (-2)) hx hb dX2_rule_45 (by decide) ?_
              have e9 : vkW a cA n hd fm rp rq nd nw bf su sI sO ct = vkW a cA n hd fm rp rq nd nw bf su sI sO ct := rfl
              rw [e9] at hP hD
              subst hAe
              exact W.iret (v := (-2)) hx hb hr (fun t ht hW => ⟨⟨_, (), rfl, rfl, by rw [ht]; exact hP, va_K.moved hW.alike hK, hD⟩, hS.F ht⟩) hS.2.2 dX2_rule_47
          · exact absurd (kq.symm.trans c_5) (by decide)
set_option maxHeartbeats 4000000 in
set_option maxRecDepth 100000 in
theorem c_X2_rule_c (l : Launch) (dC : Nat → ClassId) (dI : Nat → Nat → Nat) (a : Nat → Nat) (cA : Nat → ClassId) (n : Nat) (hd fm rp rq : Nat → Nat) (nd nw bf su sI sO ct : Nat → Int32) (vh vf vp vq : Nat) (hy_0 : ruOk n hd fm rp rq) (hy_1 : n < 12) (hy_2 : 2 ≤ vh ∧ vh < 7 ∧ vf ≤ 4 ∧ vp < 7 ∧ vq < 7) (hy_3 : cycF (va_up hd n vh) (va_up fm n vf) (va_up rq n vq) (ndA (n + 1) (va_up hd n vh) (va_up fm n vf) (va_up rp n vp) (va_up rq n vq)) (n + 1) 0 = true) : WrI l yX2_rule wsX2_rule ({ frames := 6, cells := 0, slots := 0, locals := 140 }) (dC, dI) vwCl (vkW a cA n hd fm rp rq nd nw bf su sI sO ct) (vkW a cA n (va_up hd n vh) (va_up fm n vf) (va_up rp n vp) (va_up rq n vq) (ndA n (va_up hd n vh) (va_up fm n vf) (va_up rp n vp) (va_up rq n vq)) nw bf su sI sO ct) (vkT cA) nstW [.ref (a 0), .int (nI vh), .int (nI vf), .int (nI vp), .int (nI vq)] ((-3)) := by
  intro sz
  refine Met.ofW (cc := cX2_rule) (maxL := 5) (ret := (some .int)) (by decide) rfl ?_
  intro p e s m args below meth c s₁ B hml hv
  obtain ⟨rfl, hsz, ⟨hP, hK, hN⟩, hD0⟩ := hv
  subst hsz
  have hx := B.exec
  have hb := B.bytes
  have hr := B.returns
  have hts := atoms_spec (ws := wsX2_rule) B.pre
  have hown : s.vm.findClass RX2 = some m.cls := findClass_of_methodNamed B.named
  have hlocks := B.notSynchronized
  obtain ⟨A, hAe⟩ : ∃ A, A = va_A (vkW a cA n hd fm rp rq nd nw bf su sI sO ct) s.heap.size := ⟨_, rfl⟩
  have hD : va_D A (vkW a cA n hd fm rp rq nd nw bf su sI sO ct) := by rw [hAe]; exact hD0.self (sz := s.heap.size)
  have hA : ∀ q : Nat, s.heap.size ≤ q → A q := fun q h => by rw [hAe]; exact Or.inr h
  have hS : va_S A s.heap s.heap [] := va_S.rf
  have hP : va_P (dC, dI) vwCl (vkW a cA n hd fm rp rq nd nw bf su sI sO ct) s.heap := hP
  have kv : isVw (nI vh) = true := isVw_nI (by omega) (by omega)
  have kp : isRl (nI vp) = true := isRl_nI (by omega)
  have kq : isRl (nI vq) = true := isRl_nI (by omega)
  have lf_10 := hts (.fieldLink RX2 10 "ViewKeeper" "book" "LViewKeeper$RuleBook;") (by decide +kernel)
  have in_X2 : ∀ w ∈ u_ws RX2 TX2 7, w ∈ wsX2_rule := by decide +kernel
  have lf_42 : (Cond.fieldLinkNest RX2 42 "ViewKeeper$RuleBook" "made" "I" "ViewKeeper").before ([.ref (a 0), .int (nI vh), .int (nI vf), .int (nI vp), .int (nI vq)] : List Value).toArray s = true := va_Nw.use rfl (hN _ (by decide +kernel))
  have in_X1 : ∀ w ∈ u_ws RX1 TX1 3, w ∈ wsX2_rule := by decide +kernel
  have hl := lv_entry ([.ref (a 0), .int (nI vh), .int (nI vf), .int (nI vp), .int (nI vq)]) (n := 5) (Nat.le_of_ble_eq_true rfl)
  rw [lg_entry_eq]
  generalize (lg_sl ([.ref (a 0), .int (nI vh), .int (nI vf), .int (nI vp), .int (nI vq)]) ++ List.replicate (5 - (lg_sl ([.ref (a 0), .int (nI vh), .int (nI vf), .int (nI vp), .int (nI vq)])).length) Slot.unset).toArray = ls at hl ⊢
  have hl : lv_has ls 5 [(0, .ref (a 0)), (1, .int (nI vh)), (2, .int (nI vf)), (3, .int (nI vp)), (4, .int (nI vq))] := hl
  refine lv_iload_n hx hb dX2_rule_0 rfl (lv_at hl 1 rfl) ?_
  refine hx_read (va_runS (As := [.int (nI vh)]) (rest := []) ⟨hx, hb, hml, hown, hts⟩ (c_X2_isView l (nI vh)) (va_cwS 1 hts gX2_rule_X2_isView rfl rfl rfl (by decide +kernel) ⟨Nat.le_of_ble_eq_true rfl, Nat.le_of_ble_eq_true rfl⟩) (nu_S _) rfl rfl hl.1 rfl (lv_room (Nat.le_of_ble_eq_true rfl)) dX2_rule_1 ⟨Nat.zero_le _, Nat.zero_le _⟩) ?_
  refine hx_ifB (tgt := 31) hx hb dX2_rule_4 (by decide) (fun c_1 => ?_) (fun c_1 => ?_)
  · exact absurd (kv.symm.trans c_1) (by decide)
  · refine lv_iload_n hx hb dX2_rule_7 rfl (lv_at hl 2 rfl) ?_
    refine lv_if_lt (tgt := 31) hx hb dX2_rule_8 (by decide) (fun c_2 => ?_) (fun c_2 => ?_)
    · exact absurd c_2 (nI_pos (by omega))
    · refine lv_iload_n hx hb dX2_rule_11 rfl (lv_at hl 2 rfl) ?_
      refine lv_iconst (v := nI 4) hx hb dX2_rule_12 (by decide) ?_
      refine hx_gtN (tgt := 31) hx hb dX2_rule_13 (by decide) (by omega) (by omega) (fun c_3 => ?_) (fun c_3 => ?_)
      · exact absurd c_3 (by omega)
      · refine lv_iload_n hx hb dX2_rule_16 rfl (lv_at hl 3 rfl) ?_
        refine hx_read (va_runS (As := [.int (nI vp)]) (rest := []) ⟨hx, hb, hml, hown, hts⟩ (c_X2_isRelation l (nI vp)) (va_cwS 1 hts gX2_rule_X2_isRelation rfl rfl rfl (by decide +kernel) ⟨Nat.le_of_ble_eq_true rfl, Nat.le_of_ble_eq_true rfl⟩) (nu_S _) rfl rfl hl.1 rfl (lv_room (Nat.le_of_ble_eq_true rfl)) dX2_rule_17 ⟨Nat.zero_le _, Nat.zero_le _⟩) ?_
        refine hx_ifB (tgt := 31) hx hb dX2_rule_20 (by decide) (fun c_4 => ?_) (fun c_4 => ?_)
        · exact absurd (kp.symm.trans c_4) (by decide)
        · refine lv_iload hx hb dX2_rule_23 (lv_at hl 4 rfl) ?_
          refine hx_read (va_runS (As := [.int (nI vq)]) (rest := []) ⟨hx, hb, hml, hown, hts⟩ (c_X2_isRelation l (nI vq)) (va_cwS 1 hts gX2_rule_X2_isRelation rfl rfl rfl (by decide +kernel) ⟨Nat.le_of_ble_eq_true rfl, Nat.le_of_ble_eq_true rfl⟩) (nu_S _) rfl rfl hl.1 rfl (lv_room (Nat.le_of_ble_eq_true rfl)) dX2_rule_25 ⟨Nat.zero_le _, Nat.zero_le _⟩) ?_
          refine hx_ifnB (tgt := 33) hx hb dX2_rule_28 (by decide) (fun c_5 => ?_) (fun c_5 => ?_)
          · refine lv_aload_n hx hb dX2_rule_33 rfl (lv_at hl 0 rfl) ?_
            refine va_get (D := (dC, dI)) (ci := 2) (v := .ref (a 1)) (C := RX2) (T := TX2) (N := 7) hx hb hts in_X2 hown hK hP 0 rfl rfl 0 (by decide) lf_10 (fun _ h9 => h9) rfl dX2_rule_34 ?_
            refine va_getN (D := (dC, dI)) (ci := 1) (v := .int (nI n)) (C := RX1) (T := TX1) (N := 3) hx hb hts in_X1 hown hK hP 1 rfl rfl 2 (by decide) lf_42 (fun _ h9 => h9) rfl dX2_rule_37 ?_
            refine lv_bipush (v := nI 12) hx hb dX2_rule_40 (by decide) ?_
            refine hx_ltN (tgt := 48) hx hb dX2_rule_42 (by decide) (by omega) (by omega) (fun c_6 => ?_) (fun c_6 => ?_)
            · refine lv_aload_n hx hb dX2_rule_48 rfl (lv_at hl 0 rfl) ?_
              refine va_get (D := (dC, dI)) (ci := 2) (v := .ref (a 1)) (C := RX2) (T := TX2) (N := 7) hx hb hts in_X2 hown hK hP 0 rfl rfl 0 (by decide) lf_10 (fun _ h9 => h9) rfl dX2_rule_49 ?_
              refine lv_iload_n hx hb dX2_rule_52 rfl (lv_at hl 1 rfl) ?_
              refine lv_iload_n hx hb dX2_rule_53 rfl (lv_at hl 2 rfl) ?_
              refine lv_iload_n hx hb dX2_rule_54 rfl (lv_at hl 3 rfl) ?_
              refine lv_iload hx hb dX2_rule_55 (lv_at hl 4 rfl) ?_
              refine hx_wrv (va_runVN (C := RX1) (As := [.int (nI vh), .int (nI vf), .int (nI vp), .int (nI vq)]) (rest := []) ⟨hx, hb, hml, hown, hts⟩ (c_X1_write l dC dI a cA n hd fm rp rq nd nw bf su sI sO ct vh vf vp vq (hy_0) (hy_1) (hy_2) s.heap.size) ⟨va_cnB 4 hts gX2_rule_X1_write_n46 rfl rfl rfl (hN (.methodLinkNest RX2 46 yX1_write "ViewKeeper") (by decide +kernel)) (hts (.initialized RX1) (by decide +kernel)) (by decide +kernel) ⟨Nat.le_of_ble_eq_true rfl, Nat.le_of_ble_eq_true rfl⟩, hts (.instanceMethod yX1_write) (by decide +kernel), hts (.selects RX1 yX1_write yX1_write) (by decide +kernel)⟩ (wr_V nstW_ok hP hK hN hD 1 rfl rfl _) rfl rfl hl.1 rfl (lv_room (Nat.le_of_ble_eq_true rfl)) dX2_rule_57 ⟨Nat.zero_le _, Nat.zero_le _⟩) hD hS hA (fun H locs hP hD hS => ?_)
              have hP : va_P (dC, dI) vwCl (vkW a cA (n + 1) (va_up hd n vh) (va_up fm n vf) (va_up rp n vp) (va_up rq n vq) (ndA (n + 1) (va_up hd n vh) (va_up fm n vf) (va_up rp n vp) (va_up rq n vq)) nw bf su sI sO ct) H := hP
              have hD : va_D A (vkW a cA (n + 1) (va_up hd n vh) (va_up fm n vf) (va_up rp n vp) (va_up rq n vq) (ndA (n + 1) (va_up hd n vh) (va_up fm n vf) (va_up rp n vp) (va_up rq n vq)) nw bf su sI sO ct) := hD
              refine lv_aload_n hx hb dX2_rule_60 rfl (lv_at hl 0 rfl) ?_
              refine va_get (D := (dC, dI)) (ci := 2) (v := .ref (a 1)) (C := RX2) (T := TX2) (N := 7) hx hb hts in_X2 hown hK hP 0 rfl rfl 0 (by decide) lf_10 (fun _ h9 => h9) rfl dX2_rule_61 ?_
              refine hx_read (va_runVN (C := RX1) (As := []) (rest := []) ⟨hx, hb, hml, hown, hts⟩ (c_X1_hasCycle l dC dI a cA (n + 1) (va_up hd n vh) (va_up fm n vf) (va_up rp n vp) (va_up rq n vq) (ndA (n + 1) (va_up hd n vh) (va_up fm n vf) (va_up rp n vp) (va_up rq n vq)) nw bf su sI sO ct (ruOk_add hy_0 hy_1 hy_2)) ⟨va_cnB 0 hts gX2_rule_X1_hasCycle_n50 rfl rfl rfl (hN (.methodLinkNest RX2 50 yX1_hasCycle "ViewKeeper") (by decide +kernel)) (hts (.initialized RX1) (by decide +kernel)) (by decide +kernel) ⟨Nat.le_of_ble_eq_true rfl, Nat.le_of_ble_eq_true rfl⟩, hts (.instanceMethod yX1_hasCycle) (by decide +kernel), hts (.selects RX1 yX1_hasCycle yX1_hasCycle) (by decide +kernel)⟩ (rd_V nstW_ok hP hK hN 1 rfl rfl _) rfl rfl hl.1 rfl (lv_room (Nat.le_of_ble_eq_true rfl)) dX2_rule_64 ⟨Nat.zero_le _, Nat.zero_le _⟩) ?_
              refine hx_ifB (tgt := 80) hx hb dX2_rule_67 (by decide) (fun c_7 => ?_) (fun c_7 => ?_)
              · exact absurd (hy_3.symm.trans c_7) (by decide)
              · refine lv_aload_n hx hb dX2_rule_70 rfl (lv_at hl 0 rfl) ?_
                refine va_get (D := (dC, dI)) (ci := 2) (v := .ref (a 1)) (C := RX2) (T := TX2) (N := 7) hx hb hts in_X2 hown hK hP 0 rfl rfl 0 (by decide) lf_10 (fun _ h9 => h9) rfl dX2_rule_71 ?_
                refine hx_wrv (va_runVN (C := RX1) (As := []) (rest := []) ⟨hx, hb, hml, hown, hts⟩ (c_X1_strikeLast l dC dI a cA (n + 1) (va_up hd n vh) (va_up fm n vf) (va_up rp n vp) (va_up rq n vq) (ndA (n + 1) (va_up hd n vh) (va_up fm n vf) (va_up rp n vp) (va_up rq n vq)) nw bf su sI sO ct (ruOk_add hy_0 hy_1 hy_2) (by omega) H.size) ⟨va_cnB 0 hts gX2_rule_X1_strikeLast_n54 rfl rfl rfl (hN (.methodLinkNest RX2 54 yX1_strikeLast "ViewKeeper") (by decide +kernel)) (hts (.initialized RX1) (by decide +kernel)) (by decide +kernel) ⟨Nat.le_of_ble_eq_true rfl, Nat.le_of_ble_eq_true rfl⟩, hts (.instanceMethod yX1_strikeLast) (by decide +kernel), hts (.selects RX1 yX1_strikeLast yX1_strikeLast) (by decide +kernel)⟩ (wr_V nstW_ok hP hK hN hD 1 rfl rfl _) rfl rfl hl.1 rfl (lv_room (Nat.le_of_ble_eq_true rfl)) dX2_rule_74 ⟨Nat.zero_le _, Nat.zero_le _⟩) hD hS hA (fun H locs hP hD hS => ?_)
                have hP : va_P (dC, dI) vwCl (vkW a cA ((n + 1) - 1) ((va_up hd n vh)) ((va_up fm n vf)) ((va_up rp n vp)) ((va_up rq n vq)) (ndA ((n + 1) - 1) (va_up hd n vh) (va_up fm n vf) (va_up rp n vp) (va_up rq n vq)) nw bf su sI sO ct) H := hP
                have hD : va_D A (vkW a cA ((n + 1) - 1) ((va_up hd n vh)) ((va_up fm n vf)) ((va_up rp n vp)) ((va_up rq n vq)) (ndA ((n + 1) - 1) (va_up hd n vh) (va_up fm n vf) (va_up rp n vp) (va_up rq n vq)) nw bf su sI sO ct) := hD
                refine lv_bipush (v := (-3)) hx hb dX2_rule_77 (by decide) ?_
                have e9 : vkW a cA ((n + 1) - 1) ((va_up hd n vh)) ((va_up fm n vf)) ((va_up rp n vp)) ((va_up rq n vq)) (ndA ((n + 1) - 1) (va_up hd n vh) (va_up fm n vf) (va_up rp n vp) (va_up rq n vq)) nw bf su sI sO ct = vkW a cA n (va_up hd n vh) (va_up fm n vf) (va_up rp n vp) (va_up rq n vq) (ndA n (va_up hd n vh) (va_up fm n vf) (va_up rp n vp) (va_up rq n vq)) nw bf su sI sO ct := rfl
                rw [e9] at hP hD
                subst hAe
                exact W.iret (v := (-3)) hx hb hr (fun t ht hW => ⟨⟨_, (), rfl, rfl, by rw [ht]; exact hP, va_K.moved hW.alike hK, hD⟩, hS.F ht⟩) hS.2.2 dX2_rule_79
            · exact absurd c_6 (by omega)
          · exact absurd (kq.symm.trans c_5) (by decide)
set_option maxHeartbeats 4000000 in
set_option maxRecDepth 100000 in
theorem c_X2_rule_g (l : Launch) (dC : Nat → ClassId) (dI : Nat → Nat → Nat) (a : Nat → Nat) (cA : Nat → ClassId) (n : Nat) (hd fm rp rq : Nat → Nat) (nd nw bf su sI sO ct : Nat → Int32) (vh vf vp vq : Nat) (hy_0 : ruOk n hd fm rp rq) (hy_1 : n < 12) (hy_2 : 2 ≤ vh ∧ vh < 7 ∧ vf ≤ 4 ∧ vp < 7 ∧ vq < 7) (hy_3 : cycF (va_up hd n vh) (va_up fm n vf) (va_up rq n vq) (ndA (n + 1) (va_up hd n vh) (va_up fm n vf) (va_up rp n vp) (va_up rq n vq)) (n + 1) 0 = false) : WrI l yX2_rule wsX2_rule ({ frames := 6, cells := 0, slots := 0, locals := 140 }) (dC, dI) vwCl (vkW a cA n hd fm rp rq nd nw bf su sI sO ct) (vkW a cA (n + 1) (va_up hd n vh) (va_up fm n vf) (va_up rp n vp) (va_up rq n vq) (ndA (n + 1) (va_up hd n vh) (va_up fm n vf) (va_up rp n vp) (va_up rq n vq)) (rmM (n + 1) (va_up hd n vh) (va_up fm n vf) (va_up rp n vp) (va_up rq n vq) (ndA (n + 1) (va_up hd n vh) (va_up fm n vf) (va_up rp n vp) (va_up rq n vq)) nw) (rmM (n + 1) (va_up hd n vh) (va_up fm n vf) (va_up rp n vp) (va_up rq n vq) (ndA (n + 1) (va_up hd n vh) (va_up fm n vf) (va_up rp n vp) (va_up rq n vq)) nw) (fun _ => nI 0) sI sO (rmC (n + 1) (va_up hd n vh) (va_up fm n vf) (va_up rp n vp) (va_up rq n vq) (ndA (n + 1) (va_up hd n vh) (va_up fm n vf) (va_up rp n vp) (va_up rq n vq)) nw)) (vkT cA) nstW [.ref (a 0), .int (nI vh), .int (nI vf), .int (nI vp), .int (nI vq)] (nI n) := by
  intro sz
  refine Met.ofW (cc := cX2_rule) (maxL := 5) (ret := (some .int)) (by decide) rfl ?_
  intro p e s m args below meth c s₁ B hml hv
  obtain ⟨rfl, hsz, ⟨hP, hK, hN⟩, hD0⟩ := hv
  subst hsz
  have hx := B.exec
  have hb := B.bytes
  have hr := B.returns
  have hts := atoms_spec (ws := wsX2_rule) B.pre
  have hown : s.vm.findClass RX2 = some m.cls := findClass_of_methodNamed B.named
  have hlocks := B.notSynchronized
  obtain ⟨A, hAe⟩ : ∃ A, A = va_A (vkW a cA n hd fm rp rq nd nw bf su sI sO ct) s.heap.size := ⟨_, rfl⟩
  have hD : va_D A (vkW a cA n hd fm rp rq nd nw bf su sI sO ct) := by rw [hAe]; exact hD0.self (sz := s.heap.size)
  have hA : ∀ q : Nat, s.heap.size ≤ q → A q := fun q h => by rw [hAe]; exact Or.inr h
  have hS : va_S A s.heap s.heap [] := va_S.rf
  have hP : va_P (dC, dI) vwCl (vkW a cA n hd fm rp rq nd nw bf su sI sO ct) s.heap := hP
  have kv : isVw (nI vh) = true := isVw_nI (by omega) (by omega)
  have kp : isRl (nI vp) = true := isRl_nI (by omega)
  have kq : isRl (nI vq) = true := isRl_nI (by omega)
  have lf_10 := hts (.fieldLink RX2 10 "ViewKeeper" "book" "LViewKeeper$RuleBook;") (by decide +kernel)
  have in_X2 : ∀ w ∈ u_ws RX2 TX2 7, w ∈ wsX2_rule := by decide +kernel
  have lf_42 : (Cond.fieldLinkNest RX2 42 "ViewKeeper$RuleBook" "made" "I" "ViewKeeper").before ([.ref (a 0), .int (nI vh), .int (nI vf), .int (nI vp), .int (nI vq)] : List Value).toArray s = true := va_Nw.use rfl (hN _ (by decide +kernel))
  have in_X1 : ∀ w ∈ u_ws RX1 TX1 3, w ∈ wsX2_rule := by decide +kernel
  have hl := lv_entry ([.ref (a 0), .int (nI vh), .int (nI vf), .int (nI vp), .int (nI vq)]) (n := 5) (Nat.le_of_ble_eq_true rfl)
  rw [lg_entry_eq]
  generalize (lg_sl ([.ref (a 0), .int (nI vh), .int (nI vf), .int (nI vp), .int (nI vq)]) ++ List.replicate (5 - (lg_sl ([.ref (a 0), .int (nI vh), .int (nI vf), .int (nI vp), .int (nI vq)])).length) Slot.unset).toArray = ls at hl ⊢
  have hl : lv_has ls 5 [(0, .ref (a 0)), (1, .int (nI vh)), (2, .int (nI vf)), (3, .int (nI vp)), (4, .int (nI vq))] := hl
  refine lv_iload_n hx hb dX2_rule_0 rfl (lv_at hl 1 rfl) ?_
  refine hx_read (va_runS (As := [.int (nI vh)]) (rest := []) ⟨hx, hb, hml, hown, hts⟩ (c_X2_isView l (nI vh)) (va_cwS 1 hts gX2_rule_X2_isView rfl rfl rfl (by decide +kernel) ⟨Nat.le_of_ble_eq_true rfl, Nat.le_of_ble_eq_true rfl⟩) (nu_S _) rfl rfl hl.1 rfl (lv_room (Nat.le_of_ble_eq_true rfl)) dX2_rule_1 ⟨Nat.zero_le _, Nat.zero_le _⟩) ?_
  refine hx_ifB (tgt := 31) hx hb dX2_rule_4 (by decide) (fun c_1 => ?_) (fun c_1 => ?_)
  · exact absurd (kv.symm.trans c_1) (by decide)
  · refine lv_iload_n hx hb dX2_rule_7 rfl (lv_at hl 2 rfl) ?_
    refine lv_if_lt (tgt := 31) hx hb dX2_rule_8 (by decide) (fun c_2 => ?_) (fun c_2 => ?_)
    · exact absurd c_2 (nI_pos (by omega))
    · refine lv_iload_n hx hb dX2_rule_11 rfl (lv_at hl 2 rfl) ?_
      refine lv_iconst (v := nI 4) hx hb dX2_rule_12 (by decide) ?_
      refine hx_gtN (tgt := 31) hx hb dX2_rule_13 (by decide) (by omega) (by omega) (fun c_3 => ?_) (fun c_3 => ?_)
      · exact absurd c_3 (by omega)
      · refine lv_iload_n hx hb dX2_rule_16 rfl (lv_at hl 3 rfl) ?_
        refine hx_read (va_runS (As := [.int (nI vp)]) (rest := []) ⟨hx, hb, hml, hown, hts⟩ (c_X2_isRelation l (nI vp)) (va_cwS 1 hts gX2_rule_X2_isRelation rfl rfl rfl (by decide +kernel) ⟨Nat.le_of_ble_eq_true rfl, Nat.le_of_ble_eq_true rfl⟩) (nu_S _) rfl rfl hl.1 rfl (lv_room (Nat.le_of_ble_eq_true rfl)) dX2_rule_17 ⟨Nat.zero_le _, Nat.zero_le _⟩) ?_
        refine hx_ifB (tgt := 31) hx hb dX2_rule_20 (by decide) (fun c_4 => ?_) (fun c_4 => ?_)
        · exact absurd (kp.symm.trans c_4) (by decide)
        · refine lv_iload hx hb dX2_rule_23 (lv_at hl 4 rfl) ?_
          refine hx_read (va_runS (As := [.int (nI vq)]) (rest := []) ⟨hx, hb, hml, hown, hts⟩ (c_X2_isRelation l (nI vq)) (va_cwS 1 hts gX2_rule_X2_isRelation rfl rfl rfl (by decide +kernel) ⟨Nat.le_of_ble_eq_true rfl, Nat.le_of_ble_eq_true rfl⟩) (nu_S _) rfl rfl hl.1 rfl (lv_room (Nat.le_of_ble_eq_true rfl)) dX2_rule_25 ⟨Nat.zero_le _, Nat.zero_le _⟩) ?_
          refine hx_ifnB (tgt := 33) hx hb dX2_rule_28 (by decide) (fun c_5 => ?_) (fun c_5 => ?_)
          · refine lv_aload_n hx hb dX2_rule_33 rfl (lv_at hl 0 rfl) ?_
            refine va_get (D := (dC, dI)) (ci := 2) (v := .ref (a 1)) (C := RX2) (T := TX2) (N := 7) hx hb hts in_X2 hown hK hP 0 rfl rfl 0 (by decide) lf_10 (fun _ h9 => h9) rfl dX2_rule_34 ?_
            refine va_getN (D := (dC, dI)) (ci := 1) (v := .int (nI n)) (C := RX1) (T := TX1) (N := 3) hx hb hts in_X1 hown hK hP 1 rfl rfl 2 (by decide) lf_42 (fun _ h9 => h9) rfl dX2_rule_37 ?_
            refine lv_bipush (v := nI 12) hx hb dX2_rule_40 (by decide) ?_
            refine hx_ltN (tgt := 48) hx hb dX2_rule_42 (by decide) (by omega) (by omega) (fun c_6 => ?_) (fun c_6 => ?_)
            · refine lv_aload_n hx hb dX2_rule_48 rfl (lv_at hl 0 rfl) ?_
              refine va_get (D := (dC, dI)) (ci := 2) (v := .ref (a 1)) (C := RX2) (T := TX2) (N := 7) hx hb hts in_X2 hown hK hP 0 rfl rfl 0 (by decide) lf_10 (fun _ h9 => h9) rfl dX2_rule_49 ?_
              refine lv_iload_n hx hb dX2_rule_52 rfl (lv_at hl 1 rfl) ?_
              refine lv_iload_n hx hb dX2_rule_53 rfl (lv_at hl 2 rfl) ?_
              refine lv_iload_n hx hb dX2_rule_54 rfl (lv_at hl 3 rfl) ?_
              refine lv_iload hx hb dX2_rule_55 (lv_at hl 4 rfl) ?_
              refine hx_wrv (va_runVN (C := RX1) (As := [.int (nI vh), .int (nI vf), .int (nI vp), .int (nI vq)]) (rest := []) ⟨hx, hb, hml, hown, hts⟩ (c_X1_write l dC dI a cA n hd fm rp rq nd nw bf su sI sO ct vh vf vp vq (hy_0) (hy_1) (hy_2) s.heap.size) ⟨va_cnB 4 hts gX2_rule_X1_write_n46 rfl rfl rfl (hN (.methodLinkNest RX2 46 yX1_write "ViewKeeper") (by decide +kernel)) (hts (.initialized RX1) (by decide +kernel)) (by decide +kernel) ⟨Nat.le_of_ble_eq_true rfl, Nat.le_of_ble_eq_true rfl⟩, hts (.instanceMethod yX1_write) (by decide +kernel), hts (.selects RX1 yX1_write yX1_write) (by decide +kernel)⟩ (wr_V nstW_ok hP hK hN hD 1 rfl rfl _) rfl rfl hl.1 rfl (lv_room (Nat.le_of_ble_eq_true rfl)) dX2_rule_57 ⟨Nat.zero_le _, Nat.zero_le _⟩) hD hS hA (fun H locs hP hD hS => ?_)
              have hP : va_P (dC, dI) vwCl (vkW a cA (n + 1) (va_up hd n vh) (va_up fm n vf) (va_up rp n vp) (va_up rq n vq) (ndA (n + 1) (va_up hd n vh) (va_up fm n vf) (va_up rp n vp) (va_up rq n vq)) nw bf su sI sO ct) H := hP
              have hD : va_D A (vkW a cA (n + 1) (va_up hd n vh) (va_up fm n vf) (va_up rp n vp) (va_up rq n vq) (ndA (n + 1) (va_up hd n vh) (va_up fm n vf) (va_up rp n vp) (va_up rq n vq)) nw bf su sI sO ct) := hD
              refine lv_aload_n hx hb dX2_rule_60 rfl (lv_at hl 0 rfl) ?_
              refine va_get (D := (dC, dI)) (ci := 2) (v := .ref (a 1)) (C := RX2) (T := TX2) (N := 7) hx hb hts in_X2 hown hK hP 0 rfl rfl 0 (by decide) lf_10 (fun _ h9 => h9) rfl dX2_rule_61 ?_
              refine hx_read (va_runVN (C := RX1) (As := []) (rest := []) ⟨hx, hb, hml, hown, hts⟩ (c_X1_hasCycle l dC dI a cA (n + 1) (va_up hd n vh) (va_up fm n vf) (va_up rp n vp) (va_up rq n vq) (ndA (n + 1) (va_up hd n vh) (va_up fm n vf) (va_up rp n vp) (va_up rq n vq)) nw bf su sI sO ct (ruOk_add hy_0 hy_1 hy_2)) ⟨va_cnB 0 hts gX2_rule_X1_hasCycle_n50 rfl rfl rfl (hN (.methodLinkNest RX2 50 yX1_hasCycle "ViewKeeper") (by decide +kernel)) (hts (.initialized RX1) (by decide +kernel)) (by decide +kernel) ⟨Nat.le_of_ble_eq_true rfl, Nat.le_of_ble_eq_true rfl⟩, hts (.instanceMethod yX1_hasCycle) (by decide +kernel), hts (.selects RX1 yX1_hasCycle yX1_hasCycle) (by decide +kernel)⟩ (rd_V nstW_ok hP hK hN 1 rfl rfl _) rfl rfl hl.1 rfl (lv_room (Nat.le_of_ble_eq_true rfl)) dX2_rule_64 ⟨Nat.zero_le _, Nat.zero_le _⟩) ?_
              refine hx_ifB (tgt := 80) hx hb dX2_rule_67 (by decide) (fun c_7 => ?_) (fun c_7 => ?_)
              · refine lv_aload_n hx hb dX2_rule_80 rfl (lv_at hl 0 rfl) ?_
                refine hx_wrv (va_runV (As := []) (rest := []) ⟨hx, hb, hml, hown, hts⟩ (c_X2_startFromNothing l dC dI a cA (n + 1) (va_up hd n vh) (va_up fm n vf) (va_up rp n vp) (va_up rq n vq) (ndA (n + 1) (va_up hd n vh) (va_up fm n vf) (va_up rp n vp) (va_up rq n vq)) nw bf su sI sO ct H.size) (cwV 0 hts gX2_rule_X2_startFromNothing rfl rfl rfl (by decide +kernel) ⟨Nat.le_of_ble_eq_true rfl, Nat.le_of_ble_eq_true rfl⟩) (wr_V nstW_ok hP hK hN hD 0 rfl rfl _) rfl rfl hl.1 rfl (lv_room (Nat.le_of_ble_eq_true rfl)) dX2_rule_81 ⟨Nat.zero_le _, Nat.zero_le _⟩) hD hS hA (fun H locs hP hD hS => ?_)
                have hP : va_P (dC, dI) vwCl (vkW a cA ((n + 1)) ((va_up hd n vh)) ((va_up fm n vf)) ((va_up rp n vp)) ((va_up rq n vq)) ((ndA (n + 1) (va_up hd n vh) (va_up fm n vf) (va_up rp n vp) (va_up rq n vq))) (zeF 5 2 nw) (fun _ => nI 0) (fun _ => nI 0) sI sO (fun _ => nI 0)) H := hP
                have hD : va_D A (vkW a cA ((n + 1)) ((va_up hd n vh)) ((va_up fm n vf)) ((va_up rp n vp)) ((va_up rq n vq)) ((ndA (n + 1) (va_up hd n vh) (va_up fm n vf) (va_up rp n vp) (va_up rq n vq))) (zeF 5 2 nw) (fun _ => nI 0) (fun _ => nI 0) sI sO (fun _ => nI 0)) := hD
                refine lv_aload_n hx hb dX2_rule_84 rfl (lv_at hl 0 rfl) ?_
                refine hx_wrv (va_runV (As := []) (rest := []) ⟨hx, hb, hml, hown, hts⟩ (c_X2_bringUpToDate l dC dI a cA ((n + 1)) ((va_up hd n vh)) ((va_up fm n vf)) ((va_up rp n vp)) ((va_up rq n vq)) ((ndA (n + 1) (va_up hd n vh) (va_up fm n vf) (va_up rp n vp) (va_up rq n vq))) (zeF 5 2 nw) (fun _ => nI 0) (fun _ => nI 0) sI sO (fun _ => nI 0) (ruOk_add hy_0 hy_1 hy_2) H.size) (cwV 0 hts gX2_rule_X2_bringUpToDate rfl rfl rfl (by decide +kernel) ⟨Nat.le_of_ble_eq_true rfl, Nat.le_of_ble_eq_true rfl⟩) (wr_V nstW_ok hP hK hN hD 0 rfl rfl _) rfl rfl hl.1 rfl (lv_room (Nat.le_of_ble_eq_true rfl)) dX2_rule_85 ⟨Nat.zero_le _, Nat.zero_le _⟩) hD hS hA (fun H locs hP hD hS => ?_)
                have hP : va_P (dC, dI) vwCl (vkW a cA (((n + 1))) (((va_up hd n vh))) (((va_up fm n vf))) (((va_up rp n vp))) (((va_up rq n vq))) (((ndA (n + 1) (va_up hd n vh) (va_up fm n vf) (va_up rp n vp) (va_up rq n vq)))) ((clF ((n + 1)) ((va_up hd n vh)) ((va_up fm n vf)) ((va_up rp n vp)) ((va_up rq n vq)) ((ndA (n + 1) (va_up hd n vh) (va_up fm n vf) (va_up rp n vp) (va_up rq n vq))) (fun _ => nI 0) 7 1 (fun _ => nI 0) (zeF 5 2 nw) (fun _ => nI 0)).2.1) ((fun _ => nI 0)) ((clF ((n + 1)) ((va_up hd n vh)) ((va_up fm n vf)) ((va_up rp n vp)) ((va_up rq n vq)) ((ndA (n + 1) (va_up hd n vh) (va_up fm n vf) (va_up rp n vp) (va_up rq n vq))) (fun _ => nI 0) 7 1 (fun _ => nI 0) (zeF 5 2 nw) (fun _ => nI 0)).2.2) sI sO ((clF ((n + 1)) ((va_up hd n vh)) ((va_up fm n vf)) ((va_up rp n vp)) ((va_up rq n vq)) ((ndA (n + 1) (va_up hd n vh) (va_up fm n vf) (va_up rp n vp) (va_up rq n vq))) (fun _ => nI 0) 7 1 (fun _ => nI 0) (zeF 5 2 nw) (fun _ => nI 0)).1)) H := hP
                have hD : va_D A (vkW a cA (((n + 1))) (((va_up hd n vh))) (((va_up fm n vf))) (((va_up rp n vp))) (((va_up rq n vq))) (((ndA (n + 1) (va_up hd n vh) (va_up fm n vf) (va_up rp n vp) (va_up rq n vq)))) ((clF ((n + 1)) ((va_up hd n vh)) ((va_up fm n vf)) ((va_up rp n vp)) ((va_up rq n vq)) ((ndA (n + 1) (va_up hd n vh) (va_up fm n vf) (va_up rp n vp) (va_up rq n vq))) (fun _ => nI 0) 7 1 (fun _ => nI 0) (zeF 5 2 nw) (fun _ => nI 0)).2.1) ((fun _ => nI 0)) ((clF ((n + 1)) ((va_up hd n vh)) ((va_up fm n vf)) ((va_up rp n vp)) ((va_up rq n vq)) ((ndA (n + 1) (va_up hd n vh) (va_up fm n vf) (va_up rp n vp) (va_up rq n vq))) (fun _ => nI 0) 7 1 (fun _ => nI 0) (zeF 5 2 nw) (fun _ => nI 0)).2.2) sI sO ((clF ((n + 1)) ((va_up hd n vh)) ((va_up fm n vf)) ((va_up rp n vp)) ((va_up rq n vq)) ((ndA (n + 1) (va_up hd n vh) (va_up fm n vf) (va_up rp n vp) (va_up rq n vq))) (fun _ => nI 0) 7 1 (fun _ => nI 0) (zeF 5 2 nw) (fun _ => nI 0)).1)) := hD
                refine lv_aload_n hx hb dX2_rule_88 rfl (lv_at hl 0 rfl) ?_
                refine hx_wrv (va_runV (As := []) (rest := []) ⟨hx, hb, hml, hown, hts⟩ (c_X2_forgetChanges l dC dI a cA (((n + 1))) (((va_up hd n vh))) (((va_up fm n vf))) (((va_up rp n vp))) (((va_up rq n vq))) (((ndA (n + 1) (va_up hd n vh) (va_up fm n vf) (va_up rp n vp) (va_up rq n vq)))) ((clF ((n + 1)) ((va_up hd n vh)) ((va_up fm n vf)) ((va_up rp n vp)) ((va_up rq n vq)) ((ndA (n + 1) (va_up hd n vh) (va_up fm n vf) (va_up rp n vp) (va_up rq n vq))) (fun _ => nI 0) 7 1 (fun _ => nI 0) (zeF 5 2 nw) (fun _ => nI 0)).2.1) ((fun _ => nI 0)) ((clF ((n + 1)) ((va_up hd n vh)) ((va_up fm n vf)) ((va_up rp n vp)) ((va_up rq n vq)) ((ndA (n + 1) (va_up hd n vh) (va_up fm n vf) (va_up rp n vp) (va_up rq n vq))) (fun _ => nI 0) 7 1 (fun _ => nI 0) (zeF 5 2 nw) (fun _ => nI 0)).2.2) sI sO ((clF ((n + 1)) ((va_up hd n vh)) ((va_up fm n vf)) ((va_up rp n vp)) ((va_up rq n vq)) ((ndA (n + 1) (va_up hd n vh) (va_up fm n vf) (va_up rp n vp) (va_up rq n vq))) (fun _ => nI 0) 7 1 (fun _ => nI 0) (zeF 5 2 nw) (fun _ => nI 0)).1) H.size) (cwV 0 hts gX2_rule_X2_forgetChanges rfl rfl rfl (by decide +kernel) ⟨Nat.le_of_ble_eq_true rfl, Nat.le_of_ble_eq_true rfl⟩) (wr_V nstW_ok hP hK hN hD 0 rfl rfl _) rfl rfl hl.1 rfl (lv_room (Nat.le_of_ble_eq_true rfl)) dX2_rule_89 ⟨Nat.zero_le _, Nat.zero_le _⟩) hD hS hA (fun H locs hP hD hS => ?_)
                have hP : va_P (dC, dI) vwCl (vkW a cA ((((n + 1)))) ((((va_up hd n vh)))) ((((va_up fm n vf)))) ((((va_up rp n vp)))) ((((va_up rq n vq)))) ((((ndA (n + 1) (va_up hd n vh) (va_up fm n vf) (va_up rp n vp) (va_up rq n vq))))) (((clF ((n + 1)) ((va_up hd n vh)) ((va_up fm n vf)) ((va_up rp n vp)) ((va_up rq n vq)) ((ndA (n + 1) (va_up hd n vh) (va_up fm n vf) (va_up rp n vp) (va_up rq n vq))) (fun _ => nI 0) 7 1 (fun _ => nI 0) (zeF 5 2 nw) (fun _ => nI 0)).2.1)) (((clF ((n + 1)) ((va_up hd n vh)) ((va_up fm n vf)) ((va_up rp n vp)) ((va_up rq n vq)) ((ndA (n + 1) (va_up hd n vh) (va_up fm n vf) (va_up rp n vp) (va_up rq n vq))) (fun _ => nI 0) 7 1 (fun _ => nI 0) (zeF 5 2 nw) (fun _ => nI 0)).2.1)) (fun _ => nI 0) sI sO (((clF ((n + 1)) ((va_up hd n vh)) ((va_up fm n vf)) ((va_up rp n vp)) ((va_up rq n vq)) ((ndA (n + 1) (va_up hd n vh) (va_up fm n vf) (va_up rp n vp) (va_up rq n vq))) (fun _ => nI 0) 7 1 (fun _ => nI 0) (zeF 5 2 nw) (fun _ => nI 0)).1))) H := hP
                have hD : va_D A (vkW a cA ((((n + 1)))) ((((va_up hd n vh)))) ((((va_up fm n vf)))) ((((va_up rp n vp)))) ((((va_up rq n vq)))) ((((ndA (n + 1) (va_up hd n vh) (va_up fm n vf) (va_up rp n vp) (va_up rq n vq))))) (((clF ((n + 1)) ((va_up hd n vh)) ((va_up fm n vf)) ((va_up rp n vp)) ((va_up rq n vq)) ((ndA (n + 1) (va_up hd n vh) (va_up fm n vf) (va_up rp n vp) (va_up rq n vq))) (fun _ => nI 0) 7 1 (fun _ => nI 0) (zeF 5 2 nw) (fun _ => nI 0)).2.1)) (((clF ((n + 1)) ((va_up hd n vh)) ((va_up fm n vf)) ((va_up rp n vp)) ((va_up rq n vq)) ((ndA (n + 1) (va_up hd n vh) (va_up fm n vf) (va_up rp n vp) (va_up rq n vq))) (fun _ => nI 0) 7 1 (fun _ => nI 0) (zeF 5 2 nw) (fun _ => nI 0)).2.1)) (fun _ => nI 0) sI sO (((clF ((n + 1)) ((va_up hd n vh)) ((va_up fm n vf)) ((va_up rp n vp)) ((va_up rq n vq)) ((ndA (n + 1) (va_up hd n vh) (va_up fm n vf) (va_up rp n vp) (va_up rq n vq))) (fun _ => nI 0) 7 1 (fun _ => nI 0) (zeF 5 2 nw) (fun _ => nI 0)).1))) := hD
                refine lv_aload_n hx hb dX2_rule_92 rfl (lv_at hl 0 rfl) ?_
                refine va_get (D := (dC, dI)) (ci := 2) (v := .ref (a 1)) (C := RX2) (T := TX2) (N := 7) hx hb hts in_X2 hown hK hP 0 rfl rfl 0 (by decide) lf_10 (fun _ h9 => h9) rfl dX2_rule_93 ?_
                refine va_getN (D := (dC, dI)) (ci := 1) (v := .int (nI ((((n + 1)))))) (C := RX1) (T := TX1) (N := 3) hx hb hts in_X1 hown hK hP 1 rfl rfl 2 (by decide) lf_42 (fun _ h9 => h9) rfl dX2_rule_96 ?_
                refine lv_iconst (v := nI 1) hx hb dX2_rule_99 (by decide) ?_
                refine hx_isub (by omega) hx hb dX2_rule_100 ?_
                have e9 : vkW a cA ((((n + 1)))) ((((va_up hd n vh)))) ((((va_up fm n vf)))) ((((va_up rp n vp)))) ((((va_up rq n vq)))) ((((ndA (n + 1) (va_up hd n vh) (va_up fm n vf) (va_up rp n vp) (va_up rq n vq))))) (((clF ((n + 1)) ((va_up hd n vh)) ((va_up fm n vf)) ((va_up rp n vp)) ((va_up rq n vq)) ((ndA (n + 1) (va_up hd n vh) (va_up fm n vf) (va_up rp n vp) (va_up rq n vq))) (fun _ => nI 0) 7 1 (fun _ => nI 0) (zeF 5 2 nw) (fun _ => nI 0)).2.1)) (((clF ((n + 1)) ((va_up hd n vh)) ((va_up fm n vf)) ((va_up rp n vp)) ((va_up rq n vq)) ((ndA (n + 1) (va_up hd n vh) (va_up fm n vf) (va_up rp n vp) (va_up rq n vq))) (fun _ => nI 0) 7 1 (fun _ => nI 0) (zeF 5 2 nw) (fun _ => nI 0)).2.1)) (fun _ => nI 0) sI sO (((clF ((n + 1)) ((va_up hd n vh)) ((va_up fm n vf)) ((va_up rp n vp)) ((va_up rq n vq)) ((ndA (n + 1) (va_up hd n vh) (va_up fm n vf) (va_up rp n vp) (va_up rq n vq))) (fun _ => nI 0) 7 1 (fun _ => nI 0) (zeF 5 2 nw) (fun _ => nI 0)).1)) = vkW a cA (n + 1) (va_up hd n vh) (va_up fm n vf) (va_up rp n vp) (va_up rq n vq) (ndA (n + 1) (va_up hd n vh) (va_up fm n vf) (va_up rp n vp) (va_up rq n vq)) (rmM (n + 1) (va_up hd n vh) (va_up fm n vf) (va_up rp n vp) (va_up rq n vq) (ndA (n + 1) (va_up hd n vh) (va_up fm n vf) (va_up rp n vp) (va_up rq n vq)) nw) (rmM (n + 1) (va_up hd n vh) (va_up fm n vf) (va_up rp n vp) (va_up rq n vq) (ndA (n + 1) (va_up hd n vh) (va_up fm n vf) (va_up rp n vp) (va_up rq n vq)) nw) (fun _ => nI 0) sI sO (rmC (n + 1) (va_up hd n vh) (va_up fm n vf) (va_up rp n vp) (va_up rq n vq) (ndA (n + 1) (va_up hd n vh) (va_up fm n vf) (va_up rp n vp) (va_up rq n vq)) nw) := rfl
                rw [e9] at hP hD
                subst hAe
                exact W.iret (v := nI (((((n + 1)))) - 1)) hx hb hr (fun t ht hW => ⟨⟨_, (), rfl, rfl, by rw [ht]; exact hP, va_K.moved hW.alike hK, hD⟩, hS.F ht⟩) hS.2.2 dX2_rule_101
              · exact absurd (hy_3.symm.trans c_7) (by decide)
            · exact absurd c_6 (by omega)
          · exact absurd (kq.symm.trans c_5) (by decide)
set_option maxHeartbeats 4000000 in
set_option maxRecDepth 100000 in
theorem c_X2_undo_b (l : Launch) (dC : Nat → ClassId) (dI : Nat → Nat → Nat) (a : Nat → Nat) (cA : Nat → ClassId) (n : Nat) (hd fm rp rq : Nat → Nat) (nd nw bf su sI sO ct : Nat → Int32) (hy_0 : n = 0) : WrI l yX2_undo wsX2_undo ({ frames := 6, cells := 0, slots := 0, locals := 140 }) (dC, dI) vwCl (vkW a cA n hd fm rp rq nd nw bf su sI sO ct) (vkW a cA n hd fm rp rq nd nw bf su sI sO ct) (vkT cA) nstW [.ref (a 0)] ((-1)) := by
  intro sz
  refine Met.ofW (cc := cX2_undo) (maxL := 1) (ret := (some .int)) (by decide) rfl ?_
  intro p e s m args below meth c s₁ B hml hv
  obtain ⟨rfl, hsz, ⟨hP, hK, hN⟩, hD0⟩ := hv
  subst hsz
  have hx := B.exec
  have hb := B.bytes
  have hr := B.returns
  have hts := atoms_spec (ws := wsX2_undo) B.pre
  have hown : s.vm.findClass RX2 = some m.cls := findClass_of_methodNamed B.named
  have hlocks := B.notSynchronized
  obtain ⟨A, hAe⟩ : ∃ A, A = va_A (vkW a cA n hd fm rp rq nd nw bf su sI sO ct) s.heap.size := ⟨_, rfl⟩
  have hD : va_D A (vkW a cA n hd fm rp rq nd nw bf su sI sO ct) := by rw [hAe]; exact hD0.self (sz := s.heap.size)
  have hA : ∀ q : Nat, s.heap.size ≤ q → A q := fun q h => by rw [hAe]; exact Or.inr h
  have hS : va_S A s.heap s.heap [] := va_S.rf
  have hP : va_P (dC, dI) vwCl (vkW a cA n hd fm rp rq nd nw bf su sI sO ct) s.heap := hP
  have lf_10 := hts (.fieldLink RX2 10 "ViewKeeper" "book" "LViewKeeper$RuleBook;") (by decide +kernel)
  have in_X2 : ∀ w ∈ u_ws RX2 TX2 7, w ∈ wsX2_undo := by decide +kernel
  have lf_42 : (Cond.fieldLinkNest RX2 42 "ViewKeeper$RuleBook" "made" "I" "ViewKeeper").before ([.ref (a 0)] : List Value).toArray s = true := va_Nw.use rfl (hN _ (by decide +kernel))
  have in_X1 : ∀ w ∈ u_ws RX1 TX1 3, w ∈ wsX2_undo := by decide +kernel
  have hl := lv_entry ([.ref (a 0)]) (n := 1) (Nat.le_of_ble_eq_true rfl)
  rw [lg_entry_eq]
  generalize (lg_sl ([.ref (a 0)]) ++ List.replicate (1 - (lg_sl ([.ref (a 0)])).length) Slot.unset).toArray = ls at hl ⊢
  have hl : lv_has ls 1 [(0, .ref (a 0))] := hl
  refine lv_aload_n hx hb dX2_undo_0 rfl (lv_at hl 0 rfl) ?_
  refine va_get (D := (dC, dI)) (ci := 2) (v := .ref (a 1)) (C := RX2) (T := TX2) (N := 7) hx hb hts in_X2 hown hK hP 0 rfl rfl 0 (by decide) lf_10 (fun _ h9 => h9) rfl dX2_undo_1 ?_
  refine va_getN (D := (dC, dI)) (ci := 1) (v := .int (nI n)) (C := RX1) (T := TX1) (N := 3) hx hb hts in_X1 hown hK hP 1 rfl rfl 2 (by decide) lf_42 (fun _ h9 => h9) rfl dX2_undo_4 ?_
  refine hx_ifn0 (tgt := 12) hx hb dX2_undo_7 (by decide) (by omega) (fun c_1 => ?_) (fun c_1 => ?_)
  · exact absurd c_1 (by omega)
  · refine lv_iconst (v := (-1)) hx hb dX2_undo_10 (by decide) ?_
    have e9 : vkW a cA n hd fm rp rq nd nw bf su sI sO ct = vkW a cA n hd fm rp rq nd nw bf su sI sO ct := rfl
    rw [e9] at hP hD
    subst hAe
    exact W.iret (v := (-1)) hx hb hr (fun t ht hW => ⟨⟨_, (), rfl, rfl, by rw [ht]; exact hP, va_K.moved hW.alike hK, hD⟩, hS.F ht⟩) hS.2.2 dX2_undo_11
set_option maxHeartbeats 4000000 in
set_option maxRecDepth 100000 in
theorem c_X2_undo_g (l : Launch) (dC : Nat → ClassId) (dI : Nat → Nat → Nat) (a : Nat → Nat) (cA : Nat → ClassId) (n : Nat) (hd fm rp rq : Nat → Nat) (nd nw bf su sI sO ct : Nat → Int32) (hy_0 : ruOk n hd fm rp rq) (hy_1 : 1 ≤ n) : WrI l yX2_undo wsX2_undo ({ frames := 6, cells := 0, slots := 0, locals := 140 }) (dC, dI) vwCl (vkW a cA n hd fm rp rq nd nw bf su sI sO ct) (vkW a cA (n - 1) hd fm rp rq (ndA (n - 1) hd fm rp rq) (rmM (n - 1) hd fm rp rq (ndA (n - 1) hd fm rp rq) nw) (rmM (n - 1) hd fm rp rq (ndA (n - 1) hd fm rp rq) nw) (fun _ => nI 0) sI sO (rmC (n - 1) hd fm rp rq (ndA (n - 1) hd fm rp rq) nw)) (vkT cA) nstW [.ref (a 0)] (nI (n - 1)) := by
  intro sz
  refine Met.ofW (cc := cX2_undo) (maxL := 1) (ret := (some .int)) (by decide) rfl ?_
  intro p e s m args below meth c s₁ B hml hv
  obtain ⟨rfl, hsz, ⟨hP, hK, hN⟩, hD0⟩ := hv
  subst hsz
  have hx := B.exec
  have hb := B.bytes
  have hr := B.returns
  have hts := atoms_spec (ws := wsX2_undo) B.pre
  have hown : s.vm.findClass RX2 = some m.cls := findClass_of_methodNamed B.named
  have hlocks := B.notSynchronized
  obtain ⟨A, hAe⟩ : ∃ A, A = va_A (vkW a cA n hd fm rp rq nd nw bf su sI sO ct) s.heap.size := ⟨_, rfl⟩
  have hD : va_D A (vkW a cA n hd fm rp rq nd nw bf su sI sO ct) := by rw [hAe]; exact hD0.self (sz := s.heap.size)
  have hA : ∀ q : Nat, s.heap.size ≤ q → A q := fun q h => by rw [hAe]; exact Or.inr h
  have hS : va_S A s.heap s.heap [] := va_S.rf
  have hP : va_P (dC, dI) vwCl (vkW a cA n hd fm rp rq nd nw bf su sI sO ct) s.heap := hP
  have hn12 := hy_0.1
  have lf_10 := hts (.fieldLink RX2 10 "ViewKeeper" "book" "LViewKeeper$RuleBook;") (by decide +kernel)
  have in_X2 : ∀ w ∈ u_ws RX2 TX2 7, w ∈ wsX2_undo := by decide +kernel
  have lf_42 : (Cond.fieldLinkNest RX2 42 "ViewKeeper$RuleBook" "made" "I" "ViewKeeper").before ([.ref (a 0)] : List Value).toArray s = true := va_Nw.use rfl (hN _ (by decide +kernel))
  have in_X1 : ∀ w ∈ u_ws RX1 TX1 3, w ∈ wsX2_undo := by decide +kernel
  have hl := lv_entry ([.ref (a 0)]) (n := 1) (Nat.le_of_ble_eq_true rfl)
  rw [lg_entry_eq]
  generalize (lg_sl ([.ref (a 0)]) ++ List.replicate (1 - (lg_sl ([.ref (a 0)])).length) Slot.unset).toArray = ls at hl ⊢
  have hl : lv_has ls 1 [(0, .ref (a 0))] := hl
  refine lv_aload_n hx hb dX2_undo_0 rfl (lv_at hl 0 rfl) ?_
  refine va_get (D := (dC, dI)) (ci := 2) (v := .ref (a 1)) (C := RX2) (T := TX2) (N := 7) hx hb hts in_X2 hown hK hP 0 rfl rfl 0 (by decide) lf_10 (fun _ h9 => h9) rfl dX2_undo_1 ?_
  refine va_getN (D := (dC, dI)) (ci := 1) (v := .int (nI n)) (C := RX1) (T := TX1) (N := 3) hx hb hts in_X1 hown hK hP 1 rfl rfl 2 (by decide) lf_42 (fun _ h9 => h9) rfl dX2_undo_4 ?_
  refine hx_ifn0 (tgt := 12) hx hb dX2_undo_7 (by decide) (by omega) (fun c_1 => ?_) (fun c_1 => ?_)
  · refine lv_aload_n hx hb dX2_undo_12 rfl (lv_at hl 0 rfl) ?_
    refine va_get (D := (dC, dI)) (ci := 2) (v := .ref (a 1)) (C := RX2) (T := TX2) (N := 7) hx hb hts in_X2 hown hK hP 0 rfl rfl 0 (by decide) lf_10 (fun _ h9 => h9) rfl dX2_undo_13 ?_
    refine hx_wrv (va_runVN (C := RX1) (As := []) (rest := []) ⟨hx, hb, hml, hown, hts⟩ (c_X1_strikeLast l dC dI a cA n hd fm rp rq nd nw bf su sI sO ct (hy_0) (by omega) s.heap.size) ⟨va_cnB 0 hts gX2_undo_X1_strikeLast_n54 rfl rfl rfl (hN (.methodLinkNest RX2 54 yX1_strikeLast "ViewKeeper") (by decide +kernel)) (hts (.initialized RX1) (by decide +kernel)) (by decide +kernel) ⟨Nat.le_of_ble_eq_true rfl, Nat.le_of_ble_eq_true rfl⟩, hts (.instanceMethod yX1_strikeLast) (by decide +kernel), hts (.selects RX1 yX1_strikeLast yX1_strikeLast) (by decide +kernel)⟩ (wr_V nstW_ok hP hK hN hD 1 rfl rfl _) rfl rfl hl.1 rfl (lv_room (Nat.le_of_ble_eq_true rfl)) dX2_undo_16 ⟨Nat.zero_le _, Nat.zero_le _⟩) hD hS hA (fun H locs hP hD hS => ?_)
    have hP : va_P (dC, dI) vwCl (vkW a cA (n - 1) hd fm rp rq (ndA (n - 1) hd fm rp rq) nw bf su sI sO ct) H := hP
    have hD : va_D A (vkW a cA (n - 1) hd fm rp rq (ndA (n - 1) hd fm rp rq) nw bf su sI sO ct) := hD
    refine lv_aload_n hx hb dX2_undo_19 rfl (lv_at hl 0 rfl) ?_
    refine hx_wrv (va_runV (As := []) (rest := []) ⟨hx, hb, hml, hown, hts⟩ (c_X2_startFromNothing l dC dI a cA (n - 1) hd fm rp rq (ndA (n - 1) hd fm rp rq) nw bf su sI sO ct H.size) (cwV 0 hts gX2_undo_X2_startFromNothing rfl rfl rfl (by decide +kernel) ⟨Nat.le_of_ble_eq_true rfl, Nat.le_of_ble_eq_true rfl⟩) (wr_V nstW_ok hP hK hN hD 0 rfl rfl _) rfl rfl hl.1 rfl (lv_room (Nat.le_of_ble_eq_true rfl)) dX2_undo_20 ⟨Nat.zero_le _, Nat.zero_le _⟩) hD hS hA (fun H locs hP hD hS => ?_)
    have hP : va_P (dC, dI) vwCl (vkW a cA ((n - 1)) hd fm rp rq ((ndA (n - 1) hd fm rp rq)) (zeF 5 2 nw) (fun _ => nI 0) (fun _ => nI 0) sI sO (fun _ => nI 0)) H := hP
    have hD : va_D A (vkW a cA ((n - 1)) hd fm rp rq ((ndA (n - 1) hd fm rp rq)) (zeF 5 2 nw) (fun _ => nI 0) (fun _ => nI 0) sI sO (fun _ => nI 0)) := hD
    refine lv_aload_n hx hb dX2_undo_23 rfl (lv_at hl 0 rfl) ?_
    refine hx_wrv (va_runV (As := []) (rest := []) ⟨hx, hb, hml, hown, hts⟩ (c_X2_bringUpToDate l dC dI a cA ((n - 1)) hd fm rp rq ((ndA (n - 1) hd fm rp rq)) (zeF 5 2 nw) (fun _ => nI 0) (fun _ => nI 0) sI sO (fun _ => nI 0) (ruOk_pred hy_0) H.size) (cwV 0 hts gX2_undo_X2_bringUpToDate rfl rfl rfl (by decide +kernel) ⟨Nat.le_of_ble_eq_true rfl, Nat.le_of_ble_eq_true rfl⟩) (wr_V nstW_ok hP hK hN hD 0 rfl rfl _) rfl rfl hl.1 rfl (lv_room (Nat.le_of_ble_eq_true rfl)) dX2_undo_24 ⟨Nat.zero_le _, Nat.zero_le _⟩) hD hS hA (fun H locs hP hD hS => ?_)
    have hP : va_P (dC, dI) vwCl (vkW a cA (((n - 1))) hd fm rp rq (((ndA (n - 1) hd fm rp rq))) ((clF ((n - 1)) hd fm rp rq ((ndA (n - 1) hd fm rp rq)) (fun _ => nI 0) 7 1 (fun _ => nI 0) (zeF 5 2 nw) (fun _ => nI 0)).2.1) ((fun _ => nI 0)) ((clF ((n - 1)) hd fm rp rq ((ndA (n - 1) hd fm rp rq)) (fun _ => nI 0) 7 1 (fun _ => nI 0) (zeF 5 2 nw) (fun _ => nI 0)).2.2) sI sO ((clF ((n - 1)) hd fm rp rq ((ndA (n - 1) hd fm rp rq)) (fun _ => nI 0) 7 1 (fun _ => nI 0) (zeF 5 2 nw) (fun _ => nI 0)).1)) H := hP
    have hD : va_D A (vkW a cA (((n - 1))) hd fm rp rq (((ndA (n - 1) hd fm rp rq))) ((clF ((n - 1)) hd fm rp rq ((ndA (n - 1) hd fm rp rq)) (fun _ => nI 0) 7 1 (fun _ => nI 0) (zeF 5 2 nw) (fun _ => nI 0)).2.1) ((fun _ => nI 0)) ((clF ((n - 1)) hd fm rp rq ((ndA (n - 1) hd fm rp rq)) (fun _ => nI 0) 7 1 (fun _ => nI 0) (zeF 5 2 nw) (fun _ => nI 0)).2.2) sI sO ((clF ((n - 1)) hd fm rp rq ((ndA (n - 1) hd fm rp rq)) (fun _ => nI 0) 7 1 (fun _ => nI 0) (zeF 5 2 nw) (fun _ => nI 0)).1)) := hD
    refine lv_aload_n hx hb dX2_undo_27 rfl (lv_at hl 0 rfl) ?_
    refine hx_wrv (va_runV (As := []) (rest := []) ⟨hx, hb, hml, hown, hts⟩ (c_X2_forgetChanges l dC dI a cA (((n - 1))) hd fm rp rq (((ndA (n - 1) hd fm rp rq))) ((clF ((n - 1)) hd fm rp rq ((ndA (n - 1) hd fm rp rq)) (fun _ => nI 0) 7 1 (fun _ => nI 0) (zeF 5 2 nw) (fun _ => nI 0)).2.1) ((fun _ => nI 0)) ((clF ((n - 1)) hd fm rp rq ((ndA (n - 1) hd fm rp rq)) (fun _ => nI 0) 7 1 (fun _ => nI 0) (zeF 5 2 nw) (fun _ => nI 0)).2.2) sI sO ((clF ((n - 1)) hd fm rp rq ((ndA (n - 1) hd fm rp rq)) (fun _ => nI 0) 7 1 (fun _ => nI 0) (zeF 5 2 nw) (fun _ => nI 0)).1) H.size) (cwV 0 hts gX2_undo_X2_forgetChanges rfl rfl rfl (by decide +kernel) ⟨Nat.le_of_ble_eq_true rfl, Nat.le_of_ble_eq_true rfl⟩) (wr_V nstW_ok hP hK hN hD 0 rfl rfl _) rfl rfl hl.1 rfl (lv_room (Nat.le_of_ble_eq_true rfl)) dX2_undo_28 ⟨Nat.zero_le _, Nat.zero_le _⟩) hD hS hA (fun H locs hP hD hS => ?_)
    have hP : va_P (dC, dI) vwCl (vkW a cA ((((n - 1)))) hd fm rp rq ((((ndA (n - 1) hd fm rp rq)))) (((clF ((n - 1)) hd fm rp rq ((ndA (n - 1) hd fm rp rq)) (fun _ => nI 0) 7 1 (fun _ => nI 0) (zeF 5 2 nw) (fun _ => nI 0)).2.1)) (((clF ((n - 1)) hd fm rp rq ((ndA (n - 1) hd fm rp rq)) (fun _ => nI 0) 7 1 (fun _ => nI 0) (zeF 5 2 nw) (fun _ => nI 0)).2.1)) (fun _ => nI 0) sI sO (((clF ((n - 1)) hd fm rp rq ((ndA (n - 1) hd fm rp rq)) (fun _ => nI 0) 7 1 (fun _ => nI 0) (zeF 5 2 nw) (fun _ => nI 0)).1))) H := hP
    have hD : va_D A (vkW a cA ((((n - 1)))) hd fm rp rq ((((ndA (n - 1) hd fm rp rq)))) (((clF ((n - 1)) hd fm rp rq ((ndA (n - 1) hd fm rp rq)) (fun _ => nI 0) 7 1 (fun _ => nI 0) (zeF 5 2 nw) (fun _ => nI 0)).2.1)) (((clF ((n - 1)) hd fm rp rq ((ndA (n - 1) hd fm rp rq)) (fun _ => nI 0) 7 1 (fun _ => nI 0) (zeF 5 2 nw) (fun _ => nI 0)).2.1)) (fun _ => nI 0) sI sO (((clF ((n - 1)) hd fm rp rq ((ndA (n - 1) hd fm rp rq)) (fun _ => nI 0) 7 1 (fun _ => nI 0) (zeF 5 2 nw) (fun _ => nI 0)).1))) := hD
    refine lv_aload_n hx hb dX2_undo_31 rfl (lv_at hl 0 rfl) ?_
    refine va_get (D := (dC, dI)) (ci := 2) (v := .ref (a 1)) (C := RX2) (T := TX2) (N := 7) hx hb hts in_X2 hown hK hP 0 rfl rfl 0 (by decide) lf_10 (fun _ h9 => h9) rfl dX2_undo_32 ?_
    refine va_getN (D := (dC, dI)) (ci := 1) (v := .int (nI ((((n - 1)))))) (C := RX1) (T := TX1) (N := 3) hx hb hts in_X1 hown hK hP 1 rfl rfl 2 (by decide) lf_42 (fun _ h9 => h9) rfl dX2_undo_35 ?_
    have e9 : vkW a cA ((((n - 1)))) hd fm rp rq ((((ndA (n - 1) hd fm rp rq)))) (((clF ((n - 1)) hd fm rp rq ((ndA (n - 1) hd fm rp rq)) (fun _ => nI 0) 7 1 (fun _ => nI 0) (zeF 5 2 nw) (fun _ => nI 0)).2.1)) (((clF ((n - 1)) hd fm rp rq ((ndA (n - 1) hd fm rp rq)) (fun _ => nI 0) 7 1 (fun _ => nI 0) (zeF 5 2 nw) (fun _ => nI 0)).2.1)) (fun _ => nI 0) sI sO (((clF ((n - 1)) hd fm rp rq ((ndA (n - 1) hd fm rp rq)) (fun _ => nI 0) 7 1 (fun _ => nI 0) (zeF 5 2 nw) (fun _ => nI 0)).1)) = vkW a cA (n - 1) hd fm rp rq (ndA (n - 1) hd fm rp rq) (rmM (n - 1) hd fm rp rq (ndA (n - 1) hd fm rp rq) nw) (rmM (n - 1) hd fm rp rq (ndA (n - 1) hd fm rp rq) nw) (fun _ => nI 0) sI sO (rmC (n - 1) hd fm rp rq (ndA (n - 1) hd fm rp rq) nw) := rfl
    rw [e9] at hP hD
    subst hAe
    exact W.iret (v := nI ((((n - 1))))) hx hb hr (fun t ht hW => ⟨⟨_, (), rfl, rfl, by rw [ht]; exact hP, va_K.moved hW.alike hK, hD⟩, hS.F ht⟩) hS.2.2 dX2_undo_38
  · exact absurd c_1 (by omega)
set_option maxHeartbeats 4000000 in
set_option maxRecDepth 100000 in
theorem c_X2_stage_b (l : Launch) (dC : Nat → ClassId) (dI : Nat → Nat → Nat) (a : Nat → Nat) (cA : Nat → ClassId) (n : Nat) (hd fm rp rq : Nat → Nat) (nd nw bf su sI sO ct : Nat → Int32) (r0 x0 y0 : Int32) (b : Bool) (hy_0 : stGood r0 x0 y0 = false) : WrI l yX2_stage wsX2_stage ({ frames := 1, cells := 0, slots := 0, locals := 21 }) (dC, dI) vwCl (vkW a cA n hd fm rp rq nd nw bf su sI sO ct) (vkW a cA n hd fm rp rq nd nw bf su sI sO ct) (vkT cA) nstW [.ref (a 0), .int (r0), .int (x0), .int (y0), .int (bI b)] (bI false) := by
  intro sz
  refine Met.ofW (cc := cX2_stage) (maxL := 6) (ret := (some .boolean)) (by decide) rfl ?_
  intro p e s m args below meth c s₁ B hml hv
  obtain ⟨rfl, hsz, ⟨hP, hK, hN⟩, hD0⟩ := hv
  subst hsz
  have hx := B.exec
  have hb := B.bytes
  have hr := B.returns
  have hts := atoms_spec (ws := wsX2_stage) B.pre
  have hown : s.vm.findClass RX2 = some m.cls := findClass_of_methodNamed B.named
  have hlocks := B.notSynchronized
  obtain ⟨A, hAe⟩ : ∃ A, A = va_A (vkW a cA n hd fm rp rq nd nw bf su sI sO ct) s.heap.size := ⟨_, rfl⟩
  have hD : va_D A (vkW a cA n hd fm rp rq nd nw bf su sI sO ct) := by rw [hAe]; exact hD0.self (sz := s.heap.size)
  have hA : ∀ q : Nat, s.heap.size ≤ q → A q := fun q h => by rw [hAe]; exact Or.inr h
  have hS : va_S A s.heap s.heap [] := va_S.rf
  have hP : va_P (dC, dI) vwCl (vkW a cA n hd fm rp rq nd nw bf su sI sO ct) s.heap := hP
  have lf_29 := hts (.fieldLink RX2 29 "ViewKeeper" "stagedIn" "[I") (by decide +kernel)
  have in_X2 : ∀ w ∈ u_ws RX2 TX2 7, w ∈ wsX2_stage := by decide +kernel
  have lf_32 := hts (.fieldLink RX2 32 "ViewKeeper" "stagedOut" "[I") (by decide +kernel)
  have hl := lv_entry ([.ref (a 0), .int (r0), .int (x0), .int (y0), .int (bI b)]) (n := 6) (Nat.le_of_ble_eq_true rfl)
  rw [lg_entry_eq]
  generalize (lg_sl ([.ref (a 0), .int (r0), .int (x0), .int (y0), .int (bI b)]) ++ List.replicate (6 - (lg_sl ([.ref (a 0), .int (r0), .int (x0), .int (y0), .int (bI b)])).length) Slot.unset).toArray = ls at hl ⊢
  have hl : lv_has ls 6 [(0, .ref (a 0)), (1, .int (r0)), (2, .int (x0)), (3, .int (y0)), (4, .int (bI b))] := hl
  refine lv_iload_n hx hb dX2_stage_0 rfl (lv_at hl 1 rfl) ?_
  refine hx_read (va_runS (As := [.int (r0)]) (rest := []) ⟨hx, hb, hml, hown, hts⟩ (c_X2_isRelation l r0) (va_cwS 1 hts gX2_stage_X2_isRelation rfl rfl rfl (by decide +kernel) ⟨Nat.le_of_ble_eq_true rfl, Nat.le_of_ble_eq_true rfl⟩) (nu_S _) rfl rfl hl.1 rfl (lv_room (Nat.le_of_ble_eq_true rfl)) dX2_stage_1 ⟨Nat.zero_le _, Nat.zero_le _⟩) ?_
  refine hx_ifB (tgt := 28) hx hb dX2_stage_4 (by decide) (fun c_1 => ?_) (fun c_1 => ?_)
  · refine lv_iconst (v := nI 0) hx hb dX2_stage_28 (by decide) ?_
    have e9 : vkW a cA n hd fm rp rq nd nw bf su sI sO ct = vkW a cA n hd fm rp rq nd nw bf su sI sO ct := rfl
    rw [e9] at hP hD
    subst hAe
    exact W.zret (v := nI 0) hx hb hr rfl (fun t ht hW => ⟨⟨_, (), rfl, rfl, by rw [ht]; exact hP, va_K.moved hW.alike hK, hD⟩, hS.F ht⟩) hS.2.2 dX2_stage_29
  · refine lv_iload_n hx hb dX2_stage_7 rfl (lv_at hl 1 rfl) ?_
    refine hx_read (va_runS (As := [.int (r0)]) (rest := []) ⟨hx, hb, hml, hown, hts⟩ (c_X2_isView l r0) (va_cwS 1 hts gX2_stage_X2_isView rfl rfl rfl (by decide +kernel) ⟨Nat.le_of_ble_eq_true rfl, Nat.le_of_ble_eq_true rfl⟩) (nu_S _) rfl rfl hl.1 rfl (lv_room (Nat.le_of_ble_eq_true rfl)) dX2_stage_8 ⟨Nat.zero_le _, Nat.zero_le _⟩) ?_
    refine hx_ifnB (tgt := 28) hx hb dX2_stage_11 (by decide) (fun c_2 => ?_) (fun c_2 => ?_)
    · refine lv_iconst (v := nI 0) hx hb dX2_stage_28 (by decide) ?_
      have e9 : vkW a cA n hd fm rp rq nd nw bf su sI sO ct = vkW a cA n hd fm rp rq nd nw bf su sI sO ct := rfl
      rw [e9] at hP hD
      subst hAe
      exact W.zret (v := nI 0) hx hb hr rfl (fun t ht hW => ⟨⟨_, (), rfl, rfl, by rw [ht]; exact hP, va_K.moved hW.alike hK, hD⟩, hS.F ht⟩) hS.2.2 dX2_stage_29
    · refine lv_iload_n hx hb dX2_stage_14 rfl (lv_at hl 2 rfl) ?_
      refine hx_read (va_runS (As := [.int (x0)]) (rest := []) ⟨hx, hb, hml, hown, hts⟩ (c_X2_isThing l x0) (va_cwS 1 hts gX2_stage_X2_isThing rfl rfl rfl (by decide +kernel) ⟨Nat.le_of_ble_eq_true rfl, Nat.le_of_ble_eq_true rfl⟩) (nu_S _) rfl rfl hl.1 rfl (lv_room (Nat.le_of_ble_eq_true rfl)) dX2_stage_15 ⟨Nat.zero_le _, Nat.zero_le _⟩) ?_
      refine hx_ifB (tgt := 28) hx hb dX2_stage_18 (by decide) (fun c_3 => ?_) (fun c_3 => ?_)
      · refine lv_iconst (v := nI 0) hx hb dX2_stage_28 (by decide) ?_
        have e9 : vkW a cA n hd fm rp rq nd nw bf su sI sO ct = vkW a cA n hd fm rp rq nd nw bf su sI sO ct := rfl
        rw [e9] at hP hD
        subst hAe
        exact W.zret (v := nI 0) hx hb hr rfl (fun t ht hW => ⟨⟨_, (), rfl, rfl, by rw [ht]; exact hP, va_K.moved hW.alike hK, hD⟩, hS.F ht⟩) hS.2.2 dX2_stage_29
      · refine lv_iload_n hx hb dX2_stage_21 rfl (lv_at hl 3 rfl) ?_
        refine hx_read (va_runS (As := [.int (y0)]) (rest := []) ⟨hx, hb, hml, hown, hts⟩ (c_X2_isThing l y0) (va_cwS 1 hts gX2_stage_X2_isThing rfl rfl rfl (by decide +kernel) ⟨Nat.le_of_ble_eq_true rfl, Nat.le_of_ble_eq_true rfl⟩) (nu_S _) rfl rfl hl.1 rfl (lv_room (Nat.le_of_ble_eq_true rfl)) dX2_stage_22 ⟨Nat.zero_le _, Nat.zero_le _⟩) ?_
        refine hx_ifnB (tgt := 30) hx hb dX2_stage_25 (by decide) (fun c_4 => ?_) (fun c_4 => ?_)
        · exact absurd hy_0 (by simp [stGood, c_1, c_2, c_3, c_4])
        · refine lv_iconst (v := nI 0) hx hb dX2_stage_28 (by decide) ?_
          have e9 : vkW a cA n hd fm rp rq nd nw bf su sI sO ct = vkW a cA n hd fm rp rq nd nw bf su sI sO ct := rfl
          rw [e9] at hP hD
          subst hAe
          exact W.zret (v := nI 0) hx hb hr rfl (fun t ht hW => ⟨⟨_, (), rfl, rfl, by rw [ht]; exact hP, va_K.moved hW.alike hK, hD⟩, hS.F ht⟩) hS.2.2 dX2_stage_29
set_option maxHeartbeats 4000000 in
set_option maxRecDepth 100000 in
theorem c_X2_stage_g (l : Launch) (dC : Nat → ClassId) (dI : Nat → Nat → Nat) (a : Nat → Nat) (cA : Nat → ClassId) (n : Nat) (hd fm rp rq : Nat → Nat) (nd nw bf su sI sO ct : Nat → Int32) (r x y : Nat) (b : Bool) (hy_0 : r < 2) (hy_1 : x < 5) (hy_2 : y < 5) : WrI l yX2_stage wsX2_stage ({ frames := 1, cells := 0, slots := 0, locals := 21 }) (dC, dI) vwCl (vkW a cA n hd fm rp rq nd nw bf su sI sO ct) (vkW a cA n hd fm rp rq nd nw bf su (stI b sI r (5 * x + y)) (stO b sO r (5 * x + y)) ct) (vkT cA) nstW [.ref (a 0), .int (nI r), .int (nI x), .int (nI y), .int (bI b)] (bI true) := by
  intro sz
  refine Met.ofW (cc := cX2_stage) (maxL := 6) (ret := (some .boolean)) (by decide) rfl ?_
  intro p e s m args below meth c s₁ B hml hv
  obtain ⟨rfl, hsz, ⟨hP, hK, hN⟩, hD0⟩ := hv
  subst hsz
  have hx := B.exec
  have hb := B.bytes
  have hr := B.returns
  have hts := atoms_spec (ws := wsX2_stage) B.pre
  have hown : s.vm.findClass RX2 = some m.cls := findClass_of_methodNamed B.named
  have hlocks := B.notSynchronized
  obtain ⟨A, hAe⟩ : ∃ A, A = va_A (vkW a cA n hd fm rp rq nd nw bf su sI sO ct) s.heap.size := ⟨_, rfl⟩
  have hD : va_D A (vkW a cA n hd fm rp rq nd nw bf su sI sO ct) := by rw [hAe]; exact hD0.self (sz := s.heap.size)
  have hA : ∀ q : Nat, s.heap.size ≤ q → A q := fun q h => by rw [hAe]; exact Or.inr h
  have hS : va_S A s.heap s.heap [] := va_S.rf
  have hP : va_P (dC, dI) vwCl (vkW a cA n hd fm rp rq nd nw bf su sI sO ct) s.heap := hP
  have kr : isRl (nI r) = true := isRl_nI (by omega)
  have kw : isVw (nI r) = false := isVw_f (by omega)
  have kx1 : isTh (nI x) = true := isTh_nI (by omega)
  have ky : isTh (nI y) = true := isTh_nI (by omega)
  have lf_29 := hts (.fieldLink RX2 29 "ViewKeeper" "stagedIn" "[I") (by decide +kernel)
  have in_X2 : ∀ w ∈ u_ws RX2 TX2 7, w ∈ wsX2_stage := by decide +kernel
  have lf_32 := hts (.fieldLink RX2 32 "ViewKeeper" "stagedOut" "[I") (by decide +kernel)
  have hl := lv_entry ([.ref (a 0), .int (nI r), .int (nI x), .int (nI y), .int (bI b)]) (n := 6) (Nat.le_of_ble_eq_true rfl)
  rw [lg_entry_eq]
  generalize (lg_sl ([.ref (a 0), .int (nI r), .int (nI x), .int (nI y), .int (bI b)]) ++ List.replicate (6 - (lg_sl ([.ref (a 0), .int (nI r), .int (nI x), .int (nI y), .int (bI b)])).length) Slot.unset).toArray = ls at hl ⊢
  have hl : lv_has ls 6 [(0, .ref (a 0)), (1, .int (nI r)), (2, .int (nI x)), (3, .int (nI y)), (4, .int (bI b))] := hl
  refine lv_iload_n hx hb dX2_stage_0 rfl (lv_at hl 1 rfl) ?_
  refine hx_read (va_runS (As := [.int (nI r)]) (rest := []) ⟨hx, hb, hml, hown, hts⟩ (c_X2_isRelation l (nI r)) (va_cwS 1 hts gX2_stage_X2_isRelation rfl rfl rfl (by decide +kernel) ⟨Nat.le_of_ble_eq_true rfl, Nat.le_of_ble_eq_true rfl⟩) (nu_S _) rfl rfl hl.1 rfl (lv_room (Nat.le_of_ble_eq_true rfl)) dX2_stage_1 ⟨Nat.zero_le _, Nat.zero_le _⟩) ?_
  refine hx_ifB (tgt := 28) hx hb dX2_stage_4 (by decide) (fun c_1 => ?_) (fun c_1 => ?_)
  · exact absurd (kr.symm.trans c_1) (by decide)
  · refine lv_iload_n hx hb dX2_stage_7 rfl (lv_at hl 1 rfl) ?_
    refine hx_read (va_runS (As := [.int (nI r)]) (rest := []) ⟨hx, hb, hml, hown, hts⟩ (c_X2_isView l (nI r)) (va_cwS 1 hts gX2_stage_X2_isView rfl rfl rfl (by decide +kernel) ⟨Nat.le_of_ble_eq_true rfl, Nat.le_of_ble_eq_true rfl⟩) (nu_S _) rfl rfl hl.1 rfl (lv_room (Nat.le_of_ble_eq_true rfl)) dX2_stage_8 ⟨Nat.zero_le _, Nat.zero_le _⟩) ?_
    refine hx_ifnB (tgt := 28) hx hb dX2_stage_11 (by decide) (fun c_2 => ?_) (fun c_2 => ?_)
    · exact absurd (kw.symm.trans c_2) (by decide)
    · refine lv_iload_n hx hb dX2_stage_14 rfl (lv_at hl 2 rfl) ?_
      refine hx_read (va_runS (As := [.int (nI x)]) (rest := []) ⟨hx, hb, hml, hown, hts⟩ (c_X2_isThing l (nI x)) (va_cwS 1 hts gX2_stage_X2_isThing rfl rfl rfl (by decide +kernel) ⟨Nat.le_of_ble_eq_true rfl, Nat.le_of_ble_eq_true rfl⟩) (nu_S _) rfl rfl hl.1 rfl (lv_room (Nat.le_of_ble_eq_true rfl)) dX2_stage_15 ⟨Nat.zero_le _, Nat.zero_le _⟩) ?_
      refine hx_ifB (tgt := 28) hx hb dX2_stage_18 (by decide) (fun c_3 => ?_) (fun c_3 => ?_)
      · exact absurd (kx1.symm.trans c_3) (by decide)
      · refine lv_iload_n hx hb dX2_stage_21 rfl (lv_at hl 3 rfl) ?_
        refine hx_read (va_runS (As := [.int (nI y)]) (rest := []) ⟨hx, hb, hml, hown, hts⟩ (c_X2_isThing l (nI y)) (va_cwS 1 hts gX2_stage_X2_isThing rfl rfl rfl (by decide +kernel) ⟨Nat.le_of_ble_eq_true rfl, Nat.le_of_ble_eq_true rfl⟩) (nu_S _) rfl rfl hl.1 rfl (lv_room (Nat.le_of_ble_eq_true rfl)) dX2_stage_22 ⟨Nat.zero_le _, Nat.zero_le _⟩) ?_
        refine hx_ifnB (tgt := 30) hx hb dX2_stage_25 (by decide) (fun c_4 => ?_) (fun c_4 => ?_)
        · refine lv_iload_n hx hb dX2_stage_30 rfl (lv_at hl 2 rfl) ?_
          refine lv_iload_n hx hb dX2_stage_31 rfl (lv_at hl 3 rfl) ?_
          refine hx_read (va_runS (As := [.int (nI x), .int (nI y)]) (rest := []) ⟨hx, hb, hml, hown, hts⟩ (c_X2_bit l x y) (va_cwS 2 hts gX2_stage_X2_bit rfl rfl rfl (by decide +kernel) ⟨Nat.le_of_ble_eq_true rfl, Nat.le_of_ble_eq_true rfl⟩) (nu_S _) rfl rfl hl.1 rfl (lv_room (Nat.le_of_ble_eq_true rfl)) dX2_stage_32 ⟨Nat.zero_le _, Nat.zero_le _⟩) ?_
          refine lv_istore (lv' := [(5, .int (bm (5 * x + y))), (0, .ref (a 0)), (1, .int (nI r)), (2, .int (nI x)), (3, .int (nI y)), (4, .int (bI b))]) hx hb dX2_stage_35 hl (by decide) rfl (fun ls hl => ?_)
          refine lv_aload_n hx hb dX2_stage_37 rfl (lv_at hl 1 rfl) ?_
          refine va_get (D := (dC, dI)) (ci := 2) (v := .ref (a 7)) (C := RX2) (T := TX2) (N := 7) hx hb hts in_X2 hown hK hP 0 rfl rfl 5 (by decide) lf_29 (fun _ h9 => h9) rfl dX2_stage_38 ?_
          refine lv_iload_n hx hb dX2_stage_41 rfl (lv_at hl 2 rfl) ?_
          refine lv_iload hx hb dX2_stage_42 (lv_at hl 5 rfl) ?_
          refine hx_ifB (tgt := 59) hx hb dX2_stage_44 (by decide) (fun c_5 => ?_) (fun c_5 => ?_)
          · refine lv_aload_n hx hb dX2_stage_59 rfl (lv_at hl 1 rfl) ?_
            refine va_get (D := (dC, dI)) (ci := 2) (v := .ref (a 7)) (C := RX2) (T := TX2) (N := 7) hx hb hts in_X2 hown hK hP 0 rfl rfl 5 (by decide) lf_29 (fun _ h9 => h9) rfl dX2_stage_60 ?_
            refine lv_iload_n hx hb dX2_stage_63 rfl (lv_at hl 2 rfl) ?_
            refine hx_iald hx hb hK hP 7 5 rfl rfl (by omega) (by omega) dX2_stage_64 ?_
            refine lv_iload hx hb dX2_stage_65 (lv_at hl 0 rfl) ?_
            refine lv_iconst (v := (-1)) hx hb dX2_stage_67 (by decide) ?_
            refine lv_ixor hx hb dX2_stage_68 ?_
            refine lv_iand hx hb dX2_stage_69 ?_
            refine hx_iast hx hb hK hP hD hS 7 5 rfl rfl (by omega) (by omega) dX2_stage_70 (fun H locs hP hD hS => ?_)
            have hP : va_P (dC, dI) vwCl (vkW a cA n hd fm rp rq nd nw bf su (upd sI r ((sI r) &&& ((bm (5 * x + y)) ^^^ ((-1))))) sO ct) H := hP
            have hD : va_D A (vkW a cA n hd fm rp rq nd nw bf su (upd sI r ((sI r) &&& ((bm (5 * x + y)) ^^^ ((-1))))) sO ct) := hD
            refine lv_aload_n hx hb dX2_stage_71 rfl (lv_at hl 1 rfl) ?_
            refine va_get (D := (dC, dI)) (ci := 2) (v := .ref (a 8)) (C := RX2) (T := TX2) (N := 7) hx hb hts in_X2 hown hK hP 0 rfl rfl 6 (by decide) lf_32 (fun _ h9 => h9) rfl dX2_stage_72 ?_
            refine lv_iload_n hx hb dX2_stage_75 rfl (lv_at hl 2 rfl) ?_
            refine lv_iload hx hb dX2_stage_76 (lv_at hl 5 rfl) ?_
            refine hx_ifB (tgt := 95) hx hb dX2_stage_78 (by decide) (fun c_6 => ?_) (fun c_6 => ?_)
            · refine lv_aload_n hx hb dX2_stage_95 rfl (lv_at hl 1 rfl) ?_
              refine va_get (D := (dC, dI)) (ci := 2) (v := .ref (a 8)) (C := RX2) (T := TX2) (N := 7) hx hb hts in_X2 hown hK hP 0 rfl rfl 6 (by decide) lf_32 (fun _ h9 => h9) rfl dX2_stage_96 ?_
              refine lv_iload_n hx hb dX2_stage_99 rfl (lv_at hl 2 rfl) ?_
              refine hx_iald hx hb hK hP 8 6 rfl rfl (by omega) (by omega) dX2_stage_100 ?_
              refine lv_iload hx hb dX2_stage_101 (lv_at hl 0 rfl) ?_
              refine lv_ior hx hb dX2_stage_103 ?_
              refine hx_iast hx hb hK hP hD hS 8 6 rfl rfl (by omega) (by omega) dX2_stage_104 (fun H locs hP hD hS => ?_)
              have hP : va_P (dC, dI) vwCl (vkW a cA n hd fm rp rq nd nw bf su (upd sI r ((sI r) &&& ((bm (5 * x + y)) ^^^ ((-1))))) (upd sO r ((sO r) ||| (bm (5 * x + y)))) ct) H := hP
              have hD : va_D A (vkW a cA n hd fm rp rq nd nw bf su (upd sI r ((sI r) &&& ((bm (5 * x + y)) ^^^ ((-1))))) (upd sO r ((sO r) ||| (bm (5 * x + y)))) ct) := hD
              refine lv_iconst (v := nI 1) hx hb dX2_stage_105 (by decide) ?_
              have e9 : vkW a cA n hd fm rp rq nd nw bf su (upd sI r ((sI r) &&& ((bm (5 * x + y)) ^^^ ((-1))))) (upd sO r ((sO r) ||| (bm (5 * x + y)))) ct = vkW a cA n hd fm rp rq nd nw bf su (stI b sI r (5 * x + y)) (stO b sO r (5 * x + y)) ct := by simp only [stI, stO, c_1, c_2, c_3, c_4, c_5, c_6, ↓reduceIte, decide_true, decide_false, Bool.not_true, Bool.not_false, Bool.or_true, Bool.true_or, Bool.or_false, Bool.false_or, Bool.and_true, Bool.true_and, Bool.and_false, Bool.false_and, and_true, true_and, and_false, false_and, and_self, or_self, or_true, true_or, or_false, false_or, Bool.false_eq_true, Bool.true_eq_false, not_true_eq_false, not_false_eq_true, Bool.or_self, decide_eq_true_eq]
              rw [e9] at hP hD
              subst hAe
              exact W.zret (v := nI 1) hx hb hr rfl (fun t ht hW => ⟨⟨_, (), rfl, rfl, by rw [ht]; exact hP, va_K.moved hW.alike hK, hD⟩, hS.F ht⟩) hS.2.2 dX2_stage_106
            · exact absurd (c_5.symm.trans c_6) (by decide)
          · refine lv_aload_n hx hb dX2_stage_47 rfl (lv_at hl 1 rfl) ?_
            refine va_get (D := (dC, dI)) (ci := 2) (v := .ref (a 7)) (C := RX2) (T := TX2) (N := 7) hx hb hts in_X2 hown hK hP 0 rfl rfl 5 (by decide) lf_29 (fun _ h9 => h9) rfl dX2_stage_48 ?_
            refine lv_iload_n hx hb dX2_stage_51 rfl (lv_at hl 2 rfl) ?_
            refine hx_iald hx hb hK hP 7 5 rfl rfl (by omega) (by omega) dX2_stage_52 ?_
            refine lv_iload hx hb dX2_stage_53 (lv_at hl 0 rfl) ?_
            refine lv_ior hx hb dX2_stage_55 ?_
            refine lv_goto (tgt := 70) hx hb dX2_stage_56 (by decide) ?_
            refine hx_iast hx hb hK hP hD hS 7 5 rfl rfl (by omega) (by omega) dX2_stage_70 (fun H locs hP hD hS => ?_)
            have hP : va_P (dC, dI) vwCl (vkW a cA n hd fm rp rq nd nw bf su (upd sI r ((sI r) ||| (bm (5 * x + y)))) sO ct) H := hP
            have hD : va_D A (vkW a cA n hd fm rp rq nd nw bf su (upd sI r ((sI r) ||| (bm (5 * x + y)))) sO ct) := hD
            refine lv_aload_n hx hb dX2_stage_71 rfl (lv_at hl 1 rfl) ?_
            refine va_get (D := (dC, dI)) (ci := 2) (v := .ref (a 8)) (C := RX2) (T := TX2) (N := 7) hx hb hts in_X2 hown hK hP 0 rfl rfl 6 (by decide) lf_32 (fun _ h9 => h9) rfl dX2_stage_72 ?_
            refine lv_iload_n hx hb dX2_stage_75 rfl (lv_at hl 2 rfl) ?_
            refine lv_iload hx hb dX2_stage_76 (lv_at hl 5 rfl) ?_
            refine hx_ifB (tgt := 95) hx hb dX2_stage_78 (by decide) (fun c_7 => ?_) (fun c_7 => ?_)
            · exact absurd (c_5.symm.trans c_7) (by decide)
            · refine lv_aload_n hx hb dX2_stage_81 rfl (lv_at hl 1 rfl) ?_
              refine va_get (D := (dC, dI)) (ci := 2) (v := .ref (a 8)) (C := RX2) (T := TX2) (N := 7) hx hb hts in_X2 hown hK hP 0 rfl rfl 6 (by decide) lf_32 (fun _ h9 => h9) rfl dX2_stage_82 ?_
              refine lv_iload_n hx hb dX2_stage_85 rfl (lv_at hl 2 rfl) ?_
              refine hx_iald hx hb hK hP 8 6 rfl rfl (by omega) (by omega) dX2_stage_86 ?_
              refine lv_iload hx hb dX2_stage_87 (lv_at hl 0 rfl) ?_
              refine lv_iconst (v := (-1)) hx hb dX2_stage_89 (by decide) ?_
              refine lv_ixor hx hb dX2_stage_90 ?_
              refine lv_iand hx hb dX2_stage_91 ?_
              refine lv_goto (tgt := 104) hx hb dX2_stage_92 (by decide) ?_
              refine hx_iast hx hb hK hP hD hS 8 6 rfl rfl (by omega) (by omega) dX2_stage_104 (fun H locs hP hD hS => ?_)
              have hP : va_P (dC, dI) vwCl (vkW a cA n hd fm rp rq nd nw bf su (upd sI r ((sI r) ||| (bm (5 * x + y)))) (upd sO r ((sO r) &&& ((bm (5 * x + y)) ^^^ ((-1))))) ct) H := hP
              have hD : va_D A (vkW a cA n hd fm rp rq nd nw bf su (upd sI r ((sI r) ||| (bm (5 * x + y)))) (upd sO r ((sO r) &&& ((bm (5 * x + y)) ^^^ ((-1))))) ct) := hD
              refine lv_iconst (v := nI 1) hx hb dX2_stage_105 (by decide) ?_
              have e9 : vkW a cA n hd fm rp rq nd nw bf su (upd sI r ((sI r) ||| (bm (5 * x + y)))) (upd sO r ((sO r) &&& ((bm (5 * x + y)) ^^^ ((-1))))) ct = vkW a cA n hd fm rp rq nd nw bf su (stI b sI r (5 * x + y)) (stO b sO r (5 * x + y)) ct := by simp only [stI, stO, c_1, c_2, c_3, c_4, c_5, c_7, ↓reduceIte, decide_true, decide_false, Bool.not_true, Bool.not_false, Bool.or_true, Bool.true_or, Bool.or_false, Bool.false_or, Bool.and_true, Bool.true_and, Bool.and_false, Bool.false_and, and_true, true_and, and_false, false_and, and_self, or_self, or_true, true_or, or_false, false_or, Bool.false_eq_true, Bool.true_eq_false, not_true_eq_false, not_false_eq_true, Bool.or_self, decide_eq_true_eq]
              rw [e9] at hP hD
              subst hAe
              exact W.zret (v := nI 1) hx hb hr rfl (fun t ht hW => ⟨⟨_, (), rfl, rfl, by rw [ht]; exact hP, va_K.moved hW.alike hK, hD⟩, hS.F ht⟩) hS.2.2 dX2_stage_106
        · exact absurd (ky.symm.trans c_4) (by decide)
set_option maxHeartbeats 4000000 in
set_option maxRecDepth 100000 in
theorem c_X2_commit (l : Launch) (dC : Nat → ClassId) (dI : Nat → Nat → Nat) (a : Nat → Nat) (cA : Nat → ClassId) (n : Nat) (hd fm rp rq : Nat → Nat) (nd nw bf su sI sO ct : Nat → Int32) (hy_0 : ruOk n hd fm rp rq) : WrI l yX2_commit wsX2_commit ({ frames := 6, cells := 0, slots := 0, locals := 140 }) (dC, dI) vwCl (vkW a cA n hd fm rp rq nd nw bf su sI sO ct) (vkW a cA n hd fm rp rq nd (cmW n hd fm rp rq nd nw sI sO ct) nw (cmS n hd fm rp rq nd nw sI sO ct) (fun _ => nI 0) (fun _ => nI 0) (cmC n hd fm rp rq nd nw sI sO ct)) (vkT cA) nstW [.ref (a 0)] (nI (cmF (cmW n hd fm rp rq nd nw sI sO ct) nw 7 0 0)) := by
  intro sz
  refine Met.ofW (cc := cX2_commit) (maxL := 3) (ret := (some .int)) (by decide) rfl ?_
  intro p e s m args below meth c s₁ B hml hv
  obtain ⟨rfl, hsz, ⟨hP, hK, hN⟩, hD0⟩ := hv
  subst hsz
  have hx := B.exec
  have hb := B.bytes
  have hr := B.returns
  have hts := atoms_spec (ws := wsX2_commit) B.pre
  have hown : s.vm.findClass RX2 = some m.cls := findClass_of_methodNamed B.named
  have hlocks := B.notSynchronized
  obtain ⟨A, hAe⟩ : ∃ A, A = va_A (vkW a cA n hd fm rp rq nd nw bf su sI sO ct) s.heap.size := ⟨_, rfl⟩
  have hD : va_D A (vkW a cA n hd fm rp rq nd nw bf su sI sO ct) := by rw [hAe]; exact hD0.self (sz := s.heap.size)
  have hA : ∀ q : Nat, s.heap.size ≤ q → A q := fun q h => by rw [hAe]; exact Or.inr h
  have hS : va_S A s.heap s.heap [] := va_S.rf
  have hP : va_P (dC, dI) vwCl (vkW a cA n hd fm rp rq nd nw bf su sI sO ct) s.heap := hP
  have hl := lv_entry ([.ref (a 0)]) (n := 3) (Nat.le_of_ble_eq_true rfl)
  rw [lg_entry_eq]
  generalize (lg_sl ([.ref (a 0)]) ++ List.replicate (3 - (lg_sl ([.ref (a 0)])).length) Slot.unset).toArray = ls at hl ⊢
  have hl : lv_has ls 3 [(0, .ref (a 0))] := hl
  refine lv_aload_n hx hb dX2_commit_0 rfl (lv_at hl 0 rfl) ?_
  refine hx_wrv (va_runV (As := []) (rest := []) ⟨hx, hb, hml, hown, hts⟩ (c_X2_forgetChanges l dC dI a cA n hd fm rp rq nd nw bf su sI sO ct s.heap.size) (cwV 0 hts gX2_commit_X2_forgetChanges rfl rfl rfl (by decide +kernel) ⟨Nat.le_of_ble_eq_true rfl, Nat.le_of_ble_eq_true rfl⟩) (wr_V nstW_ok hP hK hN hD 0 rfl rfl _) rfl rfl hl.1 rfl (lv_room (Nat.le_of_ble_eq_true rfl)) dX2_commit_1 ⟨Nat.zero_le _, Nat.zero_le _⟩) hD hS hA (fun H locs hP hD hS => ?_)
  have hP : va_P (dC, dI) vwCl (vkW a cA n hd fm rp rq nd nw nw (fun _ => nI 0) sI sO ct) H := hP
  have hD : va_D A (vkW a cA n hd fm rp rq nd nw nw (fun _ => nI 0) sI sO ct) := hD
  refine lv_aload_n hx hb dX2_commit_4 rfl (lv_at hl 0 rfl) ?_
  refine hx_wrv (va_runV (As := []) (rest := []) ⟨hx, hb, hml, hown, hts⟩ (c_X2_doStaged l dC dI a cA n hd fm rp rq nd nw nw (fun _ => nI 0) sI sO ct H.size) (cwV 0 hts gX2_commit_X2_doStaged rfl rfl rfl (by decide +kernel) ⟨Nat.le_of_ble_eq_true rfl, Nat.le_of_ble_eq_true rfl⟩) (wr_V nstW_ok hP hK hN hD 0 rfl rfl _) rfl rfl hl.1 rfl (lv_room (Nat.le_of_ble_eq_true rfl)) dX2_commit_5 ⟨Nat.zero_le _, Nat.zero_le _⟩) hD hS hA (fun H locs hP hD hS => ?_)
  have hP : va_P (dC, dI) vwCl (vkW a cA n hd fm rp rq nd (dsF sI sO 2 0 nw) nw ((fun _ => nI 0)) (fun _ => nI 0) (fun _ => nI 0) ct) H := hP
  have hD : va_D A (vkW a cA n hd fm rp rq nd (dsF sI sO 2 0 nw) nw ((fun _ => nI 0)) (fun _ => nI 0) (fun _ => nI 0) ct) := hD
  refine lv_aload_n hx hb dX2_commit_8 rfl (lv_at hl 0 rfl) ?_
  refine hx_wrv (va_runV (As := []) (rest := []) ⟨hx, hb, hml, hown, hts⟩ (c_X2_bringUpToDate l dC dI a cA n hd fm rp rq nd (dsF sI sO 2 0 nw) nw ((fun _ => nI 0)) (fun _ => nI 0) (fun _ => nI 0) ct (by omega) H.size) (cwV 0 hts gX2_commit_X2_bringUpToDate rfl rfl rfl (by decide +kernel) ⟨Nat.le_of_ble_eq_true rfl, Nat.le_of_ble_eq_true rfl⟩) (wr_V nstW_ok hP hK hN hD 0 rfl rfl _) rfl rfl hl.1 rfl (lv_room (Nat.le_of_ble_eq_true rfl)) dX2_commit_9 ⟨Nat.zero_le _, Nat.zero_le _⟩) hD hS hA (fun H locs hP hD hS => ?_)
  have hP : va_P (dC, dI) vwCl (vkW a cA n hd fm rp rq nd ((clF n hd fm rp rq nd nw 7 1 ct (dsF sI sO 2 0 nw) ((fun _ => nI 0))).2.1) nw ((clF n hd fm rp rq nd nw 7 1 ct (dsF sI sO 2 0 nw) ((fun _ => nI 0))).2.2) ((fun _ => nI 0)) ((fun _ => nI 0)) ((clF n hd fm rp rq nd nw 7 1 ct (dsF sI sO 2 0 nw) ((fun _ => nI 0))).1)) H := hP
  have hD : va_D A (vkW a cA n hd fm rp rq nd ((clF n hd fm rp rq nd nw 7 1 ct (dsF sI sO 2 0 nw) ((fun _ => nI 0))).2.1) nw ((clF n hd fm rp rq nd nw 7 1 ct (dsF sI sO 2 0 nw) ((fun _ => nI 0))).2.2) ((fun _ => nI 0)) ((fun _ => nI 0)) ((clF n hd fm rp rq nd nw 7 1 ct (dsF sI sO 2 0 nw) ((fun _ => nI 0))).1)) := hD
  refine lv_iconst (v := nI 0) hx hb dX2_commit_12 (by decide) ?_
  refine lv_istore_n (lv' := [(1, .int (nI 0)), (0, .ref (a 0))]) hx hb dX2_commit_13 rfl hl (by decide) rfl (fun ls hl => ?_)
  refine lv_iconst (v := nI 0) hx hb dX2_commit_14 (by decide) ?_
  refine lv_istore_n (lv' := [(2, .int (nI 0)), (1, .int (nI 0)), (0, .ref (a 0))]) hx hb dX2_commit_15 rfl hl (by decide) rfl (fun ls hl => ?_)
  have L_16_0 : ∀ (nn : Nat) (r : Nat) (w : Nat), r + nn = 7 → ∀ (H : Heap) (locs : List Loc), va_P (dC, dI) vwCl (vkW a cA n hd fm rp rq nd ((clF n hd fm rp rq nd nw 7 1 ct (dsF sI sO 2 0 nw) ((fun _ => nI 0))).2.1) nw ((clF n hd fm rp rq nd nw 7 1 ct (dsF sI sO 2 0 nw) ((fun _ => nI 0))).2.2) ((fun _ => nI 0)) ((fun _ => nI 0)) ((clF n hd fm rp rq nd nw 7 1 ct (dsF sI sO 2 0 nw) ((fun _ => nI 0))).1)) H → va_D A (vkW a cA n hd fm rp rq nd ((clF n hd fm rp rq nd nw 7 1 ct (dsF sI sO 2 0 nw) ((fun _ => nI 0))).2.1) nw ((clF n hd fm rp rq nd nw 7 1 ct (dsF sI sO 2 0 nw) ((fun _ => nI 0))).2.2) ((fun _ => nI 0)) ((fun _ => nI 0)) ((clF n hd fm rp rq nd nw 7 1 ct (dsF sI sO 2 0 nw) ((fun _ => nI 0))).1)) → va_S A s.heap H locs → ∀ ls : Array Slot, lv_has ls 3 [(0, .ref (a 0)), (1, .int (nI w)), (2, .int (nI r))] → (∀ (H : Heap) (locs : List Loc), va_P (dC, dI) vwCl (vkW a cA n hd fm rp rq nd ((clF n hd fm rp rq nd nw 7 1 ct (dsF sI sO 2 0 nw) ((fun _ => nI 0))).2.1) nw ((clF n hd fm rp rq nd nw 7 1 ct (dsF sI sO 2 0 nw) ((fun _ => nI 0))).2.2) ((fun _ => nI 0)) ((fun _ => nI 0)) ((clF n hd fm rp rq nd nw 7 1 ct (dsF sI sO 2 0 nw) ((fun _ => nI 0))).1)) H → va_D A (vkW a cA n hd fm rp rq nd ((clF n hd fm rp rq nd nw 7 1 ct (dsF sI sO 2 0 nw) ((fun _ => nI 0))).2.1) nw ((clF n hd fm rp rq nd nw 7 1 ct (dsF sI sO 2 0 nw) ((fun _ => nI 0))).2.2) ((fun _ => nI 0)) ((fun _ => nI 0)) ((clF n hd fm rp rq nd nw 7 1 ct (dsF sI sO 2 0 nw) ((fun _ => nI 0))).1)) → va_S A s.heap H locs → ∀ ls : Array Slot, lv_has ls 3 [(0, .ref (a 0)), (1, .int (nI (cmF (cmW n hd fm rp rq nd nw sI sO ct) nw nn r w))), (2, .int (nI 7))] → W p l e (headSpec wsX2_commit ({ frames := 6, cells := 0, slots := 0, locals := 140 })).room s m ([.ref (a 0)] : List Value).toArray below meth c H locs 0 0 (MQ below (va_Qi (fun (rz9 : Int32) (_ : Unit) => rz9 = (nI (cmF (cmW n hd fm rp rq nd nw sI sO ct) nw 7 0 0))) (wrB (dC, dI) vwCl (vkW a cA n hd fm rp rq nd nw bf su sI sO ct) (vkW a cA n hd fm rp rq nd (cmW n hd fm rp rq nd nw sI sO ct) nw (cmS n hd fm rp rq nd nw sI sO ct) (fun _ => nI 0) (fun _ => nI 0) (cmC n hd fm rp rq nd nw sI sO ct)) (vkT cA) s.heap.size) (va_A (vkW a cA n hd fm rp rq nd nw bf su sI sO ct) s.heap.size)) ([.ref (a 0)] : List Value).toArray s 0 0 (va_A (vkW a cA n hd fm rp rq nd nw bf su sI sO ct) s.heap.size)) (F0 m 48 ls [])) → W p l e (headSpec wsX2_commit ({ frames := 6, cells := 0, slots := 0, locals := 140 })).room s m ([.ref (a 0)] : List Value).toArray below meth c H locs 0 0 (MQ below (va_Qi (fun (rz9 : Int32) (_ : Unit) => rz9 = (nI (cmF (cmW n hd fm rp rq nd nw sI sO ct) nw 7 0 0))) (wrB (dC, dI) vwCl (vkW a cA n hd fm rp rq nd nw bf su sI sO ct) (vkW a cA n hd fm rp rq nd (cmW n hd fm rp rq nd nw sI sO ct) nw (cmS n hd fm rp rq nd nw sI sO ct) (fun _ => nI 0) (fun _ => nI 0) (cmC n hd fm rp rq nd nw sI sO ct)) (vkT cA) s.heap.size) (va_A (vkW a cA n hd fm rp rq nd nw bf su sI sO ct) s.heap.size)) ([.ref (a 0)] : List Value).toArray s 0 0 (va_A (vkW a cA n hd fm rp rq nd nw bf su sI sO ct) s.heap.size)) (F0 m 16 ls []) := by
    intro nn
    induction nn with
    | zero =>
      intro r w hnr H locs hP hD hS ls hl kx
      obtain rfl : r = 7 := by omega
      refine lv_iload_n hx hb dX2_commit_16 rfl (lv_at hl 2 rfl) ?_
      refine lv_bipush (v := nI 7) hx hb dX2_commit_17 (by decide) ?_
      refine hx_geN (tgt := 48) hx hb dX2_commit_19 (by decide) (by omega) (by omega) (fun c_2 => ?_) (fun c_2 => ?_)
      · exact kx _ _ hP hD hS ls (lv_sub hl [0, 1, 2] rfl)
      · exact absurd c_2 (by omega)
    | succ nn ih =>
      intro r w hnr H locs hP hD hS ls hl kx
      refine lv_iload_n hx hb dX2_commit_16 rfl (lv_at hl 2 rfl) ?_
      refine lv_bipush (v := nI 7) hx hb dX2_commit_17 (by decide) ?_
      refine hx_geN (tgt := 48) hx hb dX2_commit_19 (by decide) (by omega) (by omega) (fun c_3 => ?_) (fun c_3 => ?_)
      · exact absurd c_3 (by omega)
      · refine lv_iload_n hx hb dX2_commit_22 rfl (lv_at hl 1 rfl) ?_
        refine lv_aload_n hx hb dX2_commit_23 rfl (lv_at hl 0 rfl) ?_
        refine lv_iload_n hx hb dX2_commit_24 rfl (lv_at hl 2 rfl) ?_
        refine hx_read (va_runV (As := [.int (nI r)]) (rest := [.int (nI w)]) ⟨hx, hb, hml, hown, hts⟩ (c_X2_putInto l dC dI a cA n hd fm rp rq nd ((clF n hd fm rp rq nd nw 7 1 ct (dsF sI sO 2 0 nw) ((fun _ => nI 0))).2.1) nw ((clF n hd fm rp rq nd nw 7 1 ct (dsF sI sO 2 0 nw) ((fun _ => nI 0))).2.2) ((fun _ => nI 0)) ((fun _ => nI 0)) ((clF n hd fm rp rq nd nw 7 1 ct (dsF sI sO 2 0 nw) ((fun _ => nI 0))).1) r (by omega)) (cwV 1 hts gX2_commit_X2_putInto rfl rfl rfl (by decide +kernel) ⟨Nat.le_of_ble_eq_true rfl, Nat.le_of_ble_eq_true rfl⟩) (rd_V nstW_ok hP hK hN 0 rfl rfl _) rfl rfl hl.1 rfl (lv_room (Nat.le_of_ble_eq_true rfl)) dX2_commit_25 ⟨Nat.zero_le _, Nat.zero_le _⟩) ?_
        refine hx_read (va_runS (As := [.int (putM ((clF n hd fm rp rq nd nw 7 1 ct (dsF sI sO 2 0 nw) ((fun _ => nI 0))).2.1) nw r)]) (rest := [.int (nI w)]) ⟨hx, hb, hml, hown, hts⟩ (c_J6_bitCount_0f7a4 l (putM ((clF n hd fm rp rq nd nw 7 1 ct (dsF sI sO 2 0 nw) ((fun _ => nI 0))).2.1) nw r)) (va_cwS 1 hts gX2_commit_J6_bitCount_0f7a4 rfl rfl rfl (by decide +kernel) ⟨Nat.le_of_ble_eq_true rfl, Nat.le_of_ble_eq_true rfl⟩) (nu_S _) rfl rfl hl.1 rfl (lv_room (Nat.le_of_ble_eq_true rfl)) dX2_commit_28 ⟨Nat.zero_le _, Nat.zero_le _⟩) ?_
        have hc_4 := cntB_le (putM ((clF n hd fm rp rq nd nw 7 1 ct (dsF sI sO 2 0 nw) ((fun _ => nI 0))).2.1) nw r) 32
        refine lv_aload_n hx hb dX2_commit_31 rfl (lv_at hl 0 rfl) ?_
        refine lv_iload_n hx hb dX2_commit_32 rfl (lv_at hl 2 rfl) ?_
        refine hx_read (va_runV (As := [.int (nI r)]) (rest := [.int (nI (cntB (putM ((clF n hd fm rp rq nd nw 7 1 ct (dsF sI sO 2 0 nw) ((fun _ => nI 0))).2.1) nw r) 32)), .int (nI w)]) ⟨hx, hb, hml, hown, hts⟩ (c_X2_takenOutOf l dC dI a cA n hd fm rp rq nd ((clF n hd fm rp rq nd nw 7 1 ct (dsF sI sO 2 0 nw) ((fun _ => nI 0))).2.1) nw ((clF n hd fm rp rq nd nw 7 1 ct (dsF sI sO 2 0 nw) ((fun _ => nI 0))).2.2) ((fun _ => nI 0)) ((fun _ => nI 0)) ((clF n hd fm rp rq nd nw 7 1 ct (dsF sI sO 2 0 nw) ((fun _ => nI 0))).1) r (by omega)) (cwV 1 hts gX2_commit_X2_takenOutOf rfl rfl rfl (by decide +kernel) ⟨Nat.le_of_ble_eq_true rfl, Nat.le_of_ble_eq_true rfl⟩) (rd_V nstW_ok hP hK hN 0 rfl rfl _) rfl rfl hl.1 rfl (lv_room (Nat.le_of_ble_eq_true rfl)) dX2_commit_33 ⟨Nat.zero_le _, Nat.zero_le _⟩) ?_
        refine hx_read (va_runS (As := [.int (takM ((clF n hd fm rp rq nd nw 7 1 ct (dsF sI sO 2 0 nw) ((fun _ => nI 0))).2.1) nw r)]) (rest := [.int (nI (cntB (putM ((clF n hd fm rp rq nd nw 7 1 ct (dsF sI sO 2 0 nw) ((fun _ => nI 0))).2.1) nw r) 32)), .int (nI w)]) ⟨hx, hb, hml, hown, hts⟩ (c_J6_bitCount_0f7a4 l (takM ((clF n hd fm rp rq nd nw 7 1 ct (dsF sI sO 2 0 nw) ((fun _ => nI 0))).2.1) nw r)) (va_cwS 1 hts gX2_commit_J6_bitCount_0f7a4 rfl rfl rfl (by decide +kernel) ⟨Nat.le_of_ble_eq_true rfl, Nat.le_of_ble_eq_true rfl⟩) (nu_S _) rfl rfl hl.1 rfl (lv_room (Nat.le_of_ble_eq_true rfl)) dX2_commit_36 ⟨Nat.zero_le _, Nat.zero_le _⟩) ?_
        have hc_5 := cntB_le (takM ((clF n hd fm rp rq nd nw 7 1 ct (dsF sI sO 2 0 nw) ((fun _ => nI 0))).2.1) nw r) 32
        refine hx_iadd hx hb dX2_commit_39 ?_
        refine hx_iadd hx hb dX2_commit_40 ?_
        refine lv_istore_n (lv' := [(1, .int (nI (w + ((cntB (putM ((clF n hd fm rp rq nd nw 7 1 ct (dsF sI sO 2 0 nw) ((fun _ => nI 0))).2.1) nw r) 32) + (cntB (takM ((clF n hd fm rp rq nd nw 7 1 ct (dsF sI sO 2 0 nw) ((fun _ => nI 0))).2.1) nw r) 32))))), (0, .ref (a 0)), (2, .int (nI r))]) hx hb dX2_commit_41 rfl hl (by decide) rfl (fun ls hl => ?_)
        refine lv_iinc (v := nI (r + 1)) (lv' := [(2, .int (nI (r + 1))), (1, .int (nI (w + ((cntB (putM ((clF n hd fm rp rq nd nw 7 1 ct (dsF sI sO 2 0 nw) ((fun _ => nI 0))).2.1) nw r) 32) + (cntB (takM ((clF n hd fm rp rq nd nw 7 1 ct (dsF sI sO 2 0 nw) ((fun _ => nI 0))).2.1) nw r) 32))))), (0, .ref (a 0))]) hx hb dX2_commit_42 hl (k := 2) rfl (nI_add r 1) (by decide) rfl (fun ls hl => ?_)
        refine lv_goto (tgt := 16) hx hb dX2_commit_45 (by decide) ?_
        have kx := kx
        rw [show cmF (cmW n hd fm rp rq nd nw sI sO ct) nw (nn + 1) r w = cmF (cmW n hd fm rp rq nd nw sI sO ct) nw nn (r + 1) (w + ((cntB (putM ((clF n hd fm rp rq nd nw 7 1 ct (dsF sI sO 2 0 nw) ((fun _ => nI 0))).2.1) nw r) 32) + (cntB (takM ((clF n hd fm rp rq nd nw 7 1 ct (dsF sI sO 2 0 nw) ((fun _ => nI 0))).2.1) nw r) 32))) from rfl] at kx
        exact ih (r + 1) (w + ((cntB (putM ((clF n hd fm rp rq nd nw 7 1 ct (dsF sI sO 2 0 nw) ((fun _ => nI 0))).2.1) nw r) 32) + (cntB (takM ((clF n hd fm rp rq nd nw 7 1 ct (dsF sI sO 2 0 nw) ((fun _ => nI 0))).2.1) nw r) 32))) (by omega) _ _ hP hD hS ls (lv_sub hl [2, 1, 0] rfl) kx
  refine L_16_0 7 0 0 (by omega) _ _ hP hD hS ls (lv_sub hl [2, 1, 0] rfl) (fun H locs hP hD hS ls hl => ?_)
  have hP : va_P (dC, dI) vwCl (vkW a cA n hd fm rp rq nd ((clF n hd fm rp rq nd nw 7 1 ct (dsF sI sO 2 0 nw) ((fun _ => nI 0))).2.1) nw ((clF n hd fm rp rq nd nw 7 1 ct (dsF sI sO 2 0 nw) ((fun _ => nI 0))).2.2) ((fun _ => nI 0)) ((fun _ => nI 0)) ((clF n hd fm rp rq nd nw 7 1 ct (dsF sI sO 2 0 nw) ((fun _ => nI 0))).1)) H := hP
  have hD : va_D A (vkW a cA n hd fm rp rq nd ((clF n hd fm rp rq nd nw 7 1 ct (dsF sI sO 2 0 nw) ((fun _ => nI 0))).2.1) nw ((clF n hd fm rp rq nd nw 7 1 ct (dsF sI sO 2 0 nw) ((fun _ => nI 0))).2.2) ((fun _ => nI 0)) ((fun _ => nI 0)) ((clF n hd fm rp rq nd nw 7 1 ct (dsF sI sO 2 0 nw) ((fun _ => nI 0))).1)) := hD
  have hl : lv_has ls 3 [(0, .ref (a 0)), (1, .int (nI (cmF (cmW n hd fm rp rq nd nw sI sO ct) nw 7 0 0))), (2, .int (nI 7))] := hl
  refine lv_iload_n hx hb dX2_commit_48 rfl (lv_at hl 1 rfl) ?_
  have e9 : vkW a cA n hd fm rp rq nd ((clF n hd fm rp rq nd nw 7 1 ct (dsF sI sO 2 0 nw) ((fun _ => nI 0))).2.1) nw ((clF n hd fm rp rq nd nw 7 1 ct (dsF sI sO 2 0 nw) ((fun _ => nI 0))).2.2) ((fun _ => nI 0)) ((fun _ => nI 0)) ((clF n hd fm rp rq nd nw 7 1 ct (dsF sI sO 2 0 nw) ((fun _ => nI 0))).1) = vkW a cA n hd fm rp rq nd (cmW n hd fm rp rq nd nw sI sO ct) nw (cmS n hd fm rp rq nd nw sI sO ct) (fun _ => nI 0) (fun _ => nI 0) (cmC n hd fm rp rq nd nw sI sO ct) := rfl
  rw [e9] at hP hD
  subst hAe
  exact W.iret (v := nI (cmF (cmW n hd fm rp rq nd nw sI sO ct) nw 7 0 0)) hx hb hr (fun t ht hW => ⟨⟨_, (), rfl, rfl, by rw [ht]; exact hP, va_K.moved hW.alike hK, hD⟩, hS.F ht⟩) hS.2.2 dX2_commit_49
set_option maxHeartbeats 4000000 in
set_option maxRecDepth 100000 in
theorem c_X2_abort (l : Launch) (dC : Nat → ClassId) (dI : Nat → Nat → Nat) (a : Nat → Nat) (cA : Nat → ClassId) (n : Nat) (hd fm rp rq : Nat → Nat) (nd nw bf su sI sO ct : Nat → Int32)  : WrI l yX2_abort wsX2_abort ({ frames := 2, cells := 0, slots := 0, locals := 43 }) (dC, dI) vwCl (vkW a cA n hd fm rp rq nd nw bf su sI sO ct) (vkW a cA n hd fm rp rq nd nw bf su (fun _ => nI 0) (fun _ => nI 0) ct) (vkT cA) nstW [.ref (a 0)] (nI (abF sI sO 2 0 0)) := by
  intro sz
  refine Met.ofW (cc := cX2_abort) (maxL := 3) (ret := (some .int)) (by decide) rfl ?_
  intro p e s m args below meth c s₁ B hml hv
  obtain ⟨rfl, hsz, ⟨hP, hK, hN⟩, hD0⟩ := hv
  subst hsz
  have hx := B.exec
  have hb := B.bytes
  have hr := B.returns
  have hts := atoms_spec (ws := wsX2_abort) B.pre
  have hown : s.vm.findClass RX2 = some m.cls := findClass_of_methodNamed B.named
  have hlocks := B.notSynchronized
  obtain ⟨A, hAe⟩ : ∃ A, A = va_A (vkW a cA n hd fm rp rq nd nw bf su sI sO ct) s.heap.size := ⟨_, rfl⟩
  have hD : va_D A (vkW a cA n hd fm rp rq nd nw bf su sI sO ct) := by rw [hAe]; exact hD0.self (sz := s.heap.size)
  have hA : ∀ q : Nat, s.heap.size ≤ q → A q := fun q h => by rw [hAe]; exact Or.inr h
  have hS : va_S A s.heap s.heap [] := va_S.rf
  have hP : va_P (dC, dI) vwCl (vkW a cA n hd fm rp rq nd nw bf su sI sO ct) s.heap := hP
  have lf_29 := hts (.fieldLink RX2 29 "ViewKeeper" "stagedIn" "[I") (by decide +kernel)
  have in_X2 : ∀ w ∈ u_ws RX2 TX2 7, w ∈ wsX2_abort := by decide +kernel
  have lf_32 := hts (.fieldLink RX2 32 "ViewKeeper" "stagedOut" "[I") (by decide +kernel)
  have hl := lv_entry ([.ref (a 0)]) (n := 3) (Nat.le_of_ble_eq_true rfl)
  rw [lg_entry_eq]
  generalize (lg_sl ([.ref (a 0)]) ++ List.replicate (3 - (lg_sl ([.ref (a 0)])).length) Slot.unset).toArray = ls at hl ⊢
  have hl : lv_has ls 3 [(0, .ref (a 0))] := hl
  refine lv_iconst (v := nI 0) hx hb dX2_abort_0 (by decide) ?_
  refine lv_istore_n (lv' := [(1, .int (nI 0)), (0, .ref (a 0))]) hx hb dX2_abort_1 rfl hl (by decide) rfl (fun ls hl => ?_)
  refine lv_iconst (v := nI 0) hx hb dX2_abort_2 (by decide) ?_
  refine lv_istore_n (lv' := [(2, .int (nI 0)), (1, .int (nI 0)), (0, .ref (a 0))]) hx hb dX2_abort_3 rfl hl (by decide) rfl (fun ls hl => ?_)
  have L_4_0 : ∀ (nn : Nat) (r : Nat) (w : Nat), r + nn = 2 → ∀ (H : Heap) (locs : List Loc), va_P (dC, dI) vwCl (vkW a cA n hd fm rp rq nd nw bf su sI sO ct) H → va_D A (vkW a cA n hd fm rp rq nd nw bf su sI sO ct) → va_S A s.heap H locs → ∀ ls : Array Slot, lv_has ls 3 [(0, .ref (a 0)), (1, .int (nI w)), (2, .int (nI r))] → (∀ (H : Heap) (locs : List Loc), va_P (dC, dI) vwCl (vkW a cA n hd fm rp rq nd nw bf su sI sO ct) H → va_D A (vkW a cA n hd fm rp rq nd nw bf su sI sO ct) → va_S A s.heap H locs → ∀ ls : Array Slot, lv_has ls 3 [(0, .ref (a 0)), (1, .int (nI (abF sI sO nn r w))), (2, .int (nI 2))] → W p l e (headSpec wsX2_abort ({ frames := 2, cells := 0, slots := 0, locals := 43 })).room s m ([.ref (a 0)] : List Value).toArray below meth c H locs 0 0 (MQ below (va_Qi (fun (rz9 : Int32) (_ : Unit) => rz9 = (nI (abF sI sO 2 0 0))) (wrB (dC, dI) vwCl (vkW a cA n hd fm rp rq nd nw bf su sI sO ct) (vkW a cA n hd fm rp rq nd nw bf su (fun _ => nI 0) (fun _ => nI 0) ct) (vkT cA) s.heap.size) (va_A (vkW a cA n hd fm rp rq nd nw bf su sI sO ct) s.heap.size)) ([.ref (a 0)] : List Value).toArray s 0 0 (va_A (vkW a cA n hd fm rp rq nd nw bf su sI sO ct) s.heap.size)) (F0 m 37 ls [])) → W p l e (headSpec wsX2_abort ({ frames := 2, cells := 0, slots := 0, locals := 43 })).room s m ([.ref (a 0)] : List Value).toArray below meth c H locs 0 0 (MQ below (va_Qi (fun (rz9 : Int32) (_ : Unit) => rz9 = (nI (abF sI sO 2 0 0))) (wrB (dC, dI) vwCl (vkW a cA n hd fm rp rq nd nw bf su sI sO ct) (vkW a cA n hd fm rp rq nd nw bf su (fun _ => nI 0) (fun _ => nI 0) ct) (vkT cA) s.heap.size) (va_A (vkW a cA n hd fm rp rq nd nw bf su sI sO ct) s.heap.size)) ([.ref (a 0)] : List Value).toArray s 0 0 (va_A (vkW a cA n hd fm rp rq nd nw bf su sI sO ct) s.heap.size)) (F0 m 4 ls []) := by
    intro nn
    induction nn with
    | zero =>
      intro r w hnr H locs hP hD hS ls hl kx
      obtain rfl : r = 2 := by omega
      refine lv_iload_n hx hb dX2_abort_4 rfl (lv_at hl 2 rfl) ?_
      refine lv_iconst (v := nI 2) hx hb dX2_abort_5 (by decide) ?_
      refine hx_geN (tgt := 37) hx hb dX2_abort_6 (by decide) (by omega) (by omega) (fun c_2 => ?_) (fun c_2 => ?_)
      · exact kx _ _ hP hD hS ls (lv_sub hl [0, 1, 2] rfl)
      · exact absurd c_2 (by omega)
    | succ nn ih =>
      intro r w hnr H locs hP hD hS ls hl kx
      refine lv_iload_n hx hb dX2_abort_4 rfl (lv_at hl 2 rfl) ?_
      refine lv_iconst (v := nI 2) hx hb dX2_abort_5 (by decide) ?_
      refine hx_geN (tgt := 37) hx hb dX2_abort_6 (by decide) (by omega) (by omega) (fun c_3 => ?_) (fun c_3 => ?_)
      · exact absurd c_3 (by omega)
      · refine lv_iload_n hx hb dX2_abort_9 rfl (lv_at hl 1 rfl) ?_
        refine lv_aload_n hx hb dX2_abort_10 rfl (lv_at hl 0 rfl) ?_
        refine va_get (D := (dC, dI)) (ci := 2) (v := .ref (a 7)) (C := RX2) (T := TX2) (N := 7) hx hb hts in_X2 hown hK hP 0 rfl rfl 5 (by decide) lf_29 (fun _ h9 => h9) rfl dX2_abort_11 ?_
        refine lv_iload_n hx hb dX2_abort_14 rfl (lv_at hl 2 rfl) ?_
        refine hx_iald hx hb hK hP 7 5 rfl rfl (by omega) (by omega) dX2_abort_15 ?_
        refine hx_read (va_runS (As := [.int (sI r)]) (rest := [.int (nI w)]) ⟨hx, hb, hml, hown, hts⟩ (c_J6_bitCount_0f7a4 l (sI r)) (va_cwS 1 hts gX2_abort_J6_bitCount_0f7a4 rfl rfl rfl (by decide +kernel) ⟨Nat.le_of_ble_eq_true rfl, Nat.le_of_ble_eq_true rfl⟩) (nu_S _) rfl rfl hl.1 rfl (lv_room (Nat.le_of_ble_eq_true rfl)) dX2_abort_16 ⟨Nat.zero_le _, Nat.zero_le _⟩) ?_
        have hc_4 := cntB_le (sI r) 32
        refine lv_aload_n hx hb dX2_abort_19 rfl (lv_at hl 0 rfl) ?_
        refine va_get (D := (dC, dI)) (ci := 2) (v := .ref (a 8)) (C := RX2) (T := TX2) (N := 7) hx hb hts in_X2 hown hK hP 0 rfl rfl 6 (by decide) lf_32 (fun _ h9 => h9) rfl dX2_abort_20 ?_
        refine lv_iload_n hx hb dX2_abort_23 rfl (lv_at hl 2 rfl) ?_
        refine hx_iald hx hb hK hP 8 6 rfl rfl (by omega) (by omega) dX2_abort_24 ?_
        refine hx_read (va_runS (As := [.int (sO r)]) (rest := [.int (nI (cntB (sI r) 32)), .int (nI w)]) ⟨hx, hb, hml, hown, hts⟩ (c_J6_bitCount_0f7a4 l (sO r)) (va_cwS 1 hts gX2_abort_J6_bitCount_0f7a4 rfl rfl rfl (by decide +kernel) ⟨Nat.le_of_ble_eq_true rfl, Nat.le_of_ble_eq_true rfl⟩) (nu_S _) rfl rfl hl.1 rfl (lv_room (Nat.le_of_ble_eq_true rfl)) dX2_abort_25 ⟨Nat.zero_le _, Nat.zero_le _⟩) ?_
        have hc_5 := cntB_le (sO r) 32
        refine hx_iadd hx hb dX2_abort_28 ?_
        refine hx_iadd hx hb dX2_abort_29 ?_
        refine lv_istore_n (lv' := [(1, .int (nI (w + ((cntB (sI r) 32) + (cntB (sO r) 32))))), (0, .ref (a 0)), (2, .int (nI r))]) hx hb dX2_abort_30 rfl hl (by decide) rfl (fun ls hl => ?_)
        refine lv_iinc (v := nI (r + 1)) (lv' := [(2, .int (nI (r + 1))), (1, .int (nI (w + ((cntB (sI r) 32) + (cntB (sO r) 32))))), (0, .ref (a 0))]) hx hb dX2_abort_31 hl (k := 2) rfl (nI_add r 1) (by decide) rfl (fun ls hl => ?_)
        refine lv_goto (tgt := 4) hx hb dX2_abort_34 (by decide) ?_
        have kx := kx
        rw [show abF sI sO (nn + 1) r w = abF sI sO nn (r + 1) (w + ((cntB (sI r) 32) + (cntB (sO r) 32))) from rfl] at kx
        exact ih (r + 1) (w + ((cntB (sI r) 32) + (cntB (sO r) 32))) (by omega) _ _ hP hD hS ls (lv_sub hl [2, 1, 0] rfl) kx
  refine L_4_0 2 0 0 (by omega) _ _ hP hD hS ls (lv_sub hl [2, 1, 0] rfl) (fun H locs hP hD hS ls hl => ?_)
  have hP : va_P (dC, dI) vwCl (vkW a cA n hd fm rp rq nd nw bf su sI sO ct) H := hP
  have hD : va_D A (vkW a cA n hd fm rp rq nd nw bf su sI sO ct) := hD
  have hl : lv_has ls 3 [(0, .ref (a 0)), (1, .int (nI (abF sI sO 2 0 0))), (2, .int (nI 2))] := hl
  refine lv_aload_n hx hb dX2_abort_37 rfl (lv_at hl 0 rfl) ?_
  refine hx_wrv (va_runV (As := []) (rest := []) ⟨hx, hb, hml, hown, hts⟩ (c_X2_clearStaged l dC dI a cA n hd fm rp rq nd nw bf su sI sO ct H.size) (cwV 0 hts gX2_abort_X2_clearStaged rfl rfl rfl (by decide +kernel) ⟨Nat.le_of_ble_eq_true rfl, Nat.le_of_ble_eq_true rfl⟩) (wr_V nstW_ok hP hK hN hD 0 rfl rfl _) rfl rfl hl.1 rfl (lv_room (Nat.le_of_ble_eq_true rfl)) dX2_abort_38 ⟨Nat.zero_le _, Nat.zero_le _⟩) hD hS hA (fun H locs hP hD hS => ?_)
  have hP : va_P (dC, dI) vwCl (vkW a cA n hd fm rp rq nd nw bf su (fun _ => nI 0) (fun _ => nI 0) ct) H := hP
  have hD : va_D A (vkW a cA n hd fm rp rq nd nw bf su (fun _ => nI 0) (fun _ => nI 0) ct) := hD
  refine lv_iload_n hx hb dX2_abort_41 rfl (lv_at hl 1 rfl) ?_
  have e9 : vkW a cA n hd fm rp rq nd nw bf su (fun _ => nI 0) (fun _ => nI 0) ct = vkW a cA n hd fm rp rq nd nw bf su (fun _ => nI 0) (fun _ => nI 0) ct := rfl
  rw [e9] at hP hD
  subst hAe
  exact W.iret (v := nI (abF sI sO 2 0 0)) hx hb hr (fun t ht hW => ⟨⟨_, (), rfl, rfl, by rw [ht]; exact hP, va_K.moved hW.alike hK, hD⟩, hS.F ht⟩) hS.2.2 dX2_abort_42

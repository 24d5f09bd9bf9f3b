/-! the reference's face -/
def chgN (nw bf db : Nat → Int32) (r w : Nat) : Int32 := if w = 0 then putM nw bf r else if w = 1 then takM nw bf r else if w = 2 then db r else db r &&& nw r
set_option maxHeartbeats 4000000 in
set_option maxRecDepth 100000 in
theorem c_X3_rule_b (l : Launch) (dC : Nat → ClassId) (dI : Nat → Nat → Nat) (b : Nat → Nat) (cB : Nat → ClassId) (n : Nat) (hd fm rp rq : Nat → Nat) (nw bf db sg wt : Nat → Int32) (ne dn : Nat → Bool) (h0 f0 p0 q0 : Int32) (hy_0 : (wiM h0 2 6 && (wiM f0 0 4 && (wiM p0 0 6 && wiM q0 0 6))) = false) : WrI l yX3_rule wsX3_rule ({ frames := 7, cells := 0, slots := 0, locals := 164 }) (dC, dI) vwCl (mdW b cB n hd fm rp rq nw bf db sg wt ne dn) (mdW b cB n hd fm rp rq nw bf db sg wt ne dn) (mdT cB) nstW [.ref (b 0), .int (h0), .int (f0), .int (p0), .int (q0)] ((-1)) := by
  intro sz
  refine Met.ofW (cc := cX3_rule) (maxL := 5) (ret := (some .int)) (by decide) rfl ?_
  intro p e s m args below meth c s₁ B hml hv
  obtain ⟨rfl, hsz, ⟨hP, hK, hN⟩, hD0⟩ := hv
  subst hsz
  have hx := B.exec
  have hb := B.bytes
  have hr := B.returns
  have hts := atoms_spec (ws := wsX3_rule) B.pre
  have hown : s.vm.findClass RX3 = some m.cls := findClass_of_methodNamed B.named
  have hlocks := B.notSynchronized
  obtain ⟨A, hAe⟩ : ∃ A, A = va_A (mdW b cB n hd fm rp rq nw bf db sg wt ne dn) s.heap.size := ⟨_, rfl⟩
  have hD : va_D A (mdW b cB n hd fm rp rq nw bf db sg wt ne dn) := by rw [hAe]; exact hD0.self (sz := s.heap.size)
  have hA : ∀ q : Nat, s.heap.size ≤ q → A q := fun q h => by rw [hAe]; exact Or.inr h
  have hS : va_S A s.heap s.heap [] := va_S.rf
  have hP : va_P (dC, dI) vwCl (mdW b cB n hd fm rp rq nw bf db sg wt ne dn) s.heap := hP
  have lf_44 := hts (.fieldLink RX3 44 "ViewKeeperModel" "count" "I") (by decide +kernel)
  have in_X3 : ∀ w ∈ u_ws RX3 TX3 12, w ∈ wsX3_rule := by decide +kernel
  have lf_7 := hts (.fieldLink RX3 7 "ViewKeeperModel" "heads" "[I") (by decide +kernel)
  have lf_13 := hts (.fieldLink RX3 13 "ViewKeeperModel" "forms" "[I") (by decide +kernel)
  have lf_16 := hts (.fieldLink RX3 16 "ViewKeeperModel" "first" "[I") (by decide +kernel)
  have lf_19 := hts (.fieldLink RX3 19 "ViewKeeperModel" "second" "[I") (by decide +kernel)
  have hl := lv_entry ([.ref (b 0), .int (h0), .int (f0), .int (p0), .int (q0)]) (n := 5) (Nat.le_of_ble_eq_true rfl)
  rw [lg_entry_eq]
  generalize (lg_sl ([.ref (b 0), .int (h0), .int (f0), .int (p0), .int (q0)]) ++ List.replicate (5 - (lg_sl ([.ref (b 0), .int (h0), .int (f0), .int (p0), .int (q0)])).length) Slot.unset).toArray = ls at hl ⊢
  have hl : lv_has ls 5 [(0, .ref (b 0)), (1, .int (h0)), (2, .int (f0)), (3, .int (p0)), (4, .int (q0))] := hl
  refine lv_iload_n hx hb dX3_rule_0 rfl (lv_at hl 1 rfl) ?_
  refine lv_iconst (v := nI 2) hx hb dX3_rule_1 (by decide) ?_
  refine lv_bipush (v := nI 6) hx hb dX3_rule_2 (by decide) ?_
  refine hx_read (va_runS (As := [.int (h0), .int (nI 2), .int (nI 6)]) (rest := []) ⟨hx, hb, hml, hown, hts⟩ (c_X3_within l h0 2 6) (va_cwS 3 hts gX3_rule_X3_within rfl rfl rfl (by decide +kernel) ⟨Nat.le_of_ble_eq_true rfl, Nat.le_of_ble_eq_true rfl⟩) (nu_S _) rfl rfl hl.1 rfl (lv_room (Nat.le_of_ble_eq_true rfl)) dX3_rule_4 ⟨Nat.zero_le _, Nat.zero_le _⟩) ?_
  refine hx_ifB (tgt := 40) hx hb dX3_rule_7 (by decide) (fun c_1 => ?_) (fun c_1 => ?_)
  · refine lv_iconst (v := (-1)) hx hb dX3_rule_40 (by decide) ?_
    have e9 : mdW b cB n hd fm rp rq nw bf db sg wt ne dn = mdW b cB n hd fm rp rq nw bf db sg wt ne dn := rfl
    rw [e9] at hP hD
    subst hAe
    exact W.iret (v := (-1)) hx hb hr (fun t ht hW => ⟨⟨_, (), rfl, rfl, by rw [ht]; exact hP, va_K.moved hW.alike hK, hD⟩, hS.F ht⟩) hS.2.2 dX3_rule_41
  · refine lv_iload_n hx hb dX3_rule_10 rfl (lv_at hl 2 rfl) ?_
    refine lv_iconst (v := nI 0) hx hb dX3_rule_11 (by decide) ?_
    refine lv_iconst (v := nI 4) hx hb dX3_rule_12 (by decide) ?_
    refine hx_read (va_runS (As := [.int (f0), .int (nI 0), .int (nI 4)]) (rest := []) ⟨hx, hb, hml, hown, hts⟩ (c_X3_within l f0 0 4) (va_cwS 3 hts gX3_rule_X3_within rfl rfl rfl (by decide +kernel) ⟨Nat.le_of_ble_eq_true rfl, Nat.le_of_ble_eq_true rfl⟩) (nu_S _) rfl rfl hl.1 rfl (lv_room (Nat.le_of_ble_eq_true rfl)) dX3_rule_13 ⟨Nat.zero_le _, Nat.zero_le _⟩) ?_
    refine hx_ifB (tgt := 40) hx hb dX3_rule_16 (by decide) (fun c_2 => ?_) (fun c_2 => ?_)
    · refine lv_iconst (v := (-1)) hx hb dX3_rule_40 (by decide) ?_
      have e9 : mdW b cB n hd fm rp rq nw bf db sg wt ne dn = mdW b cB n hd fm rp rq nw bf db sg wt ne dn := rfl
      rw [e9] at hP hD
      subst hAe
      exact W.iret (v := (-1)) hx hb hr (fun t ht hW => ⟨⟨_, (), rfl, rfl, by rw [ht]; exact hP, va_K.moved hW.alike hK, hD⟩, hS.F ht⟩) hS.2.2 dX3_rule_41
    · refine lv_iload_n hx hb dX3_rule_19 rfl (lv_at hl 3 rfl) ?_
      refine lv_iconst (v := nI 0) hx hb dX3_rule_20 (by decide) ?_
      refine lv_bipush (v := nI 6) hx hb dX3_rule_21 (by decide) ?_
      refine hx_read (va_runS (As := [.int (p0), .int (nI 0), .int (nI 6)]) (rest := []) ⟨hx, hb, hml, hown, hts⟩ (c_X3_within l p0 0 6) (va_cwS 3 hts gX3_rule_X3_within rfl rfl rfl (by decide +kernel) ⟨Nat.le_of_ble_eq_true rfl, Nat.le_of_ble_eq_true rfl⟩) (nu_S _) rfl rfl hl.1 rfl (lv_room (Nat.le_of_ble_eq_true rfl)) dX3_rule_23 ⟨Nat.zero_le _, Nat.zero_le _⟩) ?_
      refine hx_ifB (tgt := 40) hx hb dX3_rule_26 (by decide) (fun c_3 => ?_) (fun c_3 => ?_)
      · refine lv_iconst (v := (-1)) hx hb dX3_rule_40 (by decide) ?_
        have e9 : mdW b cB n hd fm rp rq nw bf db sg wt ne dn = mdW b cB n hd fm rp rq nw bf db sg wt ne dn := rfl
        rw [e9] at hP hD
        subst hAe
        exact W.iret (v := (-1)) hx hb hr (fun t ht hW => ⟨⟨_, (), rfl, rfl, by rw [ht]; exact hP, va_K.moved hW.alike hK, hD⟩, hS.F ht⟩) hS.2.2 dX3_rule_41
      · refine lv_iload hx hb dX3_rule_29 (lv_at hl 4 rfl) ?_
        refine lv_iconst (v := nI 0) hx hb dX3_rule_31 (by decide) ?_
        refine lv_bipush (v := nI 6) hx hb dX3_rule_32 (by decide) ?_
        refine hx_read (va_runS (As := [.int (q0), .int (nI 0), .int (nI 6)]) (rest := []) ⟨hx, hb, hml, hown, hts⟩ (c_X3_within l q0 0 6) (va_cwS 3 hts gX3_rule_X3_within rfl rfl rfl (by decide +kernel) ⟨Nat.le_of_ble_eq_true rfl, Nat.le_of_ble_eq_true rfl⟩) (nu_S _) rfl rfl hl.1 rfl (lv_room (Nat.le_of_ble_eq_true rfl)) dX3_rule_34 ⟨Nat.zero_le _, Nat.zero_le _⟩) ?_
        refine hx_ifnB (tgt := 42) hx hb dX3_rule_37 (by decide) (fun c_4 => ?_) (fun c_4 => ?_)
        · exact absurd hy_0 (by simp [c_1, c_2, c_3, c_4])
        · refine lv_iconst (v := (-1)) hx hb dX3_rule_40 (by decide) ?_
          have e9 : mdW b cB n hd fm rp rq nw bf db sg wt ne dn = mdW b cB n hd fm rp rq nw bf db sg wt ne dn := rfl
          rw [e9] at hP hD
          subst hAe
          exact W.iret (v := (-1)) hx hb hr (fun t ht hW => ⟨⟨_, (), rfl, rfl, by rw [ht]; exact hP, va_K.moved hW.alike hK, hD⟩, hS.F ht⟩) hS.2.2 dX3_rule_41
set_option maxHeartbeats 4000000 in
set_option maxRecDepth 100000 in
theorem c_X3_rule_f (l : Launch) (dC : Nat → ClassId) (dI : Nat → Nat → Nat) (b : Nat → Nat) (cB : Nat → ClassId) (n : Nat) (hd fm rp rq : Nat → Nat) (nw bf db sg wt : Nat → Int32) (ne dn : Nat → Bool) (vh vf vp vq : Nat) (hy_0 : ruOk n hd fm rp rq) (hy_1 : n = 12) (hy_2 : 2 ≤ vh ∧ vh < 7 ∧ vf ≤ 4 ∧ vp < 7 ∧ vq < 7) : WrI l yX3_rule wsX3_rule ({ frames := 7, cells := 0, slots := 0, locals := 164 }) (dC, dI) vwCl (mdW b cB n hd fm rp rq nw bf db sg wt ne dn) (mdW b cB n hd fm rp rq nw bf db sg wt ne dn) (mdT cB) nstW [.ref (b 0), .int (nI vh), .int (nI vf), .int (nI vp), .int (nI vq)] ((-2)) := by
  intro sz
  refine Met.ofW (cc := cX3_rule) (maxL := 5) (ret := (some .int)) (by decide) rfl ?_
  intro p e s m args below meth c s₁ B hml hv
  obtain ⟨rfl, hsz, ⟨hP, hK, hN⟩, hD0⟩ := hv
  subst hsz
  have hx := B.exec
  have hb := B.bytes
  have hr := B.returns
  have hts := atoms_spec (ws := wsX3_rule) B.pre
  have hown : s.vm.findClass RX3 = some m.cls := findClass_of_methodNamed B.named
  have hlocks := B.notSynchronized
  obtain ⟨A, hAe⟩ : ∃ A, A = va_A (mdW b cB n hd fm rp rq nw bf db sg wt ne dn) s.heap.size := ⟨_, rfl⟩
  have hD : va_D A (mdW b cB n hd fm rp rq nw bf db sg wt ne dn) := by rw [hAe]; exact hD0.self (sz := s.heap.size)
  have hA : ∀ q : Nat, s.heap.size ≤ q → A q := fun q h => by rw [hAe]; exact Or.inr h
  have hS : va_S A s.heap s.heap [] := va_S.rf
  have hP : va_P (dC, dI) vwCl (mdW b cB n hd fm rp rq nw bf db sg wt ne dn) s.heap := hP
  have kv : wiM (nI vh) 2 6 = true := wiM_nI (by omega) (by omega) (by omega)
  have kf : wiM (nI vf) 0 4 = true := wiM_nI (by omega) (by omega) (by omega)
  have kp : wiM (nI vp) 0 6 = true := wiM_nI (by omega) (by omega) (by omega)
  have kq : wiM (nI vq) 0 6 = true := wiM_nI (by omega) (by omega) (by omega)
  have lf_44 := hts (.fieldLink RX3 44 "ViewKeeperModel" "count" "I") (by decide +kernel)
  have in_X3 : ∀ w ∈ u_ws RX3 TX3 12, w ∈ wsX3_rule := by decide +kernel
  have lf_7 := hts (.fieldLink RX3 7 "ViewKeeperModel" "heads" "[I") (by decide +kernel)
  have lf_13 := hts (.fieldLink RX3 13 "ViewKeeperModel" "forms" "[I") (by decide +kernel)
  have lf_16 := hts (.fieldLink RX3 16 "ViewKeeperModel" "first" "[I") (by decide +kernel)
  have lf_19 := hts (.fieldLink RX3 19 "ViewKeeperModel" "second" "[I") (by decide +kernel)
  have hl := lv_entry ([.ref (b 0), .int (nI vh), .int (nI vf), .int (nI vp), .int (nI vq)]) (n := 5) (Nat.le_of_ble_eq_true rfl)
  rw [lg_entry_eq]
  generalize (lg_sl ([.ref (b 0), .int (nI vh), .int (nI vf), .int (nI vp), .int (nI vq)]) ++ List.replicate (5 - (lg_sl ([.ref (b 0), .int (nI vh), .int (nI vf), .int (nI vp), .int (nI vq)])).length) Slot.unset).toArray = ls at hl ⊢
  have hl : lv_has ls 5 [(0, .ref (b 0)), (1, .int (nI vh)), (2, .int (nI vf)), (3, .int (nI vp)), (4, .int (nI vq))] := hl
  refine lv_iload_n hx hb dX3_rule_0 rfl (lv_at hl 1 rfl) ?_
  refine lv_iconst (v := nI 2) hx hb dX3_rule_1 (by decide) ?_
  refine lv_bipush (v := nI 6) hx hb dX3_rule_2 (by decide) ?_
  refine hx_read (va_runS (As := [.int (nI vh), .int (nI 2), .int (nI 6)]) (rest := []) ⟨hx, hb, hml, hown, hts⟩ (c_X3_within l (nI vh) 2 6) (va_cwS 3 hts gX3_rule_X3_within rfl rfl rfl (by decide +kernel) ⟨Nat.le_of_ble_eq_true rfl, Nat.le_of_ble_eq_true rfl⟩) (nu_S _) rfl rfl hl.1 rfl (lv_room (Nat.le_of_ble_eq_true rfl)) dX3_rule_4 ⟨Nat.zero_le _, Nat.zero_le _⟩) ?_
  refine hx_ifB (tgt := 40) hx hb dX3_rule_7 (by decide) (fun c_1 => ?_) (fun c_1 => ?_)
  · exact absurd (kv.symm.trans c_1) (by decide)
  · refine lv_iload_n hx hb dX3_rule_10 rfl (lv_at hl 2 rfl) ?_
    refine lv_iconst (v := nI 0) hx hb dX3_rule_11 (by decide) ?_
    refine lv_iconst (v := nI 4) hx hb dX3_rule_12 (by decide) ?_
    refine hx_read (va_runS (As := [.int (nI vf), .int (nI 0), .int (nI 4)]) (rest := []) ⟨hx, hb, hml, hown, hts⟩ (c_X3_within l (nI vf) 0 4) (va_cwS 3 hts gX3_rule_X3_within rfl rfl rfl (by decide +kernel) ⟨Nat.le_of_ble_eq_true rfl, Nat.le_of_ble_eq_true rfl⟩) (nu_S _) rfl rfl hl.1 rfl (lv_room (Nat.le_of_ble_eq_true rfl)) dX3_rule_13 ⟨Nat.zero_le _, Nat.zero_le _⟩) ?_
    refine hx_ifB (tgt := 40) hx hb dX3_rule_16 (by decide) (fun c_2 => ?_) (fun c_2 => ?_)
    · exact absurd (kf.symm.trans c_2) (by decide)
    · refine lv_iload_n hx hb dX3_rule_19 rfl (lv_at hl 3 rfl) ?_
      refine lv_iconst (v := nI 0) hx hb dX3_rule_20 (by decide) ?_
      refine lv_bipush (v := nI 6) hx hb dX3_rule_21 (by decide) ?_
      refine hx_read (va_runS (As := [.int (nI vp), .int (nI 0), .int (nI 6)]) (rest := []) ⟨hx, hb, hml, hown, hts⟩ (c_X3_within l (nI vp) 0 6) (va_cwS 3 hts gX3_rule_X3_within rfl rfl rfl (by decide +kernel) ⟨Nat.le_of_ble_eq_true rfl, Nat.le_of_ble_eq_true rfl⟩) (nu_S _) rfl rfl hl.1 rfl (lv_room (Nat.le_of_ble_eq_true rfl)) dX3_rule_23 ⟨Nat.zero_le _, Nat.zero_le _⟩) ?_
      refine hx_ifB (tgt := 40) hx hb dX3_rule_26 (by decide) (fun c_3 => ?_) (fun c_3 => ?_)
      · exact absurd (kp.symm.trans c_3) (by decide)
      · refine lv_iload hx hb dX3_rule_29 (lv_at hl 4 rfl) ?_
        refine lv_iconst (v := nI 0) hx hb dX3_rule_31 (by decide) ?_
        refine lv_bipush (v := nI 6) hx hb dX3_rule_32 (by decide) ?_
        refine hx_read (va_runS (As := [.int (nI vq), .int (nI 0), .int (nI 6)]) (rest := []) ⟨hx, hb, hml, hown, hts⟩ (c_X3_within l (nI vq) 0 6) (va_cwS 3 hts gX3_rule_X3_within rfl rfl rfl (by decide +kernel) ⟨Nat.le_of_ble_eq_true rfl, Nat.le_of_ble_eq_true rfl⟩) (nu_S _) rfl rfl hl.1 rfl (lv_room (Nat.le_of_ble_eq_true rfl)) dX3_rule_34 ⟨Nat.zero_le _, Nat.zero_le _⟩) ?_
        refine hx_ifnB (tgt := 42) hx hb dX3_rule_37 (by decide) (fun c_4 => ?_) (fun c_4 => ?_)
        · refine lv_aload_n hx hb dX3_rule_42 rfl (lv_at hl 0 rfl) ?_
          refine va_get (D := (dC, dI)) (ci := 3) (v := .int (nI n)) (C := RX3) (T := TX3) (N := 12) hx hb hts in_X3 hown hK hP 0 rfl rfl 0 (by decide) lf_44 (fun _ h9 => h9) rfl dX3_rule_43 ?_
          refine lv_bipush (v := nI 12) hx hb dX3_rule_46 (by decide) ?_
          refine hx_neN (tgt := 54) hx hb dX3_rule_48 (by decide) (by omega) (by omega) (fun c_5 => ?_) (fun c_5 => ?_)
          · exact absurd c_5 (by omega)
          · refine lv_bipush (v := (-2)) hx hb dX3_rule_51 (by decide) ?_
            have e9 : mdW b cB n hd fm rp rq nw bf db sg wt ne dn = mdW b cB n hd fm rp rq nw bf db sg wt ne dn := rfl
            rw [e9] at hP hD
            subst hAe
            exact W.iret (v := (-2)) hx hb hr (fun t ht hW => ⟨⟨_, (), rfl, rfl, by rw [ht]; exact hP, va_K.moved hW.alike hK, hD⟩, hS.F ht⟩) hS.2.2 dX3_rule_53
        · exact absurd (kq.symm.trans c_4) (by decide)
set_option maxHeartbeats 4000000 in
set_option maxRecDepth 100000 in
theorem c_X3_rule_c (l : Launch) (dC : Nat → ClassId) (dI : Nat → Nat → Nat) (b : Nat → Nat) (cB : Nat → ClassId) (n : Nat) (hd fm rp rq : Nat → Nat) (nw bf db sg wt : Nat → Int32) (ne dn : Nat → Bool) (vh vf vp vq : Nat) (hy_0 : ruOk n hd fm rp rq) (hy_1 : n < 12) (hy_2 : 2 ≤ vh ∧ vh < 7 ∧ vf ≤ 4 ∧ vp < 7 ∧ vq < 7) (hy_3 : cyM (va_up hd n vh) (va_up fm n vf) (va_up rq n vq) (neW (n + 1) (va_up hd n vh) (va_up fm n vf) (va_up rp n vp) (va_up rq n vq) ne) (n + 1) 0 false = true) : WrI l yX3_rule wsX3_rule ({ frames := 7, cells := 0, slots := 0, locals := 164 }) (dC, dI) vwCl (mdW b cB n hd fm rp rq nw bf db sg wt ne dn) (mdW b cB n (va_up hd n vh) (va_up fm n vf) (va_up rp n vp) (va_up rq n vq) nw bf db sg wt (neW n (va_up hd n vh) (va_up fm n vf) (va_up rp n vp) (va_up rq n vq) (neW (n + 1) (va_up hd n vh) (va_up fm n vf) (va_up rp n vp) (va_up rq n vq) ne)) dn) (mdT cB) nstW [.ref (b 0), .int (nI vh), .int (nI vf), .int (nI vp), .int (nI vq)] ((-3)) := by
  intro sz
  refine Met.ofW (cc := cX3_rule) (maxL := 5) (ret := (some .int)) (by decide) rfl ?_
  intro p e s m args below meth c s₁ B hml hv
  obtain ⟨rfl, hsz, ⟨hP, hK, hN⟩, hD0⟩ := hv
  subst hsz
  have hx := B.exec
  have hb := B.bytes
  have hr := B.returns
  have hts := atoms_spec (ws := wsX3_rule) B.pre
  have hown : s.vm.findClass RX3 = some m.cls := findClass_of_methodNamed B.named
  have hlocks := B.notSynchronized
  obtain ⟨A, hAe⟩ : ∃ A, A = va_A (mdW b cB n hd fm rp rq nw bf db sg wt ne dn) s.heap.size := ⟨_, rfl⟩
  have hD : va_D A (mdW b cB n hd fm rp rq nw bf db sg wt ne dn) := by rw [hAe]; exact hD0.self (sz := s.heap.size)
  have hA : ∀ q : Nat, s.heap.size ≤ q → A q := fun q h => by rw [hAe]; exact Or.inr h
  have hS : va_S A s.heap s.heap [] := va_S.rf
  have hP : va_P (dC, dI) vwCl (mdW b cB n hd fm rp rq nw bf db sg wt ne dn) s.heap := hP
  have kv : wiM (nI vh) 2 6 = true := wiM_nI (by omega) (by omega) (by omega)
  have kf : wiM (nI vf) 0 4 = true := wiM_nI (by omega) (by omega) (by omega)
  have kp : wiM (nI vp) 0 6 = true := wiM_nI (by omega) (by omega) (by omega)
  have kq : wiM (nI vq) 0 6 = true := wiM_nI (by omega) (by omega) (by omega)
  have lf_44 := hts (.fieldLink RX3 44 "ViewKeeperModel" "count" "I") (by decide +kernel)
  have in_X3 : ∀ w ∈ u_ws RX3 TX3 12, w ∈ wsX3_rule := by decide +kernel
  have lf_7 := hts (.fieldLink RX3 7 "ViewKeeperModel" "heads" "[I") (by decide +kernel)
  have lf_13 := hts (.fieldLink RX3 13 "ViewKeeperModel" "forms" "[I") (by decide +kernel)
  have lf_16 := hts (.fieldLink RX3 16 "ViewKeeperModel" "first" "[I") (by decide +kernel)
  have lf_19 := hts (.fieldLink RX3 19 "ViewKeeperModel" "second" "[I") (by decide +kernel)
  have hl := lv_entry ([.ref (b 0), .int (nI vh), .int (nI vf), .int (nI vp), .int (nI vq)]) (n := 5) (Nat.le_of_ble_eq_true rfl)
  rw [lg_entry_eq]
  generalize (lg_sl ([.ref (b 0), .int (nI vh), .int (nI vf), .int (nI vp), .int (nI vq)]) ++ List.replicate (5 - (lg_sl ([.ref (b 0), .int (nI vh), .int (nI vf), .int (nI vp), .int (nI vq)])).length) Slot.unset).toArray = ls at hl ⊢
  have hl : lv_has ls 5 [(0, .ref (b 0)), (1, .int (nI vh)), (2, .int (nI vf)), (3, .int (nI vp)), (4, .int (nI vq))] := hl
  refine lv_iload_n hx hb dX3_rule_0 rfl (lv_at hl 1 rfl) ?_
  refine lv_iconst (v := nI 2) hx hb dX3_rule_1 (by decide) ?_
  refine lv_bipush (v := nI 6) hx hb dX3_rule_2 (by decide) ?_
  refine hx_read (va_runS (As := [.int (nI vh), .int (nI 2), .int (nI 6)]) (rest := []) ⟨hx, hb, hml, hown, hts⟩ (c_X3_within l (nI vh) 2 6) (va_cwS 3 hts gX3_rule_X3_within rfl rfl rfl (by decide +kernel) ⟨Nat.le_of_ble_eq_true rfl, Nat.le_of_ble_eq_true rfl⟩) (nu_S _) rfl rfl hl.1 rfl (lv_room (Nat.le_of_ble_eq_true rfl)) dX3_rule_4 ⟨Nat.zero_le _, Nat.zero_le _⟩) ?_
  refine hx_ifB (tgt := 40) hx hb dX3_rule_7 (by decide) (fun c_1 => ?_) (fun c_1 => ?_)
  · exact absurd (kv.symm.trans c_1) (by decide)
  · refine lv_iload_n hx hb dX3_rule_10 rfl (lv_at hl 2 rfl) ?_
    refine lv_iconst (v := nI 0) hx hb dX3_rule_11 (by decide) ?_
    refine lv_iconst (v := nI 4) hx hb dX3_rule_12 (by decide) ?_
    refine hx_read (va_runS (As := [.int (nI vf), .int (nI 0), .int (nI 4)]) (rest := []) ⟨hx, hb, hml, hown, hts⟩ (c_X3_within l (nI vf) 0 4) (va_cwS 3 hts gX3_rule_X3_within rfl rfl rfl (by decide +kernel) ⟨Nat.le_of_ble_eq_true rfl, Nat.le_of_ble_eq_true rfl⟩) (nu_S _) rfl rfl hl.1 rfl (lv_room (Nat.le_of_ble_eq_true rfl)) dX3_rule_13 ⟨Nat.zero_le _, Nat.zero_le _⟩) ?_
    refine hx_ifB (tgt := 40) hx hb dX3_rule_16 (by decide) (fun c_2 => ?_) (fun c_2 => ?_)
    · exact absurd (kf.symm.trans c_2) (by decide)
    · refine lv_iload_n hx hb dX3_rule_19 rfl (lv_at hl 3 rfl) ?_
      refine lv_iconst (v := nI 0) hx hb dX3_rule_20 (by decide) ?_
      refine lv_bipush (v := nI 6) hx hb dX3_rule_21 (by decide) ?_
      refine hx_read (va_runS (As := [.int (nI vp), .int (nI 0), .int (nI 6)]) (rest := []) ⟨hx, hb, hml, hown, hts⟩ (c_X3_within l (nI vp) 0 6) (va_cwS 3 hts gX3_rule_X3_within rfl rfl rfl (by decide +kernel) ⟨Nat.le_of_ble_eq_true rfl, Nat.le_of_ble_eq_true rfl⟩) (nu_S _) rfl rfl hl.1 rfl (lv_room (Nat.le_of_ble_eq_true rfl)) dX3_rule_23 ⟨Nat.zero_le _, Nat.zero_le _⟩) ?_
      refine hx_ifB (tgt := 40) hx hb dX3_rule_26 (by decide) (fun c_3 => ?_) (fun c_3 => ?_)
      · exact absurd (kp.symm.trans c_3) (by decide)
      · refine lv_iload hx hb dX3_rule_29 (lv_at hl 4 rfl) ?_
        refine lv_iconst (v := nI 0) hx hb dX3_rule_31 (by decide) ?_
        refine lv_bipush (v := nI 6) hx hb dX3_rule_32 (by decide) ?_
        refine hx_read (va_runS (As := [.int (nI vq), .int (nI 0), .int (nI 6)]) (rest := []) ⟨hx, hb, hml, hown, hts⟩ (c_X3_within l (nI vq) 0 6) (va_cwS 3 hts gX3_rule_X3_within rfl rfl rfl (by decide +kernel) ⟨Nat.le_of_ble_eq_true rfl, Nat.le_of_ble_eq_true rfl⟩) (nu_S _) rfl rfl hl.1 rfl (lv_room (Nat.le_of_ble_eq_true rfl)) dX3_rule_34 ⟨Nat.zero_le _, Nat.zero_le _⟩) ?_
        refine hx_ifnB (tgt := 42) hx hb dX3_rule_37 (by decide) (fun c_4 => ?_) (fun c_4 => ?_)
        · refine lv_aload_n hx hb dX3_rule_42 rfl (lv_at hl 0 rfl) ?_
          refine va_get (D := (dC, dI)) (ci := 3) (v := .int (nI n)) (C := RX3) (T := TX3) (N := 12) hx hb hts in_X3 hown hK hP 0 rfl rfl 0 (by decide) lf_44 (fun _ h9 => h9) rfl dX3_rule_43 ?_
          refine lv_bipush (v := nI 12) hx hb dX3_rule_46 (by decide) ?_
          refine hx_neN (tgt := 54) hx hb dX3_rule_48 (by decide) (by omega) (by omega) (fun c_5 => ?_) (fun c_5 => ?_)
          · refine lv_aload_n hx hb dX3_rule_54 rfl (lv_at hl 0 rfl) ?_
            refine va_get (D := (dC, dI)) (ci := 3) (v := .ref (b 1)) (C := RX3) (T := TX3) (N := 12) hx hb hts in_X3 hown hK hP 0 rfl rfl 1 (by decide) lf_7 (fun _ h9 => h9) rfl dX3_rule_55 ?_
            refine lv_aload_n hx hb dX3_rule_58 rfl (lv_at hl 0 rfl) ?_
            refine va_get (D := (dC, dI)) (ci := 3) (v := .int (nI n)) (C := RX3) (T := TX3) (N := 12) hx hb hts in_X3 hown hK hP 0 rfl rfl 0 (by decide) lf_44 (fun _ h9 => h9) rfl dX3_rule_59 ?_
            refine lv_iload_n hx hb dX3_rule_62 rfl (lv_at hl 1 rfl) ?_
            refine hx_iastN hx hb hK hP hD hS 1 0 rfl rfl (by omega) (by omega) dX3_rule_63 (fun H locs hP hD hS => ?_)
            have hP : va_P (dC, dI) vwCl (mdW b cB n (va_up hd n vh) fm rp rq nw bf db sg wt ne dn) H := hP
            have hD : va_D A (mdW b cB n (va_up hd n vh) fm rp rq nw bf db sg wt ne dn) := hD
            refine lv_aload_n hx hb dX3_rule_64 rfl (lv_at hl 0 rfl) ?_
            refine va_get (D := (dC, dI)) (ci := 3) (v := .ref (b 2)) (C := RX3) (T := TX3) (N := 12) hx hb hts in_X3 hown hK hP 0 rfl rfl 2 (by decide) lf_13 (fun _ h9 => h9) rfl dX3_rule_65 ?_
            refine lv_aload_n hx hb dX3_rule_68 rfl (lv_at hl 0 rfl) ?_
            refine va_get (D := (dC, dI)) (ci := 3) (v := .int (nI n)) (C := RX3) (T := TX3) (N := 12) hx hb hts in_X3 hown hK hP 0 rfl rfl 0 (by decide) lf_44 (fun _ h9 => h9) rfl dX3_rule_69 ?_
            refine lv_iload_n hx hb dX3_rule_72 rfl (lv_at hl 2 rfl) ?_
            refine hx_iastN hx hb hK hP hD hS 2 1 rfl rfl (by omega) (by omega) dX3_rule_73 (fun H locs hP hD hS => ?_)
            have hP : va_P (dC, dI) vwCl (mdW b cB n (va_up hd n vh) (va_up fm n vf) rp rq nw bf db sg wt ne dn) H := hP
            have hD : va_D A (mdW b cB n (va_up hd n vh) (va_up fm n vf) rp rq nw bf db sg wt ne dn) := hD
            refine lv_aload_n hx hb dX3_rule_74 rfl (lv_at hl 0 rfl) ?_
            refine va_get (D := (dC, dI)) (ci := 3) (v := .ref (b 3)) (C := RX3) (T := TX3) (N := 12) hx hb hts in_X3 hown hK hP 0 rfl rfl 3 (by decide) lf_16 (fun _ h9 => h9) rfl dX3_rule_75 ?_
            refine lv_aload_n hx hb dX3_rule_78 rfl (lv_at hl 0 rfl) ?_
            refine va_get (D := (dC, dI)) (ci := 3) (v := .int (nI n)) (C := RX3) (T := TX3) (N := 12) hx hb hts in_X3 hown hK hP 0 rfl rfl 0 (by decide) lf_44 (fun _ h9 => h9) rfl dX3_rule_79 ?_
            refine lv_iload_n hx hb dX3_rule_82 rfl (lv_at hl 3 rfl) ?_
            refine hx_iastN hx hb hK hP hD hS 3 2 rfl rfl (by omega) (by omega) dX3_rule_83 (fun H locs hP hD hS => ?_)
            have hP : va_P (dC, dI) vwCl (mdW b cB n (va_up hd n vh) (va_up fm n vf) (va_up rp n vp) rq nw bf db sg wt ne dn) H := hP
            have hD : va_D A (mdW b cB n (va_up hd n vh) (va_up fm n vf) (va_up rp n vp) rq nw bf db sg wt ne dn) := hD
            refine lv_aload_n hx hb dX3_rule_84 rfl (lv_at hl 0 rfl) ?_
            refine va_get (D := (dC, dI)) (ci := 3) (v := .ref (b 4)) (C := RX3) (T := TX3) (N := 12) hx hb hts in_X3 hown hK hP 0 rfl rfl 4 (by decide) lf_19 (fun _ h9 => h9) rfl dX3_rule_85 ?_
            refine lv_aload_n hx hb dX3_rule_88 rfl (lv_at hl 0 rfl) ?_
            refine va_get (D := (dC, dI)) (ci := 3) (v := .int (nI n)) (C := RX3) (T := TX3) (N := 12) hx hb hts in_X3 hown hK hP 0 rfl rfl 0 (by decide) lf_44 (fun _ h9 => h9) rfl dX3_rule_89 ?_
            refine lv_iload hx hb dX3_rule_92 (lv_at hl 4 rfl) ?_
            refine hx_iastN hx hb hK hP hD hS 4 3 rfl rfl (by omega) (by omega) dX3_rule_94 (fun H locs hP hD hS => ?_)
            have hP : va_P (dC, dI) vwCl (mdW b cB n (va_up hd n vh) (va_up fm n vf) (va_up rp n vp) (va_up rq n vq) nw bf db sg wt ne dn) H := hP
            have hD : va_D A (mdW b cB n (va_up hd n vh) (va_up fm n vf) (va_up rp n vp) (va_up rq n vq) nw bf db sg wt ne dn) := hD
            refine lv_aload_n hx hb dX3_rule_95 rfl (lv_at hl 0 rfl) ?_
            refine lv_dup hx hb dX3_rule_96 rfl ?_
            refine va_get (D := (dC, dI)) (ci := 3) (v := .int (nI n)) (C := RX3) (T := TX3) (N := 12) hx hb hts in_X3 hown hK hP 0 rfl rfl 0 (by decide) lf_44 (fun _ h9 => h9) rfl dX3_rule_97 ?_
            refine lv_iconst (v := nI 1) hx hb dX3_rule_100 (by decide) ?_
            refine hx_iadd hx hb dX3_rule_101 ?_
            refine va_put (D := (dC, dI)) (ci := 3) (v := .int (nI (n + 1))) (ty := .int) (C := RX3) (T := TX3) (N := 12) hx hb hts in_X3 tyX3 tyX3_ok nmX3 hown hK hP hD hS 0 rfl rfl 0 (by decide) lf_44 (fun _ h9 => h9) rfl (by decide +kernel) rfl rfl (Nat.le_of_ble_eq_true rfl) dX3_rule_102 (fun H locs hP hD hS => ?_)
            have hP : va_P (dC, dI) vwCl (mdW b cB (n + 1) (va_up hd n vh) (va_up fm n vf) (va_up rp n vp) (va_up rq n vq) nw bf db sg wt ne dn) H := hP
            have hD : va_D A (mdW b cB (n + 1) (va_up hd n vh) (va_up fm n vf) (va_up rp n vp) (va_up rq n vq) nw bf db sg wt ne dn) := hD
            refine lv_aload_n hx hb dX3_rule_105 rfl (lv_at hl 0 rfl) ?_
            refine hx_wrv (va_runV (As := []) (rest := []) ⟨hx, hb, hml, hown, hts⟩ (c_X3_findNeeds l dC dI b cB (n + 1) (va_up hd n vh) (va_up fm n vf) (va_up rp n vp) (va_up rq n vq) nw bf db sg wt ne dn (by first | exact ruOk_add hy_0 hy_1 hy_2 | exact ruOk_pred (ruOk_add hy_0 hy_1 hy_2)) H.size) (cwV 0 hts gX3_rule_X3_findNeeds rfl rfl rfl (by decide +kernel) ⟨Nat.le_of_ble_eq_true rfl, Nat.le_of_ble_eq_true rfl⟩) (wr_V nstW_ok hP hK hN hD 0 rfl rfl _) rfl rfl hl.1 rfl (lv_room (Nat.le_of_ble_eq_true rfl)) dX3_rule_106 ⟨Nat.zero_le _, Nat.zero_le _⟩) hD hS hA (fun H locs hP hD hS => ?_)
            have hP : va_P (dC, dI) vwCl (mdW b cB ((n + 1)) ((va_up hd n vh)) ((va_up fm n vf)) ((va_up rp n vp)) ((va_up rq n vq)) nw bf db sg wt (neW (n + 1) (va_up hd n vh) (va_up fm n vf) (va_up rp n vp) (va_up rq n vq) ne) dn) H := hP
            have hD : va_D A (mdW b cB ((n + 1)) ((va_up hd n vh)) ((va_up fm n vf)) ((va_up rp n vp)) ((va_up rq n vq)) nw bf db sg wt (neW (n + 1) (va_up hd n vh) (va_up fm n vf) (va_up rp n vp) (va_up rq n vq) ne) dn) := hD
            refine lv_aload_n hx hb dX3_rule_109 rfl (lv_at hl 0 rfl) ?_
            refine hx_read (va_runV (As := []) (rest := []) ⟨hx, hb, hml, hown, hts⟩ (c_X3_cyclic l dC dI b cB ((n + 1)) ((va_up hd n vh)) ((va_up fm n vf)) ((va_up rp n vp)) ((va_up rq n vq)) nw bf db sg wt (neW (n + 1) (va_up hd n vh) (va_up fm n vf) (va_up rp n vp) (va_up rq n vq) ne) dn (ruOk_add hy_0 hy_1 hy_2)) (cwV 0 hts gX3_rule_X3_cyclic rfl rfl rfl (by decide +kernel) ⟨Nat.le_of_ble_eq_true rfl, Nat.le_of_ble_eq_true rfl⟩) (rd_V nstW_ok hP hK hN 0 rfl rfl _) rfl rfl hl.1 rfl (lv_room (Nat.le_of_ble_eq_true rfl)) dX3_rule_110 ⟨Nat.zero_le _, Nat.zero_le _⟩) ?_
            refine hx_ifB (tgt := 133) hx hb dX3_rule_113 (by decide) (fun c_6 => ?_) (fun c_6 => ?_)
            · exact absurd (hy_3.symm.trans c_6) (by decide)
            · refine lv_aload_n hx hb dX3_rule_116 rfl (lv_at hl 0 rfl) ?_
              refine lv_dup hx hb dX3_rule_117 rfl ?_
              refine va_get (D := (dC, dI)) (ci := 3) (v := .int (nI ((n + 1)))) (C := RX3) (T := TX3) (N := 12) hx hb hts in_X3 hown hK hP 0 rfl rfl 0 (by decide) lf_44 (fun _ h9 => h9) rfl dX3_rule_118 ?_
              refine lv_iconst (v := nI 1) hx hb dX3_rule_121 (by decide) ?_
              refine hx_isub (by omega) hx hb dX3_rule_122 ?_
              refine va_put (D := (dC, dI)) (ci := 3) (v := .int (nI (((n + 1)) - 1))) (ty := .int) (C := RX3) (T := TX3) (N := 12) hx hb hts in_X3 tyX3 tyX3_ok nmX3 hown hK hP hD hS 0 rfl rfl 0 (by decide) lf_44 (fun _ h9 => h9) rfl (by decide +kernel) rfl rfl (Nat.le_of_ble_eq_true rfl) dX3_rule_123 (fun H locs hP hD hS => ?_)
              have hP : va_P (dC, dI) vwCl (mdW b cB (((n + 1)) - 1) ((va_up hd n vh)) ((va_up fm n vf)) ((va_up rp n vp)) ((va_up rq n vq)) nw bf db sg wt (neW (n + 1) (va_up hd n vh) (va_up fm n vf) (va_up rp n vp) (va_up rq n vq) ne) dn) H := hP
              have hD : va_D A (mdW b cB (((n + 1)) - 1) ((va_up hd n vh)) ((va_up fm n vf)) ((va_up rp n vp)) ((va_up rq n vq)) nw bf db sg wt (neW (n + 1) (va_up hd n vh) (va_up fm n vf) (va_up rp n vp) (va_up rq n vq) ne) dn) := hD
              refine lv_aload_n hx hb dX3_rule_126 rfl (lv_at hl 0 rfl) ?_
              refine hx_wrv (va_runV (As := []) (rest := []) ⟨hx, hb, hml, hown, hts⟩ (c_X3_findNeeds l dC dI b cB (((n + 1)) - 1) ((va_up hd n vh)) ((va_up fm n vf)) ((va_up rp n vp)) ((va_up rq n vq)) nw bf db sg wt (neW (n + 1) (va_up hd n vh) (va_up fm n vf) (va_up rp n vp) (va_up rq n vq) ne) dn (by first | exact ruOk_add hy_0 hy_1 hy_2 | exact ruOk_pred (ruOk_add hy_0 hy_1 hy_2)) H.size) (cwV 0 hts gX3_rule_X3_findNeeds rfl rfl rfl (by decide +kernel) ⟨Nat.le_of_ble_eq_true rfl, Nat.le_of_ble_eq_true rfl⟩) (wr_V nstW_ok hP hK hN hD 0 rfl rfl _) rfl rfl hl.1 rfl (lv_room (Nat.le_of_ble_eq_true rfl)) dX3_rule_127 ⟨Nat.zero_le _, Nat.zero_le _⟩) hD hS hA (fun H locs hP hD hS => ?_)
              have hP : va_P (dC, dI) vwCl (mdW b cB ((((n + 1)) - 1)) (((va_up hd n vh))) (((va_up fm n vf))) (((va_up rp n vp))) (((va_up rq n vq))) nw bf db sg wt (neW (((n + 1)) - 1) ((va_up hd n vh)) ((va_up fm n vf)) ((va_up rp n vp)) ((va_up rq n vq)) (neW (n + 1) (va_up hd n vh) (va_up fm n vf) (va_up rp n vp) (va_up rq n vq) ne)) dn) H := hP
              have hD : va_D A (mdW b cB ((((n + 1)) - 1)) (((va_up hd n vh))) (((va_up fm n vf))) (((va_up rp n vp))) (((va_up rq n vq))) nw bf db sg wt (neW (((n + 1)) - 1) ((va_up hd n vh)) ((va_up fm n vf)) ((va_up rp n vp)) ((va_up rq n vq)) (neW (n + 1) (va_up hd n vh) (va_up fm n vf) (va_up rp n vp) (va_up rq n vq) ne)) dn) := hD
              refine lv_bipush (v := (-3)) hx hb dX3_rule_130 (by decide) ?_
              have e9 : mdW b cB ((((n + 1)) - 1)) (((va_up hd n vh))) (((va_up fm n vf))) (((va_up rp n vp))) (((va_up rq n vq))) nw bf db sg wt (neW (((n + 1)) - 1) ((va_up hd n vh)) ((va_up fm n vf)) ((va_up rp n vp)) ((va_up rq n vq)) (neW (n + 1) (va_up hd n vh) (va_up fm n vf) (va_up rp n vp) (va_up rq n vq) ne)) dn = mdW b cB n (va_up hd n vh) (va_up fm n vf) (va_up rp n vp) (va_up rq n vq) nw bf db sg wt (neW n (va_up hd n vh) (va_up fm n vf) (va_up rp n vp) (va_up rq n vq) (neW (n + 1) (va_up hd n vh) (va_up fm n vf) (va_up rp n vp) (va_up rq n vq) ne)) dn := rfl
              rw [e9] at hP hD
              subst hAe
              exact W.iret (v := (-3)) hx hb hr (fun t ht hW => ⟨⟨_, (), rfl, rfl, by rw [ht]; exact hP, va_K.moved hW.alike hK, hD⟩, hS.F ht⟩) hS.2.2 dX3_rule_132
          · exact absurd c_5 (by omega)
        · exact absurd (kq.symm.trans c_4) (by decide)
set_option maxHeartbeats 4000000 in
set_option maxRecDepth 100000 in
theorem c_X3_rule_g (l : Launch) (dC : Nat → ClassId) (dI : Nat → Nat → Nat) (b : Nat → Nat) (cB : Nat → ClassId) (n : Nat) (hd fm rp rq : Nat → Nat) (nw bf db sg wt : Nat → Int32) (ne dn : Nat → Bool) (vh vf vp vq : Nat) (hy_0 : ruOk n hd fm rp rq) (hy_1 : n < 12) (hy_2 : 2 ≤ vh ∧ vh < 7 ∧ vf ≤ 4 ∧ vp < 7 ∧ vq < 7) (hy_3 : cyM (va_up hd n vh) (va_up fm n vf) (va_up rq n vq) (neW (n + 1) (va_up hd n vh) (va_up fm n vf) (va_up rp n vp) (va_up rq n vq) ne) (n + 1) 0 false = false) : WrI l yX3_rule wsX3_rule ({ frames := 7, cells := 0, slots := 0, locals := 164 }) (dC, dI) vwCl (mdW b cB n hd fm rp rq nw bf db sg wt ne dn) (mdW b cB (n + 1) (va_up hd n vh) (va_up fm n vf) (va_up rp n vp) (va_up rq n vq) (maW (n + 1) (va_up hd n vh) (va_up fm n vf) (va_up rp n vp) (va_up rq n vq) (neW (n + 1) (va_up hd n vh) (va_up fm n vf) (va_up rp n vp) (va_up rq n vq) ne) nw dn) (cpF (maW (n + 1) (va_up hd n vh) (va_up fm n vf) (va_up rp n vp) (va_up rq n vq) (neW (n + 1) (va_up hd n vh) (va_up fm n vf) (va_up rp n vp) (va_up rq n vq) ne) nw dn) 7 0 bf) (zeF 7 0 db) sg wt (neW (n + 1) (va_up hd n vh) (va_up fm n vf) (va_up rp n vp) (va_up rq n vq) ne) (maD (n + 1) (va_up hd n vh) (va_up fm n vf) (va_up rp n vp) (va_up rq n vq) (neW (n + 1) (va_up hd n vh) (va_up fm n vf) (va_up rp n vp) (va_up rq n vq) ne) nw dn)) (mdT cB) nstW [.ref (b 0), .int (nI vh), .int (nI vf), .int (nI vp), .int (nI vq)] (nI n) := by
  intro sz
  refine Met.ofW (cc := cX3_rule) (maxL := 5) (ret := (some .int)) (by decide) rfl ?_
  intro p e s m args below meth c s₁ B hml hv
  obtain ⟨rfl, hsz, ⟨hP, hK, hN⟩, hD0⟩ := hv
  subst hsz
  have hx := B.exec
  have hb := B.bytes
  have hr := B.returns
  have hts := atoms_spec (ws := wsX3_rule) B.pre
  have hown : s.vm.findClass RX3 = some m.cls := findClass_of_methodNamed B.named
  have hlocks := B.notSynchronized
  obtain ⟨A, hAe⟩ : ∃ A, A = va_A (mdW b cB n hd fm rp rq nw bf db sg wt ne dn) s.heap.size := ⟨_, rfl⟩
  have hD : va_D A (mdW b cB n hd fm rp rq nw bf db sg wt ne dn) := by rw [hAe]; exact hD0.self (sz := s.heap.size)
  have hA : ∀ q : Nat, s.heap.size ≤ q → A q := fun q h => by rw [hAe]; exact Or.inr h
  have hS : va_S A s.heap s.heap [] := va_S.rf
  have hP : va_P (dC, dI) vwCl (mdW b cB n hd fm rp rq nw bf db sg wt ne dn) s.heap := hP
  have kv : wiM (nI vh) 2 6 = true := wiM_nI (by omega) (by omega) (by omega)
  have kf : wiM (nI vf) 0 4 = true := wiM_nI (by omega) (by omega) (by omega)
  have kp : wiM (nI vp) 0 6 = true := wiM_nI (by omega) (by omega) (by omega)
  have kq : wiM (nI vq) 0 6 = true := wiM_nI (by omega) (by omega) (by omega)
  have lf_44 := hts (.fieldLink RX3 44 "ViewKeeperModel" "count" "I") (by decide +kernel)
  have in_X3 : ∀ w ∈ u_ws RX3 TX3 12, w ∈ wsX3_rule := by decide +kernel
  have lf_7 := hts (.fieldLink RX3 7 "ViewKeeperModel" "heads" "[I") (by decide +kernel)
  have lf_13 := hts (.fieldLink RX3 13 "ViewKeeperModel" "forms" "[I") (by decide +kernel)
  have lf_16 := hts (.fieldLink RX3 16 "ViewKeeperModel" "first" "[I") (by decide +kernel)
  have lf_19 := hts (.fieldLink RX3 19 "ViewKeeperModel" "second" "[I") (by decide +kernel)
  have hl := lv_entry ([.ref (b 0), .int (nI vh), .int (nI vf), .int (nI vp), .int (nI vq)]) (n := 5) (Nat.le_of_ble_eq_true rfl)
  rw [lg_entry_eq]
  generalize (lg_sl ([.ref (b 0), .int (nI vh), .int (nI vf), .int (nI vp), .int (nI vq)]) ++ List.replicate (5 - (lg_sl ([.ref (b 0), .int (nI vh), .int (nI vf), .int (nI vp), .int (nI vq)])).length) Slot.unset).toArray = ls at hl ⊢
  have hl : lv_has ls 5 [(0, .ref (b 0)), (1, .int (nI vh)), (2, .int (nI vf)), (3, .int (nI vp)), (4, .int (nI vq))] := hl
  refine lv_iload_n hx hb dX3_rule_0 rfl (lv_at hl 1 rfl) ?_
  refine lv_iconst (v := nI 2) hx hb dX3_rule_1 (by decide) ?_
  refine lv_bipush (v := nI 6) hx hb dX3_rule_2 (by decide) ?_
  refine hx_read (va_runS (As := [.int (nI vh), .int (nI 2), .int (nI 6)]) (rest := []) ⟨hx, hb, hml, hown, hts⟩ (c_X3_within l (nI vh) 2 6) (va_cwS 3 hts gX3_rule_X3_within rfl rfl rfl (by decide +kernel) ⟨Nat.le_of_ble_eq_true rfl, Nat.le_of_ble_eq_true rfl⟩) (nu_S _) rfl rfl hl.1 rfl (lv_room (Nat.le_of_ble_eq_true rfl)) dX3_rule_4 ⟨Nat.zero_le _, Nat.zero_le _⟩) ?_
  refine hx_ifB (tgt := 40) hx hb dX3_rule_7 (by decide) (fun c_1 => ?_) (fun c_1 => ?_)
  · exact absurd (kv.symm.trans c_1) (by decide)
  · refine lv_iload_n hx hb dX3_rule_10 rfl (lv_at hl 2 rfl) ?_
    refine lv_iconst (v := nI 0) hx hb dX3_rule_11 (by decide) ?_
    refine lv_iconst (v := nI 4) hx hb dX3_rule_12 (by decide) ?_
    refine hx_read (va_runS (As := [.int (nI vf), .int (nI 0), .int (nI 4)]) (rest := []) ⟨hx, hb, hml, hown, hts⟩ (c_X3_within l (nI vf) 0 4) (va_cwS 3 hts gX3_rule_X3_within rfl rfl rfl (by decide +kernel) ⟨Nat.le_of_ble_eq_true rfl, Nat.le_of_ble_eq_true rfl⟩) (nu_S _) rfl rfl hl.1 rfl (lv_room (Nat.le_of_ble_eq_true rfl)) dX3_rule_13 ⟨Nat.zero_le _, Nat.zero_le _⟩) ?_
    refine hx_ifB (tgt := 40) hx hb dX3_rule_16 (by decide) (fun c_2 => ?_) (fun c_2 => ?_)
    · exact absurd (kf.symm.trans c_2) (by decide)
    · refine lv_iload_n hx hb dX3_rule_19 rfl (lv_at hl 3 rfl) ?_
      refine lv_iconst (v := nI 0) hx hb dX3_rule_20 (by decide) ?_
      refine lv_bipush (v := nI 6) hx hb dX3_rule_21 (by decide) ?_
      refine hx_read (va_runS (As := [.int (nI vp), .int (nI 0), .int (nI 6)]) (rest := []) ⟨hx, hb, hml, hown, hts⟩ (c_X3_within l (nI vp) 0 6) (va_cwS 3 hts gX3_rule_X3_within rfl rfl rfl (by decide +kernel) ⟨Nat.le_of_ble_eq_true rfl, Nat.le_of_ble_eq_true rfl⟩) (nu_S _) rfl rfl hl.1 rfl (lv_room (Nat.le_of_ble_eq_true rfl)) dX3_rule_23 ⟨Nat.zero_le _, Nat.zero_le _⟩) ?_
      refine hx_ifB (tgt := 40) hx hb dX3_rule_26 (by decide) (fun c_3 => ?_) (fun c_3 => ?_)
      · exact absurd (kp.symm.trans c_3) (by decide)
      · refine lv_iload hx hb dX3_rule_29 (lv_at hl 4 rfl) ?_
        refine lv_iconst (v := nI 0) hx hb dX3_rule_31 (by decide) ?_
        refine lv_bipush (v := nI 6) hx hb dX3_rule_32 (by decide) ?_
        refine hx_read (va_runS (As := [.int (nI vq), .int (nI 0), .int (nI 6)]) (rest := []) ⟨hx, hb, hml, hown, hts⟩ (c_X3_within l (nI vq) 0 6) (va_cwS 3 hts gX3_rule_X3_within rfl rfl rfl (by decide +kernel) ⟨Nat.le_of_ble_eq_true rfl, Nat.le_of_ble_eq_true rfl⟩) (nu_S _) rfl rfl hl.1 rfl (lv_room (Nat.le_of_ble_eq_true rfl)) dX3_rule_34 ⟨Nat.zero_le _, Nat.zero_le _⟩) ?_
        refine hx_ifnB (tgt := 42) hx hb dX3_rule_37 (by decide) (fun c_4 => ?_) (fun c_4 => ?_)
        · refine lv_aload_n hx hb dX3_rule_42 rfl (lv_at hl 0 rfl) ?_
          refine va_get (D := (dC, dI)) (ci := 3) (v := .int (nI n)) (C := RX3) (T := TX3) (N := 12) hx hb hts in_X3 hown hK hP 0 rfl rfl 0 (by decide) lf_44 (fun _ h9 => h9) rfl dX3_rule_43 ?_
          refine lv_bipush (v := nI 12) hx hb dX3_rule_46 (by decide) ?_
          refine hx_neN (tgt := 54) hx hb dX3_rule_48 (by decide) (by omega) (by omega) (fun c_5 => ?_) (fun c_5 => ?_)
          · refine lv_aload_n hx hb dX3_rule_54 rfl (lv_at hl 0 rfl) ?_
            refine va_get (D := (dC, dI)) (ci := 3) (v := .ref (b 1)) (C := RX3) (T := TX3) (N := 12) hx hb hts in_X3 hown hK hP 0 rfl rfl 1 (by decide) lf_7 (fun _ h9 => h9) rfl dX3_rule_55 ?_
            refine lv_aload_n hx hb dX3_rule_58 rfl (lv_at hl 0 rfl) ?_
            refine va_get (D := (dC, dI)) (ci := 3) (v := .int (nI n)) (C := RX3) (T := TX3) (N := 12) hx hb hts in_X3 hown hK hP 0 rfl rfl 0 (by decide) lf_44 (fun _ h9 => h9) rfl dX3_rule_59 ?_
            refine lv_iload_n hx hb dX3_rule_62 rfl (lv_at hl 1 rfl) ?_
            refine hx_iastN hx hb hK hP hD hS 1 0 rfl rfl (by omega) (by omega) dX3_rule_63 (fun H locs hP hD hS => ?_)
            have hP : va_P (dC, dI) vwCl (mdW b cB n (va_up hd n vh) fm rp rq nw bf db sg wt ne dn) H := hP
            have hD : va_D A (mdW b cB n (va_up hd n vh) fm rp rq nw bf db sg wt ne dn) := hD
            refine lv_aload_n hx hb dX3_rule_64 rfl (lv_at hl 0 rfl) ?_
            refine va_get (D := (dC, dI)) (ci := 3) (v := .ref (b 2)) (C := RX3) (T := TX3) (N := 12) hx hb hts in_X3 hown hK hP 0 rfl rfl 2 (by decide) lf_13 (fun _ h9 => h9) rfl dX3_rule_65 ?_
            refine lv_aload_n hx hb dX3_rule_68 rfl (lv_at hl 0 rfl) ?_
            refine va_get (D := (dC, dI)) (ci := 3) (v := .int (nI n)) (C := RX3) (T := TX3) (N := 12) hx hb hts in_X3 hown hK hP 0 rfl rfl 0 (by decide) lf_44 (fun _ h9 => h9) rfl dX3_rule_69 ?_
            refine lv_iload_n hx hb dX3_rule_72 rfl (lv_at hl 2 rfl) ?_
            refine hx_iastN hx hb hK hP hD hS 2 1 rfl rfl (by omega) (by omega) dX3_rule_73 (fun H locs hP hD hS => ?_)
            have hP : va_P (dC, dI) vwCl (mdW b cB n (va_up hd n vh) (va_up fm n vf) rp rq nw bf db sg wt ne dn) H := hP
            have hD : va_D A (mdW b cB n (va_up hd n vh) (va_up fm n vf) rp rq nw bf db sg wt ne dn) := hD
            refine lv_aload_n hx hb dX3_rule_74 rfl (lv_at hl 0 rfl) ?_
            refine va_get (D := (dC, dI)) (ci := 3) (v := .ref (b 3)) (C := RX3) (T := TX3) (N := 12) hx hb hts in_X3 hown hK hP 0 rfl rfl 3 (by decide) lf_16 (fun _ h9 => h9) rfl dX3_rule_75 ?_
            refine lv_aload_n hx hb dX3_rule_78 rfl (lv_at hl 0 rfl) ?_
            refine va_get (D := (dC, dI)) (ci := 3) (v := .int (nI n)) (C := RX3) (T := TX3) (N := 12) hx hb hts in_X3 hown hK hP 0 rfl rfl 0 (by decide) lf_44 (fun _ h9 => h9) rfl dX3_rule_79 ?_
            refine lv_iload_n hx hb dX3_rule_82 rfl (lv_at hl 3 rfl) ?_
            refine hx_iastN hx hb hK hP hD hS 3 2 rfl rfl (by omega) (by omega) dX3_rule_83 (fun H locs hP hD hS => ?_)
            have hP : va_P (dC, dI) vwCl (mdW b cB n (va_up hd n vh) (va_up fm n vf) (va_up rp n vp) rq nw bf db sg wt ne dn) H := hP
            have hD : va_D A (mdW b cB n (va_up hd n vh) (va_up fm n vf) (va_up rp n vp) rq nw bf db sg wt ne dn) := hD
            refine lv_aload_n hx hb dX3_rule_84 rfl (lv_at hl 0 rfl) ?_
            refine va_get (D := (dC, dI)) (ci := 3) (v := .ref (b 4)) (C := RX3) (T := TX3) (N := 12) hx hb hts in_X3 hown hK hP 0 rfl rfl 4 (by decide) lf_19 (fun _ h9 => h9) rfl dX3_rule_85 ?_
            refine lv_aload_n hx hb dX3_rule_88 rfl (lv_at hl 0 rfl) ?_
            refine va_get (D := (dC, dI)) (ci := 3) (v := .int (nI n)) (C := RX3) (T := TX3) (N := 12) hx hb hts in_X3 hown hK hP 0 rfl rfl 0 (by decide) lf_44 (fun _ h9 => h9) rfl dX3_rule_89 ?_
            refine lv_iload hx hb dX3_rule_92 (lv_at hl 4 rfl) ?_
            refine hx_iastN hx hb hK hP hD hS 4 3 rfl rfl (by omega) (by omega) dX3_rule_94 (fun H locs hP hD hS => ?_)
            have hP : va_P (dC, dI) vwCl (mdW b cB n (va_up hd n vh) (va_up fm n vf) (va_up rp n vp) (va_up rq n vq) nw bf db sg wt ne dn) H := hP
            have hD : va_D A (mdW b cB n (va_up hd n vh) (va_up fm n vf) (va_up rp n vp) (va_up rq n vq) nw bf db sg wt ne dn) := hD
            refine lv_aload_n hx hb dX3_rule_95 rfl (lv_at hl 0 rfl) ?_
            refine lv_dup hx hb dX3_rule_96 rfl ?_
            refine va_get (D := (dC, dI)) (ci := 3) (v := .int (nI n)) (C := RX3) (T := TX3) (N := 12) hx hb hts in_X3 hown hK hP 0 rfl rfl 0 (by decide) lf_44 (fun _ h9 => h9) rfl dX3_rule_97 ?_
            refine lv_iconst (v := nI 1) hx hb dX3_rule_100 (by decide) ?_
            refine hx_iadd hx hb dX3_rule_101 ?_
            refine va_put (D := (dC, dI)) (ci := 3) (v := .int (nI (n + 1))) (ty := .int) (C := RX3) (T := TX3) (N := 12) hx hb hts in_X3 tyX3 tyX3_ok nmX3 hown hK hP hD hS 0 rfl rfl 0 (by decide) lf_44 (fun _ h9 => h9) rfl (by decide +kernel) rfl rfl (Nat.le_of_ble_eq_true rfl) dX3_rule_102 (fun H locs hP hD hS => ?_)
            have hP : va_P (dC, dI) vwCl (mdW b cB (n + 1) (va_up hd n vh) (va_up fm n vf) (va_up rp n vp) (va_up rq n vq) nw bf db sg wt ne dn) H := hP
            have hD : va_D A (mdW b cB (n + 1) (va_up hd n vh) (va_up fm n vf) (va_up rp n vp) (va_up rq n vq) nw bf db sg wt ne dn) := hD
            refine lv_aload_n hx hb dX3_rule_105 rfl (lv_at hl 0 rfl) ?_
            refine hx_wrv (va_runV (As := []) (rest := []) ⟨hx, hb, hml, hown, hts⟩ (c_X3_findNeeds l dC dI b cB (n + 1) (va_up hd n vh) (va_up fm n vf) (va_up rp n vp) (va_up rq n vq) nw bf db sg wt ne dn (by first | exact ruOk_add hy_0 hy_1 hy_2 | exact ruOk_pred (ruOk_add hy_0 hy_1 hy_2)) H.size) (cwV 0 hts gX3_rule_X3_findNeeds rfl rfl rfl (by decide +kernel) ⟨Nat.le_of_ble_eq_true rfl, Nat.le_of_ble_eq_true rfl⟩) (wr_V nstW_ok hP hK hN hD 0 rfl rfl _) rfl rfl hl.1 rfl (lv_room (Nat.le_of_ble_eq_true rfl)) dX3_rule_106 ⟨Nat.zero_le _, Nat.zero_le _⟩) hD hS hA (fun H locs hP hD hS => ?_)
            have hP : va_P (dC, dI) vwCl (mdW b cB ((n + 1)) ((va_up hd n vh)) ((va_up fm n vf)) ((va_up rp n vp)) ((va_up rq n vq)) nw bf db sg wt (neW (n + 1) (va_up hd n vh) (va_up fm n vf) (va_up rp n vp) (va_up rq n vq) ne) dn) H := hP
            have hD : va_D A (mdW b cB ((n + 1)) ((va_up hd n vh)) ((va_up fm n vf)) ((va_up rp n vp)) ((va_up rq n vq)) nw bf db sg wt (neW (n + 1) (va_up hd n vh) (va_up fm n vf) (va_up rp n vp) (va_up rq n vq) ne) dn) := hD
            refine lv_aload_n hx hb dX3_rule_109 rfl (lv_at hl 0 rfl) ?_
            refine hx_read (va_runV (As := []) (rest := []) ⟨hx, hb, hml, hown, hts⟩ (c_X3_cyclic l dC dI b cB ((n + 1)) ((va_up hd n vh)) ((va_up fm n vf)) ((va_up rp n vp)) ((va_up rq n vq)) nw bf db sg wt (neW (n + 1) (va_up hd n vh) (va_up fm n vf) (va_up rp n vp) (va_up rq n vq) ne) dn (ruOk_add hy_0 hy_1 hy_2)) (cwV 0 hts gX3_rule_X3_cyclic rfl rfl rfl (by decide +kernel) ⟨Nat.le_of_ble_eq_true rfl, Nat.le_of_ble_eq_true rfl⟩) (rd_V nstW_ok hP hK hN 0 rfl rfl _) rfl rfl hl.1 rfl (lv_room (Nat.le_of_ble_eq_true rfl)) dX3_rule_110 ⟨Nat.zero_le _, Nat.zero_le _⟩) ?_
            refine hx_ifB (tgt := 133) hx hb dX3_rule_113 (by decide) (fun c_6 => ?_) (fun c_6 => ?_)
            · refine lv_aload_n hx hb dX3_rule_133 rfl (lv_at hl 0 rfl) ?_
              refine hx_wrv (va_runV (As := []) (rest := []) ⟨hx, hb, hml, hown, hts⟩ (c_X3_anew l dC dI b cB ((n + 1)) ((va_up hd n vh)) ((va_up fm n vf)) ((va_up rp n vp)) ((va_up rq n vq)) nw bf db sg wt (neW (n + 1) (va_up hd n vh) (va_up fm n vf) (va_up rp n vp) (va_up rq n vq) ne) dn (ruOk_add hy_0 hy_1 hy_2) H.size) (cwV 0 hts gX3_rule_X3_anew rfl rfl rfl (by decide +kernel) ⟨Nat.le_of_ble_eq_true rfl, Nat.le_of_ble_eq_true rfl⟩) (wr_V nstW_ok hP hK hN hD 0 rfl rfl _) rfl rfl hl.1 rfl (lv_room (Nat.le_of_ble_eq_true rfl)) dX3_rule_134 ⟨Nat.zero_le _, Nat.zero_le _⟩) hD hS hA (fun H locs hP hD hS => ?_)
              have hP : va_P (dC, dI) vwCl (mdW b cB (((n + 1))) (((va_up hd n vh))) (((va_up fm n vf))) (((va_up rp n vp))) (((va_up rq n vq))) (maW ((n + 1)) ((va_up hd n vh)) ((va_up fm n vf)) ((va_up rp n vp)) ((va_up rq n vq)) (neW (n + 1) (va_up hd n vh) (va_up fm n vf) (va_up rp n vp) (va_up rq n vq) ne) nw dn) (cpF (maW ((n + 1)) ((va_up hd n vh)) ((va_up fm n vf)) ((va_up rp n vp)) ((va_up rq n vq)) (neW (n + 1) (va_up hd n vh) (va_up fm n vf) (va_up rp n vp) (va_up rq n vq) ne) nw dn) 7 0 bf) (zeF 7 0 db) sg wt ((neW (n + 1) (va_up hd n vh) (va_up fm n vf) (va_up rp n vp) (va_up rq n vq) ne)) (maD ((n + 1)) ((va_up hd n vh)) ((va_up fm n vf)) ((va_up rp n vp)) ((va_up rq n vq)) (neW (n + 1) (va_up hd n vh) (va_up fm n vf) (va_up rp n vp) (va_up rq n vq) ne) nw dn)) H := hP
              have hD : va_D A (mdW b cB (((n + 1))) (((va_up hd n vh))) (((va_up fm n vf))) (((va_up rp n vp))) (((va_up rq n vq))) (maW ((n + 1)) ((va_up hd n vh)) ((va_up fm n vf)) ((va_up rp n vp)) ((va_up rq n vq)) (neW (n + 1) (va_up hd n vh) (va_up fm n vf) (va_up rp n vp) (va_up rq n vq) ne) nw dn) (cpF (maW ((n + 1)) ((va_up hd n vh)) ((va_up fm n vf)) ((va_up rp n vp)) ((va_up rq n vq)) (neW (n + 1) (va_up hd n vh) (va_up fm n vf) (va_up rp n vp) (va_up rq n vq) ne) nw dn) 7 0 bf) (zeF 7 0 db) sg wt ((neW (n + 1) (va_up hd n vh) (va_up fm n vf) (va_up rp n vp) (va_up rq n vq) ne)) (maD ((n + 1)) ((va_up hd n vh)) ((va_up fm n vf)) ((va_up rp n vp)) ((va_up rq n vq)) (neW (n + 1) (va_up hd n vh) (va_up fm n vf) (va_up rp n vp) (va_up rq n vq) ne) nw dn)) := hD
              refine lv_aload_n hx hb dX3_rule_137 rfl (lv_at hl 0 rfl) ?_
              refine va_get (D := (dC, dI)) (ci := 3) (v := .int (nI (((n + 1))))) (C := RX3) (T := TX3) (N := 12) hx hb hts in_X3 hown hK hP 0 rfl rfl 0 (by decide) lf_44 (fun _ h9 => h9) rfl dX3_rule_138 ?_
              refine lv_iconst (v := nI 1) hx hb dX3_rule_141 (by decide) ?_
              refine hx_isub (by omega) hx hb dX3_rule_142 ?_
              have e9 : mdW b cB (((n + 1))) (((va_up hd n vh))) (((va_up fm n vf))) (((va_up rp n vp))) (((va_up rq n vq))) (maW ((n + 1)) ((va_up hd n vh)) ((va_up fm n vf)) ((va_up rp n vp)) ((va_up rq n vq)) (neW (n + 1) (va_up hd n vh) (va_up fm n vf) (va_up rp n vp) (va_up rq n vq) ne) nw dn) (cpF (maW ((n + 1)) ((va_up hd n vh)) ((va_up fm n vf)) ((va_up rp n vp)) ((va_up rq n vq)) (neW (n + 1) (va_up hd n vh) (va_up fm n vf) (va_up rp n vp) (va_up rq n vq) ne) nw dn) 7 0 bf) (zeF 7 0 db) sg wt ((neW (n + 1) (va_up hd n vh) (va_up fm n vf) (va_up rp n vp) (va_up rq n vq) ne)) (maD ((n + 1)) ((va_up hd n vh)) ((va_up fm n vf)) ((va_up rp n vp)) ((va_up rq n vq)) (neW (n + 1) (va_up hd n vh) (va_up fm n vf) (va_up rp n vp) (va_up rq n vq) ne) nw dn) = mdW b cB (n + 1) (va_up hd n vh) (va_up fm n vf) (va_up rp n vp) (va_up rq n vq) (maW (n + 1) (va_up hd n vh) (va_up fm n vf) (va_up rp n vp) (va_up rq n vq) (neW (n + 1) (va_up hd n vh) (va_up fm n vf) (va_up rp n vp) (va_up rq n vq) ne) nw dn) (cpF (maW (n + 1) (va_up hd n vh) (va_up fm n vf) (va_up rp n vp) (va_up rq n vq) (neW (n + 1) (va_up hd n vh) (va_up fm n vf) (va_up rp n vp) (va_up rq n vq) ne) nw dn) 7 0 bf) (zeF 7 0 db) sg wt (neW (n + 1) (va_up hd n vh) (va_up fm n vf) (va_up rp n vp) (va_up rq n vq) ne) (maD (n + 1) (va_up hd n vh) (va_up fm n vf) (va_up rp n vp) (va_up rq n vq) (neW (n + 1) (va_up hd n vh) (va_up fm n vf) (va_up rp n vp) (va_up rq n vq) ne) nw dn) := rfl
              rw [e9] at hP hD
              subst hAe
              exact W.iret (v := nI ((((n + 1))) - 1)) hx hb hr (fun t ht hW => ⟨⟨_, (), rfl, rfl, by rw [ht]; exact hP, va_K.moved hW.alike hK, hD⟩, hS.F ht⟩) hS.2.2 dX3_rule_143
            · exact absurd (hy_3.symm.trans c_6) (by decide)
          · exact absurd c_5 (by omega)
        · exact absurd (kq.symm.trans c_4) (by decide)
set_option maxHeartbeats 4000000 in
set_option maxRecDepth 100000 in
theorem c_X3_undo_b (l : Launch) (dC : Nat → ClassId) (dI : Nat → Nat → Nat) (b : Nat → Nat) (cB : Nat → ClassId) (n : Nat) (hd fm rp rq : Nat → Nat) (nw bf db sg wt : Nat → Int32) (ne dn : Nat → Bool) (hy_0 : n = 0) : WrI l yX3_undo wsX3_undo ({ frames := 7, cells := 0, slots := 0, locals := 164 }) (dC, dI) vwCl (mdW b cB n hd fm rp rq nw bf db sg wt ne dn) (mdW b cB n hd fm rp rq nw bf db sg wt ne dn) (mdT cB) nstW [.ref (b 0)] ((-1)) := by
  intro sz
  refine Met.ofW (cc := cX3_undo) (maxL := 1) (ret := (some .int)) (by decide) rfl ?_
  intro p e s m args below meth c s₁ B hml hv
  obtain ⟨rfl, hsz, ⟨hP, hK, hN⟩, hD0⟩ := hv
  subst hsz
  have hx := B.exec
  have hb := B.bytes
  have hr := B.returns
  have hts := atoms_spec (ws := wsX3_undo) B.pre
  have hown : s.vm.findClass RX3 = some m.cls := findClass_of_methodNamed B.named
  have hlocks := B.notSynchronized
  obtain ⟨A, hAe⟩ : ∃ A, A = va_A (mdW b cB n hd fm rp rq nw bf db sg wt ne dn) s.heap.size := ⟨_, rfl⟩
  have hD : va_D A (mdW b cB n hd fm rp rq nw bf db sg wt ne dn) := by rw [hAe]; exact hD0.self (sz := s.heap.size)
  have hA : ∀ q : Nat, s.heap.size ≤ q → A q := fun q h => by rw [hAe]; exact Or.inr h
  have hS : va_S A s.heap s.heap [] := va_S.rf
  have hP : va_P (dC, dI) vwCl (mdW b cB n hd fm rp rq nw bf db sg wt ne dn) s.heap := hP
  have lf_44 := hts (.fieldLink RX3 44 "ViewKeeperModel" "count" "I") (by decide +kernel)
  have in_X3 : ∀ w ∈ u_ws RX3 TX3 12, w ∈ wsX3_undo := by decide +kernel
  have hl := lv_entry ([.ref (b 0)]) (n := 1) (Nat.le_of_ble_eq_true rfl)
  rw [lg_entry_eq]
  generalize (lg_sl ([.ref (b 0)]) ++ List.replicate (1 - (lg_sl ([.ref (b 0)])).length) Slot.unset).toArray = ls at hl ⊢
  have hl : lv_has ls 1 [(0, .ref (b 0))] := hl
  refine lv_aload_n hx hb dX3_undo_0 rfl (lv_at hl 0 rfl) ?_
  refine va_get (D := (dC, dI)) (ci := 3) (v := .int (nI n)) (C := RX3) (T := TX3) (N := 12) hx hb hts in_X3 hown hK hP 0 rfl rfl 0 (by decide) lf_44 (fun _ h9 => h9) rfl dX3_undo_1 ?_
  refine hx_ifn0 (tgt := 9) hx hb dX3_undo_4 (by decide) (by omega) (fun c_1 => ?_) (fun c_1 => ?_)
  · exact absurd c_1 (by omega)
  · refine lv_iconst (v := (-1)) hx hb dX3_undo_7 (by decide) ?_
    have e9 : mdW b cB n hd fm rp rq nw bf db sg wt ne dn = mdW b cB n hd fm rp rq nw bf db sg wt ne dn := rfl
    rw [e9] at hP hD
    subst hAe
    exact W.iret (v := (-1)) hx hb hr (fun t ht hW => ⟨⟨_, (), rfl, rfl, by rw [ht]; exact hP, va_K.moved hW.alike hK, hD⟩, hS.F ht⟩) hS.2.2 dX3_undo_8
set_option maxHeartbeats 4000000 in
set_option maxRecDepth 100000 in
theorem c_X3_undo_g (l : Launch) (dC : Nat → ClassId) (dI : Nat → Nat → Nat) (b : Nat → Nat) (cB : Nat → ClassId) (n : Nat) (hd fm rp rq : Nat → Nat) (nw bf db sg wt : Nat → Int32) (ne dn : Nat → Bool) (hy_0 : ruOk n hd fm rp rq) (hy_1 : 1 ≤ n) : WrI l yX3_undo wsX3_undo ({ frames := 7, cells := 0, slots := 0, locals := 164 }) (dC, dI) vwCl (mdW b cB n hd fm rp rq nw bf db sg wt ne dn) (mdW b cB (n - 1) hd fm rp rq (maW (n - 1) hd fm rp rq (neW (n - 1) hd fm rp rq ne) nw dn) (cpF (maW (n - 1) hd fm rp rq (neW (n - 1) hd fm rp rq ne) nw dn) 7 0 bf) (zeF 7 0 db) sg wt (neW (n - 1) hd fm rp rq ne) (maD (n - 1) hd fm rp rq (neW (n - 1) hd fm rp rq ne) nw dn)) (mdT cB) nstW [.ref (b 0)] (nI (n - 1)) := by
  intro sz
  refine Met.ofW (cc := cX3_undo) (maxL := 1) (ret := (some .int)) (by decide) rfl ?_
  intro p e s m args below meth c s₁ B hml hv
  obtain ⟨rfl, hsz, ⟨hP, hK, hN⟩, hD0⟩ := hv
  subst hsz
  have hx := B.exec
  have hb := B.bytes
  have hr := B.returns
  have hts := atoms_spec (ws := wsX3_undo) B.pre
  have hown : s.vm.findClass RX3 = some m.cls := findClass_of_methodNamed B.named
  have hlocks := B.notSynchronized
  obtain ⟨A, hAe⟩ : ∃ A, A = va_A (mdW b cB n hd fm rp rq nw bf db sg wt ne dn) s.heap.size := ⟨_, rfl⟩
  have hD : va_D A (mdW b cB n hd fm rp rq nw bf db sg wt ne dn) := by rw [hAe]; exact hD0.self (sz := s.heap.size)
  have hA : ∀ q : Nat, s.heap.size ≤ q → A q := fun q h => by rw [hAe]; exact Or.inr h
  have hS : va_S A s.heap s.heap [] := va_S.rf
  have hP : va_P (dC, dI) vwCl (mdW b cB n hd fm rp rq nw bf db sg wt ne dn) s.heap := hP
  have hn12 := hy_0.1
  have lf_44 := hts (.fieldLink RX3 44 "ViewKeeperModel" "count" "I") (by decide +kernel)
  have in_X3 : ∀ w ∈ u_ws RX3 TX3 12, w ∈ wsX3_undo := by decide +kernel
  have hl := lv_entry ([.ref (b 0)]) (n := 1) (Nat.le_of_ble_eq_true rfl)
  rw [lg_entry_eq]
  generalize (lg_sl ([.ref (b 0)]) ++ List.replicate (1 - (lg_sl ([.ref (b 0)])).length) Slot.unset).toArray = ls at hl ⊢
  have hl : lv_has ls 1 [(0, .ref (b 0))] := hl
  refine lv_aload_n hx hb dX3_undo_0 rfl (lv_at hl 0 rfl) ?_
  refine va_get (D := (dC, dI)) (ci := 3) (v := .int (nI n)) (C := RX3) (T := TX3) (N := 12) hx hb hts in_X3 hown hK hP 0 rfl rfl 0 (by decide) lf_44 (fun _ h9 => h9) rfl dX3_undo_1 ?_
  refine hx_ifn0 (tgt := 9) hx hb dX3_undo_4 (by decide) (by omega) (fun c_1 => ?_) (fun c_1 => ?_)
  · refine lv_aload_n hx hb dX3_undo_9 rfl (lv_at hl 0 rfl) ?_
    refine lv_dup hx hb dX3_undo_10 rfl ?_
    refine va_get (D := (dC, dI)) (ci := 3) (v := .int (nI n)) (C := RX3) (T := TX3) (N := 12) hx hb hts in_X3 hown hK hP 0 rfl rfl 0 (by decide) lf_44 (fun _ h9 => h9) rfl dX3_undo_11 ?_
    refine lv_iconst (v := nI 1) hx hb dX3_undo_14 (by decide) ?_
    refine hx_isub (by omega) hx hb dX3_undo_15 ?_
    refine va_put (D := (dC, dI)) (ci := 3) (v := .int (nI (n - 1))) (ty := .int) (C := RX3) (T := TX3) (N := 12) hx hb hts in_X3 tyX3 tyX3_ok nmX3 hown hK hP hD hS 0 rfl rfl 0 (by decide) lf_44 (fun _ h9 => h9) rfl (by decide +kernel) rfl rfl (Nat.le_of_ble_eq_true rfl) dX3_undo_16 (fun H locs hP hD hS => ?_)
    have hP : va_P (dC, dI) vwCl (mdW b cB (n - 1) hd fm rp rq nw bf db sg wt ne dn) H := hP
    have hD : va_D A (mdW b cB (n - 1) hd fm rp rq nw bf db sg wt ne dn) := hD
    refine lv_aload_n hx hb dX3_undo_19 rfl (lv_at hl 0 rfl) ?_
    refine hx_wrv (va_runV (As := []) (rest := []) ⟨hx, hb, hml, hown, hts⟩ (c_X3_findNeeds l dC dI b cB (n - 1) hd fm rp rq nw bf db sg wt ne dn (ruOk_pred hy_0) H.size) (cwV 0 hts gX3_undo_X3_findNeeds rfl rfl rfl (by decide +kernel) ⟨Nat.le_of_ble_eq_true rfl, Nat.le_of_ble_eq_true rfl⟩) (wr_V nstW_ok hP hK hN hD 0 rfl rfl _) rfl rfl hl.1 rfl (lv_room (Nat.le_of_ble_eq_true rfl)) dX3_undo_20 ⟨Nat.zero_le _, Nat.zero_le _⟩) hD hS hA (fun H locs hP hD hS => ?_)
    have hP : va_P (dC, dI) vwCl (mdW b cB ((n - 1)) hd fm rp rq nw bf db sg wt (neW (n - 1) hd fm rp rq ne) dn) H := hP
    have hD : va_D A (mdW b cB ((n - 1)) hd fm rp rq nw bf db sg wt (neW (n - 1) hd fm rp rq ne) dn) := hD
    refine lv_aload_n hx hb dX3_undo_23 rfl (lv_at hl 0 rfl) ?_
    refine hx_wrv (va_runV (As := []) (rest := []) ⟨hx, hb, hml, hown, hts⟩ (c_X3_anew l dC dI b cB ((n - 1)) hd fm rp rq nw bf db sg wt (neW (n - 1) hd fm rp rq ne) dn (ruOk_pred hy_0) H.size) (cwV 0 hts gX3_undo_X3_anew rfl rfl rfl (by decide +kernel) ⟨Nat.le_of_ble_eq_true rfl, Nat.le_of_ble_eq_true rfl⟩) (wr_V nstW_ok hP hK hN hD 0 rfl rfl _) rfl rfl hl.1 rfl (lv_room (Nat.le_of_ble_eq_true rfl)) dX3_undo_24 ⟨Nat.zero_le _, Nat.zero_le _⟩) hD hS hA (fun H locs hP hD hS => ?_)
    have hP : va_P (dC, dI) vwCl (mdW b cB (((n - 1))) hd fm rp rq (maW ((n - 1)) hd fm rp rq (neW (n - 1) hd fm rp rq ne) nw dn) (cpF (maW ((n - 1)) hd fm rp rq (neW (n - 1) hd fm rp rq ne) nw dn) 7 0 bf) (zeF 7 0 db) sg wt ((neW (n - 1) hd fm rp rq ne)) (maD ((n - 1)) hd fm rp rq (neW (n - 1) hd fm rp rq ne) nw dn)) H := hP
    have hD : va_D A (mdW b cB (((n - 1))) hd fm rp rq (maW ((n - 1)) hd fm rp rq (neW (n - 1) hd fm rp rq ne) nw dn) (cpF (maW ((n - 1)) hd fm rp rq (neW (n - 1) hd fm rp rq ne) nw dn) 7 0 bf) (zeF 7 0 db) sg wt ((neW (n - 1) hd fm rp rq ne)) (maD ((n - 1)) hd fm rp rq (neW (n - 1) hd fm rp rq ne) nw dn)) := hD
    refine lv_aload_n hx hb dX3_undo_27 rfl (lv_at hl 0 rfl) ?_
    refine va_get (D := (dC, dI)) (ci := 3) (v := .int (nI (((n - 1))))) (C := RX3) (T := TX3) (N := 12) hx hb hts in_X3 hown hK hP 0 rfl rfl 0 (by decide) lf_44 (fun _ h9 => h9) rfl dX3_undo_28 ?_
    have e9 : mdW b cB (((n - 1))) hd fm rp rq (maW ((n - 1)) hd fm rp rq (neW (n - 1) hd fm rp rq ne) nw dn) (cpF (maW ((n - 1)) hd fm rp rq (neW (n - 1) hd fm rp rq ne) nw dn) 7 0 bf) (zeF 7 0 db) sg wt ((neW (n - 1) hd fm rp rq ne)) (maD ((n - 1)) hd fm rp rq (neW (n - 1) hd fm rp rq ne) nw dn) = mdW b cB (n - 1) hd fm rp rq (maW (n - 1) hd fm rp rq (neW (n - 1) hd fm rp rq ne) nw dn) (cpF (maW (n - 1) hd fm rp rq (neW (n - 1) hd fm rp rq ne) nw dn) 7 0 bf) (zeF 7 0 db) sg wt (neW (n - 1) hd fm rp rq ne) (maD (n - 1) hd fm rp rq (neW (n - 1) hd fm rp rq ne) nw dn) := rfl
    rw [e9] at hP hD
    subst hAe
    exact W.iret (v := nI (((n - 1)))) hx hb hr (fun t ht hW => ⟨⟨_, (), rfl, rfl, by rw [ht]; exact hP, va_K.moved hW.alike hK, hD⟩, hS.F ht⟩) hS.2.2 dX3_undo_31
  · exact absurd c_1 (by omega)
set_option maxHeartbeats 4000000 in
set_option maxRecDepth 100000 in
theorem c_X3_stage_b (l : Launch) (dC : Nat → ClassId) (dI : Nat → Nat → Nat) (b : Nat → Nat) (cB : Nat → ClassId) (n : Nat) (hd fm rp rq : Nat → Nat) (nw bf db sg wt : Nat → Int32) (ne dn : Nat → Bool) (r0 x0 y0 : Int32) (bb : Bool) (hy_0 : (wiM r0 0 1 && (wiM x0 0 4 && wiM y0 0 4)) = false) : WrI l yX3_stage wsX3_stage ({ frames := 1, cells := 0, slots := 0, locals := 22 }) (dC, dI) vwCl (mdW b cB n hd fm rp rq nw bf db sg wt ne dn) (mdW b cB n hd fm rp rq nw bf db sg wt ne dn) (mdT cB) nstW [.ref (b 0), .int (r0), .int (x0), .int (y0), .int (bI bb)] (bI false) := by
  intro sz
  refine Met.ofW (cc := cX3_stage) (maxL := 5) (ret := (some .boolean)) (by decide) rfl ?_
  intro p e s m args below meth c s₁ B hml hv
  obtain ⟨rfl, hsz, ⟨hP, hK, hN⟩, hD0⟩ := hv
  subst hsz
  have hx := B.exec
  have hb := B.bytes
  have hr := B.returns
  have hts := atoms_spec (ws := wsX3_stage) B.pre
  have hown : s.vm.findClass RX3 = some m.cls := findClass_of_methodNamed B.named
  have hlocks := B.notSynchronized
  obtain ⟨A, hAe⟩ : ∃ A, A = va_A (mdW b cB n hd fm rp rq nw bf db sg wt ne dn) s.heap.size := ⟨_, rfl⟩
  have hD : va_D A (mdW b cB n hd fm rp rq nw bf db sg wt ne dn) := by rw [hAe]; exact hD0.self (sz := s.heap.size)
  have hA : ∀ q : Nat, s.heap.size ≤ q → A q := fun q h => by rw [hAe]; exact Or.inr h
  have hS : va_S A s.heap s.heap [] := va_S.rf
  have hP : va_P (dC, dI) vwCl (mdW b cB n hd fm rp rq nw bf db sg wt ne dn) s.heap := hP
  have lf_31 := hts (.fieldLink RX3 31 "ViewKeeperModel" "staged" "[I") (by decide +kernel)
  have in_X3 : ∀ w ∈ u_ws RX3 TX3 12, w ∈ wsX3_stage := by decide +kernel
  have lf_34 := hts (.fieldLink RX3 34 "ViewKeeperModel" "wanted" "[I") (by decide +kernel)
  have hl := lv_entry ([.ref (b 0), .int (r0), .int (x0), .int (y0), .int (bI bb)]) (n := 5) (Nat.le_of_ble_eq_true rfl)
  rw [lg_entry_eq]
  generalize (lg_sl ([.ref (b 0), .int (r0), .int (x0), .int (y0), .int (bI bb)]) ++ List.replicate (5 - (lg_sl ([.ref (b 0), .int (r0), .int (x0), .int (y0), .int (bI bb)])).length) Slot.unset).toArray = ls at hl ⊢
  have hl : lv_has ls 5 [(0, .ref (b 0)), (1, .int (r0)), (2, .int (x0)), (3, .int (y0)), (4, .int (bI bb))] := hl
  refine lv_iload_n hx hb dX3_stage_0 rfl (lv_at hl 1 rfl) ?_
  refine lv_iconst (v := nI 0) hx hb dX3_stage_1 (by decide) ?_
  refine lv_iconst (v := nI 1) hx hb dX3_stage_2 (by decide) ?_
  refine hx_read (va_runS (As := [.int (r0), .int (nI 0), .int (nI 1)]) (rest := []) ⟨hx, hb, hml, hown, hts⟩ (c_X3_within l r0 0 1) (va_cwS 3 hts gX3_stage_X3_within rfl rfl rfl (by decide +kernel) ⟨Nat.le_of_ble_eq_true rfl, Nat.le_of_ble_eq_true rfl⟩) (nu_S _) rfl rfl hl.1 rfl (lv_room (Nat.le_of_ble_eq_true rfl)) dX3_stage_3 ⟨Nat.zero_le _, Nat.zero_le _⟩) ?_
  refine hx_ifB (tgt := 27) hx hb dX3_stage_6 (by decide) (fun c_1 => ?_) (fun c_1 => ?_)
  · refine lv_iconst (v := nI 0) hx hb dX3_stage_27 (by decide) ?_
    have e9 : mdW b cB n hd fm rp rq nw bf db sg wt ne dn = mdW b cB n hd fm rp rq nw bf db sg wt ne dn := rfl
    rw [e9] at hP hD
    subst hAe
    exact W.zret (v := nI 0) hx hb hr rfl (fun t ht hW => ⟨⟨_, (), rfl, rfl, by rw [ht]; exact hP, va_K.moved hW.alike hK, hD⟩, hS.F ht⟩) hS.2.2 dX3_stage_28
  · refine lv_iload_n hx hb dX3_stage_9 rfl (lv_at hl 2 rfl) ?_
    refine lv_iconst (v := nI 0) hx hb dX3_stage_10 (by decide) ?_
    refine lv_iconst (v := nI 4) hx hb dX3_stage_11 (by decide) ?_
    refine hx_read (va_runS (As := [.int (x0), .int (nI 0), .int (nI 4)]) (rest := []) ⟨hx, hb, hml, hown, hts⟩ (c_X3_within l x0 0 4) (va_cwS 3 hts gX3_stage_X3_within rfl rfl rfl (by decide +kernel) ⟨Nat.le_of_ble_eq_true rfl, Nat.le_of_ble_eq_true rfl⟩) (nu_S _) rfl rfl hl.1 rfl (lv_room (Nat.le_of_ble_eq_true rfl)) dX3_stage_12 ⟨Nat.zero_le _, Nat.zero_le _⟩) ?_
    refine hx_ifB (tgt := 27) hx hb dX3_stage_15 (by decide) (fun c_2 => ?_) (fun c_2 => ?_)
    · refine lv_iconst (v := nI 0) hx hb dX3_stage_27 (by decide) ?_
      have e9 : mdW b cB n hd fm rp rq nw bf db sg wt ne dn = mdW b cB n hd fm rp rq nw bf db sg wt ne dn := rfl
      rw [e9] at hP hD
      subst hAe
      exact W.zret (v := nI 0) hx hb hr rfl (fun t ht hW => ⟨⟨_, (), rfl, rfl, by rw [ht]; exact hP, va_K.moved hW.alike hK, hD⟩, hS.F ht⟩) hS.2.2 dX3_stage_28
    · refine lv_iload_n hx hb dX3_stage_18 rfl (lv_at hl 3 rfl) ?_
      refine lv_iconst (v := nI 0) hx hb dX3_stage_19 (by decide) ?_
      refine lv_iconst (v := nI 4) hx hb dX3_stage_20 (by decide) ?_
      refine hx_read (va_runS (As := [.int (y0), .int (nI 0), .int (nI 4)]) (rest := []) ⟨hx, hb, hml, hown, hts⟩ (c_X3_within l y0 0 4) (va_cwS 3 hts gX3_stage_X3_within rfl rfl rfl (by decide +kernel) ⟨Nat.le_of_ble_eq_true rfl, Nat.le_of_ble_eq_true rfl⟩) (nu_S _) rfl rfl hl.1 rfl (lv_room (Nat.le_of_ble_eq_true rfl)) dX3_stage_21 ⟨Nat.zero_le _, Nat.zero_le _⟩) ?_
      refine hx_ifnB (tgt := 29) hx hb dX3_stage_24 (by decide) (fun c_3 => ?_) (fun c_3 => ?_)
      · exact absurd hy_0 (by simp [c_1, c_2, c_3])
      · refine lv_iconst (v := nI 0) hx hb dX3_stage_27 (by decide) ?_
        have e9 : mdW b cB n hd fm rp rq nw bf db sg wt ne dn = mdW b cB n hd fm rp rq nw bf db sg wt ne dn := rfl
        rw [e9] at hP hD
        subst hAe
        exact W.zret (v := nI 0) hx hb hr rfl (fun t ht hW => ⟨⟨_, (), rfl, rfl, by rw [ht]; exact hP, va_K.moved hW.alike hK, hD⟩, hS.F ht⟩) hS.2.2 dX3_stage_28
set_option maxHeartbeats 4000000 in
set_option maxRecDepth 100000 in
theorem c_X3_stage_g (l : Launch) (dC : Nat → ClassId) (dI : Nat → Nat → Nat) (b : Nat → Nat) (cB : Nat → ClassId) (n : Nat) (hd fm rp rq : Nat → Nat) (nw bf db sg wt : Nat → Int32) (ne dn : Nat → Bool) (r x y : Nat) (bb : Bool) (hy_0 : r < 2) (hy_1 : x < 5) (hy_2 : y < 5) : WrI l yX3_stage wsX3_stage ({ frames := 1, cells := 0, slots := 0, locals := 22 }) (dC, dI) vwCl (mdW b cB n hd fm rp rq nw bf db sg wt ne dn) (mdW b cB n hd fm rp rq nw bf db (upd sg r (sg r ||| bm (5 * x + y))) (upd wt r (if bb = true then wt r ||| bm (5 * x + y) else wt r &&& (bm (5 * x + y) ^^^ (-1)))) ne dn) (mdT cB) nstW [.ref (b 0), .int (nI r), .int (nI x), .int (nI y), .int (bI bb)] (bI true) := by
  intro sz
  refine Met.ofW (cc := cX3_stage) (maxL := 5) (ret := (some .boolean)) (by decide) rfl ?_
  intro p e s m args below meth c s₁ B hml hv
  obtain ⟨rfl, hsz, ⟨hP, hK, hN⟩, hD0⟩ := hv
  subst hsz
  have hx := B.exec
  have hb := B.bytes
  have hr := B.returns
  have hts := atoms_spec (ws := wsX3_stage) B.pre
  have hown : s.vm.findClass RX3 = some m.cls := findClass_of_methodNamed B.named
  have hlocks := B.notSynchronized
  obtain ⟨A, hAe⟩ : ∃ A, A = va_A (mdW b cB n hd fm rp rq nw bf db sg wt ne dn) s.heap.size := ⟨_, rfl⟩
  have hD : va_D A (mdW b cB n hd fm rp rq nw bf db sg wt ne dn) := by rw [hAe]; exact hD0.self (sz := s.heap.size)
  have hA : ∀ q : Nat, s.heap.size ≤ q → A q := fun q h => by rw [hAe]; exact Or.inr h
  have hS : va_S A s.heap s.heap [] := va_S.rf
  have hP : va_P (dC, dI) vwCl (mdW b cB n hd fm rp rq nw bf db sg wt ne dn) s.heap := hP
  have kr : wiM (nI r) 0 1 = true := wiM_nI (by omega) (by omega) (by omega)
  have kx1 : wiM (nI x) 0 4 = true := wiM_nI (by omega) (by omega) (by omega)
  have ky : wiM (nI y) 0 4 = true := wiM_nI (by omega) (by omega) (by omega)
  have lf_31 := hts (.fieldLink RX3 31 "ViewKeeperModel" "staged" "[I") (by decide +kernel)
  have in_X3 : ∀ w ∈ u_ws RX3 TX3 12, w ∈ wsX3_stage := by decide +kernel
  have lf_34 := hts (.fieldLink RX3 34 "ViewKeeperModel" "wanted" "[I") (by decide +kernel)
  have hl := lv_entry ([.ref (b 0), .int (nI r), .int (nI x), .int (nI y), .int (bI bb)]) (n := 5) (Nat.le_of_ble_eq_true rfl)
  rw [lg_entry_eq]
  generalize (lg_sl ([.ref (b 0), .int (nI r), .int (nI x), .int (nI y), .int (bI bb)]) ++ List.replicate (5 - (lg_sl ([.ref (b 0), .int (nI r), .int (nI x), .int (nI y), .int (bI bb)])).length) Slot.unset).toArray = ls at hl ⊢
  have hl : lv_has ls 5 [(0, .ref (b 0)), (1, .int (nI r)), (2, .int (nI x)), (3, .int (nI y)), (4, .int (bI bb))] := hl
  refine lv_iload_n hx hb dX3_stage_0 rfl (lv_at hl 1 rfl) ?_
  refine lv_iconst (v := nI 0) hx hb dX3_stage_1 (by decide) ?_
  refine lv_iconst (v := nI 1) hx hb dX3_stage_2 (by decide) ?_
  refine hx_read (va_runS (As := [.int (nI r), .int (nI 0), .int (nI 1)]) (rest := []) ⟨hx, hb, hml, hown, hts⟩ (c_X3_within l (nI r) 0 1) (va_cwS 3 hts gX3_stage_X3_within rfl rfl rfl (by decide +kernel) ⟨Nat.le_of_ble_eq_true rfl, Nat.le_of_ble_eq_true rfl⟩) (nu_S _) rfl rfl hl.1 rfl (lv_room (Nat.le_of_ble_eq_true rfl)) dX3_stage_3 ⟨Nat.zero_le _, Nat.zero_le _⟩) ?_
  refine hx_ifB (tgt := 27) hx hb dX3_stage_6 (by decide) (fun c_1 => ?_) (fun c_1 => ?_)
  · exact absurd (kr.symm.trans c_1) (by decide)
  · refine lv_iload_n hx hb dX3_stage_9 rfl (lv_at hl 2 rfl) ?_
    refine lv_iconst (v := nI 0) hx hb dX3_stage_10 (by decide) ?_
    refine lv_iconst (v := nI 4) hx hb dX3_stage_11 (by decide) ?_
    refine hx_read (va_runS (As := [.int (nI x), .int (nI 0), .int (nI 4)]) (rest := []) ⟨hx, hb, hml, hown, hts⟩ (c_X3_within l (nI x) 0 4) (va_cwS 3 hts gX3_stage_X3_within rfl rfl rfl (by decide +kernel) ⟨Nat.le_of_ble_eq_true rfl, Nat.le_of_ble_eq_true rfl⟩) (nu_S _) rfl rfl hl.1 rfl (lv_room (Nat.le_of_ble_eq_true rfl)) dX3_stage_12 ⟨Nat.zero_le _, Nat.zero_le _⟩) ?_
    refine hx_ifB (tgt := 27) hx hb dX3_stage_15 (by decide) (fun c_2 => ?_) (fun c_2 => ?_)
    · exact absurd (kx1.symm.trans c_2) (by decide)
    · refine lv_iload_n hx hb dX3_stage_18 rfl (lv_at hl 3 rfl) ?_
      refine lv_iconst (v := nI 0) hx hb dX3_stage_19 (by decide) ?_
      refine lv_iconst (v := nI 4) hx hb dX3_stage_20 (by decide) ?_
      refine hx_read (va_runS (As := [.int (nI y), .int (nI 0), .int (nI 4)]) (rest := []) ⟨hx, hb, hml, hown, hts⟩ (c_X3_within l (nI y) 0 4) (va_cwS 3 hts gX3_stage_X3_within rfl rfl rfl (by decide +kernel) ⟨Nat.le_of_ble_eq_true rfl, Nat.le_of_ble_eq_true rfl⟩) (nu_S _) rfl rfl hl.1 rfl (lv_room (Nat.le_of_ble_eq_true rfl)) dX3_stage_21 ⟨Nat.zero_le _, Nat.zero_le _⟩) ?_
      refine hx_ifnB (tgt := 29) hx hb dX3_stage_24 (by decide) (fun c_3 => ?_) (fun c_3 => ?_)
      · refine lv_aload_n hx hb dX3_stage_29 rfl (lv_at hl 0 rfl) ?_
        refine va_get (D := (dC, dI)) (ci := 3) (v := .ref (b 8)) (C := RX3) (T := TX3) (N := 12) hx hb hts in_X3 hown hK hP 0 rfl rfl 8 (by decide) lf_31 (fun _ h9 => h9) rfl dX3_stage_30 ?_
        refine lv_iload_n hx hb dX3_stage_33 rfl (lv_at hl 1 rfl) ?_
        refine lv_aload_n hx hb dX3_stage_34 rfl (lv_at hl 0 rfl) ?_
        refine va_get (D := (dC, dI)) (ci := 3) (v := .ref (b 8)) (C := RX3) (T := TX3) (N := 12) hx hb hts in_X3 hown hK hP 0 rfl rfl 8 (by decide) lf_31 (fun _ h9 => h9) rfl dX3_stage_35 ?_
        refine lv_iload_n hx hb dX3_stage_38 rfl (lv_at hl 1 rfl) ?_
        refine hx_iald hx hb hK hP 8 7 rfl rfl (by omega) (by omega) dX3_stage_39 ?_
        refine lv_iload_n hx hb dX3_stage_40 rfl (lv_at hl 2 rfl) ?_
        refine lv_iload_n hx hb dX3_stage_41 rfl (lv_at hl 3 rfl) ?_
        refine hx_read (va_runS (As := [.int (nI x), .int (nI y)]) (rest := [.int (sg r), .int (nI r), .ref (b 8)]) ⟨hx, hb, hml, hown, hts⟩ (c_X3_bit l x y) (va_cwS 2 hts gX3_stage_X3_bit rfl rfl rfl (by decide +kernel) ⟨Nat.le_of_ble_eq_true rfl, Nat.le_of_ble_eq_true rfl⟩) (nu_S _) rfl rfl hl.1 rfl (lv_room (Nat.le_of_ble_eq_true rfl)) dX3_stage_42 ⟨Nat.zero_le _, Nat.zero_le _⟩) ?_
        refine lv_ior hx hb dX3_stage_45 ?_
        refine hx_iast hx hb hK hP hD hS 8 7 rfl rfl (by omega) (by omega) dX3_stage_46 (fun H locs hP hD hS => ?_)
        have hP : va_P (dC, dI) vwCl (mdW b cB n hd fm rp rq nw bf db (upd sg r ((sg r) ||| (bm (5 * x + y)))) wt ne dn) H := hP
        have hD : va_D A (mdW b cB n hd fm rp rq nw bf db (upd sg r ((sg r) ||| (bm (5 * x + y)))) wt ne dn) := hD
        refine lv_aload_n hx hb dX3_stage_47 rfl (lv_at hl 0 rfl) ?_
        refine va_get (D := (dC, dI)) (ci := 3) (v := .ref (b 9)) (C := RX3) (T := TX3) (N := 12) hx hb hts in_X3 hown hK hP 0 rfl rfl 9 (by decide) lf_34 (fun _ h9 => h9) rfl dX3_stage_48 ?_
        refine lv_iload_n hx hb dX3_stage_51 rfl (lv_at hl 1 rfl) ?_
        refine lv_iload hx hb dX3_stage_52 (lv_at hl 4 rfl) ?_
        refine hx_ifB (tgt := 72) hx hb dX3_stage_54 (by decide) (fun c_4 => ?_) (fun c_4 => ?_)
        · refine lv_aload_n hx hb dX3_stage_72 rfl (lv_at hl 0 rfl) ?_
          refine va_get (D := (dC, dI)) (ci := 3) (v := .ref (b 9)) (C := RX3) (T := TX3) (N := 12) hx hb hts in_X3 hown hK hP 0 rfl rfl 9 (by decide) lf_34 (fun _ h9 => h9) rfl dX3_stage_73 ?_
          refine lv_iload_n hx hb dX3_stage_76 rfl (lv_at hl 1 rfl) ?_
          refine hx_iald hx hb hK hP 9 8 rfl rfl (by omega) (by omega) dX3_stage_77 ?_
          refine lv_iload_n hx hb dX3_stage_78 rfl (lv_at hl 2 rfl) ?_
          refine lv_iload_n hx hb dX3_stage_79 rfl (lv_at hl 3 rfl) ?_
          refine hx_read (va_runS (As := [.int (nI x), .int (nI y)]) (rest := [.int (wt r), .int (nI r), .ref (b 9)]) ⟨hx, hb, hml, hown, hts⟩ (c_X3_bit l x y) (va_cwS 2 hts gX3_stage_X3_bit rfl rfl rfl (by decide +kernel) ⟨Nat.le_of_ble_eq_true rfl, Nat.le_of_ble_eq_true rfl⟩) (nu_S _) rfl rfl hl.1 rfl (lv_room (Nat.le_of_ble_eq_true rfl)) dX3_stage_80 ⟨Nat.zero_le _, Nat.zero_le _⟩) ?_
          refine lv_iconst (v := (-1)) hx hb dX3_stage_83 (by decide) ?_
          refine lv_ixor hx hb dX3_stage_84 ?_
          refine lv_iand hx hb dX3_stage_85 ?_
          refine hx_iast hx hb hK hP hD hS 9 8 rfl rfl (by omega) (by omega) dX3_stage_86 (fun H locs hP hD hS => ?_)
          have hP : va_P (dC, dI) vwCl (mdW b cB n hd fm rp rq nw bf db (upd sg r ((sg r) ||| (bm (5 * x + y)))) (upd wt r ((wt r) &&& ((bm (5 * x + y)) ^^^ ((-1))))) ne dn) H := hP
          have hD : va_D A (mdW b cB n hd fm rp rq nw bf db (upd sg r ((sg r) ||| (bm (5 * x + y)))) (upd wt r ((wt r) &&& ((bm (5 * x + y)) ^^^ ((-1))))) ne dn) := hD
          refine lv_iconst (v := nI 1) hx hb dX3_stage_87 (by decide) ?_
          have e9 : mdW b cB n hd fm rp rq nw bf db (upd sg r ((sg r) ||| (bm (5 * x + y)))) (upd wt r ((wt r) &&& ((bm (5 * x + y)) ^^^ ((-1))))) ne dn = mdW b cB n hd fm rp rq nw bf db (upd sg r (sg r ||| bm (5 * x + y))) (upd wt r (if bb = true then wt r ||| bm (5 * x + y) else wt r &&& (bm (5 * x + y) ^^^ (-1)))) ne dn := by simp only [c_1, c_2, c_3, c_4, ↓reduceIte, decide_true, decide_false, Bool.not_true, Bool.not_false, Bool.or_true, Bool.true_or, Bool.or_false, Bool.false_or, Bool.and_true, Bool.true_and, Bool.and_false, Bool.false_and, and_true, true_and, and_false, false_and, and_self, or_self, or_true, true_or, or_false, false_or, Bool.false_eq_true, Bool.true_eq_false, not_true_eq_false, not_false_eq_true, Bool.or_self, decide_eq_true_eq]
          rw [e9] at hP hD
          subst hAe
          exact W.zret (v := nI 1) hx hb hr rfl (fun t ht hW => ⟨⟨_, (), rfl, rfl, by rw [ht]; exact hP, va_K.moved hW.alike hK, hD⟩, hS.F ht⟩) hS.2.2 dX3_stage_88
        · refine lv_aload_n hx hb dX3_stage_57 rfl (lv_at hl 0 rfl) ?_
          refine va_get (D := (dC, dI)) (ci := 3) (v := .ref (b 9)) (C := RX3) (T := TX3) (N := 12) hx hb hts in_X3 hown hK hP 0 rfl rfl 9 (by decide) lf_34 (fun _ h9 => h9) rfl dX3_stage_58 ?_
          refine lv_iload_n hx hb dX3_stage_61 rfl (lv_at hl 1 rfl) ?_
          refine hx_iald hx hb hK hP 9 8 rfl rfl (by omega) (by omega) dX3_stage_62 ?_
          refine lv_iload_n hx hb dX3_stage_63 rfl (lv_at hl 2 rfl) ?_
          refine lv_iload_n hx hb dX3_stage_64 rfl (lv_at hl 3 rfl) ?_
          refine hx_read (va_runS (As := [.int (nI x), .int (nI y)]) (rest := [.int (wt r), .int (nI r), .ref (b 9)]) ⟨hx, hb, hml, hown, hts⟩ (c_X3_bit l x y) (va_cwS 2 hts gX3_stage_X3_bit rfl rfl rfl (by decide +kernel) ⟨Nat.le_of_ble_eq_true rfl, Nat.le_of_ble_eq_true rfl⟩) (nu_S _) rfl rfl hl.1 rfl (lv_room (Nat.le_of_ble_eq_true rfl)) dX3_stage_65 ⟨Nat.zero_le _, Nat.zero_le _⟩) ?_
          refine lv_ior hx hb dX3_stage_68 ?_
          refine lv_goto (tgt := 86) hx hb dX3_stage_69 (by decide) ?_
          refine hx_iast hx hb hK hP hD hS 9 8 rfl rfl (by omega) (by omega) dX3_stage_86 (fun H locs hP hD hS => ?_)
          have hP : va_P (dC, dI) vwCl (mdW b cB n hd fm rp rq nw bf db (upd sg r ((sg r) ||| (bm (5 * x + y)))) (upd wt r ((wt r) ||| (bm (5 * x + y)))) ne dn) H := hP
          have hD : va_D A (mdW b cB n hd fm rp rq nw bf db (upd sg r ((sg r) ||| (bm (5 * x + y)))) (upd wt r ((wt r) ||| (bm (5 * x + y)))) ne dn) := hD
          refine lv_iconst (v := nI 1) hx hb dX3_stage_87 (by decide) ?_
          have e9 : mdW b cB n hd fm rp rq nw bf db (upd sg r ((sg r) ||| (bm (5 * x + y)))) (upd wt r ((wt r) ||| (bm (5 * x + y)))) ne dn = mdW b cB n hd fm rp rq nw bf db (upd sg r (sg r ||| bm (5 * x + y))) (upd wt r (if bb = true then wt r ||| bm (5 * x + y) else wt r &&& (bm (5 * x + y) ^^^ (-1)))) ne dn := by simp only [c_1, c_2, c_3, c_4, ↓reduceIte, decide_true, decide_false, Bool.not_true, Bool.not_false, Bool.or_true, Bool.true_or, Bool.or_false, Bool.false_or, Bool.and_true, Bool.true_and, Bool.and_false, Bool.false_and, and_true, true_and, and_false, false_and, and_self, or_self, or_true, true_or, or_false, false_or, Bool.false_eq_true, Bool.true_eq_false, not_true_eq_false, not_false_eq_true, Bool.or_self, decide_eq_true_eq]
          rw [e9] at hP hD
          subst hAe
          exact W.zret (v := nI 1) hx hb hr rfl (fun t ht hW => ⟨⟨_, (), rfl, rfl, by rw [ht]; exact hP, va_K.moved hW.alike hK, hD⟩, hS.F ht⟩) hS.2.2 dX3_stage_88
      · exact absurd (ky.symm.trans c_3) (by decide)
set_option maxHeartbeats 4000000 in
set_option maxRecDepth 100000 in
theorem c_X3_has_b (l : Launch) (dC : Nat → ClassId) (dI : Nat → Nat → Nat) (b : Nat → Nat) (cB : Nat → ClassId) (n : Nat) (hd fm rp rq : Nat → Nat) (nw bf db sg wt : Nat → Int32) (ne dn : Nat → Bool) (r0 x0 y0 : Int32) (hy_0 : piM r0 x0 y0 = false) : RdM l yX3_has wsX3_has ({ frames := 2, cells := 0, slots := 0, locals := 44 }) (dC, dI) vwCl (mdW b cB n hd fm rp rq nw bf db sg wt ne dn) (mdT cB) nstW [.ref (b 0), .int (r0), .int (x0), .int (y0)] (bI false) := by
  refine Met.ofW (cc := cX3_has) (maxL := 4) (ret := (some .boolean)) (by decide) rfl ?_
  intro p e s m args below meth c s₁ B hml hv
  obtain ⟨rfl, hP, hK, hN⟩ := hv
  have hx := B.exec
  have hb := B.bytes
  have hr := B.returns
  have hts := atoms_spec (ws := wsX3_has) B.pre
  have hown : s.vm.findClass RX3 = some m.cls := findClass_of_methodNamed B.named
  have hlocks := B.notSynchronized
  have lf_22 := hts (.fieldLink RX3 22 "ViewKeeperModel" "now" "[I") (by decide +kernel)
  have in_X3 : ∀ w ∈ u_ws RX3 TX3 12, w ∈ wsX3_has := by decide +kernel
  have hl := lv_entry ([.ref (b 0), .int (r0), .int (x0), .int (y0)]) (n := 4) (Nat.le_of_ble_eq_true rfl)
  rw [lg_entry_eq]
  generalize (lg_sl ([.ref (b 0), .int (r0), .int (x0), .int (y0)]) ++ List.replicate (4 - (lg_sl ([.ref (b 0), .int (r0), .int (x0), .int (y0)])).length) Slot.unset).toArray = ls at hl ⊢
  have hl : lv_has ls 4 [(0, .ref (b 0)), (1, .int (r0)), (2, .int (x0)), (3, .int (y0))] := hl
  refine lv_iload_n hx hb dX3_has_0 rfl (lv_at hl 1 rfl) ?_
  refine lv_iload_n hx hb dX3_has_1 rfl (lv_at hl 2 rfl) ?_
  refine lv_iload_n hx hb dX3_has_2 rfl (lv_at hl 3 rfl) ?_
  refine hx_read (va_runS (As := [.int (r0), .int (x0), .int (y0)]) (rest := []) ⟨hx, hb, hml, hown, hts⟩ (c_X3_isPair l r0 x0 y0) (va_cwS 3 hts gX3_has_X3_isPair rfl rfl rfl (by decide +kernel) ⟨Nat.le_of_ble_eq_true rfl, Nat.le_of_ble_eq_true rfl⟩) (nu_S _) rfl rfl hl.1 rfl (lv_room (Nat.le_of_ble_eq_true rfl)) dX3_has_3 ⟨Nat.zero_le _, Nat.zero_le _⟩) ?_
  refine hx_ifB (tgt := 27) hx hb dX3_has_6 (by decide) (fun c_1 => ?_) (fun c_1 => ?_)
  · refine lv_iconst (v := nI 0) hx hb dX3_has_27 (by decide) ?_
    exact W.zret (v := nI 0) hx hb hr rfl (fun t ht hW => ⟨_, rfl, rfl, ht⟩) (fun _ h => by cases h) dX3_has_28
  · exact absurd (hy_0.symm.trans c_1) (by decide)
set_option maxHeartbeats 4000000 in
set_option maxRecDepth 100000 in
theorem c_X3_has_g (l : Launch) (dC : Nat → ClassId) (dI : Nat → Nat → Nat) (b : Nat → Nat) (cB : Nat → ClassId) (n : Nat) (hd fm rp rq : Nat → Nat) (nw bf db sg wt : Nat → Int32) (ne dn : Nat → Bool) (r x y : Nat) (hy_0 : r < 7) (hy_1 : x < 5) (hy_2 : y < 5) : RdM l yX3_has wsX3_has ({ frames := 2, cells := 0, slots := 0, locals := 44 }) (dC, dI) vwCl (mdW b cB n hd fm rp rq nw bf db sg wt ne dn) (mdT cB) nstW [.ref (b 0), .int (nI r), .int (nI x), .int (nI y)] (bI (bt (nw r) (5 * x + y))) := by
  refine Met.ofW (cc := cX3_has) (maxL := 4) (ret := (some .boolean)) (by decide) rfl ?_
  intro p e s m args below meth c s₁ B hml hv
  obtain ⟨rfl, hP, hK, hN⟩ := hv
  have hx := B.exec
  have hb := B.bytes
  have hr := B.returns
  have hts := atoms_spec (ws := wsX3_has) B.pre
  have hown : s.vm.findClass RX3 = some m.cls := findClass_of_methodNamed B.named
  have hlocks := B.notSynchronized
  have kp : piM (nI r) (nI x) (nI y) = true := piM_nI (by omega) (by omega) (by omega)
  have lf_22 := hts (.fieldLink RX3 22 "ViewKeeperModel" "now" "[I") (by decide +kernel)
  have in_X3 : ∀ w ∈ u_ws RX3 TX3 12, w ∈ wsX3_has := by decide +kernel
  have hl := lv_entry ([.ref (b 0), .int (nI r), .int (nI x), .int (nI y)]) (n := 4) (Nat.le_of_ble_eq_true rfl)
  rw [lg_entry_eq]
  generalize (lg_sl ([.ref (b 0), .int (nI r), .int (nI x), .int (nI y)]) ++ List.replicate (4 - (lg_sl ([.ref (b 0), .int (nI r), .int (nI x), .int (nI y)])).length) Slot.unset).toArray = ls at hl ⊢
  have hl : lv_has ls 4 [(0, .ref (b 0)), (1, .int (nI r)), (2, .int (nI x)), (3, .int (nI y))] := hl
  refine lv_iload_n hx hb dX3_has_0 rfl (lv_at hl 1 rfl) ?_
  refine lv_iload_n hx hb dX3_has_1 rfl (lv_at hl 2 rfl) ?_
  refine lv_iload_n hx hb dX3_has_2 rfl (lv_at hl 3 rfl) ?_
  refine hx_read (va_runS (As := [.int (nI r), .int (nI x), .int (nI y)]) (rest := []) ⟨hx, hb, hml, hown, hts⟩ (c_X3_isPair l (nI r) (nI x) (nI y)) (va_cwS 3 hts gX3_has_X3_isPair rfl rfl rfl (by decide +kernel) ⟨Nat.le_of_ble_eq_true rfl, Nat.le_of_ble_eq_true rfl⟩) (nu_S _) rfl rfl hl.1 rfl (lv_room (Nat.le_of_ble_eq_true rfl)) dX3_has_3 ⟨Nat.zero_le _, Nat.zero_le _⟩) ?_
  refine hx_ifB (tgt := 27) hx hb dX3_has_6 (by decide) (fun c_1 => ?_) (fun c_1 => ?_)
  · exact absurd (kp.symm.trans c_1) (by decide)
  · refine lv_aload_n hx hb dX3_has_9 rfl (lv_at hl 0 rfl) ?_
    refine va_get (D := (dC, dI)) (ci := 3) (v := .ref (b 5)) (C := RX3) (T := TX3) (N := 12) hx hb hts in_X3 hown hK hP 0 rfl rfl 5 (by decide) lf_22 (fun _ h9 => h9) rfl dX3_has_10 ?_
    refine lv_iload_n hx hb dX3_has_13 rfl (lv_at hl 1 rfl) ?_
    refine hx_iald hx hb hK hP 5 4 rfl rfl (by omega) (by omega) dX3_has_14 ?_
    refine lv_iload_n hx hb dX3_has_15 rfl (lv_at hl 2 rfl) ?_
    refine lv_iload_n hx hb dX3_has_16 rfl (lv_at hl 3 rfl) ?_
    refine hx_read (va_runS (As := [.int (nw r), .int (nI x), .int (nI y)]) (rest := []) ⟨hx, hb, hml, hown, hts⟩ (c_X3_in l (nw r) x y (by omega) (by omega)) (va_cwS 3 hts gX3_has_X3_in rfl rfl rfl (by decide +kernel) ⟨Nat.le_of_ble_eq_true rfl, Nat.le_of_ble_eq_true rfl⟩) (nu_S _) rfl rfl hl.1 rfl (lv_room (Nat.le_of_ble_eq_true rfl)) dX3_has_17 ⟨Nat.zero_le _, Nat.zero_le _⟩) ?_
    refine hx_ifB (tgt := 27) hx hb dX3_has_20 (by decide) (fun c_2 => ?_) (fun c_2 => ?_)
    · refine lv_iconst (v := nI 0) hx hb dX3_has_27 (by decide) ?_
      exact W.zret (v := nI 0) hx hb hr rfl (fun t ht hW => ⟨_, rfl, by rw [c_2]; rfl, ht⟩) (fun _ h => by cases h) dX3_has_28
    · refine lv_iconst (v := nI 1) hx hb dX3_has_23 (by decide) ?_
      refine lv_goto (tgt := 28) hx hb dX3_has_24 (by decide) ?_
      exact W.zret (v := nI 1) hx hb hr rfl (fun t ht hW => ⟨_, rfl, by rw [c_2]; rfl, ht⟩) (fun _ h => by cases h) dX3_has_28
set_option maxHeartbeats 4000000 in
set_option maxRecDepth 100000 in
theorem c_X3_suspect_b (l : Launch) (dC : Nat → ClassId) (dI : Nat → Nat → Nat) (b : Nat → Nat) (cB : Nat → ClassId) (n : Nat) (hd fm rp rq : Nat → Nat) (nw bf db sg wt : Nat → Int32) (ne dn : Nat → Bool) (r0 x0 y0 : Int32) (hy_0 : piM r0 x0 y0 = false) : RdM l yX3_suspect wsX3_suspect ({ frames := 2, cells := 0, slots := 0, locals := 44 }) (dC, dI) vwCl (mdW b cB n hd fm rp rq nw bf db sg wt ne dn) (mdT cB) nstW [.ref (b 0), .int (r0), .int (x0), .int (y0)] (bI false) := by
  refine Met.ofW (cc := cX3_suspect) (maxL := 4) (ret := (some .boolean)) (by decide) rfl ?_
  intro p e s m args below meth c s₁ B hml hv
  obtain ⟨rfl, hP, hK, hN⟩ := hv
  have hx := B.exec
  have hb := B.bytes
  have hr := B.returns
  have hts := atoms_spec (ws := wsX3_suspect) B.pre
  have hown : s.vm.findClass RX3 = some m.cls := findClass_of_methodNamed B.named
  have hlocks := B.notSynchronized
  have lf_28 := hts (.fieldLink RX3 28 "ViewKeeperModel" "doubt" "[I") (by decide +kernel)
  have in_X3 : ∀ w ∈ u_ws RX3 TX3 12, w ∈ wsX3_suspect := by decide +kernel
  have hl := lv_entry ([.ref (b 0), .int (r0), .int (x0), .int (y0)]) (n := 4) (Nat.le_of_ble_eq_true rfl)
  rw [lg_entry_eq]
  generalize (lg_sl ([.ref (b 0), .int (r0), .int (x0), .int (y0)]) ++ List.replicate (4 - (lg_sl ([.ref (b 0), .int (r0), .int (x0), .int (y0)])).length) Slot.unset).toArray = ls at hl ⊢
  have hl : lv_has ls 4 [(0, .ref (b 0)), (1, .int (r0)), (2, .int (x0)), (3, .int (y0))] := hl
  refine lv_iload_n hx hb dX3_suspect_0 rfl (lv_at hl 1 rfl) ?_
  refine lv_iload_n hx hb dX3_suspect_1 rfl (lv_at hl 2 rfl) ?_
  refine lv_iload_n hx hb dX3_suspect_2 rfl (lv_at hl 3 rfl) ?_
  refine hx_read (va_runS (As := [.int (r0), .int (x0), .int (y0)]) (rest := []) ⟨hx, hb, hml, hown, hts⟩ (c_X3_isPair l r0 x0 y0) (va_cwS 3 hts gX3_suspect_X3_isPair rfl rfl rfl (by decide +kernel) ⟨Nat.le_of_ble_eq_true rfl, Nat.le_of_ble_eq_true rfl⟩) (nu_S _) rfl rfl hl.1 rfl (lv_room (Nat.le_of_ble_eq_true rfl)) dX3_suspect_3 ⟨Nat.zero_le _, Nat.zero_le _⟩) ?_
  refine hx_ifB (tgt := 27) hx hb dX3_suspect_6 (by decide) (fun c_1 => ?_) (fun c_1 => ?_)
  · refine lv_iconst (v := nI 0) hx hb dX3_suspect_27 (by decide) ?_
    exact W.zret (v := nI 0) hx hb hr rfl (fun t ht hW => ⟨_, rfl, rfl, ht⟩) (fun _ h => by cases h) dX3_suspect_28
  · exact absurd (hy_0.symm.trans c_1) (by decide)
set_option maxHeartbeats 4000000 in
set_option maxRecDepth 100000 in
theorem c_X3_suspect_g (l : Launch) (dC : Nat → ClassId) (dI : Nat → Nat → Nat) (b : Nat → Nat) (cB : Nat → ClassId) (n : Nat) (hd fm rp rq : Nat → Nat) (nw bf db sg wt : Nat → Int32) (ne dn : Nat → Bool) (r x y : Nat) (hy_0 : r < 7) (hy_1 : x < 5) (hy_2 : y < 5) : RdM l yX3_suspect wsX3_suspect ({ frames := 2, cells := 0, slots := 0, locals := 44 }) (dC, dI) vwCl (mdW b cB n hd fm rp rq nw bf db sg wt ne dn) (mdT cB) nstW [.ref (b 0), .int (nI r), .int (nI x), .int (nI y)] (bI (bt (db r) (5 * x + y))) := by
  refine Met.ofW (cc := cX3_suspect) (maxL := 4) (ret := (some .boolean)) (by decide) rfl ?_
  intro p e s m args below meth c s₁ B hml hv
  obtain ⟨rfl, hP, hK, hN⟩ := hv
  have hx := B.exec
  have hb := B.bytes
  have hr := B.returns
  have hts := atoms_spec (ws := wsX3_suspect) B.pre
  have hown : s.vm.findClass RX3 = some m.cls := findClass_of_methodNamed B.named
  have hlocks := B.notSynchronized
  have kp : piM (nI r) (nI x) (nI y) = true := piM_nI (by omega) (by omega) (by omega)
  have lf_28 := hts (.fieldLink RX3 28 "ViewKeeperModel" "doubt" "[I") (by decide +kernel)
  have in_X3 : ∀ w ∈ u_ws RX3 TX3 12, w ∈ wsX3_suspect := by decide +kernel
  have hl := lv_entry ([.ref (b 0), .int (nI r), .int (nI x), .int (nI y)]) (n := 4) (Nat.le_of_ble_eq_true rfl)
  rw [lg_entry_eq]
  generalize (lg_sl ([.ref (b 0), .int (nI r), .int (nI x), .int (nI y)]) ++ List.replicate (4 - (lg_sl ([.ref (b 0), .int (nI r), .int (nI x), .int (nI y)])).length) Slot.unset).toArray = ls at hl ⊢
  have hl : lv_has ls 4 [(0, .ref (b 0)), (1, .int (nI r)), (2, .int (nI x)), (3, .int (nI y))] := hl
  refine lv_iload_n hx hb dX3_suspect_0 rfl (lv_at hl 1 rfl) ?_
  refine lv_iload_n hx hb dX3_suspect_1 rfl (lv_at hl 2 rfl) ?_
  refine lv_iload_n hx hb dX3_suspect_2 rfl (lv_at hl 3 rfl) ?_
  refine hx_read (va_runS (As := [.int (nI r), .int (nI x), .int (nI y)]) (rest := []) ⟨hx, hb, hml, hown, hts⟩ (c_X3_isPair l (nI r) (nI x) (nI y)) (va_cwS 3 hts gX3_suspect_X3_isPair rfl rfl rfl (by decide +kernel) ⟨Nat.le_of_ble_eq_true rfl, Nat.le_of_ble_eq_true rfl⟩) (nu_S _) rfl rfl hl.1 rfl (lv_room (Nat.le_of_ble_eq_true rfl)) dX3_suspect_3 ⟨Nat.zero_le _, Nat.zero_le _⟩) ?_
  refine hx_ifB (tgt := 27) hx hb dX3_suspect_6 (by decide) (fun c_1 => ?_) (fun c_1 => ?_)
  · exact absurd (kp.symm.trans c_1) (by decide)
  · refine lv_aload_n hx hb dX3_suspect_9 rfl (lv_at hl 0 rfl) ?_
    refine va_get (D := (dC, dI)) (ci := 3) (v := .ref (b 7)) (C := RX3) (T := TX3) (N := 12) hx hb hts in_X3 hown hK hP 0 rfl rfl 7 (by decide) lf_28 (fun _ h9 => h9) rfl dX3_suspect_10 ?_
    refine lv_iload_n hx hb dX3_suspect_13 rfl (lv_at hl 1 rfl) ?_
    refine hx_iald hx hb hK hP 7 6 rfl rfl (by omega) (by omega) dX3_suspect_14 ?_
    refine lv_iload_n hx hb dX3_suspect_15 rfl (lv_at hl 2 rfl) ?_
    refine lv_iload_n hx hb dX3_suspect_16 rfl (lv_at hl 3 rfl) ?_
    refine hx_read (va_runS (As := [.int (db r), .int (nI x), .int (nI y)]) (rest := []) ⟨hx, hb, hml, hown, hts⟩ (c_X3_in l (db r) x y (by omega) (by omega)) (va_cwS 3 hts gX3_suspect_X3_in rfl rfl rfl (by decide +kernel) ⟨Nat.le_of_ble_eq_true rfl, Nat.le_of_ble_eq_true rfl⟩) (nu_S _) rfl rfl hl.1 rfl (lv_room (Nat.le_of_ble_eq_true rfl)) dX3_suspect_17 ⟨Nat.zero_le _, Nat.zero_le _⟩) ?_
    refine hx_ifB (tgt := 27) hx hb dX3_suspect_20 (by decide) (fun c_2 => ?_) (fun c_2 => ?_)
    · refine lv_iconst (v := nI 0) hx hb dX3_suspect_27 (by decide) ?_
      exact W.zret (v := nI 0) hx hb hr rfl (fun t ht hW => ⟨_, rfl, by rw [c_2]; rfl, ht⟩) (fun _ h => by cases h) dX3_suspect_28
    · refine lv_iconst (v := nI 1) hx hb dX3_suspect_23 (by decide) ?_
      refine lv_goto (tgt := 28) hx hb dX3_suspect_24 (by decide) ?_
      exact W.zret (v := nI 1) hx hb hr rfl (fun t ht hW => ⟨_, rfl, by rw [c_2]; rfl, ht⟩) (fun _ h => by cases h) dX3_suspect_28
set_option maxHeartbeats 4000000 in
set_option maxRecDepth 100000 in
theorem c_X3_count_b (l : Launch) (dC : Nat → ClassId) (dI : Nat → Nat → Nat) (b : Nat → Nat) (cB : Nat → ClassId) (n : Nat) (hd fm rp rq : Nat → Nat) (nw bf db sg wt : Nat → Int32) (ne dn : Nat → Bool) (r0 x0 y0 : Int32) (hy_0 : piM r0 x0 y0 = false) : RdM l yX3_count wsX3_count ({ frames := 3, cells := 0, slots := 0, locals := 74 }) (dC, dI) vwCl (mdW b cB n hd fm rp rq nw bf db sg wt ne dn) (mdT cB) nstW [.ref (b 0), .int (r0), .int (x0), .int (y0)] ((-1)) := by
  refine Met.ofW (cc := cX3_count) (maxL := 4) (ret := (some .int)) (by decide) rfl ?_
  intro p e s m args below meth c s₁ B hml hv
  obtain ⟨rfl, hP, hK, hN⟩ := hv
  have hx := B.exec
  have hb := B.bytes
  have hr := B.returns
  have hts := atoms_spec (ws := wsX3_count) B.pre
  have hown : s.vm.findClass RX3 = some m.cls := findClass_of_methodNamed B.named
  have hlocks := B.notSynchronized
  have lf_37 := hts (.fieldLink RX3 37 "ViewKeeperModel" "need" "[Z") (by decide +kernel)
  have in_X3 : ∀ w ∈ u_ws RX3 TX3 12, w ∈ wsX3_count := by decide +kernel
  have lf_22 := hts (.fieldLink RX3 22 "ViewKeeperModel" "now" "[I") (by decide +kernel)
  have hl := lv_entry ([.ref (b 0), .int (r0), .int (x0), .int (y0)]) (n := 4) (Nat.le_of_ble_eq_true rfl)
  rw [lg_entry_eq]
  generalize (lg_sl ([.ref (b 0), .int (r0), .int (x0), .int (y0)]) ++ List.replicate (4 - (lg_sl ([.ref (b 0), .int (r0), .int (x0), .int (y0)])).length) Slot.unset).toArray = ls at hl ⊢
  have hl : lv_has ls 4 [(0, .ref (b 0)), (1, .int (r0)), (2, .int (x0)), (3, .int (y0))] := hl
  refine lv_iload_n hx hb dX3_count_0 rfl (lv_at hl 1 rfl) ?_
  refine lv_iload_n hx hb dX3_count_1 rfl (lv_at hl 2 rfl) ?_
  refine lv_iload_n hx hb dX3_count_2 rfl (lv_at hl 3 rfl) ?_
  refine hx_read (va_runS (As := [.int (r0), .int (x0), .int (y0)]) (rest := []) ⟨hx, hb, hml, hown, hts⟩ (c_X3_isPair l r0 x0 y0) (va_cwS 3 hts gX3_count_X3_isPair rfl rfl rfl (by decide +kernel) ⟨Nat.le_of_ble_eq_true rfl, Nat.le_of_ble_eq_true rfl⟩) (nu_S _) rfl rfl hl.1 rfl (lv_room (Nat.le_of_ble_eq_true rfl)) dX3_count_3 ⟨Nat.zero_le _, Nat.zero_le _⟩) ?_
  refine hx_ifB (tgt := 21) hx hb dX3_count_6 (by decide) (fun c_1 => ?_) (fun c_1 => ?_)
  · refine lv_iconst (v := (-1)) hx hb dX3_count_21 (by decide) ?_
    exact W.iret (v := (-1)) hx hb hr (fun t ht hW => ⟨_, rfl, rfl, ht⟩) (fun _ h => by cases h) dX3_count_22
  · exact absurd (hy_0.symm.trans c_1) (by decide)
set_option maxHeartbeats 4000000 in
set_option maxRecDepth 100000 in
theorem c_X3_count_r (l : Launch) (dC : Nat → ClassId) (dI : Nat → Nat → Nat) (b : Nat → Nat) (cB : Nat → ClassId) (n : Nat) (hd fm rp rq : Nat → Nat) (nw bf db sg wt : Nat → Int32) (ne dn : Nat → Bool) (r x y : Nat) (hy_0 : r < 7) (hy_1 : x < 5) (hy_2 : y < 5) (hy_3 : ne (8 * r) = true) : RdM l yX3_count wsX3_count ({ frames := 3, cells := 0, slots := 0, locals := 74 }) (dC, dI) vwCl (mdW b cB n hd fm rp rq nw bf db sg wt ne dn) (mdT cB) nstW [.ref (b 0), .int (nI r), .int (nI x), .int (nI y)] ((-1)) := by
  refine Met.ofW (cc := cX3_count) (maxL := 4) (ret := (some .int)) (by decide) rfl ?_
  intro p e s m args below meth c s₁ B hml hv
  obtain ⟨rfl, hP, hK, hN⟩ := hv
  have hx := B.exec
  have hb := B.bytes
  have hr := B.returns
  have hts := atoms_spec (ws := wsX3_count) B.pre
  have hown : s.vm.findClass RX3 = some m.cls := findClass_of_methodNamed B.named
  have hlocks := B.notSynchronized
  have kp : piM (nI r) (nI x) (nI y) = true := piM_nI (by omega) (by omega) (by omega)
  have lf_37 := hts (.fieldLink RX3 37 "ViewKeeperModel" "need" "[Z") (by decide +kernel)
  have in_X3 : ∀ w ∈ u_ws RX3 TX3 12, w ∈ wsX3_count := by decide +kernel
  have lf_22 := hts (.fieldLink RX3 22 "ViewKeeperModel" "now" "[I") (by decide +kernel)
  have hl := lv_entry ([.ref (b 0), .int (nI r), .int (nI x), .int (nI y)]) (n := 4) (Nat.le_of_ble_eq_true rfl)
  rw [lg_entry_eq]
  generalize (lg_sl ([.ref (b 0), .int (nI r), .int (nI x), .int (nI y)]) ++ List.replicate (4 - (lg_sl ([.ref (b 0), .int (nI r), .int (nI x), .int (nI y)])).length) Slot.unset).toArray = ls at hl ⊢
  have hl : lv_has ls 4 [(0, .ref (b 0)), (1, .int (nI r)), (2, .int (nI x)), (3, .int (nI y))] := hl
  refine lv_iload_n hx hb dX3_count_0 rfl (lv_at hl 1 rfl) ?_
  refine lv_iload_n hx hb dX3_count_1 rfl (lv_at hl 2 rfl) ?_
  refine lv_iload_n hx hb dX3_count_2 rfl (lv_at hl 3 rfl) ?_
  refine hx_read (va_runS (As := [.int (nI r), .int (nI x), .int (nI y)]) (rest := []) ⟨hx, hb, hml, hown, hts⟩ (c_X3_isPair l (nI r) (nI x) (nI y)) (va_cwS 3 hts gX3_count_X3_isPair rfl rfl rfl (by decide +kernel) ⟨Nat.le_of_ble_eq_true rfl, Nat.le_of_ble_eq_true rfl⟩) (nu_S _) rfl rfl hl.1 rfl (lv_room (Nat.le_of_ble_eq_true rfl)) dX3_count_3 ⟨Nat.zero_le _, Nat.zero_le _⟩) ?_
  refine hx_ifB (tgt := 21) hx hb dX3_count_6 (by decide) (fun c_1 => ?_) (fun c_1 => ?_)
  · exact absurd (kp.symm.trans c_1) (by decide)
  · refine lv_aload_n hx hb dX3_count_9 rfl (lv_at hl 0 rfl) ?_
    refine va_get (D := (dC, dI)) (ci := 3) (v := .ref (b 10)) (C := RX3) (T := TX3) (N := 12) hx hb hts in_X3 hown hK hP 0 rfl rfl 10 (by decide) lf_37 (fun _ h9 => h9) rfl dX3_count_10 ?_
    refine lv_bipush (v := nI 8) hx hb dX3_count_13 (by decide) ?_
    refine lv_iload_n hx hb dX3_count_15 rfl (lv_at hl 1 rfl) ?_
    refine hx_imul hx hb dX3_count_16 ?_
    refine hx_zald hx hb hK hP 10 9 rfl rfl (by omega) (by omega) dX3_count_17 ?_
    refine hx_ifB (tgt := 23) hx hb dX3_count_18 (by decide) (fun c_2 => ?_) (fun c_2 => ?_)
    · exact absurd (hy_3.symm.trans c_2) (by decide)
    · refine lv_iconst (v := (-1)) hx hb dX3_count_21 (by decide) ?_
      exact W.iret (v := (-1)) hx hb hr (fun t ht hW => ⟨_, rfl, rfl, ht⟩) (fun _ h => by cases h) dX3_count_22
set_option maxHeartbeats 4000000 in
set_option maxRecDepth 100000 in
theorem c_X3_count_f (l : Launch) (dC : Nat → ClassId) (dI : Nat → Nat → Nat) (b : Nat → Nat) (cB : Nat → ClassId) (n : Nat) (hd fm rp rq : Nat → Nat) (nw bf db sg wt : Nat → Int32) (ne dn : Nat → Bool) (r x y : Nat) (hy_0 : r < 7) (hy_1 : x < 5) (hy_2 : y < 5) (hy_3 : ne (8 * r) = false) (hy_4 : r < 2) : RdM l yX3_count wsX3_count ({ frames := 3, cells := 0, slots := 0, locals := 74 }) (dC, dI) vwCl (mdW b cB n hd fm rp rq nw bf db sg wt ne dn) (mdT cB) nstW [.ref (b 0), .int (nI r), .int (nI x), .int (nI y)] (bI (bt (nw r) (5 * x + y))) := by
  refine Met.ofW (cc := cX3_count) (maxL := 4) (ret := (some .int)) (by decide) rfl ?_
  intro p e s m args below meth c s₁ B hml hv
  obtain ⟨rfl, hP, hK, hN⟩ := hv
  have hx := B.exec
  have hb := B.bytes
  have hr := B.returns
  have hts := atoms_spec (ws := wsX3_count) B.pre
  have hown : s.vm.findClass RX3 = some m.cls := findClass_of_methodNamed B.named
  have hlocks := B.notSynchronized
  have kp : piM (nI r) (nI x) (nI y) = true := piM_nI (by omega) (by omega) (by omega)
  have lf_37 := hts (.fieldLink RX3 37 "ViewKeeperModel" "need" "[Z") (by decide +kernel)
  have in_X3 : ∀ w ∈ u_ws RX3 TX3 12, w ∈ wsX3_count := by decide +kernel
  have lf_22 := hts (.fieldLink RX3 22 "ViewKeeperModel" "now" "[I") (by decide +kernel)
  have hl := lv_entry ([.ref (b 0), .int (nI r), .int (nI x), .int (nI y)]) (n := 4) (Nat.le_of_ble_eq_true rfl)
  rw [lg_entry_eq]
  generalize (lg_sl ([.ref (b 0), .int (nI r), .int (nI x), .int (nI y)]) ++ List.replicate (4 - (lg_sl ([.ref (b 0), .int (nI r), .int (nI x), .int (nI y)])).length) Slot.unset).toArray = ls at hl ⊢
  have hl : lv_has ls 4 [(0, .ref (b 0)), (1, .int (nI r)), (2, .int (nI x)), (3, .int (nI y))] := hl
  refine lv_iload_n hx hb dX3_count_0 rfl (lv_at hl 1 rfl) ?_
  refine lv_iload_n hx hb dX3_count_1 rfl (lv_at hl 2 rfl) ?_
  refine lv_iload_n hx hb dX3_count_2 rfl (lv_at hl 3 rfl) ?_
  refine hx_read (va_runS (As := [.int (nI r), .int (nI x), .int (nI y)]) (rest := []) ⟨hx, hb, hml, hown, hts⟩ (c_X3_isPair l (nI r) (nI x) (nI y)) (va_cwS 3 hts gX3_count_X3_isPair rfl rfl rfl (by decide +kernel) ⟨Nat.le_of_ble_eq_true rfl, Nat.le_of_ble_eq_true rfl⟩) (nu_S _) rfl rfl hl.1 rfl (lv_room (Nat.le_of_ble_eq_true rfl)) dX3_count_3 ⟨Nat.zero_le _, Nat.zero_le _⟩) ?_
  refine hx_ifB (tgt := 21) hx hb dX3_count_6 (by decide) (fun c_1 => ?_) (fun c_1 => ?_)
  · exact absurd (kp.symm.trans c_1) (by decide)
  · refine lv_aload_n hx hb dX3_count_9 rfl (lv_at hl 0 rfl) ?_
    refine va_get (D := (dC, dI)) (ci := 3) (v := .ref (b 10)) (C := RX3) (T := TX3) (N := 12) hx hb hts in_X3 hown hK hP 0 rfl rfl 10 (by decide) lf_37 (fun _ h9 => h9) rfl dX3_count_10 ?_
    refine lv_bipush (v := nI 8) hx hb dX3_count_13 (by decide) ?_
    refine lv_iload_n hx hb dX3_count_15 rfl (lv_at hl 1 rfl) ?_
    refine hx_imul hx hb dX3_count_16 ?_
    refine hx_zald hx hb hK hP 10 9 rfl rfl (by omega) (by omega) dX3_count_17 ?_
    refine hx_ifB (tgt := 23) hx hb dX3_count_18 (by decide) (fun c_2 => ?_) (fun c_2 => ?_)
    · refine lv_iload_n hx hb dX3_count_23 rfl (lv_at hl 1 rfl) ?_
      refine lv_iconst (v := nI 1) hx hb dX3_count_24 (by decide) ?_
      refine hx_leN (tgt := 38) hx hb dX3_count_25 (by decide) (by omega) (by omega) (fun c_3 => ?_) (fun c_3 => ?_)
      · refine lv_aload_n hx hb dX3_count_38 rfl (lv_at hl 0 rfl) ?_
        refine va_get (D := (dC, dI)) (ci := 3) (v := .ref (b 5)) (C := RX3) (T := TX3) (N := 12) hx hb hts in_X3 hown hK hP 0 rfl rfl 5 (by decide) lf_22 (fun _ h9 => h9) rfl dX3_count_39 ?_
        refine lv_iload_n hx hb dX3_count_42 rfl (lv_at hl 1 rfl) ?_
        refine hx_iald hx hb hK hP 5 4 rfl rfl (by omega) (by omega) dX3_count_43 ?_
        refine lv_iload_n hx hb dX3_count_44 rfl (lv_at hl 2 rfl) ?_
        refine lv_iload_n hx hb dX3_count_45 rfl (lv_at hl 3 rfl) ?_
        refine hx_read (va_runS (As := [.int (nw r), .int (nI x), .int (nI y)]) (rest := []) ⟨hx, hb, hml, hown, hts⟩ (c_X3_in l (nw r) x y (by omega) (by omega)) (va_cwS 3 hts gX3_count_X3_in rfl rfl rfl (by decide +kernel) ⟨Nat.le_of_ble_eq_true rfl, Nat.le_of_ble_eq_true rfl⟩) (nu_S _) rfl rfl hl.1 rfl (lv_room (Nat.le_of_ble_eq_true rfl)) dX3_count_46 ⟨Nat.zero_le _, Nat.zero_le _⟩) ?_
        refine hx_ifB (tgt := 56) hx hb dX3_count_49 (by decide) (fun c_4 => ?_) (fun c_4 => ?_)
        · refine lv_iconst (v := nI 0) hx hb dX3_count_56 (by decide) ?_
          exact W.iret (v := nI 0) hx hb hr (fun t ht hW => ⟨_, rfl, by rw [c_4]; rfl, ht⟩) (fun _ h => by cases h) dX3_count_57
        · refine lv_iconst (v := nI 1) hx hb dX3_count_52 (by decide) ?_
          refine lv_goto (tgt := 57) hx hb dX3_count_53 (by decide) ?_
          exact W.iret (v := nI 1) hx hb hr (fun t ht hW => ⟨_, rfl, by rw [c_4]; rfl, ht⟩) (fun _ h => by cases h) dX3_count_57
      · exact absurd c_3 (by omega)
    · exact absurd (hy_3.symm.trans c_2) (by decide)
set_option maxHeartbeats 4000000 in
set_option maxRecDepth 100000 in
theorem c_X3_count_v (l : Launch) (dC : Nat → ClassId) (dI : Nat → Nat → Nat) (b : Nat → Nat) (cB : Nat → ClassId) (n : Nat) (hd fm rp rq : Nat → Nat) (nw bf db sg wt : Nat → Int32) (ne dn : Nat → Bool) (r x y : Nat) (hy_0 : r < 7) (hy_1 : x < 5) (hy_2 : y < 5) (hy_3 : ne (8 * r) = false) (hy_4 : 2 ≤ r) (hy_5 : ruOk n hd fm rp rq) : RdM l yX3_count wsX3_count ({ frames := 3, cells := 0, slots := 0, locals := 74 }) (dC, dI) vwCl (mdW b cB n hd fm rp rq nw bf db sg wt ne dn) (mdT cB) nstW [.ref (b 0), .int (nI r), .int (nI x), .int (nI y)] (nI (mcF hd fm rp rq nw r x y n 0 0)) := by
  refine Met.ofW (cc := cX3_count) (maxL := 4) (ret := (some .int)) (by decide) rfl ?_
  intro p e s m args below meth c s₁ B hml hv
  obtain ⟨rfl, hP, hK, hN⟩ := hv
  have hx := B.exec
  have hb := B.bytes
  have hr := B.returns
  have hts := atoms_spec (ws := wsX3_count) B.pre
  have hown : s.vm.findClass RX3 = some m.cls := findClass_of_methodNamed B.named
  have hlocks := B.notSynchronized
  have kp : piM (nI r) (nI x) (nI y) = true := piM_nI (by omega) (by omega) (by omega)
  have lf_37 := hts (.fieldLink RX3 37 "ViewKeeperModel" "need" "[Z") (by decide +kernel)
  have in_X3 : ∀ w ∈ u_ws RX3 TX3 12, w ∈ wsX3_count := by decide +kernel
  have lf_22 := hts (.fieldLink RX3 22 "ViewKeeperModel" "now" "[I") (by decide +kernel)
  have hl := lv_entry ([.ref (b 0), .int (nI r), .int (nI x), .int (nI y)]) (n := 4) (Nat.le_of_ble_eq_true rfl)
  rw [lg_entry_eq]
  generalize (lg_sl ([.ref (b 0), .int (nI r), .int (nI x), .int (nI y)]) ++ List.replicate (4 - (lg_sl ([.ref (b 0), .int (nI r), .int (nI x), .int (nI y)])).length) Slot.unset).toArray = ls at hl ⊢
  have hl : lv_has ls 4 [(0, .ref (b 0)), (1, .int (nI r)), (2, .int (nI x)), (3, .int (nI y))] := hl
  refine lv_iload_n hx hb dX3_count_0 rfl (lv_at hl 1 rfl) ?_
  refine lv_iload_n hx hb dX3_count_1 rfl (lv_at hl 2 rfl) ?_
  refine lv_iload_n hx hb dX3_count_2 rfl (lv_at hl 3 rfl) ?_
  refine hx_read (va_runS (As := [.int (nI r), .int (nI x), .int (nI y)]) (rest := []) ⟨hx, hb, hml, hown, hts⟩ (c_X3_isPair l (nI r) (nI x) (nI y)) (va_cwS 3 hts gX3_count_X3_isPair rfl rfl rfl (by decide +kernel) ⟨Nat.le_of_ble_eq_true rfl, Nat.le_of_ble_eq_true rfl⟩) (nu_S _) rfl rfl hl.1 rfl (lv_room (Nat.le_of_ble_eq_true rfl)) dX3_count_3 ⟨Nat.zero_le _, Nat.zero_le _⟩) ?_
  refine hx_ifB (tgt := 21) hx hb dX3_count_6 (by decide) (fun c_1 => ?_) (fun c_1 => ?_)
  · exact absurd (kp.symm.trans c_1) (by decide)
  · refine lv_aload_n hx hb dX3_count_9 rfl (lv_at hl 0 rfl) ?_
    refine va_get (D := (dC, dI)) (ci := 3) (v := .ref (b 10)) (C := RX3) (T := TX3) (N := 12) hx hb hts in_X3 hown hK hP 0 rfl rfl 10 (by decide) lf_37 (fun _ h9 => h9) rfl dX3_count_10 ?_
    refine lv_bipush (v := nI 8) hx hb dX3_count_13 (by decide) ?_
    refine lv_iload_n hx hb dX3_count_15 rfl (lv_at hl 1 rfl) ?_
    refine hx_imul hx hb dX3_count_16 ?_
    refine hx_zald hx hb hK hP 10 9 rfl rfl (by omega) (by omega) dX3_count_17 ?_
    refine hx_ifB (tgt := 23) hx hb dX3_count_18 (by decide) (fun c_2 => ?_) (fun c_2 => ?_)
    · refine lv_iload_n hx hb dX3_count_23 rfl (lv_at hl 1 rfl) ?_
      refine lv_iconst (v := nI 1) hx hb dX3_count_24 (by decide) ?_
      refine hx_leN (tgt := 38) hx hb dX3_count_25 (by decide) (by omega) (by omega) (fun c_3 => ?_) (fun c_3 => ?_)
      · exact absurd c_3 (by omega)
      · refine lv_aload_n hx hb dX3_count_28 rfl (lv_at hl 0 rfl) ?_
        refine lv_iload_n hx hb dX3_count_29 rfl (lv_at hl 1 rfl) ?_
        refine lv_iload_n hx hb dX3_count_30 rfl (lv_at hl 2 rfl) ?_
        refine lv_iload_n hx hb dX3_count_31 rfl (lv_at hl 3 rfl) ?_
        refine hx_read (va_runV (As := [.int (nI r), .int (nI x), .int (nI y)]) (rest := []) ⟨hx, hb, hml, hown, hts⟩ (c_X3_instancesOf l dC dI b cB n hd fm rp rq nw bf db sg wt ne dn r x y (hy_5) (by omega) (by omega) (by omega)) (cwV 3 hts gX3_count_X3_instancesOf rfl rfl rfl (by decide +kernel) ⟨Nat.le_of_ble_eq_true rfl, Nat.le_of_ble_eq_true rfl⟩) (rd_V nstW_ok hP hK hN 0 rfl rfl _) rfl rfl hl.1 rfl (lv_room (Nat.le_of_ble_eq_true rfl)) dX3_count_32 ⟨Nat.zero_le _, Nat.zero_le _⟩) ?_
        have hc_4 := mcF_le hd fm rp rq nw r x y n 0 0
        refine lv_goto (tgt := 57) hx hb dX3_count_35 (by decide) ?_
        exact W.iret (v := nI (mcF hd fm rp rq nw r x y n 0 0)) hx hb hr (fun t ht hW => ⟨_, rfl, rfl, ht⟩) (fun _ h => by cases h) dX3_count_57
    · exact absurd (hy_3.symm.trans c_2) (by decide)
set_option maxHeartbeats 4000000 in
set_option maxRecDepth 100000 in
theorem c_X3_size_b (l : Launch) (dC : Nat → ClassId) (dI : Nat → Nat → Nat) (b : Nat → Nat) (cB : Nat → ClassId) (n : Nat) (hd fm rp rq : Nat → Nat) (nw bf db sg wt : Nat → Int32) (ne dn : Nat → Bool) (r0 : Int32) (hy_0 : wiM r0 0 6 = false) : RdM l yX3_size wsX3_size ({ frames := 1, cells := 0, slots := 0, locals := 22 }) (dC, dI) vwCl (mdW b cB n hd fm rp rq nw bf db sg wt ne dn) (mdT cB) nstW [.ref (b 0), .int (r0)] ((-1)) := by
  refine Met.ofW (cc := cX3_size) (maxL := 2) (ret := (some .int)) (by decide) rfl ?_
  intro p e s m args below meth c s₁ B hml hv
  obtain ⟨rfl, hP, hK, hN⟩ := hv
  have hx := B.exec
  have hb := B.bytes
  have hr := B.returns
  have hts := atoms_spec (ws := wsX3_size) B.pre
  have hown : s.vm.findClass RX3 = some m.cls := findClass_of_methodNamed B.named
  have hlocks := B.notSynchronized
  have lf_22 := hts (.fieldLink RX3 22 "ViewKeeperModel" "now" "[I") (by decide +kernel)
  have in_X3 : ∀ w ∈ u_ws RX3 TX3 12, w ∈ wsX3_size := by decide +kernel
  have hl := lv_entry ([.ref (b 0), .int (r0)]) (n := 2) (Nat.le_of_ble_eq_true rfl)
  rw [lg_entry_eq]
  generalize (lg_sl ([.ref (b 0), .int (r0)]) ++ List.replicate (2 - (lg_sl ([.ref (b 0), .int (r0)])).length) Slot.unset).toArray = ls at hl ⊢
  have hl : lv_has ls 2 [(0, .ref (b 0)), (1, .int (r0))] := hl
  refine lv_iload_n hx hb dX3_size_0 rfl (lv_at hl 1 rfl) ?_
  refine lv_iconst (v := nI 0) hx hb dX3_size_1 (by decide) ?_
  refine lv_bipush (v := nI 6) hx hb dX3_size_2 (by decide) ?_
  refine hx_read (va_runS (As := [.int (r0), .int (nI 0), .int (nI 6)]) (rest := []) ⟨hx, hb, hml, hown, hts⟩ (c_X3_within l r0 0 6) (va_cwS 3 hts gX3_size_X3_within rfl rfl rfl (by decide +kernel) ⟨Nat.le_of_ble_eq_true rfl, Nat.le_of_ble_eq_true rfl⟩) (nu_S _) rfl rfl hl.1 rfl (lv_room (Nat.le_of_ble_eq_true rfl)) dX3_size_4 ⟨Nat.zero_le _, Nat.zero_le _⟩) ?_
  refine hx_ifB (tgt := 22) hx hb dX3_size_7 (by decide) (fun c_1 => ?_) (fun c_1 => ?_)
  · refine lv_iconst (v := (-1)) hx hb dX3_size_22 (by decide) ?_
    exact W.iret (v := (-1)) hx hb hr (fun t ht hW => ⟨_, rfl, rfl, ht⟩) (fun _ h => by cases h) dX3_size_23
  · exact absurd (hy_0.symm.trans c_1) (by decide)
set_option maxHeartbeats 4000000 in
set_option maxRecDepth 100000 in
theorem c_X3_size_g (l : Launch) (dC : Nat → ClassId) (dI : Nat → Nat → Nat) (b : Nat → Nat) (cB : Nat → ClassId) (n : Nat) (hd fm rp rq : Nat → Nat) (nw bf db sg wt : Nat → Int32) (ne dn : Nat → Bool) (r : Nat) (hy_0 : r < 7) : RdM l yX3_size wsX3_size ({ frames := 1, cells := 0, slots := 0, locals := 22 }) (dC, dI) vwCl (mdW b cB n hd fm rp rq nw bf db sg wt ne dn) (mdT cB) nstW [.ref (b 0), .int (nI r)] (nI (cntB (nw r) 25)) := by
  refine Met.ofW (cc := cX3_size) (maxL := 2) (ret := (some .int)) (by decide) rfl ?_
  intro p e s m args below meth c s₁ B hml hv
  obtain ⟨rfl, hP, hK, hN⟩ := hv
  have hx := B.exec
  have hb := B.bytes
  have hr := B.returns
  have hts := atoms_spec (ws := wsX3_size) B.pre
  have hown : s.vm.findClass RX3 = some m.cls := findClass_of_methodNamed B.named
  have hlocks := B.notSynchronized
  have kr : wiM (nI r) 0 6 = true := wiM_nI (by omega) (by omega) (by omega)
  have lf_22 := hts (.fieldLink RX3 22 "ViewKeeperModel" "now" "[I") (by decide +kernel)
  have in_X3 : ∀ w ∈ u_ws RX3 TX3 12, w ∈ wsX3_size := by decide +kernel
  have hl := lv_entry ([.ref (b 0), .int (nI r)]) (n := 2) (Nat.le_of_ble_eq_true rfl)
  rw [lg_entry_eq]
  generalize (lg_sl ([.ref (b 0), .int (nI r)]) ++ List.replicate (2 - (lg_sl ([.ref (b 0), .int (nI r)])).length) Slot.unset).toArray = ls at hl ⊢
  have hl : lv_has ls 2 [(0, .ref (b 0)), (1, .int (nI r))] := hl
  refine lv_iload_n hx hb dX3_size_0 rfl (lv_at hl 1 rfl) ?_
  refine lv_iconst (v := nI 0) hx hb dX3_size_1 (by decide) ?_
  refine lv_bipush (v := nI 6) hx hb dX3_size_2 (by decide) ?_
  refine hx_read (va_runS (As := [.int (nI r), .int (nI 0), .int (nI 6)]) (rest := []) ⟨hx, hb, hml, hown, hts⟩ (c_X3_within l (nI r) 0 6) (va_cwS 3 hts gX3_size_X3_within rfl rfl rfl (by decide +kernel) ⟨Nat.le_of_ble_eq_true rfl, Nat.le_of_ble_eq_true rfl⟩) (nu_S _) rfl rfl hl.1 rfl (lv_room (Nat.le_of_ble_eq_true rfl)) dX3_size_4 ⟨Nat.zero_le _, Nat.zero_le _⟩) ?_
  refine hx_ifB (tgt := 22) hx hb dX3_size_7 (by decide) (fun c_1 => ?_) (fun c_1 => ?_)
  · exact absurd (kr.symm.trans c_1) (by decide)
  · refine lv_aload_n hx hb dX3_size_10 rfl (lv_at hl 0 rfl) ?_
    refine va_get (D := (dC, dI)) (ci := 3) (v := .ref (b 5)) (C := RX3) (T := TX3) (N := 12) hx hb hts in_X3 hown hK hP 0 rfl rfl 5 (by decide) lf_22 (fun _ h9 => h9) rfl dX3_size_11 ?_
    refine lv_iload_n hx hb dX3_size_14 rfl (lv_at hl 1 rfl) ?_
    refine hx_iald hx hb hK hP 5 4 rfl rfl (by omega) (by omega) dX3_size_15 ?_
    refine hx_read (va_runS (As := [.int (nw r)]) (rest := []) ⟨hx, hb, hml, hown, hts⟩ (c_X3_ones l (nw r)) (va_cwS 1 hts gX3_size_X3_ones rfl rfl rfl (by decide +kernel) ⟨Nat.le_of_ble_eq_true rfl, Nat.le_of_ble_eq_true rfl⟩) (nu_S _) rfl rfl hl.1 rfl (lv_room (Nat.le_of_ble_eq_true rfl)) dX3_size_16 ⟨Nat.zero_le _, Nat.zero_le _⟩) ?_
    have hc_2 := cntB_le (nw r) 25
    refine lv_goto (tgt := 23) hx hb dX3_size_19 (by decide) ?_
    exact W.iret (v := nI (cntB (nw r) 25)) hx hb hr (fun t ht hW => ⟨_, rfl, rfl, ht⟩) (fun _ h => by cases h) dX3_size_23
set_option maxHeartbeats 4000000 in
set_option maxRecDepth 100000 in
theorem c_X3_recursive_b (l : Launch) (dC : Nat → ClassId) (dI : Nat → Nat → Nat) (b : Nat → Nat) (cB : Nat → ClassId) (n : Nat) (hd fm rp rq : Nat → Nat) (nw bf db sg wt : Nat → Int32) (ne dn : Nat → Bool) (r0 : Int32) (hy_0 : wiM r0 2 6 = false) : RdM l yX3_recursive wsX3_recursive ({ frames := 1, cells := 0, slots := 0, locals := 22 }) (dC, dI) vwCl (mdW b cB n hd fm rp rq nw bf db sg wt ne dn) (mdT cB) nstW [.ref (b 0), .int (r0)] (bI false) := by
  refine Met.ofW (cc := cX3_recursive) (maxL := 2) (ret := (some .boolean)) (by decide) rfl ?_
  intro p e s m args below meth c s₁ B hml hv
  obtain ⟨rfl, hP, hK, hN⟩ := hv
  have hx := B.exec
  have hb := B.bytes
  have hr := B.returns
  have hts := atoms_spec (ws := wsX3_recursive) B.pre
  have hown : s.vm.findClass RX3 = some m.cls := findClass_of_methodNamed B.named
  have hlocks := B.notSynchronized
  have lf_37 := hts (.fieldLink RX3 37 "ViewKeeperModel" "need" "[Z") (by decide +kernel)
  have in_X3 : ∀ w ∈ u_ws RX3 TX3 12, w ∈ wsX3_recursive := by decide +kernel
  have hl := lv_entry ([.ref (b 0), .int (r0)]) (n := 2) (Nat.le_of_ble_eq_true rfl)
  rw [lg_entry_eq]
  generalize (lg_sl ([.ref (b 0), .int (r0)]) ++ List.replicate (2 - (lg_sl ([.ref (b 0), .int (r0)])).length) Slot.unset).toArray = ls at hl ⊢
  have hl : lv_has ls 2 [(0, .ref (b 0)), (1, .int (r0))] := hl
  refine lv_iload_n hx hb dX3_recursive_0 rfl (lv_at hl 1 rfl) ?_
  refine lv_iconst (v := nI 2) hx hb dX3_recursive_1 (by decide) ?_
  refine lv_bipush (v := nI 6) hx hb dX3_recursive_2 (by decide) ?_
  refine hx_read (va_runS (As := [.int (r0), .int (nI 2), .int (nI 6)]) (rest := []) ⟨hx, hb, hml, hown, hts⟩ (c_X3_within l r0 2 6) (va_cwS 3 hts gX3_recursive_X3_within rfl rfl rfl (by decide +kernel) ⟨Nat.le_of_ble_eq_true rfl, Nat.le_of_ble_eq_true rfl⟩) (nu_S _) rfl rfl hl.1 rfl (lv_room (Nat.le_of_ble_eq_true rfl)) dX3_recursive_4 ⟨Nat.zero_le _, Nat.zero_le _⟩) ?_
  refine hx_ifB (tgt := 26) hx hb dX3_recursive_7 (by decide) (fun c_1 => ?_) (fun c_1 => ?_)
  · refine lv_iconst (v := nI 0) hx hb dX3_recursive_26 (by decide) ?_
    exact W.zret (v := nI 0) hx hb hr rfl (fun t ht hW => ⟨_, rfl, rfl, ht⟩) (fun _ h => by cases h) dX3_recursive_27
  · exact absurd (hy_0.symm.trans c_1) (by decide)
set_option maxHeartbeats 4000000 in
set_option maxRecDepth 100000 in
theorem c_X3_recursive_g (l : Launch) (dC : Nat → ClassId) (dI : Nat → Nat → Nat) (b : Nat → Nat) (cB : Nat → ClassId) (n : Nat) (hd fm rp rq : Nat → Nat) (nw bf db sg wt : Nat → Int32) (ne dn : Nat → Bool) (r : Nat) (hy_0 : 2 ≤ r) (hy_1 : r < 7) : RdM l yX3_recursive wsX3_recursive ({ frames := 1, cells := 0, slots := 0, locals := 22 }) (dC, dI) vwCl (mdW b cB n hd fm rp rq nw bf db sg wt ne dn) (mdT cB) nstW [.ref (b 0), .int (nI r)] (bI (ne (8 * r))) := by
  refine Met.ofW (cc := cX3_recursive) (maxL := 2) (ret := (some .boolean)) (by decide) rfl ?_
  intro p e s m args below meth c s₁ B hml hv
  obtain ⟨rfl, hP, hK, hN⟩ := hv
  have hx := B.exec
  have hb := B.bytes
  have hr := B.returns
  have hts := atoms_spec (ws := wsX3_recursive) B.pre
  have hown : s.vm.findClass RX3 = some m.cls := findClass_of_methodNamed B.named
  have hlocks := B.notSynchronized
  have kr : wiM (nI r) 2 6 = true := wiM_nI (by omega) (by omega) (by omega)
  have lf_37 := hts (.fieldLink RX3 37 "ViewKeeperModel" "need" "[Z") (by decide +kernel)
  have in_X3 : ∀ w ∈ u_ws RX3 TX3 12, w ∈ wsX3_recursive := by decide +kernel
  have hl := lv_entry ([.ref (b 0), .int (nI r)]) (n := 2) (Nat.le_of_ble_eq_true rfl)
  rw [lg_entry_eq]
  generalize (lg_sl ([.ref (b 0), .int (nI r)]) ++ List.replicate (2 - (lg_sl ([.ref (b 0), .int (nI r)])).length) Slot.unset).toArray = ls at hl ⊢
  have hl : lv_has ls 2 [(0, .ref (b 0)), (1, .int (nI r))] := hl
  refine lv_iload_n hx hb dX3_recursive_0 rfl (lv_at hl 1 rfl) ?_
  refine lv_iconst (v := nI 2) hx hb dX3_recursive_1 (by decide) ?_
  refine lv_bipush (v := nI 6) hx hb dX3_recursive_2 (by decide) ?_
  refine hx_read (va_runS (As := [.int (nI r), .int (nI 2), .int (nI 6)]) (rest := []) ⟨hx, hb, hml, hown, hts⟩ (c_X3_within l (nI r) 2 6) (va_cwS 3 hts gX3_recursive_X3_within rfl rfl rfl (by decide +kernel) ⟨Nat.le_of_ble_eq_true rfl, Nat.le_of_ble_eq_true rfl⟩) (nu_S _) rfl rfl hl.1 rfl (lv_room (Nat.le_of_ble_eq_true rfl)) dX3_recursive_4 ⟨Nat.zero_le _, Nat.zero_le _⟩) ?_
  refine hx_ifB (tgt := 26) hx hb dX3_recursive_7 (by decide) (fun c_1 => ?_) (fun c_1 => ?_)
  · exact absurd (kr.symm.trans c_1) (by decide)
  · refine lv_aload_n hx hb dX3_recursive_10 rfl (lv_at hl 0 rfl) ?_
    refine va_get (D := (dC, dI)) (ci := 3) (v := .ref (b 10)) (C := RX3) (T := TX3) (N := 12) hx hb hts in_X3 hown hK hP 0 rfl rfl 10 (by decide) lf_37 (fun _ h9 => h9) rfl dX3_recursive_11 ?_
    refine lv_bipush (v := nI 8) hx hb dX3_recursive_14 (by decide) ?_
    refine lv_iload_n hx hb dX3_recursive_16 rfl (lv_at hl 1 rfl) ?_
    refine hx_imul hx hb dX3_recursive_17 ?_
    refine hx_zald hx hb hK hP 10 9 rfl rfl (by omega) (by omega) dX3_recursive_18 ?_
    refine hx_ifB (tgt := 26) hx hb dX3_recursive_19 (by decide) (fun c_2 => ?_) (fun c_2 => ?_)
    · refine lv_iconst (v := nI 0) hx hb dX3_recursive_26 (by decide) ?_
      exact W.zret (v := nI 0) hx hb hr rfl (fun t ht hW => ⟨_, rfl, by rw [c_2]; rfl, ht⟩) (fun _ h => by cases h) dX3_recursive_27
    · refine lv_iconst (v := nI 1) hx hb dX3_recursive_22 (by decide) ?_
      refine lv_goto (tgt := 27) hx hb dX3_recursive_23 (by decide) ?_
      exact W.zret (v := nI 1) hx hb hr rfl (fun t ht hW => ⟨_, rfl, by rw [c_2]; rfl, ht⟩) (fun _ h => by cases h) dX3_recursive_27
set_option maxHeartbeats 4000000 in
set_option maxRecDepth 100000 in
theorem c_X3_needs_b (l : Launch) (dC : Nat → ClassId) (dI : Nat → Nat → Nat) (b : Nat → Nat) (cB : Nat → ClassId) (n : Nat) (hd fm rp rq : Nat → Nat) (nw bf db sg wt : Nat → Int32) (ne dn : Nat → Bool) (v0 r0 : Int32) (hy_0 : (wiM v0 2 6 && wiM r0 0 6) = false) : RdM l yX3_needs wsX3_needs ({ frames := 1, cells := 0, slots := 0, locals := 22 }) (dC, dI) vwCl (mdW b cB n hd fm rp rq nw bf db sg wt ne dn) (mdT cB) nstW [.ref (b 0), .int (v0), .int (r0)] (bI false) := by
  refine Met.ofW (cc := cX3_needs) (maxL := 3) (ret := (some .boolean)) (by decide) rfl ?_
  intro p e s m args below meth c s₁ B hml hv
  obtain ⟨rfl, hP, hK, hN⟩ := hv
  have hx := B.exec
  have hb := B.bytes
  have hr := B.returns
  have hts := atoms_spec (ws := wsX3_needs) B.pre
  have hown : s.vm.findClass RX3 = some m.cls := findClass_of_methodNamed B.named
  have hlocks := B.notSynchronized
  have lf_37 := hts (.fieldLink RX3 37 "ViewKeeperModel" "need" "[Z") (by decide +kernel)
  have in_X3 : ∀ w ∈ u_ws RX3 TX3 12, w ∈ wsX3_needs := by decide +kernel
  have hl := lv_entry ([.ref (b 0), .int (v0), .int (r0)]) (n := 3) (Nat.le_of_ble_eq_true rfl)
  rw [lg_entry_eq]
  generalize (lg_sl ([.ref (b 0), .int (v0), .int (r0)]) ++ List.replicate (3 - (lg_sl ([.ref (b 0), .int (v0), .int (r0)])).length) Slot.unset).toArray = ls at hl ⊢
  have hl : lv_has ls 3 [(0, .ref (b 0)), (1, .int (v0)), (2, .int (r0))] := hl
  refine lv_iload_n hx hb dX3_needs_0 rfl (lv_at hl 1 rfl) ?_
  refine lv_iconst (v := nI 2) hx hb dX3_needs_1 (by decide) ?_
  refine lv_bipush (v := nI 6) hx hb dX3_needs_2 (by decide) ?_
  refine hx_read (va_runS (As := [.int (v0), .int (nI 2), .int (nI 6)]) (rest := []) ⟨hx, hb, hml, hown, hts⟩ (c_X3_within l v0 2 6) (va_cwS 3 hts gX3_needs_X3_within rfl rfl rfl (by decide +kernel) ⟨Nat.le_of_ble_eq_true rfl, Nat.le_of_ble_eq_true rfl⟩) (nu_S _) rfl rfl hl.1 rfl (lv_room (Nat.le_of_ble_eq_true rfl)) dX3_needs_4 ⟨Nat.zero_le _, Nat.zero_le _⟩) ?_
  refine hx_ifB (tgt := 38) hx hb dX3_needs_7 (by decide) (fun c_1 => ?_) (fun c_1 => ?_)
  · refine lv_iconst (v := nI 0) hx hb dX3_needs_38 (by decide) ?_
    exact W.zret (v := nI 0) hx hb hr rfl (fun t ht hW => ⟨_, rfl, rfl, ht⟩) (fun _ h => by cases h) dX3_needs_39
  · refine lv_iload_n hx hb dX3_needs_10 rfl (lv_at hl 2 rfl) ?_
    refine lv_iconst (v := nI 0) hx hb dX3_needs_11 (by decide) ?_
    refine lv_bipush (v := nI 6) hx hb dX3_needs_12 (by decide) ?_
    refine hx_read (va_runS (As := [.int (r0), .int (nI 0), .int (nI 6)]) (rest := []) ⟨hx, hb, hml, hown, hts⟩ (c_X3_within l r0 0 6) (va_cwS 3 hts gX3_needs_X3_within rfl rfl rfl (by decide +kernel) ⟨Nat.le_of_ble_eq_true rfl, Nat.le_of_ble_eq_true rfl⟩) (nu_S _) rfl rfl hl.1 rfl (lv_room (Nat.le_of_ble_eq_true rfl)) dX3_needs_14 ⟨Nat.zero_le _, Nat.zero_le _⟩) ?_
    refine hx_ifB (tgt := 38) hx hb dX3_needs_17 (by decide) (fun c_2 => ?_) (fun c_2 => ?_)
    · refine lv_iconst (v := nI 0) hx hb dX3_needs_38 (by decide) ?_
      exact W.zret (v := nI 0) hx hb hr rfl (fun t ht hW => ⟨_, rfl, rfl, ht⟩) (fun _ h => by cases h) dX3_needs_39
    · exact absurd hy_0 (by simp [c_1, c_2])
set_option maxHeartbeats 4000000 in
set_option maxRecDepth 100000 in
theorem c_X3_needs_g (l : Launch) (dC : Nat → ClassId) (dI : Nat → Nat → Nat) (b : Nat → Nat) (cB : Nat → ClassId) (n : Nat) (hd fm rp rq : Nat → Nat) (nw bf db sg wt : Nat → Int32) (ne dn : Nat → Bool) (v r : Nat) (hy_0 : 2 ≤ v) (hy_1 : v < 7) (hy_2 : r < 7) : RdM l yX3_needs wsX3_needs ({ frames := 1, cells := 0, slots := 0, locals := 22 }) (dC, dI) vwCl (mdW b cB n hd fm rp rq nw bf db sg wt ne dn) (mdT cB) nstW [.ref (b 0), .int (nI v), .int (nI r)] (bI (ne (7 * v + r))) := by
  refine Met.ofW (cc := cX3_needs) (maxL := 3) (ret := (some .boolean)) (by decide) rfl ?_
  intro p e s m args below meth c s₁ B hml hv
  obtain ⟨rfl, hP, hK, hN⟩ := hv
  have hx := B.exec
  have hb := B.bytes
  have hr := B.returns
  have hts := atoms_spec (ws := wsX3_needs) B.pre
  have hown : s.vm.findClass RX3 = some m.cls := findClass_of_methodNamed B.named
  have hlocks := B.notSynchronized
  have kv : wiM (nI v) 2 6 = true := wiM_nI (by omega) (by omega) (by omega)
  have kr : wiM (nI r) 0 6 = true := wiM_nI (by omega) (by omega) (by omega)
  have lf_37 := hts (.fieldLink RX3 37 "ViewKeeperModel" "need" "[Z") (by decide +kernel)
  have in_X3 : ∀ w ∈ u_ws RX3 TX3 12, w ∈ wsX3_needs := by decide +kernel
  have hl := lv_entry ([.ref (b 0), .int (nI v), .int (nI r)]) (n := 3) (Nat.le_of_ble_eq_true rfl)
  rw [lg_entry_eq]
  generalize (lg_sl ([.ref (b 0), .int (nI v), .int (nI r)]) ++ List.replicate (3 - (lg_sl ([.ref (b 0), .int (nI v), .int (nI r)])).length) Slot.unset).toArray = ls at hl ⊢
  have hl : lv_has ls 3 [(0, .ref (b 0)), (1, .int (nI v)), (2, .int (nI r))] := hl
  refine lv_iload_n hx hb dX3_needs_0 rfl (lv_at hl 1 rfl) ?_
  refine lv_iconst (v := nI 2) hx hb dX3_needs_1 (by decide) ?_
  refine lv_bipush (v := nI 6) hx hb dX3_needs_2 (by decide) ?_
  refine hx_read (va_runS (As := [.int (nI v), .int (nI 2), .int (nI 6)]) (rest := []) ⟨hx, hb, hml, hown, hts⟩ (c_X3_within l (nI v) 2 6) (va_cwS 3 hts gX3_needs_X3_within rfl rfl rfl (by decide +kernel) ⟨Nat.le_of_ble_eq_true rfl, Nat.le_of_ble_eq_true rfl⟩) (nu_S _) rfl rfl hl.1 rfl (lv_room (Nat.le_of_ble_eq_true rfl)) dX3_needs_4 ⟨Nat.zero_le _, Nat.zero_le _⟩) ?_
  refine hx_ifB (tgt := 38) hx hb dX3_needs_7 (by decide) (fun c_1 => ?_) (fun c_1 => ?_)
  · exact absurd (kv.symm.trans c_1) (by decide)
  · refine lv_iload_n hx hb dX3_needs_10 rfl (lv_at hl 2 rfl) ?_
    refine lv_iconst (v := nI 0) hx hb dX3_needs_11 (by decide) ?_
    refine lv_bipush (v := nI 6) hx hb dX3_needs_12 (by decide) ?_
    refine hx_read (va_runS (As := [.int (nI r), .int (nI 0), .int (nI 6)]) (rest := []) ⟨hx, hb, hml, hown, hts⟩ (c_X3_within l (nI r) 0 6) (va_cwS 3 hts gX3_needs_X3_within rfl rfl rfl (by decide +kernel) ⟨Nat.le_of_ble_eq_true rfl, Nat.le_of_ble_eq_true rfl⟩) (nu_S _) rfl rfl hl.1 rfl (lv_room (Nat.le_of_ble_eq_true rfl)) dX3_needs_14 ⟨Nat.zero_le _, Nat.zero_le _⟩) ?_
    refine hx_ifB (tgt := 38) hx hb dX3_needs_17 (by decide) (fun c_2 => ?_) (fun c_2 => ?_)
    · exact absurd (kr.symm.trans c_2) (by decide)
    · refine lv_aload_n hx hb dX3_needs_20 rfl (lv_at hl 0 rfl) ?_
      refine va_get (D := (dC, dI)) (ci := 3) (v := .ref (b 10)) (C := RX3) (T := TX3) (N := 12) hx hb hts in_X3 hown hK hP 0 rfl rfl 10 (by decide) lf_37 (fun _ h9 => h9) rfl dX3_needs_21 ?_
      refine lv_bipush (v := nI 7) hx hb dX3_needs_24 (by decide) ?_
      refine lv_iload_n hx hb dX3_needs_26 rfl (lv_at hl 1 rfl) ?_
      refine hx_imul hx hb dX3_needs_27 ?_
      refine lv_iload_n hx hb dX3_needs_28 rfl (lv_at hl 2 rfl) ?_
      refine hx_iadd hx hb dX3_needs_29 ?_
      refine hx_zald hx hb hK hP 10 9 rfl rfl (by omega) (by omega) dX3_needs_30 ?_
      refine hx_ifB (tgt := 38) hx hb dX3_needs_31 (by decide) (fun c_3 => ?_) (fun c_3 => ?_)
      · refine lv_iconst (v := nI 0) hx hb dX3_needs_38 (by decide) ?_
        exact W.zret (v := nI 0) hx hb hr rfl (fun t ht hW => ⟨_, rfl, by rw [c_3]; rfl, ht⟩) (fun _ h => by cases h) dX3_needs_39
      · refine lv_iconst (v := nI 1) hx hb dX3_needs_34 (by decide) ?_
        refine lv_goto (tgt := 39) hx hb dX3_needs_35 (by decide) ?_
        exact W.zret (v := nI 1) hx hb hr rfl (fun t ht hW => ⟨_, rfl, by rw [c_3]; rfl, ht⟩) (fun _ h => by cases h) dX3_needs_39
set_option maxHeartbeats 4000000 in
set_option maxRecDepth 100000 in
theorem c_X3_rules (l : Launch) (dC : Nat → ClassId) (dI : Nat → Nat → Nat) (b : Nat → Nat) (cB : Nat → ClassId) (n : Nat) (hd fm rp rq : Nat → Nat) (nw bf db sg wt : Nat → Int32) (ne dn : Nat → Bool)  : RdM l yX3_rules wsX3_rules ({ frames := 0, cells := 0, slots := 0, locals := 0 }) (dC, dI) vwCl (mdW b cB n hd fm rp rq nw bf db sg wt ne dn) (mdT cB) nstW [.ref (b 0)] (nI n) := by
  refine Met.ofW (cc := cX3_rules) (maxL := 1) (ret := (some .int)) (by decide) rfl ?_
  intro p e s m args below meth c s₁ B hml hv
  obtain ⟨rfl, hP, hK, hN⟩ := hv
  have hx := B.exec
  have hb := B.bytes
  have hr := B.returns
  have hts := atoms_spec (ws := wsX3_rules) B.pre
  have hown : s.vm.findClass RX3 = some m.cls := findClass_of_methodNamed B.named
  have hlocks := B.notSynchronized
  have lf_44 := hts (.fieldLink RX3 44 "ViewKeeperModel" "count" "I") (by decide +kernel)
  have in_X3 : ∀ w ∈ u_ws RX3 TX3 12, w ∈ wsX3_rules := by decide +kernel
  have hl := lv_entry ([.ref (b 0)]) (n := 1) (Nat.le_of_ble_eq_true rfl)
  rw [lg_entry_eq]
  generalize (lg_sl ([.ref (b 0)]) ++ List.replicate (1 - (lg_sl ([.ref (b 0)])).length) Slot.unset).toArray = ls at hl ⊢
  have hl : lv_has ls 1 [(0, .ref (b 0))] := hl
  refine lv_aload_n hx hb dX3_rules_0 rfl (lv_at hl 0 rfl) ?_
  refine va_get (D := (dC, dI)) (ci := 3) (v := .int (nI n)) (C := RX3) (T := TX3) (N := 12) hx hb hts in_X3 hown hK hP 0 rfl rfl 0 (by decide) lf_44 (fun _ h9 => h9) rfl dX3_rules_1 ?_
  exact W.iret (v := nI n) hx hb hr (fun t ht hW => ⟨_, rfl, rfl, ht⟩) (fun _ h => by cases h) dX3_rules_4
set_option maxHeartbeats 4000000 in
set_option maxRecDepth 100000 in
theorem c_X3_changed_b (l : Launch) (dC : Nat → ClassId) (dI : Nat → Nat → Nat) (b : Nat → Nat) (cB : Nat → ClassId) (n : Nat) (hd fm rp rq : Nat → Nat) (nw bf db sg wt : Nat → Int32) (ne dn : Nat → Bool) (r0 w0 : Int32) (hy_0 : (wiM r0 0 6 && wiM w0 0 3) = false) : RdM l yX3_changed wsX3_changed ({ frames := 1, cells := 0, slots := 0, locals := 22 }) (dC, dI) vwCl (mdW b cB n hd fm rp rq nw bf db sg wt ne dn) (mdT cB) nstW [.ref (b 0), .int (r0), .int (w0)] ((-1)) := by
  refine Met.ofW (cc := cX3_changed) (maxL := 3) (ret := (some .int)) (by decide) rfl ?_
  intro p e s m args below meth c s₁ B hml hv
  obtain ⟨rfl, hP, hK, hN⟩ := hv
  have hx := B.exec
  have hb := B.bytes
  have hr := B.returns
  have hts := atoms_spec (ws := wsX3_changed) B.pre
  have hown : s.vm.findClass RX3 = some m.cls := findClass_of_methodNamed B.named
  have hlocks := B.notSynchronized
  have lf_28 := hts (.fieldLink RX3 28 "ViewKeeperModel" "doubt" "[I") (by decide +kernel)
  have in_X3 : ∀ w ∈ u_ws RX3 TX3 12, w ∈ wsX3_changed := by decide +kernel
  have lf_22 := hts (.fieldLink RX3 22 "ViewKeeperModel" "now" "[I") (by decide +kernel)
  have hl := lv_entry ([.ref (b 0), .int (r0), .int (w0)]) (n := 3) (Nat.le_of_ble_eq_true rfl)
  rw [lg_entry_eq]
  generalize (lg_sl ([.ref (b 0), .int (r0), .int (w0)]) ++ List.replicate (3 - (lg_sl ([.ref (b 0), .int (r0), .int (w0)])).length) Slot.unset).toArray = ls at hl ⊢
  have hl : lv_has ls 3 [(0, .ref (b 0)), (1, .int (r0)), (2, .int (w0))] := hl
  refine lv_iload_n hx hb dX3_changed_0 rfl (lv_at hl 1 rfl) ?_
  refine lv_iconst (v := nI 0) hx hb dX3_changed_1 (by decide) ?_
  refine lv_bipush (v := nI 6) hx hb dX3_changed_2 (by decide) ?_
  refine hx_read (va_runS (As := [.int (r0), .int (nI 0), .int (nI 6)]) (rest := []) ⟨hx, hb, hml, hown, hts⟩ (c_X3_within l r0 0 6) (va_cwS 3 hts gX3_changed_X3_within rfl rfl rfl (by decide +kernel) ⟨Nat.le_of_ble_eq_true rfl, Nat.le_of_ble_eq_true rfl⟩) (nu_S _) rfl rfl hl.1 rfl (lv_room (Nat.le_of_ble_eq_true rfl)) dX3_changed_4 ⟨Nat.zero_le _, Nat.zero_le _⟩) ?_
  refine hx_ifB (tgt := 19) hx hb dX3_changed_7 (by decide) (fun c_1 => ?_) (fun c_1 => ?_)
  · refine lv_iconst (v := (-1)) hx hb dX3_changed_19 (by decide) ?_
    exact W.iret (v := (-1)) hx hb hr (fun t ht hW => ⟨_, rfl, rfl, ht⟩) (fun _ h => by cases h) dX3_changed_20
  · refine lv_iload_n hx hb dX3_changed_10 rfl (lv_at hl 2 rfl) ?_
    refine lv_iconst (v := nI 0) hx hb dX3_changed_11 (by decide) ?_
    refine lv_iconst (v := nI 3) hx hb dX3_changed_12 (by decide) ?_
    refine hx_read (va_runS (As := [.int (w0), .int (nI 0), .int (nI 3)]) (rest := []) ⟨hx, hb, hml, hown, hts⟩ (c_X3_within l w0 0 3) (va_cwS 3 hts gX3_changed_X3_within rfl rfl rfl (by decide +kernel) ⟨Nat.le_of_ble_eq_true rfl, Nat.le_of_ble_eq_true rfl⟩) (nu_S _) rfl rfl hl.1 rfl (lv_room (Nat.le_of_ble_eq_true rfl)) dX3_changed_13 ⟨Nat.zero_le _, Nat.zero_le _⟩) ?_
    refine hx_ifnB (tgt := 21) hx hb dX3_changed_16 (by decide) (fun c_2 => ?_) (fun c_2 => ?_)
    · exact absurd hy_0 (by simp [c_1, c_2])
    · refine lv_iconst (v := (-1)) hx hb dX3_changed_19 (by decide) ?_
      exact W.iret (v := (-1)) hx hb hr (fun t ht hW => ⟨_, rfl, rfl, ht⟩) (fun _ h => by cases h) dX3_changed_20
set_option maxHeartbeats 4000000 in
set_option maxRecDepth 100000 in
theorem c_X3_changed_g (l : Launch) (dC : Nat → ClassId) (dI : Nat → Nat → Nat) (b : Nat → Nat) (cB : Nat → ClassId) (n : Nat) (hd fm rp rq : Nat → Nat) (nw bf db sg wt : Nat → Int32) (ne dn : Nat → Bool) (r w : Nat) (hy_0 : r < 7) (hy_1 : w < 4) : RdM l yX3_changed wsX3_changed ({ frames := 1, cells := 0, slots := 0, locals := 22 }) (dC, dI) vwCl (mdW b cB n hd fm rp rq nw bf db sg wt ne dn) (mdT cB) nstW [.ref (b 0), .int (nI r), .int (nI w)] (nI (cntB (chgN nw bf db r w) 25)) := by
  refine Met.ofW (cc := cX3_changed) (maxL := 3) (ret := (some .int)) (by decide) rfl ?_
  intro p e s m args below meth c s₁ B hml hv
  obtain ⟨rfl, hP, hK, hN⟩ := hv
  have hx := B.exec
  have hb := B.bytes
  have hr := B.returns
  have hts := atoms_spec (ws := wsX3_changed) B.pre
  have hown : s.vm.findClass RX3 = some m.cls := findClass_of_methodNamed B.named
  have hlocks := B.notSynchronized
  have kr : wiM (nI r) 0 6 = true := wiM_nI (by omega) (by omega) (by omega)
  have kw : wiM (nI w) 0 3 = true := wiM_nI (by omega) (by omega) (by omega)
  have lf_28 := hts (.fieldLink RX3 28 "ViewKeeperModel" "doubt" "[I") (by decide +kernel)
  have in_X3 : ∀ w ∈ u_ws RX3 TX3 12, w ∈ wsX3_changed := by decide +kernel
  have lf_22 := hts (.fieldLink RX3 22 "ViewKeeperModel" "now" "[I") (by decide +kernel)
  have hl := lv_entry ([.ref (b 0), .int (nI r), .int (nI w)]) (n := 3) (Nat.le_of_ble_eq_true rfl)
  rw [lg_entry_eq]
  generalize (lg_sl ([.ref (b 0), .int (nI r), .int (nI w)]) ++ List.replicate (3 - (lg_sl ([.ref (b 0), .int (nI r), .int (nI w)])).length) Slot.unset).toArray = ls at hl ⊢
  have hl : lv_has ls 3 [(0, .ref (b 0)), (1, .int (nI r)), (2, .int (nI w))] := hl
  refine lv_iload_n hx hb dX3_changed_0 rfl (lv_at hl 1 rfl) ?_
  refine lv_iconst (v := nI 0) hx hb dX3_changed_1 (by decide) ?_
  refine lv_bipush (v := nI 6) hx hb dX3_changed_2 (by decide) ?_
  refine hx_read (va_runS (As := [.int (nI r), .int (nI 0), .int (nI 6)]) (rest := []) ⟨hx, hb, hml, hown, hts⟩ (c_X3_within l (nI r) 0 6) (va_cwS 3 hts gX3_changed_X3_within rfl rfl rfl (by decide +kernel) ⟨Nat.le_of_ble_eq_true rfl, Nat.le_of_ble_eq_true rfl⟩) (nu_S _) rfl rfl hl.1 rfl (lv_room (Nat.le_of_ble_eq_true rfl)) dX3_changed_4 ⟨Nat.zero_le _, Nat.zero_le _⟩) ?_
  refine hx_ifB (tgt := 19) hx hb dX3_changed_7 (by decide) (fun c_1 => ?_) (fun c_1 => ?_)
  · exact absurd (kr.symm.trans c_1) (by decide)
  · refine lv_iload_n hx hb dX3_changed_10 rfl (lv_at hl 2 rfl) ?_
    refine lv_iconst (v := nI 0) hx hb dX3_changed_11 (by decide) ?_
    refine lv_iconst (v := nI 3) hx hb dX3_changed_12 (by decide) ?_
    refine hx_read (va_runS (As := [.int (nI w), .int (nI 0), .int (nI 3)]) (rest := []) ⟨hx, hb, hml, hown, hts⟩ (c_X3_within l (nI w) 0 3) (va_cwS 3 hts gX3_changed_X3_within rfl rfl rfl (by decide +kernel) ⟨Nat.le_of_ble_eq_true rfl, Nat.le_of_ble_eq_true rfl⟩) (nu_S _) rfl rfl hl.1 rfl (lv_room (Nat.le_of_ble_eq_true rfl)) dX3_changed_13 ⟨Nat.zero_le _, Nat.zero_le _⟩) ?_
    refine hx_ifnB (tgt := 21) hx hb dX3_changed_16 (by decide) (fun c_2 => ?_) (fun c_2 => ?_)
    · refine lv_iload_n hx hb dX3_changed_21 rfl (lv_at hl 2 rfl) ?_
      refine hx_ifn0 (tgt := 33) hx hb dX3_changed_22 (by decide) (by omega) (fun c_3 => ?_) (fun c_3 => ?_)
      · refine lv_iload_n hx hb dX3_changed_33 rfl (lv_at hl 2 rfl) ?_
        refine lv_iconst (v := nI 1) hx hb dX3_changed_34 (by decide) ?_
        refine hx_neN (tgt := 46) hx hb dX3_changed_35 (by decide) (by omega) (by omega) (fun c_4 => ?_) (fun c_4 => ?_)
        · refine lv_iload_n hx hb dX3_changed_46 rfl (lv_at hl 2 rfl) ?_
          refine lv_iconst (v := nI 2) hx hb dX3_changed_47 (by decide) ?_
          refine hx_neN (tgt := 60) hx hb dX3_changed_48 (by decide) (by omega) (by omega) (fun c_5 => ?_) (fun c_5 => ?_)
          · refine lv_aload_n hx hb dX3_changed_60 rfl (lv_at hl 0 rfl) ?_
            refine va_get (D := (dC, dI)) (ci := 3) (v := .ref (b 7)) (C := RX3) (T := TX3) (N := 12) hx hb hts in_X3 hown hK hP 0 rfl rfl 7 (by decide) lf_28 (fun _ h9 => h9) rfl dX3_changed_61 ?_
            refine lv_iload_n hx hb dX3_changed_64 rfl (lv_at hl 1 rfl) ?_
            refine hx_iald hx hb hK hP 7 6 rfl rfl (by omega) (by omega) dX3_changed_65 ?_
            refine lv_aload_n hx hb dX3_changed_66 rfl (lv_at hl 0 rfl) ?_
            refine va_get (D := (dC, dI)) (ci := 3) (v := .ref (b 5)) (C := RX3) (T := TX3) (N := 12) hx hb hts in_X3 hown hK hP 0 rfl rfl 5 (by decide) lf_22 (fun _ h9 => h9) rfl dX3_changed_67 ?_
            refine lv_iload_n hx hb dX3_changed_70 rfl (lv_at hl 1 rfl) ?_
            refine hx_iald hx hb hK hP 5 4 rfl rfl (by omega) (by omega) dX3_changed_71 ?_
            refine lv_iand hx hb dX3_changed_72 ?_
            refine hx_read (va_runS (As := [.int ((db r) &&& (nw r))]) (rest := []) ⟨hx, hb, hml, hown, hts⟩ (c_X3_ones l ((db r) &&& (nw r))) (va_cwS 1 hts gX3_changed_X3_ones rfl rfl rfl (by decide +kernel) ⟨Nat.le_of_ble_eq_true rfl, Nat.le_of_ble_eq_true rfl⟩) (nu_S _) rfl rfl hl.1 rfl (lv_room (Nat.le_of_ble_eq_true rfl)) dX3_changed_73 ⟨Nat.zero_le _, Nat.zero_le _⟩) ?_
            have hc_6 := cntB_le ((db r) &&& (nw r)) 25
            exact W.iret (v := nI (cntB ((db r) &&& (nw r)) 25)) hx hb hr (fun t ht hW => ⟨_, rfl, by simp [chgN, c_1, c_2, c_3, c_4, c_5], ht⟩) (fun _ h => by cases h) dX3_changed_76
          · refine lv_aload_n hx hb dX3_changed_51 rfl (lv_at hl 0 rfl) ?_
            refine va_get (D := (dC, dI)) (ci := 3) (v := .ref (b 7)) (C := RX3) (T := TX3) (N := 12) hx hb hts in_X3 hown hK hP 0 rfl rfl 7 (by decide) lf_28 (fun _ h9 => h9) rfl dX3_changed_52 ?_
            refine lv_iload_n hx hb dX3_changed_55 rfl (lv_at hl 1 rfl) ?_
            refine hx_iald hx hb hK hP 7 6 rfl rfl (by omega) (by omega) dX3_changed_56 ?_
            refine lv_goto (tgt := 73) hx hb dX3_changed_57 (by decide) ?_
            refine hx_read (va_runS (As := [.int (db r)]) (rest := []) ⟨hx, hb, hml, hown, hts⟩ (c_X3_ones l (db r)) (va_cwS 1 hts gX3_changed_X3_ones rfl rfl rfl (by decide +kernel) ⟨Nat.le_of_ble_eq_true rfl, Nat.le_of_ble_eq_true rfl⟩) (nu_S _) rfl rfl hl.1 rfl (lv_room (Nat.le_of_ble_eq_true rfl)) dX3_changed_73 ⟨Nat.zero_le _, Nat.zero_le _⟩) ?_
            have hc_7 := cntB_le (db r) 25
            exact W.iret (v := nI (cntB (db r) 25)) hx hb hr (fun t ht hW => ⟨_, rfl, by simp [chgN, c_1, c_2, c_3, c_4, c_5], ht⟩) (fun _ h => by cases h) dX3_changed_76
        · refine lv_aload_n hx hb dX3_changed_38 rfl (lv_at hl 0 rfl) ?_
          refine lv_iload_n hx hb dX3_changed_39 rfl (lv_at hl 1 rfl) ?_
          refine hx_read (va_runV (As := [.int (nI r)]) (rest := []) ⟨hx, hb, hml, hown, hts⟩ (c_X3_taken l dC dI b cB n hd fm rp rq nw bf db sg wt ne dn r (by omega)) (cwV 1 hts gX3_changed_X3_taken rfl rfl rfl (by decide +kernel) ⟨Nat.le_of_ble_eq_true rfl, Nat.le_of_ble_eq_true rfl⟩) (rd_V nstW_ok hP hK hN 0 rfl rfl _) rfl rfl hl.1 rfl (lv_room (Nat.le_of_ble_eq_true rfl)) dX3_changed_40 ⟨Nat.zero_le _, Nat.zero_le _⟩) ?_
          refine lv_goto (tgt := 73) hx hb dX3_changed_43 (by decide) ?_
          refine hx_read (va_runS (As := [.int (takM nw bf r)]) (rest := []) ⟨hx, hb, hml, hown, hts⟩ (c_X3_ones l (takM nw bf r)) (va_cwS 1 hts gX3_changed_X3_ones rfl rfl rfl (by decide +kernel) ⟨Nat.le_of_ble_eq_true rfl, Nat.le_of_ble_eq_true rfl⟩) (nu_S _) rfl rfl hl.1 rfl (lv_room (Nat.le_of_ble_eq_true rfl)) dX3_changed_73 ⟨Nat.zero_le _, Nat.zero_le _⟩) ?_
          have hc_8 := cntB_le (takM nw bf r) 25
          exact W.iret (v := nI (cntB (takM nw bf r) 25)) hx hb hr (fun t ht hW => ⟨_, rfl, by simp [chgN, c_1, c_2, c_3, c_4], ht⟩) (fun _ h => by cases h) dX3_changed_76
      · refine lv_aload_n hx hb dX3_changed_25 rfl (lv_at hl 0 rfl) ?_
        refine lv_iload_n hx hb dX3_changed_26 rfl (lv_at hl 1 rfl) ?_
        refine hx_read (va_runV (As := [.int (nI r)]) (rest := []) ⟨hx, hb, hml, hown, hts⟩ (c_X3_added l dC dI b cB n hd fm rp rq nw bf db sg wt ne dn r (by omega)) (cwV 1 hts gX3_changed_X3_added rfl rfl rfl (by decide +kernel) ⟨Nat.le_of_ble_eq_true rfl, Nat.le_of_ble_eq_true rfl⟩) (rd_V nstW_ok hP hK hN 0 rfl rfl _) rfl rfl hl.1 rfl (lv_room (Nat.le_of_ble_eq_true rfl)) dX3_changed_27 ⟨Nat.zero_le _, Nat.zero_le _⟩) ?_
        refine lv_goto (tgt := 73) hx hb dX3_changed_30 (by decide) ?_
        refine hx_read (va_runS (As := [.int (putM nw bf r)]) (rest := []) ⟨hx, hb, hml, hown, hts⟩ (c_X3_ones l (putM nw bf r)) (va_cwS 1 hts gX3_changed_X3_ones rfl rfl rfl (by decide +kernel) ⟨Nat.le_of_ble_eq_true rfl, Nat.le_of_ble_eq_true rfl⟩) (nu_S _) rfl rfl hl.1 rfl (lv_room (Nat.le_of_ble_eq_true rfl)) dX3_changed_73 ⟨Nat.zero_le _, Nat.zero_le _⟩) ?_
        have hc_9 := cntB_le (putM nw bf r) 25
        exact W.iret (v := nI (cntB (putM nw bf r) 25)) hx hb hr (fun t ht hW => ⟨_, rfl, by simp [chgN, c_1, c_2, c_3], ht⟩) (fun _ h => by cases h) dX3_changed_76
    · exact absurd (kw.symm.trans c_2) (by decide)

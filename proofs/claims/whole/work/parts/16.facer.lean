/-! the keeper's face: what only reads -/
set_option maxHeartbeats 4000000 in
set_option maxRecDepth 100000 in
theorem c_X2_has_b (l : Launch) (dC : Nat → ClassId) (dI : Nat → Nat → Nat) (a : Nat → Nat) (cA : Nat → ClassId) (n : Nat) (hd fm rp rq : Nat → Nat) (nd nw bf su sI sO ct : Nat → Int32) (r0 x0 y0 : Int32) (hy_0 : prGood r0 x0 y0 = false) : RdM l yX2_has wsX2_has ({ frames := 1, cells := 0, slots := 0, locals := 22 }) (dC, dI) vwCl (vkW a cA n hd fm rp rq nd nw bf su sI sO ct) (vkT cA) nstW [.ref (a 0), .int (r0), .int (x0), .int (y0)] (bI false) := by
  refine Met.ofW (cc := cX2_has) (maxL := 4) (ret := (some .boolean)) (by decide) rfl ?_
  intro p e s m args below meth c s₁ B hml hv
  obtain ⟨rfl, hP, hK, hN⟩ := hv
  have hx := B.exec
  have hb := B.bytes
  have hr := B.returns
  have hts := atoms_spec (ws := wsX2_has) B.pre
  have hown : s.vm.findClass RX2 = some m.cls := findClass_of_methodNamed B.named
  have hlocks := B.notSynchronized
  have lf_16 := hts (.fieldLink RX2 16 "ViewKeeper" "now" "[I") (by decide +kernel)
  have in_X2 : ∀ w ∈ u_ws RX2 TX2 7, w ∈ wsX2_has := by decide +kernel
  have hl := lv_entry ([.ref (a 0), .int (r0), .int (x0), .int (y0)]) (n := 4) (Nat.le_of_ble_eq_true rfl)
  rw [lg_entry_eq]
  generalize (lg_sl ([.ref (a 0), .int (r0), .int (x0), .int (y0)]) ++ List.replicate (4 - (lg_sl ([.ref (a 0), .int (r0), .int (x0), .int (y0)])).length) Slot.unset).toArray = ls at hl ⊢
  have hl : lv_has ls 4 [(0, .ref (a 0)), (1, .int (r0)), (2, .int (x0)), (3, .int (y0))] := hl
  refine lv_iload_n hx hb dX2_has_0 rfl (lv_at hl 1 rfl) ?_
  refine hx_read (va_runS (As := [.int (r0)]) (rest := []) ⟨hx, hb, hml, hown, hts⟩ (c_X2_isRelation l r0) (va_cwS 1 hts gX2_has_X2_isRelation rfl rfl rfl (by decide +kernel) ⟨Nat.le_of_ble_eq_true rfl, Nat.le_of_ble_eq_true rfl⟩) (nu_S _) rfl rfl hl.1 rfl (lv_room (Nat.le_of_ble_eq_true rfl)) dX2_has_1 ⟨Nat.zero_le _, Nat.zero_le _⟩) ?_
  refine hx_ifB (tgt := 39) hx hb dX2_has_4 (by decide) (fun c_1 => ?_) (fun c_1 => ?_)
  · refine lv_iconst (v := nI 0) hx hb dX2_has_39 (by decide) ?_
    exact W.zret (v := nI 0) hx hb hr rfl (fun t ht hW => ⟨_, rfl, rfl, ht⟩) (fun _ h => by cases h) dX2_has_40
  · refine lv_iload_n hx hb dX2_has_7 rfl (lv_at hl 2 rfl) ?_
    refine hx_read (va_runS (As := [.int (x0)]) (rest := []) ⟨hx, hb, hml, hown, hts⟩ (c_X2_isThing l x0) (va_cwS 1 hts gX2_has_X2_isThing rfl rfl rfl (by decide +kernel) ⟨Nat.le_of_ble_eq_true rfl, Nat.le_of_ble_eq_true rfl⟩) (nu_S _) rfl rfl hl.1 rfl (lv_room (Nat.le_of_ble_eq_true rfl)) dX2_has_8 ⟨Nat.zero_le _, Nat.zero_le _⟩) ?_
    refine hx_ifB (tgt := 39) hx hb dX2_has_11 (by decide) (fun c_2 => ?_) (fun c_2 => ?_)
    · refine lv_iconst (v := nI 0) hx hb dX2_has_39 (by decide) ?_
      exact W.zret (v := nI 0) hx hb hr rfl (fun t ht hW => ⟨_, rfl, rfl, ht⟩) (fun _ h => by cases h) dX2_has_40
    · refine lv_iload_n hx hb dX2_has_14 rfl (lv_at hl 3 rfl) ?_
      refine hx_read (va_runS (As := [.int (y0)]) (rest := []) ⟨hx, hb, hml, hown, hts⟩ (c_X2_isThing l y0) (va_cwS 1 hts gX2_has_X2_isThing rfl rfl rfl (by decide +kernel) ⟨Nat.le_of_ble_eq_true rfl, Nat.le_of_ble_eq_true rfl⟩) (nu_S _) rfl rfl hl.1 rfl (lv_room (Nat.le_of_ble_eq_true rfl)) dX2_has_15 ⟨Nat.zero_le _, Nat.zero_le _⟩) ?_
      refine hx_ifB (tgt := 39) hx hb dX2_has_18 (by decide) (fun c_3 => ?_) (fun c_3 => ?_)
      · refine lv_iconst (v := nI 0) hx hb dX2_has_39 (by decide) ?_
        exact W.zret (v := nI 0) hx hb hr rfl (fun t ht hW => ⟨_, rfl, rfl, ht⟩) (fun _ h => by cases h) dX2_has_40
      · exact absurd hy_0 (by simp [prGood, c_1, c_2, c_3])
set_option maxHeartbeats 4000000 in
set_option maxRecDepth 100000 in
theorem c_X2_has_g (l : Launch) (dC : Nat → ClassId) (dI : Nat → Nat → Nat) (a : Nat → Nat) (cA : Nat → ClassId) (n : Nat) (hd fm rp rq : Nat → Nat) (nd nw bf su sI sO ct : Nat → Int32) (r x y : Nat) (hy_0 : r < 7) (hy_1 : x < 5) (hy_2 : y < 5) : RdM l yX2_has wsX2_has ({ frames := 1, cells := 0, slots := 0, locals := 22 }) (dC, dI) vwCl (vkW a cA n hd fm rp rq nd nw bf su sI sO ct) (vkT cA) nstW [.ref (a 0), .int (nI r), .int (nI x), .int (nI y)] (bI (bt (nw r) (5 * x + y))) := by
  refine Met.ofW (cc := cX2_has) (maxL := 4) (ret := (some .boolean)) (by decide) rfl ?_
  intro p e s m args below meth c s₁ B hml hv
  obtain ⟨rfl, hP, hK, hN⟩ := hv
  have hx := B.exec
  have hb := B.bytes
  have hr := B.returns
  have hts := atoms_spec (ws := wsX2_has) B.pre
  have hown : s.vm.findClass RX2 = some m.cls := findClass_of_methodNamed B.named
  have hlocks := B.notSynchronized
  have kr : isRl (nI r) = true := isRl_nI (by omega)
  have kx1 : isTh (nI x) = true := isTh_nI (by omega)
  have ky : isTh (nI y) = true := isTh_nI (by omega)
  have lf_16 := hts (.fieldLink RX2 16 "ViewKeeper" "now" "[I") (by decide +kernel)
  have in_X2 : ∀ w ∈ u_ws RX2 TX2 7, w ∈ wsX2_has := by decide +kernel
  have hl := lv_entry ([.ref (a 0), .int (nI r), .int (nI x), .int (nI y)]) (n := 4) (Nat.le_of_ble_eq_true rfl)
  rw [lg_entry_eq]
  generalize (lg_sl ([.ref (a 0), .int (nI r), .int (nI x), .int (nI y)]) ++ List.replicate (4 - (lg_sl ([.ref (a 0), .int (nI r), .int (nI x), .int (nI y)])).length) Slot.unset).toArray = ls at hl ⊢
  have hl : lv_has ls 4 [(0, .ref (a 0)), (1, .int (nI r)), (2, .int (nI x)), (3, .int (nI y))] := hl
  refine lv_iload_n hx hb dX2_has_0 rfl (lv_at hl 1 rfl) ?_
  refine hx_read (va_runS (As := [.int (nI r)]) (rest := []) ⟨hx, hb, hml, hown, hts⟩ (c_X2_isRelation l (nI r)) (va_cwS 1 hts gX2_has_X2_isRelation rfl rfl rfl (by decide +kernel) ⟨Nat.le_of_ble_eq_true rfl, Nat.le_of_ble_eq_true rfl⟩) (nu_S _) rfl rfl hl.1 rfl (lv_room (Nat.le_of_ble_eq_true rfl)) dX2_has_1 ⟨Nat.zero_le _, Nat.zero_le _⟩) ?_
  refine hx_ifB (tgt := 39) hx hb dX2_has_4 (by decide) (fun c_1 => ?_) (fun c_1 => ?_)
  · exact absurd (kr.symm.trans c_1) (by decide)
  · refine lv_iload_n hx hb dX2_has_7 rfl (lv_at hl 2 rfl) ?_
    refine hx_read (va_runS (As := [.int (nI x)]) (rest := []) ⟨hx, hb, hml, hown, hts⟩ (c_X2_isThing l (nI x)) (va_cwS 1 hts gX2_has_X2_isThing rfl rfl rfl (by decide +kernel) ⟨Nat.le_of_ble_eq_true rfl, Nat.le_of_ble_eq_true rfl⟩) (nu_S _) rfl rfl hl.1 rfl (lv_room (Nat.le_of_ble_eq_true rfl)) dX2_has_8 ⟨Nat.zero_le _, Nat.zero_le _⟩) ?_
    refine hx_ifB (tgt := 39) hx hb dX2_has_11 (by decide) (fun c_2 => ?_) (fun c_2 => ?_)
    · exact absurd (kx1.symm.trans c_2) (by decide)
    · refine lv_iload_n hx hb dX2_has_14 rfl (lv_at hl 3 rfl) ?_
      refine hx_read (va_runS (As := [.int (nI y)]) (rest := []) ⟨hx, hb, hml, hown, hts⟩ (c_X2_isThing l (nI y)) (va_cwS 1 hts gX2_has_X2_isThing rfl rfl rfl (by decide +kernel) ⟨Nat.le_of_ble_eq_true rfl, Nat.le_of_ble_eq_true rfl⟩) (nu_S _) rfl rfl hl.1 rfl (lv_room (Nat.le_of_ble_eq_true rfl)) dX2_has_15 ⟨Nat.zero_le _, Nat.zero_le _⟩) ?_
      refine hx_ifB (tgt := 39) hx hb dX2_has_18 (by decide) (fun c_3 => ?_) (fun c_3 => ?_)
      · exact absurd (ky.symm.trans c_3) (by decide)
      · refine lv_aload_n hx hb dX2_has_21 rfl (lv_at hl 0 rfl) ?_
        refine va_get (D := (dC, dI)) (ci := 2) (v := .ref (a 4)) (C := RX2) (T := TX2) (N := 7) hx hb hts in_X2 hown hK hP 0 rfl rfl 1 (by decide) lf_16 (fun _ h9 => h9) rfl dX2_has_22 ?_
        refine lv_iload_n hx hb dX2_has_25 rfl (lv_at hl 1 rfl) ?_
        refine hx_iald hx hb hK hP 4 2 rfl rfl (by omega) (by omega) dX2_has_26 ?_
        refine lv_iload_n hx hb dX2_has_27 rfl (lv_at hl 2 rfl) ?_
        refine lv_iload_n hx hb dX2_has_28 rfl (lv_at hl 3 rfl) ?_
        refine hx_read (va_runS (As := [.int (nw r), .int (nI x), .int (nI y)]) (rest := []) ⟨hx, hb, hml, hown, hts⟩ (c_X2_holds l (nw r) x y (by omega) (by omega)) (va_cwS 3 hts gX2_has_X2_holds rfl rfl rfl (by decide +kernel) ⟨Nat.le_of_ble_eq_true rfl, Nat.le_of_ble_eq_true rfl⟩) (nu_S _) rfl rfl hl.1 rfl (lv_room (Nat.le_of_ble_eq_true rfl)) dX2_has_29 ⟨Nat.zero_le _, Nat.zero_le _⟩) ?_
        refine hx_ifB (tgt := 39) hx hb dX2_has_32 (by decide) (fun c_4 => ?_) (fun c_4 => ?_)
        · refine lv_iconst (v := nI 0) hx hb dX2_has_39 (by decide) ?_
          exact W.zret (v := nI 0) hx hb hr rfl (fun t ht hW => ⟨_, rfl, by rw [c_4]; rfl, ht⟩) (fun _ h => by cases h) dX2_has_40
        · refine lv_iconst (v := nI 1) hx hb dX2_has_35 (by decide) ?_
          refine lv_goto (tgt := 40) hx hb dX2_has_36 (by decide) ?_
          exact W.zret (v := nI 1) hx hb hr rfl (fun t ht hW => ⟨_, rfl, by rw [c_4]; rfl, ht⟩) (fun _ h => by cases h) dX2_has_40
set_option maxHeartbeats 4000000 in
set_option maxRecDepth 100000 in
theorem c_X2_suspect_b (l : Launch) (dC : Nat → ClassId) (dI : Nat → Nat → Nat) (a : Nat → Nat) (cA : Nat → ClassId) (n : Nat) (hd fm rp rq : Nat → Nat) (nd nw bf su sI sO ct : Nat → Int32) (r0 x0 y0 : Int32) (hy_0 : prGood r0 x0 y0 = false) : RdM l yX2_suspect wsX2_suspect ({ frames := 1, cells := 0, slots := 0, locals := 22 }) (dC, dI) vwCl (vkW a cA n hd fm rp rq nd nw bf su sI sO ct) (vkT cA) nstW [.ref (a 0), .int (r0), .int (x0), .int (y0)] (bI false) := by
  refine Met.ofW (cc := cX2_suspect) (maxL := 4) (ret := (some .boolean)) (by decide) rfl ?_
  intro p e s m args below meth c s₁ B hml hv
  obtain ⟨rfl, hP, hK, hN⟩ := hv
  have hx := B.exec
  have hb := B.bytes
  have hr := B.returns
  have hts := atoms_spec (ws := wsX2_suspect) B.pre
  have hown : s.vm.findClass RX2 = some m.cls := findClass_of_methodNamed B.named
  have hlocks := B.notSynchronized
  have lf_23 := hts (.fieldLink RX2 23 "ViewKeeper" "suspects" "[I") (by decide +kernel)
  have in_X2 : ∀ w ∈ u_ws RX2 TX2 7, w ∈ wsX2_suspect := by decide +kernel
  have hl := lv_entry ([.ref (a 0), .int (r0), .int (x0), .int (y0)]) (n := 4) (Nat.le_of_ble_eq_true rfl)
  rw [lg_entry_eq]
  generalize (lg_sl ([.ref (a 0), .int (r0), .int (x0), .int (y0)]) ++ List.replicate (4 - (lg_sl ([.ref (a 0), .int (r0), .int (x0), .int (y0)])).length) Slot.unset).toArray = ls at hl ⊢
  have hl : lv_has ls 4 [(0, .ref (a 0)), (1, .int (r0)), (2, .int (x0)), (3, .int (y0))] := hl
  refine lv_iload_n hx hb dX2_suspect_0 rfl (lv_at hl 1 rfl) ?_
  refine hx_read (va_runS (As := [.int (r0)]) (rest := []) ⟨hx, hb, hml, hown, hts⟩ (c_X2_isRelation l r0) (va_cwS 1 hts gX2_suspect_X2_isRelation rfl rfl rfl (by decide +kernel) ⟨Nat.le_of_ble_eq_true rfl, Nat.le_of_ble_eq_true rfl⟩) (nu_S _) rfl rfl hl.1 rfl (lv_room (Nat.le_of_ble_eq_true rfl)) dX2_suspect_1 ⟨Nat.zero_le _, Nat.zero_le _⟩) ?_
  refine hx_ifB (tgt := 39) hx hb dX2_suspect_4 (by decide) (fun c_1 => ?_) (fun c_1 => ?_)
  · refine lv_iconst (v := nI 0) hx hb dX2_suspect_39 (by decide) ?_
    exact W.zret (v := nI 0) hx hb hr rfl (fun t ht hW => ⟨_, rfl, rfl, ht⟩) (fun _ h => by cases h) dX2_suspect_40
  · refine lv_iload_n hx hb dX2_suspect_7 rfl (lv_at hl 2 rfl) ?_
    refine hx_read (va_runS (As := [.int (x0)]) (rest := []) ⟨hx, hb, hml, hown, hts⟩ (c_X2_isThing l x0) (va_cwS 1 hts gX2_suspect_X2_isThing rfl rfl rfl (by decide +kernel) ⟨Nat.le_of_ble_eq_true rfl, Nat.le_of_ble_eq_true rfl⟩) (nu_S _) rfl rfl hl.1 rfl (lv_room (Nat.le_of_ble_eq_true rfl)) dX2_suspect_8 ⟨Nat.zero_le _, Nat.zero_le _⟩) ?_
    refine hx_ifB (tgt := 39) hx hb dX2_suspect_11 (by decide) (fun c_2 => ?_) (fun c_2 => ?_)
    · refine lv_iconst (v := nI 0) hx hb dX2_suspect_39 (by decide) ?_
      exact W.zret (v := nI 0) hx hb hr rfl (fun t ht hW => ⟨_, rfl, rfl, ht⟩) (fun _ h => by cases h) dX2_suspect_40
    · refine lv_iload_n hx hb dX2_suspect_14 rfl (lv_at hl 3 rfl) ?_
      refine hx_read (va_runS (As := [.int (y0)]) (rest := []) ⟨hx, hb, hml, hown, hts⟩ (c_X2_isThing l y0) (va_cwS 1 hts gX2_suspect_X2_isThing rfl rfl rfl (by decide +kernel) ⟨Nat.le_of_ble_eq_true rfl, Nat.le_of_ble_eq_true rfl⟩) (nu_S _) rfl rfl hl.1 rfl (lv_room (Nat.le_of_ble_eq_true rfl)) dX2_suspect_15 ⟨Nat.zero_le _, Nat.zero_le _⟩) ?_
      refine hx_ifB (tgt := 39) hx hb dX2_suspect_18 (by decide) (fun c_3 => ?_) (fun c_3 => ?_)
      · refine lv_iconst (v := nI 0) hx hb dX2_suspect_39 (by decide) ?_
        exact W.zret (v := nI 0) hx hb hr rfl (fun t ht hW => ⟨_, rfl, rfl, ht⟩) (fun _ h => by cases h) dX2_suspect_40
      · exact absurd hy_0 (by simp [prGood, c_1, c_2, c_3])
set_option maxHeartbeats 4000000 in
set_option maxRecDepth 100000 in
theorem c_X2_suspect_g (l : Launch) (dC : Nat → ClassId) (dI : Nat → Nat → Nat) (a : Nat → Nat) (cA : Nat → ClassId) (n : Nat) (hd fm rp rq : Nat → Nat) (nd nw bf su sI sO ct : Nat → Int32) (r x y : Nat) (hy_0 : r < 7) (hy_1 : x < 5) (hy_2 : y < 5) : RdM l yX2_suspect wsX2_suspect ({ frames := 1, cells := 0, slots := 0, locals := 22 }) (dC, dI) vwCl (vkW a cA n hd fm rp rq nd nw bf su sI sO ct) (vkT cA) nstW [.ref (a 0), .int (nI r), .int (nI x), .int (nI y)] (bI (bt (su r) (5 * x + y))) := by
  refine Met.ofW (cc := cX2_suspect) (maxL := 4) (ret := (some .boolean)) (by decide) rfl ?_
  intro p e s m args below meth c s₁ B hml hv
  obtain ⟨rfl, hP, hK, hN⟩ := hv
  have hx := B.exec
  have hb := B.bytes
  have hr := B.returns
  have hts := atoms_spec (ws := wsX2_suspect) B.pre
  have hown : s.vm.findClass RX2 = some m.cls := findClass_of_methodNamed B.named
  have hlocks := B.notSynchronized
  have kr : isRl (nI r) = true := isRl_nI (by omega)
  have kx1 : isTh (nI x) = true := isTh_nI (by omega)
  have ky : isTh (nI y) = true := isTh_nI (by omega)
  have lf_23 := hts (.fieldLink RX2 23 "ViewKeeper" "suspects" "[I") (by decide +kernel)
  have in_X2 : ∀ w ∈ u_ws RX2 TX2 7, w ∈ wsX2_suspect := by decide +kernel
  have hl := lv_entry ([.ref (a 0), .int (nI r), .int (nI x), .int (nI y)]) (n := 4) (Nat.le_of_ble_eq_true rfl)
  rw [lg_entry_eq]
  generalize (lg_sl ([.ref (a 0), .int (nI r), .int (nI x), .int (nI y)]) ++ List.replicate (4 - (lg_sl ([.ref (a 0), .int (nI r), .int (nI x), .int (nI y)])).length) Slot.unset).toArray = ls at hl ⊢
  have hl : lv_has ls 4 [(0, .ref (a 0)), (1, .int (nI r)), (2, .int (nI x)), (3, .int (nI y))] := hl
  refine lv_iload_n hx hb dX2_suspect_0 rfl (lv_at hl 1 rfl) ?_
  refine hx_read (va_runS (As := [.int (nI r)]) (rest := []) ⟨hx, hb, hml, hown, hts⟩ (c_X2_isRelation l (nI r)) (va_cwS 1 hts gX2_suspect_X2_isRelation rfl rfl rfl (by decide +kernel) ⟨Nat.le_of_ble_eq_true rfl, Nat.le_of_ble_eq_true rfl⟩) (nu_S _) rfl rfl hl.1 rfl (lv_room (Nat.le_of_ble_eq_true rfl)) dX2_suspect_1 ⟨Nat.zero_le _, Nat.zero_le _⟩) ?_
  refine hx_ifB (tgt := 39) hx hb dX2_suspect_4 (by decide) (fun c_1 => ?_) (fun c_1 => ?_)
  · exact absurd (kr.symm.trans c_1) (by decide)
  · refine lv_iload_n hx hb dX2_suspect_7 rfl (lv_at hl 2 rfl) ?_
    refine hx_read (va_runS (As := [.int (nI x)]) (rest := []) ⟨hx, hb, hml, hown, hts⟩ (c_X2_isThing l (nI x)) (va_cwS 1 hts gX2_suspect_X2_isThing rfl rfl rfl (by decide +kernel) ⟨Nat.le_of_ble_eq_true rfl, Nat.le_of_ble_eq_true rfl⟩) (nu_S _) rfl rfl hl.1 rfl (lv_room (Nat.le_of_ble_eq_true rfl)) dX2_suspect_8 ⟨Nat.zero_le _, Nat.zero_le _⟩) ?_
    refine hx_ifB (tgt := 39) hx hb dX2_suspect_11 (by decide) (fun c_2 => ?_) (fun c_2 => ?_)
    · exact absurd (kx1.symm.trans c_2) (by decide)
    · refine lv_iload_n hx hb dX2_suspect_14 rfl (lv_at hl 3 rfl) ?_
      refine hx_read (va_runS (As := [.int (nI y)]) (rest := []) ⟨hx, hb, hml, hown, hts⟩ (c_X2_isThing l (nI y)) (va_cwS 1 hts gX2_suspect_X2_isThing rfl rfl rfl (by decide +kernel) ⟨Nat.le_of_ble_eq_true rfl, Nat.le_of_ble_eq_true rfl⟩) (nu_S _) rfl rfl hl.1 rfl (lv_room (Nat.le_of_ble_eq_true rfl)) dX2_suspect_15 ⟨Nat.zero_le _, Nat.zero_le _⟩) ?_
      refine hx_ifB (tgt := 39) hx hb dX2_suspect_18 (by decide) (fun c_3 => ?_) (fun c_3 => ?_)
      · exact absurd (ky.symm.trans c_3) (by decide)
      · refine lv_aload_n hx hb dX2_suspect_21 rfl (lv_at hl 0 rfl) ?_
        refine va_get (D := (dC, dI)) (ci := 2) (v := .ref (a 6)) (C := RX2) (T := TX2) (N := 7) hx hb hts in_X2 hown hK hP 0 rfl rfl 3 (by decide) lf_23 (fun _ h9 => h9) rfl dX2_suspect_22 ?_
        refine lv_iload_n hx hb dX2_suspect_25 rfl (lv_at hl 1 rfl) ?_
        refine hx_iald hx hb hK hP 6 4 rfl rfl (by omega) (by omega) dX2_suspect_26 ?_
        refine lv_iload_n hx hb dX2_suspect_27 rfl (lv_at hl 2 rfl) ?_
        refine lv_iload_n hx hb dX2_suspect_28 rfl (lv_at hl 3 rfl) ?_
        refine hx_read (va_runS (As := [.int (su r), .int (nI x), .int (nI y)]) (rest := []) ⟨hx, hb, hml, hown, hts⟩ (c_X2_holds l (su r) x y (by omega) (by omega)) (va_cwS 3 hts gX2_suspect_X2_holds rfl rfl rfl (by decide +kernel) ⟨Nat.le_of_ble_eq_true rfl, Nat.le_of_ble_eq_true rfl⟩) (nu_S _) rfl rfl hl.1 rfl (lv_room (Nat.le_of_ble_eq_true rfl)) dX2_suspect_29 ⟨Nat.zero_le _, Nat.zero_le _⟩) ?_
        refine hx_ifB (tgt := 39) hx hb dX2_suspect_32 (by decide) (fun c_4 => ?_) (fun c_4 => ?_)
        · refine lv_iconst (v := nI 0) hx hb dX2_suspect_39 (by decide) ?_
          exact W.zret (v := nI 0) hx hb hr rfl (fun t ht hW => ⟨_, rfl, by rw [c_4]; rfl, ht⟩) (fun _ h => by cases h) dX2_suspect_40
        · refine lv_iconst (v := nI 1) hx hb dX2_suspect_35 (by decide) ?_
          refine lv_goto (tgt := 40) hx hb dX2_suspect_36 (by decide) ?_
          exact W.zret (v := nI 1) hx hb hr rfl (fun t ht hW => ⟨_, rfl, by rw [c_4]; rfl, ht⟩) (fun _ h => by cases h) dX2_suspect_40
set_option maxHeartbeats 4000000 in
set_option maxRecDepth 100000 in
theorem c_X2_count_b (l : Launch) (dC : Nat → ClassId) (dI : Nat → Nat → Nat) (a : Nat → Nat) (cA : Nat → ClassId) (n : Nat) (hd fm rp rq : Nat → Nat) (nd nw bf su sI sO ct : Nat → Int32) (r0 x0 y0 : Int32) (hy_0 : prGood r0 x0 y0 = false) : RdM l yX2_count wsX2_count ({ frames := 2, cells := 0, slots := 0, locals := 43 }) (dC, dI) vwCl (vkW a cA n hd fm rp rq nd nw bf su sI sO ct) (vkT cA) nstW [.ref (a 0), .int (r0), .int (x0), .int (y0)] ((-1)) := by
  refine Met.ofW (cc := cX2_count) (maxL := 4) (ret := (some .int)) (by decide) rfl ?_
  intro p e s m args below meth c s₁ B hml hv
  obtain ⟨rfl, hP, hK, hN⟩ := hv
  have hx := B.exec
  have hb := B.bytes
  have hr := B.returns
  have hts := atoms_spec (ws := wsX2_count) B.pre
  have hown : s.vm.findClass RX2 = some m.cls := findClass_of_methodNamed B.named
  have hlocks := B.notSynchronized
  have lf_10 := hts (.fieldLink RX2 10 "ViewKeeper" "book" "LViewKeeper$RuleBook;") (by decide +kernel)
  have in_X2 : ∀ w ∈ u_ws RX2 TX2 7, w ∈ wsX2_count := by decide +kernel
  have lf_26 := hts (.fieldLink RX2 26 "ViewKeeper" "counts" "[I") (by decide +kernel)
  have lf_16 := hts (.fieldLink RX2 16 "ViewKeeper" "now" "[I") (by decide +kernel)
  have hl := lv_entry ([.ref (a 0), .int (r0), .int (x0), .int (y0)]) (n := 4) (Nat.le_of_ble_eq_true rfl)
  rw [lg_entry_eq]
  generalize (lg_sl ([.ref (a 0), .int (r0), .int (x0), .int (y0)]) ++ List.replicate (4 - (lg_sl ([.ref (a 0), .int (r0), .int (x0), .int (y0)])).length) Slot.unset).toArray = ls at hl ⊢
  have hl : lv_has ls 4 [(0, .ref (a 0)), (1, .int (r0)), (2, .int (x0)), (3, .int (y0))] := hl
  refine lv_iload_n hx hb dX2_count_0 rfl (lv_at hl 1 rfl) ?_
  refine hx_read (va_runS (As := [.int (r0)]) (rest := []) ⟨hx, hb, hml, hown, hts⟩ (c_X2_isRelation l r0) (va_cwS 1 hts gX2_count_X2_isRelation rfl rfl rfl (by decide +kernel) ⟨Nat.le_of_ble_eq_true rfl, Nat.le_of_ble_eq_true rfl⟩) (nu_S _) rfl rfl hl.1 rfl (lv_room (Nat.le_of_ble_eq_true rfl)) dX2_count_1 ⟨Nat.zero_le _, Nat.zero_le _⟩) ?_
  refine hx_ifB (tgt := 32) hx hb dX2_count_4 (by decide) (fun c_1 => ?_) (fun c_1 => ?_)
  · refine lv_iconst (v := (-1)) hx hb dX2_count_32 (by decide) ?_
    exact W.iret (v := (-1)) hx hb hr (fun t ht hW => ⟨_, rfl, rfl, ht⟩) (fun _ h => by cases h) dX2_count_33
  · refine lv_iload_n hx hb dX2_count_7 rfl (lv_at hl 2 rfl) ?_
    refine hx_read (va_runS (As := [.int (x0)]) (rest := []) ⟨hx, hb, hml, hown, hts⟩ (c_X2_isThing l x0) (va_cwS 1 hts gX2_count_X2_isThing rfl rfl rfl (by decide +kernel) ⟨Nat.le_of_ble_eq_true rfl, Nat.le_of_ble_eq_true rfl⟩) (nu_S _) rfl rfl hl.1 rfl (lv_room (Nat.le_of_ble_eq_true rfl)) dX2_count_8 ⟨Nat.zero_le _, Nat.zero_le _⟩) ?_
    refine hx_ifB (tgt := 32) hx hb dX2_count_11 (by decide) (fun c_2 => ?_) (fun c_2 => ?_)
    · refine lv_iconst (v := (-1)) hx hb dX2_count_32 (by decide) ?_
      exact W.iret (v := (-1)) hx hb hr (fun t ht hW => ⟨_, rfl, rfl, ht⟩) (fun _ h => by cases h) dX2_count_33
    · refine lv_iload_n hx hb dX2_count_14 rfl (lv_at hl 3 rfl) ?_
      refine hx_read (va_runS (As := [.int (y0)]) (rest := []) ⟨hx, hb, hml, hown, hts⟩ (c_X2_isThing l y0) (va_cwS 1 hts gX2_count_X2_isThing rfl rfl rfl (by decide +kernel) ⟨Nat.le_of_ble_eq_true rfl, Nat.le_of_ble_eq_true rfl⟩) (nu_S _) rfl rfl hl.1 rfl (lv_room (Nat.le_of_ble_eq_true rfl)) dX2_count_15 ⟨Nat.zero_le _, Nat.zero_le _⟩) ?_
      refine hx_ifB (tgt := 32) hx hb dX2_count_18 (by decide) (fun c_3 => ?_) (fun c_3 => ?_)
      · refine lv_iconst (v := (-1)) hx hb dX2_count_32 (by decide) ?_
        exact W.iret (v := (-1)) hx hb hr (fun t ht hW => ⟨_, rfl, rfl, ht⟩) (fun _ h => by cases h) dX2_count_33
      · exact absurd hy_0 (by simp [prGood, c_1, c_2, c_3])
set_option maxHeartbeats 4000000 in
set_option maxRecDepth 100000 in
theorem c_X2_count_r (l : Launch) (dC : Nat → ClassId) (dI : Nat → Nat → Nat) (a : Nat → Nat) (cA : Nat → ClassId) (n : Nat) (hd fm rp rq : Nat → Nat) (nd nw bf su sI sO ct : Nat → Int32) (r x y : Nat) (hy_0 : r < 7) (hy_1 : x < 5) (hy_2 : y < 5) (hy_3 : bt (nd r) r = true) : RdM l yX2_count wsX2_count ({ frames := 2, cells := 0, slots := 0, locals := 43 }) (dC, dI) vwCl (vkW a cA n hd fm rp rq nd nw bf su sI sO ct) (vkT cA) nstW [.ref (a 0), .int (nI r), .int (nI x), .int (nI y)] ((-1)) := by
  refine Met.ofW (cc := cX2_count) (maxL := 4) (ret := (some .int)) (by decide) rfl ?_
  intro p e s m args below meth c s₁ B hml hv
  obtain ⟨rfl, hP, hK, hN⟩ := hv
  have hx := B.exec
  have hb := B.bytes
  have hr := B.returns
  have hts := atoms_spec (ws := wsX2_count) B.pre
  have hown : s.vm.findClass RX2 = some m.cls := findClass_of_methodNamed B.named
  have hlocks := B.notSynchronized
  have kr : isRl (nI r) = true := isRl_nI (by omega)
  have kx1 : isTh (nI x) = true := isTh_nI (by omega)
  have ky : isTh (nI y) = true := isTh_nI (by omega)
  have lf_10 := hts (.fieldLink RX2 10 "ViewKeeper" "book" "LViewKeeper$RuleBook;") (by decide +kernel)
  have in_X2 : ∀ w ∈ u_ws RX2 TX2 7, w ∈ wsX2_count := by decide +kernel
  have lf_26 := hts (.fieldLink RX2 26 "ViewKeeper" "counts" "[I") (by decide +kernel)
  have lf_16 := hts (.fieldLink RX2 16 "ViewKeeper" "now" "[I") (by decide +kernel)
  have hl := lv_entry ([.ref (a 0), .int (nI r), .int (nI x), .int (nI y)]) (n := 4) (Nat.le_of_ble_eq_true rfl)
  rw [lg_entry_eq]
  generalize (lg_sl ([.ref (a 0), .int (nI r), .int (nI x), .int (nI y)]) ++ List.replicate (4 - (lg_sl ([.ref (a 0), .int (nI r), .int (nI x), .int (nI y)])).length) Slot.unset).toArray = ls at hl ⊢
  have hl : lv_has ls 4 [(0, .ref (a 0)), (1, .int (nI r)), (2, .int (nI x)), (3, .int (nI y))] := hl
  refine lv_iload_n hx hb dX2_count_0 rfl (lv_at hl 1 rfl) ?_
  refine hx_read (va_runS (As := [.int (nI r)]) (rest := []) ⟨hx, hb, hml, hown, hts⟩ (c_X2_isRelation l (nI r)) (va_cwS 1 hts gX2_count_X2_isRelation rfl rfl rfl (by decide +kernel) ⟨Nat.le_of_ble_eq_true rfl, Nat.le_of_ble_eq_true rfl⟩) (nu_S _) rfl rfl hl.1 rfl (lv_room (Nat.le_of_ble_eq_true rfl)) dX2_count_1 ⟨Nat.zero_le _, Nat.zero_le _⟩) ?_
  refine hx_ifB (tgt := 32) hx hb dX2_count_4 (by decide) (fun c_1 => ?_) (fun c_1 => ?_)
  · exact absurd (kr.symm.trans c_1) (by decide)
  · refine lv_iload_n hx hb dX2_count_7 rfl (lv_at hl 2 rfl) ?_
    refine hx_read (va_runS (As := [.int (nI x)]) (rest := []) ⟨hx, hb, hml, hown, hts⟩ (c_X2_isThing l (nI x)) (va_cwS 1 hts gX2_count_X2_isThing rfl rfl rfl (by decide +kernel) ⟨Nat.le_of_ble_eq_true rfl, Nat.le_of_ble_eq_true rfl⟩) (nu_S _) rfl rfl hl.1 rfl (lv_room (Nat.le_of_ble_eq_true rfl)) dX2_count_8 ⟨Nat.zero_le _, Nat.zero_le _⟩) ?_
    refine hx_ifB (tgt := 32) hx hb dX2_count_11 (by decide) (fun c_2 => ?_) (fun c_2 => ?_)
    · exact absurd (kx1.symm.trans c_2) (by decide)
    · refine lv_iload_n hx hb dX2_count_14 rfl (lv_at hl 3 rfl) ?_
      refine hx_read (va_runS (As := [.int (nI y)]) (rest := []) ⟨hx, hb, hml, hown, hts⟩ (c_X2_isThing l (nI y)) (va_cwS 1 hts gX2_count_X2_isThing rfl rfl rfl (by decide +kernel) ⟨Nat.le_of_ble_eq_true rfl, Nat.le_of_ble_eq_true rfl⟩) (nu_S _) rfl rfl hl.1 rfl (lv_room (Nat.le_of_ble_eq_true rfl)) dX2_count_15 ⟨Nat.zero_le _, Nat.zero_le _⟩) ?_
      refine hx_ifB (tgt := 32) hx hb dX2_count_18 (by decide) (fun c_3 => ?_) (fun c_3 => ?_)
      · exact absurd (ky.symm.trans c_3) (by decide)
      · refine lv_aload_n hx hb dX2_count_21 rfl (lv_at hl 0 rfl) ?_
        refine va_get (D := (dC, dI)) (ci := 2) (v := .ref (a 1)) (C := RX2) (T := TX2) (N := 7) hx hb hts in_X2 hown hK hP 0 rfl rfl 0 (by decide) lf_10 (fun _ h9 => h9) rfl dX2_count_22 ?_
        refine lv_iload_n hx hb dX2_count_25 rfl (lv_at hl 1 rfl) ?_
        refine hx_read (va_runVN (C := RX1) (As := [.int (nI r)]) (rest := []) ⟨hx, hb, hml, hown, hts⟩ (c_X1_leadsBack l dC dI a cA n hd fm rp rq nd nw bf su sI sO ct r (by omega)) ⟨va_cnB 1 hts gX2_count_X1_leadsBack_n95 rfl rfl rfl (hN (.methodLinkNest RX2 95 yX1_leadsBack "ViewKeeper") (by decide +kernel)) (hts (.initialized RX1) (by decide +kernel)) (by decide +kernel) ⟨Nat.le_of_ble_eq_true rfl, Nat.le_of_ble_eq_true rfl⟩, hts (.instanceMethod yX1_leadsBack) (by decide +kernel), hts (.selects RX1 yX1_leadsBack yX1_leadsBack) (by decide +kernel)⟩ (rd_V nstW_ok hP hK hN 1 rfl rfl _) rfl rfl hl.1 rfl (lv_room (Nat.le_of_ble_eq_true rfl)) dX2_count_26 ⟨Nat.zero_le _, Nat.zero_le _⟩) ?_
        refine hx_ifB (tgt := 34) hx hb dX2_count_29 (by decide) (fun c_4 => ?_) (fun c_4 => ?_)
        · exact absurd (hy_3.symm.trans c_4) (by decide)
        · refine lv_iconst (v := (-1)) hx hb dX2_count_32 (by decide) ?_
          exact W.iret (v := (-1)) hx hb hr (fun t ht hW => ⟨_, rfl, rfl, ht⟩) (fun _ h => by cases h) dX2_count_33
set_option maxHeartbeats 4000000 in
set_option maxRecDepth 100000 in
theorem c_X2_count_f (l : Launch) (dC : Nat → ClassId) (dI : Nat → Nat → Nat) (a : Nat → Nat) (cA : Nat → ClassId) (n : Nat) (hd fm rp rq : Nat → Nat) (nd nw bf su sI sO ct : Nat → Int32) (r x y : Nat) (hy_0 : r < 7) (hy_1 : x < 5) (hy_2 : y < 5) (hy_3 : bt (nd r) r = false) (hy_4 : r < 2) : RdM l yX2_count wsX2_count ({ frames := 2, cells := 0, slots := 0, locals := 43 }) (dC, dI) vwCl (vkW a cA n hd fm rp rq nd nw bf su sI sO ct) (vkT cA) nstW [.ref (a 0), .int (nI r), .int (nI x), .int (nI y)] (bI (bt (nw r) (5 * x + y))) := by
  refine Met.ofW (cc := cX2_count) (maxL := 4) (ret := (some .int)) (by decide) rfl ?_
  intro p e s m args below meth c s₁ B hml hv
  obtain ⟨rfl, hP, hK, hN⟩ := hv
  have hx := B.exec
  have hb := B.bytes
  have hr := B.returns
  have hts := atoms_spec (ws := wsX2_count) B.pre
  have hown : s.vm.findClass RX2 = some m.cls := findClass_of_methodNamed B.named
  have hlocks := B.notSynchronized
  have kr : isRl (nI r) = true := isRl_nI (by omega)
  have kx1 : isTh (nI x) = true := isTh_nI (by omega)
  have ky : isTh (nI y) = true := isTh_nI (by omega)
  have kw : isVw (nI r) = false := isVw_f (by omega)
  have lf_10 := hts (.fieldLink RX2 10 "ViewKeeper" "book" "LViewKeeper$RuleBook;") (by decide +kernel)
  have in_X2 : ∀ w ∈ u_ws RX2 TX2 7, w ∈ wsX2_count := by decide +kernel
  have lf_26 := hts (.fieldLink RX2 26 "ViewKeeper" "counts" "[I") (by decide +kernel)
  have lf_16 := hts (.fieldLink RX2 16 "ViewKeeper" "now" "[I") (by decide +kernel)
  have hl := lv_entry ([.ref (a 0), .int (nI r), .int (nI x), .int (nI y)]) (n := 4) (Nat.le_of_ble_eq_true rfl)
  rw [lg_entry_eq]
  generalize (lg_sl ([.ref (a 0), .int (nI r), .int (nI x), .int (nI y)]) ++ List.replicate (4 - (lg_sl ([.ref (a 0), .int (nI r), .int (nI x), .int (nI y)])).length) Slot.unset).toArray = ls at hl ⊢
  have hl : lv_has ls 4 [(0, .ref (a 0)), (1, .int (nI r)), (2, .int (nI x)), (3, .int (nI y))] := hl
  refine lv_iload_n hx hb dX2_count_0 rfl (lv_at hl 1 rfl) ?_
  refine hx_read (va_runS (As := [.int (nI r)]) (rest := []) ⟨hx, hb, hml, hown, hts⟩ (c_X2_isRelation l (nI r)) (va_cwS 1 hts gX2_count_X2_isRelation rfl rfl rfl (by decide +kernel) ⟨Nat.le_of_ble_eq_true rfl, Nat.le_of_ble_eq_true rfl⟩) (nu_S _) rfl rfl hl.1 rfl (lv_room (Nat.le_of_ble_eq_true rfl)) dX2_count_1 ⟨Nat.zero_le _, Nat.zero_le _⟩) ?_
  refine hx_ifB (tgt := 32) hx hb dX2_count_4 (by decide) (fun c_1 => ?_) (fun c_1 => ?_)
  · exact absurd (kr.symm.trans c_1) (by decide)
  · refine lv_iload_n hx hb dX2_count_7 rfl (lv_at hl 2 rfl) ?_
    refine hx_read (va_runS (As := [.int (nI x)]) (rest := []) ⟨hx, hb, hml, hown, hts⟩ (c_X2_isThing l (nI x)) (va_cwS 1 hts gX2_count_X2_isThing rfl rfl rfl (by decide +kernel) ⟨Nat.le_of_ble_eq_true rfl, Nat.le_of_ble_eq_true rfl⟩) (nu_S _) rfl rfl hl.1 rfl (lv_room (Nat.le_of_ble_eq_true rfl)) dX2_count_8 ⟨Nat.zero_le _, Nat.zero_le _⟩) ?_
    refine hx_ifB (tgt := 32) hx hb dX2_count_11 (by decide) (fun c_2 => ?_) (fun c_2 => ?_)
    · exact absurd (kx1.symm.trans c_2) (by decide)
    · refine lv_iload_n hx hb dX2_count_14 rfl (lv_at hl 3 rfl) ?_
      refine hx_read (va_runS (As := [.int (nI y)]) (rest := []) ⟨hx, hb, hml, hown, hts⟩ (c_X2_isThing l (nI y)) (va_cwS 1 hts gX2_count_X2_isThing rfl rfl rfl (by decide +kernel) ⟨Nat.le_of_ble_eq_true rfl, Nat.le_of_ble_eq_true rfl⟩) (nu_S _) rfl rfl hl.1 rfl (lv_room (Nat.le_of_ble_eq_true rfl)) dX2_count_15 ⟨Nat.zero_le _, Nat.zero_le _⟩) ?_
      refine hx_ifB (tgt := 32) hx hb dX2_count_18 (by decide) (fun c_3 => ?_) (fun c_3 => ?_)
      · exact absurd (ky.symm.trans c_3) (by decide)
      · refine lv_aload_n hx hb dX2_count_21 rfl (lv_at hl 0 rfl) ?_
        refine va_get (D := (dC, dI)) (ci := 2) (v := .ref (a 1)) (C := RX2) (T := TX2) (N := 7) hx hb hts in_X2 hown hK hP 0 rfl rfl 0 (by decide) lf_10 (fun _ h9 => h9) rfl dX2_count_22 ?_
        refine lv_iload_n hx hb dX2_count_25 rfl (lv_at hl 1 rfl) ?_
        refine hx_read (va_runVN (C := RX1) (As := [.int (nI r)]) (rest := []) ⟨hx, hb, hml, hown, hts⟩ (c_X1_leadsBack l dC dI a cA n hd fm rp rq nd nw bf su sI sO ct r (by omega)) ⟨va_cnB 1 hts gX2_count_X1_leadsBack_n95 rfl rfl rfl (hN (.methodLinkNest RX2 95 yX1_leadsBack "ViewKeeper") (by decide +kernel)) (hts (.initialized RX1) (by decide +kernel)) (by decide +kernel) ⟨Nat.le_of_ble_eq_true rfl, Nat.le_of_ble_eq_true rfl⟩, hts (.instanceMethod yX1_leadsBack) (by decide +kernel), hts (.selects RX1 yX1_leadsBack yX1_leadsBack) (by decide +kernel)⟩ (rd_V nstW_ok hP hK hN 1 rfl rfl _) rfl rfl hl.1 rfl (lv_room (Nat.le_of_ble_eq_true rfl)) dX2_count_26 ⟨Nat.zero_le _, Nat.zero_le _⟩) ?_
        refine hx_ifB (tgt := 34) hx hb dX2_count_29 (by decide) (fun c_4 => ?_) (fun c_4 => ?_)
        · refine lv_iload_n hx hb dX2_count_34 rfl (lv_at hl 1 rfl) ?_
          refine hx_read (va_runS (As := [.int (nI r)]) (rest := []) ⟨hx, hb, hml, hown, hts⟩ (c_X2_isView l (nI r)) (va_cwS 1 hts gX2_count_X2_isView rfl rfl rfl (by decide +kernel) ⟨Nat.le_of_ble_eq_true rfl, Nat.le_of_ble_eq_true rfl⟩) (nu_S _) rfl rfl hl.1 rfl (lv_room (Nat.le_of_ble_eq_true rfl)) dX2_count_35 ⟨Nat.zero_le _, Nat.zero_le _⟩) ?_
          refine hx_ifB (tgt := 57) hx hb dX2_count_38 (by decide) (fun c_5 => ?_) (fun c_5 => ?_)
          · refine lv_aload_n hx hb dX2_count_57 rfl (lv_at hl 0 rfl) ?_
            refine va_get (D := (dC, dI)) (ci := 2) (v := .ref (a 4)) (C := RX2) (T := TX2) (N := 7) hx hb hts in_X2 hown hK hP 0 rfl rfl 1 (by decide) lf_16 (fun _ h9 => h9) rfl dX2_count_58 ?_
            refine lv_iload_n hx hb dX2_count_61 rfl (lv_at hl 1 rfl) ?_
            refine hx_iald hx hb hK hP 4 2 rfl rfl (by omega) (by omega) dX2_count_62 ?_
            refine lv_iload_n hx hb dX2_count_63 rfl (lv_at hl 2 rfl) ?_
            refine lv_iload_n hx hb dX2_count_64 rfl (lv_at hl 3 rfl) ?_
            refine hx_read (va_runS (As := [.int (nw r), .int (nI x), .int (nI y)]) (rest := []) ⟨hx, hb, hml, hown, hts⟩ (c_X2_holds l (nw r) x y (by omega) (by omega)) (va_cwS 3 hts gX2_count_X2_holds rfl rfl rfl (by decide +kernel) ⟨Nat.le_of_ble_eq_true rfl, Nat.le_of_ble_eq_true rfl⟩) (nu_S _) rfl rfl hl.1 rfl (lv_room (Nat.le_of_ble_eq_true rfl)) dX2_count_65 ⟨Nat.zero_le _, Nat.zero_le _⟩) ?_
            refine hx_ifB (tgt := 75) hx hb dX2_count_68 (by decide) (fun c_6 => ?_) (fun c_6 => ?_)
            · refine lv_iconst (v := nI 0) hx hb dX2_count_75 (by decide) ?_
              exact W.iret (v := nI 0) hx hb hr (fun t ht hW => ⟨_, rfl, by rw [c_6]; rfl, ht⟩) (fun _ h => by cases h) dX2_count_76
            · refine lv_iconst (v := nI 1) hx hb dX2_count_71 (by decide) ?_
              refine lv_goto (tgt := 76) hx hb dX2_count_72 (by decide) ?_
              exact W.iret (v := nI 1) hx hb hr (fun t ht hW => ⟨_, rfl, by rw [c_6]; rfl, ht⟩) (fun _ h => by cases h) dX2_count_76
          · exact absurd (kw.symm.trans c_5) (by decide)
        · exact absurd (hy_3.symm.trans c_4) (by decide)
set_option maxHeartbeats 4000000 in
set_option maxRecDepth 100000 in
theorem c_X2_count_v (l : Launch) (dC : Nat → ClassId) (dI : Nat → Nat → Nat) (a : Nat → Nat) (cA : Nat → ClassId) (n : Nat) (hd fm rp rq : Nat → Nat) (nd nw bf su sI sO ct : Nat → Int32) (r x y : Nat) (hy_0 : r < 7) (hy_1 : x < 5) (hy_2 : y < 5) (hy_3 : bt (nd r) r = false) (hy_4 : 2 ≤ r) : RdM l yX2_count wsX2_count ({ frames := 2, cells := 0, slots := 0, locals := 43 }) (dC, dI) vwCl (vkW a cA n hd fm rp rq nd nw bf su sI sO ct) (vkT cA) nstW [.ref (a 0), .int (nI r), .int (nI x), .int (nI y)] (ct (25 * r + 5 * x + y)) := by
  refine Met.ofW (cc := cX2_count) (maxL := 4) (ret := (some .int)) (by decide) rfl ?_
  intro p e s m args below meth c s₁ B hml hv
  obtain ⟨rfl, hP, hK, hN⟩ := hv
  have hx := B.exec
  have hb := B.bytes
  have hr := B.returns
  have hts := atoms_spec (ws := wsX2_count) B.pre
  have hown : s.vm.findClass RX2 = some m.cls := findClass_of_methodNamed B.named
  have hlocks := B.notSynchronized
  have kr : isRl (nI r) = true := isRl_nI (by omega)
  have kx1 : isTh (nI x) = true := isTh_nI (by omega)
  have ky : isTh (nI y) = true := isTh_nI (by omega)
  have kw : isVw (nI r) = true := isVw_nI (by omega) (by omega)
  have lf_10 := hts (.fieldLink RX2 10 "ViewKeeper" "book" "LViewKeeper$RuleBook;") (by decide +kernel)
  have in_X2 : ∀ w ∈ u_ws RX2 TX2 7, w ∈ wsX2_count := by decide +kernel
  have lf_26 := hts (.fieldLink RX2 26 "ViewKeeper" "counts" "[I") (by decide +kernel)
  have lf_16 := hts (.fieldLink RX2 16 "ViewKeeper" "now" "[I") (by decide +kernel)
  have hl := lv_entry ([.ref (a 0), .int (nI r), .int (nI x), .int (nI y)]) (n := 4) (Nat.le_of_ble_eq_true rfl)
  rw [lg_entry_eq]
  generalize (lg_sl ([.ref (a 0), .int (nI r), .int (nI x), .int (nI y)]) ++ List.replicate (4 - (lg_sl ([.ref (a 0), .int (nI r), .int (nI x), .int (nI y)])).length) Slot.unset).toArray = ls at hl ⊢
  have hl : lv_has ls 4 [(0, .ref (a 0)), (1, .int (nI r)), (2, .int (nI x)), (3, .int (nI y))] := hl
  refine lv_iload_n hx hb dX2_count_0 rfl (lv_at hl 1 rfl) ?_
  refine hx_read (va_runS (As := [.int (nI r)]) (rest := []) ⟨hx, hb, hml, hown, hts⟩ (c_X2_isRelation l (nI r)) (va_cwS 1 hts gX2_count_X2_isRelation rfl rfl rfl (by decide +kernel) ⟨Nat.le_of_ble_eq_true rfl, Nat.le_of_ble_eq_true rfl⟩) (nu_S _) rfl rfl hl.1 rfl (lv_room (Nat.le_of_ble_eq_true rfl)) dX2_count_1 ⟨Nat.zero_le _, Nat.zero_le _⟩) ?_
  refine hx_ifB (tgt := 32) hx hb dX2_count_4 (by decide) (fun c_1 => ?_) (fun c_1 => ?_)
  · exact absurd (kr.symm.trans c_1) (by decide)
  · refine lv_iload_n hx hb dX2_count_7 rfl (lv_at hl 2 rfl) ?_
    refine hx_read (va_runS (As := [.int (nI x)]) (rest := []) ⟨hx, hb, hml, hown, hts⟩ (c_X2_isThing l (nI x)) (va_cwS 1 hts gX2_count_X2_isThing rfl rfl rfl (by decide +kernel) ⟨Nat.le_of_ble_eq_true rfl, Nat.le_of_ble_eq_true rfl⟩) (nu_S _) rfl rfl hl.1 rfl (lv_room (Nat.le_of_ble_eq_true rfl)) dX2_count_8 ⟨Nat.zero_le _, Nat.zero_le _⟩) ?_
    refine hx_ifB (tgt := 32) hx hb dX2_count_11 (by decide) (fun c_2 => ?_) (fun c_2 => ?_)
    · exact absurd (kx1.symm.trans c_2) (by decide)
    · refine lv_iload_n hx hb dX2_count_14 rfl (lv_at hl 3 rfl) ?_
      refine hx_read (va_runS (As := [.int (nI y)]) (rest := []) ⟨hx, hb, hml, hown, hts⟩ (c_X2_isThing l (nI y)) (va_cwS 1 hts gX2_count_X2_isThing rfl rfl rfl (by decide +kernel) ⟨Nat.le_of_ble_eq_true rfl, Nat.le_of_ble_eq_true rfl⟩) (nu_S _) rfl rfl hl.1 rfl (lv_room (Nat.le_of_ble_eq_true rfl)) dX2_count_15 ⟨Nat.zero_le _, Nat.zero_le _⟩) ?_
      refine hx_ifB (tgt := 32) hx hb dX2_count_18 (by decide) (fun c_3 => ?_) (fun c_3 => ?_)
      · exact absurd (ky.symm.trans c_3) (by decide)
      · refine lv_aload_n hx hb dX2_count_21 rfl (lv_at hl 0 rfl) ?_
        refine va_get (D := (dC, dI)) (ci := 2) (v := .ref (a 1)) (C := RX2) (T := TX2) (N := 7) hx hb hts in_X2 hown hK hP 0 rfl rfl 0 (by decide) lf_10 (fun _ h9 => h9) rfl dX2_count_22 ?_
        refine lv_iload_n hx hb dX2_count_25 rfl (lv_at hl 1 rfl) ?_
        refine hx_read (va_runVN (C := RX1) (As := [.int (nI r)]) (rest := []) ⟨hx, hb, hml, hown, hts⟩ (c_X1_leadsBack l dC dI a cA n hd fm rp rq nd nw bf su sI sO ct r (by omega)) ⟨va_cnB 1 hts gX2_count_X1_leadsBack_n95 rfl rfl rfl (hN (.methodLinkNest RX2 95 yX1_leadsBack "ViewKeeper") (by decide +kernel)) (hts (.initialized RX1) (by decide +kernel)) (by decide +kernel) ⟨Nat.le_of_ble_eq_true rfl, Nat.le_of_ble_eq_true rfl⟩, hts (.instanceMethod yX1_leadsBack) (by decide +kernel), hts (.selects RX1 yX1_leadsBack yX1_leadsBack) (by decide +kernel)⟩ (rd_V nstW_ok hP hK hN 1 rfl rfl _) rfl rfl hl.1 rfl (lv_room (Nat.le_of_ble_eq_true rfl)) dX2_count_26 ⟨Nat.zero_le _, Nat.zero_le _⟩) ?_
        refine hx_ifB (tgt := 34) hx hb dX2_count_29 (by decide) (fun c_4 => ?_) (fun c_4 => ?_)
        · refine lv_iload_n hx hb dX2_count_34 rfl (lv_at hl 1 rfl) ?_
          refine hx_read (va_runS (As := [.int (nI r)]) (rest := []) ⟨hx, hb, hml, hown, hts⟩ (c_X2_isView l (nI r)) (va_cwS 1 hts gX2_count_X2_isView rfl rfl rfl (by decide +kernel) ⟨Nat.le_of_ble_eq_true rfl, Nat.le_of_ble_eq_true rfl⟩) (nu_S _) rfl rfl hl.1 rfl (lv_room (Nat.le_of_ble_eq_true rfl)) dX2_count_35 ⟨Nat.zero_le _, Nat.zero_le _⟩) ?_
          refine hx_ifB (tgt := 57) hx hb dX2_count_38 (by decide) (fun c_5 => ?_) (fun c_5 => ?_)
          · exact absurd (kw.symm.trans c_5) (by decide)
          · refine lv_aload_n hx hb dX2_count_41 rfl (lv_at hl 0 rfl) ?_
            refine va_get (D := (dC, dI)) (ci := 2) (v := .ref (a 9)) (C := RX2) (T := TX2) (N := 7) hx hb hts in_X2 hown hK hP 0 rfl rfl 4 (by decide) lf_26 (fun _ h9 => h9) rfl dX2_count_42 ?_
            refine lv_bipush (v := nI 25) hx hb dX2_count_45 (by decide) ?_
            refine lv_iload_n hx hb dX2_count_47 rfl (lv_at hl 1 rfl) ?_
            refine hx_imul hx hb dX2_count_48 ?_
            refine lv_iconst (v := nI 5) hx hb dX2_count_49 (by decide) ?_
            refine lv_iload_n hx hb dX2_count_50 rfl (lv_at hl 2 rfl) ?_
            refine hx_imul hx hb dX2_count_51 ?_
            refine hx_iadd hx hb dX2_count_52 ?_
            refine lv_iload_n hx hb dX2_count_53 rfl (lv_at hl 3 rfl) ?_
            refine hx_iadd hx hb dX2_count_54 ?_
            refine hx_iald hx hb hK hP 9 7 rfl rfl (by omega) (by omega) dX2_count_55 ?_
            exact W.iret (v := ct (((25 * r) + (5 * x)) + y)) hx hb hr (fun t ht hW => ⟨_, rfl, rfl, ht⟩) (fun _ h => by cases h) dX2_count_56
        · exact absurd (hy_3.symm.trans c_4) (by decide)
set_option maxHeartbeats 4000000 in
set_option maxRecDepth 100000 in
theorem c_X2_size_b (l : Launch) (dC : Nat → ClassId) (dI : Nat → Nat → Nat) (a : Nat → Nat) (cA : Nat → ClassId) (n : Nat) (hd fm rp rq : Nat → Nat) (nd nw bf su sI sO ct : Nat → Int32) (r0 : Int32) (hy_0 : isRl r0 = false) : RdM l yX2_size wsX2_size ({ frames := 1, cells := 0, slots := 0, locals := 20 }) (dC, dI) vwCl (vkW a cA n hd fm rp rq nd nw bf su sI sO ct) (vkT cA) nstW [.ref (a 0), .int (r0)] ((-1)) := by
  refine Met.ofW (cc := cX2_size) (maxL := 2) (ret := (some .int)) (by decide) rfl ?_
  intro p e s m args below meth c s₁ B hml hv
  obtain ⟨rfl, hP, hK, hN⟩ := hv
  have hx := B.exec
  have hb := B.bytes
  have hr := B.returns
  have hts := atoms_spec (ws := wsX2_size) B.pre
  have hown : s.vm.findClass RX2 = some m.cls := findClass_of_methodNamed B.named
  have hlocks := B.notSynchronized
  have lf_16 := hts (.fieldLink RX2 16 "ViewKeeper" "now" "[I") (by decide +kernel)
  have in_X2 : ∀ w ∈ u_ws RX2 TX2 7, w ∈ wsX2_size := by decide +kernel
  have hl := lv_entry ([.ref (a 0), .int (r0)]) (n := 2) (Nat.le_of_ble_eq_true rfl)
  rw [lg_entry_eq]
  generalize (lg_sl ([.ref (a 0), .int (r0)]) ++ List.replicate (2 - (lg_sl ([.ref (a 0), .int (r0)])).length) Slot.unset).toArray = ls at hl ⊢
  have hl : lv_has ls 2 [(0, .ref (a 0)), (1, .int (r0))] := hl
  refine lv_iload_n hx hb dX2_size_0 rfl (lv_at hl 1 rfl) ?_
  refine hx_read (va_runS (As := [.int (r0)]) (rest := []) ⟨hx, hb, hml, hown, hts⟩ (c_X2_isRelation l r0) (va_cwS 1 hts gX2_size_X2_isRelation rfl rfl rfl (by decide +kernel) ⟨Nat.le_of_ble_eq_true rfl, Nat.le_of_ble_eq_true rfl⟩) (nu_S _) rfl rfl hl.1 rfl (lv_room (Nat.le_of_ble_eq_true rfl)) dX2_size_1 ⟨Nat.zero_le _, Nat.zero_le _⟩) ?_
  refine hx_ifB (tgt := 19) hx hb dX2_size_4 (by decide) (fun c_1 => ?_) (fun c_1 => ?_)
  · refine lv_iconst (v := (-1)) hx hb dX2_size_19 (by decide) ?_
    exact W.iret (v := (-1)) hx hb hr (fun t ht hW => ⟨_, rfl, rfl, ht⟩) (fun _ h => by cases h) dX2_size_20
  · exact absurd (hy_0.symm.trans c_1) (by decide)
set_option maxHeartbeats 4000000 in
set_option maxRecDepth 100000 in
theorem c_X2_size_g (l : Launch) (dC : Nat → ClassId) (dI : Nat → Nat → Nat) (a : Nat → Nat) (cA : Nat → ClassId) (n : Nat) (hd fm rp rq : Nat → Nat) (nd nw bf su sI sO ct : Nat → Int32) (r : Nat) (hy_0 : r < 7) : RdM l yX2_size wsX2_size ({ frames := 1, cells := 0, slots := 0, locals := 20 }) (dC, dI) vwCl (vkW a cA n hd fm rp rq nd nw bf su sI sO ct) (vkT cA) nstW [.ref (a 0), .int (nI r)] (nI (cntB (nw r) 32)) := by
  refine Met.ofW (cc := cX2_size) (maxL := 2) (ret := (some .int)) (by decide) rfl ?_
  intro p e s m args below meth c s₁ B hml hv
  obtain ⟨rfl, hP, hK, hN⟩ := hv
  have hx := B.exec
  have hb := B.bytes
  have hr := B.returns
  have hts := atoms_spec (ws := wsX2_size) B.pre
  have hown : s.vm.findClass RX2 = some m.cls := findClass_of_methodNamed B.named
  have hlocks := B.notSynchronized
  have kr : isRl (nI r) = true := isRl_nI (by omega)
  have lf_16 := hts (.fieldLink RX2 16 "ViewKeeper" "now" "[I") (by decide +kernel)
  have in_X2 : ∀ w ∈ u_ws RX2 TX2 7, w ∈ wsX2_size := by decide +kernel
  have hl := lv_entry ([.ref (a 0), .int (nI r)]) (n := 2) (Nat.le_of_ble_eq_true rfl)
  rw [lg_entry_eq]
  generalize (lg_sl ([.ref (a 0), .int (nI r)]) ++ List.replicate (2 - (lg_sl ([.ref (a 0), .int (nI r)])).length) Slot.unset).toArray = ls at hl ⊢
  have hl : lv_has ls 2 [(0, .ref (a 0)), (1, .int (nI r))] := hl
  refine lv_iload_n hx hb dX2_size_0 rfl (lv_at hl 1 rfl) ?_
  refine hx_read (va_runS (As := [.int (nI r)]) (rest := []) ⟨hx, hb, hml, hown, hts⟩ (c_X2_isRelation l (nI r)) (va_cwS 1 hts gX2_size_X2_isRelation rfl rfl rfl (by decide +kernel) ⟨Nat.le_of_ble_eq_true rfl, Nat.le_of_ble_eq_true rfl⟩) (nu_S _) rfl rfl hl.1 rfl (lv_room (Nat.le_of_ble_eq_true rfl)) dX2_size_1 ⟨Nat.zero_le _, Nat.zero_le _⟩) ?_
  refine hx_ifB (tgt := 19) hx hb dX2_size_4 (by decide) (fun c_1 => ?_) (fun c_1 => ?_)
  · exact absurd (kr.symm.trans c_1) (by decide)
  · refine lv_aload_n hx hb dX2_size_7 rfl (lv_at hl 0 rfl) ?_
    refine va_get (D := (dC, dI)) (ci := 2) (v := .ref (a 4)) (C := RX2) (T := TX2) (N := 7) hx hb hts in_X2 hown hK hP 0 rfl rfl 1 (by decide) lf_16 (fun _ h9 => h9) rfl dX2_size_8 ?_
    refine lv_iload_n hx hb dX2_size_11 rfl (lv_at hl 1 rfl) ?_
    refine hx_iald hx hb hK hP 4 2 rfl rfl (by omega) (by omega) dX2_size_12 ?_
    refine hx_read (va_runS (As := [.int (nw r)]) (rest := []) ⟨hx, hb, hml, hown, hts⟩ (c_J6_bitCount_0f7a4 l (nw r)) (va_cwS 1 hts gX2_size_J6_bitCount_0f7a4 rfl rfl rfl (by decide +kernel) ⟨Nat.le_of_ble_eq_true rfl, Nat.le_of_ble_eq_true rfl⟩) (nu_S _) rfl rfl hl.1 rfl (lv_room (Nat.le_of_ble_eq_true rfl)) dX2_size_13 ⟨Nat.zero_le _, Nat.zero_le _⟩) ?_
    have hc_2 := cntB_le (nw r) 32
    refine lv_goto (tgt := 20) hx hb dX2_size_16 (by decide) ?_
    exact W.iret (v := nI (cntB (nw r) 32)) hx hb hr (fun t ht hW => ⟨_, rfl, rfl, ht⟩) (fun _ h => by cases h) dX2_size_20
set_option maxHeartbeats 4000000 in
set_option maxRecDepth 100000 in
theorem c_X2_recursive_b (l : Launch) (dC : Nat → ClassId) (dI : Nat → Nat → Nat) (a : Nat → Nat) (cA : Nat → ClassId) (n : Nat) (hd fm rp rq : Nat → Nat) (nd nw bf su sI sO ct : Nat → Int32) (r0 : Int32) (hy_0 : isRl r0 = false) : RdM l yX2_recursive wsX2_recursive ({ frames := 2, cells := 0, slots := 0, locals := 43 }) (dC, dI) vwCl (vkW a cA n hd fm rp rq nd nw bf su sI sO ct) (vkT cA) nstW [.ref (a 0), .int (r0)] (bI false) := by
  refine Met.ofW (cc := cX2_recursive) (maxL := 2) (ret := (some .boolean)) (by decide) rfl ?_
  intro p e s m args below meth c s₁ B hml hv
  obtain ⟨rfl, hP, hK, hN⟩ := hv
  have hx := B.exec
  have hb := B.bytes
  have hr := B.returns
  have hts := atoms_spec (ws := wsX2_recursive) B.pre
  have hown : s.vm.findClass RX2 = some m.cls := findClass_of_methodNamed B.named
  have hlocks := B.notSynchronized
  have lf_10 := hts (.fieldLink RX2 10 "ViewKeeper" "book" "LViewKeeper$RuleBook;") (by decide +kernel)
  have in_X2 : ∀ w ∈ u_ws RX2 TX2 7, w ∈ wsX2_recursive := by decide +kernel
  have hl := lv_entry ([.ref (a 0), .int (r0)]) (n := 2) (Nat.le_of_ble_eq_true rfl)
  rw [lg_entry_eq]
  generalize (lg_sl ([.ref (a 0), .int (r0)]) ++ List.replicate (2 - (lg_sl ([.ref (a 0), .int (r0)])).length) Slot.unset).toArray = ls at hl ⊢
  have hl : lv_has ls 2 [(0, .ref (a 0)), (1, .int (r0))] := hl
  refine lv_iload_n hx hb dX2_recursive_0 rfl (lv_at hl 1 rfl) ?_
  refine hx_read (va_runS (As := [.int (r0)]) (rest := []) ⟨hx, hb, hml, hown, hts⟩ (c_X2_isRelation l r0) (va_cwS 1 hts gX2_recursive_X2_isRelation rfl rfl rfl (by decide +kernel) ⟨Nat.le_of_ble_eq_true rfl, Nat.le_of_ble_eq_true rfl⟩) (nu_S _) rfl rfl hl.1 rfl (lv_room (Nat.le_of_ble_eq_true rfl)) dX2_recursive_1 ⟨Nat.zero_le _, Nat.zero_le _⟩) ?_
  refine hx_ifB (tgt := 22) hx hb dX2_recursive_4 (by decide) (fun c_1 => ?_) (fun c_1 => ?_)
  · refine lv_iconst (v := nI 0) hx hb dX2_recursive_22 (by decide) ?_
    exact W.zret (v := nI 0) hx hb hr rfl (fun t ht hW => ⟨_, rfl, rfl, ht⟩) (fun _ h => by cases h) dX2_recursive_23
  · exact absurd (hy_0.symm.trans c_1) (by decide)
set_option maxHeartbeats 4000000 in
set_option maxRecDepth 100000 in
theorem c_X2_recursive_g (l : Launch) (dC : Nat → ClassId) (dI : Nat → Nat → Nat) (a : Nat → Nat) (cA : Nat → ClassId) (n : Nat) (hd fm rp rq : Nat → Nat) (nd nw bf su sI sO ct : Nat → Int32) (r : Nat) (hy_0 : r < 7) : RdM l yX2_recursive wsX2_recursive ({ frames := 2, cells := 0, slots := 0, locals := 43 }) (dC, dI) vwCl (vkW a cA n hd fm rp rq nd nw bf su sI sO ct) (vkT cA) nstW [.ref (a 0), .int (nI r)] (bI (bt (nd r) r)) := by
  refine Met.ofW (cc := cX2_recursive) (maxL := 2) (ret := (some .boolean)) (by decide) rfl ?_
  intro p e s m args below meth c s₁ B hml hv
  obtain ⟨rfl, hP, hK, hN⟩ := hv
  have hx := B.exec
  have hb := B.bytes
  have hr := B.returns
  have hts := atoms_spec (ws := wsX2_recursive) B.pre
  have hown : s.vm.findClass RX2 = some m.cls := findClass_of_methodNamed B.named
  have hlocks := B.notSynchronized
  have kr : isRl (nI r) = true := isRl_nI (by omega)
  have lf_10 := hts (.fieldLink RX2 10 "ViewKeeper" "book" "LViewKeeper$RuleBook;") (by decide +kernel)
  have in_X2 : ∀ w ∈ u_ws RX2 TX2 7, w ∈ wsX2_recursive := by decide +kernel
  have hl := lv_entry ([.ref (a 0), .int (nI r)]) (n := 2) (Nat.le_of_ble_eq_true rfl)
  rw [lg_entry_eq]
  generalize (lg_sl ([.ref (a 0), .int (nI r)]) ++ List.replicate (2 - (lg_sl ([.ref (a 0), .int (nI r)])).length) Slot.unset).toArray = ls at hl ⊢
  have hl : lv_has ls 2 [(0, .ref (a 0)), (1, .int (nI r))] := hl
  refine lv_iload_n hx hb dX2_recursive_0 rfl (lv_at hl 1 rfl) ?_
  refine hx_read (va_runS (As := [.int (nI r)]) (rest := []) ⟨hx, hb, hml, hown, hts⟩ (c_X2_isRelation l (nI r)) (va_cwS 1 hts gX2_recursive_X2_isRelation rfl rfl rfl (by decide +kernel) ⟨Nat.le_of_ble_eq_true rfl, Nat.le_of_ble_eq_true rfl⟩) (nu_S _) rfl rfl hl.1 rfl (lv_room (Nat.le_of_ble_eq_true rfl)) dX2_recursive_1 ⟨Nat.zero_le _, Nat.zero_le _⟩) ?_
  refine hx_ifB (tgt := 22) hx hb dX2_recursive_4 (by decide) (fun c_1 => ?_) (fun c_1 => ?_)
  · exact absurd (kr.symm.trans c_1) (by decide)
  · refine lv_aload_n hx hb dX2_recursive_7 rfl (lv_at hl 0 rfl) ?_
    refine va_get (D := (dC, dI)) (ci := 2) (v := .ref (a 1)) (C := RX2) (T := TX2) (N := 7) hx hb hts in_X2 hown hK hP 0 rfl rfl 0 (by decide) lf_10 (fun _ h9 => h9) rfl dX2_recursive_8 ?_
    refine lv_iload_n hx hb dX2_recursive_11 rfl (lv_at hl 1 rfl) ?_
    refine hx_read (va_runVN (C := RX1) (As := [.int (nI r)]) (rest := []) ⟨hx, hb, hml, hown, hts⟩ (c_X1_leadsBack l dC dI a cA n hd fm rp rq nd nw bf su sI sO ct r (by omega)) ⟨va_cnB 1 hts gX2_recursive_X1_leadsBack_n95 rfl rfl rfl (hN (.methodLinkNest RX2 95 yX1_leadsBack "ViewKeeper") (by decide +kernel)) (hts (.initialized RX1) (by decide +kernel)) (by decide +kernel) ⟨Nat.le_of_ble_eq_true rfl, Nat.le_of_ble_eq_true rfl⟩, hts (.instanceMethod yX1_leadsBack) (by decide +kernel), hts (.selects RX1 yX1_leadsBack yX1_leadsBack) (by decide +kernel)⟩ (rd_V nstW_ok hP hK hN 1 rfl rfl _) rfl rfl hl.1 rfl (lv_room (Nat.le_of_ble_eq_true rfl)) dX2_recursive_12 ⟨Nat.zero_le _, Nat.zero_le _⟩) ?_
    refine hx_ifB (tgt := 22) hx hb dX2_recursive_15 (by decide) (fun c_2 => ?_) (fun c_2 => ?_)
    · refine lv_iconst (v := nI 0) hx hb dX2_recursive_22 (by decide) ?_
      exact W.zret (v := nI 0) hx hb hr rfl (fun t ht hW => ⟨_, rfl, by rw [c_2]; rfl, ht⟩) (fun _ h => by cases h) dX2_recursive_23
    · refine lv_iconst (v := nI 1) hx hb dX2_recursive_18 (by decide) ?_
      refine lv_goto (tgt := 23) hx hb dX2_recursive_19 (by decide) ?_
      exact W.zret (v := nI 1) hx hb hr rfl (fun t ht hW => ⟨_, rfl, by rw [c_2]; rfl, ht⟩) (fun _ h => by cases h) dX2_recursive_23
set_option maxHeartbeats 4000000 in
set_option maxRecDepth 100000 in
theorem c_X2_needs_b (l : Launch) (dC : Nat → ClassId) (dI : Nat → Nat → Nat) (a : Nat → Nat) (cA : Nat → ClassId) (n : Nat) (hd fm rp rq : Nat → Nat) (nd nw bf su sI sO ct : Nat → Int32) (v0 r0 : Int32) (hy_0 : (isVw v0 && isRl r0) = false) : RdM l yX2_needs wsX2_needs ({ frames := 1, cells := 0, slots := 0, locals := 22 }) (dC, dI) vwCl (vkW a cA n hd fm rp rq nd nw bf su sI sO ct) (vkT cA) nstW [.ref (a 0), .int (v0), .int (r0)] (bI false) := by
  refine Met.ofW (cc := cX2_needs) (maxL := 3) (ret := (some .boolean)) (by decide) rfl ?_
  intro p e s m args below meth c s₁ B hml hv
  obtain ⟨rfl, hP, hK, hN⟩ := hv
  have hx := B.exec
  have hb := B.bytes
  have hr := B.returns
  have hts := atoms_spec (ws := wsX2_needs) B.pre
  have hown : s.vm.findClass RX2 = some m.cls := findClass_of_methodNamed B.named
  have hlocks := B.notSynchronized
  have lf_10 := hts (.fieldLink RX2 10 "ViewKeeper" "book" "LViewKeeper$RuleBook;") (by decide +kernel)
  have in_X2 : ∀ w ∈ u_ws RX2 TX2 7, w ∈ wsX2_needs := by decide +kernel
  have hl := lv_entry ([.ref (a 0), .int (v0), .int (r0)]) (n := 3) (Nat.le_of_ble_eq_true rfl)
  rw [lg_entry_eq]
  generalize (lg_sl ([.ref (a 0), .int (v0), .int (r0)]) ++ List.replicate (3 - (lg_sl ([.ref (a 0), .int (v0), .int (r0)])).length) Slot.unset).toArray = ls at hl ⊢
  have hl : lv_has ls 3 [(0, .ref (a 0)), (1, .int (v0)), (2, .int (r0))] := hl
  refine lv_iload_n hx hb dX2_needs_0 rfl (lv_at hl 1 rfl) ?_
  refine hx_read (va_runS (As := [.int (v0)]) (rest := []) ⟨hx, hb, hml, hown, hts⟩ (c_X2_isView l v0) (va_cwS 1 hts gX2_needs_X2_isView rfl rfl rfl (by decide +kernel) ⟨Nat.le_of_ble_eq_true rfl, Nat.le_of_ble_eq_true rfl⟩) (nu_S _) rfl rfl hl.1 rfl (lv_room (Nat.le_of_ble_eq_true rfl)) dX2_needs_1 ⟨Nat.zero_le _, Nat.zero_le _⟩) ?_
  refine hx_ifB (tgt := 30) hx hb dX2_needs_4 (by decide) (fun c_1 => ?_) (fun c_1 => ?_)
  · refine lv_iconst (v := nI 0) hx hb dX2_needs_30 (by decide) ?_
    exact W.zret (v := nI 0) hx hb hr rfl (fun t ht hW => ⟨_, rfl, rfl, ht⟩) (fun _ h => by cases h) dX2_needs_31
  · refine lv_iload_n hx hb dX2_needs_7 rfl (lv_at hl 2 rfl) ?_
    refine hx_read (va_runS (As := [.int (r0)]) (rest := []) ⟨hx, hb, hml, hown, hts⟩ (c_X2_isRelation l r0) (va_cwS 1 hts gX2_needs_X2_isRelation rfl rfl rfl (by decide +kernel) ⟨Nat.le_of_ble_eq_true rfl, Nat.le_of_ble_eq_true rfl⟩) (nu_S _) rfl rfl hl.1 rfl (lv_room (Nat.le_of_ble_eq_true rfl)) dX2_needs_8 ⟨Nat.zero_le _, Nat.zero_le _⟩) ?_
    refine hx_ifB (tgt := 30) hx hb dX2_needs_11 (by decide) (fun c_2 => ?_) (fun c_2 => ?_)
    · refine lv_iconst (v := nI 0) hx hb dX2_needs_30 (by decide) ?_
      exact W.zret (v := nI 0) hx hb hr rfl (fun t ht hW => ⟨_, rfl, rfl, ht⟩) (fun _ h => by cases h) dX2_needs_31
    · exact absurd hy_0 (by simp [c_1, c_2])
set_option maxHeartbeats 4000000 in
set_option maxRecDepth 100000 in
theorem c_X2_needs_g (l : Launch) (dC : Nat → ClassId) (dI : Nat → Nat → Nat) (a : Nat → Nat) (cA : Nat → ClassId) (n : Nat) (hd fm rp rq : Nat → Nat) (nd nw bf su sI sO ct : Nat → Int32) (v r : Nat) (hy_0 : 2 ≤ v) (hy_1 : v < 7) (hy_2 : r < 7) : RdM l yX2_needs wsX2_needs ({ frames := 1, cells := 0, slots := 0, locals := 22 }) (dC, dI) vwCl (vkW a cA n hd fm rp rq nd nw bf su sI sO ct) (vkT cA) nstW [.ref (a 0), .int (nI v), .int (nI r)] (bI (bt (nd v) r)) := by
  refine Met.ofW (cc := cX2_needs) (maxL := 3) (ret := (some .boolean)) (by decide) rfl ?_
  intro p e s m args below meth c s₁ B hml hv
  obtain ⟨rfl, hP, hK, hN⟩ := hv
  have hx := B.exec
  have hb := B.bytes
  have hr := B.returns
  have hts := atoms_spec (ws := wsX2_needs) B.pre
  have hown : s.vm.findClass RX2 = some m.cls := findClass_of_methodNamed B.named
  have hlocks := B.notSynchronized
  have kv : isVw (nI v) = true := isVw_nI (by omega) (by omega)
  have kr : isRl (nI r) = true := isRl_nI (by omega)
  have lf_10 := hts (.fieldLink RX2 10 "ViewKeeper" "book" "LViewKeeper$RuleBook;") (by decide +kernel)
  have in_X2 : ∀ w ∈ u_ws RX2 TX2 7, w ∈ wsX2_needs := by decide +kernel
  have hl := lv_entry ([.ref (a 0), .int (nI v), .int (nI r)]) (n := 3) (Nat.le_of_ble_eq_true rfl)
  rw [lg_entry_eq]
  generalize (lg_sl ([.ref (a 0), .int (nI v), .int (nI r)]) ++ List.replicate (3 - (lg_sl ([.ref (a 0), .int (nI v), .int (nI r)])).length) Slot.unset).toArray = ls at hl ⊢
  have hl : lv_has ls 3 [(0, .ref (a 0)), (1, .int (nI v)), (2, .int (nI r))] := hl
  refine lv_iload_n hx hb dX2_needs_0 rfl (lv_at hl 1 rfl) ?_
  refine hx_read (va_runS (As := [.int (nI v)]) (rest := []) ⟨hx, hb, hml, hown, hts⟩ (c_X2_isView l (nI v)) (va_cwS 1 hts gX2_needs_X2_isView rfl rfl rfl (by decide +kernel) ⟨Nat.le_of_ble_eq_true rfl, Nat.le_of_ble_eq_true rfl⟩) (nu_S _) rfl rfl hl.1 rfl (lv_room (Nat.le_of_ble_eq_true rfl)) dX2_needs_1 ⟨Nat.zero_le _, Nat.zero_le _⟩) ?_
  refine hx_ifB (tgt := 30) hx hb dX2_needs_4 (by decide) (fun c_1 => ?_) (fun c_1 => ?_)
  · exact absurd (kv.symm.trans c_1) (by decide)
  · refine lv_iload_n hx hb dX2_needs_7 rfl (lv_at hl 2 rfl) ?_
    refine hx_read (va_runS (As := [.int (nI r)]) (rest := []) ⟨hx, hb, hml, hown, hts⟩ (c_X2_isRelation l (nI r)) (va_cwS 1 hts gX2_needs_X2_isRelation rfl rfl rfl (by decide +kernel) ⟨Nat.le_of_ble_eq_true rfl, Nat.le_of_ble_eq_true rfl⟩) (nu_S _) rfl rfl hl.1 rfl (lv_room (Nat.le_of_ble_eq_true rfl)) dX2_needs_8 ⟨Nat.zero_le _, Nat.zero_le _⟩) ?_
    refine hx_ifB (tgt := 30) hx hb dX2_needs_11 (by decide) (fun c_2 => ?_) (fun c_2 => ?_)
    · exact absurd (kr.symm.trans c_2) (by decide)
    · refine lv_aload_n hx hb dX2_needs_14 rfl (lv_at hl 0 rfl) ?_
      refine va_get (D := (dC, dI)) (ci := 2) (v := .ref (a 1)) (C := RX2) (T := TX2) (N := 7) hx hb hts in_X2 hown hK hP 0 rfl rfl 0 (by decide) lf_10 (fun _ h9 => h9) rfl dX2_needs_15 ?_
      refine lv_iload_n hx hb dX2_needs_18 rfl (lv_at hl 1 rfl) ?_
      refine lv_iload_n hx hb dX2_needs_19 rfl (lv_at hl 2 rfl) ?_
      refine hx_read (va_runVN (C := RX1) (As := [.int (nI v), .int (nI r)]) (rest := []) ⟨hx, hb, hml, hown, hts⟩ (c_X1_leadsTo l dC dI a cA n hd fm rp rq nd nw bf su sI sO ct v r (by omega) (by omega)) ⟨va_cnB 2 hts gX2_needs_X1_leadsTo_n98 rfl rfl rfl (hN (.methodLinkNest RX2 98 yX1_leadsTo "ViewKeeper") (by decide +kernel)) (hts (.initialized RX1) (by decide +kernel)) (by decide +kernel) ⟨Nat.le_of_ble_eq_true rfl, Nat.le_of_ble_eq_true rfl⟩, hts (.instanceMethod yX1_leadsTo) (by decide +kernel), hts (.selects RX1 yX1_leadsTo yX1_leadsTo) (by decide +kernel)⟩ (rd_V nstW_ok hP hK hN 1 rfl rfl _) rfl rfl hl.1 rfl (lv_room (Nat.le_of_ble_eq_true rfl)) dX2_needs_20 ⟨Nat.zero_le _, Nat.zero_le _⟩) ?_
      refine hx_ifB (tgt := 30) hx hb dX2_needs_23 (by decide) (fun c_3 => ?_) (fun c_3 => ?_)
      · refine lv_iconst (v := nI 0) hx hb dX2_needs_30 (by decide) ?_
        exact W.zret (v := nI 0) hx hb hr rfl (fun t ht hW => ⟨_, rfl, by rw [c_3]; rfl, ht⟩) (fun _ h => by cases h) dX2_needs_31
      · refine lv_iconst (v := nI 1) hx hb dX2_needs_26 (by decide) ?_
        refine lv_goto (tgt := 31) hx hb dX2_needs_27 (by decide) ?_
        exact W.zret (v := nI 1) hx hb hr rfl (fun t ht hW => ⟨_, rfl, by rw [c_3]; rfl, ht⟩) (fun _ h => by cases h) dX2_needs_31
set_option maxHeartbeats 4000000 in
set_option maxRecDepth 100000 in
theorem c_X2_rules (l : Launch) (dC : Nat → ClassId) (dI : Nat → Nat → Nat) (a : Nat → Nat) (cA : Nat → ClassId) (n : Nat) (hd fm rp rq : Nat → Nat) (nd nw bf su sI sO ct : Nat → Int32)  : RdM l yX2_rules wsX2_rules ({ frames := 0, cells := 0, slots := 0, locals := 0 }) (dC, dI) vwCl (vkW a cA n hd fm rp rq nd nw bf su sI sO ct) (vkT cA) nstW [.ref (a 0)] (nI n) := by
  refine Met.ofW (cc := cX2_rules) (maxL := 1) (ret := (some .int)) (by decide) rfl ?_
  intro p e s m args below meth c s₁ B hml hv
  obtain ⟨rfl, hP, hK, hN⟩ := hv
  have hx := B.exec
  have hb := B.bytes
  have hr := B.returns
  have hts := atoms_spec (ws := wsX2_rules) B.pre
  have hown : s.vm.findClass RX2 = some m.cls := findClass_of_methodNamed B.named
  have hlocks := B.notSynchronized
  have lf_10 := hts (.fieldLink RX2 10 "ViewKeeper" "book" "LViewKeeper$RuleBook;") (by decide +kernel)
  have in_X2 : ∀ w ∈ u_ws RX2 TX2 7, w ∈ wsX2_rules := by decide +kernel
  have lf_42 : (Cond.fieldLinkNest RX2 42 "ViewKeeper$RuleBook" "made" "I" "ViewKeeper").before ([.ref (a 0)] : List Value).toArray s = true := va_Nw.use rfl (hN _ (by decide +kernel))
  have in_X1 : ∀ w ∈ u_ws RX1 TX1 3, w ∈ wsX2_rules := by decide +kernel
  have hl := lv_entry ([.ref (a 0)]) (n := 1) (Nat.le_of_ble_eq_true rfl)
  rw [lg_entry_eq]
  generalize (lg_sl ([.ref (a 0)]) ++ List.replicate (1 - (lg_sl ([.ref (a 0)])).length) Slot.unset).toArray = ls at hl ⊢
  have hl : lv_has ls 1 [(0, .ref (a 0))] := hl
  refine lv_aload_n hx hb dX2_rules_0 rfl (lv_at hl 0 rfl) ?_
  refine va_get (D := (dC, dI)) (ci := 2) (v := .ref (a 1)) (C := RX2) (T := TX2) (N := 7) hx hb hts in_X2 hown hK hP 0 rfl rfl 0 (by decide) lf_10 (fun _ h9 => h9) rfl dX2_rules_1 ?_
  refine va_getN (D := (dC, dI)) (ci := 1) (v := .int (nI n)) (C := RX1) (T := TX1) (N := 3) hx hb hts in_X1 hown hK hP 1 rfl rfl 2 (by decide) lf_42 (fun _ h9 => h9) rfl dX2_rules_4 ?_
  exact W.iret (v := nI n) hx hb hr (fun t ht hW => ⟨_, rfl, rfl, ht⟩) (fun _ h => by cases h) dX2_rules_7
set_option maxHeartbeats 4000000 in
set_option maxRecDepth 100000 in
theorem c_X2_changed_b (l : Launch) (dC : Nat → ClassId) (dI : Nat → Nat → Nat) (a : Nat → Nat) (cA : Nat → ClassId) (n : Nat) (hd fm rp rq : Nat → Nat) (nd nw bf su sI sO ct : Nat → Int32) (r0 w0 : Int32) (hy_0 : isRl r0 = false) : RdM l yX2_changed wsX2_changed ({ frames := 1, cells := 0, slots := 0, locals := 21 }) (dC, dI) vwCl (vkW a cA n hd fm rp rq nd nw bf su sI sO ct) (vkT cA) nstW [.ref (a 0), .int (r0), .int (w0)] ((-1)) := by
  refine Met.ofW (cc := cX2_changed) (maxL := 3) (ret := (some .int)) (by decide) rfl ?_
  intro p e s m args below meth c s₁ B hml hv
  obtain ⟨rfl, hP, hK, hN⟩ := hv
  have hx := B.exec
  have hb := B.bytes
  have hr := B.returns
  have hts := atoms_spec (ws := wsX2_changed) B.pre
  have hown : s.vm.findClass RX2 = some m.cls := findClass_of_methodNamed B.named
  have hlocks := B.notSynchronized
  have lf_23 := hts (.fieldLink RX2 23 "ViewKeeper" "suspects" "[I") (by decide +kernel)
  have in_X2 : ∀ w ∈ u_ws RX2 TX2 7, w ∈ wsX2_changed := by decide +kernel
  have lf_16 := hts (.fieldLink RX2 16 "ViewKeeper" "now" "[I") (by decide +kernel)
  have hl := lv_entry ([.ref (a 0), .int (r0), .int (w0)]) (n := 3) (Nat.le_of_ble_eq_true rfl)
  rw [lg_entry_eq]
  generalize (lg_sl ([.ref (a 0), .int (r0), .int (w0)]) ++ List.replicate (3 - (lg_sl ([.ref (a 0), .int (r0), .int (w0)])).length) Slot.unset).toArray = ls at hl ⊢
  have hl : lv_has ls 3 [(0, .ref (a 0)), (1, .int (r0)), (2, .int (w0))] := hl
  refine lv_iload_n hx hb dX2_changed_0 rfl (lv_at hl 1 rfl) ?_
  refine hx_read (va_runS (As := [.int (r0)]) (rest := []) ⟨hx, hb, hml, hown, hts⟩ (c_X2_isRelation l r0) (va_cwS 1 hts gX2_changed_X2_isRelation rfl rfl rfl (by decide +kernel) ⟨Nat.le_of_ble_eq_true rfl, Nat.le_of_ble_eq_true rfl⟩) (nu_S _) rfl rfl hl.1 rfl (lv_room (Nat.le_of_ble_eq_true rfl)) dX2_changed_1 ⟨Nat.zero_le _, Nat.zero_le _⟩) ?_
  refine hx_ifnB (tgt := 9) hx hb dX2_changed_4 (by decide) (fun c_1 => ?_) (fun c_1 => ?_)
  · exact absurd (hy_0.symm.trans c_1) (by decide)
  · refine lv_iconst (v := (-1)) hx hb dX2_changed_7 (by decide) ?_
    exact W.iret (v := (-1)) hx hb hr (fun t ht hW => ⟨_, rfl, rfl, ht⟩) (fun _ h => by cases h) dX2_changed_8
set_option maxHeartbeats 4000000 in
set_option maxRecDepth 100000 in
theorem c_X2_changed_c (l : Launch) (dC : Nat → ClassId) (dI : Nat → Nat → Nat) (a : Nat → Nat) (cA : Nat → ClassId) (n : Nat) (hd fm rp rq : Nat → Nat) (nd nw bf su sI sO ct : Nat → Int32) (r : Nat) (w0 : Int32) (hy_0 : r < 7) (hy_1 : w0 < 0 ∨ nI 4 ≤ w0) : RdM l yX2_changed wsX2_changed ({ frames := 1, cells := 0, slots := 0, locals := 21 }) (dC, dI) vwCl (vkW a cA n hd fm rp rq nd nw bf su sI sO ct) (vkT cA) nstW [.ref (a 0), .int (nI r), .int (w0)] ((-1)) := by
  refine Met.ofW (cc := cX2_changed) (maxL := 3) (ret := (some .int)) (by decide) rfl ?_
  intro p e s m args below meth c s₁ B hml hv
  obtain ⟨rfl, hP, hK, hN⟩ := hv
  have hx := B.exec
  have hb := B.bytes
  have hr := B.returns
  have hts := atoms_spec (ws := wsX2_changed) B.pre
  have hown : s.vm.findClass RX2 = some m.cls := findClass_of_methodNamed B.named
  have hlocks := B.notSynchronized
  have kr : isRl (nI r) = true := isRl_nI (by omega)
  have lf_23 := hts (.fieldLink RX2 23 "ViewKeeper" "suspects" "[I") (by decide +kernel)
  have in_X2 : ∀ w ∈ u_ws RX2 TX2 7, w ∈ wsX2_changed := by decide +kernel
  have lf_16 := hts (.fieldLink RX2 16 "ViewKeeper" "now" "[I") (by decide +kernel)
  have hl := lv_entry ([.ref (a 0), .int (nI r), .int (w0)]) (n := 3) (Nat.le_of_ble_eq_true rfl)
  rw [lg_entry_eq]
  generalize (lg_sl ([.ref (a 0), .int (nI r), .int (w0)]) ++ List.replicate (3 - (lg_sl ([.ref (a 0), .int (nI r), .int (w0)])).length) Slot.unset).toArray = ls at hl ⊢
  have hl : lv_has ls 3 [(0, .ref (a 0)), (1, .int (nI r)), (2, .int (w0))] := hl
  refine lv_iload_n hx hb dX2_changed_0 rfl (lv_at hl 1 rfl) ?_
  refine hx_read (va_runS (As := [.int (nI r)]) (rest := []) ⟨hx, hb, hml, hown, hts⟩ (c_X2_isRelation l (nI r)) (va_cwS 1 hts gX2_changed_X2_isRelation rfl rfl rfl (by decide +kernel) ⟨Nat.le_of_ble_eq_true rfl, Nat.le_of_ble_eq_true rfl⟩) (nu_S _) rfl rfl hl.1 rfl (lv_room (Nat.le_of_ble_eq_true rfl)) dX2_changed_1 ⟨Nat.zero_le _, Nat.zero_le _⟩) ?_
  refine hx_ifnB (tgt := 9) hx hb dX2_changed_4 (by decide) (fun c_1 => ?_) (fun c_1 => ?_)
  · refine lv_iload_n hx hb dX2_changed_9 rfl (lv_at hl 2 rfl) ?_
    refine lv_tableOut (tgt := 85) hx hb dX2_changed_10 (tab_out hy_1) (by decide) ?_
    refine lv_iconst (v := (-1)) hx hb dX2_changed_85 (by decide) ?_
    exact W.iret (v := (-1)) hx hb hr (fun t ht hW => ⟨_, rfl, rfl, ht⟩) (fun _ h => by cases h) dX2_changed_86
  · exact absurd (kr.symm.trans c_1) (by decide)
set_option maxHeartbeats 4000000 in
set_option maxRecDepth 100000 in
theorem c_X2_changed_g (l : Launch) (dC : Nat → ClassId) (dI : Nat → Nat → Nat) (a : Nat → Nat) (cA : Nat → ClassId) (n : Nat) (hd fm rp rq : Nat → Nat) (nd nw bf su sI sO ct : Nat → Int32) (r w : Nat) (hy_0 : r < 7) (hy_1 : w < 4) : RdM l yX2_changed wsX2_changed ({ frames := 1, cells := 0, slots := 0, locals := 21 }) (dC, dI) vwCl (vkW a cA n hd fm rp rq nd nw bf su sI sO ct) (vkT cA) nstW [.ref (a 0), .int (nI r), .int (nI w)] (nI (chgM nw bf su r w)) := by
  refine Met.ofW (cc := cX2_changed) (maxL := 3) (ret := (some .int)) (by decide) rfl ?_
  intro p e s m args below meth c s₁ B hml hv
  obtain ⟨rfl, hP, hK, hN⟩ := hv
  have hx := B.exec
  have hb := B.bytes
  have hr := B.returns
  have hts := atoms_spec (ws := wsX2_changed) B.pre
  have hown : s.vm.findClass RX2 = some m.cls := findClass_of_methodNamed B.named
  have hlocks := B.notSynchronized
  have kr : isRl (nI r) = true := isRl_nI (by omega)
  have lf_23 := hts (.fieldLink RX2 23 "ViewKeeper" "suspects" "[I") (by decide +kernel)
  have in_X2 : ∀ w ∈ u_ws RX2 TX2 7, w ∈ wsX2_changed := by decide +kernel
  have lf_16 := hts (.fieldLink RX2 16 "ViewKeeper" "now" "[I") (by decide +kernel)
  have hl := lv_entry ([.ref (a 0), .int (nI r), .int (nI w)]) (n := 3) (Nat.le_of_ble_eq_true rfl)
  rw [lg_entry_eq]
  generalize (lg_sl ([.ref (a 0), .int (nI r), .int (nI w)]) ++ List.replicate (3 - (lg_sl ([.ref (a 0), .int (nI r), .int (nI w)])).length) Slot.unset).toArray = ls at hl ⊢
  have hl : lv_has ls 3 [(0, .ref (a 0)), (1, .int (nI r)), (2, .int (nI w))] := hl
  refine lv_iload_n hx hb dX2_changed_0 rfl (lv_at hl 1 rfl) ?_
  refine hx_read (va_runS (As := [.int (nI r)]) (rest := []) ⟨hx, hb, hml, hown, hts⟩ (c_X2_isRelation l (nI r)) (va_cwS 1 hts gX2_changed_X2_isRelation rfl rfl rfl (by decide +kernel) ⟨Nat.le_of_ble_eq_true rfl, Nat.le_of_ble_eq_true rfl⟩) (nu_S _) rfl rfl hl.1 rfl (lv_room (Nat.le_of_ble_eq_true rfl)) dX2_changed_1 ⟨Nat.zero_le _, Nat.zero_le _⟩) ?_
  refine hx_ifnB (tgt := 9) hx hb dX2_changed_4 (by decide) (fun c_1 => ?_) (fun c_1 => ?_)
  · refine lv_iload_n hx hb dX2_changed_9 rfl (lv_at hl 2 rfl) ?_
    rcases (show w = 0 ∨ w = 1 ∨ w = 2 ∨ w = 3 by omega) with q_2 | q_2 | q_2 | q_2
    · refine hx_eq (y := nI 0) (by rw [q_2]) ?_
      refine lv_tableIn (tgt := 40) hx hb dX2_changed_10 (by decide) (by decide) (off := 30) rfl (by decide) ?_
      refine lv_aload_n hx hb dX2_changed_40 rfl (lv_at hl 0 rfl) ?_
      refine lv_iload_n hx hb dX2_changed_41 rfl (lv_at hl 1 rfl) ?_
      refine hx_read (va_runV (As := [.int (nI r)]) (rest := []) ⟨hx, hb, hml, hown, hts⟩ (c_X2_putInto l dC dI a cA n hd fm rp rq nd nw bf su sI sO ct r (by omega)) (cwV 1 hts gX2_changed_X2_putInto rfl rfl rfl (by decide +kernel) ⟨Nat.le_of_ble_eq_true rfl, Nat.le_of_ble_eq_true rfl⟩) (rd_V nstW_ok hP hK hN 0 rfl rfl _) rfl rfl hl.1 rfl (lv_room (Nat.le_of_ble_eq_true rfl)) dX2_changed_42 ⟨Nat.zero_le _, Nat.zero_le _⟩) ?_
      refine hx_read (va_runS (As := [.int (putM nw bf r)]) (rest := []) ⟨hx, hb, hml, hown, hts⟩ (c_J6_bitCount_0f7a4 l (putM nw bf r)) (va_cwS 1 hts gX2_changed_J6_bitCount_0f7a4 rfl rfl rfl (by decide +kernel) ⟨Nat.le_of_ble_eq_true rfl, Nat.le_of_ble_eq_true rfl⟩) (nu_S _) rfl rfl hl.1 rfl (lv_room (Nat.le_of_ble_eq_true rfl)) dX2_changed_45 ⟨Nat.zero_le _, Nat.zero_le _⟩) ?_
      have hc_3 := cntB_le (putM nw bf r) 32
      exact W.iret (v := nI (cntB (putM nw bf r) 32)) hx hb hr (fun t ht hW => ⟨_, rfl, by simp [chgM, c_1, q_2], ht⟩) (fun _ h => by cases h) dX2_changed_48
    · refine hx_eq (y := nI 1) (by rw [q_2]) ?_
      refine lv_tableIn (tgt := 49) hx hb dX2_changed_10 (by decide) (by decide) (off := 39) rfl (by decide) ?_
      refine lv_aload_n hx hb dX2_changed_49 rfl (lv_at hl 0 rfl) ?_
      refine lv_iload_n hx hb dX2_changed_50 rfl (lv_at hl 1 rfl) ?_
      refine hx_read (va_runV (As := [.int (nI r)]) (rest := []) ⟨hx, hb, hml, hown, hts⟩ (c_X2_takenOutOf l dC dI a cA n hd fm rp rq nd nw bf su sI sO ct r (by omega)) (cwV 1 hts gX2_changed_X2_takenOutOf rfl rfl rfl (by decide +kernel) ⟨Nat.le_of_ble_eq_true rfl, Nat.le_of_ble_eq_true rfl⟩) (rd_V nstW_ok hP hK hN 0 rfl rfl _) rfl rfl hl.1 rfl (lv_room (Nat.le_of_ble_eq_true rfl)) dX2_changed_51 ⟨Nat.zero_le _, Nat.zero_le _⟩) ?_
      refine hx_read (va_runS (As := [.int (takM nw bf r)]) (rest := []) ⟨hx, hb, hml, hown, hts⟩ (c_J6_bitCount_0f7a4 l (takM nw bf r)) (va_cwS 1 hts gX2_changed_J6_bitCount_0f7a4 rfl rfl rfl (by decide +kernel) ⟨Nat.le_of_ble_eq_true rfl, Nat.le_of_ble_eq_true rfl⟩) (nu_S _) rfl rfl hl.1 rfl (lv_room (Nat.le_of_ble_eq_true rfl)) dX2_changed_54 ⟨Nat.zero_le _, Nat.zero_le _⟩) ?_
      have hc_4 := cntB_le (takM nw bf r) 32
      exact W.iret (v := nI (cntB (takM nw bf r) 32)) hx hb hr (fun t ht hW => ⟨_, rfl, by simp [chgM, c_1, q_2], ht⟩) (fun _ h => by cases h) dX2_changed_57
    · refine hx_eq (y := nI 2) (by rw [q_2]) ?_
      refine lv_tableIn (tgt := 58) hx hb dX2_changed_10 (by decide) (by decide) (off := 48) rfl (by decide) ?_
      refine lv_aload_n hx hb dX2_changed_58 rfl (lv_at hl 0 rfl) ?_
      refine va_get (D := (dC, dI)) (ci := 2) (v := .ref (a 6)) (C := RX2) (T := TX2) (N := 7) hx hb hts in_X2 hown hK hP 0 rfl rfl 3 (by decide) lf_23 (fun _ h9 => h9) rfl dX2_changed_59 ?_
      refine lv_iload_n hx hb dX2_changed_62 rfl (lv_at hl 1 rfl) ?_
      refine hx_iald hx hb hK hP 6 4 rfl rfl (by omega) (by omega) dX2_changed_63 ?_
      refine hx_read (va_runS (As := [.int (su r)]) (rest := []) ⟨hx, hb, hml, hown, hts⟩ (c_J6_bitCount_0f7a4 l (su r)) (va_cwS 1 hts gX2_changed_J6_bitCount_0f7a4 rfl rfl rfl (by decide +kernel) ⟨Nat.le_of_ble_eq_true rfl, Nat.le_of_ble_eq_true rfl⟩) (nu_S _) rfl rfl hl.1 rfl (lv_room (Nat.le_of_ble_eq_true rfl)) dX2_changed_64 ⟨Nat.zero_le _, Nat.zero_le _⟩) ?_
      have hc_5 := cntB_le (su r) 32
      exact W.iret (v := nI (cntB (su r) 32)) hx hb hr (fun t ht hW => ⟨_, rfl, by simp [chgM, c_1, q_2], ht⟩) (fun _ h => by cases h) dX2_changed_67
    · refine hx_eq (y := nI 3) (by rw [q_2]) ?_
      refine lv_tableIn (tgt := 68) hx hb dX2_changed_10 (by decide) (by decide) (off := 58) rfl (by decide) ?_
      refine lv_aload_n hx hb dX2_changed_68 rfl (lv_at hl 0 rfl) ?_
      refine va_get (D := (dC, dI)) (ci := 2) (v := .ref (a 6)) (C := RX2) (T := TX2) (N := 7) hx hb hts in_X2 hown hK hP 0 rfl rfl 3 (by decide) lf_23 (fun _ h9 => h9) rfl dX2_changed_69 ?_
      refine lv_iload_n hx hb dX2_changed_72 rfl (lv_at hl 1 rfl) ?_
      refine hx_iald hx hb hK hP 6 4 rfl rfl (by omega) (by omega) dX2_changed_73 ?_
      refine lv_aload_n hx hb dX2_changed_74 rfl (lv_at hl 0 rfl) ?_
      refine va_get (D := (dC, dI)) (ci := 2) (v := .ref (a 4)) (C := RX2) (T := TX2) (N := 7) hx hb hts in_X2 hown hK hP 0 rfl rfl 1 (by decide) lf_16 (fun _ h9 => h9) rfl dX2_changed_75 ?_
      refine lv_iload_n hx hb dX2_changed_78 rfl (lv_at hl 1 rfl) ?_
      refine hx_iald hx hb hK hP 4 2 rfl rfl (by omega) (by omega) dX2_changed_79 ?_
      refine lv_iand hx hb dX2_changed_80 ?_
      refine hx_read (va_runS (As := [.int ((su r) &&& (nw r))]) (rest := []) ⟨hx, hb, hml, hown, hts⟩ (c_J6_bitCount_0f7a4 l ((su r) &&& (nw r))) (va_cwS 1 hts gX2_changed_J6_bitCount_0f7a4 rfl rfl rfl (by decide +kernel) ⟨Nat.le_of_ble_eq_true rfl, Nat.le_of_ble_eq_true rfl⟩) (nu_S _) rfl rfl hl.1 rfl (lv_room (Nat.le_of_ble_eq_true rfl)) dX2_changed_81 ⟨Nat.zero_le _, Nat.zero_le _⟩) ?_
      have hc_6 := cntB_le ((su r) &&& (nw r)) 32
      exact W.iret (v := nI (cntB ((su r) &&& (nw r)) 32)) hx hb hr (fun t ht hW => ⟨_, rfl, by simp [chgM, c_1, q_2], ht⟩) (fun _ h => by cases h) dX2_changed_84
  · exact absurd (kr.symm.trans c_1) (by decide)

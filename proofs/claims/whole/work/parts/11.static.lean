/-! the class's own small methods of numbers -/
theorem nar_bI (b : Bool) : narrow .boolean (.int (bI b)) = .int (bI b) := by cases b <;> rfl
def isRl (r : Int32) : Bool := !decide (r < 0) && !decide (nI 7 ≤ r)
def isVw (r : Int32) : Bool := !decide (r < nI 2) && !decide (nI 7 ≤ r)
def isTh (r : Int32) : Bool := !decide (r < 0) && !decide (nI 5 ≤ r)
set_option maxHeartbeats 4000000 in
set_option maxRecDepth 100000 in
theorem c_X2_isRelation (l : Launch) (r0 : Int32)  : NuM l yX2_isRelation wsX2_isRelation ({ frames := 0, cells := 0, slots := 0, locals := 0 }) [.int (r0)] (bI (isRl r0)) := by
  refine Met.ofW (cc := cX2_isRelation) (maxL := 1) (ret := (some .boolean)) (by decide) rfl ?_
  intro p e s m args below meth c s₁ B hml hv
  obtain ⟨rfl, -⟩ := hv
  have hx := B.exec
  have hb := B.bytes
  have hr := B.returns
  have hts := atoms_spec (ws := wsX2_isRelation) B.pre
  have hown : s.vm.findClass RX2 = some m.cls := findClass_of_methodNamed B.named
  have hlocks := B.notSynchronized
  have hl := lv_entry ([.int (r0)]) (n := 1) (Nat.le_of_ble_eq_true rfl)
  rw [lg_entry_eq]
  generalize (lg_sl ([.int (r0)]) ++ List.replicate (1 - (lg_sl ([.int (r0)])).length) Slot.unset).toArray = ls at hl ⊢
  have hl : lv_has ls 1 [(0, .int (r0))] := hl
  refine lv_iload_n hx hb dX2_isRelation_0 rfl (lv_at hl 0 rfl) ?_
  refine lv_if_lt (tgt := 14) hx hb dX2_isRelation_1 (by decide) (fun c_1 => ?_) (fun c_1 => ?_)
  · refine lv_iconst (v := nI 0) hx hb dX2_isRelation_14 (by decide) ?_
    exact W.zret (v := nI 0) hx hb hr rfl (fun t ht hW => ⟨_, rfl, by rw [show isRl r0 = false from by simp [isRl, c_1]]; rfl, ht⟩) (fun _ h => by cases h) dX2_isRelation_15
  · refine lv_iload_n hx hb dX2_isRelation_4 rfl (lv_at hl 0 rfl) ?_
    refine lv_bipush (v := nI 7) hx hb dX2_isRelation_5 (by decide) ?_
    refine lv_icmp_ge (tgt := 14) hx hb dX2_isRelation_7 (by decide) (fun c_2 => ?_) (fun c_2 => ?_)
    · refine lv_iconst (v := nI 0) hx hb dX2_isRelation_14 (by decide) ?_
      exact W.zret (v := nI 0) hx hb hr rfl (fun t ht hW => ⟨_, rfl, by rw [show isRl r0 = false from by simp [isRl, c_1, c_2]]; rfl, ht⟩) (fun _ h => by cases h) dX2_isRelation_15
    · refine lv_iconst (v := nI 1) hx hb dX2_isRelation_10 (by decide) ?_
      refine lv_goto (tgt := 15) hx hb dX2_isRelation_11 (by decide) ?_
      exact W.zret (v := nI 1) hx hb hr rfl (fun t ht hW => ⟨_, rfl, by rw [show isRl r0 = true from by simp [isRl, c_1, c_2]]; rfl, ht⟩) (fun _ h => by cases h) dX2_isRelation_15
set_option maxHeartbeats 4000000 in
set_option maxRecDepth 100000 in
theorem c_X2_isView (l : Launch) (r0 : Int32)  : NuM l yX2_isView wsX2_isView ({ frames := 0, cells := 0, slots := 0, locals := 0 }) [.int (r0)] (bI (isVw r0)) := by
  refine Met.ofW (cc := cX2_isView) (maxL := 1) (ret := (some .boolean)) (by decide) rfl ?_
  intro p e s m args below meth c s₁ B hml hv
  obtain ⟨rfl, -⟩ := hv
  have hx := B.exec
  have hb := B.bytes
  have hr := B.returns
  have hts := atoms_spec (ws := wsX2_isView) B.pre
  have hown : s.vm.findClass RX2 = some m.cls := findClass_of_methodNamed B.named
  have hlocks := B.notSynchronized
  have hl := lv_entry ([.int (r0)]) (n := 1) (Nat.le_of_ble_eq_true rfl)
  rw [lg_entry_eq]
  generalize (lg_sl ([.int (r0)]) ++ List.replicate (1 - (lg_sl ([.int (r0)])).length) Slot.unset).toArray = ls at hl ⊢
  have hl : lv_has ls 1 [(0, .int (r0))] := hl
  refine lv_iload_n hx hb dX2_isView_0 rfl (lv_at hl 0 rfl) ?_
  refine lv_iconst (v := nI 2) hx hb dX2_isView_1 (by decide) ?_
  refine lv_icmp_lt (tgt := 15) hx hb dX2_isView_2 (by decide) (fun c_1 => ?_) (fun c_1 => ?_)
  · refine lv_iconst (v := nI 0) hx hb dX2_isView_15 (by decide) ?_
    exact W.zret (v := nI 0) hx hb hr rfl (fun t ht hW => ⟨_, rfl, by rw [show isVw r0 = false from by simp [isVw, c_1]]; rfl, ht⟩) (fun _ h => by cases h) dX2_isView_16
  · refine lv_iload_n hx hb dX2_isView_5 rfl (lv_at hl 0 rfl) ?_
    refine lv_bipush (v := nI 7) hx hb dX2_isView_6 (by decide) ?_
    refine lv_icmp_ge (tgt := 15) hx hb dX2_isView_8 (by decide) (fun c_2 => ?_) (fun c_2 => ?_)
    · refine lv_iconst (v := nI 0) hx hb dX2_isView_15 (by decide) ?_
      exact W.zret (v := nI 0) hx hb hr rfl (fun t ht hW => ⟨_, rfl, by rw [show isVw r0 = false from by simp [isVw, c_1, c_2]]; rfl, ht⟩) (fun _ h => by cases h) dX2_isView_16
    · refine lv_iconst (v := nI 1) hx hb dX2_isView_11 (by decide) ?_
      refine lv_goto (tgt := 16) hx hb dX2_isView_12 (by decide) ?_
      exact W.zret (v := nI 1) hx hb hr rfl (fun t ht hW => ⟨_, rfl, by rw [show isVw r0 = true from by simp [isVw, c_1, c_2]]; rfl, ht⟩) (fun _ h => by cases h) dX2_isView_16
set_option maxHeartbeats 4000000 in
set_option maxRecDepth 100000 in
theorem c_X2_isThing (l : Launch) (r0 : Int32)  : NuM l yX2_isThing wsX2_isThing ({ frames := 0, cells := 0, slots := 0, locals := 0 }) [.int (r0)] (bI (isTh r0)) := by
  refine Met.ofW (cc := cX2_isThing) (maxL := 1) (ret := (some .boolean)) (by decide) rfl ?_
  intro p e s m args below meth c s₁ B hml hv
  obtain ⟨rfl, -⟩ := hv
  have hx := B.exec
  have hb := B.bytes
  have hr := B.returns
  have hts := atoms_spec (ws := wsX2_isThing) B.pre
  have hown : s.vm.findClass RX2 = some m.cls := findClass_of_methodNamed B.named
  have hlocks := B.notSynchronized
  have hl := lv_entry ([.int (r0)]) (n := 1) (Nat.le_of_ble_eq_true rfl)
  rw [lg_entry_eq]
  generalize (lg_sl ([.int (r0)]) ++ List.replicate (1 - (lg_sl ([.int (r0)])).length) Slot.unset).toArray = ls at hl ⊢
  have hl : lv_has ls 1 [(0, .int (r0))] := hl
  refine lv_iload_n hx hb dX2_isThing_0 rfl (lv_at hl 0 rfl) ?_
  refine lv_if_lt (tgt := 13) hx hb dX2_isThing_1 (by decide) (fun c_1 => ?_) (fun c_1 => ?_)
  · refine lv_iconst (v := nI 0) hx hb dX2_isThing_13 (by decide) ?_
    exact W.zret (v := nI 0) hx hb hr rfl (fun t ht hW => ⟨_, rfl, by rw [show isTh r0 = false from by simp [isTh, c_1]]; rfl, ht⟩) (fun _ h => by cases h) dX2_isThing_14
  · refine lv_iload_n hx hb dX2_isThing_4 rfl (lv_at hl 0 rfl) ?_
    refine lv_iconst (v := nI 5) hx hb dX2_isThing_5 (by decide) ?_
    refine lv_icmp_ge (tgt := 13) hx hb dX2_isThing_6 (by decide) (fun c_2 => ?_) (fun c_2 => ?_)
    · refine lv_iconst (v := nI 0) hx hb dX2_isThing_13 (by decide) ?_
      exact W.zret (v := nI 0) hx hb hr rfl (fun t ht hW => ⟨_, rfl, by rw [show isTh r0 = false from by simp [isTh, c_1, c_2]]; rfl, ht⟩) (fun _ h => by cases h) dX2_isThing_14
    · refine lv_iconst (v := nI 1) hx hb dX2_isThing_9 (by decide) ?_
      refine lv_goto (tgt := 14) hx hb dX2_isThing_10 (by decide) ?_
      exact W.zret (v := nI 1) hx hb hr rfl (fun t ht hW => ⟨_, rfl, by rw [show isTh r0 = true from by simp [isTh, c_1, c_2]]; rfl, ht⟩) (fun _ h => by cases h) dX2_isThing_14
set_option maxHeartbeats 4000000 in
set_option maxRecDepth 100000 in
theorem c_X2_bit (l : Launch) (x y : Nat)  : NuM l yX2_bit wsX2_bit ({ frames := 0, cells := 0, slots := 0, locals := 0 }) [.int (nI x), .int (nI y)] (bm (5 * x + y)) := by
  refine Met.ofW (cc := cX2_bit) (maxL := 2) (ret := (some .int)) (by decide) rfl ?_
  intro p e s m args below meth c s₁ B hml hv
  obtain ⟨rfl, -⟩ := hv
  have hx := B.exec
  have hb := B.bytes
  have hr := B.returns
  have hts := atoms_spec (ws := wsX2_bit) B.pre
  have hown : s.vm.findClass RX2 = some m.cls := findClass_of_methodNamed B.named
  have hlocks := B.notSynchronized
  have hl := lv_entry ([.int (nI x), .int (nI y)]) (n := 2) (Nat.le_of_ble_eq_true rfl)
  rw [lg_entry_eq]
  generalize (lg_sl ([.int (nI x), .int (nI y)]) ++ List.replicate (2 - (lg_sl ([.int (nI x), .int (nI y)])).length) Slot.unset).toArray = ls at hl ⊢
  have hl : lv_has ls 2 [(0, .int (nI x)), (1, .int (nI y))] := hl
  refine lv_iconst (v := nI 1) hx hb dX2_bit_0 (by decide) ?_
  refine lv_iconst (v := nI 5) hx hb dX2_bit_1 (by decide) ?_
  refine lv_iload_n hx hb dX2_bit_2 rfl (lv_at hl 0 rfl) ?_
  refine hx_imul hx hb dX2_bit_3 ?_
  refine lv_iload_n hx hb dX2_bit_4 rfl (lv_at hl 1 rfl) ?_
  refine hx_iadd hx hb dX2_bit_5 ?_
  refine lv_ishl hx hb dX2_bit_6 ?_
  refine hx_eq (y := bm ((5 * x) + y)) rfl ?_
  exact W.iret (v := bm ((5 * x) + y)) hx hb hr (fun t ht hW => ⟨_, rfl, rfl, ht⟩) (fun _ h => by cases h) dX2_bit_7
set_option maxHeartbeats 4000000 in
set_option maxRecDepth 100000 in
theorem c_X2_holds (l : Launch) (m0 : Int32) (x y : Nat) (hy_0 : x < 5) (hy_1 : y < 5) : NuM l yX2_holds wsX2_holds ({ frames := 0, cells := 0, slots := 0, locals := 0 }) [.int (m0), .int (nI x), .int (nI y)] (bI (bt m0 (5 * x + y))) := by
  refine Met.ofW (cc := cX2_holds) (maxL := 3) (ret := (some .boolean)) (by decide) rfl ?_
  intro p e s m args below meth c s₁ B hml hv
  obtain ⟨rfl, -⟩ := hv
  have hx := B.exec
  have hb := B.bytes
  have hr := B.returns
  have hts := atoms_spec (ws := wsX2_holds) B.pre
  have hown : s.vm.findClass RX2 = some m.cls := findClass_of_methodNamed B.named
  have hlocks := B.notSynchronized
  have hl := lv_entry ([.int (m0), .int (nI x), .int (nI y)]) (n := 3) (Nat.le_of_ble_eq_true rfl)
  rw [lg_entry_eq]
  generalize (lg_sl ([.int (m0), .int (nI x), .int (nI y)]) ++ List.replicate (3 - (lg_sl ([.int (m0), .int (nI x), .int (nI y)])).length) Slot.unset).toArray = ls at hl ⊢
  have hl : lv_has ls 3 [(0, .int (m0)), (1, .int (nI x)), (2, .int (nI y))] := hl
  refine lv_iload_n hx hb dX2_holds_0 rfl (lv_at hl 0 rfl) ?_
  refine lv_iconst (v := nI 5) hx hb dX2_holds_1 (by decide) ?_
  refine lv_iload_n hx hb dX2_holds_2 rfl (lv_at hl 1 rfl) ?_
  refine hx_imul hx hb dX2_holds_3 ?_
  refine lv_iload_n hx hb dX2_holds_4 rfl (lv_at hl 2 rfl) ?_
  refine hx_iadd hx hb dX2_holds_5 ?_
  refine lv_ishr hx hb dX2_holds_6 ?_
  refine lv_iconst (v := nI 1) hx hb dX2_holds_7 (by decide) ?_
  refine lv_iand hx hb dX2_holds_8 ?_
  refine hx_eq (bt_read m0 (k := (5 * x) + y) (by omega)) ?_
  refine hx_ifB (tgt := 16) hx hb dX2_holds_9 (by decide) (fun c_1 => ?_) (fun c_1 => ?_)
  · refine lv_iconst (v := nI 0) hx hb dX2_holds_16 (by decide) ?_
    exact W.zret (v := nI 0) hx hb hr rfl (fun t ht hW => ⟨_, rfl, by rw [c_1]; rfl, ht⟩) (fun _ h => by cases h) dX2_holds_17
  · refine lv_iconst (v := nI 1) hx hb dX2_holds_12 (by decide) ?_
    refine lv_goto (tgt := 17) hx hb dX2_holds_13 (by decide) ?_
    exact W.zret (v := nI 1) hx hb hr rfl (fun t ht hW => ⟨_, rfl, by rw [c_1]; rfl, ht⟩) (fun _ h => by cases h) dX2_holds_17
set_option maxHeartbeats 4000000 in
set_option maxRecDepth 100000 in
theorem c_X2_row (l : Launch) (m0 : Int32) (z : Nat)  : NuM l yX2_row wsX2_row ({ frames := 0, cells := 0, slots := 0, locals := 0 }) [.int (m0), .int (nI z)] (rowM m0 z) := by
  refine Met.ofW (cc := cX2_row) (maxL := 2) (ret := (some .int)) (by decide) rfl ?_
  intro p e s m args below meth c s₁ B hml hv
  obtain ⟨rfl, -⟩ := hv
  have hx := B.exec
  have hb := B.bytes
  have hr := B.returns
  have hts := atoms_spec (ws := wsX2_row) B.pre
  have hown : s.vm.findClass RX2 = some m.cls := findClass_of_methodNamed B.named
  have hlocks := B.notSynchronized
  have hl := lv_entry ([.int (m0), .int (nI z)]) (n := 2) (Nat.le_of_ble_eq_true rfl)
  rw [lg_entry_eq]
  generalize (lg_sl ([.int (m0), .int (nI z)]) ++ List.replicate (2 - (lg_sl ([.int (m0), .int (nI z)])).length) Slot.unset).toArray = ls at hl ⊢
  have hl : lv_has ls 2 [(0, .int (m0)), (1, .int (nI z))] := hl
  refine lv_iload_n hx hb dX2_row_0 rfl (lv_at hl 0 rfl) ?_
  refine lv_iconst (v := nI 5) hx hb dX2_row_1 (by decide) ?_
  refine lv_iload_n hx hb dX2_row_2 rfl (lv_at hl 1 rfl) ?_
  refine hx_imul hx hb dX2_row_3 ?_
  refine lv_ishr hx hb dX2_row_4 ?_
  refine lv_bipush (v := nI 31) hx hb dX2_row_5 (by decide) ?_
  refine lv_iand hx hb dX2_row_7 ?_
  exact W.iret (v := (m0 >>> (nI (5 * z) &&& 31)) &&& (nI 31)) hx hb hr (fun t ht hW => ⟨_, rfl, rfl, ht⟩) (fun _ h => by cases h) dX2_row_8
set_option maxHeartbeats 4000000 in
set_option maxRecDepth 100000 in
theorem c_X2_turned (l : Launch) (p0 : Int32)  : NuM l yX2_turned wsX2_turned ({ frames := 1, cells := 0, slots := 0, locals := 22 }) [.int (p0)] (turnM p0) := by
  refine Met.ofW (cc := cX2_turned) (maxL := 4) (ret := (some .int)) (by decide) rfl ?_
  intro p e s m args below meth c s₁ B hml hv
  obtain ⟨rfl, -⟩ := hv
  have hx := B.exec
  have hb := B.bytes
  have hr := B.returns
  have hts := atoms_spec (ws := wsX2_turned) B.pre
  have hown : s.vm.findClass RX2 = some m.cls := findClass_of_methodNamed B.named
  have hlocks := B.notSynchronized
  have hl := lv_entry ([.int (p0)]) (n := 4) (Nat.le_of_ble_eq_true rfl)
  rw [lg_entry_eq]
  generalize (lg_sl ([.int (p0)]) ++ List.replicate (4 - (lg_sl ([.int (p0)])).length) Slot.unset).toArray = ls at hl ⊢
  have hl : lv_has ls 4 [(0, .int (p0))] := hl
  refine lv_iconst (v := nI 0) hx hb dX2_turned_0 (by decide) ?_
  refine lv_istore_n (lv' := [(1, .int (nI 0)), (0, .int (p0))]) hx hb dX2_turned_1 rfl hl (by decide) rfl (fun ls hl => ?_)
  refine lv_iconst (v := nI 0) hx hb dX2_turned_2 (by decide) ?_
  refine lv_istore_n (lv' := [(2, .int (nI 0)), (1, .int (nI 0)), (0, .int (p0))]) hx hb dX2_turned_3 rfl hl (by decide) rfl (fun ls hl => ?_)
  have L_4_0 : ∀ (nn : Nat) (x : Nat) (r : Int32), x + nn = 5 → ∀ ls : Array Slot, lv_has ls 4 [(0, .int (p0)), (1, .int (r)), (2, .int (nI x))] → (∀ ls : Array Slot, lv_has ls 4 [(0, .int (p0)), (1, .int (tuOut p0 nn x r)), (2, .int (nI 5))] → W p l e (headSpec wsX2_turned ({ frames := 1, cells := 0, slots := 0, locals := 22 })).room s m ([.int (p0)] : List Value).toArray below meth c s.heap [] 0 0 (MQ below (vp_Si (fun rz9 => rz9 = (turnM p0))) ([.int (p0)] : List Value).toArray s 0 0 (fun _ => False)) (F0 m 45 ls [])) → W p l e (headSpec wsX2_turned ({ frames := 1, cells := 0, slots := 0, locals := 22 })).room s m ([.int (p0)] : List Value).toArray below meth c s.heap [] 0 0 (MQ below (vp_Si (fun rz9 => rz9 = (turnM p0))) ([.int (p0)] : List Value).toArray s 0 0 (fun _ => False)) (F0 m 4 ls []) := by
    intro nn
    induction nn with
    | zero =>
      intro x r hnx ls hl kx
      obtain rfl : x = 5 := by omega
      refine lv_iload_n hx hb dX2_turned_4 rfl (lv_at hl 2 rfl) ?_
      refine lv_iconst (v := nI 5) hx hb dX2_turned_5 (by decide) ?_
      refine hx_geN (tgt := 45) hx hb dX2_turned_6 (by decide) (by omega) (by omega) (fun c_2 => ?_) (fun c_2 => ?_)
      · exact kx ls (lv_sub hl [0, 1, 2] rfl)
      · exact absurd c_2 (by omega)
    | succ nn ih =>
      intro x r hnx ls hl kx
      refine lv_iload_n hx hb dX2_turned_4 rfl (lv_at hl 2 rfl) ?_
      refine lv_iconst (v := nI 5) hx hb dX2_turned_5 (by decide) ?_
      refine hx_geN (tgt := 45) hx hb dX2_turned_6 (by decide) (by omega) (by omega) (fun c_3 => ?_) (fun c_3 => ?_)
      · exact absurd c_3 (by omega)
      · refine lv_iconst (v := nI 0) hx hb dX2_turned_9 (by decide) ?_
        refine lv_istore_n (lv' := [(3, .int (nI 0)), (0, .int (p0)), (1, .int (r)), (2, .int (nI x))]) hx hb dX2_turned_10 rfl hl (by decide) rfl (fun ls hl => ?_)
        have L_11_3 : ∀ (nn : Nat) (y : Nat) (r1 : Int32), y + nn = 5 → ∀ ls : Array Slot, lv_has ls 4 [(0, .int (p0)), (1, .int (r1)), (2, .int (nI x)), (3, .int (nI y))] → (∀ ls : Array Slot, lv_has ls 4 [(0, .int (p0)), (1, .int (tuIn p0 x nn y r1)), (2, .int (nI x)), (3, .int (nI 5))] → W p l e (headSpec wsX2_turned ({ frames := 1, cells := 0, slots := 0, locals := 22 })).room s m ([.int (p0)] : List Value).toArray below meth c s.heap [] 0 0 (MQ below (vp_Si (fun rz9 => rz9 = (turnM p0))) ([.int (p0)] : List Value).toArray s 0 0 (fun _ => False)) (F0 m 39 ls [])) → W p l e (headSpec wsX2_turned ({ frames := 1, cells := 0, slots := 0, locals := 22 })).room s m ([.int (p0)] : List Value).toArray below meth c s.heap [] 0 0 (MQ below (vp_Si (fun rz9 => rz9 = (turnM p0))) ([.int (p0)] : List Value).toArray s 0 0 (fun _ => False)) (F0 m 11 ls []) := by
          intro nn
          induction nn with
          | zero =>
            intro y r1 hny ls hl kx
            obtain rfl : y = 5 := by omega
            refine lv_iload_n hx hb dX2_turned_11 rfl (lv_at hl 3 rfl) ?_
            refine lv_iconst (v := nI 5) hx hb dX2_turned_12 (by decide) ?_
            refine hx_geN (tgt := 39) hx hb dX2_turned_13 (by decide) (by omega) (by omega) (fun c_5 => ?_) (fun c_5 => ?_)
            · exact kx ls (lv_sub hl [0, 1, 2, 3] rfl)
            · exact absurd c_5 (by omega)
          | succ nn ih =>
            intro y r1 hny ls hl kx
            refine lv_iload_n hx hb dX2_turned_11 rfl (lv_at hl 3 rfl) ?_
            refine lv_iconst (v := nI 5) hx hb dX2_turned_12 (by decide) ?_
            refine hx_geN (tgt := 39) hx hb dX2_turned_13 (by decide) (by omega) (by omega) (fun c_6 => ?_) (fun c_6 => ?_)
            · exact absurd c_6 (by omega)
            · refine lv_iload_n hx hb dX2_turned_16 rfl (lv_at hl 0 rfl) ?_
              refine lv_iload_n hx hb dX2_turned_17 rfl (lv_at hl 3 rfl) ?_
              refine lv_iload_n hx hb dX2_turned_18 rfl (lv_at hl 2 rfl) ?_
              refine hx_read (va_runS (As := [.int (p0), .int (nI y), .int (nI x)]) (rest := []) ⟨hx, hb, hml, hown, hts⟩ (c_X2_holds l p0 y x (by omega) (by omega)) (va_cwS 3 hts gX2_turned_X2_holds rfl rfl rfl (by decide +kernel) ⟨Nat.le_of_ble_eq_true rfl, Nat.le_of_ble_eq_true rfl⟩) (nu_S _) rfl rfl hl.1 rfl (lv_room (Nat.le_of_ble_eq_true rfl)) dX2_turned_19 ⟨Nat.zero_le _, Nat.zero_le _⟩) ?_
              refine hx_ifB (tgt := 33) hx hb dX2_turned_22 (by decide) (fun c_7 => ?_) (fun c_7 => ?_)
              · refine lv_iinc (v := nI (y + 1)) (lv' := [(3, .int (nI (y + 1))), (0, .int (p0)), (1, .int (r1)), (2, .int (nI x))]) hx hb dX2_turned_33 hl (k := 3) rfl (nI_add y 1) (by decide) rfl (fun ls hl => ?_)
                refine lv_goto (tgt := 11) hx hb dX2_turned_36 (by decide) ?_
                have kx := kx
                rw [show tuIn p0 x (nn + 1) y r1 = tuIn p0 x nn (y + 1) r1 from by simp only [tuIn, c_7, ↓reduceIte, Bool.false_eq_true]] at kx
                exact ih (y + 1) r1 (by omega) ls (lv_sub hl [1, 2, 3, 0] rfl) kx
              · refine lv_iload_n hx hb dX2_turned_25 rfl (lv_at hl 1 rfl) ?_
                refine lv_iload_n hx hb dX2_turned_26 rfl (lv_at hl 2 rfl) ?_
                refine lv_iload_n hx hb dX2_turned_27 rfl (lv_at hl 3 rfl) ?_
                refine hx_read (va_runS (As := [.int (nI x), .int (nI y)]) (rest := [.int (r1)]) ⟨hx, hb, hml, hown, hts⟩ (c_X2_bit l x y) (va_cwS 2 hts gX2_turned_X2_bit rfl rfl rfl (by decide +kernel) ⟨Nat.le_of_ble_eq_true rfl, Nat.le_of_ble_eq_true rfl⟩) (nu_S _) rfl rfl hl.1 rfl (lv_room (Nat.le_of_ble_eq_true rfl)) dX2_turned_28 ⟨Nat.zero_le _, Nat.zero_le _⟩) ?_
                refine lv_ior hx hb dX2_turned_31 ?_
                refine lv_istore_n (lv' := [(1, .int (r1 ||| (bm (5 * x + y)))), (0, .int (p0)), (2, .int (nI x)), (3, .int (nI y))]) hx hb dX2_turned_32 rfl hl (by decide) rfl (fun ls hl => ?_)
                refine lv_iinc (v := nI (y + 1)) (lv' := [(3, .int (nI (y + 1))), (1, .int (r1 ||| (bm (5 * x + y)))), (0, .int (p0)), (2, .int (nI x))]) hx hb dX2_turned_33 hl (k := 3) rfl (nI_add y 1) (by decide) rfl (fun ls hl => ?_)
                refine lv_goto (tgt := 11) hx hb dX2_turned_36 (by decide) ?_
                have kx := kx
                rw [show tuIn p0 x (nn + 1) y r1 = tuIn p0 x nn (y + 1) (r1 ||| (bm (5 * x + y))) from by simp only [tuIn, c_7, ↓reduceIte, Bool.false_eq_true]] at kx
                exact ih (y + 1) (r1 ||| (bm (5 * x + y))) (by omega) ls (lv_sub hl [2, 1, 3, 0] rfl) kx
        refine L_11_3 5 0 r (by omega) ls (lv_sub hl [1, 2, 3, 0] rfl) (fun ls hl => ?_)
        have hl : lv_has ls 4 [(0, .int (p0)), (1, .int (tuIn p0 x 5 0 r)), (2, .int (nI x)), (3, .int (nI 5))] := hl
        refine lv_iinc (v := nI (x + 1)) (lv' := [(2, .int (nI (x + 1))), (0, .int (p0)), (1, .int (tuIn p0 x 5 0 r)), (3, .int (nI 5))]) hx hb dX2_turned_39 hl (k := 2) rfl (nI_add x 1) (by decide) rfl (fun ls hl => ?_)
        refine lv_goto (tgt := 4) hx hb dX2_turned_42 (by decide) ?_
        have kx := kx
        rw [show tuOut p0 (nn + 1) x r = tuOut p0 nn (x + 1) (tuIn p0 x 5 0 r) from rfl] at kx
        exact ih (x + 1) (tuIn p0 x 5 0 r) (by omega) ls (lv_sub hl [1, 2, 0] rfl) kx
  refine L_4_0 5 0 (nI 0) (by omega) ls (lv_sub hl [2, 1, 0] rfl) (fun ls hl => ?_)
  have hl : lv_has ls 4 [(0, .int (p0)), (1, .int (tuOut p0 5 0 (nI 0))), (2, .int (nI 5))] := hl
  refine lv_iload_n hx hb dX2_turned_45 rfl (lv_at hl 1 rfl) ?_
  exact W.iret (v := tuOut p0 5 0 (nI 0)) hx hb hr (fun t ht hW => ⟨_, rfl, rfl, ht⟩) (fun _ h => by cases h) dX2_turned_46
set_option maxHeartbeats 4000000 in
set_option maxRecDepth 100000 in
theorem c_X2_joined (l : Launch) (l0 r0 : Int32)  : NuM l yX2_joined wsX2_joined ({ frames := 1, cells := 0, slots := 0, locals := 22 }) [.int (l0), .int (r0)] (joinM l0 r0) := by
  refine Met.ofW (cc := cX2_joined) (maxL := 5) (ret := (some .int)) (by decide) rfl ?_
  intro p e s m args below meth c s₁ B hml hv
  obtain ⟨rfl, -⟩ := hv
  have hx := B.exec
  have hb := B.bytes
  have hr := B.returns
  have hts := atoms_spec (ws := wsX2_joined) B.pre
  have hown : s.vm.findClass RX2 = some m.cls := findClass_of_methodNamed B.named
  have hlocks := B.notSynchronized
  have hl := lv_entry ([.int (l0), .int (r0)]) (n := 5) (Nat.le_of_ble_eq_true rfl)
  rw [lg_entry_eq]
  generalize (lg_sl ([.int (l0), .int (r0)]) ++ List.replicate (5 - (lg_sl ([.int (l0), .int (r0)])).length) Slot.unset).toArray = ls at hl ⊢
  have hl : lv_has ls 5 [(0, .int (l0)), (1, .int (r0))] := hl
  refine lv_iconst (v := nI 0) hx hb dX2_joined_0 (by decide) ?_
  refine lv_istore_n (lv' := [(2, .int (nI 0)), (0, .int (l0)), (1, .int (r0))]) hx hb dX2_joined_1 rfl hl (by decide) rfl (fun ls hl => ?_)
  refine lv_iconst (v := nI 0) hx hb dX2_joined_2 (by decide) ?_
  refine lv_istore_n (lv' := [(3, .int (nI 0)), (2, .int (nI 0)), (0, .int (l0)), (1, .int (r0))]) hx hb dX2_joined_3 rfl hl (by decide) rfl (fun ls hl => ?_)
  have L_4_0 : ∀ (nn : Nat) (x : Nat) (v : Int32), x + nn = 5 → ∀ ls : Array Slot, lv_has ls 5 [(0, .int (l0)), (1, .int (r0)), (2, .int (v)), (3, .int (nI x))] → (∀ ls : Array Slot, lv_has ls 5 [(0, .int (l0)), (1, .int (r0)), (2, .int (joOut l0 r0 nn x v)), (3, .int (nI 5))] → W p l e (headSpec wsX2_joined ({ frames := 1, cells := 0, slots := 0, locals := 22 })).room s m ([.int (l0), .int (r0)] : List Value).toArray below meth c s.heap [] 0 0 (MQ below (vp_Si (fun rz9 => rz9 = (joinM l0 r0))) ([.int (l0), .int (r0)] : List Value).toArray s 0 0 (fun _ => False)) (F0 m 53 ls [])) → W p l e (headSpec wsX2_joined ({ frames := 1, cells := 0, slots := 0, locals := 22 })).room s m ([.int (l0), .int (r0)] : List Value).toArray below meth c s.heap [] 0 0 (MQ below (vp_Si (fun rz9 => rz9 = (joinM l0 r0))) ([.int (l0), .int (r0)] : List Value).toArray s 0 0 (fun _ => False)) (F0 m 4 ls []) := by
    intro nn
    induction nn with
    | zero =>
      intro x v hnx ls hl kx
      obtain rfl : x = 5 := by omega
      refine lv_iload_n hx hb dX2_joined_4 rfl (lv_at hl 3 rfl) ?_
      refine lv_iconst (v := nI 5) hx hb dX2_joined_5 (by decide) ?_
      refine hx_geN (tgt := 53) hx hb dX2_joined_6 (by decide) (by omega) (by omega) (fun c_2 => ?_) (fun c_2 => ?_)
      · exact kx ls (lv_sub hl [0, 1, 2, 3] rfl)
      · exact absurd c_2 (by omega)
    | succ nn ih =>
      intro x v hnx ls hl kx
      refine lv_iload_n hx hb dX2_joined_4 rfl (lv_at hl 3 rfl) ?_
      refine lv_iconst (v := nI 5) hx hb dX2_joined_5 (by decide) ?_
      refine hx_geN (tgt := 53) hx hb dX2_joined_6 (by decide) (by omega) (by omega) (fun c_3 => ?_) (fun c_3 => ?_)
      · exact absurd c_3 (by omega)
      · refine lv_iconst (v := nI 0) hx hb dX2_joined_9 (by decide) ?_
        refine lv_istore (lv' := [(4, .int (nI 0)), (0, .int (l0)), (1, .int (r0)), (2, .int (v)), (3, .int (nI x))]) hx hb dX2_joined_10 hl (by decide) rfl (fun ls hl => ?_)
        have L_12_3 : ∀ (nn : Nat) (z : Nat) (v1 : Int32), z + nn = 5 → ∀ ls : Array Slot, lv_has ls 5 [(0, .int (l0)), (1, .int (r0)), (2, .int (v1)), (3, .int (nI x)), (4, .int (nI z))] → (∀ ls : Array Slot, lv_has ls 5 [(0, .int (l0)), (1, .int (r0)), (2, .int (joIn l0 r0 x nn z v1)), (3, .int (nI x)), (4, .int (nI 5))] → W p l e (headSpec wsX2_joined ({ frames := 1, cells := 0, slots := 0, locals := 22 })).room s m ([.int (l0), .int (r0)] : List Value).toArray below meth c s.heap [] 0 0 (MQ below (vp_Si (fun rz9 => rz9 = (joinM l0 r0))) ([.int (l0), .int (r0)] : List Value).toArray s 0 0 (fun _ => False)) (F0 m 47 ls [])) → W p l e (headSpec wsX2_joined ({ frames := 1, cells := 0, slots := 0, locals := 22 })).room s m ([.int (l0), .int (r0)] : List Value).toArray below meth c s.heap [] 0 0 (MQ below (vp_Si (fun rz9 => rz9 = (joinM l0 r0))) ([.int (l0), .int (r0)] : List Value).toArray s 0 0 (fun _ => False)) (F0 m 12 ls []) := by
          intro nn
          induction nn with
          | zero =>
            intro z v1 hnz ls hl kx
            obtain rfl : z = 5 := by omega
            refine lv_iload hx hb dX2_joined_12 (lv_at hl 4 rfl) ?_
            refine lv_iconst (v := nI 5) hx hb dX2_joined_14 (by decide) ?_
            refine hx_geN (tgt := 47) hx hb dX2_joined_15 (by decide) (by omega) (by omega) (fun c_5 => ?_) (fun c_5 => ?_)
            · exact kx ls (lv_sub hl [0, 1, 2, 3, 4] rfl)
            · exact absurd c_5 (by omega)
          | succ nn ih =>
            intro z v1 hnz ls hl kx
            refine lv_iload hx hb dX2_joined_12 (lv_at hl 4 rfl) ?_
            refine lv_iconst (v := nI 5) hx hb dX2_joined_14 (by decide) ?_
            refine hx_geN (tgt := 47) hx hb dX2_joined_15 (by decide) (by omega) (by omega) (fun c_6 => ?_) (fun c_6 => ?_)
            · exact absurd c_6 (by omega)
            · refine lv_iload_n hx hb dX2_joined_18 rfl (lv_at hl 0 rfl) ?_
              refine lv_iload_n hx hb dX2_joined_19 rfl (lv_at hl 3 rfl) ?_
              refine lv_iload hx hb dX2_joined_20 (lv_at hl 4 rfl) ?_
              refine hx_read (va_runS (As := [.int (l0), .int (nI x), .int (nI z)]) (rest := []) ⟨hx, hb, hml, hown, hts⟩ (c_X2_holds l l0 x z (by omega) (by omega)) (va_cwS 3 hts gX2_joined_X2_holds rfl rfl rfl (by decide +kernel) ⟨Nat.le_of_ble_eq_true rfl, Nat.le_of_ble_eq_true rfl⟩) (nu_S _) rfl rfl hl.1 rfl (lv_room (Nat.le_of_ble_eq_true rfl)) dX2_joined_22 ⟨Nat.zero_le _, Nat.zero_le _⟩) ?_
              refine hx_ifB (tgt := 41) hx hb dX2_joined_25 (by decide) (fun c_7 => ?_) (fun c_7 => ?_)
              · refine lv_iinc (v := nI (z + 1)) (lv' := [(4, .int (nI (z + 1))), (0, .int (l0)), (1, .int (r0)), (2, .int (v1)), (3, .int (nI x))]) hx hb dX2_joined_41 hl (k := 4) rfl (nI_add z 1) (by decide) rfl (fun ls hl => ?_)
                refine lv_goto (tgt := 12) hx hb dX2_joined_44 (by decide) ?_
                have kx := kx
                rw [show joIn l0 r0 x (nn + 1) z v1 = joIn l0 r0 x nn (z + 1) v1 from by simp only [joIn, c_7, ↓reduceIte, Bool.false_eq_true]] at kx
                exact ih (z + 1) v1 (by omega) ls (lv_sub hl [1, 2, 3, 4, 0] rfl) kx
              · refine lv_iload_n hx hb dX2_joined_28 rfl (lv_at hl 2 rfl) ?_
                refine lv_iload_n hx hb dX2_joined_29 rfl (lv_at hl 1 rfl) ?_
                refine lv_iload hx hb dX2_joined_30 (lv_at hl 4 rfl) ?_
                refine hx_read (va_runS (As := [.int (r0), .int (nI z)]) (rest := [.int (v1)]) ⟨hx, hb, hml, hown, hts⟩ (c_X2_row l r0 z) (va_cwS 2 hts gX2_joined_X2_row rfl rfl rfl (by decide +kernel) ⟨Nat.le_of_ble_eq_true rfl, Nat.le_of_ble_eq_true rfl⟩) (nu_S _) rfl rfl hl.1 rfl (lv_room (Nat.le_of_ble_eq_true rfl)) dX2_joined_32 ⟨Nat.zero_le _, Nat.zero_le _⟩) ?_
                refine lv_iconst (v := nI 5) hx hb dX2_joined_35 (by decide) ?_
                refine lv_iload_n hx hb dX2_joined_36 rfl (lv_at hl 3 rfl) ?_
                refine hx_imul hx hb dX2_joined_37 ?_
                refine lv_ishl hx hb dX2_joined_38 ?_
                refine lv_ior hx hb dX2_joined_39 ?_
                refine lv_istore_n (lv' := [(2, .int (v1 ||| ((rowM r0 z) <<< (nI (5 * x) &&& 31)))), (0, .int (l0)), (1, .int (r0)), (3, .int (nI x)), (4, .int (nI z))]) hx hb dX2_joined_40 rfl hl (by decide) rfl (fun ls hl => ?_)
                refine lv_iinc (v := nI (z + 1)) (lv' := [(4, .int (nI (z + 1))), (2, .int (v1 ||| ((rowM r0 z) <<< (nI (5 * x) &&& 31)))), (0, .int (l0)), (1, .int (r0)), (3, .int (nI x))]) hx hb dX2_joined_41 hl (k := 4) rfl (nI_add z 1) (by decide) rfl (fun ls hl => ?_)
                refine lv_goto (tgt := 12) hx hb dX2_joined_44 (by decide) ?_
                have kx := kx
                rw [show joIn l0 r0 x (nn + 1) z v1 = joIn l0 r0 x nn (z + 1) (v1 ||| ((rowM r0 z) <<< (nI (5 * x) &&& 31))) from by simp only [joIn, c_7, ↓reduceIte, Bool.false_eq_true]] at kx
                exact ih (z + 1) (v1 ||| ((rowM r0 z) <<< (nI (5 * x) &&& 31))) (by omega) ls (lv_sub hl [2, 3, 1, 4, 0] rfl) kx
        refine L_12_3 5 0 v (by omega) ls (lv_sub hl [1, 2, 3, 4, 0] rfl) (fun ls hl => ?_)
        have hl : lv_has ls 5 [(0, .int (l0)), (1, .int (r0)), (2, .int (joIn l0 r0 x 5 0 v)), (3, .int (nI x)), (4, .int (nI 5))] := hl
        refine lv_iinc (v := nI (x + 1)) (lv' := [(3, .int (nI (x + 1))), (0, .int (l0)), (1, .int (r0)), (2, .int (joIn l0 r0 x 5 0 v)), (4, .int (nI 5))]) hx hb dX2_joined_47 hl (k := 3) rfl (nI_add x 1) (by decide) rfl (fun ls hl => ?_)
        refine lv_goto (tgt := 4) hx hb dX2_joined_50 (by decide) ?_
        have kx := kx
        rw [show joOut l0 r0 (nn + 1) x v = joOut l0 r0 nn (x + 1) (joIn l0 r0 x 5 0 v) from rfl] at kx
        exact ih (x + 1) (joIn l0 r0 x 5 0 v) (by omega) ls (lv_sub hl [1, 2, 3, 0] rfl) kx
  refine L_4_0 5 0 (nI 0) (by omega) ls (lv_sub hl [2, 3, 1, 0] rfl) (fun ls hl => ?_)
  have hl : lv_has ls 5 [(0, .int (l0)), (1, .int (r0)), (2, .int (joOut l0 r0 5 0 (nI 0))), (3, .int (nI 5))] := hl
  refine lv_iload_n hx hb dX2_joined_53 rfl (lv_at hl 2 rfl) ?_
  exact W.iret (v := joOut l0 r0 5 0 (nI 0)) hx hb hr (fun t ht hW => ⟨_, rfl, rfl, ht⟩) (fun _ h => by cases h) dX2_joined_54

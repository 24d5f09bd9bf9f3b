/-! THE LAW'S LOOP: the two worlds side by side -/
section LS
variable {A : Nat → Prop} {w1 w2 : va_W}
theorem gx_l {α : Type} {l1 l2 : List α} {i : Nat} {x : α} (h : l1[i]? = some x) : (l1 ++ l2)[i]? = some x := by
  rw [List.getElem?_append_left (List.getElem?_eq_some_iff.mp h).1]; exact h
theorem gx_r {α : Type} {l1 l2 : List α} {i : Nat} {x : α} (h : l2[i]? = some x) : (l1 ++ l2)[l1.length + i]? = some x := by
  rw [List.getElem?_append_right (Nat.le_add_right _ _), Nat.add_sub_cancel_left]; exact h
theorem va_D.left (h : va_D A (w1 ++ w2)) : va_D A w1 := ⟨fun i j p q hi hj e => h.1 i j p q (gx_l hi) (gx_l hj) e, fun k q hk => h.2 k q (gx_l hk)⟩
theorem va_D.right (h : va_D A (w1 ++ w2)) : va_D A w2 := ⟨fun i j p q hi hj e => by have := h.1 _ _ p q (gx_r (l1 := w1) hi) (gx_r (l1 := w1) hj) e; omega, fun k q hk => h.2 _ q (gx_r (l1 := w1) hk)⟩
theorem va_D.apart (h : va_D A (w1 ++ w2)) {i j : Nat} {p q : Nat × va_E} (hi : w1[i]? = some p) (hj : w2[j]? = some q) : p.1 ≠ q.1 := fun e => by
  have h1 := h.1 i (w1.length + j) p q (gx_l hi) (gx_r hj) e
  have h2 := (List.getElem?_eq_some_iff.mp hi).1
  omega
theorem va_D.turn (h : va_D A (w1 ++ w2)) : va_D A (w2 ++ w1) := va_D.app h.right h.left (fun _ _ _ _ hi hj e => h.apart hj hi e.symm)
/-- behind a call over the cells w1: the cells w2 stay -/
theorem join_any {D : va_G} {cl : List vw_C} {w1' : va_W} {H H1 : Heap} (hD : va_D A (w1 ++ w2)) (hF : ∀ q, va_A w1 H.size q → A q) (hP2 : va_P D cl w2 H) (hk : ∀ q : Nat, q < H.size → ¬ va_A w1 H.size q → H1[q]? = H[q]?) (hD1 : va_D (va_A w1 H.size) w1') : va_P D cl w2 H1 ∧ va_D A (w1' ++ w2) := by
  have ap : ∀ (k : Nat) (q : Nat × va_E), w2[k]? = some q → q.1 < H.size ∧ ¬ va_A w1 H.size q.1 := by
    intro k q hq
    have lt := va_at.lt (hP2 k q hq)
    refine ⟨lt, fun h => ?_⟩
    rcases h with ⟨j, e, h⟩ | h
    · exact hD.apart h hq rfl
    · exact absurd lt (Nat.not_lt.mpr h)
  exact ⟨hP2.kept (fun k q hq => hk q.1 (ap k q hq).1 (ap k q hq).2), va_D.app ⟨hD1.1, fun k q hq => hF _ (hD1.2 k q hq)⟩ hD.right (fun i j p q hi hj e => (ap j q hj).2 (e ▸ hD1.2 i p hi))⟩
end LS
section LT
variable {p : Program} {l : Launch} {e : Env} {R : Room} {s : State} {m : MethodId} {args : Array Value} {below : List Frame} {meth : Method} {c : Code} {H : Heap} {locs : List Loc} {cells slots : Nat} {Q : State → Prop}
variable {cc : ByteArray} {pc : Nat} {ls : Array Slot} {rest : List Value} {D : va_G} {cl : List vw_C} {A : Nat → Prop} {tys : List (ClassId × FieldType)} {w1 w1' w2 : va_W} {H0 : Heap}
theorem hx_wriL {v : Int32} {a : Array Value} {st0 : List Value} (hr : va_Run p l e R s m args below meth c H locs cells slots 0 0 (F0 m pc ls st0) rest (va_Qi (fun (r : Int32) (_ : Unit) => r = v) (wrB D cl w1 w1' tys H.size) (va_A w1 H.size) a) (va_A w1 H.size)) (hP2 : va_P D cl w2 H) (hD : va_D A (w1 ++ w2)) (hS : va_S A H0 H locs) (hA : ∀ q, H0.size ≤ q → A q)
    (kk : ∀ (H1 : Heap) (locs1 : List Loc), va_P D cl w1' H1 → va_P D cl w2 H1 → va_D A (w1' ++ w2) → va_S A H0 H1 locs1 → W p l e R s m args below meth c H1 locs1 cells slots Q (F0 m (pc + 3) ls (.int v :: rest))) : W p l e R s m args below meth c H locs cells slots Q (F0 m pc ls st0) := by
  have hF := wr_all hD.left hS hA
  refine va_calli hr hS (fun q _ h => hF q h) hF (fun r u t H1 locs1 ht hvm hw hB hz1 hk1 hS1 => ?_)
  obtain ⟨hP1, hK1, hD1⟩ := hB
  rw [ht] at hP1
  have hw : r = v := hw
  rw [hw]
  obtain ⟨hP2', hD'⟩ := join_any hD hF hP2 hk1 hD1
  exact kk H1 locs1 hP1 hP2' hD' hS1
theorem hx_sld (hexec : p.tables.exec = Jvm.exec) (hb : c.code = cc) {b L : Nat} {xs : Nat → Int32} (hX : va_X b L xs s H0) (hbl : b < H0.size) (hbA : ¬ A b) (hS : va_S A H0 H locs) {i : Nat} (hi : i < L) (hL : L < 2 ^ 31) (hdg : decode cc pc = .ok (.iaload, 1))
    (kk : W p l e R s m args below meth c H locs cells slots Q (F0 m (pc + 1) ls (.int (xs i) :: rest))) : W p l e R s m args below meth c H locs cells slots Q (F0 m pc ls (.int (nI i) :: .ref b :: rest)) :=
  va_sld hexec hb hX hbl hbA hS (vp_in_nI hi hL) hdg (by rw [nI_clamp (by omega)]; exact kk)
end LT
theorem law_in {L i : Nat} (hL : L ≤ 2560) (hi : i ≤ L) (h : ¬ nI L - nI 5 < nI i) : i + 5 ≤ L := by
  rw [Int32.lt_iff_toInt_lt, pk_sub_toInt (by omega) (by omega), nI_toInt (by omega)] at h
  omega
set_option maxHeartbeats 4000000 in
set_option maxRecDepth 100000 in
theorem law_rule {p : Program} {l : Launch} {e : Env} {s : State} {m : MethodId} {below : List Frame} {meth : Method} {c : Code} {dC : Nat → ClassId} {dI : Nat → Nat → Nat} {sb Ls : Nat} {xs : Nat → Int32} (hL : Ls ≤ 2560) (C0 : lw_At p s m meth c sb Ls xs) (hN : ∀ w ∈ nstW, va_Nw w s) {i : Nat} (h5 : i + 5 ≤ Ls) (kx : ∀ (a b : Nat → Nat) (cA cB : Nat → ClassId) (n : Nat) (hd fm rp rq : Nat → Nat) (nd nw bf su sI sO ct nwM bfM db sg wt : Nat → Int32) (ne dn : Nat → Bool), CI n hd fm rp rq nd nw bf su sI sO ct nwM bfM db sg wt ne → va_K (dC, dI) vwCl (vkT cA) s → va_K (dC, dI) vwCl (mdT cB) s → ∀ (H : Heap) (locs : List Loc), va_P (dC, dI) vwCl (vkW a cA n hd fm rp rq nd nw bf su sI sO ct) H → va_P (dC, dI) vwCl (mdW b cB n hd fm rp rq nwM bfM db sg wt ne dn) H → va_D (fun q : Nat => s.heap.size ≤ q) (vkW a cA n hd fm rp rq nd nw bf su sI sO ct ++ mdW b cB n hd fm rp rq nwM bfM db sg wt ne dn) → va_S (fun q : Nat => s.heap.size ≤ q) s.heap H locs → ∀ ls : Array Slot, lv_has ls 4 [(0, .ref sb), (1, .ref (a 0)), (2, .ref (b 0)), (3, .int (nI i))] → W p l e room_1 s m #[Value.ref sb] below meth c H locs 34 422 (lw_Z below #[Value.ref sb] s) (F0 m 515 ls [])) : ∀ (a b : Nat → Nat) (cA cB : Nat → ClassId) (n : Nat) (hd fm rp rq : Nat → Nat) (nd nw bf su sI sO ct nwM bfM db sg wt : Nat → Int32) (ne dn : Nat → Bool), CI n hd fm rp rq nd nw bf su sI sO ct nwM bfM db sg wt ne → va_K (dC, dI) vwCl (vkT cA) s → va_K (dC, dI) vwCl (mdT cB) s → ∀ (H : Heap) (locs : List Loc), va_P (dC, dI) vwCl (vkW a cA n hd fm rp rq nd nw bf su sI sO ct) H → va_P (dC, dI) vwCl (mdW b cB n hd fm rp rq nwM bfM db sg wt ne dn) H → va_D (fun q : Nat => s.heap.size ≤ q) (vkW a cA n hd fm rp rq nd nw bf su sI sO ct ++ mdW b cB n hd fm rp rq nwM bfM db sg wt ne dn) → va_S (fun q : Nat => s.heap.size ≤ q) s.heap H locs → ∀ ls : Array Slot, lv_has ls 4 [(0, .ref sb), (1, .ref (a 0)), (2, .ref (b 0)), (3, .int (nI i))] → W p l e room_1 s m #[Value.ref sb] below meth c H locs 34 422 (lw_Z below #[Value.ref sb] s) (F0 m 100 ls []) := by
  obtain ⟨hx, hb, hr, hml, hown, hts0, hX, hbl, hlocks, hgv⟩ := C0
  have hts : ∀ w ∈ wsL_law, w.before #[Value.ref sb] s = true := fun w h => hts0 w (wsL_law_in w h)
  have hA : ∀ q : Nat, s.heap.size ≤ q → (fun q : Nat => s.heap.size ≤ q) q := fun _ h => h
  have hbA : ¬ (fun q : Nat => s.heap.size ≤ q) sb := Nat.not_le.mpr hbl
  intro a b cA cB n hd fm rp rq nd nw bf su sI sO ct nwM bfM db sg wt ne dn C hK1 hK2 H locs hP1 hP2 hD hS ls hl
  obtain ⟨n', hd', fm', rp', rq', nd', nw', bf', su', sI', sO', ct', nwM', bfM', db', sg', wt', ne', dn', v, hc, hm, C'⟩ := sp_rule l dC dI a b cA cB dn C (xs (i + 1)) (xs (i + 2)) (xs (i + 3)) (xs (i + 4))
  refine lv_aload_n hx hb dL_law_100 rfl (lv_at hl 1 rfl) ?_
  refine lv_aload_n hx hb dL_law_101 rfl (lv_at hl 0 rfl) ?_
  refine lv_iload_n hx hb dL_law_102 rfl (lv_at hl 3 rfl) ?_
  refine lv_iconst (v := nI 1) hx hb dL_law_103 (by decide) ?_
  refine hx_iadd hx hb dL_law_104 ?_
  refine hx_sld hx hb hX hbl hbA hS (by omega) (by omega) dL_law_105 ?_
  refine lv_aload_n hx hb dL_law_106 rfl (lv_at hl 0 rfl) ?_
  refine lv_iload_n hx hb dL_law_107 rfl (lv_at hl 3 rfl) ?_
  refine lv_iconst (v := nI 2) hx hb dL_law_108 (by decide) ?_
  refine hx_iadd hx hb dL_law_109 ?_
  refine hx_sld hx hb hX hbl hbA hS (by omega) (by omega) dL_law_110 ?_
  refine lv_aload_n hx hb dL_law_111 rfl (lv_at hl 0 rfl) ?_
  refine lv_iload_n hx hb dL_law_112 rfl (lv_at hl 3 rfl) ?_
  refine lv_iconst (v := nI 3) hx hb dL_law_113 (by decide) ?_
  refine hx_iadd hx hb dL_law_114 ?_
  refine hx_sld hx hb hX hbl hbA hS (by omega) (by omega) dL_law_115 ?_
  refine lv_aload_n hx hb dL_law_116 rfl (lv_at hl 0 rfl) ?_
  refine lv_iload_n hx hb dL_law_117 rfl (lv_at hl 3 rfl) ?_
  refine lv_iconst (v := nI 4) hx hb dL_law_118 (by decide) ?_
  refine hx_iadd hx hb dL_law_119 ?_
  refine hx_sld hx hb hX hbl hbA hS (by omega) (by omega) dL_law_120 ?_
  refine hx_wriL (va_runV (As := [.int (xs (i + 1)), .int (xs (i + 2)), .int (xs (i + 3)), .int (xs (i + 4))]) (rest := []) ⟨hx, hb, hml, hown, hts⟩ (hc H.size) (cwV 4 hts gL_law_X2_rule rfl rfl rfl (by decide +kernel) ⟨Nat.le_of_ble_eq_true rfl, Nat.le_of_ble_eq_true rfl⟩) (wr_V nstW_ok hP1 hK1 hN hD.left 0 rfl rfl _) rfl rfl hl.1 rfl (lv_room (Nat.le_of_ble_eq_true rfl)) dL_law_121 ⟨Nat.le_of_ble_eq_true rfl, Nat.le_of_ble_eq_true rfl⟩) hP2 hD hS hA (fun H locs hP1 hP2 hD hS => ?_)
  refine lv_aload_n hx hb dL_law_124 rfl (lv_at hl 2 rfl) ?_
  refine lv_aload_n hx hb dL_law_125 rfl (lv_at hl 0 rfl) ?_
  refine lv_iload_n hx hb dL_law_126 rfl (lv_at hl 3 rfl) ?_
  refine lv_iconst (v := nI 1) hx hb dL_law_127 (by decide) ?_
  refine hx_iadd hx hb dL_law_128 ?_
  refine hx_sld hx hb hX hbl hbA hS (by omega) (by omega) dL_law_129 ?_
  refine lv_aload_n hx hb dL_law_130 rfl (lv_at hl 0 rfl) ?_
  refine lv_iload_n hx hb dL_law_131 rfl (lv_at hl 3 rfl) ?_
  refine lv_iconst (v := nI 2) hx hb dL_law_132 (by decide) ?_
  refine hx_iadd hx hb dL_law_133 ?_
  refine hx_sld hx hb hX hbl hbA hS (by omega) (by omega) dL_law_134 ?_
  refine lv_aload_n hx hb dL_law_135 rfl (lv_at hl 0 rfl) ?_
  refine lv_iload_n hx hb dL_law_136 rfl (lv_at hl 3 rfl) ?_
  refine lv_iconst (v := nI 3) hx hb dL_law_137 (by decide) ?_
  refine hx_iadd hx hb dL_law_138 ?_
  refine hx_sld hx hb hX hbl hbA hS (by omega) (by omega) dL_law_139 ?_
  refine lv_aload_n hx hb dL_law_140 rfl (lv_at hl 0 rfl) ?_
  refine lv_iload_n hx hb dL_law_141 rfl (lv_at hl 3 rfl) ?_
  refine lv_iconst (v := nI 4) hx hb dL_law_142 (by decide) ?_
  refine hx_iadd hx hb dL_law_143 ?_
  refine hx_sld hx hb hX hbl hbA hS (by omega) (by omega) dL_law_144 ?_
  refine hx_wriL (va_runV (As := [.int (xs (i + 1)), .int (xs (i + 2)), .int (xs (i + 3)), .int (xs (i + 4))]) (rest := [.int (v)]) ⟨hx, hb, hml, hown, hts⟩ (hm H.size) (cwV 4 hts gL_law_X3_rule rfl rfl rfl (by decide +kernel) ⟨Nat.le_of_ble_eq_true rfl, Nat.le_of_ble_eq_true rfl⟩) (wr_V nstW_ok hP2 hK2 hN hD.turn.left 0 rfl rfl _) rfl rfl hl.1 rfl (lv_room (Nat.le_of_ble_eq_true rfl)) dL_law_145 ⟨Nat.le_of_ble_eq_true rfl, Nat.le_of_ble_eq_true rfl⟩) hP1 hD.turn hS hA (fun H locs hP2 hP1 hD hS => ?_)
  refine lv_icmp_eq (tgt := 515) hx hb dL_law_148 (by decide) (fun _ => ?_) (fun c_8 => absurd rfl c_8)
  exact kx a b cA cB n' hd' fm' rp' rq' nd' nw' bf' su' sI' sO' ct' nwM' bfM' db' sg' wt' ne' dn' C' hK1 hK2 H locs hP1 hP2 hD.turn hS ls hl
set_option maxHeartbeats 4000000 in
set_option maxRecDepth 100000 in
theorem law_undo {p : Program} {l : Launch} {e : Env} {s : State} {m : MethodId} {below : List Frame} {meth : Method} {c : Code} {dC : Nat → ClassId} {dI : Nat → Nat → Nat} {sb Ls : Nat} {xs : Nat → Int32} (hL : Ls ≤ 2560) (C0 : lw_At p s m meth c sb Ls xs) (hN : ∀ w ∈ nstW, va_Nw w s) {i : Nat} (h5 : i + 5 ≤ Ls) (kx : ∀ (a b : Nat → Nat) (cA cB : Nat → ClassId) (n : Nat) (hd fm rp rq : Nat → Nat) (nd nw bf su sI sO ct nwM bfM db sg wt : Nat → Int32) (ne dn : Nat → Bool), CI n hd fm rp rq nd nw bf su sI sO ct nwM bfM db sg wt ne → va_K (dC, dI) vwCl (vkT cA) s → va_K (dC, dI) vwCl (mdT cB) s → ∀ (H : Heap) (locs : List Loc), va_P (dC, dI) vwCl (vkW a cA n hd fm rp rq nd nw bf su sI sO ct) H → va_P (dC, dI) vwCl (mdW b cB n hd fm rp rq nwM bfM db sg wt ne dn) H → va_D (fun q : Nat => s.heap.size ≤ q) (vkW a cA n hd fm rp rq nd nw bf su sI sO ct ++ mdW b cB n hd fm rp rq nwM bfM db sg wt ne dn) → va_S (fun q : Nat => s.heap.size ≤ q) s.heap H locs → ∀ ls : Array Slot, lv_has ls 4 [(0, .ref sb), (1, .ref (a 0)), (2, .ref (b 0)), (3, .int (nI i))] → W p l e room_1 s m #[Value.ref sb] below meth c H locs 34 422 (lw_Z below #[Value.ref sb] s) (F0 m 515 ls [])) : ∀ (a b : Nat → Nat) (cA cB : Nat → ClassId) (n : Nat) (hd fm rp rq : Nat → Nat) (nd nw bf su sI sO ct nwM bfM db sg wt : Nat → Int32) (ne dn : Nat → Bool), CI n hd fm rp rq nd nw bf su sI sO ct nwM bfM db sg wt ne → va_K (dC, dI) vwCl (vkT cA) s → va_K (dC, dI) vwCl (mdT cB) s → ∀ (H : Heap) (locs : List Loc), va_P (dC, dI) vwCl (vkW a cA n hd fm rp rq nd nw bf su sI sO ct) H → va_P (dC, dI) vwCl (mdW b cB n hd fm rp rq nwM bfM db sg wt ne dn) H → va_D (fun q : Nat => s.heap.size ≤ q) (vkW a cA n hd fm rp rq nd nw bf su sI sO ct ++ mdW b cB n hd fm rp rq nwM bfM db sg wt ne dn) → va_S (fun q : Nat => s.heap.size ≤ q) s.heap H locs → ∀ ls : Array Slot, lv_has ls 4 [(0, .ref sb), (1, .ref (a 0)), (2, .ref (b 0)), (3, .int (nI i))] → W p l e room_1 s m #[Value.ref sb] below meth c H locs 34 422 (lw_Z below #[Value.ref sb] s) (F0 m 153 ls []) := by
  obtain ⟨hx, hb, hr, hml, hown, hts0, hX, hbl, hlocks, hgv⟩ := C0
  have hts : ∀ w ∈ wsL_law, w.before #[Value.ref sb] s = true := fun w h => hts0 w (wsL_law_in w h)
  have hA : ∀ q : Nat, s.heap.size ≤ q → (fun q : Nat => s.heap.size ≤ q) q := fun _ h => h
  have hbA : ¬ (fun q : Nat => s.heap.size ≤ q) sb := Nat.not_le.mpr hbl
  intro a b cA cB n hd fm rp rq nd nw bf su sI sO ct nwM bfM db sg wt ne dn C hK1 hK2 H locs hP1 hP2 hD hS ls hl
  obtain ⟨n', hd', fm', rp', rq', nd', nw', bf', su', sI', sO', ct', nwM', bfM', db', sg', wt', ne', dn', v, hc, hm, C'⟩ := sp_undo l dC dI a b cA cB dn C 
  refine lv_aload_n hx hb dL_law_153 rfl (lv_at hl 1 rfl) ?_
  refine hx_wriL (va_runV (As := []) (rest := []) ⟨hx, hb, hml, hown, hts⟩ (hc H.size) (cwV 0 hts gL_law_X2_undo rfl rfl rfl (by decide +kernel) ⟨Nat.le_of_ble_eq_true rfl, Nat.le_of_ble_eq_true rfl⟩) (wr_V nstW_ok hP1 hK1 hN hD.left 0 rfl rfl _) rfl rfl hl.1 rfl (lv_room (Nat.le_of_ble_eq_true rfl)) dL_law_154 ⟨Nat.le_of_ble_eq_true rfl, Nat.le_of_ble_eq_true rfl⟩) hP2 hD hS hA (fun H locs hP1 hP2 hD hS => ?_)
  refine lv_aload_n hx hb dL_law_157 rfl (lv_at hl 2 rfl) ?_
  refine hx_wriL (va_runV (As := []) (rest := [.int (v)]) ⟨hx, hb, hml, hown, hts⟩ (hm H.size) (cwV 0 hts gL_law_X3_undo rfl rfl rfl (by decide +kernel) ⟨Nat.le_of_ble_eq_true rfl, Nat.le_of_ble_eq_true rfl⟩) (wr_V nstW_ok hP2 hK2 hN hD.turn.left 0 rfl rfl _) rfl rfl hl.1 rfl (lv_room (Nat.le_of_ble_eq_true rfl)) dL_law_158 ⟨Nat.le_of_ble_eq_true rfl, Nat.le_of_ble_eq_true rfl⟩) hP1 hD.turn hS hA (fun H locs hP2 hP1 hD hS => ?_)
  refine lv_icmp_eq (tgt := 515) hx hb dL_law_161 (by decide) (fun _ => ?_) (fun c_8 => absurd rfl c_8)
  exact kx a b cA cB n' hd' fm' rp' rq' nd' nw' bf' su' sI' sO' ct' nwM' bfM' db' sg' wt' ne' dn' C' hK1 hK2 H locs hP1 hP2 hD.turn hS ls hl
set_option maxHeartbeats 4000000 in
set_option maxRecDepth 100000 in
theorem law_stage {p : Program} {l : Launch} {e : Env} {s : State} {m : MethodId} {below : List Frame} {meth : Method} {c : Code} {dC : Nat → ClassId} {dI : Nat → Nat → Nat} {sb Ls : Nat} {xs : Nat → Int32} (hL : Ls ≤ 2560) (C0 : lw_At p s m meth c sb Ls xs) (hN : ∀ w ∈ nstW, va_Nw w s) {i : Nat} (h5 : i + 5 ≤ Ls) (kx : ∀ (a b : Nat → Nat) (cA cB : Nat → ClassId) (n : Nat) (hd fm rp rq : Nat → Nat) (nd nw bf su sI sO ct nwM bfM db sg wt : Nat → Int32) (ne dn : Nat → Bool), CI n hd fm rp rq nd nw bf su sI sO ct nwM bfM db sg wt ne → va_K (dC, dI) vwCl (vkT cA) s → va_K (dC, dI) vwCl (mdT cB) s → ∀ (H : Heap) (locs : List Loc), va_P (dC, dI) vwCl (vkW a cA n hd fm rp rq nd nw bf su sI sO ct) H → va_P (dC, dI) vwCl (mdW b cB n hd fm rp rq nwM bfM db sg wt ne dn) H → va_D (fun q : Nat => s.heap.size ≤ q) (vkW a cA n hd fm rp rq nd nw bf su sI sO ct ++ mdW b cB n hd fm rp rq nwM bfM db sg wt ne dn) → va_S (fun q : Nat => s.heap.size ≤ q) s.heap H locs → ∀ ls : Array Slot, lv_has ls 4 [(0, .ref sb), (1, .ref (a 0)), (2, .ref (b 0)), (3, .int (nI i))] → W p l e room_1 s m #[Value.ref sb] below meth c H locs 34 422 (lw_Z below #[Value.ref sb] s) (F0 m 515 ls [])) : ∀ (a b : Nat → Nat) (cA cB : Nat → ClassId) (n : Nat) (hd fm rp rq : Nat → Nat) (nd nw bf su sI sO ct nwM bfM db sg wt : Nat → Int32) (ne dn : Nat → Bool), CI n hd fm rp rq nd nw bf su sI sO ct nwM bfM db sg wt ne → va_K (dC, dI) vwCl (vkT cA) s → va_K (dC, dI) vwCl (mdT cB) s → ∀ (H : Heap) (locs : List Loc), va_P (dC, dI) vwCl (vkW a cA n hd fm rp rq nd nw bf su sI sO ct) H → va_P (dC, dI) vwCl (mdW b cB n hd fm rp rq nwM bfM db sg wt ne dn) H → va_D (fun q : Nat => s.heap.size ≤ q) (vkW a cA n hd fm rp rq nd nw bf su sI sO ct ++ mdW b cB n hd fm rp rq nwM bfM db sg wt ne dn) → va_S (fun q : Nat => s.heap.size ≤ q) s.heap H locs → ∀ ls : Array Slot, lv_has ls 4 [(0, .ref sb), (1, .ref (a 0)), (2, .ref (b 0)), (3, .int (nI i))] → W p l e room_1 s m #[Value.ref sb] below meth c H locs 34 422 (lw_Z below #[Value.ref sb] s) (F0 m 166 ls []) := by
  obtain ⟨hx, hb, hr, hml, hown, hts0, hX, hbl, hlocks, hgv⟩ := C0
  have hts : ∀ w ∈ wsL_law, w.before #[Value.ref sb] s = true := fun w h => hts0 w (wsL_law_in w h)
  have hA : ∀ q : Nat, s.heap.size ≤ q → (fun q : Nat => s.heap.size ≤ q) q := fun _ h => h
  have hbA : ¬ (fun q : Nat => s.heap.size ≤ q) sb := Nat.not_le.mpr hbl
  intro a b cA cB n hd fm rp rq nd nw bf su sI sO ct nwM bfM db sg wt ne dn C hK1 hK2 H locs hP1 hP2 hD hS ls hl
  by_cases hz : xs (i + 4) = 0
  · obtain ⟨n', hd', fm', rp', rq', nd', nw', bf', su', sI', sO', ct', nwM', bfM', db', sg', wt', ne', dn', v, hc, hm, C'⟩ := sp_stage l dC dI a b cA cB dn C (xs (i + 1)) (xs (i + 2)) (xs (i + 3)) false
    refine lv_aload_n hx hb dL_law_166 rfl (lv_at hl 1 rfl) ?_
    refine lv_aload_n hx hb dL_law_167 rfl (lv_at hl 0 rfl) ?_
    refine lv_iload_n hx hb dL_law_168 rfl (lv_at hl 3 rfl) ?_
    refine lv_iconst (v := nI 1) hx hb dL_law_169 (by decide) ?_
    refine hx_iadd hx hb dL_law_170 ?_
    refine hx_sld hx hb hX hbl hbA hS (by omega) (by omega) dL_law_171 ?_
    refine lv_aload_n hx hb dL_law_172 rfl (lv_at hl 0 rfl) ?_
    refine lv_iload_n hx hb dL_law_173 rfl (lv_at hl 3 rfl) ?_
    refine lv_iconst (v := nI 2) hx hb dL_law_174 (by decide) ?_
    refine hx_iadd hx hb dL_law_175 ?_
    refine hx_sld hx hb hX hbl hbA hS (by omega) (by omega) dL_law_176 ?_
    refine lv_aload_n hx hb dL_law_177 rfl (lv_at hl 0 rfl) ?_
    refine lv_iload_n hx hb dL_law_178 rfl (lv_at hl 3 rfl) ?_
    refine lv_iconst (v := nI 3) hx hb dL_law_179 (by decide) ?_
    refine hx_iadd hx hb dL_law_180 ?_
    refine hx_sld hx hb hX hbl hbA hS (by omega) (by omega) dL_law_181 ?_
    refine lv_aload_n hx hb dL_law_182 rfl (lv_at hl 0 rfl) ?_
    refine lv_iload_n hx hb dL_law_183 rfl (lv_at hl 3 rfl) ?_
    refine lv_iconst (v := nI 4) hx hb dL_law_184 (by decide) ?_
    refine hx_iadd hx hb dL_law_185 ?_
    refine hx_sld hx hb hX hbl hbA hS (by omega) (by omega) dL_law_186 ?_
    refine lv_if_eq (tgt := 194) hx hb dL_law_187 (by decide) (fun _ => ?_) (fun c_9 => absurd hz c_9)
    refine lv_iconst (v := bI false) hx hb dL_law_194 (by decide) ?_
    refine hx_wriL (va_runV (As := [.int (xs (i + 1)), .int (xs (i + 2)), .int (xs (i + 3)), .int (bI false)]) (rest := []) ⟨hx, hb, hml, hown, hts⟩ (hc H.size) (cwV 4 hts gL_law_X2_stage rfl rfl rfl (by decide +kernel) ⟨Nat.le_of_ble_eq_true rfl, Nat.le_of_ble_eq_true rfl⟩) (wr_V nstW_ok hP1 hK1 hN hD.left 0 rfl rfl _) rfl rfl hl.1 rfl (lv_room (Nat.le_of_ble_eq_true rfl)) dL_law_195 ⟨Nat.le_of_ble_eq_true rfl, Nat.le_of_ble_eq_true rfl⟩) hP2 hD hS hA (fun H locs hP1 hP2 hD hS => ?_)
    refine lv_aload_n hx hb dL_law_198 rfl (lv_at hl 2 rfl) ?_
    refine lv_aload_n hx hb dL_law_199 rfl (lv_at hl 0 rfl) ?_
    refine lv_iload_n hx hb dL_law_200 rfl (lv_at hl 3 rfl) ?_
    refine lv_iconst (v := nI 1) hx hb dL_law_201 (by decide) ?_
    refine hx_iadd hx hb dL_law_202 ?_
    refine hx_sld hx hb hX hbl hbA hS (by omega) (by omega) dL_law_203 ?_
    refine lv_aload_n hx hb dL_law_204 rfl (lv_at hl 0 rfl) ?_
    refine lv_iload_n hx hb dL_law_205 rfl (lv_at hl 3 rfl) ?_
    refine lv_iconst (v := nI 2) hx hb dL_law_206 (by decide) ?_
    refine hx_iadd hx hb dL_law_207 ?_
    refine hx_sld hx hb hX hbl hbA hS (by omega) (by omega) dL_law_208 ?_
    refine lv_aload_n hx hb dL_law_209 rfl (lv_at hl 0 rfl) ?_
    refine lv_iload_n hx hb dL_law_210 rfl (lv_at hl 3 rfl) ?_
    refine lv_iconst (v := nI 3) hx hb dL_law_211 (by decide) ?_
    refine hx_iadd hx hb dL_law_212 ?_
    refine hx_sld hx hb hX hbl hbA hS (by omega) (by omega) dL_law_213 ?_
    refine lv_aload_n hx hb dL_law_214 rfl (lv_at hl 0 rfl) ?_
    refine lv_iload_n hx hb dL_law_215 rfl (lv_at hl 3 rfl) ?_
    refine lv_iconst (v := nI 4) hx hb dL_law_216 (by decide) ?_
    refine hx_iadd hx hb dL_law_217 ?_
    refine hx_sld hx hb hX hbl hbA hS (by omega) (by omega) dL_law_218 ?_
    refine lv_if_eq (tgt := 226) hx hb dL_law_219 (by decide) (fun _ => ?_) (fun c_9 => absurd hz c_9)
    refine lv_iconst (v := bI false) hx hb dL_law_226 (by decide) ?_
    refine hx_wriL (va_runV (As := [.int (xs (i + 1)), .int (xs (i + 2)), .int (xs (i + 3)), .int (bI false)]) (rest := [.int (v)]) ⟨hx, hb, hml, hown, hts⟩ (hm H.size) (cwV 4 hts gL_law_X3_stage rfl rfl rfl (by decide +kernel) ⟨Nat.le_of_ble_eq_true rfl, Nat.le_of_ble_eq_true rfl⟩) (wr_V nstW_ok hP2 hK2 hN hD.turn.left 0 rfl rfl _) rfl rfl hl.1 rfl (lv_room (Nat.le_of_ble_eq_true rfl)) dL_law_227 ⟨Nat.le_of_ble_eq_true rfl, Nat.le_of_ble_eq_true rfl⟩) hP1 hD.turn hS hA (fun H locs hP2 hP1 hD hS => ?_)
    refine lv_icmp_eq (tgt := 515) hx hb dL_law_230 (by decide) (fun _ => ?_) (fun c_8 => absurd rfl c_8)
    exact kx a b cA cB n' hd' fm' rp' rq' nd' nw' bf' su' sI' sO' ct' nwM' bfM' db' sg' wt' ne' dn' C' hK1 hK2 H locs hP1 hP2 hD.turn hS ls hl
  · obtain ⟨n', hd', fm', rp', rq', nd', nw', bf', su', sI', sO', ct', nwM', bfM', db', sg', wt', ne', dn', v, hc, hm, C'⟩ := sp_stage l dC dI a b cA cB dn C (xs (i + 1)) (xs (i + 2)) (xs (i + 3)) true
    refine lv_aload_n hx hb dL_law_166 rfl (lv_at hl 1 rfl) ?_
    refine lv_aload_n hx hb dL_law_167 rfl (lv_at hl 0 rfl) ?_
    refine lv_iload_n hx hb dL_law_168 rfl (lv_at hl 3 rfl) ?_
    refine lv_iconst (v := nI 1) hx hb dL_law_169 (by decide) ?_
    refine hx_iadd hx hb dL_law_170 ?_
    refine hx_sld hx hb hX hbl hbA hS (by omega) (by omega) dL_law_171 ?_
    refine lv_aload_n hx hb dL_law_172 rfl (lv_at hl 0 rfl) ?_
    refine lv_iload_n hx hb dL_law_173 rfl (lv_at hl 3 rfl) ?_
    refine lv_iconst (v := nI 2) hx hb dL_law_174 (by decide) ?_
    refine hx_iadd hx hb dL_law_175 ?_
    refine hx_sld hx hb hX hbl hbA hS (by omega) (by omega) dL_law_176 ?_
    refine lv_aload_n hx hb dL_law_177 rfl (lv_at hl 0 rfl) ?_
    refine lv_iload_n hx hb dL_law_178 rfl (lv_at hl 3 rfl) ?_
    refine lv_iconst (v := nI 3) hx hb dL_law_179 (by decide) ?_
    refine hx_iadd hx hb dL_law_180 ?_
    refine hx_sld hx hb hX hbl hbA hS (by omega) (by omega) dL_law_181 ?_
    refine lv_aload_n hx hb dL_law_182 rfl (lv_at hl 0 rfl) ?_
    refine lv_iload_n hx hb dL_law_183 rfl (lv_at hl 3 rfl) ?_
    refine lv_iconst (v := nI 4) hx hb dL_law_184 (by decide) ?_
    refine hx_iadd hx hb dL_law_185 ?_
    refine hx_sld hx hb hX hbl hbA hS (by omega) (by omega) dL_law_186 ?_
    refine lv_if_eq (tgt := 194) hx hb dL_law_187 (by decide) (fun c_9 => absurd c_9 hz) (fun _ => ?_)
    refine lv_iconst (v := bI true) hx hb dL_law_190 (by decide) ?_
    refine lv_goto (tgt := 195) hx hb dL_law_191 (by decide) ?_
    refine hx_wriL (va_runV (As := [.int (xs (i + 1)), .int (xs (i + 2)), .int (xs (i + 3)), .int (bI true)]) (rest := []) ⟨hx, hb, hml, hown, hts⟩ (hc H.size) (cwV 4 hts gL_law_X2_stage rfl rfl rfl (by decide +kernel) ⟨Nat.le_of_ble_eq_true rfl, Nat.le_of_ble_eq_true rfl⟩) (wr_V nstW_ok hP1 hK1 hN hD.left 0 rfl rfl _) rfl rfl hl.1 rfl (lv_room (Nat.le_of_ble_eq_true rfl)) dL_law_195 ⟨Nat.le_of_ble_eq_true rfl, Nat.le_of_ble_eq_true rfl⟩) hP2 hD hS hA (fun H locs hP1 hP2 hD hS => ?_)
    refine lv_aload_n hx hb dL_law_198 rfl (lv_at hl 2 rfl) ?_
    refine lv_aload_n hx hb dL_law_199 rfl (lv_at hl 0 rfl) ?_
    refine lv_iload_n hx hb dL_law_200 rfl (lv_at hl 3 rfl) ?_
    refine lv_iconst (v := nI 1) hx hb dL_law_201 (by decide) ?_
    refine hx_iadd hx hb dL_law_202 ?_
    refine hx_sld hx hb hX hbl hbA hS (by omega) (by omega) dL_law_203 ?_
    refine lv_aload_n hx hb dL_law_204 rfl (lv_at hl 0 rfl) ?_
    refine lv_iload_n hx hb dL_law_205 rfl (lv_at hl 3 rfl) ?_
    refine lv_iconst (v := nI 2) hx hb dL_law_206 (by decide) ?_
    refine hx_iadd hx hb dL_law_207 ?_
    refine hx_sld hx hb hX hbl hbA hS (by omega) (by omega) dL_law_208 ?_
    refine lv_aload_n hx hb dL_law_209 rfl (lv_at hl 0 rfl) ?_
    refine lv_iload_n hx hb dL_law_210 rfl (lv_at hl 3 rfl) ?_
    refine lv_iconst (v := nI 3) hx hb dL_law_211 (by decide) ?_
    refine hx_iadd hx hb dL_law_212 ?_
    refine hx_sld hx hb hX hbl hbA hS (by omega) (by omega) dL_law_213 ?_
    refine lv_aload_n hx hb dL_law_214 rfl (lv_at hl 0 rfl) ?_
    refine lv_iload_n hx hb dL_law_215 rfl (lv_at hl 3 rfl) ?_
    refine lv_iconst (v := nI 4) hx hb dL_law_216 (by decide) ?_
    refine hx_iadd hx hb dL_law_217 ?_
    refine hx_sld hx hb hX hbl hbA hS (by omega) (by omega) dL_law_218 ?_
    refine lv_if_eq (tgt := 226) hx hb dL_law_219 (by decide) (fun c_9 => absurd c_9 hz) (fun _ => ?_)
    refine lv_iconst (v := bI true) hx hb dL_law_222 (by decide) ?_
    refine lv_goto (tgt := 227) hx hb dL_law_223 (by decide) ?_
    refine hx_wriL (va_runV (As := [.int (xs (i + 1)), .int (xs (i + 2)), .int (xs (i + 3)), .int (bI true)]) (rest := [.int (v)]) ⟨hx, hb, hml, hown, hts⟩ (hm H.size) (cwV 4 hts gL_law_X3_stage rfl rfl rfl (by decide +kernel) ⟨Nat.le_of_ble_eq_true rfl, Nat.le_of_ble_eq_true rfl⟩) (wr_V nstW_ok hP2 hK2 hN hD.turn.left 0 rfl rfl _) rfl rfl hl.1 rfl (lv_room (Nat.le_of_ble_eq_true rfl)) dL_law_227 ⟨Nat.le_of_ble_eq_true rfl, Nat.le_of_ble_eq_true rfl⟩) hP1 hD.turn hS hA (fun H locs hP2 hP1 hD hS => ?_)
    refine lv_icmp_eq (tgt := 515) hx hb dL_law_230 (by decide) (fun _ => ?_) (fun c_8 => absurd rfl c_8)
    exact kx a b cA cB n' hd' fm' rp' rq' nd' nw' bf' su' sI' sO' ct' nwM' bfM' db' sg' wt' ne' dn' C' hK1 hK2 H locs hP1 hP2 hD.turn hS ls hl
set_option maxHeartbeats 4000000 in
set_option maxRecDepth 100000 in
theorem law_commit {p : Program} {l : Launch} {e : Env} {s : State} {m : MethodId} {below : List Frame} {meth : Method} {c : Code} {dC : Nat → ClassId} {dI : Nat → Nat → Nat} {sb Ls : Nat} {xs : Nat → Int32} (hL : Ls ≤ 2560) (C0 : lw_At p s m meth c sb Ls xs) (hN : ∀ w ∈ nstW, va_Nw w s) {i : Nat} (h5 : i + 5 ≤ Ls) (kx : ∀ (a b : Nat → Nat) (cA cB : Nat → ClassId) (n : Nat) (hd fm rp rq : Nat → Nat) (nd nw bf su sI sO ct nwM bfM db sg wt : Nat → Int32) (ne dn : Nat → Bool), CI n hd fm rp rq nd nw bf su sI sO ct nwM bfM db sg wt ne → va_K (dC, dI) vwCl (vkT cA) s → va_K (dC, dI) vwCl (mdT cB) s → ∀ (H : Heap) (locs : List Loc), va_P (dC, dI) vwCl (vkW a cA n hd fm rp rq nd nw bf su sI sO ct) H → va_P (dC, dI) vwCl (mdW b cB n hd fm rp rq nwM bfM db sg wt ne dn) H → va_D (fun q : Nat => s.heap.size ≤ q) (vkW a cA n hd fm rp rq nd nw bf su sI sO ct ++ mdW b cB n hd fm rp rq nwM bfM db sg wt ne dn) → va_S (fun q : Nat => s.heap.size ≤ q) s.heap H locs → ∀ ls : Array Slot, lv_has ls 4 [(0, .ref sb), (1, .ref (a 0)), (2, .ref (b 0)), (3, .int (nI i))] → W p l e room_1 s m #[Value.ref sb] below meth c H locs 34 422 (lw_Z below #[Value.ref sb] s) (F0 m 515 ls [])) : ∀ (a b : Nat → Nat) (cA cB : Nat → ClassId) (n : Nat) (hd fm rp rq : Nat → Nat) (nd nw bf su sI sO ct nwM bfM db sg wt : Nat → Int32) (ne dn : Nat → Bool), CI n hd fm rp rq nd nw bf su sI sO ct nwM bfM db sg wt ne → va_K (dC, dI) vwCl (vkT cA) s → va_K (dC, dI) vwCl (mdT cB) s → ∀ (H : Heap) (locs : List Loc), va_P (dC, dI) vwCl (vkW a cA n hd fm rp rq nd nw bf su sI sO ct) H → va_P (dC, dI) vwCl (mdW b cB n hd fm rp rq nwM bfM db sg wt ne dn) H → va_D (fun q : Nat => s.heap.size ≤ q) (vkW a cA n hd fm rp rq nd nw bf su sI sO ct ++ mdW b cB n hd fm rp rq nwM bfM db sg wt ne dn) → va_S (fun q : Nat => s.heap.size ≤ q) s.heap H locs → ∀ ls : Array Slot, lv_has ls 4 [(0, .ref sb), (1, .ref (a 0)), (2, .ref (b 0)), (3, .int (nI i))] → W p l e room_1 s m #[Value.ref sb] below meth c H locs 34 422 (lw_Z below #[Value.ref sb] s) (F0 m 235 ls []) := by
  obtain ⟨hx, hb, hr, hml, hown, hts0, hX, hbl, hlocks, hgv⟩ := C0
  have hts : ∀ w ∈ wsL_law, w.before #[Value.ref sb] s = true := fun w h => hts0 w (wsL_law_in w h)
  have hA : ∀ q : Nat, s.heap.size ≤ q → (fun q : Nat => s.heap.size ≤ q) q := fun _ h => h
  have hbA : ¬ (fun q : Nat => s.heap.size ≤ q) sb := Nat.not_le.mpr hbl
  intro a b cA cB n hd fm rp rq nd nw bf su sI sO ct nwM bfM db sg wt ne dn C hK1 hK2 H locs hP1 hP2 hD hS ls hl
  obtain ⟨n', hd', fm', rp', rq', nd', nw', bf', su', sI', sO', ct', nwM', bfM', db', sg', wt', ne', dn', v, hc, hm, C'⟩ := sp_commit l dC dI a b cA cB dn C 
  refine lv_aload_n hx hb dL_law_235 rfl (lv_at hl 1 rfl) ?_
  refine hx_wriL (va_runV (As := []) (rest := []) ⟨hx, hb, hml, hown, hts⟩ (hc H.size) (cwV 0 hts gL_law_X2_commit rfl rfl rfl (by decide +kernel) ⟨Nat.le_of_ble_eq_true rfl, Nat.le_of_ble_eq_true rfl⟩) (wr_V nstW_ok hP1 hK1 hN hD.left 0 rfl rfl _) rfl rfl hl.1 rfl (lv_room (Nat.le_of_ble_eq_true rfl)) dL_law_236 ⟨Nat.le_of_ble_eq_true rfl, Nat.le_of_ble_eq_true rfl⟩) hP2 hD hS hA (fun H locs hP1 hP2 hD hS => ?_)
  refine lv_aload_n hx hb dL_law_239 rfl (lv_at hl 2 rfl) ?_
  refine hx_wriL (va_runV (As := []) (rest := [.int (v)]) ⟨hx, hb, hml, hown, hts⟩ (hm H.size) (cwV 0 hts gL_law_X3_commit rfl rfl rfl (by decide +kernel) ⟨Nat.le_of_ble_eq_true rfl, Nat.le_of_ble_eq_true rfl⟩) (wr_V nstW_ok hP2 hK2 hN hD.turn.left 0 rfl rfl _) rfl rfl hl.1 rfl (lv_room (Nat.le_of_ble_eq_true rfl)) dL_law_240 ⟨Nat.le_of_ble_eq_true rfl, Nat.le_of_ble_eq_true rfl⟩) hP1 hD.turn hS hA (fun H locs hP2 hP1 hD hS => ?_)
  refine lv_icmp_eq (tgt := 515) hx hb dL_law_243 (by decide) (fun _ => ?_) (fun c_8 => absurd rfl c_8)
  exact kx a b cA cB n' hd' fm' rp' rq' nd' nw' bf' su' sI' sO' ct' nwM' bfM' db' sg' wt' ne' dn' C' hK1 hK2 H locs hP1 hP2 hD.turn hS ls hl
set_option maxHeartbeats 4000000 in
set_option maxRecDepth 100000 in
theorem law_abort {p : Program} {l : Launch} {e : Env} {s : State} {m : MethodId} {below : List Frame} {meth : Method} {c : Code} {dC : Nat → ClassId} {dI : Nat → Nat → Nat} {sb Ls : Nat} {xs : Nat → Int32} (hL : Ls ≤ 2560) (C0 : lw_At p s m meth c sb Ls xs) (hN : ∀ w ∈ nstW, va_Nw w s) {i : Nat} (h5 : i + 5 ≤ Ls) (kx : ∀ (a b : Nat → Nat) (cA cB : Nat → ClassId) (n : Nat) (hd fm rp rq : Nat → Nat) (nd nw bf su sI sO ct nwM bfM db sg wt : Nat → Int32) (ne dn : Nat → Bool), CI n hd fm rp rq nd nw bf su sI sO ct nwM bfM db sg wt ne → va_K (dC, dI) vwCl (vkT cA) s → va_K (dC, dI) vwCl (mdT cB) s → ∀ (H : Heap) (locs : List Loc), va_P (dC, dI) vwCl (vkW a cA n hd fm rp rq nd nw bf su sI sO ct) H → va_P (dC, dI) vwCl (mdW b cB n hd fm rp rq nwM bfM db sg wt ne dn) H → va_D (fun q : Nat => s.heap.size ≤ q) (vkW a cA n hd fm rp rq nd nw bf su sI sO ct ++ mdW b cB n hd fm rp rq nwM bfM db sg wt ne dn) → va_S (fun q : Nat => s.heap.size ≤ q) s.heap H locs → ∀ ls : Array Slot, lv_has ls 4 [(0, .ref sb), (1, .ref (a 0)), (2, .ref (b 0)), (3, .int (nI i))] → W p l e room_1 s m #[Value.ref sb] below meth c H locs 34 422 (lw_Z below #[Value.ref sb] s) (F0 m 515 ls [])) : ∀ (a b : Nat → Nat) (cA cB : Nat → ClassId) (n : Nat) (hd fm rp rq : Nat → Nat) (nd nw bf su sI sO ct nwM bfM db sg wt : Nat → Int32) (ne dn : Nat → Bool), CI n hd fm rp rq nd nw bf su sI sO ct nwM bfM db sg wt ne → va_K (dC, dI) vwCl (vkT cA) s → va_K (dC, dI) vwCl (mdT cB) s → ∀ (H : Heap) (locs : List Loc), va_P (dC, dI) vwCl (vkW a cA n hd fm rp rq nd nw bf su sI sO ct) H → va_P (dC, dI) vwCl (mdW b cB n hd fm rp rq nwM bfM db sg wt ne dn) H → va_D (fun q : Nat => s.heap.size ≤ q) (vkW a cA n hd fm rp rq nd nw bf su sI sO ct ++ mdW b cB n hd fm rp rq nwM bfM db sg wt ne dn) → va_S (fun q : Nat => s.heap.size ≤ q) s.heap H locs → ∀ ls : Array Slot, lv_has ls 4 [(0, .ref sb), (1, .ref (a 0)), (2, .ref (b 0)), (3, .int (nI i))] → W p l e room_1 s m #[Value.ref sb] below meth c H locs 34 422 (lw_Z below #[Value.ref sb] s) (F0 m 248 ls []) := by
  obtain ⟨hx, hb, hr, hml, hown, hts0, hX, hbl, hlocks, hgv⟩ := C0
  have hts : ∀ w ∈ wsL_law, w.before #[Value.ref sb] s = true := fun w h => hts0 w (wsL_law_in w h)
  have hA : ∀ q : Nat, s.heap.size ≤ q → (fun q : Nat => s.heap.size ≤ q) q := fun _ h => h
  have hbA : ¬ (fun q : Nat => s.heap.size ≤ q) sb := Nat.not_le.mpr hbl
  intro a b cA cB n hd fm rp rq nd nw bf su sI sO ct nwM bfM db sg wt ne dn C hK1 hK2 H locs hP1 hP2 hD hS ls hl
  obtain ⟨n', hd', fm', rp', rq', nd', nw', bf', su', sI', sO', ct', nwM', bfM', db', sg', wt', ne', dn', v, hc, hm, C'⟩ := sp_abort l dC dI a b cA cB dn C 
  refine lv_aload_n hx hb dL_law_248 rfl (lv_at hl 1 rfl) ?_
  refine hx_wriL (va_runV (As := []) (rest := []) ⟨hx, hb, hml, hown, hts⟩ (hc H.size) (cwV 0 hts gL_law_X2_abort rfl rfl rfl (by decide +kernel) ⟨Nat.le_of_ble_eq_true rfl, Nat.le_of_ble_eq_true rfl⟩) (wr_V nstW_ok hP1 hK1 hN hD.left 0 rfl rfl _) rfl rfl hl.1 rfl (lv_room (Nat.le_of_ble_eq_true rfl)) dL_law_249 ⟨Nat.le_of_ble_eq_true rfl, Nat.le_of_ble_eq_true rfl⟩) hP2 hD hS hA (fun H locs hP1 hP2 hD hS => ?_)
  refine lv_aload_n hx hb dL_law_252 rfl (lv_at hl 2 rfl) ?_
  refine hx_wriL (va_runV (As := []) (rest := [.int (v)]) ⟨hx, hb, hml, hown, hts⟩ (hm H.size) (cwV 0 hts gL_law_X3_abort rfl rfl rfl (by decide +kernel) ⟨Nat.le_of_ble_eq_true rfl, Nat.le_of_ble_eq_true rfl⟩) (wr_V nstW_ok hP2 hK2 hN hD.turn.left 0 rfl rfl _) rfl rfl hl.1 rfl (lv_room (Nat.le_of_ble_eq_true rfl)) dL_law_253 ⟨Nat.le_of_ble_eq_true rfl, Nat.le_of_ble_eq_true rfl⟩) hP1 hD.turn hS hA (fun H locs hP2 hP1 hD hS => ?_)
  refine lv_icmp_eq (tgt := 515) hx hb dL_law_256 (by decide) (fun _ => ?_) (fun c_8 => absurd rfl c_8)
  exact kx a b cA cB n' hd' fm' rp' rq' nd' nw' bf' su' sI' sO' ct' nwM' bfM' db' sg' wt' ne' dn' C' hK1 hK2 H locs hP1 hP2 hD.turn hS ls hl
set_option maxHeartbeats 4000000 in
set_option maxRecDepth 100000 in
theorem law_has {p : Program} {l : Launch} {e : Env} {s : State} {m : MethodId} {below : List Frame} {meth : Method} {c : Code} {dC : Nat → ClassId} {dI : Nat → Nat → Nat} {sb Ls : Nat} {xs : Nat → Int32} (hL : Ls ≤ 2560) (C0 : lw_At p s m meth c sb Ls xs) (hN : ∀ w ∈ nstW, va_Nw w s) {i : Nat} (h5 : i + 5 ≤ Ls) (kx : ∀ (a b : Nat → Nat) (cA cB : Nat → ClassId) (n : Nat) (hd fm rp rq : Nat → Nat) (nd nw bf su sI sO ct nwM bfM db sg wt : Nat → Int32) (ne dn : Nat → Bool), CI n hd fm rp rq nd nw bf su sI sO ct nwM bfM db sg wt ne → va_K (dC, dI) vwCl (vkT cA) s → va_K (dC, dI) vwCl (mdT cB) s → ∀ (H : Heap) (locs : List Loc), va_P (dC, dI) vwCl (vkW a cA n hd fm rp rq nd nw bf su sI sO ct) H → va_P (dC, dI) vwCl (mdW b cB n hd fm rp rq nwM bfM db sg wt ne dn) H → va_D (fun q : Nat => s.heap.size ≤ q) (vkW a cA n hd fm rp rq nd nw bf su sI sO ct ++ mdW b cB n hd fm rp rq nwM bfM db sg wt ne dn) → va_S (fun q : Nat => s.heap.size ≤ q) s.heap H locs → ∀ ls : Array Slot, lv_has ls 4 [(0, .ref sb), (1, .ref (a 0)), (2, .ref (b 0)), (3, .int (nI i))] → W p l e room_1 s m #[Value.ref sb] below meth c H locs 34 422 (lw_Z below #[Value.ref sb] s) (F0 m 515 ls [])) : ∀ (a b : Nat → Nat) (cA cB : Nat → ClassId) (n : Nat) (hd fm rp rq : Nat → Nat) (nd nw bf su sI sO ct nwM bfM db sg wt : Nat → Int32) (ne dn : Nat → Bool), CI n hd fm rp rq nd nw bf su sI sO ct nwM bfM db sg wt ne → va_K (dC, dI) vwCl (vkT cA) s → va_K (dC, dI) vwCl (mdT cB) s → ∀ (H : Heap) (locs : List Loc), va_P (dC, dI) vwCl (vkW a cA n hd fm rp rq nd nw bf su sI sO ct) H → va_P (dC, dI) vwCl (mdW b cB n hd fm rp rq nwM bfM db sg wt ne dn) H → va_D (fun q : Nat => s.heap.size ≤ q) (vkW a cA n hd fm rp rq nd nw bf su sI sO ct ++ mdW b cB n hd fm rp rq nwM bfM db sg wt ne dn) → va_S (fun q : Nat => s.heap.size ≤ q) s.heap H locs → ∀ ls : Array Slot, lv_has ls 4 [(0, .ref sb), (1, .ref (a 0)), (2, .ref (b 0)), (3, .int (nI i))] → W p l e room_1 s m #[Value.ref sb] below meth c H locs 34 422 (lw_Z below #[Value.ref sb] s) (F0 m 261 ls []) := by
  obtain ⟨hx, hb, hr, hml, hown, hts0, hX, hbl, hlocks, hgv⟩ := C0
  have hts : ∀ w ∈ wsL_law, w.before #[Value.ref sb] s = true := fun w h => hts0 w (wsL_law_in w h)
  have hA : ∀ q : Nat, s.heap.size ≤ q → (fun q : Nat => s.heap.size ≤ q) q := fun _ h => h
  have hbA : ¬ (fun q : Nat => s.heap.size ≤ q) sb := Nat.not_le.mpr hbl
  intro a b cA cB n hd fm rp rq nd nw bf su sI sO ct nwM bfM db sg wt ne dn C hK1 hK2 H locs hP1 hP2 hD hS ls hl
  obtain ⟨v, hc, hm⟩ := sp_has l dC dI a b cA cB dn C (xs (i + 1)) (xs (i + 2)) (xs (i + 3))
  refine lv_aload_n hx hb dL_law_261 rfl (lv_at hl 1 rfl) ?_
  refine lv_aload_n hx hb dL_law_262 rfl (lv_at hl 0 rfl) ?_
  refine lv_iload_n hx hb dL_law_263 rfl (lv_at hl 3 rfl) ?_
  refine lv_iconst (v := nI 1) hx hb dL_law_264 (by decide) ?_
  refine hx_iadd hx hb dL_law_265 ?_
  refine hx_sld hx hb hX hbl hbA hS (by omega) (by omega) dL_law_266 ?_
  refine lv_aload_n hx hb dL_law_267 rfl (lv_at hl 0 rfl) ?_
  refine lv_iload_n hx hb dL_law_268 rfl (lv_at hl 3 rfl) ?_
  refine lv_iconst (v := nI 2) hx hb dL_law_269 (by decide) ?_
  refine hx_iadd hx hb dL_law_270 ?_
  refine hx_sld hx hb hX hbl hbA hS (by omega) (by omega) dL_law_271 ?_
  refine lv_aload_n hx hb dL_law_272 rfl (lv_at hl 0 rfl) ?_
  refine lv_iload_n hx hb dL_law_273 rfl (lv_at hl 3 rfl) ?_
  refine lv_iconst (v := nI 3) hx hb dL_law_274 (by decide) ?_
  refine hx_iadd hx hb dL_law_275 ?_
  refine hx_sld hx hb hX hbl hbA hS (by omega) (by omega) dL_law_276 ?_
  refine hx_read (va_runV (As := [.int (xs (i + 1)), .int (xs (i + 2)), .int (xs (i + 3))]) (rest := []) ⟨hx, hb, hml, hown, hts⟩ hc (cwV 3 hts gL_law_X2_has rfl rfl rfl (by decide +kernel) ⟨Nat.le_of_ble_eq_true rfl, Nat.le_of_ble_eq_true rfl⟩) (rd_V nstW_ok hP1 hK1 hN 0 rfl rfl _) rfl rfl hl.1 rfl (lv_room (Nat.le_of_ble_eq_true rfl)) dL_law_277 ⟨Nat.le_of_ble_eq_true rfl, Nat.le_of_ble_eq_true rfl⟩) ?_
  refine lv_aload_n hx hb dL_law_280 rfl (lv_at hl 2 rfl) ?_
  refine lv_aload_n hx hb dL_law_281 rfl (lv_at hl 0 rfl) ?_
  refine lv_iload_n hx hb dL_law_282 rfl (lv_at hl 3 rfl) ?_
  refine lv_iconst (v := nI 1) hx hb dL_law_283 (by decide) ?_
  refine hx_iadd hx hb dL_law_284 ?_
  refine hx_sld hx hb hX hbl hbA hS (by omega) (by omega) dL_law_285 ?_
  refine lv_aload_n hx hb dL_law_286 rfl (lv_at hl 0 rfl) ?_
  refine lv_iload_n hx hb dL_law_287 rfl (lv_at hl 3 rfl) ?_
  refine lv_iconst (v := nI 2) hx hb dL_law_288 (by decide) ?_
  refine hx_iadd hx hb dL_law_289 ?_
  refine hx_sld hx hb hX hbl hbA hS (by omega) (by omega) dL_law_290 ?_
  refine lv_aload_n hx hb dL_law_291 rfl (lv_at hl 0 rfl) ?_
  refine lv_iload_n hx hb dL_law_292 rfl (lv_at hl 3 rfl) ?_
  refine lv_iconst (v := nI 3) hx hb dL_law_293 (by decide) ?_
  refine hx_iadd hx hb dL_law_294 ?_
  refine hx_sld hx hb hX hbl hbA hS (by omega) (by omega) dL_law_295 ?_
  refine hx_read (va_runV (As := [.int (xs (i + 1)), .int (xs (i + 2)), .int (xs (i + 3))]) (rest := [.int (v)]) ⟨hx, hb, hml, hown, hts⟩ hm (cwV 3 hts gL_law_X3_has rfl rfl rfl (by decide +kernel) ⟨Nat.le_of_ble_eq_true rfl, Nat.le_of_ble_eq_true rfl⟩) (rd_V nstW_ok hP2 hK2 hN 0 rfl rfl _) rfl rfl hl.1 rfl (lv_room (Nat.le_of_ble_eq_true rfl)) dL_law_296 ⟨Nat.le_of_ble_eq_true rfl, Nat.le_of_ble_eq_true rfl⟩) ?_
  refine lv_icmp_eq (tgt := 515) hx hb dL_law_299 (by decide) (fun _ => ?_) (fun c_8 => absurd rfl c_8)
  exact kx a b cA cB n hd fm rp rq nd nw bf su sI sO ct nwM bfM db sg wt ne dn C hK1 hK2 H locs hP1 hP2 hD hS ls hl
set_option maxHeartbeats 4000000 in
set_option maxRecDepth 100000 in
theorem law_count {p : Program} {l : Launch} {e : Env} {s : State} {m : MethodId} {below : List Frame} {meth : Method} {c : Code} {dC : Nat → ClassId} {dI : Nat → Nat → Nat} {sb Ls : Nat} {xs : Nat → Int32} (hL : Ls ≤ 2560) (C0 : lw_At p s m meth c sb Ls xs) (hN : ∀ w ∈ nstW, va_Nw w s) {i : Nat} (h5 : i + 5 ≤ Ls) (kx : ∀ (a b : Nat → Nat) (cA cB : Nat → ClassId) (n : Nat) (hd fm rp rq : Nat → Nat) (nd nw bf su sI sO ct nwM bfM db sg wt : Nat → Int32) (ne dn : Nat → Bool), CI n hd fm rp rq nd nw bf su sI sO ct nwM bfM db sg wt ne → va_K (dC, dI) vwCl (vkT cA) s → va_K (dC, dI) vwCl (mdT cB) s → ∀ (H : Heap) (locs : List Loc), va_P (dC, dI) vwCl (vkW a cA n hd fm rp rq nd nw bf su sI sO ct) H → va_P (dC, dI) vwCl (mdW b cB n hd fm rp rq nwM bfM db sg wt ne dn) H → va_D (fun q : Nat => s.heap.size ≤ q) (vkW a cA n hd fm rp rq nd nw bf su sI sO ct ++ mdW b cB n hd fm rp rq nwM bfM db sg wt ne dn) → va_S (fun q : Nat => s.heap.size ≤ q) s.heap H locs → ∀ ls : Array Slot, lv_has ls 4 [(0, .ref sb), (1, .ref (a 0)), (2, .ref (b 0)), (3, .int (nI i))] → W p l e room_1 s m #[Value.ref sb] below meth c H locs 34 422 (lw_Z below #[Value.ref sb] s) (F0 m 515 ls [])) : ∀ (a b : Nat → Nat) (cA cB : Nat → ClassId) (n : Nat) (hd fm rp rq : Nat → Nat) (nd nw bf su sI sO ct nwM bfM db sg wt : Nat → Int32) (ne dn : Nat → Bool), CI n hd fm rp rq nd nw bf su sI sO ct nwM bfM db sg wt ne → va_K (dC, dI) vwCl (vkT cA) s → va_K (dC, dI) vwCl (mdT cB) s → ∀ (H : Heap) (locs : List Loc), va_P (dC, dI) vwCl (vkW a cA n hd fm rp rq nd nw bf su sI sO ct) H → va_P (dC, dI) vwCl (mdW b cB n hd fm rp rq nwM bfM db sg wt ne dn) H → va_D (fun q : Nat => s.heap.size ≤ q) (vkW a cA n hd fm rp rq nd nw bf su sI sO ct ++ mdW b cB n hd fm rp rq nwM bfM db sg wt ne dn) → va_S (fun q : Nat => s.heap.size ≤ q) s.heap H locs → ∀ ls : Array Slot, lv_has ls 4 [(0, .ref sb), (1, .ref (a 0)), (2, .ref (b 0)), (3, .int (nI i))] → W p l e room_1 s m #[Value.ref sb] below meth c H locs 34 422 (lw_Z below #[Value.ref sb] s) (F0 m 304 ls []) := by
  obtain ⟨hx, hb, hr, hml, hown, hts0, hX, hbl, hlocks, hgv⟩ := C0
  have hts : ∀ w ∈ wsL_law, w.before #[Value.ref sb] s = true := fun w h => hts0 w (wsL_law_in w h)
  have hA : ∀ q : Nat, s.heap.size ≤ q → (fun q : Nat => s.heap.size ≤ q) q := fun _ h => h
  have hbA : ¬ (fun q : Nat => s.heap.size ≤ q) sb := Nat.not_le.mpr hbl
  intro a b cA cB n hd fm rp rq nd nw bf su sI sO ct nwM bfM db sg wt ne dn C hK1 hK2 H locs hP1 hP2 hD hS ls hl
  obtain ⟨v, hc, hm⟩ := sp_count l dC dI a b cA cB dn C (xs (i + 1)) (xs (i + 2)) (xs (i + 3))
  refine lv_aload_n hx hb dL_law_304 rfl (lv_at hl 1 rfl) ?_
  refine lv_aload_n hx hb dL_law_305 rfl (lv_at hl 0 rfl) ?_
  refine lv_iload_n hx hb dL_law_306 rfl (lv_at hl 3 rfl) ?_
  refine lv_iconst (v := nI 1) hx hb dL_law_307 (by decide) ?_
  refine hx_iadd hx hb dL_law_308 ?_
  refine hx_sld hx hb hX hbl hbA hS (by omega) (by omega) dL_law_309 ?_
  refine lv_aload_n hx hb dL_law_310 rfl (lv_at hl 0 rfl) ?_
  refine lv_iload_n hx hb dL_law_311 rfl (lv_at hl 3 rfl) ?_
  refine lv_iconst (v := nI 2) hx hb dL_law_312 (by decide) ?_
  refine hx_iadd hx hb dL_law_313 ?_
  refine hx_sld hx hb hX hbl hbA hS (by omega) (by omega) dL_law_314 ?_
  refine lv_aload_n hx hb dL_law_315 rfl (lv_at hl 0 rfl) ?_
  refine lv_iload_n hx hb dL_law_316 rfl (lv_at hl 3 rfl) ?_
  refine lv_iconst (v := nI 3) hx hb dL_law_317 (by decide) ?_
  refine hx_iadd hx hb dL_law_318 ?_
  refine hx_sld hx hb hX hbl hbA hS (by omega) (by omega) dL_law_319 ?_
  refine hx_read (va_runV (As := [.int (xs (i + 1)), .int (xs (i + 2)), .int (xs (i + 3))]) (rest := []) ⟨hx, hb, hml, hown, hts⟩ hc (cwV 3 hts gL_law_X2_count rfl rfl rfl (by decide +kernel) ⟨Nat.le_of_ble_eq_true rfl, Nat.le_of_ble_eq_true rfl⟩) (rd_V nstW_ok hP1 hK1 hN 0 rfl rfl _) rfl rfl hl.1 rfl (lv_room (Nat.le_of_ble_eq_true rfl)) dL_law_320 ⟨Nat.le_of_ble_eq_true rfl, Nat.le_of_ble_eq_true rfl⟩) ?_
  refine lv_aload_n hx hb dL_law_323 rfl (lv_at hl 2 rfl) ?_
  refine lv_aload_n hx hb dL_law_324 rfl (lv_at hl 0 rfl) ?_
  refine lv_iload_n hx hb dL_law_325 rfl (lv_at hl 3 rfl) ?_
  refine lv_iconst (v := nI 1) hx hb dL_law_326 (by decide) ?_
  refine hx_iadd hx hb dL_law_327 ?_
  refine hx_sld hx hb hX hbl hbA hS (by omega) (by omega) dL_law_328 ?_
  refine lv_aload_n hx hb dL_law_329 rfl (lv_at hl 0 rfl) ?_
  refine lv_iload_n hx hb dL_law_330 rfl (lv_at hl 3 rfl) ?_
  refine lv_iconst (v := nI 2) hx hb dL_law_331 (by decide) ?_
  refine hx_iadd hx hb dL_law_332 ?_
  refine hx_sld hx hb hX hbl hbA hS (by omega) (by omega) dL_law_333 ?_
  refine lv_aload_n hx hb dL_law_334 rfl (lv_at hl 0 rfl) ?_
  refine lv_iload_n hx hb dL_law_335 rfl (lv_at hl 3 rfl) ?_
  refine lv_iconst (v := nI 3) hx hb dL_law_336 (by decide) ?_
  refine hx_iadd hx hb dL_law_337 ?_
  refine hx_sld hx hb hX hbl hbA hS (by omega) (by omega) dL_law_338 ?_
  refine hx_read (va_runV (As := [.int (xs (i + 1)), .int (xs (i + 2)), .int (xs (i + 3))]) (rest := [.int (v)]) ⟨hx, hb, hml, hown, hts⟩ hm (cwV 3 hts gL_law_X3_count rfl rfl rfl (by decide +kernel) ⟨Nat.le_of_ble_eq_true rfl, Nat.le_of_ble_eq_true rfl⟩) (rd_V nstW_ok hP2 hK2 hN 0 rfl rfl _) rfl rfl hl.1 rfl (lv_room (Nat.le_of_ble_eq_true rfl)) dL_law_339 ⟨Nat.le_of_ble_eq_true rfl, Nat.le_of_ble_eq_true rfl⟩) ?_
  refine lv_icmp_eq (tgt := 515) hx hb dL_law_342 (by decide) (fun _ => ?_) (fun c_8 => absurd rfl c_8)
  exact kx a b cA cB n hd fm rp rq nd nw bf su sI sO ct nwM bfM db sg wt ne dn C hK1 hK2 H locs hP1 hP2 hD hS ls hl
set_option maxHeartbeats 4000000 in
set_option maxRecDepth 100000 in
theorem law_size {p : Program} {l : Launch} {e : Env} {s : State} {m : MethodId} {below : List Frame} {meth : Method} {c : Code} {dC : Nat → ClassId} {dI : Nat → Nat → Nat} {sb Ls : Nat} {xs : Nat → Int32} (hL : Ls ≤ 2560) (C0 : lw_At p s m meth c sb Ls xs) (hN : ∀ w ∈ nstW, va_Nw w s) {i : Nat} (h5 : i + 5 ≤ Ls) (kx : ∀ (a b : Nat → Nat) (cA cB : Nat → ClassId) (n : Nat) (hd fm rp rq : Nat → Nat) (nd nw bf su sI sO ct nwM bfM db sg wt : Nat → Int32) (ne dn : Nat → Bool), CI n hd fm rp rq nd nw bf su sI sO ct nwM bfM db sg wt ne → va_K (dC, dI) vwCl (vkT cA) s → va_K (dC, dI) vwCl (mdT cB) s → ∀ (H : Heap) (locs : List Loc), va_P (dC, dI) vwCl (vkW a cA n hd fm rp rq nd nw bf su sI sO ct) H → va_P (dC, dI) vwCl (mdW b cB n hd fm rp rq nwM bfM db sg wt ne dn) H → va_D (fun q : Nat => s.heap.size ≤ q) (vkW a cA n hd fm rp rq nd nw bf su sI sO ct ++ mdW b cB n hd fm rp rq nwM bfM db sg wt ne dn) → va_S (fun q : Nat => s.heap.size ≤ q) s.heap H locs → ∀ ls : Array Slot, lv_has ls 4 [(0, .ref sb), (1, .ref (a 0)), (2, .ref (b 0)), (3, .int (nI i))] → W p l e room_1 s m #[Value.ref sb] below meth c H locs 34 422 (lw_Z below #[Value.ref sb] s) (F0 m 515 ls [])) : ∀ (a b : Nat → Nat) (cA cB : Nat → ClassId) (n : Nat) (hd fm rp rq : Nat → Nat) (nd nw bf su sI sO ct nwM bfM db sg wt : Nat → Int32) (ne dn : Nat → Bool), CI n hd fm rp rq nd nw bf su sI sO ct nwM bfM db sg wt ne → va_K (dC, dI) vwCl (vkT cA) s → va_K (dC, dI) vwCl (mdT cB) s → ∀ (H : Heap) (locs : List Loc), va_P (dC, dI) vwCl (vkW a cA n hd fm rp rq nd nw bf su sI sO ct) H → va_P (dC, dI) vwCl (mdW b cB n hd fm rp rq nwM bfM db sg wt ne dn) H → va_D (fun q : Nat => s.heap.size ≤ q) (vkW a cA n hd fm rp rq nd nw bf su sI sO ct ++ mdW b cB n hd fm rp rq nwM bfM db sg wt ne dn) → va_S (fun q : Nat => s.heap.size ≤ q) s.heap H locs → ∀ ls : Array Slot, lv_has ls 4 [(0, .ref sb), (1, .ref (a 0)), (2, .ref (b 0)), (3, .int (nI i))] → W p l e room_1 s m #[Value.ref sb] below meth c H locs 34 422 (lw_Z below #[Value.ref sb] s) (F0 m 347 ls []) := by
  obtain ⟨hx, hb, hr, hml, hown, hts0, hX, hbl, hlocks, hgv⟩ := C0
  have hts : ∀ w ∈ wsL_law, w.before #[Value.ref sb] s = true := fun w h => hts0 w (wsL_law_in w h)
  have hA : ∀ q : Nat, s.heap.size ≤ q → (fun q : Nat => s.heap.size ≤ q) q := fun _ h => h
  have hbA : ¬ (fun q : Nat => s.heap.size ≤ q) sb := Nat.not_le.mpr hbl
  intro a b cA cB n hd fm rp rq nd nw bf su sI sO ct nwM bfM db sg wt ne dn C hK1 hK2 H locs hP1 hP2 hD hS ls hl
  obtain ⟨v, hc, hm⟩ := sp_size l dC dI a b cA cB dn C (xs (i + 1))
  refine lv_aload_n hx hb dL_law_347 rfl (lv_at hl 1 rfl) ?_
  refine lv_aload_n hx hb dL_law_348 rfl (lv_at hl 0 rfl) ?_
  refine lv_iload_n hx hb dL_law_349 rfl (lv_at hl 3 rfl) ?_
  refine lv_iconst (v := nI 1) hx hb dL_law_350 (by decide) ?_
  refine hx_iadd hx hb dL_law_351 ?_
  refine hx_sld hx hb hX hbl hbA hS (by omega) (by omega) dL_law_352 ?_
  refine hx_read (va_runV (As := [.int (xs (i + 1))]) (rest := []) ⟨hx, hb, hml, hown, hts⟩ hc (cwV 1 hts gL_law_X2_size rfl rfl rfl (by decide +kernel) ⟨Nat.le_of_ble_eq_true rfl, Nat.le_of_ble_eq_true rfl⟩) (rd_V nstW_ok hP1 hK1 hN 0 rfl rfl _) rfl rfl hl.1 rfl (lv_room (Nat.le_of_ble_eq_true rfl)) dL_law_353 ⟨Nat.le_of_ble_eq_true rfl, Nat.le_of_ble_eq_true rfl⟩) ?_
  refine lv_aload_n hx hb dL_law_356 rfl (lv_at hl 2 rfl) ?_
  refine lv_aload_n hx hb dL_law_357 rfl (lv_at hl 0 rfl) ?_
  refine lv_iload_n hx hb dL_law_358 rfl (lv_at hl 3 rfl) ?_
  refine lv_iconst (v := nI 1) hx hb dL_law_359 (by decide) ?_
  refine hx_iadd hx hb dL_law_360 ?_
  refine hx_sld hx hb hX hbl hbA hS (by omega) (by omega) dL_law_361 ?_
  refine hx_read (va_runV (As := [.int (xs (i + 1))]) (rest := [.int (v)]) ⟨hx, hb, hml, hown, hts⟩ hm (cwV 1 hts gL_law_X3_size rfl rfl rfl (by decide +kernel) ⟨Nat.le_of_ble_eq_true rfl, Nat.le_of_ble_eq_true rfl⟩) (rd_V nstW_ok hP2 hK2 hN 0 rfl rfl _) rfl rfl hl.1 rfl (lv_room (Nat.le_of_ble_eq_true rfl)) dL_law_362 ⟨Nat.le_of_ble_eq_true rfl, Nat.le_of_ble_eq_true rfl⟩) ?_
  refine lv_icmp_eq (tgt := 515) hx hb dL_law_365 (by decide) (fun _ => ?_) (fun c_8 => absurd rfl c_8)
  exact kx a b cA cB n hd fm rp rq nd nw bf su sI sO ct nwM bfM db sg wt ne dn C hK1 hK2 H locs hP1 hP2 hD hS ls hl
set_option maxHeartbeats 4000000 in
set_option maxRecDepth 100000 in
theorem law_recursive {p : Program} {l : Launch} {e : Env} {s : State} {m : MethodId} {below : List Frame} {meth : Method} {c : Code} {dC : Nat → ClassId} {dI : Nat → Nat → Nat} {sb Ls : Nat} {xs : Nat → Int32} (hL : Ls ≤ 2560) (C0 : lw_At p s m meth c sb Ls xs) (hN : ∀ w ∈ nstW, va_Nw w s) {i : Nat} (h5 : i + 5 ≤ Ls) (kx : ∀ (a b : Nat → Nat) (cA cB : Nat → ClassId) (n : Nat) (hd fm rp rq : Nat → Nat) (nd nw bf su sI sO ct nwM bfM db sg wt : Nat → Int32) (ne dn : Nat → Bool), CI n hd fm rp rq nd nw bf su sI sO ct nwM bfM db sg wt ne → va_K (dC, dI) vwCl (vkT cA) s → va_K (dC, dI) vwCl (mdT cB) s → ∀ (H : Heap) (locs : List Loc), va_P (dC, dI) vwCl (vkW a cA n hd fm rp rq nd nw bf su sI sO ct) H → va_P (dC, dI) vwCl (mdW b cB n hd fm rp rq nwM bfM db sg wt ne dn) H → va_D (fun q : Nat => s.heap.size ≤ q) (vkW a cA n hd fm rp rq nd nw bf su sI sO ct ++ mdW b cB n hd fm rp rq nwM bfM db sg wt ne dn) → va_S (fun q : Nat => s.heap.size ≤ q) s.heap H locs → ∀ ls : Array Slot, lv_has ls 4 [(0, .ref sb), (1, .ref (a 0)), (2, .ref (b 0)), (3, .int (nI i))] → W p l e room_1 s m #[Value.ref sb] below meth c H locs 34 422 (lw_Z below #[Value.ref sb] s) (F0 m 515 ls [])) : ∀ (a b : Nat → Nat) (cA cB : Nat → ClassId) (n : Nat) (hd fm rp rq : Nat → Nat) (nd nw bf su sI sO ct nwM bfM db sg wt : Nat → Int32) (ne dn : Nat → Bool), CI n hd fm rp rq nd nw bf su sI sO ct nwM bfM db sg wt ne → va_K (dC, dI) vwCl (vkT cA) s → va_K (dC, dI) vwCl (mdT cB) s → ∀ (H : Heap) (locs : List Loc), va_P (dC, dI) vwCl (vkW a cA n hd fm rp rq nd nw bf su sI sO ct) H → va_P (dC, dI) vwCl (mdW b cB n hd fm rp rq nwM bfM db sg wt ne dn) H → va_D (fun q : Nat => s.heap.size ≤ q) (vkW a cA n hd fm rp rq nd nw bf su sI sO ct ++ mdW b cB n hd fm rp rq nwM bfM db sg wt ne dn) → va_S (fun q : Nat => s.heap.size ≤ q) s.heap H locs → ∀ ls : Array Slot, lv_has ls 4 [(0, .ref sb), (1, .ref (a 0)), (2, .ref (b 0)), (3, .int (nI i))] → W p l e room_1 s m #[Value.ref sb] below meth c H locs 34 422 (lw_Z below #[Value.ref sb] s) (F0 m 370 ls []) := by
  obtain ⟨hx, hb, hr, hml, hown, hts0, hX, hbl, hlocks, hgv⟩ := C0
  have hts : ∀ w ∈ wsL_law, w.before #[Value.ref sb] s = true := fun w h => hts0 w (wsL_law_in w h)
  have hA : ∀ q : Nat, s.heap.size ≤ q → (fun q : Nat => s.heap.size ≤ q) q := fun _ h => h
  have hbA : ¬ (fun q : Nat => s.heap.size ≤ q) sb := Nat.not_le.mpr hbl
  intro a b cA cB n hd fm rp rq nd nw bf su sI sO ct nwM bfM db sg wt ne dn C hK1 hK2 H locs hP1 hP2 hD hS ls hl
  obtain ⟨v, hc, hm⟩ := sp_recursive l dC dI a b cA cB dn C (xs (i + 1))
  refine lv_aload_n hx hb dL_law_370 rfl (lv_at hl 1 rfl) ?_
  refine lv_aload_n hx hb dL_law_371 rfl (lv_at hl 0 rfl) ?_
  refine lv_iload_n hx hb dL_law_372 rfl (lv_at hl 3 rfl) ?_
  refine lv_iconst (v := nI 1) hx hb dL_law_373 (by decide) ?_
  refine hx_iadd hx hb dL_law_374 ?_
  refine hx_sld hx hb hX hbl hbA hS (by omega) (by omega) dL_law_375 ?_
  refine hx_read (va_runV (As := [.int (xs (i + 1))]) (rest := []) ⟨hx, hb, hml, hown, hts⟩ hc (cwV 1 hts gL_law_X2_recursive rfl rfl rfl (by decide +kernel) ⟨Nat.le_of_ble_eq_true rfl, Nat.le_of_ble_eq_true rfl⟩) (rd_V nstW_ok hP1 hK1 hN 0 rfl rfl _) rfl rfl hl.1 rfl (lv_room (Nat.le_of_ble_eq_true rfl)) dL_law_376 ⟨Nat.le_of_ble_eq_true rfl, Nat.le_of_ble_eq_true rfl⟩) ?_
  refine lv_aload_n hx hb dL_law_379 rfl (lv_at hl 2 rfl) ?_
  refine lv_aload_n hx hb dL_law_380 rfl (lv_at hl 0 rfl) ?_
  refine lv_iload_n hx hb dL_law_381 rfl (lv_at hl 3 rfl) ?_
  refine lv_iconst (v := nI 1) hx hb dL_law_382 (by decide) ?_
  refine hx_iadd hx hb dL_law_383 ?_
  refine hx_sld hx hb hX hbl hbA hS (by omega) (by omega) dL_law_384 ?_
  refine hx_read (va_runV (As := [.int (xs (i + 1))]) (rest := [.int (v)]) ⟨hx, hb, hml, hown, hts⟩ hm (cwV 1 hts gL_law_X3_recursive rfl rfl rfl (by decide +kernel) ⟨Nat.le_of_ble_eq_true rfl, Nat.le_of_ble_eq_true rfl⟩) (rd_V nstW_ok hP2 hK2 hN 0 rfl rfl _) rfl rfl hl.1 rfl (lv_room (Nat.le_of_ble_eq_true rfl)) dL_law_385 ⟨Nat.le_of_ble_eq_true rfl, Nat.le_of_ble_eq_true rfl⟩) ?_
  refine lv_icmp_eq (tgt := 515) hx hb dL_law_388 (by decide) (fun _ => ?_) (fun c_8 => absurd rfl c_8)
  exact kx a b cA cB n hd fm rp rq nd nw bf su sI sO ct nwM bfM db sg wt ne dn C hK1 hK2 H locs hP1 hP2 hD hS ls hl
set_option maxHeartbeats 4000000 in
set_option maxRecDepth 100000 in
theorem law_needs {p : Program} {l : Launch} {e : Env} {s : State} {m : MethodId} {below : List Frame} {meth : Method} {c : Code} {dC : Nat → ClassId} {dI : Nat → Nat → Nat} {sb Ls : Nat} {xs : Nat → Int32} (hL : Ls ≤ 2560) (C0 : lw_At p s m meth c sb Ls xs) (hN : ∀ w ∈ nstW, va_Nw w s) {i : Nat} (h5 : i + 5 ≤ Ls) (kx : ∀ (a b : Nat → Nat) (cA cB : Nat → ClassId) (n : Nat) (hd fm rp rq : Nat → Nat) (nd nw bf su sI sO ct nwM bfM db sg wt : Nat → Int32) (ne dn : Nat → Bool), CI n hd fm rp rq nd nw bf su sI sO ct nwM bfM db sg wt ne → va_K (dC, dI) vwCl (vkT cA) s → va_K (dC, dI) vwCl (mdT cB) s → ∀ (H : Heap) (locs : List Loc), va_P (dC, dI) vwCl (vkW a cA n hd fm rp rq nd nw bf su sI sO ct) H → va_P (dC, dI) vwCl (mdW b cB n hd fm rp rq nwM bfM db sg wt ne dn) H → va_D (fun q : Nat => s.heap.size ≤ q) (vkW a cA n hd fm rp rq nd nw bf su sI sO ct ++ mdW b cB n hd fm rp rq nwM bfM db sg wt ne dn) → va_S (fun q : Nat => s.heap.size ≤ q) s.heap H locs → ∀ ls : Array Slot, lv_has ls 4 [(0, .ref sb), (1, .ref (a 0)), (2, .ref (b 0)), (3, .int (nI i))] → W p l e room_1 s m #[Value.ref sb] below meth c H locs 34 422 (lw_Z below #[Value.ref sb] s) (F0 m 515 ls [])) : ∀ (a b : Nat → Nat) (cA cB : Nat → ClassId) (n : Nat) (hd fm rp rq : Nat → Nat) (nd nw bf su sI sO ct nwM bfM db sg wt : Nat → Int32) (ne dn : Nat → Bool), CI n hd fm rp rq nd nw bf su sI sO ct nwM bfM db sg wt ne → va_K (dC, dI) vwCl (vkT cA) s → va_K (dC, dI) vwCl (mdT cB) s → ∀ (H : Heap) (locs : List Loc), va_P (dC, dI) vwCl (vkW a cA n hd fm rp rq nd nw bf su sI sO ct) H → va_P (dC, dI) vwCl (mdW b cB n hd fm rp rq nwM bfM db sg wt ne dn) H → va_D (fun q : Nat => s.heap.size ≤ q) (vkW a cA n hd fm rp rq nd nw bf su sI sO ct ++ mdW b cB n hd fm rp rq nwM bfM db sg wt ne dn) → va_S (fun q : Nat => s.heap.size ≤ q) s.heap H locs → ∀ ls : Array Slot, lv_has ls 4 [(0, .ref sb), (1, .ref (a 0)), (2, .ref (b 0)), (3, .int (nI i))] → W p l e room_1 s m #[Value.ref sb] below meth c H locs 34 422 (lw_Z below #[Value.ref sb] s) (F0 m 393 ls []) := by
  obtain ⟨hx, hb, hr, hml, hown, hts0, hX, hbl, hlocks, hgv⟩ := C0
  have hts : ∀ w ∈ wsL_law, w.before #[Value.ref sb] s = true := fun w h => hts0 w (wsL_law_in w h)
  have hA : ∀ q : Nat, s.heap.size ≤ q → (fun q : Nat => s.heap.size ≤ q) q := fun _ h => h
  have hbA : ¬ (fun q : Nat => s.heap.size ≤ q) sb := Nat.not_le.mpr hbl
  intro a b cA cB n hd fm rp rq nd nw bf su sI sO ct nwM bfM db sg wt ne dn C hK1 hK2 H locs hP1 hP2 hD hS ls hl
  obtain ⟨v, hc, hm⟩ := sp_needs l dC dI a b cA cB dn C (xs (i + 1)) (xs (i + 2))
  refine lv_aload_n hx hb dL_law_393 rfl (lv_at hl 1 rfl) ?_
  refine lv_aload_n hx hb dL_law_394 rfl (lv_at hl 0 rfl) ?_
  refine lv_iload_n hx hb dL_law_395 rfl (lv_at hl 3 rfl) ?_
  refine lv_iconst (v := nI 1) hx hb dL_law_396 (by decide) ?_
  refine hx_iadd hx hb dL_law_397 ?_
  refine hx_sld hx hb hX hbl hbA hS (by omega) (by omega) dL_law_398 ?_
  refine lv_aload_n hx hb dL_law_399 rfl (lv_at hl 0 rfl) ?_
  refine lv_iload_n hx hb dL_law_400 rfl (lv_at hl 3 rfl) ?_
  refine lv_iconst (v := nI 2) hx hb dL_law_401 (by decide) ?_
  refine hx_iadd hx hb dL_law_402 ?_
  refine hx_sld hx hb hX hbl hbA hS (by omega) (by omega) dL_law_403 ?_
  refine hx_read (va_runV (As := [.int (xs (i + 1)), .int (xs (i + 2))]) (rest := []) ⟨hx, hb, hml, hown, hts⟩ hc (cwV 2 hts gL_law_X2_needs rfl rfl rfl (by decide +kernel) ⟨Nat.le_of_ble_eq_true rfl, Nat.le_of_ble_eq_true rfl⟩) (rd_V nstW_ok hP1 hK1 hN 0 rfl rfl _) rfl rfl hl.1 rfl (lv_room (Nat.le_of_ble_eq_true rfl)) dL_law_404 ⟨Nat.le_of_ble_eq_true rfl, Nat.le_of_ble_eq_true rfl⟩) ?_
  refine lv_aload_n hx hb dL_law_407 rfl (lv_at hl 2 rfl) ?_
  refine lv_aload_n hx hb dL_law_408 rfl (lv_at hl 0 rfl) ?_
  refine lv_iload_n hx hb dL_law_409 rfl (lv_at hl 3 rfl) ?_
  refine lv_iconst (v := nI 1) hx hb dL_law_410 (by decide) ?_
  refine hx_iadd hx hb dL_law_411 ?_
  refine hx_sld hx hb hX hbl hbA hS (by omega) (by omega) dL_law_412 ?_
  refine lv_aload_n hx hb dL_law_413 rfl (lv_at hl 0 rfl) ?_
  refine lv_iload_n hx hb dL_law_414 rfl (lv_at hl 3 rfl) ?_
  refine lv_iconst (v := nI 2) hx hb dL_law_415 (by decide) ?_
  refine hx_iadd hx hb dL_law_416 ?_
  refine hx_sld hx hb hX hbl hbA hS (by omega) (by omega) dL_law_417 ?_
  refine hx_read (va_runV (As := [.int (xs (i + 1)), .int (xs (i + 2))]) (rest := [.int (v)]) ⟨hx, hb, hml, hown, hts⟩ hm (cwV 2 hts gL_law_X3_needs rfl rfl rfl (by decide +kernel) ⟨Nat.le_of_ble_eq_true rfl, Nat.le_of_ble_eq_true rfl⟩) (rd_V nstW_ok hP2 hK2 hN 0 rfl rfl _) rfl rfl hl.1 rfl (lv_room (Nat.le_of_ble_eq_true rfl)) dL_law_418 ⟨Nat.le_of_ble_eq_true rfl, Nat.le_of_ble_eq_true rfl⟩) ?_
  refine lv_icmp_eq (tgt := 515) hx hb dL_law_421 (by decide) (fun _ => ?_) (fun c_8 => absurd rfl c_8)
  exact kx a b cA cB n hd fm rp rq nd nw bf su sI sO ct nwM bfM db sg wt ne dn C hK1 hK2 H locs hP1 hP2 hD hS ls hl
set_option maxHeartbeats 4000000 in
set_option maxRecDepth 100000 in
theorem law_rules {p : Program} {l : Launch} {e : Env} {s : State} {m : MethodId} {below : List Frame} {meth : Method} {c : Code} {dC : Nat → ClassId} {dI : Nat → Nat → Nat} {sb Ls : Nat} {xs : Nat → Int32} (hL : Ls ≤ 2560) (C0 : lw_At p s m meth c sb Ls xs) (hN : ∀ w ∈ nstW, va_Nw w s) {i : Nat} (h5 : i + 5 ≤ Ls) (kx : ∀ (a b : Nat → Nat) (cA cB : Nat → ClassId) (n : Nat) (hd fm rp rq : Nat → Nat) (nd nw bf su sI sO ct nwM bfM db sg wt : Nat → Int32) (ne dn : Nat → Bool), CI n hd fm rp rq nd nw bf su sI sO ct nwM bfM db sg wt ne → va_K (dC, dI) vwCl (vkT cA) s → va_K (dC, dI) vwCl (mdT cB) s → ∀ (H : Heap) (locs : List Loc), va_P (dC, dI) vwCl (vkW a cA n hd fm rp rq nd nw bf su sI sO ct) H → va_P (dC, dI) vwCl (mdW b cB n hd fm rp rq nwM bfM db sg wt ne dn) H → va_D (fun q : Nat => s.heap.size ≤ q) (vkW a cA n hd fm rp rq nd nw bf su sI sO ct ++ mdW b cB n hd fm rp rq nwM bfM db sg wt ne dn) → va_S (fun q : Nat => s.heap.size ≤ q) s.heap H locs → ∀ ls : Array Slot, lv_has ls 4 [(0, .ref sb), (1, .ref (a 0)), (2, .ref (b 0)), (3, .int (nI i))] → W p l e room_1 s m #[Value.ref sb] below meth c H locs 34 422 (lw_Z below #[Value.ref sb] s) (F0 m 515 ls [])) : ∀ (a b : Nat → Nat) (cA cB : Nat → ClassId) (n : Nat) (hd fm rp rq : Nat → Nat) (nd nw bf su sI sO ct nwM bfM db sg wt : Nat → Int32) (ne dn : Nat → Bool), CI n hd fm rp rq nd nw bf su sI sO ct nwM bfM db sg wt ne → va_K (dC, dI) vwCl (vkT cA) s → va_K (dC, dI) vwCl (mdT cB) s → ∀ (H : Heap) (locs : List Loc), va_P (dC, dI) vwCl (vkW a cA n hd fm rp rq nd nw bf su sI sO ct) H → va_P (dC, dI) vwCl (mdW b cB n hd fm rp rq nwM bfM db sg wt ne dn) H → va_D (fun q : Nat => s.heap.size ≤ q) (vkW a cA n hd fm rp rq nd nw bf su sI sO ct ++ mdW b cB n hd fm rp rq nwM bfM db sg wt ne dn) → va_S (fun q : Nat => s.heap.size ≤ q) s.heap H locs → ∀ ls : Array Slot, lv_has ls 4 [(0, .ref sb), (1, .ref (a 0)), (2, .ref (b 0)), (3, .int (nI i))] → W p l e room_1 s m #[Value.ref sb] below meth c H locs 34 422 (lw_Z below #[Value.ref sb] s) (F0 m 426 ls []) := by
  obtain ⟨hx, hb, hr, hml, hown, hts0, hX, hbl, hlocks, hgv⟩ := C0
  have hts : ∀ w ∈ wsL_law, w.before #[Value.ref sb] s = true := fun w h => hts0 w (wsL_law_in w h)
  have hA : ∀ q : Nat, s.heap.size ≤ q → (fun q : Nat => s.heap.size ≤ q) q := fun _ h => h
  have hbA : ¬ (fun q : Nat => s.heap.size ≤ q) sb := Nat.not_le.mpr hbl
  intro a b cA cB n hd fm rp rq nd nw bf su sI sO ct nwM bfM db sg wt ne dn C hK1 hK2 H locs hP1 hP2 hD hS ls hl
  obtain ⟨v, hc, hm⟩ := sp_rules l dC dI a b cA cB dn C 
  refine lv_aload_n hx hb dL_law_426 rfl (lv_at hl 1 rfl) ?_
  refine hx_read (va_runV (As := []) (rest := []) ⟨hx, hb, hml, hown, hts⟩ hc (cwV 0 hts gL_law_X2_rules rfl rfl rfl (by decide +kernel) ⟨Nat.le_of_ble_eq_true rfl, Nat.le_of_ble_eq_true rfl⟩) (rd_V nstW_ok hP1 hK1 hN 0 rfl rfl _) rfl rfl hl.1 rfl (lv_room (Nat.le_of_ble_eq_true rfl)) dL_law_427 ⟨Nat.le_of_ble_eq_true rfl, Nat.le_of_ble_eq_true rfl⟩) ?_
  refine lv_aload_n hx hb dL_law_430 rfl (lv_at hl 2 rfl) ?_
  refine hx_read (va_runV (As := []) (rest := [.int (v)]) ⟨hx, hb, hml, hown, hts⟩ hm (cwV 0 hts gL_law_X3_rules rfl rfl rfl (by decide +kernel) ⟨Nat.le_of_ble_eq_true rfl, Nat.le_of_ble_eq_true rfl⟩) (rd_V nstW_ok hP2 hK2 hN 0 rfl rfl _) rfl rfl hl.1 rfl (lv_room (Nat.le_of_ble_eq_true rfl)) dL_law_431 ⟨Nat.le_of_ble_eq_true rfl, Nat.le_of_ble_eq_true rfl⟩) ?_
  refine lv_icmp_eq (tgt := 515) hx hb dL_law_434 (by decide) (fun _ => ?_) (fun c_8 => absurd rfl c_8)
  exact kx a b cA cB n hd fm rp rq nd nw bf su sI sO ct nwM bfM db sg wt ne dn C hK1 hK2 H locs hP1 hP2 hD hS ls hl
set_option maxHeartbeats 4000000 in
set_option maxRecDepth 100000 in
theorem law_changed {p : Program} {l : Launch} {e : Env} {s : State} {m : MethodId} {below : List Frame} {meth : Method} {c : Code} {dC : Nat → ClassId} {dI : Nat → Nat → Nat} {sb Ls : Nat} {xs : Nat → Int32} (hL : Ls ≤ 2560) (C0 : lw_At p s m meth c sb Ls xs) (hN : ∀ w ∈ nstW, va_Nw w s) {i : Nat} (h5 : i + 5 ≤ Ls) (kx : ∀ (a b : Nat → Nat) (cA cB : Nat → ClassId) (n : Nat) (hd fm rp rq : Nat → Nat) (nd nw bf su sI sO ct nwM bfM db sg wt : Nat → Int32) (ne dn : Nat → Bool), CI n hd fm rp rq nd nw bf su sI sO ct nwM bfM db sg wt ne → va_K (dC, dI) vwCl (vkT cA) s → va_K (dC, dI) vwCl (mdT cB) s → ∀ (H : Heap) (locs : List Loc), va_P (dC, dI) vwCl (vkW a cA n hd fm rp rq nd nw bf su sI sO ct) H → va_P (dC, dI) vwCl (mdW b cB n hd fm rp rq nwM bfM db sg wt ne dn) H → va_D (fun q : Nat => s.heap.size ≤ q) (vkW a cA n hd fm rp rq nd nw bf su sI sO ct ++ mdW b cB n hd fm rp rq nwM bfM db sg wt ne dn) → va_S (fun q : Nat => s.heap.size ≤ q) s.heap H locs → ∀ ls : Array Slot, lv_has ls 4 [(0, .ref sb), (1, .ref (a 0)), (2, .ref (b 0)), (3, .int (nI i))] → W p l e room_1 s m #[Value.ref sb] below meth c H locs 34 422 (lw_Z below #[Value.ref sb] s) (F0 m 515 ls [])) : ∀ (a b : Nat → Nat) (cA cB : Nat → ClassId) (n : Nat) (hd fm rp rq : Nat → Nat) (nd nw bf su sI sO ct nwM bfM db sg wt : Nat → Int32) (ne dn : Nat → Bool), CI n hd fm rp rq nd nw bf su sI sO ct nwM bfM db sg wt ne → va_K (dC, dI) vwCl (vkT cA) s → va_K (dC, dI) vwCl (mdT cB) s → ∀ (H : Heap) (locs : List Loc), va_P (dC, dI) vwCl (vkW a cA n hd fm rp rq nd nw bf su sI sO ct) H → va_P (dC, dI) vwCl (mdW b cB n hd fm rp rq nwM bfM db sg wt ne dn) H → va_D (fun q : Nat => s.heap.size ≤ q) (vkW a cA n hd fm rp rq nd nw bf su sI sO ct ++ mdW b cB n hd fm rp rq nwM bfM db sg wt ne dn) → va_S (fun q : Nat => s.heap.size ≤ q) s.heap H locs → ∀ ls : Array Slot, lv_has ls 4 [(0, .ref sb), (1, .ref (a 0)), (2, .ref (b 0)), (3, .int (nI i))] → W p l e room_1 s m #[Value.ref sb] below meth c H locs 34 422 (lw_Z below #[Value.ref sb] s) (F0 m 439 ls []) := by
  obtain ⟨hx, hb, hr, hml, hown, hts0, hX, hbl, hlocks, hgv⟩ := C0
  have hts : ∀ w ∈ wsL_law, w.before #[Value.ref sb] s = true := fun w h => hts0 w (wsL_law_in w h)
  have hA : ∀ q : Nat, s.heap.size ≤ q → (fun q : Nat => s.heap.size ≤ q) q := fun _ h => h
  have hbA : ¬ (fun q : Nat => s.heap.size ≤ q) sb := Nat.not_le.mpr hbl
  intro a b cA cB n hd fm rp rq nd nw bf su sI sO ct nwM bfM db sg wt ne dn C hK1 hK2 H locs hP1 hP2 hD hS ls hl
  obtain ⟨v, hc, hm⟩ := sp_changed l dC dI a b cA cB dn C (xs (i + 1)) (xs (i + 2))
  refine lv_aload_n hx hb dL_law_439 rfl (lv_at hl 1 rfl) ?_
  refine lv_aload_n hx hb dL_law_440 rfl (lv_at hl 0 rfl) ?_
  refine lv_iload_n hx hb dL_law_441 rfl (lv_at hl 3 rfl) ?_
  refine lv_iconst (v := nI 1) hx hb dL_law_442 (by decide) ?_
  refine hx_iadd hx hb dL_law_443 ?_
  refine hx_sld hx hb hX hbl hbA hS (by omega) (by omega) dL_law_444 ?_
  refine lv_aload_n hx hb dL_law_445 rfl (lv_at hl 0 rfl) ?_
  refine lv_iload_n hx hb dL_law_446 rfl (lv_at hl 3 rfl) ?_
  refine lv_iconst (v := nI 2) hx hb dL_law_447 (by decide) ?_
  refine hx_iadd hx hb dL_law_448 ?_
  refine hx_sld hx hb hX hbl hbA hS (by omega) (by omega) dL_law_449 ?_
  refine hx_read (va_runV (As := [.int (xs (i + 1)), .int (xs (i + 2))]) (rest := []) ⟨hx, hb, hml, hown, hts⟩ hc (cwV 2 hts gL_law_X2_changed rfl rfl rfl (by decide +kernel) ⟨Nat.le_of_ble_eq_true rfl, Nat.le_of_ble_eq_true rfl⟩) (rd_V nstW_ok hP1 hK1 hN 0 rfl rfl _) rfl rfl hl.1 rfl (lv_room (Nat.le_of_ble_eq_true rfl)) dL_law_450 ⟨Nat.le_of_ble_eq_true rfl, Nat.le_of_ble_eq_true rfl⟩) ?_
  refine lv_aload_n hx hb dL_law_453 rfl (lv_at hl 2 rfl) ?_
  refine lv_aload_n hx hb dL_law_454 rfl (lv_at hl 0 rfl) ?_
  refine lv_iload_n hx hb dL_law_455 rfl (lv_at hl 3 rfl) ?_
  refine lv_iconst (v := nI 1) hx hb dL_law_456 (by decide) ?_
  refine hx_iadd hx hb dL_law_457 ?_
  refine hx_sld hx hb hX hbl hbA hS (by omega) (by omega) dL_law_458 ?_
  refine lv_aload_n hx hb dL_law_459 rfl (lv_at hl 0 rfl) ?_
  refine lv_iload_n hx hb dL_law_460 rfl (lv_at hl 3 rfl) ?_
  refine lv_iconst (v := nI 2) hx hb dL_law_461 (by decide) ?_
  refine hx_iadd hx hb dL_law_462 ?_
  refine hx_sld hx hb hX hbl hbA hS (by omega) (by omega) dL_law_463 ?_
  refine hx_read (va_runV (As := [.int (xs (i + 1)), .int (xs (i + 2))]) (rest := [.int (v)]) ⟨hx, hb, hml, hown, hts⟩ hm (cwV 2 hts gL_law_X3_changed rfl rfl rfl (by decide +kernel) ⟨Nat.le_of_ble_eq_true rfl, Nat.le_of_ble_eq_true rfl⟩) (rd_V nstW_ok hP2 hK2 hN 0 rfl rfl _) rfl rfl hl.1 rfl (lv_room (Nat.le_of_ble_eq_true rfl)) dL_law_464 ⟨Nat.le_of_ble_eq_true rfl, Nat.le_of_ble_eq_true rfl⟩) ?_
  refine lv_icmp_eq (tgt := 515) hx hb dL_law_467 (by decide) (fun _ => ?_) (fun c_8 => absurd rfl c_8)
  exact kx a b cA cB n hd fm rp rq nd nw bf su sI sO ct nwM bfM db sg wt ne dn C hK1 hK2 H locs hP1 hP2 hD hS ls hl
set_option maxHeartbeats 4000000 in
set_option maxRecDepth 100000 in
theorem law_suspect {p : Program} {l : Launch} {e : Env} {s : State} {m : MethodId} {below : List Frame} {meth : Method} {c : Code} {dC : Nat → ClassId} {dI : Nat → Nat → Nat} {sb Ls : Nat} {xs : Nat → Int32} (hL : Ls ≤ 2560) (C0 : lw_At p s m meth c sb Ls xs) (hN : ∀ w ∈ nstW, va_Nw w s) {i : Nat} (h5 : i + 5 ≤ Ls) (kx : ∀ (a b : Nat → Nat) (cA cB : Nat → ClassId) (n : Nat) (hd fm rp rq : Nat → Nat) (nd nw bf su sI sO ct nwM bfM db sg wt : Nat → Int32) (ne dn : Nat → Bool), CI n hd fm rp rq nd nw bf su sI sO ct nwM bfM db sg wt ne → va_K (dC, dI) vwCl (vkT cA) s → va_K (dC, dI) vwCl (mdT cB) s → ∀ (H : Heap) (locs : List Loc), va_P (dC, dI) vwCl (vkW a cA n hd fm rp rq nd nw bf su sI sO ct) H → va_P (dC, dI) vwCl (mdW b cB n hd fm rp rq nwM bfM db sg wt ne dn) H → va_D (fun q : Nat => s.heap.size ≤ q) (vkW a cA n hd fm rp rq nd nw bf su sI sO ct ++ mdW b cB n hd fm rp rq nwM bfM db sg wt ne dn) → va_S (fun q : Nat => s.heap.size ≤ q) s.heap H locs → ∀ ls : Array Slot, lv_has ls 4 [(0, .ref sb), (1, .ref (a 0)), (2, .ref (b 0)), (3, .int (nI i))] → W p l e room_1 s m #[Value.ref sb] below meth c H locs 34 422 (lw_Z below #[Value.ref sb] s) (F0 m 515 ls [])) : ∀ (a b : Nat → Nat) (cA cB : Nat → ClassId) (n : Nat) (hd fm rp rq : Nat → Nat) (nd nw bf su sI sO ct nwM bfM db sg wt : Nat → Int32) (ne dn : Nat → Bool), CI n hd fm rp rq nd nw bf su sI sO ct nwM bfM db sg wt ne → va_K (dC, dI) vwCl (vkT cA) s → va_K (dC, dI) vwCl (mdT cB) s → ∀ (H : Heap) (locs : List Loc), va_P (dC, dI) vwCl (vkW a cA n hd fm rp rq nd nw bf su sI sO ct) H → va_P (dC, dI) vwCl (mdW b cB n hd fm rp rq nwM bfM db sg wt ne dn) H → va_D (fun q : Nat => s.heap.size ≤ q) (vkW a cA n hd fm rp rq nd nw bf su sI sO ct ++ mdW b cB n hd fm rp rq nwM bfM db sg wt ne dn) → va_S (fun q : Nat => s.heap.size ≤ q) s.heap H locs → ∀ ls : Array Slot, lv_has ls 4 [(0, .ref sb), (1, .ref (a 0)), (2, .ref (b 0)), (3, .int (nI i))] → W p l e room_1 s m #[Value.ref sb] below meth c H locs 34 422 (lw_Z below #[Value.ref sb] s) (F0 m 472 ls []) := by
  obtain ⟨hx, hb, hr, hml, hown, hts0, hX, hbl, hlocks, hgv⟩ := C0
  have hts : ∀ w ∈ wsL_law, w.before #[Value.ref sb] s = true := fun w h => hts0 w (wsL_law_in w h)
  have hA : ∀ q : Nat, s.heap.size ≤ q → (fun q : Nat => s.heap.size ≤ q) q := fun _ h => h
  have hbA : ¬ (fun q : Nat => s.heap.size ≤ q) sb := Nat.not_le.mpr hbl
  intro a b cA cB n hd fm rp rq nd nw bf su sI sO ct nwM bfM db sg wt ne dn C hK1 hK2 H locs hP1 hP2 hD hS ls hl
  obtain ⟨v, hc, hm⟩ := sp_suspect l dC dI a b cA cB dn C (xs (i + 1)) (xs (i + 2)) (xs (i + 3))
  refine lv_aload_n hx hb dL_law_472 rfl (lv_at hl 1 rfl) ?_
  refine lv_aload_n hx hb dL_law_473 rfl (lv_at hl 0 rfl) ?_
  refine lv_iload_n hx hb dL_law_474 rfl (lv_at hl 3 rfl) ?_
  refine lv_iconst (v := nI 1) hx hb dL_law_475 (by decide) ?_
  refine hx_iadd hx hb dL_law_476 ?_
  refine hx_sld hx hb hX hbl hbA hS (by omega) (by omega) dL_law_477 ?_
  refine lv_aload_n hx hb dL_law_478 rfl (lv_at hl 0 rfl) ?_
  refine lv_iload_n hx hb dL_law_479 rfl (lv_at hl 3 rfl) ?_
  refine lv_iconst (v := nI 2) hx hb dL_law_480 (by decide) ?_
  refine hx_iadd hx hb dL_law_481 ?_
  refine hx_sld hx hb hX hbl hbA hS (by omega) (by omega) dL_law_482 ?_
  refine lv_aload_n hx hb dL_law_483 rfl (lv_at hl 0 rfl) ?_
  refine lv_iload_n hx hb dL_law_484 rfl (lv_at hl 3 rfl) ?_
  refine lv_iconst (v := nI 3) hx hb dL_law_485 (by decide) ?_
  refine hx_iadd hx hb dL_law_486 ?_
  refine hx_sld hx hb hX hbl hbA hS (by omega) (by omega) dL_law_487 ?_
  refine hx_read (va_runV (As := [.int (xs (i + 1)), .int (xs (i + 2)), .int (xs (i + 3))]) (rest := []) ⟨hx, hb, hml, hown, hts⟩ hc (cwV 3 hts gL_law_X2_suspect rfl rfl rfl (by decide +kernel) ⟨Nat.le_of_ble_eq_true rfl, Nat.le_of_ble_eq_true rfl⟩) (rd_V nstW_ok hP1 hK1 hN 0 rfl rfl _) rfl rfl hl.1 rfl (lv_room (Nat.le_of_ble_eq_true rfl)) dL_law_488 ⟨Nat.le_of_ble_eq_true rfl, Nat.le_of_ble_eq_true rfl⟩) ?_
  refine lv_aload_n hx hb dL_law_491 rfl (lv_at hl 2 rfl) ?_
  refine lv_aload_n hx hb dL_law_492 rfl (lv_at hl 0 rfl) ?_
  refine lv_iload_n hx hb dL_law_493 rfl (lv_at hl 3 rfl) ?_
  refine lv_iconst (v := nI 1) hx hb dL_law_494 (by decide) ?_
  refine hx_iadd hx hb dL_law_495 ?_
  refine hx_sld hx hb hX hbl hbA hS (by omega) (by omega) dL_law_496 ?_
  refine lv_aload_n hx hb dL_law_497 rfl (lv_at hl 0 rfl) ?_
  refine lv_iload_n hx hb dL_law_498 rfl (lv_at hl 3 rfl) ?_
  refine lv_iconst (v := nI 2) hx hb dL_law_499 (by decide) ?_
  refine hx_iadd hx hb dL_law_500 ?_
  refine hx_sld hx hb hX hbl hbA hS (by omega) (by omega) dL_law_501 ?_
  refine lv_aload_n hx hb dL_law_502 rfl (lv_at hl 0 rfl) ?_
  refine lv_iload_n hx hb dL_law_503 rfl (lv_at hl 3 rfl) ?_
  refine lv_iconst (v := nI 3) hx hb dL_law_504 (by decide) ?_
  refine hx_iadd hx hb dL_law_505 ?_
  refine hx_sld hx hb hX hbl hbA hS (by omega) (by omega) dL_law_506 ?_
  refine hx_read (va_runV (As := [.int (xs (i + 1)), .int (xs (i + 2)), .int (xs (i + 3))]) (rest := [.int (v)]) ⟨hx, hb, hml, hown, hts⟩ hm (cwV 3 hts gL_law_X3_suspect rfl rfl rfl (by decide +kernel) ⟨Nat.le_of_ble_eq_true rfl, Nat.le_of_ble_eq_true rfl⟩) (rd_V nstW_ok hP2 hK2 hN 0 rfl rfl _) rfl rfl hl.1 rfl (lv_room (Nat.le_of_ble_eq_true rfl)) dL_law_507 ⟨Nat.le_of_ble_eq_true rfl, Nat.le_of_ble_eq_true rfl⟩) ?_
  refine lv_icmp_eq (tgt := 515) hx hb dL_law_510 (by decide) (fun _ => ?_) (fun c_8 => absurd rfl c_8)
  exact kx a b cA cB n hd fm rp rq nd nw bf su sI sO ct nwM bfM db sg wt ne dn C hK1 hK2 H locs hP1 hP2 hD hS ls hl

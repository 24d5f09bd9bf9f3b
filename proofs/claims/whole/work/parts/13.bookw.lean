/-! the book's writing methods -/
def filF (v : Int32) : Nat → Nat → (Nat → Int32) → Nat → Int32
  | 0, _, g => g
  | n + 1, j, g => filF v n (j + 1) (upd g j v)
theorem filF_at (v : Int32) : ∀ (n j : Nat) (g : Nat → Int32) (i : Nat), filF v n j g i = if j ≤ i ∧ i < j + n then v else g i := by
  intro n
  induction n with
  | zero => intro j g i; rw [filF, if_neg (by omega)]
  | succ n ih =>
    intro j g i
    rw [filF, ih]
    unfold upd
    by_cases e : i = j
    · subst e
      rw [if_neg (by omega), if_pos rfl, if_pos (by omega)]
    · by_cases h : j + 1 ≤ i ∧ i < j + 1 + n
      · rw [if_pos h, if_pos (by omega)]
      · rw [if_neg h, if_neg e, if_neg (by omega)]
theorem filF_all (v : Int32) {k : Nat} (g : Nat → Int32) {j : Nat} (h : j < k) : filF v k 0 g j = v := by rw [filF_at, if_pos (by omega)]
def ndR (hd fm rp rq : Nat → Nat) : Nat → Nat → (Nat → Int32) → Nat → Int32
  | 0, _, f => f
  | k + 1, i, f => ndR hd fm rp rq k (i + 1) (upd f (hd i) (f (hd i) ||| bodyM (fm i) (rp i) (rq i)))
def ndV (mid : Nat) : Nat → Nat → (Nat → Int32) → Nat → Int32
  | 0, _, f => f
  | k + 1, w, f => ndV mid k (w + 1) (if bt (f w) mid = true then upd f w (f w ||| f mid) else f)
def ndM : Nat → Nat → (Nat → Int32) → Nat → Int32
  | 0, _, f => f
  | k + 1, mid, f => ndM k (mid + 1) (ndV mid 5 2 f)
def ndA (n : Nat) (hd fm rp rq : Nat → Nat) : Nat → Int32 := ndM 5 2 (ndR hd fm rp rq n 0 (fun _ => nI 0))
theorem ruOk_pred {n : Nat} {hd fm rp rq : Nat → Nat} (h : ruOk n hd fm rp rq) : ruOk (n - 1) hd fm rp rq := ⟨by have := h.1; omega, fun k hk => h.2 k (by omega)⟩
theorem ruOk_add {n : Nat} {hd fm rp rq : Nat → Nat} {vh vf vp vq : Nat} (h : ruOk n hd fm rp rq) (hn : n < 12) (hv : 2 ≤ vh ∧ vh < 7 ∧ vf ≤ 4 ∧ vp < 7 ∧ vq < 7) : ruOk (n + 1) (va_up hd n vh) (va_up fm n vf) (va_up rp n vp) (va_up rq n vq) := by
  refine ⟨by omega, fun k hk => ?_⟩
  unfold va_up
  by_cases e : k = n
  · simp only [e, ↓reduceIte]; exact hv
  · simp only [e, ↓reduceIte]; exact h.2 k (by omega)
section VP
variable {a : Nat → Nat} {cA : Nat → ClassId} {n : Nat} {hd fm rp rq : Nat → Nat} {nd nw bf su sI sO ct : Nat → Int32} {i v : Nat}
theorem vkW_p0 (hi : i < 12) : (vkW a cA n hd fm rp rq nd nw bf su sI sO ct).set (10 + i) (a (10 + i), .inr (0, ([.int (nI (hd i)), .int (nI (fm i)), .int (nI (rp i)), .int (nI (rq i))] : List Value).set 0 (.int (nI v)))) = vkW a cA n (va_up hd i v) fm rp rq nd nw bf su sI sO ct := by
  have h := vkW_set (a := a) (cA := cA) (n := n) (hd := hd) (fm := fm) (rp := rp) (rq := rq) (nd := nd) (nw := nw) (bf := bf) (su := su) (sI := sI) (sO := sO) (ct := ct) (h := v) (f := fm i) (p := rp i) (q := rq i) hi
  rw [va_up_same, va_up_same, va_up_same] at h
  exact h
theorem vkW_p1 (hi : i < 12) : (vkW a cA n hd fm rp rq nd nw bf su sI sO ct).set (10 + i) (a (10 + i), .inr (0, ([.int (nI (hd i)), .int (nI (fm i)), .int (nI (rp i)), .int (nI (rq i))] : List Value).set 1 (.int (nI v)))) = vkW a cA n hd (va_up fm i v) rp rq nd nw bf su sI sO ct := by
  have h := vkW_set (a := a) (cA := cA) (n := n) (hd := hd) (fm := fm) (rp := rp) (rq := rq) (nd := nd) (nw := nw) (bf := bf) (su := su) (sI := sI) (sO := sO) (ct := ct) (h := hd i) (f := v) (p := rp i) (q := rq i) hi
  rw [va_up_same, va_up_same, va_up_same] at h
  exact h
theorem vkW_p2 (hi : i < 12) : (vkW a cA n hd fm rp rq nd nw bf su sI sO ct).set (10 + i) (a (10 + i), .inr (0, ([.int (nI (hd i)), .int (nI (fm i)), .int (nI (rp i)), .int (nI (rq i))] : List Value).set 2 (.int (nI v)))) = vkW a cA n hd fm (va_up rp i v) rq nd nw bf su sI sO ct := by
  have h := vkW_set (a := a) (cA := cA) (n := n) (hd := hd) (fm := fm) (rp := rp) (rq := rq) (nd := nd) (nw := nw) (bf := bf) (su := su) (sI := sI) (sO := sO) (ct := ct) (h := hd i) (f := fm i) (p := v) (q := rq i) hi
  rw [va_up_same, va_up_same, va_up_same] at h
  exact h
theorem vkW_p3 (hi : i < 12) : (vkW a cA n hd fm rp rq nd nw bf su sI sO ct).set (10 + i) (a (10 + i), .inr (0, ([.int (nI (hd i)), .int (nI (fm i)), .int (nI (rp i)), .int (nI (rq i))] : List Value).set 3 (.int (nI v)))) = vkW a cA n hd fm rp (va_up rq i v) nd nw bf su sI sO ct := by
  have h := vkW_set (a := a) (cA := cA) (n := n) (hd := hd) (fm := fm) (rp := rp) (rq := rq) (nd := nd) (nw := nw) (bf := bf) (su := su) (sI := sI) (sO := sO) (ct := ct) (h := hd i) (f := fm i) (p := rp i) (q := v) hi
  rw [va_up_same, va_up_same, va_up_same] at h
  exact h
end VP
set_option maxHeartbeats 4000000 in
set_option maxRecDepth 100000 in
theorem c_J7_fill_53178 (l : Launch) (dC : Nat → ClassId) (dI : Nat → Nat → Nat) (ad : Nat) (cX : ClassId) (k : Nat) (f : Nat → Int32) (v : Int32) (hy_0 : k < 1000) : WrV l yJ7_fill_53178 wsJ7_fill_53178 ({ frames := 0, cells := 0, slots := 0, locals := 0 }) (dC, dI) vwCl (arW ad cX k f) (arW ad cX k (fun _ => v)) ([(cX, .int)]) nstW [.ref ad, .int (v)] := by
  intro sz
  refine va_MetF (cc := cJ7_fill_53178) (maxL := 4) (ret := none) (by decide) rfl ?_
  intro p e s m args below meth c s₁ B hml hv
  obtain ⟨rfl, hsz, ⟨hP, hK, hN⟩, hD0⟩ := hv
  subst hsz
  have hx := B.exec
  have hb := B.bytes
  have hr := B.returns
  have hts := atoms_spec (ws := wsJ7_fill_53178) B.pre
  have hown : s.vm.findClass RJ7 = some m.cls := findClass_of_methodNamed B.named
  have hlocks := B.notSynchronized
  obtain ⟨A, hAe⟩ : ∃ A, A = va_A (arW ad cX k f) s.heap.size := ⟨_, rfl⟩
  have hD : va_D A (arW ad cX k f) := by rw [hAe]; exact hD0.self (sz := s.heap.size)
  have hA : ∀ q : Nat, s.heap.size ≤ q → A q := fun q h => by rw [hAe]; exact Or.inr h
  have hS : va_S A s.heap s.heap [] := va_S.rf
  have hP : va_P (dC, dI) vwCl (arW ad cX k f) s.heap := hP
  have hl := lv_entry ([.ref ad, .int (v)]) (n := 4) (Nat.le_of_ble_eq_true rfl)
  rw [lg_entry_eq]
  generalize (lg_sl ([.ref ad, .int (v)]) ++ List.replicate (4 - (lg_sl ([.ref ad, .int (v)])).length) Slot.unset).toArray = ls at hl ⊢
  have hl : lv_has ls 4 [(0, .ref ad), (1, .int (v))] := hl
  refine lv_iconst (v := nI 0) hx hb dJ7_fill_53178_0 (by decide) ?_
  refine lv_istore_n (lv' := [(2, .int (nI 0)), (0, .ref ad), (1, .int (v))]) hx hb dJ7_fill_53178_1 rfl hl (by decide) rfl (fun ls hl => ?_)
  refine lv_aload_n hx hb dJ7_fill_53178_2 rfl (lv_at hl 1 rfl) ?_
  refine va_alen hx hb hK hP 0 0 (v := nI k) rfl rfl rfl dJ7_fill_53178_3 ?_
  refine lv_istore_n (lv' := [(3, .int (nI k)), (2, .int (nI 0)), (0, .ref ad), (1, .int (v))]) hx hb dJ7_fill_53178_4 rfl hl (by decide) rfl (fun ls hl => ?_)
  have L_5_0 : ∀ (nn : Nat) (j : Nat) (g : Nat → Int32), j + nn = k → ∀ (H : Heap) (locs : List Loc), va_P (dC, dI) vwCl (arW ad cX k g) H → va_D A (arW ad cX k g) → va_S A s.heap H locs → ∀ ls : Array Slot, lv_has ls 4 [(0, .ref ad), (1, .int (v)), (2, .int (nI j)), (3, .int (nI k))] → (∀ (H : Heap) (locs : List Loc), va_P (dC, dI) vwCl (arW ad cX k (filF v nn j g)) H → va_D A (arW ad cX k (filF v nn j g)) → va_S A s.heap H locs → ∀ ls : Array Slot, lv_has ls 4 [(0, .ref ad), (1, .int (v)), (2, .int (nI k)), (3, .int (nI k))] → W p l e (headSpec wsJ7_fill_53178 ({ frames := 0, cells := 0, slots := 0, locals := 0 })).room s m ([.ref ad, .int (v)] : List Value).toArray below meth c H locs 0 0 (MQ below (va_Qv (fun _ : Unit => True) (wrB (dC, dI) vwCl (arW ad cX k f) (arW ad cX k (fun _ => v)) ([(cX, .int)]) s.heap.size) (va_A (arW ad cX k f) s.heap.size)) ([.ref ad, .int (v)] : List Value).toArray s 0 0 (va_A (arW ad cX k f) s.heap.size)) (F0 m 20 ls [])) → W p l e (headSpec wsJ7_fill_53178 ({ frames := 0, cells := 0, slots := 0, locals := 0 })).room s m ([.ref ad, .int (v)] : List Value).toArray below meth c H locs 0 0 (MQ below (va_Qv (fun _ : Unit => True) (wrB (dC, dI) vwCl (arW ad cX k f) (arW ad cX k (fun _ => v)) ([(cX, .int)]) s.heap.size) (va_A (arW ad cX k f) s.heap.size)) ([.ref ad, .int (v)] : List Value).toArray s 0 0 (va_A (arW ad cX k f) s.heap.size)) (F0 m 5 ls []) := by
    intro nn
    induction nn with
    | zero =>
      intro j g hnj H locs hP hD hS ls hl kx
      obtain rfl : k = j := by omega
      refine lv_iload_n hx hb dJ7_fill_53178_5 rfl (lv_at hl 2 rfl) ?_
      refine lv_iload_n hx hb dJ7_fill_53178_6 rfl (lv_at hl 3 rfl) ?_
      refine hx_geN (tgt := 20) hx hb dJ7_fill_53178_7 (by decide) (by omega) (by omega) (fun c_2 => ?_) (fun c_2 => ?_)
      · exact kx _ _ hP hD hS ls (lv_sub hl [0, 1, 2, 3] rfl)
      · exact absurd c_2 (by omega)
    | succ nn ih =>
      intro j g hnj H locs hP hD hS ls hl kx
      refine lv_iload_n hx hb dJ7_fill_53178_5 rfl (lv_at hl 2 rfl) ?_
      refine lv_iload_n hx hb dJ7_fill_53178_6 rfl (lv_at hl 3 rfl) ?_
      refine hx_geN (tgt := 20) hx hb dJ7_fill_53178_7 (by decide) (by omega) (by omega) (fun c_3 => ?_) (fun c_3 => ?_)
      · exact absurd c_3 (by omega)
      · refine lv_aload_n hx hb dJ7_fill_53178_10 rfl (lv_at hl 0 rfl) ?_
        refine lv_iload_n hx hb dJ7_fill_53178_11 rfl (lv_at hl 2 rfl) ?_
        refine lv_iload_n hx hb dJ7_fill_53178_12 rfl (lv_at hl 1 rfl) ?_
        refine hx_iast hx hb hK hP hD hS 0 0 rfl rfl (by omega) (by omega) dJ7_fill_53178_13 (fun H locs hP hD hS => ?_)
        have hP : va_P (dC, dI) vwCl (arW ad cX k (upd g j v)) H := hP
        have hD : va_D A (arW ad cX k (upd g j v)) := hD
        refine lv_iinc (v := nI (j + 1)) (lv' := [(2, .int (nI (j + 1))), (0, .ref ad), (1, .int (v)), (3, .int (nI k))]) hx hb dJ7_fill_53178_14 hl (k := 2) rfl (nI_add j 1) (by decide) rfl (fun ls hl => ?_)
        refine lv_goto (tgt := 5) hx hb dJ7_fill_53178_17 (by decide) ?_
        have kx := kx
        rw [show filF v (nn + 1) j g = filF v nn (j + 1) (upd g j v) from rfl] at kx
        exact ih (j + 1) (upd g j v) (by omega) _ _ hP hD hS ls (lv_sub hl [1, 2, 0, 3] rfl) kx
  refine L_5_0 k 0 f (by omega) _ _ hP hD hS ls (lv_sub hl [2, 3, 1, 0] rfl) (fun H locs hP hD hS ls hl => ?_)
  have hP : va_P (dC, dI) vwCl (arW ad cX k (filF v k 0 f)) H := hP
  have hD : va_D A (arW ad cX k (filF v k 0 f)) := hD
  have hl : lv_has ls 4 [(0, .ref ad), (1, .int (v)), (2, .int (nI k)), (3, .int (nI k))] := hl
  have hP := hP.arr 0 (fun _ => v) rfl (fun j hj => filF_all v f hj)
  have hD := hD.set (p := 0) (e := .inl (cX, k, .inl (fun _ => v))) rfl
  have hP : va_P (dC, dI) vwCl (arW ad cX k (fun _ => v)) H := hP
  have hD : va_D A (arW ad cX k (fun _ => v)) := hD
  have e9 : arW ad cX k (fun _ => v) = arW ad cX k (fun _ => v) := rfl
  rw [e9] at hP hD
  subst hAe
  exact W.vret hx hb hr (fun t ht hW => ⟨⟨(), rfl, trivial, by rw [ht]; exact hP, va_K.moved hW.alike hK, hD⟩, hS.F ht⟩) hS.2.2 dJ7_fill_53178_20
set_option maxHeartbeats 4000000 in
set_option maxRecDepth 100000 in
theorem c_X1_findNeeded (l : Launch) (dC : Nat → ClassId) (dI : Nat → Nat → Nat) (a : Nat → Nat) (cA : Nat → ClassId) (n : Nat) (hd fm rp rq : Nat → Nat) (nd nw bf su sI sO ct : Nat → Int32) (hy_0 : ruOk n hd fm rp rq) : WrV l yX1_findNeeded wsX1_findNeeded ({ frames := 1, cells := 0, slots := 0, locals := 23 }) (dC, dI) vwCl (vkW a cA n hd fm rp rq nd nw bf su sI sO ct) (vkW a cA n hd fm rp rq (ndA n hd fm rp rq) nw bf su sI sO ct) (vkT cA) nstW [.ref (a 1)] := by
  intro sz
  refine Met.ofW (cc := cX1_findNeeded) (maxL := 3) (ret := none) (by decide) rfl ?_
  intro p e s m args below meth c s₁ B hml hv
  obtain ⟨rfl, hsz, ⟨hP, hK, hN⟩, hD0⟩ := hv
  subst hsz
  have hx := B.exec
  have hb := B.bytes
  have hr := B.returns
  have hts := atoms_spec (ws := wsX1_findNeeded) B.pre
  have hown : s.vm.findClass RX1 = some m.cls := findClass_of_methodNamed B.named
  have hlocks := B.notSynchronized
  obtain ⟨A, hAe⟩ : ∃ A, A = va_A (vkW a cA n hd fm rp rq nd nw bf su sI sO ct) s.heap.size := ⟨_, rfl⟩
  have hD : va_D A (vkW a cA n hd fm rp rq nd nw bf su sI sO ct) := by rw [hAe]; exact hD0.self (sz := s.heap.size)
  have hA : ∀ q : Nat, s.heap.size ≤ q → A q := fun q h => by rw [hAe]; exact Or.inr h
  have hS : va_S A s.heap s.heap [] := va_S.rf
  have hP : va_P (dC, dI) vwCl (vkW a cA n hd fm rp rq nd nw bf su sI sO ct) s.heap := hP
  obtain ⟨hn12, hru⟩ := id hy_0
  have lf_18 := hts (.fieldLink RX1 18 "ViewKeeper$RuleBook" "needed" "[I") (by decide +kernel)
  have in_X1 : ∀ w ∈ u_ws RX1 TX1 3, w ∈ wsX1_findNeeded := by decide +kernel
  have lf_22 := hts (.fieldLink RX1 22 "ViewKeeper$RuleBook" "made" "I") (by decide +kernel)
  have lf_11 := hts (.fieldLink RX1 11 "ViewKeeper$RuleBook" "rows" "[LViewKeeper$Rule;") (by decide +kernel)
  have lf_26 : (Cond.fieldLinkNest RX1 26 "ViewKeeper$Rule" "head" "I" "ViewKeeper").before ([.ref (a 1)] : List Value).toArray s = true := va_Nw.use rfl (hN _ (by decide +kernel))
  have in_X0 : ∀ w ∈ u_ws RX0 TX0 4, w ∈ wsX1_findNeeded := by decide +kernel
  have hl := lv_entry ([.ref (a 1)]) (n := 3) (Nat.le_of_ble_eq_true rfl)
  rw [lg_entry_eq]
  generalize (lg_sl ([.ref (a 1)]) ++ List.replicate (3 - (lg_sl ([.ref (a 1)])).length) Slot.unset).toArray = ls at hl ⊢
  have hl : lv_has ls 3 [(0, .ref (a 1))] := hl
  refine lv_aload_n hx hb dX1_findNeeded_0 rfl (lv_at hl 0 rfl) ?_
  refine va_get (D := (dC, dI)) (ci := 1) (v := .ref (a 3)) (C := RX1) (T := TX1) (N := 3) hx hb hts in_X1 hown hK hP 1 rfl rfl 1 (by decide) lf_18 (fun _ h9 => h9) rfl dX1_findNeeded_1 ?_
  refine lv_iconst (v := nI 0) hx hb dX1_findNeeded_4 (by decide) ?_
  have hPc : va_P (dC, dI) vwCl (arW (a 3) (cA 3) 7 nd) s.heap := hP.sub [3] rfl
  have hDc : va_D A (arW (a 3) (cA 3) 7 nd) := hD.sub [3] (by decide) rfl
  have hKc : va_K (dC, dI) vwCl [(cA 3, .int)] s := hK.sub [1] rfl
  refine hx_wrv1 (va_runS (As := [.ref (a 3), .int (nI 0)]) (rest := []) ⟨hx, hb, hml, hown, hts⟩ (c_J7_fill_53178 l dC dI (a 3) (cA 3) 7 nd (nI 0) (by omega) s.heap.size) (va_cwS 2 hts gX1_findNeeded_J7_fill_53178 rfl rfl rfl (by decide +kernel) ⟨Nat.le_of_ble_eq_true rfl, Nat.le_of_ble_eq_true rfl⟩) (wr_S nstW_ok hPc hKc hN hDc _) rfl rfl hl.1 rfl (lv_room (Nat.le_of_ble_eq_true rfl)) dX1_findNeeded_5 ⟨Nat.zero_le _, Nat.zero_le _⟩) 3 hP rfl hD hS hA (fun H locs hP hD hS => ?_)
  have hP : va_P (dC, dI) vwCl (vkW a cA n hd fm rp rq (fun _ => nI 0) nw bf su sI sO ct) H := hP
  have hD : va_D A (vkW a cA n hd fm rp rq (fun _ => nI 0) nw bf su sI sO ct) := hD
  refine lv_iconst (v := nI 0) hx hb dX1_findNeeded_8 (by decide) ?_
  refine lv_istore_n (lv' := [(1, .int (nI 0)), (0, .ref (a 1))]) hx hb dX1_findNeeded_9 rfl hl (by decide) rfl (fun ls hl => ?_)
  have L_10_0 : ∀ (nn : Nat) (i : Nat) (nd1 : Nat → Int32), i + nn = n → ∀ (H : Heap) (locs : List Loc), va_P (dC, dI) vwCl (vkW a cA n hd fm rp rq nd1 nw bf su sI sO ct) H → va_D A (vkW a cA n hd fm rp rq nd1 nw bf su sI sO ct) → va_S A s.heap H locs → ∀ ls : Array Slot, lv_has ls 3 [(0, .ref (a 1)), (1, .int (nI i))] → (∀ (H : Heap) (locs : List Loc), va_P (dC, dI) vwCl (vkW a cA n hd fm rp rq (ndR hd fm rp rq nn i nd1) nw bf su sI sO ct) H → va_D A (vkW a cA n hd fm rp rq (ndR hd fm rp rq nn i nd1) nw bf su sI sO ct) → va_S A s.heap H locs → ∀ ls : Array Slot, lv_has ls 3 [(0, .ref (a 1)), (1, .int (nI n))] → W p l e (headSpec wsX1_findNeeded ({ frames := 1, cells := 0, slots := 0, locals := 23 })).room s m ([.ref (a 1)] : List Value).toArray below meth c H locs 0 0 (MQ below (va_Qv (fun _ : Unit => True) (wrB (dC, dI) vwCl (vkW a cA n hd fm rp rq nd nw bf su sI sO ct) (vkW a cA n hd fm rp rq (ndA n hd fm rp rq) nw bf su sI sO ct) (vkT cA) s.heap.size) (va_A (vkW a cA n hd fm rp rq nd nw bf su sI sO ct) s.heap.size)) ([.ref (a 1)] : List Value).toArray s 0 0 (va_A (vkW a cA n hd fm rp rq nd nw bf su sI sO ct) s.heap.size)) (F0 m 50 ls [])) → W p l e (headSpec wsX1_findNeeded ({ frames := 1, cells := 0, slots := 0, locals := 23 })).room s m ([.ref (a 1)] : List Value).toArray below meth c H locs 0 0 (MQ below (va_Qv (fun _ : Unit => True) (wrB (dC, dI) vwCl (vkW a cA n hd fm rp rq nd nw bf su sI sO ct) (vkW a cA n hd fm rp rq (ndA n hd fm rp rq) nw bf su sI sO ct) (vkT cA) s.heap.size) (va_A (vkW a cA n hd fm rp rq nd nw bf su sI sO ct) s.heap.size)) ([.ref (a 1)] : List Value).toArray s 0 0 (va_A (vkW a cA n hd fm rp rq nd nw bf su sI sO ct) s.heap.size)) (F0 m 10 ls []) := by
    intro nn
    induction nn with
    | zero =>
      intro i nd1 hni H locs hP hD hS ls hl kx
      obtain rfl : n = i := by omega
      refine lv_iload_n hx hb dX1_findNeeded_10 rfl (lv_at hl 1 rfl) ?_
      refine lv_aload_n hx hb dX1_findNeeded_11 rfl (lv_at hl 0 rfl) ?_
      refine va_get (D := (dC, dI)) (ci := 1) (v := .int (nI n)) (C := RX1) (T := TX1) (N := 3) hx hb hts in_X1 hown hK hP 1 rfl rfl 2 (by decide) lf_22 (fun _ h9 => h9) rfl dX1_findNeeded_12 ?_
      refine hx_geN (tgt := 50) hx hb dX1_findNeeded_15 (by decide) (by omega) (by omega) (fun c_2 => ?_) (fun c_2 => ?_)
      · exact kx _ _ hP hD hS ls (lv_sub hl [0, 1] rfl)
      · exact absurd c_2 (by omega)
    | succ nn ih =>
      intro i nd1 hni H locs hP hD hS ls hl kx
      refine lv_iload_n hx hb dX1_findNeeded_10 rfl (lv_at hl 1 rfl) ?_
      refine lv_aload_n hx hb dX1_findNeeded_11 rfl (lv_at hl 0 rfl) ?_
      refine va_get (D := (dC, dI)) (ci := 1) (v := .int (nI n)) (C := RX1) (T := TX1) (N := 3) hx hb hts in_X1 hown hK hP 1 rfl rfl 2 (by decide) lf_22 (fun _ h9 => h9) rfl dX1_findNeeded_12 ?_
      refine hx_geN (tgt := 50) hx hb dX1_findNeeded_15 (by decide) (by omega) (by omega) (fun c_3 => ?_) (fun c_3 => ?_)
      · exact absurd c_3 (by omega)
      · have hr9 := hru i (by omega)
        refine lv_aload_n hx hb dX1_findNeeded_18 rfl (lv_at hl 0 rfl) ?_
        refine va_get (D := (dC, dI)) (ci := 1) (v := .ref (a 3)) (C := RX1) (T := TX1) (N := 3) hx hb hts in_X1 hown hK hP 1 rfl rfl 1 (by decide) lf_18 (fun _ h9 => h9) rfl dX1_findNeeded_19 ?_
        refine lv_aload_n hx hb dX1_findNeeded_22 rfl (lv_at hl 0 rfl) ?_
        refine va_get (D := (dC, dI)) (ci := 1) (v := .ref (a 2)) (C := RX1) (T := TX1) (N := 3) hx hb hts in_X1 hown hK hP 1 rfl rfl 0 (by decide) lf_11 (fun _ h9 => h9) rfl dX1_findNeeded_23 ?_
        refine lv_iload_n hx hb dX1_findNeeded_26 rfl (lv_at hl 1 rfl) ?_
        refine hx_aald hx hb hK hP 2 0 rfl rfl (by omega) (by omega) dX1_findNeeded_27 ?_
        refine va_getN (D := (dC, dI)) (ci := 0) (v := .int (nI (hd i))) (C := RX0) (T := TX0) (N := 4) hx hb hts in_X0 hown hK hP (10 + i) (vkW_rule (by omega)) rfl 0 (by decide) lf_26 (fun _ h9 => h9) rfl dX1_findNeeded_28 ?_
        refine lv_dup2_11 hx hb dX1_findNeeded_31 rfl rfl ?_
        refine hx_iald hx hb hK hP 3 1 rfl rfl (by omega) (by omega) dX1_findNeeded_32 ?_
        refine lv_aload_n hx hb dX1_findNeeded_33 rfl (lv_at hl 0 rfl) ?_
        refine va_get (D := (dC, dI)) (ci := 1) (v := .ref (a 2)) (C := RX1) (T := TX1) (N := 3) hx hb hts in_X1 hown hK hP 1 rfl rfl 0 (by decide) lf_11 (fun _ h9 => h9) rfl dX1_findNeeded_34 ?_
        refine lv_iload_n hx hb dX1_findNeeded_37 rfl (lv_at hl 1 rfl) ?_
        refine hx_aald hx hb hK hP 2 0 rfl rfl (by omega) (by omega) dX1_findNeeded_38 ?_
        refine hx_read (va_runVN (C := RX0) (As := []) (rest := [.int (nd1 (hd i)), .int (nI (hd i)), .ref (a 3)]) ⟨hx, hb, hml, hown, hts⟩ (c_X0_body l dC dI a cA n hd fm rp rq nd1 nw bf su sI sO ct i (by omega) (by omega) (by omega) (by omega)) ⟨va_cnB 0 hts gX1_findNeeded_X0_body_n47 rfl rfl rfl (hN (.methodLinkNest RX1 47 yX0_body "ViewKeeper") (by decide +kernel)) (hts (.initialized RX0) (by decide +kernel)) (by decide +kernel) ⟨Nat.le_of_ble_eq_true rfl, Nat.le_of_ble_eq_true rfl⟩, hts (.instanceMethod yX0_body) (by decide +kernel), hts (.selects RX0 yX0_body yX0_body) (by decide +kernel)⟩ (rd_V nstW_ok hP hK hN (10 + i) (vkW_rule (by omega)) rfl _) rfl rfl hl.1 rfl (lv_room (Nat.le_of_ble_eq_true rfl)) dX1_findNeeded_39 ⟨Nat.zero_le _, Nat.zero_le _⟩) ?_
        refine lv_ior hx hb dX1_findNeeded_42 ?_
        refine hx_iast hx hb hK hP hD hS 3 1 rfl rfl (by omega) (by omega) dX1_findNeeded_43 (fun H locs hP hD hS => ?_)
        have hP : va_P (dC, dI) vwCl (vkW a cA n hd fm rp rq (upd nd1 (hd i) ((nd1 (hd i)) ||| (bodyM (fm i) (rp i) (rq i)))) nw bf su sI sO ct) H := hP
        have hD : va_D A (vkW a cA n hd fm rp rq (upd nd1 (hd i) ((nd1 (hd i)) ||| (bodyM (fm i) (rp i) (rq i)))) nw bf su sI sO ct) := hD
        refine lv_iinc (v := nI (i + 1)) (lv' := [(1, .int (nI (i + 1))), (0, .ref (a 1))]) hx hb dX1_findNeeded_44 hl (k := 1) rfl (nI_add i 1) (by decide) rfl (fun ls hl => ?_)
        refine lv_goto (tgt := 10) hx hb dX1_findNeeded_47 (by decide) ?_
        have kx := kx
        rw [show ndR hd fm rp rq (nn + 1) i nd1 = ndR hd fm rp rq nn (i + 1) (upd nd1 (hd i) ((nd1 (hd i)) ||| (bodyM (fm i) (rp i) (rq i)))) from rfl] at kx
        exact ih (i + 1) (upd nd1 (hd i) ((nd1 (hd i)) ||| (bodyM (fm i) (rp i) (rq i)))) (by omega) _ _ hP hD hS ls (lv_sub hl [1, 0] rfl) kx
  refine L_10_0 n 0 (fun _ => nI 0) (by omega) _ _ hP hD hS ls (lv_sub hl [1, 0] rfl) (fun H locs hP hD hS ls hl => ?_)
  have hP : va_P (dC, dI) vwCl (vkW a cA n hd fm rp rq (ndR hd fm rp rq n 0 (fun _ => nI 0)) nw bf su sI sO ct) H := hP
  have hD : va_D A (vkW a cA n hd fm rp rq (ndR hd fm rp rq n 0 (fun _ => nI 0)) nw bf su sI sO ct) := hD
  have hl : lv_has ls 3 [(0, .ref (a 1)), (1, .int (nI n))] := hl
  refine lv_iconst (v := nI 2) hx hb dX1_findNeeded_50 (by decide) ?_
  refine lv_istore_n (lv' := [(1, .int (nI 2)), (0, .ref (a 1))]) hx hb dX1_findNeeded_51 rfl hl (by decide) rfl (fun ls hl => ?_)
  have L_52_3 : ∀ (nn : Nat) (mid : Nat) (nd2 : Nat → Int32), mid + nn = 7 → 2 ≤ mid → ∀ (H : Heap) (locs : List Loc), va_P (dC, dI) vwCl (vkW a cA n hd fm rp rq nd2 nw bf su sI sO ct) H → va_D A (vkW a cA n hd fm rp rq nd2 nw bf su sI sO ct) → va_S A s.heap H locs → ∀ ls : Array Slot, lv_has ls 3 [(0, .ref (a 1)), (1, .int (nI mid))] → (∀ (H : Heap) (locs : List Loc), va_P (dC, dI) vwCl (vkW a cA n hd fm rp rq (ndM nn mid nd2) nw bf su sI sO ct) H → va_D A (vkW a cA n hd fm rp rq (ndM nn mid nd2) nw bf su sI sO ct) → va_S A s.heap H locs → ∀ ls : Array Slot, lv_has ls 3 [(0, .ref (a 1)), (1, .int (nI 7))] → W p l e (headSpec wsX1_findNeeded ({ frames := 1, cells := 0, slots := 0, locals := 23 })).room s m ([.ref (a 1)] : List Value).toArray below meth c H locs 0 0 (MQ below (va_Qv (fun _ : Unit => True) (wrB (dC, dI) vwCl (vkW a cA n hd fm rp rq nd nw bf su sI sO ct) (vkW a cA n hd fm rp rq (ndA n hd fm rp rq) nw bf su sI sO ct) (vkT cA) s.heap.size) (va_A (vkW a cA n hd fm rp rq nd nw bf su sI sO ct) s.heap.size)) ([.ref (a 1)] : List Value).toArray s 0 0 (va_A (vkW a cA n hd fm rp rq nd nw bf su sI sO ct) s.heap.size)) (F0 m 102 ls [])) → W p l e (headSpec wsX1_findNeeded ({ frames := 1, cells := 0, slots := 0, locals := 23 })).room s m ([.ref (a 1)] : List Value).toArray below meth c H locs 0 0 (MQ below (va_Qv (fun _ : Unit => True) (wrB (dC, dI) vwCl (vkW a cA n hd fm rp rq nd nw bf su sI sO ct) (vkW a cA n hd fm rp rq (ndA n hd fm rp rq) nw bf su sI sO ct) (vkT cA) s.heap.size) (va_A (vkW a cA n hd fm rp rq nd nw bf su sI sO ct) s.heap.size)) ([.ref (a 1)] : List Value).toArray s 0 0 (va_A (vkW a cA n hd fm rp rq nd nw bf su sI sO ct) s.heap.size)) (F0 m 52 ls []) := by
    intro nn
    induction nn with
    | zero =>
      intro mid nd2 hnm hm2 H locs hP hD hS ls hl kx
      obtain rfl : mid = 7 := by omega
      refine lv_iload_n hx hb dX1_findNeeded_52 rfl (lv_at hl 1 rfl) ?_
      refine lv_bipush (v := nI 7) hx hb dX1_findNeeded_53 (by decide) ?_
      refine hx_geN (tgt := 102) hx hb dX1_findNeeded_55 (by decide) (by omega) (by omega) (fun c_5 => ?_) (fun c_5 => ?_)
      · exact kx _ _ hP hD hS ls (lv_sub hl [0, 1] rfl)
      · exact absurd c_5 (by omega)
    | succ nn ih =>
      intro mid nd2 hnm hm2 H locs hP hD hS ls hl kx
      refine lv_iload_n hx hb dX1_findNeeded_52 rfl (lv_at hl 1 rfl) ?_
      refine lv_bipush (v := nI 7) hx hb dX1_findNeeded_53 (by decide) ?_
      refine hx_geN (tgt := 102) hx hb dX1_findNeeded_55 (by decide) (by omega) (by omega) (fun c_6 => ?_) (fun c_6 => ?_)
      · exact absurd c_6 (by omega)
      · refine lv_iconst (v := nI 2) hx hb dX1_findNeeded_58 (by decide) ?_
        refine lv_istore_n (lv' := [(2, .int (nI 2)), (0, .ref (a 1)), (1, .int (nI mid))]) hx hb dX1_findNeeded_59 rfl hl (by decide) rfl (fun ls hl => ?_)
        have L_60_6 : ∀ (nn : Nat) (w : Nat) (nd3 : Nat → Int32), w + nn = 7 → ∀ (H : Heap) (locs : List Loc), va_P (dC, dI) vwCl (vkW a cA n hd fm rp rq nd3 nw bf su sI sO ct) H → va_D A (vkW a cA n hd fm rp rq nd3 nw bf su sI sO ct) → va_S A s.heap H locs → ∀ ls : Array Slot, lv_has ls 3 [(0, .ref (a 1)), (1, .int (nI mid)), (2, .int (nI w))] → (∀ (H : Heap) (locs : List Loc), va_P (dC, dI) vwCl (vkW a cA n hd fm rp rq (ndV mid nn w nd3) nw bf su sI sO ct) H → va_D A (vkW a cA n hd fm rp rq (ndV mid nn w nd3) nw bf su sI sO ct) → va_S A s.heap H locs → ∀ ls : Array Slot, lv_has ls 3 [(0, .ref (a 1)), (1, .int (nI mid)), (2, .int (nI 7))] → W p l e (headSpec wsX1_findNeeded ({ frames := 1, cells := 0, slots := 0, locals := 23 })).room s m ([.ref (a 1)] : List Value).toArray below meth c H locs 0 0 (MQ below (va_Qv (fun _ : Unit => True) (wrB (dC, dI) vwCl (vkW a cA n hd fm rp rq nd nw bf su sI sO ct) (vkW a cA n hd fm rp rq (ndA n hd fm rp rq) nw bf su sI sO ct) (vkT cA) s.heap.size) (va_A (vkW a cA n hd fm rp rq nd nw bf su sI sO ct) s.heap.size)) ([.ref (a 1)] : List Value).toArray s 0 0 (va_A (vkW a cA n hd fm rp rq nd nw bf su sI sO ct) s.heap.size)) (F0 m 96 ls [])) → W p l e (headSpec wsX1_findNeeded ({ frames := 1, cells := 0, slots := 0, locals := 23 })).room s m ([.ref (a 1)] : List Value).toArray below meth c H locs 0 0 (MQ below (va_Qv (fun _ : Unit => True) (wrB (dC, dI) vwCl (vkW a cA n hd fm rp rq nd nw bf su sI sO ct) (vkW a cA n hd fm rp rq (ndA n hd fm rp rq) nw bf su sI sO ct) (vkT cA) s.heap.size) (va_A (vkW a cA n hd fm rp rq nd nw bf su sI sO ct) s.heap.size)) ([.ref (a 1)] : List Value).toArray s 0 0 (va_A (vkW a cA n hd fm rp rq nd nw bf su sI sO ct) s.heap.size)) (F0 m 60 ls []) := by
          intro nn
          induction nn with
          | zero =>
            intro w nd3 hnw H locs hP hD hS ls hl kx
            obtain rfl : w = 7 := by omega
            refine lv_iload_n hx hb dX1_findNeeded_60 rfl (lv_at hl 2 rfl) ?_
            refine lv_bipush (v := nI 7) hx hb dX1_findNeeded_61 (by decide) ?_
            refine hx_geN (tgt := 96) hx hb dX1_findNeeded_63 (by decide) (by omega) (by omega) (fun c_8 => ?_) (fun c_8 => ?_)
            · exact kx _ _ hP hD hS ls (lv_sub hl [0, 1, 2] rfl)
            · exact absurd c_8 (by omega)
          | succ nn ih =>
            intro w nd3 hnw H locs hP hD hS ls hl kx
            refine lv_iload_n hx hb dX1_findNeeded_60 rfl (lv_at hl 2 rfl) ?_
            refine lv_bipush (v := nI 7) hx hb dX1_findNeeded_61 (by decide) ?_
            refine hx_geN (tgt := 96) hx hb dX1_findNeeded_63 (by decide) (by omega) (by omega) (fun c_9 => ?_) (fun c_9 => ?_)
            · exact absurd c_9 (by omega)
            · refine lv_aload_n hx hb dX1_findNeeded_66 rfl (lv_at hl 0 rfl) ?_
              refine lv_iload_n hx hb dX1_findNeeded_67 rfl (lv_at hl 2 rfl) ?_
              refine lv_iload_n hx hb dX1_findNeeded_68 rfl (lv_at hl 1 rfl) ?_
              refine hx_read (va_runV (As := [.int (nI w), .int (nI mid)]) (rest := []) ⟨hx, hb, hml, hown, hts⟩ (c_X1_leadsTo l dC dI a cA n hd fm rp rq nd3 nw bf su sI sO ct w mid (by omega) (by omega)) (cwV 2 hts gX1_findNeeded_X1_leadsTo rfl rfl rfl (by decide +kernel) ⟨Nat.le_of_ble_eq_true rfl, Nat.le_of_ble_eq_true rfl⟩) (rd_V nstW_ok hP hK hN 1 rfl rfl _) rfl rfl hl.1 rfl (lv_room (Nat.le_of_ble_eq_true rfl)) dX1_findNeeded_69 ⟨Nat.zero_le _, Nat.zero_le _⟩) ?_
              refine hx_ifB (tgt := 90) hx hb dX1_findNeeded_72 (by decide) (fun c_10 => ?_) (fun c_10 => ?_)
              · refine lv_iinc (v := nI (w + 1)) (lv' := [(2, .int (nI (w + 1))), (0, .ref (a 1)), (1, .int (nI mid))]) hx hb dX1_findNeeded_90 hl (k := 2) rfl (nI_add w 1) (by decide) rfl (fun ls hl => ?_)
                refine lv_goto (tgt := 60) hx hb dX1_findNeeded_93 (by decide) ?_
                have kx := kx
                rw [show ndV mid (nn + 1) w nd3 = ndV mid nn (w + 1) nd3 from by simp only [ndV, c_6, c_9, c_10, ↓reduceIte, Bool.false_eq_true]] at kx
                exact ih (w + 1) nd3 (by omega) _ _ hP hD hS ls (lv_sub hl [1, 2, 0] rfl) kx
              · refine lv_aload_n hx hb dX1_findNeeded_75 rfl (lv_at hl 0 rfl) ?_
                refine va_get (D := (dC, dI)) (ci := 1) (v := .ref (a 3)) (C := RX1) (T := TX1) (N := 3) hx hb hts in_X1 hown hK hP 1 rfl rfl 1 (by decide) lf_18 (fun _ h9 => h9) rfl dX1_findNeeded_76 ?_
                refine lv_iload_n hx hb dX1_findNeeded_79 rfl (lv_at hl 2 rfl) ?_
                refine lv_dup2_11 hx hb dX1_findNeeded_80 rfl rfl ?_
                refine hx_iald hx hb hK hP 3 1 rfl rfl (by omega) (by omega) dX1_findNeeded_81 ?_
                refine lv_aload_n hx hb dX1_findNeeded_82 rfl (lv_at hl 0 rfl) ?_
                refine va_get (D := (dC, dI)) (ci := 1) (v := .ref (a 3)) (C := RX1) (T := TX1) (N := 3) hx hb hts in_X1 hown hK hP 1 rfl rfl 1 (by decide) lf_18 (fun _ h9 => h9) rfl dX1_findNeeded_83 ?_
                refine lv_iload_n hx hb dX1_findNeeded_86 rfl (lv_at hl 1 rfl) ?_
                refine hx_iald hx hb hK hP 3 1 rfl rfl (by omega) (by omega) dX1_findNeeded_87 ?_
                refine lv_ior hx hb dX1_findNeeded_88 ?_
                refine hx_iast hx hb hK hP hD hS 3 1 rfl rfl (by omega) (by omega) dX1_findNeeded_89 (fun H locs hP hD hS => ?_)
                have hP : va_P (dC, dI) vwCl (vkW a cA n hd fm rp rq (upd nd3 w ((nd3 w) ||| (nd3 mid))) nw bf su sI sO ct) H := hP
                have hD : va_D A (vkW a cA n hd fm rp rq (upd nd3 w ((nd3 w) ||| (nd3 mid))) nw bf su sI sO ct) := hD
                refine lv_iinc (v := nI (w + 1)) (lv' := [(2, .int (nI (w + 1))), (0, .ref (a 1)), (1, .int (nI mid))]) hx hb dX1_findNeeded_90 hl (k := 2) rfl (nI_add w 1) (by decide) rfl (fun ls hl => ?_)
                refine lv_goto (tgt := 60) hx hb dX1_findNeeded_93 (by decide) ?_
                have kx := kx
                rw [show ndV mid (nn + 1) w nd3 = ndV mid nn (w + 1) (upd nd3 w ((nd3 w) ||| (nd3 mid))) from by simp only [ndV, c_6, c_9, c_10, ↓reduceIte, Bool.false_eq_true]] at kx
                exact ih (w + 1) (upd nd3 w ((nd3 w) ||| (nd3 mid))) (by omega) _ _ hP hD hS ls (lv_sub hl [1, 2, 0] rfl) kx
        refine L_60_6 5 2 nd2 (by omega) _ _ hP hD hS ls (lv_sub hl [1, 2, 0] rfl) (fun H locs hP hD hS ls hl => ?_)
        have hP : va_P (dC, dI) vwCl (vkW a cA n hd fm rp rq (ndV mid 5 2 nd2) nw bf su sI sO ct) H := hP
        have hD : va_D A (vkW a cA n hd fm rp rq (ndV mid 5 2 nd2) nw bf su sI sO ct) := hD
        have hl : lv_has ls 3 [(0, .ref (a 1)), (1, .int (nI mid)), (2, .int (nI 7))] := hl
        refine lv_iinc (v := nI (mid + 1)) (lv' := [(1, .int (nI (mid + 1))), (0, .ref (a 1)), (2, .int (nI 7))]) hx hb dX1_findNeeded_96 hl (k := 1) rfl (nI_add mid 1) (by decide) rfl (fun ls hl => ?_)
        refine lv_goto (tgt := 52) hx hb dX1_findNeeded_99 (by decide) ?_
        have kx := kx
        rw [show ndM (nn + 1) mid nd2 = ndM nn (mid + 1) (ndV mid 5 2 nd2) from rfl] at kx
        exact ih (mid + 1) (ndV mid 5 2 nd2) (by omega) (by omega) _ _ hP hD hS ls (lv_sub hl [1, 0] rfl) kx
  refine L_52_3 5 2 (ndR hd fm rp rq n 0 (fun _ => nI 0)) (by omega) (by omega) _ _ hP hD hS ls (lv_sub hl [1, 0] rfl) (fun H locs hP hD hS ls hl => ?_)
  have hP : va_P (dC, dI) vwCl (vkW a cA n hd fm rp rq (ndM 5 2 (ndR hd fm rp rq n 0 (fun _ => nI 0))) nw bf su sI sO ct) H := hP
  have hD : va_D A (vkW a cA n hd fm rp rq (ndM 5 2 (ndR hd fm rp rq n 0 (fun _ => nI 0))) nw bf su sI sO ct) := hD
  have hl : lv_has ls 3 [(0, .ref (a 1)), (1, .int (nI 7))] := hl
  have e9 : vkW a cA n hd fm rp rq (ndM 5 2 (ndR hd fm rp rq n 0 (fun _ => nI 0))) nw bf su sI sO ct = vkW a cA n hd fm rp rq (ndA n hd fm rp rq) nw bf su sI sO ct := rfl
  rw [e9] at hP hD
  subst hAe
  exact W.vret hx hb hr (fun t ht hW => ⟨⟨(), rfl, trivial, by rw [ht]; exact hP, va_K.moved hW.alike hK, hD⟩, hS.F ht⟩) hS.2.2 dX1_findNeeded_102
set_option maxHeartbeats 4000000 in
set_option maxRecDepth 100000 in
theorem c_X1_strikeLast (l : Launch) (dC : Nat → ClassId) (dI : Nat → Nat → Nat) (a : Nat → Nat) (cA : Nat → ClassId) (n : Nat) (hd fm rp rq : Nat → Nat) (nd nw bf su sI sO ct : Nat → Int32) (hy_0 : ruOk n hd fm rp rq) (hy_1 : 1 ≤ n) : WrV l yX1_strikeLast wsX1_strikeLast ({ frames := 2, cells := 0, slots := 0, locals := 45 }) (dC, dI) vwCl (vkW a cA n hd fm rp rq nd nw bf su sI sO ct) (vkW a cA (n - 1) hd fm rp rq (ndA (n - 1) hd fm rp rq) nw bf su sI sO ct) (vkT cA) nstW [.ref (a 1)] := by
  intro sz
  refine Met.ofW (cc := cX1_strikeLast) (maxL := 1) (ret := none) (by decide) rfl ?_
  intro p e s m args below meth c s₁ B hml hv
  obtain ⟨rfl, hsz, ⟨hP, hK, hN⟩, hD0⟩ := hv
  subst hsz
  have hx := B.exec
  have hb := B.bytes
  have hr := B.returns
  have hts := atoms_spec (ws := wsX1_strikeLast) B.pre
  have hown : s.vm.findClass RX1 = some m.cls := findClass_of_methodNamed B.named
  have hlocks := B.notSynchronized
  obtain ⟨A, hAe⟩ : ∃ A, A = va_A (vkW a cA n hd fm rp rq nd nw bf su sI sO ct) s.heap.size := ⟨_, rfl⟩
  have hD : va_D A (vkW a cA n hd fm rp rq nd nw bf su sI sO ct) := by rw [hAe]; exact hD0.self (sz := s.heap.size)
  have hA : ∀ q : Nat, s.heap.size ≤ q → A q := fun q h => by rw [hAe]; exact Or.inr h
  have hS : va_S A s.heap s.heap [] := va_S.rf
  have hP : va_P (dC, dI) vwCl (vkW a cA n hd fm rp rq nd nw bf su sI sO ct) s.heap := hP
  have lf_22 := hts (.fieldLink RX1 22 "ViewKeeper$RuleBook" "made" "I") (by decide +kernel)
  have in_X1 : ∀ w ∈ u_ws RX1 TX1 3, w ∈ wsX1_strikeLast := by decide +kernel
  have hl := lv_entry ([.ref (a 1)]) (n := 1) (Nat.le_of_ble_eq_true rfl)
  rw [lg_entry_eq]
  generalize (lg_sl ([.ref (a 1)]) ++ List.replicate (1 - (lg_sl ([.ref (a 1)])).length) Slot.unset).toArray = ls at hl ⊢
  have hl : lv_has ls 1 [(0, .ref (a 1))] := hl
  refine lv_aload_n hx hb dX1_strikeLast_0 rfl (lv_at hl 0 rfl) ?_
  refine lv_dup hx hb dX1_strikeLast_1 rfl ?_
  refine va_get (D := (dC, dI)) (ci := 1) (v := .int (nI n)) (C := RX1) (T := TX1) (N := 3) hx hb hts in_X1 hown hK hP 1 rfl rfl 2 (by decide) lf_22 (fun _ h9 => h9) rfl dX1_strikeLast_2 ?_
  refine lv_iconst (v := nI 1) hx hb dX1_strikeLast_5 (by decide) ?_
  refine hx_isub (by omega) hx hb dX1_strikeLast_6 ?_
  refine va_put (D := (dC, dI)) (ci := 1) (v := .int (nI (n - 1))) (ty := .int) (C := RX1) (T := TX1) (N := 3) hx hb hts in_X1 tyX1 tyX1_ok nmX1 hown hK hP hD hS 1 rfl rfl 2 (by decide) lf_22 (fun _ h9 => h9) rfl (by decide +kernel) rfl rfl (Nat.le_of_ble_eq_true rfl) dX1_strikeLast_7 (fun H locs hP hD hS => ?_)
  have hP : va_P (dC, dI) vwCl (vkW a cA (n - 1) hd fm rp rq nd nw bf su sI sO ct) H := hP
  have hD : va_D A (vkW a cA (n - 1) hd fm rp rq nd nw bf su sI sO ct) := hD
  refine lv_aload_n hx hb dX1_strikeLast_10 rfl (lv_at hl 0 rfl) ?_
  refine hx_wrv (va_runV (As := []) (rest := []) ⟨hx, hb, hml, hown, hts⟩ (c_X1_findNeeded l dC dI a cA (n - 1) hd fm rp rq nd nw bf su sI sO ct (ruOk_pred hy_0) H.size) (cwV 0 hts gX1_strikeLast_X1_findNeeded rfl rfl rfl (by decide +kernel) ⟨Nat.le_of_ble_eq_true rfl, Nat.le_of_ble_eq_true rfl⟩) (wr_V nstW_ok hP hK hN hD 1 rfl rfl _) rfl rfl hl.1 rfl (lv_room (Nat.le_of_ble_eq_true rfl)) dX1_strikeLast_11 ⟨Nat.zero_le _, Nat.zero_le _⟩) hD hS hA (fun H locs hP hD hS => ?_)
  have hP : va_P (dC, dI) vwCl (vkW a cA ((n - 1)) hd fm rp rq (ndA (n - 1) hd fm rp rq) nw bf su sI sO ct) H := hP
  have hD : va_D A (vkW a cA ((n - 1)) hd fm rp rq (ndA (n - 1) hd fm rp rq) nw bf su sI sO ct) := hD
  have e9 : vkW a cA ((n - 1)) hd fm rp rq (ndA (n - 1) hd fm rp rq) nw bf su sI sO ct = vkW a cA (n - 1) hd fm rp rq (ndA (n - 1) hd fm rp rq) nw bf su sI sO ct := rfl
  rw [e9] at hP hD
  subst hAe
  exact W.vret hx hb hr (fun t ht hW => ⟨⟨(), rfl, trivial, by rw [ht]; exact hP, va_K.moved hW.alike hK, hD⟩, hS.F ht⟩) hS.2.2 dX1_strikeLast_14
set_option maxHeartbeats 4000000 in
set_option maxRecDepth 100000 in
theorem c_X1_write (l : Launch) (dC : Nat → ClassId) (dI : Nat → Nat → Nat) (a : Nat → Nat) (cA : Nat → ClassId) (n : Nat) (hd fm rp rq : Nat → Nat) (nd nw bf su sI sO ct : Nat → Int32) (vh vf vp vq : Nat) (hy_0 : ruOk n hd fm rp rq) (hy_1 : n < 12) (hy_2 : 2 ≤ vh ∧ vh < 7 ∧ vf ≤ 4 ∧ vp < 7 ∧ vq < 7) : WrV l yX1_write wsX1_write ({ frames := 2, cells := 0, slots := 0, locals := 45 }) (dC, dI) vwCl (vkW a cA n hd fm rp rq nd nw bf su sI sO ct) (vkW a cA (n + 1) (va_up hd n vh) (va_up fm n vf) (va_up rp n vp) (va_up rq n vq) (ndA (n + 1) (va_up hd n vh) (va_up fm n vf) (va_up rp n vp) (va_up rq n vq)) nw bf su sI sO ct) (vkT cA) nstW [.ref (a 1), .int (nI vh), .int (nI vf), .int (nI vp), .int (nI vq)] := by
  intro sz
  refine Met.ofW (cc := cX1_write) (maxL := 6) (ret := none) (by decide) rfl ?_
  intro p e s m args below meth c s₁ B hml hv
  obtain ⟨rfl, hsz, ⟨hP, hK, hN⟩, hD0⟩ := hv
  subst hsz
  have hx := B.exec
  have hb := B.bytes
  have hr := B.returns
  have hts := atoms_spec (ws := wsX1_write) B.pre
  have hown : s.vm.findClass RX1 = some m.cls := findClass_of_methodNamed B.named
  have hlocks := B.notSynchronized
  obtain ⟨A, hAe⟩ : ∃ A, A = va_A (vkW a cA n hd fm rp rq nd nw bf su sI sO ct) s.heap.size := ⟨_, rfl⟩
  have hD : va_D A (vkW a cA n hd fm rp rq nd nw bf su sI sO ct) := by rw [hAe]; exact hD0.self (sz := s.heap.size)
  have hA : ∀ q : Nat, s.heap.size ≤ q → A q := fun q h => by rw [hAe]; exact Or.inr h
  have hS : va_S A s.heap s.heap [] := va_S.rf
  have hP : va_P (dC, dI) vwCl (vkW a cA n hd fm rp rq nd nw bf su sI sO ct) s.heap := hP
  have lf_11 := hts (.fieldLink RX1 11 "ViewKeeper$RuleBook" "rows" "[LViewKeeper$Rule;") (by decide +kernel)
  have in_X1 : ∀ w ∈ u_ws RX1 TX1 3, w ∈ wsX1_write := by decide +kernel
  have lf_22 := hts (.fieldLink RX1 22 "ViewKeeper$RuleBook" "made" "I") (by decide +kernel)
  have lf_26 : (Cond.fieldLinkNest RX1 26 "ViewKeeper$Rule" "head" "I" "ViewKeeper").before ([.ref (a 1), .int (nI vh), .int (nI vf), .int (nI vp), .int (nI vq)] : List Value).toArray s = true := va_Nw.use rfl (hN _ (by decide +kernel))
  have in_X0 : ∀ w ∈ u_ws RX0 TX0 4, w ∈ wsX1_write := by decide +kernel
  have lf_29 : (Cond.fieldLinkNest RX1 29 "ViewKeeper$Rule" "form" "I" "ViewKeeper").before ([.ref (a 1), .int (nI vh), .int (nI vf), .int (nI vp), .int (nI vq)] : List Value).toArray s = true := va_Nw.use rfl (hN _ (by decide +kernel))
  have lf_32 : (Cond.fieldLinkNest RX1 32 "ViewKeeper$Rule" "p" "I" "ViewKeeper").before ([.ref (a 1), .int (nI vh), .int (nI vf), .int (nI vp), .int (nI vq)] : List Value).toArray s = true := va_Nw.use rfl (hN _ (by decide +kernel))
  have lf_35 : (Cond.fieldLinkNest RX1 35 "ViewKeeper$Rule" "q" "I" "ViewKeeper").before ([.ref (a 1), .int (nI vh), .int (nI vf), .int (nI vp), .int (nI vq)] : List Value).toArray s = true := va_Nw.use rfl (hN _ (by decide +kernel))
  have hl := lv_entry ([.ref (a 1), .int (nI vh), .int (nI vf), .int (nI vp), .int (nI vq)]) (n := 6) (Nat.le_of_ble_eq_true rfl)
  rw [lg_entry_eq]
  generalize (lg_sl ([.ref (a 1), .int (nI vh), .int (nI vf), .int (nI vp), .int (nI vq)]) ++ List.replicate (6 - (lg_sl ([.ref (a 1), .int (nI vh), .int (nI vf), .int (nI vp), .int (nI vq)])).length) Slot.unset).toArray = ls at hl ⊢
  have hl : lv_has ls 6 [(0, .ref (a 1)), (1, .int (nI vh)), (2, .int (nI vf)), (3, .int (nI vp)), (4, .int (nI vq))] := hl
  refine lv_aload_n hx hb dX1_write_0 rfl (lv_at hl 0 rfl) ?_
  refine va_get (D := (dC, dI)) (ci := 1) (v := .ref (a 2)) (C := RX1) (T := TX1) (N := 3) hx hb hts in_X1 hown hK hP 1 rfl rfl 0 (by decide) lf_11 (fun _ h9 => h9) rfl dX1_write_1 ?_
  refine lv_aload_n hx hb dX1_write_4 rfl (lv_at hl 0 rfl) ?_
  refine va_get (D := (dC, dI)) (ci := 1) (v := .int (nI n)) (C := RX1) (T := TX1) (N := 3) hx hb hts in_X1 hown hK hP 1 rfl rfl 2 (by decide) lf_22 (fun _ h9 => h9) rfl dX1_write_5 ?_
  refine hx_aald hx hb hK hP 2 0 rfl rfl (by omega) (by omega) dX1_write_8 ?_
  refine lv_astore (lv' := [(5, .ref (a (10 + n))), (0, .ref (a 1)), (1, .int (nI vh)), (2, .int (nI vf)), (3, .int (nI vp)), (4, .int (nI vq))]) hx hb dX1_write_9 hl (by decide) rfl (fun ls hl => ?_)
  refine lv_aload hx hb dX1_write_11 (lv_at hl 0 rfl) ?_
  refine lv_iload_n hx hb dX1_write_13 rfl (lv_at hl 2 rfl) ?_
  refine va_putN (D := (dC, dI)) (ci := 0) (v := .int (nI vh)) (ty := .int) (C := RX0) (T := TX0) (N := 4) hx hb hts in_X0 tyX0 tyX0_ok nmX0 hown hK hP hD hS (10 + n) (vkW_rule (by omega)) rfl 0 (by decide) lf_26 (fun _ h9 => h9) rfl (by decide +kernel) rfl rfl (Nat.le_of_ble_eq_true rfl) dX1_write_14 (fun H locs hP hD hS => ?_)
  rw [vkW_p0 (by omega)] at hP hD
  have hP : va_P (dC, dI) vwCl (vkW a cA n (va_up hd n vh) fm rp rq nd nw bf su sI sO ct) H := hP
  have hD : va_D A (vkW a cA n (va_up hd n vh) fm rp rq nd nw bf su sI sO ct) := hD
  refine lv_aload hx hb dX1_write_17 (lv_at hl 0 rfl) ?_
  refine lv_iload_n hx hb dX1_write_19 rfl (lv_at hl 3 rfl) ?_
  refine va_putN (D := (dC, dI)) (ci := 0) (v := .int (nI vf)) (ty := .int) (C := RX0) (T := TX0) (N := 4) hx hb hts in_X0 tyX0 tyX0_ok nmX0 hown hK hP hD hS (10 + n) (vkW_rule (by omega)) rfl 1 (by decide) lf_29 (fun _ h9 => h9) rfl (by decide +kernel) rfl rfl (Nat.le_of_ble_eq_true rfl) dX1_write_20 (fun H locs hP hD hS => ?_)
  rw [vkW_p1 (by omega)] at hP hD
  have hP : va_P (dC, dI) vwCl (vkW a cA n (va_up hd n vh) (va_up fm n vf) rp rq nd nw bf su sI sO ct) H := hP
  have hD : va_D A (vkW a cA n (va_up hd n vh) (va_up fm n vf) rp rq nd nw bf su sI sO ct) := hD
  refine lv_aload hx hb dX1_write_23 (lv_at hl 0 rfl) ?_
  refine lv_iload_n hx hb dX1_write_25 rfl (lv_at hl 4 rfl) ?_
  refine va_putN (D := (dC, dI)) (ci := 0) (v := .int (nI vp)) (ty := .int) (C := RX0) (T := TX0) (N := 4) hx hb hts in_X0 tyX0 tyX0_ok nmX0 hown hK hP hD hS (10 + n) (vkW_rule (by omega)) rfl 2 (by decide) lf_32 (fun _ h9 => h9) rfl (by decide +kernel) rfl rfl (Nat.le_of_ble_eq_true rfl) dX1_write_26 (fun H locs hP hD hS => ?_)
  rw [vkW_p2 (by omega)] at hP hD
  have hP : va_P (dC, dI) vwCl (vkW a cA n (va_up hd n vh) (va_up fm n vf) (va_up rp n vp) rq nd nw bf su sI sO ct) H := hP
  have hD : va_D A (vkW a cA n (va_up hd n vh) (va_up fm n vf) (va_up rp n vp) rq nd nw bf su sI sO ct) := hD
  refine lv_aload hx hb dX1_write_29 (lv_at hl 0 rfl) ?_
  refine lv_iload hx hb dX1_write_31 (lv_at hl 5 rfl) ?_
  refine va_putN (D := (dC, dI)) (ci := 0) (v := .int (nI vq)) (ty := .int) (C := RX0) (T := TX0) (N := 4) hx hb hts in_X0 tyX0 tyX0_ok nmX0 hown hK hP hD hS (10 + n) (vkW_rule (by omega)) rfl 3 (by decide) lf_35 (fun _ h9 => h9) rfl (by decide +kernel) rfl rfl (Nat.le_of_ble_eq_true rfl) dX1_write_33 (fun H locs hP hD hS => ?_)
  rw [vkW_p3 (by omega)] at hP hD
  have hP : va_P (dC, dI) vwCl (vkW a cA n (va_up hd n vh) (va_up fm n vf) (va_up rp n vp) (va_up rq n vq) nd nw bf su sI sO ct) H := hP
  have hD : va_D A (vkW a cA n (va_up hd n vh) (va_up fm n vf) (va_up rp n vp) (va_up rq n vq) nd nw bf su sI sO ct) := hD
  refine lv_aload_n hx hb dX1_write_36 rfl (lv_at hl 1 rfl) ?_
  refine lv_dup hx hb dX1_write_37 rfl ?_
  refine va_get (D := (dC, dI)) (ci := 1) (v := .int (nI n)) (C := RX1) (T := TX1) (N := 3) hx hb hts in_X1 hown hK hP 1 rfl rfl 2 (by decide) lf_22 (fun _ h9 => h9) rfl dX1_write_38 ?_
  refine lv_iconst (v := nI 1) hx hb dX1_write_41 (by decide) ?_
  refine hx_iadd hx hb dX1_write_42 ?_
  refine va_put (D := (dC, dI)) (ci := 1) (v := .int (nI (n + 1))) (ty := .int) (C := RX1) (T := TX1) (N := 3) hx hb hts in_X1 tyX1 tyX1_ok nmX1 hown hK hP hD hS 1 rfl rfl 2 (by decide) lf_22 (fun _ h9 => h9) rfl (by decide +kernel) rfl rfl (Nat.le_of_ble_eq_true rfl) dX1_write_43 (fun H locs hP hD hS => ?_)
  have hP : va_P (dC, dI) vwCl (vkW a cA (n + 1) (va_up hd n vh) (va_up fm n vf) (va_up rp n vp) (va_up rq n vq) nd nw bf su sI sO ct) H := hP
  have hD : va_D A (vkW a cA (n + 1) (va_up hd n vh) (va_up fm n vf) (va_up rp n vp) (va_up rq n vq) nd nw bf su sI sO ct) := hD
  refine lv_aload_n hx hb dX1_write_46 rfl (lv_at hl 1 rfl) ?_
  refine hx_wrv (va_runV (As := []) (rest := []) ⟨hx, hb, hml, hown, hts⟩ (c_X1_findNeeded l dC dI a cA (n + 1) (va_up hd n vh) (va_up fm n vf) (va_up rp n vp) (va_up rq n vq) nd nw bf su sI sO ct (ruOk_add hy_0 hy_1 hy_2) H.size) (cwV 0 hts gX1_write_X1_findNeeded rfl rfl rfl (by decide +kernel) ⟨Nat.le_of_ble_eq_true rfl, Nat.le_of_ble_eq_true rfl⟩) (wr_V nstW_ok hP hK hN hD 1 rfl rfl _) rfl rfl hl.1 rfl (lv_room (Nat.le_of_ble_eq_true rfl)) dX1_write_47 ⟨Nat.zero_le _, Nat.zero_le _⟩) hD hS hA (fun H locs hP hD hS => ?_)
  have hP : va_P (dC, dI) vwCl (vkW a cA ((n + 1)) ((va_up hd n vh)) ((va_up fm n vf)) ((va_up rp n vp)) ((va_up rq n vq)) (ndA (n + 1) (va_up hd n vh) (va_up fm n vf) (va_up rp n vp) (va_up rq n vq)) nw bf su sI sO ct) H := hP
  have hD : va_D A (vkW a cA ((n + 1)) ((va_up hd n vh)) ((va_up fm n vf)) ((va_up rp n vp)) ((va_up rq n vq)) (ndA (n + 1) (va_up hd n vh) (va_up fm n vf) (va_up rp n vp) (va_up rq n vq)) nw bf su sI sO ct) := hD
  have e9 : vkW a cA ((n + 1)) ((va_up hd n vh)) ((va_up fm n vf)) ((va_up rp n vp)) ((va_up rq n vq)) (ndA (n + 1) (va_up hd n vh) (va_up fm n vf) (va_up rp n vp) (va_up rq n vq)) nw bf su sI sO ct = vkW a cA (n + 1) (va_up hd n vh) (va_up fm n vf) (va_up rp n vp) (va_up rq n vq) (ndA (n + 1) (va_up hd n vh) (va_up fm n vf) (va_up rp n vp) (va_up rq n vq)) nw bf su sI sO ct := rfl
  rw [e9] at hP hD
  subst hAe
  exact W.vret hx hb hr (fun t ht hW => ⟨⟨(), rfl, trivial, by rw [ht]; exact hP, va_K.moved hW.alike hK, hD⟩, hS.F ht⟩) hS.2.2 dX1_write_50

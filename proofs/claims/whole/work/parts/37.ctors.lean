/-! THE CONSTRUCTORS -/
set_option maxHeartbeats 4000000 in
set_option maxRecDepth 100000 in
/-- Rule(): nothing changes -/
theorem c_X0_init (l : Launch) (h0 : Nat) : Met l yX0_init wsX0_init ({ frames := 1, cells := 0, slots := 0, locals := 20 }) (va_Pc [.ref h0] (fun _ => True)) (va_Sv (fun _ => True)) 0 0 (fun _ => False) := by
  refine Met.ofW (cc := cX0_init) (maxL := 1) (ret := none) (by decide) rfl ?_
  intro p e s m args below meth c s₁ B hml hv
  obtain ⟨rfl, -⟩ := hv
  have hx := B.exec
  have hb := B.bytes
  have hr := B.returns
  have hts := atoms_spec (ws := wsX0_init) B.pre
  have hown : s.vm.findClass RX0 = some m.cls := findClass_of_methodNamed B.named
  have hlocks := B.notSynchronized
  have hin : meth.name = "<init>" := (name_of_methodNamed B.named B.method).1
  have hl := lv_entry ([.ref h0]) (n := 1) (Nat.le_of_ble_eq_true rfl)
  rw [lg_entry_eq]
  generalize (lg_sl ([.ref h0]) ++ List.replicate (1 - (lg_sl ([.ref h0])).length) Slot.unset).toArray = ls at hl ⊢
  have hl : lv_has ls 1 [(0, .ref h0)] := hl
  refine lv_aload_n hx hb dX0_init_0 rfl (lv_at hl 0 rfl) ?_
  refine W.objInit hx hb hown (hts (.methodLink RX0 3 objectInit) (by decide +kernel)) (hts (.instanceMethod objectInit) (by decide +kernel)) (hts (.code objectInit ⟨#[0xb1]⟩ 1 none) (List.mem_of_getElem? (i := 3) rfl)) rfl (by rw [hml]; exact hl.1) rfl dX0_init_1 (Nat.le_of_ble_eq_true rfl) (Nat.le_of_ble_eq_true rfl) ?_
  refine W.eq (g2 := F0 m 4 ls []) rfl ?_
  exact W.vret hx hb hr (fun t ht hW => ⟨rfl, trivial, ht⟩) (fun _ h => by cases h) dX0_init_4
theorem cellq_congr (cA : ClassId) {n : Nat} {f g : Nat → Option Nat} (h : ∀ k, k < n → f k = g k) : vp_cell cA (n, .inr (.inr (.inr (.inr f)))) = vp_cell cA (n, .inr (.inr (.inr (.inr g)))) := by
  rw [vp_cell_q, vp_cell_q]
  unfold arrV
  congr 1
  apply Array.ext
  · simp
  · intro i h1 h2
    simp at h1
    simp [h i h1]
theorem va_P.arrq {D : va_G} {cl : List vw_C} {ws : va_W} {H : Heap} (hP : va_P D cl ws H) (q0 : Nat) {a : Nat} {cA : ClassId} {n : Nat} {f : Nat → Option Nat} (g : Nat → Option Nat) (he : ws[q0]? = some (a, .inl (cA, n, .inr (.inr (.inr (.inr f)))))) (h : ∀ k, k < n → f k = g k) : va_P D cl (ws.set q0 (a, .inl (cA, n, .inr (.inr (.inr (.inr g)))))) H := by
  intro k q hk
  by_cases e : q0 = k
  · subst e
    have hl := (List.getElem?_eq_some_iff.mp he).1
    rw [List.getElem?_set_self hl] at hk
    cases hk
    show H[a]? = some (vp_cell cA (n, .inr (.inr (.inr (.inr g)))))
    rw [← cellq_congr cA h]
    exact hP q0 _ he
  · rw [List.getElem?_set_ne e] at hk
    exact hP k q hk
/-- the first k rules of a book that is being made -/
def rlW (ra : Nat → Nat) (k : Nat) : va_W := (List.range k).map (fun j => (ra j, .inr (0, [.int 0, .int 0, .int 0, .int 0])))
theorem rlW_push (ra : Nat → Nat) (k q : Nat) (X : va_W) : (X ++ rlW ra k) ++ [(q, .inr (0, [.int 0, .int 0, .int 0, .int 0]))] = X ++ rlW (va_up ra k q) (k + 1) := by
  rw [List.append_assoc]
  congr 1
  unfold rlW
  rw [List.range_succ, List.map_append]
  congr 1
  · apply List.map_congr_left
    intro j hj
    rw [List.mem_range] at hj
    rw [va_up_ne ra q (by omega)]
  · simp [va_up_self]
theorem rlW_last (ra : Nat → Nat) (k q : Nat) (x y : Nat × va_E) : ([x, y] ++ rlW (va_up ra k q) (k + 1))[2 + k]? = some (q, .inr (0, [.int 0, .int 0, .int 0, .int 0])) := by
  rw [List.getElem?_append_right (by simp)]
  unfold rlW
  simp [va_up_self]
theorem rlW12 (ra : Nat → Nat) (x y : Nat × va_E) : [x, y] ++ rlW ra 12 = [x, y, (ra 0, .inr (0, [.int 0, .int 0, .int 0, .int 0])), (ra 1, .inr (0, [.int 0, .int 0, .int 0, .int 0])), (ra 2, .inr (0, [.int 0, .int 0, .int 0, .int 0])), (ra 3, .inr (0, [.int 0, .int 0, .int 0, .int 0])), (ra 4, .inr (0, [.int 0, .int 0, .int 0, .int 0])), (ra 5, .inr (0, [.int 0, .int 0, .int 0, .int 0])), (ra 6, .inr (0, [.int 0, .int 0, .int 0, .int 0])), (ra 7, .inr (0, [.int 0, .int 0, .int 0, .int 0])), (ra 8, .inr (0, [.int 0, .int 0, .int 0, .int 0])), (ra 9, .inr (0, [.int 0, .int 0, .int 0, .int 0])), (ra 10, .inr (0, [.int 0, .int 0, .int 0, .int 0])), (ra 11, .inr (0, [.int 0, .int 0, .int 0, .int 0]))] := rfl
theorem set_1 (x y z : Nat × va_E) (X : va_W) : ([x, y] ++ X).set 1 z = [x, z] ++ X := rfl
/-- a book as it comes out of its constructor -/
def bkW (h0 : Nat) (a : Nat → Nat) (cA : Nat → ClassId) : va_W := [(h0, .inr (1, [.ref (a 2), .ref (a 3), .int (nI 0)])), (a 2, .inl (cA 2, 12, .inr (.inr (.inr (.inr (fun k => some (a (10 + k)))))))), (a 3, .inl (cA 3, 7, .inl (fun _ => nI 0)))] ++ (List.range 12).map (fun k => (a (10 + k), .inr (0, [.int (nI 0), .int (nI 0), .int (nI 0), .int (nI 0)])))
def bkT (cA : Nat → ClassId) : List (ClassId × FieldType) := [(cA 2, .object RX0), (cA 3, .int)]
def adF (l : List Nat) (f : Nat → Nat) (k : Nat) : Nat := if k < l.length then l.getD k 0 else f k
def ccF (l : List ClassId) (d : ClassId) (k : Nat) : ClassId := l.getD k d
/-- what a constructor is told: its object as it was made -/
def nwP (D : va_G) (ws : va_W) (sz : Nat) (U : State) : Prop := wrP D vwCl ws [] nstW sz U ∧ va_AO RX0 U
theorem nw_S {D : va_G} {ws : va_W} {s : State} {H : Heap} {A : Nat → Prop} (hP : va_P D vwCl ws H) (hK : va_K D vwCl [] s) (hN : ∀ w ∈ nstW, va_Nw w s) (hO : va_AO RX0 s) (hD : va_D A ws) (As : List Value) : PreS s H (va_Pc As (nwP D ws H.size)) As := by
  refine ⟨fun a U g mk q => ?_, fun U hU hW => ⟨rfl, wr_at nstW_ok hP hK hN hD hU hW, va_AO.moved hW.alike hO⟩⟩
  obtain ⟨q0, q1, q2⟩ := q
  exact ⟨q0, (wr_blind (As := As) nstW_ok a U g mk ⟨q0, q1⟩).2, q2⟩
set_option maxHeartbeats 4000000 in
set_option maxRecDepth 100000 in
/-- RuleBook(): rows of twelve new rules, no rule made -/
theorem c_X1_init (l : Launch) (dC : Nat → ClassId) (dI : Nat → Nat → Nat) (h0 : Nat) (sz : Nat) : Met l yX1_init wsX1_init ({ frames := 2, cells := 14, slots := 67, locals := 40 }) (va_Pc [.ref h0] (nwP (dC, dI) [(h0, .inr (1, [.null, .null, .int 0]))] sz)) (va_Qv (fun _ : (Nat → Nat) × (Nat → ClassId) => True) (fun u t => va_P (dC, dI) vwCl (bkW h0 u.1 u.2) t.heap ∧ va_K (dC, dI) vwCl (bkT u.2) t ∧ va_D (va_A [(h0, .inr (1, [.null, .null, .int 0]))] sz) (bkW h0 u.1 u.2)) (va_A [(h0, .inr (1, [.null, .null, .int 0]))] sz)) 14 67 (va_A [(h0, .inr (1, [.null, .null, .int 0]))] sz) := by
  refine Met.ofW (cc := cX1_init) (maxL := 2) (ret := none) (by decide) rfl ?_
  intro p e s m args below meth c s₁ B hml hv
  obtain ⟨rfl, ⟨hsz, ⟨hP, hK, hN⟩, hD0⟩, hO⟩ := hv
  subst hsz
  have hx := B.exec
  have hb := B.bytes
  have hr := B.returns
  have hts := atoms_spec (ws := wsX1_init) B.pre
  have hown : s.vm.findClass RX1 = some m.cls := findClass_of_methodNamed B.named
  have hlocks := B.notSynchronized
  have hin : meth.name = "<init>" := (name_of_methodNamed B.named B.method).1
  have in_X1 : ∀ w ∈ u_ws RX1 TX1 3, w ∈ wsX1_init := by decide +kernel
  have in_X0 : ∀ w ∈ u_ws RX0 TX0 4, w ∈ wsX1_init := by decide +kernel
  have lf_11 := hts (.fieldLink RX1 11 "ViewKeeper$RuleBook" "rows" "[LViewKeeper$Rule;") (by decide +kernel)
  have lf_18 := hts (.fieldLink RX1 18 "ViewKeeper$RuleBook" "needed" "[I") (by decide +kernel)
  have lf_22 := hts (.fieldLink RX1 22 "ViewKeeper$RuleBook" "made" "I") (by decide +kernel)
  obtain ⟨A, hAe⟩ : ∃ A, A = va_A [(h0, .inr (1, [.null, .null, .int 0]))] s.heap.size := ⟨_, rfl⟩
  have hD : va_D A [(h0, .inr (1, [.null, .null, .int 0]))] := by rw [hAe]; exact hD0.self (sz := s.heap.size)
  have hA : ∀ q : Nat, s.heap.size ≤ q → A q := fun q h => by rw [hAe]; exact Or.inr h
  have hS : va_S A s.heap s.heap [] := va_S.rf
  have hP : va_P (dC, dI) vwCl [(h0, .inr (1, [.null, .null, .int 0]))] s.heap := hP
  have hl := lv_entry ([.ref h0]) (n := 2) (Nat.le_of_ble_eq_true rfl)
  rw [lg_entry_eq]
  generalize (lg_sl ([.ref h0]) ++ List.replicate (2 - (lg_sl ([.ref h0])).length) Slot.unset).toArray = ls at hl ⊢
  have hl : lv_has ls 2 [(0, .ref h0)] := hl
  refine lv_aload_n hx hb dX1_init_0 rfl (lv_at hl 0 rfl) ?_
  refine W.objInit hx hb hown (hts (.methodLink RX1 3 objectInit) (by decide +kernel)) (hts (.instanceMethod objectInit) (by decide +kernel)) (hts (.code objectInit ⟨#[0xb1]⟩ 1 none) (List.mem_of_getElem? (i := 3) rfl)) rfl (by rw [hml]; exact hl.1) rfl dX1_init_1 (Nat.le_of_ble_eq_true rfl) (Nat.le_of_ble_eq_true rfl) ?_
  refine W.eq (g2 := F0 m 4 ls []) rfl ?_
  refine lv_aload_n hx hb dX1_init_4 rfl (lv_at hl 0 rfl) ?_
  refine lv_bipush (v := nI 12) hx hb dX1_init_5 (by decide) ?_
  refine va_newq (N' := 12) hx hb hown (hts (.classLink RX1 9 RX0) (by decide +kernel)) hO hK hP hD hS hA (by decide) (by decide) (by decide) (Nat.le_of_ble_eq_true rfl) (Nat.le_of_ble_eq_true rfl) dX1_init_7 (fun hR cR H hK hP hD hS => ?_)
  have hK : va_K (dC, dI) vwCl [(cR, .object RX0)] s := hK
  refine va_putF (D := (dC, dI)) (ci := 1) (v := .ref hR) (ty := .array (.object "ViewKeeper$Rule")) (C := RX1) (T := TX1) (N := 3) hx hb hts in_X1 tyX1 tyX1_ok nmX1 hown hK hP hD hS 0 rfl rfl 0 (by decide) lf_11 (fun _ h9 => h9) rfl hin rfl (by decide +kernel) rfl rfl (Nat.le_of_ble_eq_true rfl) dX1_init_10 (fun H locs hP hD hS => ?_)
  have hP : va_P (dC, dI) vwCl [(h0, .inr (1, [.ref hR, .null, .int 0])), (hR, .inl (cR, 12, .inr (.inr (.inr (.inr (fun _ => none))))))] H := hP
  have hD : va_D A [(h0, .inr (1, [.ref hR, .null, .int 0])), (hR, .inl (cR, 12, .inr (.inr (.inr (.inr (fun _ => none))))))] := hD
  refine lv_iconst (v := nI 0) hx hb dX1_init_13 (by decide) ?_
  refine lv_istore_n (lv' := [(1, .int (nI 0)), (0, .ref h0)]) hx hb dX1_init_14 rfl hl (by decide) rfl (fun ls hl => ?_)
  have L : ∀ (nn i : Nat) (f : Nat → Option Nat) (ra : Nat → Nat), i + nn = 12 → (∀ k, k < i → f k = some (ra k)) → ∀ (H : Heap) (locs : List Loc), va_P (dC, dI) vwCl ([(h0, .inr (1, [.ref hR, .null, .int 0])), (hR, .inl (cR, 12, .inr (.inr (.inr (.inr f)))))] ++ rlW ra i) H → va_D A ([(h0, .inr (1, [.ref hR, .null, .int 0])), (hR, .inl (cR, 12, .inr (.inr (.inr (.inr f)))))] ++ rlW ra i) → va_S A s.heap H locs → ∀ ls : Array Slot, lv_has ls 2 [(0, .ref h0), (1, .int (nI i))] →
      (∀ (f : Nat → Option Nat) (ra : Nat → Nat), (∀ k, k < 12 → f k = some (ra k)) → ∀ (H : Heap) (locs : List Loc), va_P (dC, dI) vwCl ([(h0, .inr (1, [.ref hR, .null, .int 0])), (hR, .inl (cR, 12, .inr (.inr (.inr (.inr f)))))] ++ rlW ra 12) H → va_D A ([(h0, .inr (1, [.ref hR, .null, .int 0])), (hR, .inl (cR, 12, .inr (.inr (.inr (.inr f)))))] ++ rlW ra 12) → va_S A s.heap H locs → ∀ ls : Array Slot, lv_has ls 2 [(0, .ref h0), (1, .int (nI 12))] → W p l e (headSpec wsX1_init ({ frames := 2, cells := 14, slots := 67, locals := 40 })).room s m ([.ref h0] : List Value).toArray below meth c H locs 13 60 (MQ below (va_Qv (fun _ : (Nat → Nat) × (Nat → ClassId) => True) (fun u t => va_P (dC, dI) vwCl (bkW h0 u.1 u.2) t.heap ∧ va_K (dC, dI) vwCl (bkT u.2) t ∧ va_D (va_A [(h0, .inr (1, [.null, .null, .int 0]))] s.heap.size) (bkW h0 u.1 u.2)) (va_A [(h0, .inr (1, [.null, .null, .int 0]))] s.heap.size)) ([.ref h0] : List Value).toArray s 14 67 (va_A [(h0, .inr (1, [.null, .null, .int 0]))] s.heap.size)) (F0 m 40 ls [])) →
      W p l e (headSpec wsX1_init ({ frames := 2, cells := 14, slots := 67, locals := 40 })).room s m ([.ref h0] : List Value).toArray below meth c H locs (1 + i) (12 + 4 * i) (MQ below (va_Qv (fun _ : (Nat → Nat) × (Nat → ClassId) => True) (fun u t => va_P (dC, dI) vwCl (bkW h0 u.1 u.2) t.heap ∧ va_K (dC, dI) vwCl (bkT u.2) t ∧ va_D (va_A [(h0, .inr (1, [.null, .null, .int 0]))] s.heap.size) (bkW h0 u.1 u.2)) (va_A [(h0, .inr (1, [.null, .null, .int 0]))] s.heap.size)) ([.ref h0] : List Value).toArray s 14 67 (va_A [(h0, .inr (1, [.null, .null, .int 0]))] s.heap.size)) (F0 m 15 ls []) := by
    intro nn
    induction nn with
    | zero =>
      intro i f ra hn hf H locs hP hD hS ls hl kx
      obtain rfl : i = 12 := by omega
      refine lv_iload_n hx hb dX1_init_15 rfl (lv_at hl 1 rfl) ?_
      refine lv_bipush (v := nI 12) hx hb dX1_init_16 (by decide) ?_
      refine hx_geN (tgt := 40) hx hb dX1_init_18 (by decide) (by omega) (by omega) (fun c_1 => ?_) (fun c_1 => absurd c_1 (by omega))
      exact W.widen (k := 13) (n := 60) (by omega) (by omega) (kx f ra hf H locs hP hD hS ls hl)
    | succ nn ih =>
      intro i f ra hn hf H locs hP hD hS ls hl kx
      refine lv_iload_n hx hb dX1_init_15 rfl (lv_at hl 1 rfl) ?_
      refine lv_bipush (v := nI 12) hx hb dX1_init_16 (by decide) ?_
      refine hx_geN (tgt := 40) hx hb dX1_init_18 (by decide) (by omega) (by omega) (fun c_1 => absurd c_1 (by omega)) (fun c_1 => ?_)
      refine lv_aload_n hx hb dX1_init_21 rfl (lv_at hl 0 rfl) ?_
      refine va_get (D := (dC, dI)) (ci := 1) (v := .ref hR) (C := RX1) (T := TX1) (N := 3) hx hb hts in_X1 hown hK hP 0 rfl rfl 0 (by decide) lf_11 (fun _ h9 => h9) rfl dX1_init_22 ?_
      refine lv_iload_n hx hb dX1_init_25 rfl (lv_at hl 1 rfl) ?_
      have hc1 : 1 + i + 1 ≤ 14 := by omega
      have hc2 : 12 + 4 * i + 4 ≤ 67 := by omega
      refine va_new (ci := 0) (fs := [.int 0, .int 0, .int 0, .int 0]) (C := RX0) (T := TX0) (N := 4) hx hb hts in_X0 tyX0 tyX0_ok hown (hts (.classLink RX1 9 RX0) (by decide +kernel)) (hts (.instantiable RX0 4) (by decide +kernel)) (hts (.initialized RX0) (by decide +kernel)) hK hP hD hS hA rfl (fun j hj => by rcases (show j = 0 ∨ j = 1 ∨ j = 2 ∨ j = 3 by omega) with rfl | rfl | rfl | rfl <;> rfl) hc1 hc2 dX1_init_26 (fun q H hP hD hS => ?_)
      rw [rlW_push] at hP hD
      refine lv_dup hx hb dX1_init_29 rfl ?_
      refine va_csv (va_runIN (As := []) (rest := [.ref q, .int (nI i), .ref hR]) ⟨hx, hb, hml, hown, hts⟩ (c_X0_init l q) ⟨va_cnB 0 hts gX1_init_X0_init_n17 rfl rfl rfl (hN (.methodLinkNest RX1 17 yX0_init "ViewKeeper") (by decide +kernel)) (hts (.initialized RX0) (by decide +kernel)) (by decide +kernel) ⟨Nat.le_of_ble_eq_true rfl, Nat.le_of_ble_eq_true rfl⟩, rfl, hts (.instanceMethod yX0_init) (by decide +kernel)⟩ (nu_S _) rfl rfl hl.1 rfl (lv_room (Nat.le_of_ble_eq_true rfl)) dX1_init_30 ⟨hc1, hc2⟩).run (fun _ => ?_)
      refine va_astq hx hb hK hP hD hS 1 0 (2 + i) 0 (r := (RX0, TX0, 4)) rfl rfl (rlW_last ra i q _ _) rfl (vp_in_nI (by omega) (by omega)) dX1_init_33 (fun H locs hP hD hS => ?_)
      rw [nI_clamp (show i < 2 ^ 31 by omega), set_1] at hP hD
      refine lv_iinc (v := nI (i + 1)) (lv' := [(1, .int (nI (i + 1))), (0, .ref h0)]) hx hb dX1_init_34 hl (k := 1) rfl (nI_add i 1) (by decide) rfl (fun ls hl => ?_)
      refine lv_goto (tgt := 15) hx hb dX1_init_37 (by decide) ?_
      refine W.widen (k := 1 + (i + 1)) (n := 12 + 4 * (i + 1)) (by omega) (by omega) ?_
      refine ih (i + 1) (va_up f i (some q)) (va_up ra i q) (by omega) (fun k hk => ?_) H locs hP hD hS ls (lv_sub hl [1, 0] rfl) kx
      by_cases e9 : k = i
      · rw [e9, va_up_self, va_up_self]
      · rw [va_up_ne f _ e9, va_up_ne ra _ e9]
        exact hf k (by omega)
  have hP : va_P (dC, dI) vwCl ([(h0, .inr (1, [.ref hR, .null, .int 0])), (hR, .inl (cR, 12, .inr (.inr (.inr (.inr (fun _ => none))))))] ++ rlW (fun _ => 0) 0) H := by rw [show rlW (fun _ => 0) 0 = [] from rfl, List.append_nil]; exact hP
  have hD : va_D A ([(h0, .inr (1, [.ref hR, .null, .int 0])), (hR, .inl (cR, 12, .inr (.inr (.inr (.inr (fun _ => none))))))] ++ rlW (fun _ => 0) 0) := by rw [show rlW (fun _ => 0) 0 = [] from rfl, List.append_nil]; exact hD
  refine L 12 0 (fun _ => none) (fun _ => 0) (by omega) (fun k hk => absurd hk (Nat.not_lt_zero _)) H locs hP hD hS ls (lv_sub hl [1, 0] rfl) (fun f ra hf H locs hP hD hS ls hl => ?_)
  rw [rlW12] at hP hD
  refine lv_aload_n hx hb dX1_init_40 rfl (lv_at hl 0 rfl) ?_
  refine lv_bipush (v := nI 7) hx hb dX1_init_41 (by decide) ?_
  refine va_newa (atype := .int) (a0 := (7, .inl (fun _ => 0))) (N' := 7) (ty := .int) (n := nI 7) hx hb (hts (.arrayClass .int) (by decide +kernel)) rfl hK hP hD hS hA (fun _ => rfl) (nI_pos (by omega)) (nI_clamp (by omega)) (Nat.le_of_ble_eq_true rfl) (Nat.le_of_ble_eq_true rfl) (Nat.le_of_ble_eq_true rfl) dX1_init_43 (fun hM cN H hK hP hD hS => ?_)
  have hP : va_P (dC, dI) vwCl [(h0, .inr (1, [.ref hR, .null, .int 0])), (hR, .inl (cR, 12, .inr (.inr (.inr (.inr f))))), (ra 0, .inr (0, [.int 0, .int 0, .int 0, .int 0])), (ra 1, .inr (0, [.int 0, .int 0, .int 0, .int 0])), (ra 2, .inr (0, [.int 0, .int 0, .int 0, .int 0])), (ra 3, .inr (0, [.int 0, .int 0, .int 0, .int 0])), (ra 4, .inr (0, [.int 0, .int 0, .int 0, .int 0])), (ra 5, .inr (0, [.int 0, .int 0, .int 0, .int 0])), (ra 6, .inr (0, [.int 0, .int 0, .int 0, .int 0])), (ra 7, .inr (0, [.int 0, .int 0, .int 0, .int 0])), (ra 8, .inr (0, [.int 0, .int 0, .int 0, .int 0])), (ra 9, .inr (0, [.int 0, .int 0, .int 0, .int 0])), (ra 10, .inr (0, [.int 0, .int 0, .int 0, .int 0])), (ra 11, .inr (0, [.int 0, .int 0, .int 0, .int 0])), (hM, .inl (cN, 7, .inl (fun _ => 0)))] H := hP
  have hD : va_D A [(h0, .inr (1, [.ref hR, .null, .int 0])), (hR, .inl (cR, 12, .inr (.inr (.inr (.inr f))))), (ra 0, .inr (0, [.int 0, .int 0, .int 0, .int 0])), (ra 1, .inr (0, [.int 0, .int 0, .int 0, .int 0])), (ra 2, .inr (0, [.int 0, .int 0, .int 0, .int 0])), (ra 3, .inr (0, [.int 0, .int 0, .int 0, .int 0])), (ra 4, .inr (0, [.int 0, .int 0, .int 0, .int 0])), (ra 5, .inr (0, [.int 0, .int 0, .int 0, .int 0])), (ra 6, .inr (0, [.int 0, .int 0, .int 0, .int 0])), (ra 7, .inr (0, [.int 0, .int 0, .int 0, .int 0])), (ra 8, .inr (0, [.int 0, .int 0, .int 0, .int 0])), (ra 9, .inr (0, [.int 0, .int 0, .int 0, .int 0])), (ra 10, .inr (0, [.int 0, .int 0, .int 0, .int 0])), (ra 11, .inr (0, [.int 0, .int 0, .int 0, .int 0])), (hM, .inl (cN, 7, .inl (fun _ => 0)))] := hD
  have hK : va_K (dC, dI) vwCl [(cR, .object RX0), (cN, .int)] s := hK
  refine va_putF (D := (dC, dI)) (ci := 1) (v := .ref hM) (ty := .array .int) (C := RX1) (T := TX1) (N := 3) hx hb hts in_X1 tyX1 tyX1_ok nmX1 hown hK hP hD hS 0 rfl rfl 1 (by decide) lf_18 (fun _ h9 => h9) rfl hin rfl (by decide +kernel) rfl rfl (Nat.le_of_ble_eq_true rfl) dX1_init_45 (fun H locs hP hD hS => ?_)
  have hP : va_P (dC, dI) vwCl [(h0, .inr (1, [.ref hR, .ref hM, .int 0])), (hR, .inl (cR, 12, .inr (.inr (.inr (.inr f))))), (ra 0, .inr (0, [.int 0, .int 0, .int 0, .int 0])), (ra 1, .inr (0, [.int 0, .int 0, .int 0, .int 0])), (ra 2, .inr (0, [.int 0, .int 0, .int 0, .int 0])), (ra 3, .inr (0, [.int 0, .int 0, .int 0, .int 0])), (ra 4, .inr (0, [.int 0, .int 0, .int 0, .int 0])), (ra 5, .inr (0, [.int 0, .int 0, .int 0, .int 0])), (ra 6, .inr (0, [.int 0, .int 0, .int 0, .int 0])), (ra 7, .inr (0, [.int 0, .int 0, .int 0, .int 0])), (ra 8, .inr (0, [.int 0, .int 0, .int 0, .int 0])), (ra 9, .inr (0, [.int 0, .int 0, .int 0, .int 0])), (ra 10, .inr (0, [.int 0, .int 0, .int 0, .int 0])), (ra 11, .inr (0, [.int 0, .int 0, .int 0, .int 0])), (hM, .inl (cN, 7, .inl (fun _ => 0)))] H := hP
  have hD : va_D A [(h0, .inr (1, [.ref hR, .ref hM, .int 0])), (hR, .inl (cR, 12, .inr (.inr (.inr (.inr f))))), (ra 0, .inr (0, [.int 0, .int 0, .int 0, .int 0])), (ra 1, .inr (0, [.int 0, .int 0, .int 0, .int 0])), (ra 2, .inr (0, [.int 0, .int 0, .int 0, .int 0])), (ra 3, .inr (0, [.int 0, .int 0, .int 0, .int 0])), (ra 4, .inr (0, [.int 0, .int 0, .int 0, .int 0])), (ra 5, .inr (0, [.int 0, .int 0, .int 0, .int 0])), (ra 6, .inr (0, [.int 0, .int 0, .int 0, .int 0])), (ra 7, .inr (0, [.int 0, .int 0, .int 0, .int 0])), (ra 8, .inr (0, [.int 0, .int 0, .int 0, .int 0])), (ra 9, .inr (0, [.int 0, .int 0, .int 0, .int 0])), (ra 10, .inr (0, [.int 0, .int 0, .int 0, .int 0])), (ra 11, .inr (0, [.int 0, .int 0, .int 0, .int 0])), (hM, .inl (cN, 7, .inl (fun _ => 0)))] := hD
  refine lv_aload_n hx hb dX1_init_48 rfl (lv_at hl 0 rfl) ?_
  refine lv_iconst (v := nI 0) hx hb dX1_init_49 (by decide) ?_
  refine va_put (D := (dC, dI)) (ci := 1) (v := .int (nI 0)) (ty := .int) (C := RX1) (T := TX1) (N := 3) hx hb hts in_X1 tyX1 tyX1_ok nmX1 hown hK hP hD hS 0 rfl rfl 2 (by decide) lf_22 (fun _ h9 => h9) rfl (by decide +kernel) rfl rfl (Nat.le_of_ble_eq_true rfl) dX1_init_50 (fun H locs hP hD hS => ?_)
  have hP : va_P (dC, dI) vwCl [(h0, .inr (1, [.ref hR, .ref hM, .int (nI 0)])), (hR, .inl (cR, 12, .inr (.inr (.inr (.inr f))))), (ra 0, .inr (0, [.int 0, .int 0, .int 0, .int 0])), (ra 1, .inr (0, [.int 0, .int 0, .int 0, .int 0])), (ra 2, .inr (0, [.int 0, .int 0, .int 0, .int 0])), (ra 3, .inr (0, [.int 0, .int 0, .int 0, .int 0])), (ra 4, .inr (0, [.int 0, .int 0, .int 0, .int 0])), (ra 5, .inr (0, [.int 0, .int 0, .int 0, .int 0])), (ra 6, .inr (0, [.int 0, .int 0, .int 0, .int 0])), (ra 7, .inr (0, [.int 0, .int 0, .int 0, .int 0])), (ra 8, .inr (0, [.int 0, .int 0, .int 0, .int 0])), (ra 9, .inr (0, [.int 0, .int 0, .int 0, .int 0])), (ra 10, .inr (0, [.int 0, .int 0, .int 0, .int 0])), (ra 11, .inr (0, [.int 0, .int 0, .int 0, .int 0])), (hM, .inl (cN, 7, .inl (fun _ => 0)))] H := hP
  have hD : va_D A [(h0, .inr (1, [.ref hR, .ref hM, .int (nI 0)])), (hR, .inl (cR, 12, .inr (.inr (.inr (.inr f))))), (ra 0, .inr (0, [.int 0, .int 0, .int 0, .int 0])), (ra 1, .inr (0, [.int 0, .int 0, .int 0, .int 0])), (ra 2, .inr (0, [.int 0, .int 0, .int 0, .int 0])), (ra 3, .inr (0, [.int 0, .int 0, .int 0, .int 0])), (ra 4, .inr (0, [.int 0, .int 0, .int 0, .int 0])), (ra 5, .inr (0, [.int 0, .int 0, .int 0, .int 0])), (ra 6, .inr (0, [.int 0, .int 0, .int 0, .int 0])), (ra 7, .inr (0, [.int 0, .int 0, .int 0, .int 0])), (ra 8, .inr (0, [.int 0, .int 0, .int 0, .int 0])), (ra 9, .inr (0, [.int 0, .int 0, .int 0, .int 0])), (ra 10, .inr (0, [.int 0, .int 0, .int 0, .int 0])), (ra 11, .inr (0, [.int 0, .int 0, .int 0, .int 0])), (hM, .inl (cN, 7, .inl (fun _ => 0)))] := hD
  have hP := hP.arrq 1 (fun k => some (adF [0, 0, hR, hM, 0, 0, 0, 0, 0, 0] (fun j => ra (j - 10)) (10 + k))) rfl (fun k hk => by
    rw [hf k hk]
    unfold adF
    rw [if_neg (by simp)]
    show some (ra k) = some (ra (10 + k - 10))
    rw [Nat.add_sub_cancel_left])
  have hD := hD.set (p := 1) (e := .inl (cR, 12, .inr (.inr (.inr (.inr (fun k => some (adF [0, 0, hR, hM, 0, 0, 0, 0, 0, 0] (fun j => ra (j - 10)) (10 + k)))))))) rfl
  have hP : va_P (dC, dI) vwCl [(h0, .inr (1, [.ref hR, .ref hM, .int (nI 0)])), (hR, .inl (cR, 12, .inr (.inr (.inr (.inr (fun k => some (adF [0, 0, hR, hM, 0, 0, 0, 0, 0, 0] (fun j => ra (j - 10)) (10 + k)))))))), (ra 0, .inr (0, [.int 0, .int 0, .int 0, .int 0])), (ra 1, .inr (0, [.int 0, .int 0, .int 0, .int 0])), (ra 2, .inr (0, [.int 0, .int 0, .int 0, .int 0])), (ra 3, .inr (0, [.int 0, .int 0, .int 0, .int 0])), (ra 4, .inr (0, [.int 0, .int 0, .int 0, .int 0])), (ra 5, .inr (0, [.int 0, .int 0, .int 0, .int 0])), (ra 6, .inr (0, [.int 0, .int 0, .int 0, .int 0])), (ra 7, .inr (0, [.int 0, .int 0, .int 0, .int 0])), (ra 8, .inr (0, [.int 0, .int 0, .int 0, .int 0])), (ra 9, .inr (0, [.int 0, .int 0, .int 0, .int 0])), (ra 10, .inr (0, [.int 0, .int 0, .int 0, .int 0])), (ra 11, .inr (0, [.int 0, .int 0, .int 0, .int 0])), (hM, .inl (cN, 7, .inl (fun _ => 0)))] H := hP
  have hD : va_D A [(h0, .inr (1, [.ref hR, .ref hM, .int (nI 0)])), (hR, .inl (cR, 12, .inr (.inr (.inr (.inr (fun k => some (adF [0, 0, hR, hM, 0, 0, 0, 0, 0, 0] (fun j => ra (j - 10)) (10 + k)))))))), (ra 0, .inr (0, [.int 0, .int 0, .int 0, .int 0])), (ra 1, .inr (0, [.int 0, .int 0, .int 0, .int 0])), (ra 2, .inr (0, [.int 0, .int 0, .int 0, .int 0])), (ra 3, .inr (0, [.int 0, .int 0, .int 0, .int 0])), (ra 4, .inr (0, [.int 0, .int 0, .int 0, .int 0])), (ra 5, .inr (0, [.int 0, .int 0, .int 0, .int 0])), (ra 6, .inr (0, [.int 0, .int 0, .int 0, .int 0])), (ra 7, .inr (0, [.int 0, .int 0, .int 0, .int 0])), (ra 8, .inr (0, [.int 0, .int 0, .int 0, .int 0])), (ra 9, .inr (0, [.int 0, .int 0, .int 0, .int 0])), (ra 10, .inr (0, [.int 0, .int 0, .int 0, .int 0])), (ra 11, .inr (0, [.int 0, .int 0, .int 0, .int 0])), (hM, .inl (cN, 7, .inl (fun _ => 0)))] := hD
  have hP9 : va_P (dC, dI) vwCl (bkW h0 (adF [0, 0, hR, hM, 0, 0, 0, 0, 0, 0] (fun j => ra (j - 10))) (ccF [cR, cR, cR, cN] cR)) H := hP.sub [0, 1, 14, 2, 3, 4, 5, 6, 7, 8, 9, 10, 11, 12, 13] rfl
  have hD9 : va_D A (bkW h0 (adF [0, 0, hR, hM, 0, 0, 0, 0, 0, 0] (fun j => ra (j - 10))) (ccF [cR, cR, cR, cN] cR)) := hD.sub [0, 1, 14, 2, 3, 4, 5, 6, 7, 8, 9, 10, 11, 12, 13] (by decide) rfl
  have hK9 : va_K (dC, dI) vwCl (bkT (ccF [cR, cR, cR, cN] cR)) s := hK.sub [0, 1] rfl
  subst hAe
  refine W.widen (k := 14) (n := 67) (Nat.le_of_ble_eq_true rfl) (Nat.le_of_ble_eq_true rfl) ?_
  exact W.vret hx hb hr (fun t ht hW => ⟨⟨(adF [0, 0, hR, hM, 0, 0, 0, 0, 0, 0] (fun j => ra (j - 10)), ccF [cR, cR, cR, cN] cR), rfl, trivial, by rw [ht]; exact hP9, va_K.moved hW.alike hK9, hD9⟩, hS.F ht⟩) hS.2.2 dX1_init_53

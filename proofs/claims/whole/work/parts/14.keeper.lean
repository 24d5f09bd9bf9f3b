/-! the keeper's own methods -/
section HC
variable {p : Program} {l : Launch} {e : Env} {R : Room} {s : State} {m : MethodId} {args : Array Value} {below : List Frame} {meth : Method} {c : Code} {H : Heap} {locs : List Loc} {cells slots : Nat} {Q : State → Prop}
variable {cc : ByteArray} {pc : Nat} {ls : Array Slot} {rest : List Value} {D : va_G} {cl : List vw_C} {A : Nat → Prop} {a : Nat} {tys : List (ClassId × FieldType)} {ws : va_W} {H0 : Heap}
/-- a whole array copied over another of its length -/
theorem hx_copy0 (hexec : p.tables.exec = Jvm.exec) (hb : c.code = cc) (hml : c.maxLocals = ls.size) {own : String} {index : Nat} (hown : s.vm.findClass own = some m.cls) (hlink : (Cond.methodLink own index arraycopyName).before args s = true) (hnat : (Cond.native arraycopyName).before args s = true) (hstat : (Cond.static arraycopyName).before args s = true) (hini : (Cond.initialized "java/lang/System").before args s = true)
    (hK : va_K D cl tys s) (hP : va_P D cl ws H) (hD : va_D A ws) (hS : va_S A H0 H locs) (q0 q1 t0 t1 : Nat) {a0 : Nat} {c0 c1 : ClassId} {n : Nat} {f g : Nat → Int32} (ha0 : ws[q0]? = some (a0, .inl (c0, n, .inl f))) (ha1 : ws[q1]? = some (a, .inl (c1, n, .inl g))) (ht0 : tys[t0]? = some (c0, .int)) (ht1 : tys[t1]? = some (c1, .int)) (hn : n < 1000)
    (hframes : 1 ≤ R.frames) (hlocals : (rest.map fun v => v.category).sum + (nativeFrameWords "java/lang/System" "arraycopy" 5 + 11) ≤ R.locals) (hdg : decode cc pc = .ok (.invokestatic index, 3))
    (kk : ∀ (H1 : Heap) (locs1 : List Loc), va_P D cl (ws.set q1 (a, .inl (c1, n, .inl f))) H1 → va_D A (ws.set q1 (a, .inl (c1, n, .inl f))) → va_S A H0 H1 locs1 → W p l e R s m args below meth c H1 locs1 cells slots Q (F0 m (pc + 3) ls rest)) : W p l e R s m args below meth c H locs cells slots Q (F0 m pc ls (.int (nI n) :: .int (nI 0) :: .ref a :: .int (nI 0) :: .ref a0 :: rest)) := by
  have k0 : (nI 0).toNatClampNeg = 0 := nI_clamp (by omega)
  have kn : (nI n).toNatClampNeg = n := nI_clamp (by omega)
  refine va_copyi hexec hb hml hown hlink hnat hstat hini hK hP hD hS q0 q1 t0 t1 ha0 ha1 ht0 ht1 rfl (nI_pos (by omega)) (nI_pos (by omega)) (nI_pos (by omega)) (by rw [k0, kn]; omega) (by rw [k0, kn]; omega) (fun i hi => rfl) hframes hlocals hdg (fun H1 locs1 hP1 hD1 hS1 => ?_)
  have hl := (List.getElem?_eq_some_iff.mp ha1).1
  have hP2 := hP1.arr q1 f (List.getElem?_set_self hl) (fun k hk => by rw [k0, kn]; exact sb_cpy0 hk)
  have hD2 := hD1.set (p := q1) (e := .inl (c1, n, .inl f)) (List.getElem?_set_self hl)
  rw [List.set_set] at hP2 hD2
  exact kk H1 locs1 hP2 hD2 hS1
end HC
def putM (nw bf : Nat → Int32) (r : Nat) : Int32 := nw r &&& (bf r ^^^ (-1))
def takM (nw bf : Nat → Int32) (r : Nat) : Int32 := bf r &&& (nw r ^^^ (-1))
def losM (nd nw bf su : Nat → Int32) (v r : Nat) : Int32 := if bt (nd r) v = true then su r else takM nw bf r
def susM (nd nw bf su : Nat → Int32) (v f p q : Nat) : Int32 := if f = 0 then losM nd nw bf su v p else if f = 1 then turnM (losM nd nw bf su v p) else if f = 2 then joinM (losM nd nw bf su v p) (bf q) ||| joinM (bf p) (losM nd nw bf su v q) else if f = 3 then (losM nd nw bf su v p &&& bf q) ||| (bf p &&& losM nd nw bf su v q) else (bf p &&& (bf q ^^^ (-1))) &&& (losM nd nw bf su v p ||| putM nw bf q)
def layM (nd : Nat → Int32) (v : Nat) : Nat := cntB (nd v ||| bm v) 32
/-- one pass over the rules for suspects -/
def soF (hd fm rp rq : Nat → Nat) (nd nw bf : Nat → Int32) (L : Nat) : Nat → Nat → (Nat → Int32) → Bool → (Nat → Int32) × Bool
  | 0, _, su, more => (su, more)
  | k + 1, i, su, more => if layM nd (hd i) = L ∧ bt (nd (hd i)) (hd i) = true then soF hd fm rp rq nd nw bf L k (i + 1) (upd su (hd i) (su (hd i) ||| (susM nd nw bf su (hd i) (fm i) (rp i) (rq i) &&& (su (hd i) ^^^ (-1))))) (more || !decide (susM nd nw bf su (hd i) (fm i) (rp i) (rq i) &&& (su (hd i) ^^^ (-1)) = 0)) else soF hd fm rp rq nd nw bf L k (i + 1) su more
def fsF (n : Nat) (hd fm rp rq : Nat → Nat) (nd nw bf : Nat → Int32) (L : Nat) : Nat → Bool → (Nat → Int32) → Nat → Int32
  | 0, _, su => su
  | k + 1, more, su => if more = true then fsF n hd fm rp rq nd nw bf L k (soF hd fm rp rq nd nw bf L n 0 su false).2 (soF hd fm rp rq nd nw bf L n 0 su false).1 else su
def toF (nd su : Nat → Int32) (L : Nat) : Nat → Nat → (Nat → Int32) → Nat → Int32
  | 0, _, nw => nw
  | k + 1, v, nw => toF nd su L k (v + 1) (if layM nd v = L then upd nw v (nw v &&& (su v ^^^ (-1))) else nw)
def foF (hd fm rp rq : Nat → Nat) (nd : Nat → Int32) (L : Nat) : Nat → Nat → (Nat → Int32) → Bool → (Nat → Int32) × Bool
  | 0, _, nw, more => (nw, more)
  | k + 1, i, nw, more => if layM nd (hd i) = L ∧ bt (nd (hd i)) (hd i) = true then foF hd fm rp rq nd L k (i + 1) (upd nw (hd i) (nw (hd i) ||| (givM (fm i) (nw (rp i)) (nw (rq i)) &&& (nw (hd i) ^^^ (-1))))) (more || !decide (givM (fm i) (nw (rp i)) (nw (rq i)) &&& (nw (hd i) ^^^ (-1)) = 0)) else foF hd fm rp rq nd L k (i + 1) nw more
def flF (n : Nat) (hd fm rp rq : Nat → Nat) (nd : Nat → Int32) (L : Nat) : Nat → Bool → (Nat → Int32) → Nat → Int32
  | 0, _, nw => nw
  | k + 1, more, nw => if more = true then flF n hd fm rp rq nd L k (foF hd fm rp rq nd L n 0 nw false).2 (foF hd fm rp rq nd L n 0 nw false).1 else nw
def dsF (sI sO : Nat → Int32) : Nat → Nat → (Nat → Int32) → Nat → Int32
  | 0, _, nw => nw
  | k + 1, r, nw => dsF sI sO k (r + 1) (upd nw r ((nw r ||| sI r) &&& (sO r ^^^ (-1))))
def zeF : Nat → Nat → (Nat → Int32) → Nat → Int32
  | 0, _, nw => nw
  | k + 1, v, nw => zeF k (v + 1) (upd nw v (nI 0))
/-- the counts of one view's pairs, and with them the view, by what one way of a rule gave (o) and gives (m) -/
def rpF (v : Nat) (o m : Int32) : Nat → Nat → (Nat → Int32) → (Nat → Int32) → (Nat → Int32) × (Nat → Int32)
  | 0, _, ct, nw => (ct, nw)
  | k + 1, j, ct, nw => if (o ^^^ m) &&& bm j = 0 then rpF v o m k (j + 1) ct nw else rpF v o m k (j + 1) (upd ct (25 * v + j) (ct (25 * v + j) + (if m &&& bm j = 0 then (-1) else nI 1))) (upd nw v (if ct (25 * v + j) + (if m &&& bm j = 0 then (-1) else nI 1) ≤ 0 then nw v &&& (bm j ^^^ (-1)) else nw v ||| bm j))
/-- all ways of one rule -/
def rwF (v f p q : Nat) (bf : Nat → Int32) : Nat → Nat → (Nat → Int32) → (Nat → Int32) → (Nat → Int32) × (Nat → Int32)
  | 0, _, ct, nw => (ct, nw)
  | k + 1, w, ct, nw => rwF v f p q bf k (w + 1) (rpF v (gbyM f w (bf p) (bf q)) (gbyM f w (nw p) (nw q)) 25 0 ct nw).1 (rpF v (gbyM f w (bf p) (bf q)) (gbyM f w (nw p) (nw q)) 25 0 ct nw).2
/-- all rules whose heads are in the layer and do not lead back to themselves -/
def rcF (hd fm rp rq : Nat → Nat) (nd bf : Nat → Int32) (L : Nat) : Nat → Nat → (Nat → Int32) → (Nat → Int32) → (Nat → Int32) × (Nat → Int32)
  | 0, _, ct, nw => (ct, nw)
  | k + 1, i, ct, nw => if layM nd (hd i) = L ∧ bt (nd (hd i)) (hd i) = false then rcF hd fm rp rq nd bf L k (i + 1) (rwF (hd i) (fm i) (rp i) (rq i) bf (wayM (fm i)) 0 ct nw).1 (rwF (hd i) (fm i) (rp i) (rq i) bf (wayM (fm i)) 0 ct nw).2 else rcF hd fm rp rq nd bf L k (i + 1) ct nw
/-- the layers, one after another: counts, views, suspects -/
def clF (n : Nat) (hd fm rp rq : Nat → Nat) (nd bf : Nat → Int32) : Nat → Nat → (Nat → Int32) → (Nat → Int32) → (Nat → Int32) → (Nat → Int32) × (Nat → Int32) × (Nat → Int32)
  | 0, _, ct, nw, su => (ct, nw, su)
  | k + 1, L, ct, nw, su => clF n hd fm rp rq nd bf k (L + 1) (rcF hd fm rp rq nd bf L n 0 ct nw).1 (flF n hd fm rp rq nd L 126 true (toF nd (fsF n hd fm rp rq nd (rcF hd fm rp rq nd bf L n 0 ct nw).2 bf L 126 true su) L 5 2 (rcF hd fm rp rq nd bf L n 0 ct nw).2)) (fsF n hd fm rp rq nd (rcF hd fm rp rq nd bf L n 0 ct nw).2 bf L 126 true su)
/-- the views and counts from nothing -/
def rmM (n : Nat) (hd fm rp rq : Nat → Nat) (nd nw : Nat → Int32) : Nat → Int32 := (clF n hd fm rp rq nd (fun _ => nI 0) 7 1 (fun _ => nI 0) (zeF 5 2 nw) (fun _ => nI 0)).2.1
def rmC (n : Nat) (hd fm rp rq : Nat → Nat) (nd nw : Nat → Int32) : Nat → Int32 := (clF n hd fm rp rq nd (fun _ => nI 0) 7 1 (fun _ => nI 0) (zeF 5 2 nw) (fun _ => nI 0)).1
set_option maxHeartbeats 4000000 in
set_option maxRecDepth 100000 in
theorem c_X2_putInto (l : Launch) (dC : Nat → ClassId) (dI : Nat → Nat → Nat) (a : Nat → Nat) (cA : Nat → ClassId) (n : Nat) (hd fm rp rq : Nat → Nat) (nd nw bf su sI sO ct : Nat → Int32) (r : Nat) (hy_0 : r < 7) : RdM l yX2_putInto wsX2_putInto ({ frames := 0, cells := 0, slots := 0, locals := 0 }) (dC, dI) vwCl (vkW a cA n hd fm rp rq nd nw bf su sI sO ct) (vkT cA) nstW [.ref (a 0), .int (nI r)] (putM nw bf r) := by
  refine Met.ofW (cc := cX2_putInto) (maxL := 2) (ret := (some .int)) (by decide) rfl ?_
  intro p e s m args below meth c s₁ B hml hv
  obtain ⟨rfl, hP, hK, hN⟩ := hv
  have hx := B.exec
  have hb := B.bytes
  have hr := B.returns
  have hts := atoms_spec (ws := wsX2_putInto) B.pre
  have hown : s.vm.findClass RX2 = some m.cls := findClass_of_methodNamed B.named
  have hlocks := B.notSynchronized
  have lf_16 := hts (.fieldLink RX2 16 "ViewKeeper" "now" "[I") (by decide +kernel)
  have in_X2 : ∀ w ∈ u_ws RX2 TX2 7, w ∈ wsX2_putInto := by decide +kernel
  have lf_20 := hts (.fieldLink RX2 20 "ViewKeeper" "before" "[I") (by decide +kernel)
  have hl := lv_entry ([.ref (a 0), .int (nI r)]) (n := 2) (Nat.le_of_ble_eq_true rfl)
  rw [lg_entry_eq]
  generalize (lg_sl ([.ref (a 0), .int (nI r)]) ++ List.replicate (2 - (lg_sl ([.ref (a 0), .int (nI r)])).length) Slot.unset).toArray = ls at hl ⊢
  have hl : lv_has ls 2 [(0, .ref (a 0)), (1, .int (nI r))] := hl
  refine lv_aload_n hx hb dX2_putInto_0 rfl (lv_at hl 0 rfl) ?_
  refine va_get (D := (dC, dI)) (ci := 2) (v := .ref (a 4)) (C := RX2) (T := TX2) (N := 7) hx hb hts in_X2 hown hK hP 0 rfl rfl 1 (by decide) lf_16 (fun _ h9 => h9) rfl dX2_putInto_1 ?_
  refine lv_iload_n hx hb dX2_putInto_4 rfl (lv_at hl 1 rfl) ?_
  refine hx_iald hx hb hK hP 4 2 rfl rfl (by omega) (by omega) dX2_putInto_5 ?_
  refine lv_aload_n hx hb dX2_putInto_6 rfl (lv_at hl 0 rfl) ?_
  refine va_get (D := (dC, dI)) (ci := 2) (v := .ref (a 5)) (C := RX2) (T := TX2) (N := 7) hx hb hts in_X2 hown hK hP 0 rfl rfl 2 (by decide) lf_20 (fun _ h9 => h9) rfl dX2_putInto_7 ?_
  refine lv_iload_n hx hb dX2_putInto_10 rfl (lv_at hl 1 rfl) ?_
  refine hx_iald hx hb hK hP 5 3 rfl rfl (by omega) (by omega) dX2_putInto_11 ?_
  refine lv_iconst (v := (-1)) hx hb dX2_putInto_12 (by decide) ?_
  refine lv_ixor hx hb dX2_putInto_13 ?_
  refine lv_iand hx hb dX2_putInto_14 ?_
  exact W.iret (v := (nw r) &&& ((bf r) ^^^ ((-1)))) hx hb hr (fun t ht hW => ⟨_, rfl, rfl, ht⟩) (fun _ h => by cases h) dX2_putInto_15
set_option maxHeartbeats 4000000 in
set_option maxRecDepth 100000 in
theorem c_X2_takenOutOf (l : Launch) (dC : Nat → ClassId) (dI : Nat → Nat → Nat) (a : Nat → Nat) (cA : Nat → ClassId) (n : Nat) (hd fm rp rq : Nat → Nat) (nd nw bf su sI sO ct : Nat → Int32) (r : Nat) (hy_0 : r < 7) : RdM l yX2_takenOutOf wsX2_takenOutOf ({ frames := 0, cells := 0, slots := 0, locals := 0 }) (dC, dI) vwCl (vkW a cA n hd fm rp rq nd nw bf su sI sO ct) (vkT cA) nstW [.ref (a 0), .int (nI r)] (takM nw bf r) := by
  refine Met.ofW (cc := cX2_takenOutOf) (maxL := 2) (ret := (some .int)) (by decide) rfl ?_
  intro p e s m args below meth c s₁ B hml hv
  obtain ⟨rfl, hP, hK, hN⟩ := hv
  have hx := B.exec
  have hb := B.bytes
  have hr := B.returns
  have hts := atoms_spec (ws := wsX2_takenOutOf) B.pre
  have hown : s.vm.findClass RX2 = some m.cls := findClass_of_methodNamed B.named
  have hlocks := B.notSynchronized
  have lf_20 := hts (.fieldLink RX2 20 "ViewKeeper" "before" "[I") (by decide +kernel)
  have in_X2 : ∀ w ∈ u_ws RX2 TX2 7, w ∈ wsX2_takenOutOf := by decide +kernel
  have lf_16 := hts (.fieldLink RX2 16 "ViewKeeper" "now" "[I") (by decide +kernel)
  have hl := lv_entry ([.ref (a 0), .int (nI r)]) (n := 2) (Nat.le_of_ble_eq_true rfl)
  rw [lg_entry_eq]
  generalize (lg_sl ([.ref (a 0), .int (nI r)]) ++ List.replicate (2 - (lg_sl ([.ref (a 0), .int (nI r)])).length) Slot.unset).toArray = ls at hl ⊢
  have hl : lv_has ls 2 [(0, .ref (a 0)), (1, .int (nI r))] := hl
  refine lv_aload_n hx hb dX2_takenOutOf_0 rfl (lv_at hl 0 rfl) ?_
  refine va_get (D := (dC, dI)) (ci := 2) (v := .ref (a 5)) (C := RX2) (T := TX2) (N := 7) hx hb hts in_X2 hown hK hP 0 rfl rfl 2 (by decide) lf_20 (fun _ h9 => h9) rfl dX2_takenOutOf_1 ?_
  refine lv_iload_n hx hb dX2_takenOutOf_4 rfl (lv_at hl 1 rfl) ?_
  refine hx_iald hx hb hK hP 5 3 rfl rfl (by omega) (by omega) dX2_takenOutOf_5 ?_
  refine lv_aload_n hx hb dX2_takenOutOf_6 rfl (lv_at hl 0 rfl) ?_
  refine va_get (D := (dC, dI)) (ci := 2) (v := .ref (a 4)) (C := RX2) (T := TX2) (N := 7) hx hb hts in_X2 hown hK hP 0 rfl rfl 1 (by decide) lf_16 (fun _ h9 => h9) rfl dX2_takenOutOf_7 ?_
  refine lv_iload_n hx hb dX2_takenOutOf_10 rfl (lv_at hl 1 rfl) ?_
  refine hx_iald hx hb hK hP 4 2 rfl rfl (by omega) (by omega) dX2_takenOutOf_11 ?_
  refine lv_iconst (v := (-1)) hx hb dX2_takenOutOf_12 (by decide) ?_
  refine lv_ixor hx hb dX2_takenOutOf_13 ?_
  refine lv_iand hx hb dX2_takenOutOf_14 ?_
  exact W.iret (v := (bf r) &&& ((nw r) ^^^ ((-1)))) hx hb hr (fun t ht hW => ⟨_, rfl, rfl, ht⟩) (fun _ h => by cases h) dX2_takenOutOf_15
set_option maxHeartbeats 4000000 in
set_option maxRecDepth 100000 in
theorem c_X2_lostFor (l : Launch) (dC : Nat → ClassId) (dI : Nat → Nat → Nat) (a : Nat → Nat) (cA : Nat → ClassId) (n : Nat) (hd fm rp rq : Nat → Nat) (nd nw bf su sI sO ct : Nat → Int32) (v r : Nat) (hy_0 : v < 7) (hy_1 : r < 7) : RdM l yX2_lostFor wsX2_lostFor ({ frames := 1, cells := 0, slots := 0, locals := 22 }) (dC, dI) vwCl (vkW a cA n hd fm rp rq nd nw bf su sI sO ct) (vkT cA) nstW [.ref (a 0), .int (nI v), .int (nI r)] (losM nd nw bf su v r) := by
  refine Met.ofW (cc := cX2_lostFor) (maxL := 3) (ret := (some .int)) (by decide) rfl ?_
  intro p e s m args below meth c s₁ B hml hv
  obtain ⟨rfl, hP, hK, hN⟩ := hv
  have hx := B.exec
  have hb := B.bytes
  have hr := B.returns
  have hts := atoms_spec (ws := wsX2_lostFor) B.pre
  have hown : s.vm.findClass RX2 = some m.cls := findClass_of_methodNamed B.named
  have hlocks := B.notSynchronized
  have lf_10 := hts (.fieldLink RX2 10 "ViewKeeper" "book" "LViewKeeper$RuleBook;") (by decide +kernel)
  have in_X2 : ∀ w ∈ u_ws RX2 TX2 7, w ∈ wsX2_lostFor := by decide +kernel
  have lf_23 := hts (.fieldLink RX2 23 "ViewKeeper" "suspects" "[I") (by decide +kernel)
  have hl := lv_entry ([.ref (a 0), .int (nI v), .int (nI r)]) (n := 3) (Nat.le_of_ble_eq_true rfl)
  rw [lg_entry_eq]
  generalize (lg_sl ([.ref (a 0), .int (nI v), .int (nI r)]) ++ List.replicate (3 - (lg_sl ([.ref (a 0), .int (nI v), .int (nI r)])).length) Slot.unset).toArray = ls at hl ⊢
  have hl : lv_has ls 3 [(0, .ref (a 0)), (1, .int (nI v)), (2, .int (nI r))] := hl
  refine lv_aload_n hx hb dX2_lostFor_0 rfl (lv_at hl 0 rfl) ?_
  refine va_get (D := (dC, dI)) (ci := 2) (v := .ref (a 1)) (C := RX2) (T := TX2) (N := 7) hx hb hts in_X2 hown hK hP 0 rfl rfl 0 (by decide) lf_10 (fun _ h9 => h9) rfl dX2_lostFor_1 ?_
  refine lv_iload_n hx hb dX2_lostFor_4 rfl (lv_at hl 2 rfl) ?_
  refine lv_iload_n hx hb dX2_lostFor_5 rfl (lv_at hl 1 rfl) ?_
  refine hx_read (va_runVN (C := RX1) (As := [.int (nI r), .int (nI v)]) (rest := []) ⟨hx, hb, hml, hown, hts⟩ (c_X1_leadsTo l dC dI a cA n hd fm rp rq nd nw bf su sI sO ct r v (by omega) (by omega)) ⟨va_cnB 2 hts gX2_lostFor_X1_leadsTo_n98 rfl rfl rfl (hN (.methodLinkNest RX2 98 yX1_leadsTo "ViewKeeper") (by decide +kernel)) (hts (.initialized RX1) (by decide +kernel)) (by decide +kernel) ⟨Nat.le_of_ble_eq_true rfl, Nat.le_of_ble_eq_true rfl⟩, hts (.instanceMethod yX1_leadsTo) (by decide +kernel), hts (.selects RX1 yX1_leadsTo yX1_leadsTo) (by decide +kernel)⟩ (rd_V nstW_ok hP hK hN 1 rfl rfl _) rfl rfl hl.1 rfl (lv_room (Nat.le_of_ble_eq_true rfl)) dX2_lostFor_6 ⟨Nat.zero_le _, Nat.zero_le _⟩) ?_
  refine hx_ifB (tgt := 21) hx hb dX2_lostFor_9 (by decide) (fun c_1 => ?_) (fun c_1 => ?_)
  · refine lv_aload_n hx hb dX2_lostFor_21 rfl (lv_at hl 0 rfl) ?_
    refine lv_iload_n hx hb dX2_lostFor_22 rfl (lv_at hl 2 rfl) ?_
    refine hx_read (va_runV (As := [.int (nI r)]) (rest := []) ⟨hx, hb, hml, hown, hts⟩ (c_X2_takenOutOf l dC dI a cA n hd fm rp rq nd nw bf su sI sO ct r (by omega)) (cwV 1 hts gX2_lostFor_X2_takenOutOf rfl rfl rfl (by decide +kernel) ⟨Nat.le_of_ble_eq_true rfl, Nat.le_of_ble_eq_true rfl⟩) (rd_V nstW_ok hP hK hN 0 rfl rfl _) rfl rfl hl.1 rfl (lv_room (Nat.le_of_ble_eq_true rfl)) dX2_lostFor_23 ⟨Nat.zero_le _, Nat.zero_le _⟩) ?_
    exact W.iret (v := takM nw bf r) hx hb hr (fun t ht hW => ⟨_, rfl, by simp [losM, c_1], ht⟩) (fun _ h => by cases h) dX2_lostFor_26
  · refine lv_aload_n hx hb dX2_lostFor_12 rfl (lv_at hl 0 rfl) ?_
    refine va_get (D := (dC, dI)) (ci := 2) (v := .ref (a 6)) (C := RX2) (T := TX2) (N := 7) hx hb hts in_X2 hown hK hP 0 rfl rfl 3 (by decide) lf_23 (fun _ h9 => h9) rfl dX2_lostFor_13 ?_
    refine lv_iload_n hx hb dX2_lostFor_16 rfl (lv_at hl 2 rfl) ?_
    refine hx_iald hx hb hK hP 6 4 rfl rfl (by omega) (by omega) dX2_lostFor_17 ?_
    refine lv_goto (tgt := 26) hx hb dX2_lostFor_18 (by decide) ?_
    exact W.iret (v := su r) hx hb hr (fun t ht hW => ⟨_, rfl, by simp [losM, c_1], ht⟩) (fun _ h => by cases h) dX2_lostFor_26
set_option maxHeartbeats 4000000 in
set_option maxRecDepth 100000 in
theorem c_X2_suspectsBy (l : Launch) (dC : Nat → ClassId) (dI : Nat → Nat → Nat) (a : Nat → Nat) (cA : Nat → ClassId) (n : Nat) (hd fm rp rq : Nat → Nat) (nd nw bf su sI sO ct : Nat → Int32) (i : Nat) (hy_0 : i < 12) (hy_1 : hd i < 7) (hy_2 : fm i ≤ 4) (hy_3 : rp i < 7) (hy_4 : rq i < 7) : RdM l yX2_suspectsBy wsX2_suspectsBy ({ frames := 2, cells := 0, slots := 0, locals := 46 }) (dC, dI) vwCl (vkW a cA n hd fm rp rq nd nw bf su sI sO ct) (vkT cA) nstW [.ref (a 0), .ref (a (10 + i))] (susM nd nw bf su (hd i) (fm i) (rp i) (rq i)) := by
  refine Met.ofW (cc := cX2_suspectsBy) (maxL := 6) (ret := (some .int)) (by decide) rfl ?_
  intro p e s m args below meth c s₁ B hml hv
  obtain ⟨rfl, hP, hK, hN⟩ := hv
  have hx := B.exec
  have hb := B.bytes
  have hr := B.returns
  have hts := atoms_spec (ws := wsX2_suspectsBy) B.pre
  have hown : s.vm.findClass RX2 = some m.cls := findClass_of_methodNamed B.named
  have hlocks := B.notSynchronized
  have lf_20 := hts (.fieldLink RX2 20 "ViewKeeper" "before" "[I") (by decide +kernel)
  have in_X2 : ∀ w ∈ u_ws RX2 TX2 7, w ∈ wsX2_suspectsBy := by decide +kernel
  have lf_160 : (Cond.fieldLinkNest RX2 160 "ViewKeeper$Rule" "p" "I" "ViewKeeper").before ([.ref (a 0), .ref (a (10 + i))] : List Value).toArray s = true := va_Nw.use rfl (hN _ (by decide +kernel))
  have in_X0 : ∀ w ∈ u_ws RX0 TX0 4, w ∈ wsX2_suspectsBy := by decide +kernel
  have lf_163 : (Cond.fieldLinkNest RX2 163 "ViewKeeper$Rule" "q" "I" "ViewKeeper").before ([.ref (a 0), .ref (a (10 + i))] : List Value).toArray s = true := va_Nw.use rfl (hN _ (by decide +kernel))
  have lf_133 : (Cond.fieldLinkNest RX2 133 "ViewKeeper$Rule" "head" "I" "ViewKeeper").before ([.ref (a 0), .ref (a (10 + i))] : List Value).toArray s = true := va_Nw.use rfl (hN _ (by decide +kernel))
  have lf_169 : (Cond.fieldLinkNest RX2 169 "ViewKeeper$Rule" "form" "I" "ViewKeeper").before ([.ref (a 0), .ref (a (10 + i))] : List Value).toArray s = true := va_Nw.use rfl (hN _ (by decide +kernel))
  have hl := lv_entry ([.ref (a 0), .ref (a (10 + i))]) (n := 6) (Nat.le_of_ble_eq_true rfl)
  rw [lg_entry_eq]
  generalize (lg_sl ([.ref (a 0), .ref (a (10 + i))]) ++ List.replicate (6 - (lg_sl ([.ref (a 0), .ref (a (10 + i))])).length) Slot.unset).toArray = ls at hl ⊢
  have hl : lv_has ls 6 [(0, .ref (a 0)), (1, .ref (a (10 + i)))] := hl
  refine lv_aload_n hx hb dX2_suspectsBy_0 rfl (lv_at hl 0 rfl) ?_
  refine va_get (D := (dC, dI)) (ci := 2) (v := .ref (a 5)) (C := RX2) (T := TX2) (N := 7) hx hb hts in_X2 hown hK hP 0 rfl rfl 2 (by decide) lf_20 (fun _ h9 => h9) rfl dX2_suspectsBy_1 ?_
  refine lv_aload_n hx hb dX2_suspectsBy_4 rfl (lv_at hl 1 rfl) ?_
  refine va_getN (D := (dC, dI)) (ci := 0) (v := .int (nI (rp i))) (C := RX0) (T := TX0) (N := 4) hx hb hts in_X0 hown hK hP (10 + i) (vkW_rule (by omega)) rfl 2 (by decide) lf_160 (fun _ h9 => h9) rfl dX2_suspectsBy_5 ?_
  refine hx_iald hx hb hK hP 5 3 rfl rfl (by omega) (by omega) dX2_suspectsBy_8 ?_
  refine lv_istore_n (lv' := [(2, .int (bf (rp i))), (0, .ref (a 0)), (1, .ref (a (10 + i)))]) hx hb dX2_suspectsBy_9 rfl hl (by decide) rfl (fun ls hl => ?_)
  refine lv_aload_n hx hb dX2_suspectsBy_10 rfl (lv_at hl 1 rfl) ?_
  refine va_get (D := (dC, dI)) (ci := 2) (v := .ref (a 5)) (C := RX2) (T := TX2) (N := 7) hx hb hts in_X2 hown hK hP 0 rfl rfl 2 (by decide) lf_20 (fun _ h9 => h9) rfl dX2_suspectsBy_11 ?_
  refine lv_aload_n hx hb dX2_suspectsBy_14 rfl (lv_at hl 2 rfl) ?_
  refine va_getN (D := (dC, dI)) (ci := 0) (v := .int (nI (rq i))) (C := RX0) (T := TX0) (N := 4) hx hb hts in_X0 hown hK hP (10 + i) (vkW_rule (by omega)) rfl 3 (by decide) lf_163 (fun _ h9 => h9) rfl dX2_suspectsBy_15 ?_
  refine hx_iald hx hb hK hP 5 3 rfl rfl (by omega) (by omega) dX2_suspectsBy_18 ?_
  refine lv_istore_n (lv' := [(3, .int (bf (rq i))), (2, .int (bf (rp i))), (0, .ref (a 0)), (1, .ref (a (10 + i)))]) hx hb dX2_suspectsBy_19 rfl hl (by decide) rfl (fun ls hl => ?_)
  refine lv_aload_n hx hb dX2_suspectsBy_20 rfl (lv_at hl 2 rfl) ?_
  refine lv_aload_n hx hb dX2_suspectsBy_21 rfl (lv_at hl 3 rfl) ?_
  refine va_getN (D := (dC, dI)) (ci := 0) (v := .int (nI (hd i))) (C := RX0) (T := TX0) (N := 4) hx hb hts in_X0 hown hK hP (10 + i) (vkW_rule (by omega)) rfl 0 (by decide) lf_133 (fun _ h9 => h9) rfl dX2_suspectsBy_22 ?_
  refine lv_aload_n hx hb dX2_suspectsBy_25 rfl (lv_at hl 3 rfl) ?_
  refine va_getN (D := (dC, dI)) (ci := 0) (v := .int (nI (rp i))) (C := RX0) (T := TX0) (N := 4) hx hb hts in_X0 hown hK hP (10 + i) (vkW_rule (by omega)) rfl 2 (by decide) lf_160 (fun _ h9 => h9) rfl dX2_suspectsBy_26 ?_
  refine hx_read (va_runV (As := [.int (nI (hd i)), .int (nI (rp i))]) (rest := []) ⟨hx, hb, hml, hown, hts⟩ (c_X2_lostFor l dC dI a cA n hd fm rp rq nd nw bf su sI sO ct (hd i) (rp i) (by omega) (by omega)) (cwV 2 hts gX2_suspectsBy_X2_lostFor rfl rfl rfl (by decide +kernel) ⟨Nat.le_of_ble_eq_true rfl, Nat.le_of_ble_eq_true rfl⟩) (rd_V nstW_ok hP hK hN 0 rfl rfl _) rfl rfl hl.1 rfl (lv_room (Nat.le_of_ble_eq_true rfl)) dX2_suspectsBy_29 ⟨Nat.zero_le _, Nat.zero_le _⟩) ?_
  refine lv_istore (lv' := [(4, .int (losM nd nw bf su (hd i) (rp i))), (3, .int (bf (rq i))), (2, .int (bf (rp i))), (0, .ref (a 0)), (1, .ref (a (10 + i)))]) hx hb dX2_suspectsBy_32 hl (by decide) rfl (fun ls hl => ?_)
  refine lv_aload_n hx hb dX2_suspectsBy_34 rfl (lv_at hl 3 rfl) ?_
  refine lv_aload_n hx hb dX2_suspectsBy_35 rfl (lv_at hl 4 rfl) ?_
  refine va_getN (D := (dC, dI)) (ci := 0) (v := .int (nI (hd i))) (C := RX0) (T := TX0) (N := 4) hx hb hts in_X0 hown hK hP (10 + i) (vkW_rule (by omega)) rfl 0 (by decide) lf_133 (fun _ h9 => h9) rfl dX2_suspectsBy_36 ?_
  refine lv_aload_n hx hb dX2_suspectsBy_39 rfl (lv_at hl 4 rfl) ?_
  refine va_getN (D := (dC, dI)) (ci := 0) (v := .int (nI (rq i))) (C := RX0) (T := TX0) (N := 4) hx hb hts in_X0 hown hK hP (10 + i) (vkW_rule (by omega)) rfl 3 (by decide) lf_163 (fun _ h9 => h9) rfl dX2_suspectsBy_40 ?_
  refine hx_read (va_runV (As := [.int (nI (hd i)), .int (nI (rq i))]) (rest := []) ⟨hx, hb, hml, hown, hts⟩ (c_X2_lostFor l dC dI a cA n hd fm rp rq nd nw bf su sI sO ct (hd i) (rq i) (by omega) (by omega)) (cwV 2 hts gX2_suspectsBy_X2_lostFor rfl rfl rfl (by decide +kernel) ⟨Nat.le_of_ble_eq_true rfl, Nat.le_of_ble_eq_true rfl⟩) (rd_V nstW_ok hP hK hN 0 rfl rfl _) rfl rfl hl.1 rfl (lv_room (Nat.le_of_ble_eq_true rfl)) dX2_suspectsBy_43 ⟨Nat.zero_le _, Nat.zero_le _⟩) ?_
  refine lv_istore (lv' := [(5, .int (losM nd nw bf su (hd i) (rq i))), (4, .int (losM nd nw bf su (hd i) (rp i))), (3, .int (bf (rq i))), (2, .int (bf (rp i))), (0, .ref (a 0)), (1, .ref (a (10 + i)))]) hx hb dX2_suspectsBy_46 hl (by decide) rfl (fun ls hl => ?_)
  refine lv_aload_n hx hb dX2_suspectsBy_48 rfl (lv_at hl 5 rfl) ?_
  refine va_getN (D := (dC, dI)) (ci := 0) (v := .int (nI (fm i))) (C := RX0) (T := TX0) (N := 4) hx hb hts in_X0 hown hK hP (10 + i) (vkW_rule (by omega)) rfl 1 (by decide) lf_169 (fun _ h9 => h9) rfl dX2_suspectsBy_49 ?_
  rcases (show fm i = 0 ∨ fm i = 1 ∨ fm i = 2 ∨ fm i = 3 ∨ fm i = 4 by omega) with q_1 | q_1 | q_1 | q_1 | q_1
  · refine hx_eq (y := nI 0) (by rw [q_1]) ?_
    refine lv_tableIn (tgt := 84) hx hb dX2_suspectsBy_52 (by decide) (by decide) (off := 32) rfl (by decide) ?_
    refine lv_iload hx hb dX2_suspectsBy_84 (lv_at hl 1 rfl) ?_
    exact W.iret (v := losM nd nw bf su (hd i) (rp i)) hx hb hr (fun t ht hW => ⟨_, rfl, by simp [susM, q_1], ht⟩) (fun _ h => by cases h) dX2_suspectsBy_86
  · refine hx_eq (y := nI 1) (by rw [q_1]) ?_
    refine lv_tableIn (tgt := 87) hx hb dX2_suspectsBy_52 (by decide) (by decide) (off := 35) rfl (by decide) ?_
    refine lv_iload hx hb dX2_suspectsBy_87 (lv_at hl 1 rfl) ?_
    refine hx_read (va_runS (As := [.int (losM nd nw bf su (hd i) (rp i))]) (rest := []) ⟨hx, hb, hml, hown, hts⟩ (c_X2_turned l (losM nd nw bf su (hd i) (rp i))) (va_cwS 1 hts gX2_suspectsBy_X2_turned rfl rfl rfl (by decide +kernel) ⟨Nat.le_of_ble_eq_true rfl, Nat.le_of_ble_eq_true rfl⟩) (nu_S _) rfl rfl hl.1 rfl (lv_room (Nat.le_of_ble_eq_true rfl)) dX2_suspectsBy_89 ⟨Nat.zero_le _, Nat.zero_le _⟩) ?_
    exact W.iret (v := turnM (losM nd nw bf su (hd i) (rp i))) hx hb hr (fun t ht hW => ⟨_, rfl, by simp [susM, q_1], ht⟩) (fun _ h => by cases h) dX2_suspectsBy_92
  · refine hx_eq (y := nI 2) (by rw [q_1]) ?_
    refine lv_tableIn (tgt := 93) hx hb dX2_suspectsBy_52 (by decide) (by decide) (off := 41) rfl (by decide) ?_
    refine lv_iload hx hb dX2_suspectsBy_93 (lv_at hl 1 rfl) ?_
    refine lv_iload_n hx hb dX2_suspectsBy_95 rfl (lv_at hl 2 rfl) ?_
    refine hx_read (va_runS (As := [.int (losM nd nw bf su (hd i) (rp i)), .int (bf (rq i))]) (rest := []) ⟨hx, hb, hml, hown, hts⟩ (c_X2_joined l (losM nd nw bf su (hd i) (rp i)) (bf (rq i))) (va_cwS 2 hts gX2_suspectsBy_X2_joined rfl rfl rfl (by decide +kernel) ⟨Nat.le_of_ble_eq_true rfl, Nat.le_of_ble_eq_true rfl⟩) (nu_S _) rfl rfl hl.1 rfl (lv_room (Nat.le_of_ble_eq_true rfl)) dX2_suspectsBy_96 ⟨Nat.zero_le _, Nat.zero_le _⟩) ?_
    refine lv_iload_n hx hb dX2_suspectsBy_99 rfl (lv_at hl 3 rfl) ?_
    refine lv_iload hx hb dX2_suspectsBy_100 (lv_at hl 0 rfl) ?_
    refine hx_read (va_runS (As := [.int (bf (rp i)), .int (losM nd nw bf su (hd i) (rq i))]) (rest := [.int (joinM (losM nd nw bf su (hd i) (rp i)) (bf (rq i)))]) ⟨hx, hb, hml, hown, hts⟩ (c_X2_joined l (bf (rp i)) (losM nd nw bf su (hd i) (rq i))) (va_cwS 2 hts gX2_suspectsBy_X2_joined rfl rfl rfl (by decide +kernel) ⟨Nat.le_of_ble_eq_true rfl, Nat.le_of_ble_eq_true rfl⟩) (nu_S _) rfl rfl hl.1 rfl (lv_room (Nat.le_of_ble_eq_true rfl)) dX2_suspectsBy_102 ⟨Nat.zero_le _, Nat.zero_le _⟩) ?_
    refine lv_ior hx hb dX2_suspectsBy_105 ?_
    exact W.iret (v := (joinM (losM nd nw bf su (hd i) (rp i)) (bf (rq i))) ||| (joinM (bf (rp i)) (losM nd nw bf su (hd i) (rq i)))) hx hb hr (fun t ht hW => ⟨_, rfl, by simp [susM, q_1], ht⟩) (fun _ h => by cases h) dX2_suspectsBy_106
  · refine hx_eq (y := nI 3) (by rw [q_1]) ?_
    refine lv_tableIn (tgt := 107) hx hb dX2_suspectsBy_52 (by decide) (by decide) (off := 55) rfl (by decide) ?_
    refine lv_iload hx hb dX2_suspectsBy_107 (lv_at hl 1 rfl) ?_
    refine lv_iload_n hx hb dX2_suspectsBy_109 rfl (lv_at hl 2 rfl) ?_
    refine lv_iand hx hb dX2_suspectsBy_110 ?_
    refine lv_iload_n hx hb dX2_suspectsBy_111 rfl (lv_at hl 3 rfl) ?_
    refine lv_iload hx hb dX2_suspectsBy_112 (lv_at hl 0 rfl) ?_
    refine lv_iand hx hb dX2_suspectsBy_114 ?_
    refine lv_ior hx hb dX2_suspectsBy_115 ?_
    exact W.iret (v := ((losM nd nw bf su (hd i) (rp i)) &&& (bf (rq i))) ||| ((bf (rp i)) &&& (losM nd nw bf su (hd i) (rq i)))) hx hb hr (fun t ht hW => ⟨_, rfl, by simp [susM, q_1], ht⟩) (fun _ h => by cases h) dX2_suspectsBy_116
  · refine hx_eq (y := nI 4) (by rw [q_1]) ?_
    refine lv_tableOut (tgt := 117) hx hb dX2_suspectsBy_52 (Or.inr (by decide)) (by decide) ?_
    refine lv_iload_n hx hb dX2_suspectsBy_117 rfl (lv_at hl 3 rfl) ?_
    refine lv_iload_n hx hb dX2_suspectsBy_118 rfl (lv_at hl 2 rfl) ?_
    refine lv_iconst (v := (-1)) hx hb dX2_suspectsBy_119 (by decide) ?_
    refine lv_ixor hx hb dX2_suspectsBy_120 ?_
    refine lv_iand hx hb dX2_suspectsBy_121 ?_
    refine lv_iload hx hb dX2_suspectsBy_122 (lv_at hl 1 rfl) ?_
    refine lv_aload_n hx hb dX2_suspectsBy_124 rfl (lv_at hl 4 rfl) ?_
    refine lv_aload_n hx hb dX2_suspectsBy_125 rfl (lv_at hl 5 rfl) ?_
    refine va_getN (D := (dC, dI)) (ci := 0) (v := .int (nI (rq i))) (C := RX0) (T := TX0) (N := 4) hx hb hts in_X0 hown hK hP (10 + i) (vkW_rule (by omega)) rfl 3 (by decide) lf_163 (fun _ h9 => h9) rfl dX2_suspectsBy_126 ?_
    refine hx_read (va_runV (As := [.int (nI (rq i))]) (rest := [.int (losM nd nw bf su (hd i) (rp i)), .int ((bf (rp i)) &&& ((bf (rq i)) ^^^ ((-1))))]) ⟨hx, hb, hml, hown, hts⟩ (c_X2_putInto l dC dI a cA n hd fm rp rq nd nw bf su sI sO ct (rq i) (by omega)) (cwV 1 hts gX2_suspectsBy_X2_putInto rfl rfl rfl (by decide +kernel) ⟨Nat.le_of_ble_eq_true rfl, Nat.le_of_ble_eq_true rfl⟩) (rd_V nstW_ok hP hK hN 0 rfl rfl _) rfl rfl hl.1 rfl (lv_room (Nat.le_of_ble_eq_true rfl)) dX2_suspectsBy_129 ⟨Nat.zero_le _, Nat.zero_le _⟩) ?_
    refine lv_ior hx hb dX2_suspectsBy_132 ?_
    refine lv_iand hx hb dX2_suspectsBy_133 ?_
    exact W.iret (v := ((bf (rp i)) &&& ((bf (rq i)) ^^^ ((-1)))) &&& ((losM nd nw bf su (hd i) (rp i)) ||| (putM nw bf (rq i)))) hx hb hr (fun t ht hW => ⟨_, rfl, by simp [susM, q_1], ht⟩) (fun _ h => by cases h) dX2_suspectsBy_134
set_option maxHeartbeats 4000000 in
set_option maxRecDepth 100000 in
theorem c_X2_suspectOnce (l : Launch) (dC : Nat → ClassId) (dI : Nat → Nat → Nat) (a : Nat → Nat) (cA : Nat → ClassId) (n : Nat) (hd fm rp rq : Nat → Nat) (nd nw bf su sI sO ct : Nat → Int32) (L : Nat) (hy_0 : ruOk n hd fm rp rq) (hy_1 : L < 8) : WrI l yX2_suspectOnce wsX2_suspectOnce ({ frames := 3, cells := 0, slots := 0, locals := 71 }) (dC, dI) vwCl (vkW a cA n hd fm rp rq nd nw bf su sI sO ct) (vkW a cA n hd fm rp rq nd nw bf ((soF hd fm rp rq nd nw bf L n 0 su false).1) sI sO ct) (vkT cA) nstW [.ref (a 0), .int (nI L)] (bI ((soF hd fm rp rq nd nw bf L n 0 su false).2)) := by
  intro sz
  refine Met.ofW (cc := cX2_suspectOnce) (maxL := 6) (ret := (some .boolean)) (by decide) rfl ?_
  intro p e s m args below meth c s₁ B hml hv
  obtain ⟨rfl, hsz, ⟨hP, hK, hN⟩, hD0⟩ := hv
  subst hsz
  have hx := B.exec
  have hb := B.bytes
  have hr := B.returns
  have hts := atoms_spec (ws := wsX2_suspectOnce) B.pre
  have hown : s.vm.findClass RX2 = some m.cls := findClass_of_methodNamed B.named
  have hlocks := B.notSynchronized
  obtain ⟨A, hAe⟩ : ∃ A, A = va_A (vkW a cA n hd fm rp rq nd nw bf su sI sO ct) s.heap.size := ⟨_, rfl⟩
  have hD : va_D A (vkW a cA n hd fm rp rq nd nw bf su sI sO ct) := by rw [hAe]; exact hD0.self (sz := s.heap.size)
  have hA : ∀ q : Nat, s.heap.size ≤ q → A q := fun q h => by rw [hAe]; exact Or.inr h
  have hS : va_S A s.heap s.heap [] := va_S.rf
  have hP : va_P (dC, dI) vwCl (vkW a cA n hd fm rp rq nd nw bf su sI sO ct) s.heap := hP
  obtain ⟨hn12, hru⟩ := id hy_0
  have lf_10 := hts (.fieldLink RX2 10 "ViewKeeper" "book" "LViewKeeper$RuleBook;") (by decide +kernel)
  have in_X2 : ∀ w ∈ u_ws RX2 TX2 7, w ∈ wsX2_suspectOnce := by decide +kernel
  have lf_42 : (Cond.fieldLinkNest RX2 42 "ViewKeeper$RuleBook" "made" "I" "ViewKeeper").before ([.ref (a 0), .int (nI L)] : List Value).toArray s = true := va_Nw.use rfl (hN _ (by decide +kernel))
  have in_X1 : ∀ w ∈ u_ws RX1 TX1 3, w ∈ wsX2_suspectOnce := by decide +kernel
  have lf_129 : (Cond.fieldLinkNest RX2 129 "ViewKeeper$RuleBook" "rows" "[LViewKeeper$Rule;" "ViewKeeper").before ([.ref (a 0), .int (nI L)] : List Value).toArray s = true := va_Nw.use rfl (hN _ (by decide +kernel))
  have lf_133 : (Cond.fieldLinkNest RX2 133 "ViewKeeper$Rule" "head" "I" "ViewKeeper").before ([.ref (a 0), .int (nI L)] : List Value).toArray s = true := va_Nw.use rfl (hN _ (by decide +kernel))
  have in_X0 : ∀ w ∈ u_ws RX0 TX0 4, w ∈ wsX2_suspectOnce := by decide +kernel
  have lf_23 := hts (.fieldLink RX2 23 "ViewKeeper" "suspects" "[I") (by decide +kernel)
  have hl := lv_entry ([.ref (a 0), .int (nI L)]) (n := 6) (Nat.le_of_ble_eq_true rfl)
  rw [lg_entry_eq]
  generalize (lg_sl ([.ref (a 0), .int (nI L)]) ++ List.replicate (6 - (lg_sl ([.ref (a 0), .int (nI L)])).length) Slot.unset).toArray = ls at hl ⊢
  have hl : lv_has ls 6 [(0, .ref (a 0)), (1, .int (nI L))] := hl
  refine lv_iconst (v := nI 0) hx hb dX2_suspectOnce_0 (by decide) ?_
  refine lv_istore_n (lv' := [(2, .int (nI 0)), (0, .ref (a 0)), (1, .int (nI L))]) hx hb dX2_suspectOnce_1 rfl hl (by decide) rfl (fun ls hl => ?_)
  refine lv_iconst (v := nI 0) hx hb dX2_suspectOnce_2 (by decide) ?_
  refine lv_istore_n (lv' := [(3, .int (nI 0)), (2, .int (nI 0)), (0, .ref (a 0)), (1, .int (nI L))]) hx hb dX2_suspectOnce_3 rfl hl (by decide) rfl (fun ls hl => ?_)
  have L_4_0 : ∀ (nn : Nat) (i : Nat) (su1 : Nat → Int32) (more : Bool), i + nn = n → ∀ (H : Heap) (locs : List Loc), va_P (dC, dI) vwCl (vkW a cA n hd fm rp rq nd nw bf su1 sI sO ct) H → va_D A (vkW a cA n hd fm rp rq nd nw bf su1 sI sO ct) → va_S A s.heap H locs → ∀ ls : Array Slot, lv_has ls 6 [(0, .ref (a 0)), (1, .int (nI L)), (2, .int (bI more)), (3, .int (nI i))] → (∀ (H : Heap) (locs : List Loc), va_P (dC, dI) vwCl (vkW a cA n hd fm rp rq nd nw bf ((soF hd fm rp rq nd nw bf L nn i su1 more).1) sI sO ct) H → va_D A (vkW a cA n hd fm rp rq nd nw bf ((soF hd fm rp rq nd nw bf L nn i su1 more).1) sI sO ct) → va_S A s.heap H locs → ∀ ls : Array Slot, lv_has ls 6 [(0, .ref (a 0)), (1, .int (nI L)), (2, .int (bI ((soF hd fm rp rq nd nw bf L nn i su1 more).2))), (3, .int (nI n))] → W p l e (headSpec wsX2_suspectOnce ({ frames := 3, cells := 0, slots := 0, locals := 71 })).room s m ([.ref (a 0), .int (nI L)] : List Value).toArray below meth c H locs 0 0 (MQ below (va_Qi (fun (rz9 : Int32) (_ : Unit) => rz9 = (bI ((soF hd fm rp rq nd nw bf L n 0 su false).2))) (wrB (dC, dI) vwCl (vkW a cA n hd fm rp rq nd nw bf su sI sO ct) (vkW a cA n hd fm rp rq nd nw bf ((soF hd fm rp rq nd nw bf L n 0 su false).1) sI sO ct) (vkT cA) s.heap.size) (va_A (vkW a cA n hd fm rp rq nd nw bf su sI sO ct) s.heap.size)) ([.ref (a 0), .int (nI L)] : List Value).toArray s 0 0 (va_A (vkW a cA n hd fm rp rq nd nw bf su sI sO ct) s.heap.size)) (F0 m 114 ls [])) → W p l e (headSpec wsX2_suspectOnce ({ frames := 3, cells := 0, slots := 0, locals := 71 })).room s m ([.ref (a 0), .int (nI L)] : List Value).toArray below meth c H locs 0 0 (MQ below (va_Qi (fun (rz9 : Int32) (_ : Unit) => rz9 = (bI ((soF hd fm rp rq nd nw bf L n 0 su false).2))) (wrB (dC, dI) vwCl (vkW a cA n hd fm rp rq nd nw bf su sI sO ct) (vkW a cA n hd fm rp rq nd nw bf ((soF hd fm rp rq nd nw bf L n 0 su false).1) sI sO ct) (vkT cA) s.heap.size) (va_A (vkW a cA n hd fm rp rq nd nw bf su sI sO ct) s.heap.size)) ([.ref (a 0), .int (nI L)] : List Value).toArray s 0 0 (va_A (vkW a cA n hd fm rp rq nd nw bf su sI sO ct) s.heap.size)) (F0 m 4 ls []) := by
    intro nn
    induction nn with
    | zero =>
      intro i su1 more hni H locs hP hD hS ls hl kx
      obtain rfl : n = i := by omega
      refine lv_iload_n hx hb dX2_suspectOnce_4 rfl (lv_at hl 3 rfl) ?_
      refine lv_aload_n hx hb dX2_suspectOnce_5 rfl (lv_at hl 0 rfl) ?_
      refine va_get (D := (dC, dI)) (ci := 2) (v := .ref (a 1)) (C := RX2) (T := TX2) (N := 7) hx hb hts in_X2 hown hK hP 0 rfl rfl 0 (by decide) lf_10 (fun _ h9 => h9) rfl dX2_suspectOnce_6 ?_
      refine va_getN (D := (dC, dI)) (ci := 1) (v := .int (nI n)) (C := RX1) (T := TX1) (N := 3) hx hb hts in_X1 hown hK hP 1 rfl rfl 2 (by decide) lf_42 (fun _ h9 => h9) rfl dX2_suspectOnce_9 ?_
      refine hx_geN (tgt := 114) hx hb dX2_suspectOnce_12 (by decide) (by omega) (by omega) (fun c_2 => ?_) (fun c_2 => ?_)
      · exact kx _ _ hP hD hS ls (lv_sub hl [0, 1, 2, 3] rfl)
      · exact absurd c_2 (by omega)
    | succ nn ih =>
      intro i su1 more hni H locs hP hD hS ls hl kx
      refine lv_iload_n hx hb dX2_suspectOnce_4 rfl (lv_at hl 3 rfl) ?_
      refine lv_aload_n hx hb dX2_suspectOnce_5 rfl (lv_at hl 0 rfl) ?_
      refine va_get (D := (dC, dI)) (ci := 2) (v := .ref (a 1)) (C := RX2) (T := TX2) (N := 7) hx hb hts in_X2 hown hK hP 0 rfl rfl 0 (by decide) lf_10 (fun _ h9 => h9) rfl dX2_suspectOnce_6 ?_
      refine va_getN (D := (dC, dI)) (ci := 1) (v := .int (nI n)) (C := RX1) (T := TX1) (N := 3) hx hb hts in_X1 hown hK hP 1 rfl rfl 2 (by decide) lf_42 (fun _ h9 => h9) rfl dX2_suspectOnce_9 ?_
      refine hx_geN (tgt := 114) hx hb dX2_suspectOnce_12 (by decide) (by omega) (by omega) (fun c_3 => ?_) (fun c_3 => ?_)
      · exact absurd c_3 (by omega)
      · have hr9 := hru i (by omega)
        refine lv_aload_n hx hb dX2_suspectOnce_15 rfl (lv_at hl 0 rfl) ?_
        refine va_get (D := (dC, dI)) (ci := 2) (v := .ref (a 1)) (C := RX2) (T := TX2) (N := 7) hx hb hts in_X2 hown hK hP 0 rfl rfl 0 (by decide) lf_10 (fun _ h9 => h9) rfl dX2_suspectOnce_16 ?_
        refine va_getN (D := (dC, dI)) (ci := 1) (v := .ref (a 2)) (C := RX1) (T := TX1) (N := 3) hx hb hts in_X1 hown hK hP 1 rfl rfl 0 (by decide) lf_129 (fun _ h9 => h9) rfl dX2_suspectOnce_19 ?_
        refine lv_iload_n hx hb dX2_suspectOnce_22 rfl (lv_at hl 3 rfl) ?_
        refine hx_aald hx hb hK hP 2 0 rfl rfl (by omega) (by omega) dX2_suspectOnce_23 ?_
        refine lv_astore (lv' := [(4, .ref (a (10 + i))), (0, .ref (a 0)), (1, .int (nI L)), (2, .int (bI more)), (3, .int (nI i))]) hx hb dX2_suspectOnce_24 hl (by decide) rfl (fun ls hl => ?_)
        refine lv_aload_n hx hb dX2_suspectOnce_26 rfl (lv_at hl 1 rfl) ?_
        refine va_get (D := (dC, dI)) (ci := 2) (v := .ref (a 1)) (C := RX2) (T := TX2) (N := 7) hx hb hts in_X2 hown hK hP 0 rfl rfl 0 (by decide) lf_10 (fun _ h9 => h9) rfl dX2_suspectOnce_27 ?_
        refine lv_aload hx hb dX2_suspectOnce_30 (lv_at hl 0 rfl) ?_
        refine va_getN (D := (dC, dI)) (ci := 0) (v := .int (nI (hd i))) (C := RX0) (T := TX0) (N := 4) hx hb hts in_X0 hown hK hP (10 + i) (vkW_rule (by omega)) rfl 0 (by decide) lf_133 (fun _ h9 => h9) rfl dX2_suspectOnce_32 ?_
        refine hx_read (va_runVN (C := RX1) (As := [.int (nI (hd i))]) (rest := []) ⟨hx, hb, hml, hown, hts⟩ (c_X1_layerOf l dC dI a cA n hd fm rp rq nd nw bf su1 sI sO ct (hd i) (by omega)) ⟨va_cnB 1 hts gX2_suspectOnce_X1_layerOf_n138 rfl rfl rfl (hN (.methodLinkNest RX2 138 yX1_layerOf "ViewKeeper") (by decide +kernel)) (hts (.initialized RX1) (by decide +kernel)) (by decide +kernel) ⟨Nat.le_of_ble_eq_true rfl, Nat.le_of_ble_eq_true rfl⟩, hts (.instanceMethod yX1_layerOf) (by decide +kernel), hts (.selects RX1 yX1_layerOf yX1_layerOf) (by decide +kernel)⟩ (rd_V nstW_ok hP hK hN 1 rfl rfl _) rfl rfl hl.1 rfl (lv_room (Nat.le_of_ble_eq_true rfl)) dX2_suspectOnce_35 ⟨Nat.zero_le _, Nat.zero_le _⟩) ?_
        have hc_4 := cntB_le (nd (hd i) ||| bm (hd i)) 32
        refine lv_iload_n hx hb dX2_suspectOnce_38 rfl (lv_at hl 2 rfl) ?_
        refine hx_neN (tgt := 108) hx hb dX2_suspectOnce_39 (by decide) (by omega) (by omega) (fun c_5 => ?_) (fun c_5 => ?_)
        · refine lv_iinc (v := nI (i + 1)) (lv' := [(3, .int (nI (i + 1))), (4, .ref (a (10 + i))), (0, .ref (a 0)), (1, .int (nI L)), (2, .int (bI more))]) hx hb dX2_suspectOnce_108 hl (k := 4) rfl (nI_add i 1) (by decide) rfl (fun ls hl => ?_)
          refine lv_goto (tgt := 4) hx hb dX2_suspectOnce_111 (by decide) ?_
          have kx := kx
          rw [show (soF hd fm rp rq nd nw bf L (nn + 1) i su1 more).1 = (soF hd fm rp rq nd nw bf L nn (i + 1) su1 more).1 from by simp only [soF, layM, c_3, c_5, ↓reduceIte, decide_true, decide_false, Bool.not_true, Bool.not_false, Bool.or_true, Bool.true_or, Bool.or_false, Bool.false_or, Bool.and_true, Bool.true_and, Bool.and_false, Bool.false_and, and_true, true_and, and_false, false_and, and_self, or_self, or_true, true_or, or_false, false_or, Bool.false_eq_true, Bool.true_eq_false, not_true_eq_false, not_false_eq_true, Bool.or_self, decide_eq_true_eq]] at kx
          rw [show (soF hd fm rp rq nd nw bf L (nn + 1) i su1 more).2 = (soF hd fm rp rq nd nw bf L nn (i + 1) su1 more).2 from by simp only [soF, layM, c_3, c_5, ↓reduceIte, decide_true, decide_false, Bool.not_true, Bool.not_false, Bool.or_true, Bool.true_or, Bool.or_false, Bool.false_or, Bool.and_true, Bool.true_and, Bool.and_false, Bool.false_and, and_true, true_and, and_false, false_and, and_self, or_self, or_true, true_or, or_false, false_or, Bool.false_eq_true, Bool.true_eq_false, not_true_eq_false, not_false_eq_true, Bool.or_self, decide_eq_true_eq]] at kx
          exact ih (i + 1) su1 more (by omega) _ _ hP hD hS ls (lv_sub hl [2, 3, 4, 0] rfl) kx
        · refine lv_aload_n hx hb dX2_suspectOnce_42 rfl (lv_at hl 1 rfl) ?_
          refine va_get (D := (dC, dI)) (ci := 2) (v := .ref (a 1)) (C := RX2) (T := TX2) (N := 7) hx hb hts in_X2 hown hK hP 0 rfl rfl 0 (by decide) lf_10 (fun _ h9 => h9) rfl dX2_suspectOnce_43 ?_
          refine lv_aload hx hb dX2_suspectOnce_46 (lv_at hl 0 rfl) ?_
          refine va_getN (D := (dC, dI)) (ci := 0) (v := .int (nI (hd i))) (C := RX0) (T := TX0) (N := 4) hx hb hts in_X0 hown hK hP (10 + i) (vkW_rule (by omega)) rfl 0 (by decide) lf_133 (fun _ h9 => h9) rfl dX2_suspectOnce_48 ?_
          refine hx_read (va_runVN (C := RX1) (As := [.int (nI (hd i))]) (rest := []) ⟨hx, hb, hml, hown, hts⟩ (c_X1_leadsBack l dC dI a cA n hd fm rp rq nd nw bf su1 sI sO ct (hd i) (by omega)) ⟨va_cnB 1 hts gX2_suspectOnce_X1_leadsBack_n95 rfl rfl rfl (hN (.methodLinkNest RX2 95 yX1_leadsBack "ViewKeeper") (by decide +kernel)) (hts (.initialized RX1) (by decide +kernel)) (by decide +kernel) ⟨Nat.le_of_ble_eq_true rfl, Nat.le_of_ble_eq_true rfl⟩, hts (.instanceMethod yX1_leadsBack) (by decide +kernel), hts (.selects RX1 yX1_leadsBack yX1_leadsBack) (by decide +kernel)⟩ (rd_V nstW_ok hP hK hN 1 rfl rfl _) rfl rfl hl.1 rfl (lv_room (Nat.le_of_ble_eq_true rfl)) dX2_suspectOnce_51 ⟨Nat.zero_le _, Nat.zero_le _⟩) ?_
          refine hx_ifB (tgt := 108) hx hb dX2_suspectOnce_54 (by decide) (fun c_6 => ?_) (fun c_6 => ?_)
          · refine lv_iinc (v := nI (i + 1)) (lv' := [(3, .int (nI (i + 1))), (4, .ref (a (10 + i))), (0, .ref (a 0)), (1, .int (nI L)), (2, .int (bI more))]) hx hb dX2_suspectOnce_108 hl (k := 4) rfl (nI_add i 1) (by decide) rfl (fun ls hl => ?_)
            refine lv_goto (tgt := 4) hx hb dX2_suspectOnce_111 (by decide) ?_
            have kx := kx
            rw [show (soF hd fm rp rq nd nw bf L (nn + 1) i su1 more).1 = (soF hd fm rp rq nd nw bf L nn (i + 1) su1 more).1 from by simp only [soF, layM, c_3, c_5, c_6, ↓reduceIte, decide_true, decide_false, Bool.not_true, Bool.not_false, Bool.or_true, Bool.true_or, Bool.or_false, Bool.false_or, Bool.and_true, Bool.true_and, Bool.and_false, Bool.false_and, and_true, true_and, and_false, false_and, and_self, or_self, or_true, true_or, or_false, false_or, Bool.false_eq_true, Bool.true_eq_false, not_true_eq_false, not_false_eq_true, Bool.or_self, decide_eq_true_eq]] at kx
            rw [show (soF hd fm rp rq nd nw bf L (nn + 1) i su1 more).2 = (soF hd fm rp rq nd nw bf L nn (i + 1) su1 more).2 from by simp only [soF, layM, c_3, c_5, c_6, ↓reduceIte, decide_true, decide_false, Bool.not_true, Bool.not_false, Bool.or_true, Bool.true_or, Bool.or_false, Bool.false_or, Bool.and_true, Bool.true_and, Bool.and_false, Bool.false_and, and_true, true_and, and_false, false_and, and_self, or_self, or_true, true_or, or_false, false_or, Bool.false_eq_true, Bool.true_eq_false, not_true_eq_false, not_false_eq_true, Bool.or_self, decide_eq_true_eq]] at kx
            exact ih (i + 1) su1 more (by omega) _ _ hP hD hS ls (lv_sub hl [2, 3, 4, 0] rfl) kx
          · refine lv_aload_n hx hb dX2_suspectOnce_57 rfl (lv_at hl 1 rfl) ?_
            refine lv_aload hx hb dX2_suspectOnce_58 (lv_at hl 0 rfl) ?_
            refine hx_read (va_runV (As := [.ref (a (10 + i))]) (rest := []) ⟨hx, hb, hml, hown, hts⟩ (c_X2_suspectsBy l dC dI a cA n hd fm rp rq nd nw bf su1 sI sO ct i (by omega) (by omega) (by omega) (by omega) (by omega)) (cwV 1 hts gX2_suspectOnce_X2_suspectsBy rfl rfl rfl (by decide +kernel) ⟨Nat.le_of_ble_eq_true rfl, Nat.le_of_ble_eq_true rfl⟩) (rd_V nstW_ok hP hK hN 0 rfl rfl _) rfl rfl hl.1 rfl (lv_room (Nat.le_of_ble_eq_true rfl)) dX2_suspectOnce_60 ⟨Nat.zero_le _, Nat.zero_le _⟩) ?_
            refine lv_aload_n hx hb dX2_suspectOnce_63 rfl (lv_at hl 1 rfl) ?_
            refine va_get (D := (dC, dI)) (ci := 2) (v := .ref (a 6)) (C := RX2) (T := TX2) (N := 7) hx hb hts in_X2 hown hK hP 0 rfl rfl 3 (by decide) lf_23 (fun _ h9 => h9) rfl dX2_suspectOnce_64 ?_
            refine lv_aload hx hb dX2_suspectOnce_67 (lv_at hl 0 rfl) ?_
            refine va_getN (D := (dC, dI)) (ci := 0) (v := .int (nI (hd i))) (C := RX0) (T := TX0) (N := 4) hx hb hts in_X0 hown hK hP (10 + i) (vkW_rule (by omega)) rfl 0 (by decide) lf_133 (fun _ h9 => h9) rfl dX2_suspectOnce_69 ?_
            refine hx_iald hx hb hK hP 6 4 rfl rfl (by omega) (by omega) dX2_suspectOnce_72 ?_
            refine lv_iconst (v := (-1)) hx hb dX2_suspectOnce_73 (by decide) ?_
            refine lv_ixor hx hb dX2_suspectOnce_74 ?_
            refine lv_iand hx hb dX2_suspectOnce_75 ?_
            refine lv_istore (lv' := [(5, .int ((susM nd nw bf su1 (hd i) (fm i) (rp i) (rq i)) &&& ((su1 (hd i)) ^^^ ((-1))))), (4, .ref (a (10 + i))), (0, .ref (a 0)), (1, .int (nI L)), (2, .int (bI more)), (3, .int (nI i))]) hx hb dX2_suspectOnce_76 hl (by decide) rfl (fun ls hl => ?_)
            refine lv_aload_n hx hb dX2_suspectOnce_78 rfl (lv_at hl 2 rfl) ?_
            refine va_get (D := (dC, dI)) (ci := 2) (v := .ref (a 6)) (C := RX2) (T := TX2) (N := 7) hx hb hts in_X2 hown hK hP 0 rfl rfl 3 (by decide) lf_23 (fun _ h9 => h9) rfl dX2_suspectOnce_79 ?_
            refine lv_aload hx hb dX2_suspectOnce_82 (lv_at hl 1 rfl) ?_
            refine va_getN (D := (dC, dI)) (ci := 0) (v := .int (nI (hd i))) (C := RX0) (T := TX0) (N := 4) hx hb hts in_X0 hown hK hP (10 + i) (vkW_rule (by omega)) rfl 0 (by decide) lf_133 (fun _ h9 => h9) rfl dX2_suspectOnce_84 ?_
            refine lv_dup2_11 hx hb dX2_suspectOnce_87 rfl rfl ?_
            refine hx_iald hx hb hK hP 6 4 rfl rfl (by omega) (by omega) dX2_suspectOnce_88 ?_
            refine lv_iload hx hb dX2_suspectOnce_89 (lv_at hl 0 rfl) ?_
            refine lv_ior hx hb dX2_suspectOnce_91 ?_
            refine hx_iast hx hb hK hP hD hS 6 4 rfl rfl (by omega) (by omega) dX2_suspectOnce_92 (fun H locs hP hD hS => ?_)
            have hP : va_P (dC, dI) vwCl (vkW a cA n hd fm rp rq nd nw bf (upd su1 (hd i) ((su1 (hd i)) ||| ((susM nd nw bf su1 (hd i) (fm i) (rp i) (rq i)) &&& ((su1 (hd i)) ^^^ ((-1)))))) sI sO ct) H := hP
            have hD : va_D A (vkW a cA n hd fm rp rq nd nw bf (upd su1 (hd i) ((su1 (hd i)) ||| ((susM nd nw bf su1 (hd i) (fm i) (rp i) (rq i)) &&& ((su1 (hd i)) ^^^ ((-1)))))) sI sO ct) := hD
            refine lv_iload_n hx hb dX2_suspectOnce_93 rfl (lv_at hl 4 rfl) ?_
            refine hx_ifnB (tgt := 102) hx hb dX2_suspectOnce_94 (by decide) (fun c_7 => ?_) (fun c_7 => ?_)
            · refine lv_iconst (v := nI 1) hx hb dX2_suspectOnce_102 (by decide) ?_
              refine lv_goto (tgt := 107) hx hb dX2_suspectOnce_103 (by decide) ?_
              refine lv_istore_n (lv' := [(2, .int (nI 1)), (5, .int ((susM nd nw bf su1 (hd i) (fm i) (rp i) (rq i)) &&& ((su1 (hd i)) ^^^ ((-1))))), (4, .ref (a (10 + i))), (0, .ref (a 0)), (1, .int (nI L)), (3, .int (nI i))]) hx hb dX2_suspectOnce_107 rfl hl (by decide) rfl (fun ls hl => ?_)
              refine lv_iinc (v := nI (i + 1)) (lv' := [(3, .int (nI (i + 1))), (2, .int (nI 1)), (5, .int ((susM nd nw bf su1 (hd i) (fm i) (rp i) (rq i)) &&& ((su1 (hd i)) ^^^ ((-1))))), (4, .ref (a (10 + i))), (0, .ref (a 0)), (1, .int (nI L))]) hx hb dX2_suspectOnce_108 hl (k := 5) rfl (nI_add i 1) (by decide) rfl (fun ls hl => ?_)
              refine lv_goto (tgt := 4) hx hb dX2_suspectOnce_111 (by decide) ?_
              have kx := kx
              rw [show (soF hd fm rp rq nd nw bf L (nn + 1) i su1 more).1 = (soF hd fm rp rq nd nw bf L nn (i + 1) (upd su1 (hd i) ((su1 (hd i)) ||| ((susM nd nw bf su1 (hd i) (fm i) (rp i) (rq i)) &&& ((su1 (hd i)) ^^^ ((-1)))))) true).1 from by simp only [soF, layM, c_3, c_5, c_6, c_7, ↓reduceIte, decide_true, decide_false, Bool.not_true, Bool.not_false, Bool.or_true, Bool.true_or, Bool.or_false, Bool.false_or, Bool.and_true, Bool.true_and, Bool.and_false, Bool.false_and, and_true, true_and, and_false, false_and, and_self, or_self, or_true, true_or, or_false, false_or, Bool.false_eq_true, Bool.true_eq_false, not_true_eq_false, not_false_eq_true, Bool.or_self, decide_eq_true_eq]] at kx
              rw [show (soF hd fm rp rq nd nw bf L (nn + 1) i su1 more).2 = (soF hd fm rp rq nd nw bf L nn (i + 1) (upd su1 (hd i) ((su1 (hd i)) ||| ((susM nd nw bf su1 (hd i) (fm i) (rp i) (rq i)) &&& ((su1 (hd i)) ^^^ ((-1)))))) true).2 from by simp only [soF, layM, c_3, c_5, c_6, c_7, ↓reduceIte, decide_true, decide_false, Bool.not_true, Bool.not_false, Bool.or_true, Bool.true_or, Bool.or_false, Bool.false_or, Bool.and_true, Bool.true_and, Bool.and_false, Bool.false_and, and_true, true_and, and_false, false_and, and_self, or_self, or_true, true_or, or_false, false_or, Bool.false_eq_true, Bool.true_eq_false, not_true_eq_false, not_false_eq_true, Bool.or_self, decide_eq_true_eq]] at kx
              exact ih (i + 1) (upd su1 (hd i) ((su1 (hd i)) ||| ((susM nd nw bf su1 (hd i) (fm i) (rp i) (rq i)) &&& ((su1 (hd i)) ^^^ ((-1)))))) true (by omega) _ _ hP hD hS ls (lv_sub hl [4, 5, 1, 0] rfl) kx
            · refine lv_iload hx hb dX2_suspectOnce_97 (lv_at hl 0 rfl) ?_
              refine lv_if_eq (tgt := 106) hx hb dX2_suspectOnce_99 (by decide) (fun c_8 => ?_) (fun c_8 => ?_)
              · refine lv_iconst (v := nI 0) hx hb dX2_suspectOnce_106 (by decide) ?_
                refine lv_istore_n (lv' := [(2, .int (nI 0)), (5, .int ((susM nd nw bf su1 (hd i) (fm i) (rp i) (rq i)) &&& ((su1 (hd i)) ^^^ ((-1))))), (4, .ref (a (10 + i))), (0, .ref (a 0)), (1, .int (nI L)), (3, .int (nI i))]) hx hb dX2_suspectOnce_107 rfl hl (by decide) rfl (fun ls hl => ?_)
                refine lv_iinc (v := nI (i + 1)) (lv' := [(3, .int (nI (i + 1))), (2, .int (nI 0)), (5, .int ((susM nd nw bf su1 (hd i) (fm i) (rp i) (rq i)) &&& ((su1 (hd i)) ^^^ ((-1))))), (4, .ref (a (10 + i))), (0, .ref (a 0)), (1, .int (nI L))]) hx hb dX2_suspectOnce_108 hl (k := 5) rfl (nI_add i 1) (by decide) rfl (fun ls hl => ?_)
                refine lv_goto (tgt := 4) hx hb dX2_suspectOnce_111 (by decide) ?_
                have kx := kx
                rw [show (soF hd fm rp rq nd nw bf L (nn + 1) i su1 more).1 = (soF hd fm rp rq nd nw bf L nn (i + 1) (upd su1 (hd i) ((su1 (hd i)) ||| ((susM nd nw bf su1 (hd i) (fm i) (rp i) (rq i)) &&& ((su1 (hd i)) ^^^ ((-1)))))) false).1 from by simp only [soF, layM, c_3, c_5, c_6, c_7, c_8, ↓reduceIte, decide_true, decide_false, Bool.not_true, Bool.not_false, Bool.or_true, Bool.true_or, Bool.or_false, Bool.false_or, Bool.and_true, Bool.true_and, Bool.and_false, Bool.false_and, and_true, true_and, and_false, false_and, and_self, or_self, or_true, true_or, or_false, false_or, Bool.false_eq_true, Bool.true_eq_false, not_true_eq_false, not_false_eq_true, Bool.or_self, decide_eq_true_eq]] at kx
                rw [show (soF hd fm rp rq nd nw bf L (nn + 1) i su1 more).2 = (soF hd fm rp rq nd nw bf L nn (i + 1) (upd su1 (hd i) ((su1 (hd i)) ||| ((susM nd nw bf su1 (hd i) (fm i) (rp i) (rq i)) &&& ((su1 (hd i)) ^^^ ((-1)))))) false).2 from by simp only [soF, layM, c_3, c_5, c_6, c_7, c_8, ↓reduceIte, decide_true, decide_false, Bool.not_true, Bool.not_false, Bool.or_true, Bool.true_or, Bool.or_false, Bool.false_or, Bool.and_true, Bool.true_and, Bool.and_false, Bool.false_and, and_true, true_and, and_false, false_and, and_self, or_self, or_true, true_or, or_false, false_or, Bool.false_eq_true, Bool.true_eq_false, not_true_eq_false, not_false_eq_true, Bool.or_self, decide_eq_true_eq]] at kx
                exact ih (i + 1) (upd su1 (hd i) ((su1 (hd i)) ||| ((susM nd nw bf su1 (hd i) (fm i) (rp i) (rq i)) &&& ((su1 (hd i)) ^^^ ((-1)))))) false (by omega) _ _ hP hD hS ls (lv_sub hl [4, 5, 1, 0] rfl) kx
              · refine lv_iconst (v := nI 1) hx hb dX2_suspectOnce_102 (by decide) ?_
                refine lv_goto (tgt := 107) hx hb dX2_suspectOnce_103 (by decide) ?_
                refine lv_istore_n (lv' := [(2, .int (nI 1)), (5, .int ((susM nd nw bf su1 (hd i) (fm i) (rp i) (rq i)) &&& ((su1 (hd i)) ^^^ ((-1))))), (4, .ref (a (10 + i))), (0, .ref (a 0)), (1, .int (nI L)), (3, .int (nI i))]) hx hb dX2_suspectOnce_107 rfl hl (by decide) rfl (fun ls hl => ?_)
                refine lv_iinc (v := nI (i + 1)) (lv' := [(3, .int (nI (i + 1))), (2, .int (nI 1)), (5, .int ((susM nd nw bf su1 (hd i) (fm i) (rp i) (rq i)) &&& ((su1 (hd i)) ^^^ ((-1))))), (4, .ref (a (10 + i))), (0, .ref (a 0)), (1, .int (nI L))]) hx hb dX2_suspectOnce_108 hl (k := 5) rfl (nI_add i 1) (by decide) rfl (fun ls hl => ?_)
                refine lv_goto (tgt := 4) hx hb dX2_suspectOnce_111 (by decide) ?_
                have kx := kx
                rw [show (soF hd fm rp rq nd nw bf L (nn + 1) i su1 more).1 = (soF hd fm rp rq nd nw bf L nn (i + 1) (upd su1 (hd i) ((su1 (hd i)) ||| ((susM nd nw bf su1 (hd i) (fm i) (rp i) (rq i)) &&& ((su1 (hd i)) ^^^ ((-1)))))) true).1 from by simp only [soF, layM, c_3, c_5, c_6, c_7, c_8, ↓reduceIte, decide_true, decide_false, Bool.not_true, Bool.not_false, Bool.or_true, Bool.true_or, Bool.or_false, Bool.false_or, Bool.and_true, Bool.true_and, Bool.and_false, Bool.false_and, and_true, true_and, and_false, false_and, and_self, or_self, or_true, true_or, or_false, false_or, Bool.false_eq_true, Bool.true_eq_false, not_true_eq_false, not_false_eq_true, Bool.or_self, decide_eq_true_eq]] at kx
                rw [show (soF hd fm rp rq nd nw bf L (nn + 1) i su1 more).2 = (soF hd fm rp rq nd nw bf L nn (i + 1) (upd su1 (hd i) ((su1 (hd i)) ||| ((susM nd nw bf su1 (hd i) (fm i) (rp i) (rq i)) &&& ((su1 (hd i)) ^^^ ((-1)))))) true).2 from by simp only [soF, layM, c_3, c_5, c_6, c_7, c_8, ↓reduceIte, decide_true, decide_false, Bool.not_true, Bool.not_false, Bool.or_true, Bool.true_or, Bool.or_false, Bool.false_or, Bool.and_true, Bool.true_and, Bool.and_false, Bool.false_and, and_true, true_and, and_false, false_and, and_self, or_self, or_true, true_or, or_false, false_or, Bool.false_eq_true, Bool.true_eq_false, not_true_eq_false, not_false_eq_true, Bool.or_self, decide_eq_true_eq]] at kx
                exact ih (i + 1) (upd su1 (hd i) ((su1 (hd i)) ||| ((susM nd nw bf su1 (hd i) (fm i) (rp i) (rq i)) &&& ((su1 (hd i)) ^^^ ((-1)))))) true (by omega) _ _ hP hD hS ls (lv_sub hl [4, 5, 1, 0] rfl) kx
  refine L_4_0 n 0 su false (by omega) _ _ hP hD hS ls (lv_sub hl [2, 3, 1, 0] rfl) (fun H locs hP hD hS ls hl => ?_)
  have hP : va_P (dC, dI) vwCl (vkW a cA n hd fm rp rq nd nw bf ((soF hd fm rp rq nd nw bf L n 0 su false).1) sI sO ct) H := hP
  have hD : va_D A (vkW a cA n hd fm rp rq nd nw bf ((soF hd fm rp rq nd nw bf L n 0 su false).1) sI sO ct) := hD
  have hl : lv_has ls 6 [(0, .ref (a 0)), (1, .int (nI L)), (2, .int (bI ((soF hd fm rp rq nd nw bf L n 0 su false).2))), (3, .int (nI n))] := hl
  refine lv_iload_n hx hb dX2_suspectOnce_114 rfl (lv_at hl 2 rfl) ?_
  have e9 : vkW a cA n hd fm rp rq nd nw bf ((soF hd fm rp rq nd nw bf L n 0 su false).1) sI sO ct = vkW a cA n hd fm rp rq nd nw bf ((soF hd fm rp rq nd nw bf L n 0 su false).1) sI sO ct := rfl
  rw [e9] at hP hD
  subst hAe
  exact W.zret (v := bI ((soF hd fm rp rq nd nw bf L n 0 su false).2)) hx hb hr (nar_bI _) (fun t ht hW => ⟨⟨_, (), rfl, rfl, by rw [ht]; exact hP, va_K.moved hW.alike hK, hD⟩, hS.F ht⟩) hS.2.2 dX2_suspectOnce_115
set_option maxHeartbeats 4000000 in
set_option maxRecDepth 100000 in
theorem c_X2_findSuspects (l : Launch) (dC : Nat → ClassId) (dI : Nat → Nat → Nat) (a : Nat → Nat) (cA : Nat → ClassId) (n : Nat) (hd fm rp rq : Nat → Nat) (nd nw bf su sI sO ct : Nat → Int32) (L : Nat) (hy_0 : ruOk n hd fm rp rq) (hy_1 : L < 8) : WrV l yX2_findSuspects wsX2_findSuspects ({ frames := 4, cells := 0, slots := 0, locals := 96 }) (dC, dI) vwCl (vkW a cA n hd fm rp rq nd nw bf su sI sO ct) (vkW a cA n hd fm rp rq nd nw bf (fsF n hd fm rp rq nd nw bf L 126 true su) sI sO ct) (vkT cA) nstW [.ref (a 0), .int (nI L)] := by
  intro sz
  refine Met.ofW (cc := cX2_findSuspects) (maxL := 4) (ret := none) (by decide) rfl ?_
  intro p e s m args below meth c s₁ B hml hv
  obtain ⟨rfl, hsz, ⟨hP, hK, hN⟩, hD0⟩ := hv
  subst hsz
  have hx := B.exec
  have hb := B.bytes
  have hr := B.returns
  have hts := atoms_spec (ws := wsX2_findSuspects) B.pre
  have hown : s.vm.findClass RX2 = some m.cls := findClass_of_methodNamed B.named
  have hlocks := B.notSynchronized
  obtain ⟨A, hAe⟩ : ∃ A, A = va_A (vkW a cA n hd fm rp rq nd nw bf su sI sO ct) s.heap.size := ⟨_, rfl⟩
  have hD : va_D A (vkW a cA n hd fm rp rq nd nw bf su sI sO ct) := by rw [hAe]; exact hD0.self (sz := s.heap.size)
  have hA : ∀ q : Nat, s.heap.size ≤ q → A q := fun q h => by rw [hAe]; exact Or.inr h
  have hS : va_S A s.heap s.heap [] := va_S.rf
  have hP : va_P (dC, dI) vwCl (vkW a cA n hd fm rp rq nd nw bf su sI sO ct) s.heap := hP
  have hl := lv_entry ([.ref (a 0), .int (nI L)]) (n := 4) (Nat.le_of_ble_eq_true rfl)
  rw [lg_entry_eq]
  generalize (lg_sl ([.ref (a 0), .int (nI L)]) ++ List.replicate (4 - (lg_sl ([.ref (a 0), .int (nI L)])).length) Slot.unset).toArray = ls at hl ⊢
  have hl : lv_has ls 4 [(0, .ref (a 0)), (1, .int (nI L))] := hl
  refine lv_iconst (v := nI 1) hx hb dX2_findSuspects_0 (by decide) ?_
  refine lv_istore_n (lv' := [(2, .int (nI 1)), (0, .ref (a 0)), (1, .int (nI L))]) hx hb dX2_findSuspects_1 rfl hl (by decide) rfl (fun ls hl => ?_)
  refine lv_iconst (v := nI 0) hx hb dX2_findSuspects_2 (by decide) ?_
  refine lv_istore_n (lv' := [(3, .int (nI 0)), (2, .int (nI 1)), (0, .ref (a 0)), (1, .int (nI L))]) hx hb dX2_findSuspects_3 rfl hl (by decide) rfl (fun ls hl => ?_)
  have L_4_0 : ∀ (nn : Nat) (ps : Nat) (more : Bool) (S1 : Nat → Int32), ps + nn = 126 → ∀ (H : Heap) (locs : List Loc), va_P (dC, dI) vwCl (vkW a cA n hd fm rp rq nd nw bf S1 sI sO ct) H → va_D A (vkW a cA n hd fm rp rq nd nw bf S1 sI sO ct) → va_S A s.heap H locs → ∀ ls : Array Slot, lv_has ls 4 [(0, .ref (a 0)), (1, .int (nI L)), (2, .int (bI more)), (3, .int (nI ps))] → (∀ (H : Heap) (locs : List Loc), va_P (dC, dI) vwCl (vkW a cA n hd fm rp rq nd nw bf (fsF n hd fm rp rq nd nw bf L nn more S1) sI sO ct) H → va_D A (vkW a cA n hd fm rp rq nd nw bf (fsF n hd fm rp rq nd nw bf L nn more S1) sI sO ct) → va_S A s.heap H locs → ∀ ls : Array Slot, lv_has ls 4 [(0, .ref (a 0)), (1, .int (nI L))] → W p l e (headSpec wsX2_findSuspects ({ frames := 4, cells := 0, slots := 0, locals := 96 })).room s m ([.ref (a 0), .int (nI L)] : List Value).toArray below meth c H locs 0 0 (MQ below (va_Qv (fun _ : Unit => True) (wrB (dC, dI) vwCl (vkW a cA n hd fm rp rq nd nw bf su sI sO ct) (vkW a cA n hd fm rp rq nd nw bf (fsF n hd fm rp rq nd nw bf L 126 true su) sI sO ct) (vkT cA) s.heap.size) (va_A (vkW a cA n hd fm rp rq nd nw bf su sI sO ct) s.heap.size)) ([.ref (a 0), .int (nI L)] : List Value).toArray s 0 0 (va_A (vkW a cA n hd fm rp rq nd nw bf su sI sO ct) s.heap.size)) (F0 m 26 ls [])) → W p l e (headSpec wsX2_findSuspects ({ frames := 4, cells := 0, slots := 0, locals := 96 })).room s m ([.ref (a 0), .int (nI L)] : List Value).toArray below meth c H locs 0 0 (MQ below (va_Qv (fun _ : Unit => True) (wrB (dC, dI) vwCl (vkW a cA n hd fm rp rq nd nw bf su sI sO ct) (vkW a cA n hd fm rp rq nd nw bf (fsF n hd fm rp rq nd nw bf L 126 true su) sI sO ct) (vkT cA) s.heap.size) (va_A (vkW a cA n hd fm rp rq nd nw bf su sI sO ct) s.heap.size)) ([.ref (a 0), .int (nI L)] : List Value).toArray s 0 0 (va_A (vkW a cA n hd fm rp rq nd nw bf su sI sO ct) s.heap.size)) (F0 m 4 ls []) := by
    intro nn
    induction nn with
    | zero =>
      intro ps more S1 hnp H locs hP hD hS ls hl kx
      obtain rfl : ps = 126 := by omega
      refine lv_iload_n hx hb dX2_findSuspects_4 rfl (lv_at hl 2 rfl) ?_
      refine hx_ifB (tgt := 26) hx hb dX2_findSuspects_5 (by decide) (fun c_2 => ?_) (fun c_2 => ?_)
      · exact kx _ _ hP hD hS ls (lv_sub hl [0, 1] rfl)
      · refine lv_iload_n hx hb dX2_findSuspects_8 rfl (lv_at hl 3 rfl) ?_
        refine lv_bipush (v := nI 126) hx hb dX2_findSuspects_9 (by decide) ?_
        refine hx_geN (tgt := 26) hx hb dX2_findSuspects_11 (by decide) (by omega) (by omega) (fun c_3 => ?_) (fun c_3 => ?_)
        · exact kx _ _ hP hD hS ls (lv_sub hl [0, 1] rfl)
        · exact absurd c_3 (by omega)
    | succ nn ih =>
      intro ps more S1 hnp H locs hP hD hS ls hl kx
      refine lv_iload_n hx hb dX2_findSuspects_4 rfl (lv_at hl 2 rfl) ?_
      refine hx_ifB (tgt := 26) hx hb dX2_findSuspects_5 (by decide) (fun c_4 => ?_) (fun c_4 => ?_)
      · have kx := kx
        rw [show fsF n hd fm rp rq nd nw bf L (nn + 1) more S1 = S1 from by simp only [fsF, c_4, ↓reduceIte, decide_true, decide_false, Bool.not_true, Bool.not_false, Bool.or_true, Bool.true_or, Bool.or_false, Bool.false_or, Bool.and_true, Bool.true_and, Bool.and_false, Bool.false_and, and_true, true_and, and_false, false_and, and_self, or_self, or_true, true_or, or_false, false_or, Bool.false_eq_true, Bool.true_eq_false, not_true_eq_false, not_false_eq_true, Bool.or_self, decide_eq_true_eq]] at kx
        exact kx _ _ hP hD hS ls (lv_sub hl [0, 1] rfl)
      · refine lv_iload_n hx hb dX2_findSuspects_8 rfl (lv_at hl 3 rfl) ?_
        refine lv_bipush (v := nI 126) hx hb dX2_findSuspects_9 (by decide) ?_
        refine hx_geN (tgt := 26) hx hb dX2_findSuspects_11 (by decide) (by omega) (by omega) (fun c_5 => ?_) (fun c_5 => ?_)
        · exact absurd c_5 (by omega)
        · refine lv_aload_n hx hb dX2_findSuspects_14 rfl (lv_at hl 0 rfl) ?_
          refine lv_iload_n hx hb dX2_findSuspects_15 rfl (lv_at hl 1 rfl) ?_
          refine hx_wri (va_runV (As := [.int (nI L)]) (rest := []) ⟨hx, hb, hml, hown, hts⟩ (c_X2_suspectOnce l dC dI a cA n hd fm rp rq nd nw bf S1 sI sO ct L (by omega) (by omega) H.size) (cwV 1 hts gX2_findSuspects_X2_suspectOnce rfl rfl rfl (by decide +kernel) ⟨Nat.le_of_ble_eq_true rfl, Nat.le_of_ble_eq_true rfl⟩) (wr_V nstW_ok hP hK hN hD 0 rfl rfl _) rfl rfl hl.1 rfl (lv_room (Nat.le_of_ble_eq_true rfl)) dX2_findSuspects_16 ⟨Nat.zero_le _, Nat.zero_le _⟩) hD hS hA (fun H locs hP hD hS => ?_)
          have hP : va_P (dC, dI) vwCl (vkW a cA n hd fm rp rq nd nw bf ((soF hd fm rp rq nd nw bf L n 0 S1 false).1) sI sO ct) H := hP
          have hD : va_D A (vkW a cA n hd fm rp rq nd nw bf ((soF hd fm rp rq nd nw bf L n 0 S1 false).1) sI sO ct) := hD
          refine lv_istore_n (lv' := [(2, .int (bI ((soF hd fm rp rq nd nw bf L n 0 S1 false).2))), (0, .ref (a 0)), (1, .int (nI L)), (3, .int (nI ps))]) hx hb dX2_findSuspects_19 rfl hl (by decide) rfl (fun ls hl => ?_)
          refine lv_iinc (v := nI (ps + 1)) (lv' := [(3, .int (nI (ps + 1))), (2, .int (bI ((soF hd fm rp rq nd nw bf L n 0 S1 false).2))), (0, .ref (a 0)), (1, .int (nI L))]) hx hb dX2_findSuspects_20 hl (k := 3) rfl (nI_add ps 1) (by decide) rfl (fun ls hl => ?_)
          refine lv_goto (tgt := 4) hx hb dX2_findSuspects_23 (by decide) ?_
          have kx := kx
          rw [show fsF n hd fm rp rq nd nw bf L (nn + 1) more S1 = fsF n hd fm rp rq nd nw bf L nn ((soF hd fm rp rq nd nw bf L n 0 S1 false).2) ((soF hd fm rp rq nd nw bf L n 0 S1 false).1) from by simp only [fsF, c_4, c_5, ↓reduceIte, decide_true, decide_false, Bool.not_true, Bool.not_false, Bool.or_true, Bool.true_or, Bool.or_false, Bool.false_or, Bool.and_true, Bool.true_and, Bool.and_false, Bool.false_and, and_true, true_and, and_false, false_and, and_self, or_self, or_true, true_or, or_false, false_or, Bool.false_eq_true, Bool.true_eq_false, not_true_eq_false, not_false_eq_true, Bool.or_self, decide_eq_true_eq]] at kx
          exact ih (ps + 1) ((soF hd fm rp rq nd nw bf L n 0 S1 false).2) ((soF hd fm rp rq nd nw bf L n 0 S1 false).1) (by omega) _ _ hP hD hS ls (lv_sub hl [2, 3, 1, 0] rfl) kx
  refine L_4_0 126 0 true su (by omega) _ _ hP hD hS ls (lv_sub hl [2, 3, 1, 0] rfl) (fun H locs hP hD hS ls hl => ?_)
  have hP : va_P (dC, dI) vwCl (vkW a cA n hd fm rp rq nd nw bf (fsF n hd fm rp rq nd nw bf L 126 true su) sI sO ct) H := hP
  have hD : va_D A (vkW a cA n hd fm rp rq nd nw bf (fsF n hd fm rp rq nd nw bf L 126 true su) sI sO ct) := hD
  have hl : lv_has ls 4 [(0, .ref (a 0)), (1, .int (nI L))] := hl
  have e9 : vkW a cA n hd fm rp rq nd nw bf (fsF n hd fm rp rq nd nw bf L 126 true su) sI sO ct = vkW a cA n hd fm rp rq nd nw bf (fsF n hd fm rp rq nd nw bf L 126 true su) sI sO ct := rfl
  rw [e9] at hP hD
  subst hAe
  exact W.vret hx hb hr (fun t ht hW => ⟨⟨(), rfl, trivial, by rw [ht]; exact hP, va_K.moved hW.alike hK, hD⟩, hS.F ht⟩) hS.2.2 dX2_findSuspects_26
set_option maxHeartbeats 4000000 in
set_option maxRecDepth 100000 in
theorem c_X2_takeOutSuspects (l : Launch) (dC : Nat → ClassId) (dI : Nat → Nat → Nat) (a : Nat → Nat) (cA : Nat → ClassId) (n : Nat) (hd fm rp rq : Nat → Nat) (nd nw bf su sI sO ct : Nat → Int32) (L : Nat) (hy_0 : L < 8) : WrV l yX2_takeOutSuspects wsX2_takeOutSuspects ({ frames := 2, cells := 0, slots := 0, locals := 41 }) (dC, dI) vwCl (vkW a cA n hd fm rp rq nd nw bf su sI sO ct) (vkW a cA n hd fm rp rq nd (toF nd su L 5 2 nw) bf su sI sO ct) (vkT cA) nstW [.ref (a 0), .int (nI L)] := by
  intro sz
  refine Met.ofW (cc := cX2_takeOutSuspects) (maxL := 3) (ret := none) (by decide) rfl ?_
  intro p e s m args below meth c s₁ B hml hv
  obtain ⟨rfl, hsz, ⟨hP, hK, hN⟩, hD0⟩ := hv
  subst hsz
  have hx := B.exec
  have hb := B.bytes
  have hr := B.returns
  have hts := atoms_spec (ws := wsX2_takeOutSuspects) B.pre
  have hown : s.vm.findClass RX2 = some m.cls := findClass_of_methodNamed B.named
  have hlocks := B.notSynchronized
  obtain ⟨A, hAe⟩ : ∃ A, A = va_A (vkW a cA n hd fm rp rq nd nw bf su sI sO ct) s.heap.size := ⟨_, rfl⟩
  have hD : va_D A (vkW a cA n hd fm rp rq nd nw bf su sI sO ct) := by rw [hAe]; exact hD0.self (sz := s.heap.size)
  have hA : ∀ q : Nat, s.heap.size ≤ q → A q := fun q h => by rw [hAe]; exact Or.inr h
  have hS : va_S A s.heap s.heap [] := va_S.rf
  have hP : va_P (dC, dI) vwCl (vkW a cA n hd fm rp rq nd nw bf su sI sO ct) s.heap := hP
  have lf_10 := hts (.fieldLink RX2 10 "ViewKeeper" "book" "LViewKeeper$RuleBook;") (by decide +kernel)
  have in_X2 : ∀ w ∈ u_ws RX2 TX2 7, w ∈ wsX2_takeOutSuspects := by decide +kernel
  have lf_16 := hts (.fieldLink RX2 16 "ViewKeeper" "now" "[I") (by decide +kernel)
  have lf_23 := hts (.fieldLink RX2 23 "ViewKeeper" "suspects" "[I") (by decide +kernel)
  have hl := lv_entry ([.ref (a 0), .int (nI L)]) (n := 3) (Nat.le_of_ble_eq_true rfl)
  rw [lg_entry_eq]
  generalize (lg_sl ([.ref (a 0), .int (nI L)]) ++ List.replicate (3 - (lg_sl ([.ref (a 0), .int (nI L)])).length) Slot.unset).toArray = ls at hl ⊢
  have hl : lv_has ls 3 [(0, .ref (a 0)), (1, .int (nI L))] := hl
  refine lv_iconst (v := nI 2) hx hb dX2_takeOutSuspects_0 (by decide) ?_
  refine lv_istore_n (lv' := [(2, .int (nI 2)), (0, .ref (a 0)), (1, .int (nI L))]) hx hb dX2_takeOutSuspects_1 rfl hl (by decide) rfl (fun ls hl => ?_)
  have L_2_0 : ∀ (nn : Nat) (v : Nat) (nw1 : Nat → Int32), v + nn = 7 → ∀ (H : Heap) (locs : List Loc), va_P (dC, dI) vwCl (vkW a cA n hd fm rp rq nd nw1 bf su sI sO ct) H → va_D A (vkW a cA n hd fm rp rq nd nw1 bf su sI sO ct) → va_S A s.heap H locs → ∀ ls : Array Slot, lv_has ls 3 [(0, .ref (a 0)), (1, .int (nI L)), (2, .int (nI v))] → (∀ (H : Heap) (locs : List Loc), va_P (dC, dI) vwCl (vkW a cA n hd fm rp rq nd (toF nd su L nn v nw1) bf su sI sO ct) H → va_D A (vkW a cA n hd fm rp rq nd (toF nd su L nn v nw1) bf su sI sO ct) → va_S A s.heap H locs → ∀ ls : Array Slot, lv_has ls 3 [(0, .ref (a 0)), (1, .int (nI L)), (2, .int (nI 7))] → W p l e (headSpec wsX2_takeOutSuspects ({ frames := 2, cells := 0, slots := 0, locals := 41 })).room s m ([.ref (a 0), .int (nI L)] : List Value).toArray below meth c H locs 0 0 (MQ below (va_Qv (fun _ : Unit => True) (wrB (dC, dI) vwCl (vkW a cA n hd fm rp rq nd nw bf su sI sO ct) (vkW a cA n hd fm rp rq nd (toF nd su L 5 2 nw) bf su sI sO ct) (vkT cA) s.heap.size) (va_A (vkW a cA n hd fm rp rq nd nw bf su sI sO ct) s.heap.size)) ([.ref (a 0), .int (nI L)] : List Value).toArray s 0 0 (va_A (vkW a cA n hd fm rp rq nd nw bf su sI sO ct) s.heap.size)) (F0 m 43 ls [])) → W p l e (headSpec wsX2_takeOutSuspects ({ frames := 2, cells := 0, slots := 0, locals := 41 })).room s m ([.ref (a 0), .int (nI L)] : List Value).toArray below meth c H locs 0 0 (MQ below (va_Qv (fun _ : Unit => True) (wrB (dC, dI) vwCl (vkW a cA n hd fm rp rq nd nw bf su sI sO ct) (vkW a cA n hd fm rp rq nd (toF nd su L 5 2 nw) bf su sI sO ct) (vkT cA) s.heap.size) (va_A (vkW a cA n hd fm rp rq nd nw bf su sI sO ct) s.heap.size)) ([.ref (a 0), .int (nI L)] : List Value).toArray s 0 0 (va_A (vkW a cA n hd fm rp rq nd nw bf su sI sO ct) s.heap.size)) (F0 m 2 ls []) := by
    intro nn
    induction nn with
    | zero =>
      intro v nw1 hnv H locs hP hD hS ls hl kx
      obtain rfl : v = 7 := by omega
      refine lv_iload_n hx hb dX2_takeOutSuspects_2 rfl (lv_at hl 2 rfl) ?_
      refine lv_bipush (v := nI 7) hx hb dX2_takeOutSuspects_3 (by decide) ?_
      refine hx_geN (tgt := 43) hx hb dX2_takeOutSuspects_5 (by decide) (by omega) (by omega) (fun c_2 => ?_) (fun c_2 => ?_)
      · exact kx _ _ hP hD hS ls (lv_sub hl [0, 1, 2] rfl)
      · exact absurd c_2 (by omega)
    | succ nn ih =>
      intro v nw1 hnv H locs hP hD hS ls hl kx
      refine lv_iload_n hx hb dX2_takeOutSuspects_2 rfl (lv_at hl 2 rfl) ?_
      refine lv_bipush (v := nI 7) hx hb dX2_takeOutSuspects_3 (by decide) ?_
      refine hx_geN (tgt := 43) hx hb dX2_takeOutSuspects_5 (by decide) (by omega) (by omega) (fun c_3 => ?_) (fun c_3 => ?_)
      · exact absurd c_3 (by omega)
      · refine lv_aload_n hx hb dX2_takeOutSuspects_8 rfl (lv_at hl 0 rfl) ?_
        refine va_get (D := (dC, dI)) (ci := 2) (v := .ref (a 1)) (C := RX2) (T := TX2) (N := 7) hx hb hts in_X2 hown hK hP 0 rfl rfl 0 (by decide) lf_10 (fun _ h9 => h9) rfl dX2_takeOutSuspects_9 ?_
        refine lv_iload_n hx hb dX2_takeOutSuspects_12 rfl (lv_at hl 2 rfl) ?_
        refine hx_read (va_runVN (C := RX1) (As := [.int (nI v)]) (rest := []) ⟨hx, hb, hml, hown, hts⟩ (c_X1_layerOf l dC dI a cA n hd fm rp rq nd nw1 bf su sI sO ct v (by omega)) ⟨va_cnB 1 hts gX2_takeOutSuspects_X1_layerOf_n138 rfl rfl rfl (hN (.methodLinkNest RX2 138 yX1_layerOf "ViewKeeper") (by decide +kernel)) (hts (.initialized RX1) (by decide +kernel)) (by decide +kernel) ⟨Nat.le_of_ble_eq_true rfl, Nat.le_of_ble_eq_true rfl⟩, hts (.instanceMethod yX1_layerOf) (by decide +kernel), hts (.selects RX1 yX1_layerOf yX1_layerOf) (by decide +kernel)⟩ (rd_V nstW_ok hP hK hN 1 rfl rfl _) rfl rfl hl.1 rfl (lv_room (Nat.le_of_ble_eq_true rfl)) dX2_takeOutSuspects_13 ⟨Nat.zero_le _, Nat.zero_le _⟩) ?_
        have hc_4 := cntB_le (nd v ||| bm v) 32
        refine lv_iload_n hx hb dX2_takeOutSuspects_16 rfl (lv_at hl 1 rfl) ?_
        refine hx_neN (tgt := 37) hx hb dX2_takeOutSuspects_17 (by decide) (by omega) (by omega) (fun c_5 => ?_) (fun c_5 => ?_)
        · refine lv_iinc (v := nI (v + 1)) (lv' := [(2, .int (nI (v + 1))), (0, .ref (a 0)), (1, .int (nI L))]) hx hb dX2_takeOutSuspects_37 hl (k := 2) rfl (nI_add v 1) (by decide) rfl (fun ls hl => ?_)
          refine lv_goto (tgt := 2) hx hb dX2_takeOutSuspects_40 (by decide) ?_
          have kx := kx
          rw [show toF nd su L (nn + 1) v nw1 = toF nd su L nn (v + 1) nw1 from by simp only [toF, layM, c_3, c_5, ↓reduceIte, decide_true, decide_false, Bool.not_true, Bool.not_false, Bool.or_true, Bool.true_or, Bool.or_false, Bool.false_or, Bool.and_true, Bool.true_and, Bool.and_false, Bool.false_and, and_true, true_and, and_false, false_and, and_self, or_self, or_true, true_or, or_false, false_or, Bool.false_eq_true, Bool.true_eq_false, not_true_eq_false, not_false_eq_true, Bool.or_self, decide_eq_true_eq]] at kx
          exact ih (v + 1) nw1 (by omega) _ _ hP hD hS ls (lv_sub hl [1, 2, 0] rfl) kx
        · refine lv_aload_n hx hb dX2_takeOutSuspects_20 rfl (lv_at hl 0 rfl) ?_
          refine va_get (D := (dC, dI)) (ci := 2) (v := .ref (a 4)) (C := RX2) (T := TX2) (N := 7) hx hb hts in_X2 hown hK hP 0 rfl rfl 1 (by decide) lf_16 (fun _ h9 => h9) rfl dX2_takeOutSuspects_21 ?_
          refine lv_iload_n hx hb dX2_takeOutSuspects_24 rfl (lv_at hl 2 rfl) ?_
          refine lv_dup2_11 hx hb dX2_takeOutSuspects_25 rfl rfl ?_
          refine hx_iald hx hb hK hP 4 2 rfl rfl (by omega) (by omega) dX2_takeOutSuspects_26 ?_
          refine lv_aload_n hx hb dX2_takeOutSuspects_27 rfl (lv_at hl 0 rfl) ?_
          refine va_get (D := (dC, dI)) (ci := 2) (v := .ref (a 6)) (C := RX2) (T := TX2) (N := 7) hx hb hts in_X2 hown hK hP 0 rfl rfl 3 (by decide) lf_23 (fun _ h9 => h9) rfl dX2_takeOutSuspects_28 ?_
          refine lv_iload_n hx hb dX2_takeOutSuspects_31 rfl (lv_at hl 2 rfl) ?_
          refine hx_iald hx hb hK hP 6 4 rfl rfl (by omega) (by omega) dX2_takeOutSuspects_32 ?_
          refine lv_iconst (v := (-1)) hx hb dX2_takeOutSuspects_33 (by decide) ?_
          refine lv_ixor hx hb dX2_takeOutSuspects_34 ?_
          refine lv_iand hx hb dX2_takeOutSuspects_35 ?_
          refine hx_iast hx hb hK hP hD hS 4 2 rfl rfl (by omega) (by omega) dX2_takeOutSuspects_36 (fun H locs hP hD hS => ?_)
          have hP : va_P (dC, dI) vwCl (vkW a cA n hd fm rp rq nd (upd nw1 v ((nw1 v) &&& ((su v) ^^^ ((-1))))) bf su sI sO ct) H := hP
          have hD : va_D A (vkW a cA n hd fm rp rq nd (upd nw1 v ((nw1 v) &&& ((su v) ^^^ ((-1))))) bf su sI sO ct) := hD
          refine lv_iinc (v := nI (v + 1)) (lv' := [(2, .int (nI (v + 1))), (0, .ref (a 0)), (1, .int (nI L))]) hx hb dX2_takeOutSuspects_37 hl (k := 2) rfl (nI_add v 1) (by decide) rfl (fun ls hl => ?_)
          refine lv_goto (tgt := 2) hx hb dX2_takeOutSuspects_40 (by decide) ?_
          have kx := kx
          rw [show toF nd su L (nn + 1) v nw1 = toF nd su L nn (v + 1) (upd nw1 v ((nw1 v) &&& ((su v) ^^^ ((-1))))) from by simp only [toF, layM, c_3, c_5, ↓reduceIte, decide_true, decide_false, Bool.not_true, Bool.not_false, Bool.or_true, Bool.true_or, Bool.or_false, Bool.false_or, Bool.and_true, Bool.true_and, Bool.and_false, Bool.false_and, and_true, true_and, and_false, false_and, and_self, or_self, or_true, true_or, or_false, false_or, Bool.false_eq_true, Bool.true_eq_false, not_true_eq_false, not_false_eq_true, Bool.or_self, decide_eq_true_eq]] at kx
          exact ih (v + 1) (upd nw1 v ((nw1 v) &&& ((su v) ^^^ ((-1))))) (by omega) _ _ hP hD hS ls (lv_sub hl [1, 2, 0] rfl) kx
  refine L_2_0 5 2 nw (by omega) _ _ hP hD hS ls (lv_sub hl [1, 2, 0] rfl) (fun H locs hP hD hS ls hl => ?_)
  have hP : va_P (dC, dI) vwCl (vkW a cA n hd fm rp rq nd (toF nd su L 5 2 nw) bf su sI sO ct) H := hP
  have hD : va_D A (vkW a cA n hd fm rp rq nd (toF nd su L 5 2 nw) bf su sI sO ct) := hD
  have hl : lv_has ls 3 [(0, .ref (a 0)), (1, .int (nI L)), (2, .int (nI 7))] := hl
  have e9 : vkW a cA n hd fm rp rq nd (toF nd su L 5 2 nw) bf su sI sO ct = vkW a cA n hd fm rp rq nd (toF nd su L 5 2 nw) bf su sI sO ct := rfl
  rw [e9] at hP hD
  subst hAe
  exact W.vret hx hb hr (fun t ht hW => ⟨⟨(), rfl, trivial, by rw [ht]; exact hP, va_K.moved hW.alike hK, hD⟩, hS.F ht⟩) hS.2.2 dX2_takeOutSuspects_43
set_option maxHeartbeats 4000000 in
set_option maxRecDepth 100000 in
theorem c_X2_fillOnce (l : Launch) (dC : Nat → ClassId) (dI : Nat → Nat → Nat) (a : Nat → Nat) (cA : Nat → ClassId) (n : Nat) (hd fm rp rq : Nat → Nat) (nd nw bf su sI sO ct : Nat → Int32) (L : Nat) (hy_0 : ruOk n hd fm rp rq) (hy_1 : L < 8) : WrI l yX2_fillOnce wsX2_fillOnce ({ frames := 3, cells := 0, slots := 0, locals := 67 }) (dC, dI) vwCl (vkW a cA n hd fm rp rq nd nw bf su sI sO ct) (vkW a cA n hd fm rp rq nd ((foF hd fm rp rq nd L n 0 nw false).1) bf su sI sO ct) (vkT cA) nstW [.ref (a 0), .int (nI L)] (bI ((foF hd fm rp rq nd L n 0 nw false).2)) := by
  intro sz
  refine Met.ofW (cc := cX2_fillOnce) (maxL := 6) (ret := (some .boolean)) (by decide) rfl ?_
  intro p e s m args below meth c s₁ B hml hv
  obtain ⟨rfl, hsz, ⟨hP, hK, hN⟩, hD0⟩ := hv
  subst hsz
  have hx := B.exec
  have hb := B.bytes
  have hr := B.returns
  have hts := atoms_spec (ws := wsX2_fillOnce) B.pre
  have hown : s.vm.findClass RX2 = some m.cls := findClass_of_methodNamed B.named
  have hlocks := B.notSynchronized
  obtain ⟨A, hAe⟩ : ∃ A, A = va_A (vkW a cA n hd fm rp rq nd nw bf su sI sO ct) s.heap.size := ⟨_, rfl⟩
  have hD : va_D A (vkW a cA n hd fm rp rq nd nw bf su sI sO ct) := by rw [hAe]; exact hD0.self (sz := s.heap.size)
  have hA : ∀ q : Nat, s.heap.size ≤ q → A q := fun q h => by rw [hAe]; exact Or.inr h
  have hS : va_S A s.heap s.heap [] := va_S.rf
  have hP : va_P (dC, dI) vwCl (vkW a cA n hd fm rp rq nd nw bf su sI sO ct) s.heap := hP
  obtain ⟨hn12, hru⟩ := id hy_0
  have lf_10 := hts (.fieldLink RX2 10 "ViewKeeper" "book" "LViewKeeper$RuleBook;") (by decide +kernel)
  have in_X2 : ∀ w ∈ u_ws RX2 TX2 7, w ∈ wsX2_fillOnce := by decide +kernel
  have lf_42 : (Cond.fieldLinkNest RX2 42 "ViewKeeper$RuleBook" "made" "I" "ViewKeeper").before ([.ref (a 0), .int (nI L)] : List Value).toArray s = true := va_Nw.use rfl (hN _ (by decide +kernel))
  have in_X1 : ∀ w ∈ u_ws RX1 TX1 3, w ∈ wsX2_fillOnce := by decide +kernel
  have lf_129 : (Cond.fieldLinkNest RX2 129 "ViewKeeper$RuleBook" "rows" "[LViewKeeper$Rule;" "ViewKeeper").before ([.ref (a 0), .int (nI L)] : List Value).toArray s = true := va_Nw.use rfl (hN _ (by decide +kernel))
  have lf_133 : (Cond.fieldLinkNest RX2 133 "ViewKeeper$Rule" "head" "I" "ViewKeeper").before ([.ref (a 0), .int (nI L)] : List Value).toArray s = true := va_Nw.use rfl (hN _ (by decide +kernel))
  have in_X0 : ∀ w ∈ u_ws RX0 TX0 4, w ∈ wsX2_fillOnce := by decide +kernel
  have lf_16 := hts (.fieldLink RX2 16 "ViewKeeper" "now" "[I") (by decide +kernel)
  have hl := lv_entry ([.ref (a 0), .int (nI L)]) (n := 6) (Nat.le_of_ble_eq_true rfl)
  rw [lg_entry_eq]
  generalize (lg_sl ([.ref (a 0), .int (nI L)]) ++ List.replicate (6 - (lg_sl ([.ref (a 0), .int (nI L)])).length) Slot.unset).toArray = ls at hl ⊢
  have hl : lv_has ls 6 [(0, .ref (a 0)), (1, .int (nI L))] := hl
  refine lv_iconst (v := nI 0) hx hb dX2_fillOnce_0 (by decide) ?_
  refine lv_istore_n (lv' := [(2, .int (nI 0)), (0, .ref (a 0)), (1, .int (nI L))]) hx hb dX2_fillOnce_1 rfl hl (by decide) rfl (fun ls hl => ?_)
  refine lv_iconst (v := nI 0) hx hb dX2_fillOnce_2 (by decide) ?_
  refine lv_istore_n (lv' := [(3, .int (nI 0)), (2, .int (nI 0)), (0, .ref (a 0)), (1, .int (nI L))]) hx hb dX2_fillOnce_3 rfl hl (by decide) rfl (fun ls hl => ?_)
  have L_4_0 : ∀ (nn : Nat) (i : Nat) (nw1 : Nat → Int32) (more : Bool), i + nn = n → ∀ (H : Heap) (locs : List Loc), va_P (dC, dI) vwCl (vkW a cA n hd fm rp rq nd nw1 bf su sI sO ct) H → va_D A (vkW a cA n hd fm rp rq nd nw1 bf su sI sO ct) → va_S A s.heap H locs → ∀ ls : Array Slot, lv_has ls 6 [(0, .ref (a 0)), (1, .int (nI L)), (2, .int (bI more)), (3, .int (nI i))] → (∀ (H : Heap) (locs : List Loc), va_P (dC, dI) vwCl (vkW a cA n hd fm rp rq nd ((foF hd fm rp rq nd L nn i nw1 more).1) bf su sI sO ct) H → va_D A (vkW a cA n hd fm rp rq nd ((foF hd fm rp rq nd L nn i nw1 more).1) bf su sI sO ct) → va_S A s.heap H locs → ∀ ls : Array Slot, lv_has ls 6 [(0, .ref (a 0)), (1, .int (nI L)), (2, .int (bI ((foF hd fm rp rq nd L nn i nw1 more).2))), (3, .int (nI n))] → W p l e (headSpec wsX2_fillOnce ({ frames := 3, cells := 0, slots := 0, locals := 67 })).room s m ([.ref (a 0), .int (nI L)] : List Value).toArray below meth c H locs 0 0 (MQ below (va_Qi (fun (rz9 : Int32) (_ : Unit) => rz9 = (bI ((foF hd fm rp rq nd L n 0 nw false).2))) (wrB (dC, dI) vwCl (vkW a cA n hd fm rp rq nd nw bf su sI sO ct) (vkW a cA n hd fm rp rq nd ((foF hd fm rp rq nd L n 0 nw false).1) bf su sI sO ct) (vkT cA) s.heap.size) (va_A (vkW a cA n hd fm rp rq nd nw bf su sI sO ct) s.heap.size)) ([.ref (a 0), .int (nI L)] : List Value).toArray s 0 0 (va_A (vkW a cA n hd fm rp rq nd nw bf su sI sO ct) s.heap.size)) (F0 m 117 ls [])) → W p l e (headSpec wsX2_fillOnce ({ frames := 3, cells := 0, slots := 0, locals := 67 })).room s m ([.ref (a 0), .int (nI L)] : List Value).toArray below meth c H locs 0 0 (MQ below (va_Qi (fun (rz9 : Int32) (_ : Unit) => rz9 = (bI ((foF hd fm rp rq nd L n 0 nw false).2))) (wrB (dC, dI) vwCl (vkW a cA n hd fm rp rq nd nw bf su sI sO ct) (vkW a cA n hd fm rp rq nd ((foF hd fm rp rq nd L n 0 nw false).1) bf su sI sO ct) (vkT cA) s.heap.size) (va_A (vkW a cA n hd fm rp rq nd nw bf su sI sO ct) s.heap.size)) ([.ref (a 0), .int (nI L)] : List Value).toArray s 0 0 (va_A (vkW a cA n hd fm rp rq nd nw bf su sI sO ct) s.heap.size)) (F0 m 4 ls []) := by
    intro nn
    induction nn with
    | zero =>
      intro i nw1 more hni H locs hP hD hS ls hl kx
      obtain rfl : n = i := by omega
      refine lv_iload_n hx hb dX2_fillOnce_4 rfl (lv_at hl 3 rfl) ?_
      refine lv_aload_n hx hb dX2_fillOnce_5 rfl (lv_at hl 0 rfl) ?_
      refine va_get (D := (dC, dI)) (ci := 2) (v := .ref (a 1)) (C := RX2) (T := TX2) (N := 7) hx hb hts in_X2 hown hK hP 0 rfl rfl 0 (by decide) lf_10 (fun _ h9 => h9) rfl dX2_fillOnce_6 ?_
      refine va_getN (D := (dC, dI)) (ci := 1) (v := .int (nI n)) (C := RX1) (T := TX1) (N := 3) hx hb hts in_X1 hown hK hP 1 rfl rfl 2 (by decide) lf_42 (fun _ h9 => h9) rfl dX2_fillOnce_9 ?_
      refine hx_geN (tgt := 117) hx hb dX2_fillOnce_12 (by decide) (by omega) (by omega) (fun c_2 => ?_) (fun c_2 => ?_)
      · exact kx _ _ hP hD hS ls (lv_sub hl [0, 1, 2, 3] rfl)
      · exact absurd c_2 (by omega)
    | succ nn ih =>
      intro i nw1 more hni H locs hP hD hS ls hl kx
      refine lv_iload_n hx hb dX2_fillOnce_4 rfl (lv_at hl 3 rfl) ?_
      refine lv_aload_n hx hb dX2_fillOnce_5 rfl (lv_at hl 0 rfl) ?_
      refine va_get (D := (dC, dI)) (ci := 2) (v := .ref (a 1)) (C := RX2) (T := TX2) (N := 7) hx hb hts in_X2 hown hK hP 0 rfl rfl 0 (by decide) lf_10 (fun _ h9 => h9) rfl dX2_fillOnce_6 ?_
      refine va_getN (D := (dC, dI)) (ci := 1) (v := .int (nI n)) (C := RX1) (T := TX1) (N := 3) hx hb hts in_X1 hown hK hP 1 rfl rfl 2 (by decide) lf_42 (fun _ h9 => h9) rfl dX2_fillOnce_9 ?_
      refine hx_geN (tgt := 117) hx hb dX2_fillOnce_12 (by decide) (by omega) (by omega) (fun c_3 => ?_) (fun c_3 => ?_)
      · exact absurd c_3 (by omega)
      · have hr9 := hru i (by omega)
        refine lv_aload_n hx hb dX2_fillOnce_15 rfl (lv_at hl 0 rfl) ?_
        refine va_get (D := (dC, dI)) (ci := 2) (v := .ref (a 1)) (C := RX2) (T := TX2) (N := 7) hx hb hts in_X2 hown hK hP 0 rfl rfl 0 (by decide) lf_10 (fun _ h9 => h9) rfl dX2_fillOnce_16 ?_
        refine va_getN (D := (dC, dI)) (ci := 1) (v := .ref (a 2)) (C := RX1) (T := TX1) (N := 3) hx hb hts in_X1 hown hK hP 1 rfl rfl 0 (by decide) lf_129 (fun _ h9 => h9) rfl dX2_fillOnce_19 ?_
        refine lv_iload_n hx hb dX2_fillOnce_22 rfl (lv_at hl 3 rfl) ?_
        refine hx_aald hx hb hK hP 2 0 rfl rfl (by omega) (by omega) dX2_fillOnce_23 ?_
        refine lv_astore (lv' := [(4, .ref (a (10 + i))), (0, .ref (a 0)), (1, .int (nI L)), (2, .int (bI more)), (3, .int (nI i))]) hx hb dX2_fillOnce_24 hl (by decide) rfl (fun ls hl => ?_)
        refine lv_aload_n hx hb dX2_fillOnce_26 rfl (lv_at hl 1 rfl) ?_
        refine va_get (D := (dC, dI)) (ci := 2) (v := .ref (a 1)) (C := RX2) (T := TX2) (N := 7) hx hb hts in_X2 hown hK hP 0 rfl rfl 0 (by decide) lf_10 (fun _ h9 => h9) rfl dX2_fillOnce_27 ?_
        refine lv_aload hx hb dX2_fillOnce_30 (lv_at hl 0 rfl) ?_
        refine va_getN (D := (dC, dI)) (ci := 0) (v := .int (nI (hd i))) (C := RX0) (T := TX0) (N := 4) hx hb hts in_X0 hown hK hP (10 + i) (vkW_rule (by omega)) rfl 0 (by decide) lf_133 (fun _ h9 => h9) rfl dX2_fillOnce_32 ?_
        refine hx_read (va_runVN (C := RX1) (As := [.int (nI (hd i))]) (rest := []) ⟨hx, hb, hml, hown, hts⟩ (c_X1_layerOf l dC dI a cA n hd fm rp rq nd nw1 bf su sI sO ct (hd i) (by omega)) ⟨va_cnB 1 hts gX2_fillOnce_X1_layerOf_n138 rfl rfl rfl (hN (.methodLinkNest RX2 138 yX1_layerOf "ViewKeeper") (by decide +kernel)) (hts (.initialized RX1) (by decide +kernel)) (by decide +kernel) ⟨Nat.le_of_ble_eq_true rfl, Nat.le_of_ble_eq_true rfl⟩, hts (.instanceMethod yX1_layerOf) (by decide +kernel), hts (.selects RX1 yX1_layerOf yX1_layerOf) (by decide +kernel)⟩ (rd_V nstW_ok hP hK hN 1 rfl rfl _) rfl rfl hl.1 rfl (lv_room (Nat.le_of_ble_eq_true rfl)) dX2_fillOnce_35 ⟨Nat.zero_le _, Nat.zero_le _⟩) ?_
        have hc_4 := cntB_le (nd (hd i) ||| bm (hd i)) 32
        refine lv_iload_n hx hb dX2_fillOnce_38 rfl (lv_at hl 2 rfl) ?_
        refine hx_neN (tgt := 111) hx hb dX2_fillOnce_39 (by decide) (by omega) (by omega) (fun c_5 => ?_) (fun c_5 => ?_)
        · refine lv_iinc (v := nI (i + 1)) (lv' := [(3, .int (nI (i + 1))), (4, .ref (a (10 + i))), (0, .ref (a 0)), (1, .int (nI L)), (2, .int (bI more))]) hx hb dX2_fillOnce_111 hl (k := 4) rfl (nI_add i 1) (by decide) rfl (fun ls hl => ?_)
          refine lv_goto (tgt := 4) hx hb dX2_fillOnce_114 (by decide) ?_
          have kx := kx
          rw [show (foF hd fm rp rq nd L (nn + 1) i nw1 more).1 = (foF hd fm rp rq nd L nn (i + 1) nw1 more).1 from by simp only [foF, layM, c_3, c_5, ↓reduceIte, decide_true, decide_false, Bool.not_true, Bool.not_false, Bool.or_true, Bool.true_or, Bool.or_false, Bool.false_or, Bool.and_true, Bool.true_and, Bool.and_false, Bool.false_and, and_true, true_and, and_false, false_and, and_self, or_self, or_true, true_or, or_false, false_or, Bool.false_eq_true, Bool.true_eq_false, not_true_eq_false, not_false_eq_true, Bool.or_self, decide_eq_true_eq]] at kx
          rw [show (foF hd fm rp rq nd L (nn + 1) i nw1 more).2 = (foF hd fm rp rq nd L nn (i + 1) nw1 more).2 from by simp only [foF, layM, c_3, c_5, ↓reduceIte, decide_true, decide_false, Bool.not_true, Bool.not_false, Bool.or_true, Bool.true_or, Bool.or_false, Bool.false_or, Bool.and_true, Bool.true_and, Bool.and_false, Bool.false_and, and_true, true_and, and_false, false_and, and_self, or_self, or_true, true_or, or_false, false_or, Bool.false_eq_true, Bool.true_eq_false, not_true_eq_false, not_false_eq_true, Bool.or_self, decide_eq_true_eq]] at kx
          exact ih (i + 1) nw1 more (by omega) _ _ hP hD hS ls (lv_sub hl [2, 3, 4, 0] rfl) kx
        · refine lv_aload_n hx hb dX2_fillOnce_42 rfl (lv_at hl 1 rfl) ?_
          refine va_get (D := (dC, dI)) (ci := 2) (v := .ref (a 1)) (C := RX2) (T := TX2) (N := 7) hx hb hts in_X2 hown hK hP 0 rfl rfl 0 (by decide) lf_10 (fun _ h9 => h9) rfl dX2_fillOnce_43 ?_
          refine lv_aload hx hb dX2_fillOnce_46 (lv_at hl 0 rfl) ?_
          refine va_getN (D := (dC, dI)) (ci := 0) (v := .int (nI (hd i))) (C := RX0) (T := TX0) (N := 4) hx hb hts in_X0 hown hK hP (10 + i) (vkW_rule (by omega)) rfl 0 (by decide) lf_133 (fun _ h9 => h9) rfl dX2_fillOnce_48 ?_
          refine hx_read (va_runVN (C := RX1) (As := [.int (nI (hd i))]) (rest := []) ⟨hx, hb, hml, hown, hts⟩ (c_X1_leadsBack l dC dI a cA n hd fm rp rq nd nw1 bf su sI sO ct (hd i) (by omega)) ⟨va_cnB 1 hts gX2_fillOnce_X1_leadsBack_n95 rfl rfl rfl (hN (.methodLinkNest RX2 95 yX1_leadsBack "ViewKeeper") (by decide +kernel)) (hts (.initialized RX1) (by decide +kernel)) (by decide +kernel) ⟨Nat.le_of_ble_eq_true rfl, Nat.le_of_ble_eq_true rfl⟩, hts (.instanceMethod yX1_leadsBack) (by decide +kernel), hts (.selects RX1 yX1_leadsBack yX1_leadsBack) (by decide +kernel)⟩ (rd_V nstW_ok hP hK hN 1 rfl rfl _) rfl rfl hl.1 rfl (lv_room (Nat.le_of_ble_eq_true rfl)) dX2_fillOnce_51 ⟨Nat.zero_le _, Nat.zero_le _⟩) ?_
          refine hx_ifB (tgt := 111) hx hb dX2_fillOnce_54 (by decide) (fun c_6 => ?_) (fun c_6 => ?_)
          · refine lv_iinc (v := nI (i + 1)) (lv' := [(3, .int (nI (i + 1))), (4, .ref (a (10 + i))), (0, .ref (a 0)), (1, .int (nI L)), (2, .int (bI more))]) hx hb dX2_fillOnce_111 hl (k := 4) rfl (nI_add i 1) (by decide) rfl (fun ls hl => ?_)
            refine lv_goto (tgt := 4) hx hb dX2_fillOnce_114 (by decide) ?_
            have kx := kx
            rw [show (foF hd fm rp rq nd L (nn + 1) i nw1 more).1 = (foF hd fm rp rq nd L nn (i + 1) nw1 more).1 from by simp only [foF, layM, c_3, c_5, c_6, ↓reduceIte, decide_true, decide_false, Bool.not_true, Bool.not_false, Bool.or_true, Bool.true_or, Bool.or_false, Bool.false_or, Bool.and_true, Bool.true_and, Bool.and_false, Bool.false_and, and_true, true_and, and_false, false_and, and_self, or_self, or_true, true_or, or_false, false_or, Bool.false_eq_true, Bool.true_eq_false, not_true_eq_false, not_false_eq_true, Bool.or_self, decide_eq_true_eq]] at kx
            rw [show (foF hd fm rp rq nd L (nn + 1) i nw1 more).2 = (foF hd fm rp rq nd L nn (i + 1) nw1 more).2 from by simp only [foF, layM, c_3, c_5, c_6, ↓reduceIte, decide_true, decide_false, Bool.not_true, Bool.not_false, Bool.or_true, Bool.true_or, Bool.or_false, Bool.false_or, Bool.and_true, Bool.true_and, Bool.and_false, Bool.false_and, and_true, true_and, and_false, false_and, and_self, or_self, or_true, true_or, or_false, false_or, Bool.false_eq_true, Bool.true_eq_false, not_true_eq_false, not_false_eq_true, Bool.or_self, decide_eq_true_eq]] at kx
            exact ih (i + 1) nw1 more (by omega) _ _ hP hD hS ls (lv_sub hl [2, 3, 4, 0] rfl) kx
          · refine lv_aload hx hb dX2_fillOnce_57 (lv_at hl 0 rfl) ?_
            refine lv_aload_n hx hb dX2_fillOnce_59 rfl (lv_at hl 1 rfl) ?_
            refine va_get (D := (dC, dI)) (ci := 2) (v := .ref (a 4)) (C := RX2) (T := TX2) (N := 7) hx hb hts in_X2 hown hK hP 0 rfl rfl 1 (by decide) lf_16 (fun _ h9 => h9) rfl dX2_fillOnce_60 ?_
            refine hx_read (va_runVN (C := RX0) (As := [.ref (a 4)]) (rest := []) ⟨hx, hb, hml, hown, hts⟩ (c_X0_given l dC dI a cA n hd fm rp rq nd nw1 bf su sI sO ct i (by omega) (by omega) (by omega) (by omega)) ⟨va_cnB 1 hts gX2_fillOnce_X0_given_n181 rfl rfl rfl (hN (.methodLinkNest RX2 181 yX0_given "ViewKeeper") (by decide +kernel)) (hts (.initialized RX0) (by decide +kernel)) (by decide +kernel) ⟨Nat.le_of_ble_eq_true rfl, Nat.le_of_ble_eq_true rfl⟩, hts (.instanceMethod yX0_given) (by decide +kernel), hts (.selects RX0 yX0_given yX0_given) (by decide +kernel)⟩ (rd_V nstW_ok hP hK hN (10 + i) (vkW_rule (by omega)) rfl _) rfl rfl hl.1 rfl (lv_room (Nat.le_of_ble_eq_true rfl)) dX2_fillOnce_63 ⟨Nat.zero_le _, Nat.zero_le _⟩) ?_
            refine lv_aload_n hx hb dX2_fillOnce_66 rfl (lv_at hl 1 rfl) ?_
            refine va_get (D := (dC, dI)) (ci := 2) (v := .ref (a 4)) (C := RX2) (T := TX2) (N := 7) hx hb hts in_X2 hown hK hP 0 rfl rfl 1 (by decide) lf_16 (fun _ h9 => h9) rfl dX2_fillOnce_67 ?_
            refine lv_aload hx hb dX2_fillOnce_70 (lv_at hl 0 rfl) ?_
            refine va_getN (D := (dC, dI)) (ci := 0) (v := .int (nI (hd i))) (C := RX0) (T := TX0) (N := 4) hx hb hts in_X0 hown hK hP (10 + i) (vkW_rule (by omega)) rfl 0 (by decide) lf_133 (fun _ h9 => h9) rfl dX2_fillOnce_72 ?_
            refine hx_iald hx hb hK hP 4 2 rfl rfl (by omega) (by omega) dX2_fillOnce_75 ?_
            refine lv_iconst (v := (-1)) hx hb dX2_fillOnce_76 (by decide) ?_
            refine lv_ixor hx hb dX2_fillOnce_77 ?_
            refine lv_iand hx hb dX2_fillOnce_78 ?_
            refine lv_istore (lv' := [(5, .int ((givM (fm i) (nw1 (rp i)) (nw1 (rq i))) &&& ((nw1 (hd i)) ^^^ ((-1))))), (4, .ref (a (10 + i))), (0, .ref (a 0)), (1, .int (nI L)), (2, .int (bI more)), (3, .int (nI i))]) hx hb dX2_fillOnce_79 hl (by decide) rfl (fun ls hl => ?_)
            refine lv_aload_n hx hb dX2_fillOnce_81 rfl (lv_at hl 2 rfl) ?_
            refine va_get (D := (dC, dI)) (ci := 2) (v := .ref (a 4)) (C := RX2) (T := TX2) (N := 7) hx hb hts in_X2 hown hK hP 0 rfl rfl 1 (by decide) lf_16 (fun _ h9 => h9) rfl dX2_fillOnce_82 ?_
            refine lv_aload hx hb dX2_fillOnce_85 (lv_at hl 1 rfl) ?_
            refine va_getN (D := (dC, dI)) (ci := 0) (v := .int (nI (hd i))) (C := RX0) (T := TX0) (N := 4) hx hb hts in_X0 hown hK hP (10 + i) (vkW_rule (by omega)) rfl 0 (by decide) lf_133 (fun _ h9 => h9) rfl dX2_fillOnce_87 ?_
            refine lv_dup2_11 hx hb dX2_fillOnce_90 rfl rfl ?_
            refine hx_iald hx hb hK hP 4 2 rfl rfl (by omega) (by omega) dX2_fillOnce_91 ?_
            refine lv_iload hx hb dX2_fillOnce_92 (lv_at hl 0 rfl) ?_
            refine lv_ior hx hb dX2_fillOnce_94 ?_
            refine hx_iast hx hb hK hP hD hS 4 2 rfl rfl (by omega) (by omega) dX2_fillOnce_95 (fun H locs hP hD hS => ?_)
            have hP : va_P (dC, dI) vwCl (vkW a cA n hd fm rp rq nd (upd nw1 (hd i) ((nw1 (hd i)) ||| ((givM (fm i) (nw1 (rp i)) (nw1 (rq i))) &&& ((nw1 (hd i)) ^^^ ((-1)))))) bf su sI sO ct) H := hP
            have hD : va_D A (vkW a cA n hd fm rp rq nd (upd nw1 (hd i) ((nw1 (hd i)) ||| ((givM (fm i) (nw1 (rp i)) (nw1 (rq i))) &&& ((nw1 (hd i)) ^^^ ((-1)))))) bf su sI sO ct) := hD
            refine lv_iload_n hx hb dX2_fillOnce_96 rfl (lv_at hl 4 rfl) ?_
            refine hx_ifnB (tgt := 105) hx hb dX2_fillOnce_97 (by decide) (fun c_7 => ?_) (fun c_7 => ?_)
            · refine lv_iconst (v := nI 1) hx hb dX2_fillOnce_105 (by decide) ?_
              refine lv_goto (tgt := 110) hx hb dX2_fillOnce_106 (by decide) ?_
              refine lv_istore_n (lv' := [(2, .int (nI 1)), (5, .int ((givM (fm i) (nw1 (rp i)) (nw1 (rq i))) &&& ((nw1 (hd i)) ^^^ ((-1))))), (4, .ref (a (10 + i))), (0, .ref (a 0)), (1, .int (nI L)), (3, .int (nI i))]) hx hb dX2_fillOnce_110 rfl hl (by decide) rfl (fun ls hl => ?_)
              refine lv_iinc (v := nI (i + 1)) (lv' := [(3, .int (nI (i + 1))), (2, .int (nI 1)), (5, .int ((givM (fm i) (nw1 (rp i)) (nw1 (rq i))) &&& ((nw1 (hd i)) ^^^ ((-1))))), (4, .ref (a (10 + i))), (0, .ref (a 0)), (1, .int (nI L))]) hx hb dX2_fillOnce_111 hl (k := 5) rfl (nI_add i 1) (by decide) rfl (fun ls hl => ?_)
              refine lv_goto (tgt := 4) hx hb dX2_fillOnce_114 (by decide) ?_
              have kx := kx
              rw [show (foF hd fm rp rq nd L (nn + 1) i nw1 more).1 = (foF hd fm rp rq nd L nn (i + 1) (upd nw1 (hd i) ((nw1 (hd i)) ||| ((givM (fm i) (nw1 (rp i)) (nw1 (rq i))) &&& ((nw1 (hd i)) ^^^ ((-1)))))) true).1 from by simp only [foF, layM, c_3, c_5, c_6, c_7, ↓reduceIte, decide_true, decide_false, Bool.not_true, Bool.not_false, Bool.or_true, Bool.true_or, Bool.or_false, Bool.false_or, Bool.and_true, Bool.true_and, Bool.and_false, Bool.false_and, and_true, true_and, and_false, false_and, and_self, or_self, or_true, true_or, or_false, false_or, Bool.false_eq_true, Bool.true_eq_false, not_true_eq_false, not_false_eq_true, Bool.or_self, decide_eq_true_eq]] at kx
              rw [show (foF hd fm rp rq nd L (nn + 1) i nw1 more).2 = (foF hd fm rp rq nd L nn (i + 1) (upd nw1 (hd i) ((nw1 (hd i)) ||| ((givM (fm i) (nw1 (rp i)) (nw1 (rq i))) &&& ((nw1 (hd i)) ^^^ ((-1)))))) true).2 from by simp only [foF, layM, c_3, c_5, c_6, c_7, ↓reduceIte, decide_true, decide_false, Bool.not_true, Bool.not_false, Bool.or_true, Bool.true_or, Bool.or_false, Bool.false_or, Bool.and_true, Bool.true_and, Bool.and_false, Bool.false_and, and_true, true_and, and_false, false_and, and_self, or_self, or_true, true_or, or_false, false_or, Bool.false_eq_true, Bool.true_eq_false, not_true_eq_false, not_false_eq_true, Bool.or_self, decide_eq_true_eq]] at kx
              exact ih (i + 1) (upd nw1 (hd i) ((nw1 (hd i)) ||| ((givM (fm i) (nw1 (rp i)) (nw1 (rq i))) &&& ((nw1 (hd i)) ^^^ ((-1)))))) true (by omega) _ _ hP hD hS ls (lv_sub hl [4, 5, 1, 0] rfl) kx
            · refine lv_iload hx hb dX2_fillOnce_100 (lv_at hl 0 rfl) ?_
              refine lv_if_eq (tgt := 109) hx hb dX2_fillOnce_102 (by decide) (fun c_8 => ?_) (fun c_8 => ?_)
              · refine lv_iconst (v := nI 0) hx hb dX2_fillOnce_109 (by decide) ?_
                refine lv_istore_n (lv' := [(2, .int (nI 0)), (5, .int ((givM (fm i) (nw1 (rp i)) (nw1 (rq i))) &&& ((nw1 (hd i)) ^^^ ((-1))))), (4, .ref (a (10 + i))), (0, .ref (a 0)), (1, .int (nI L)), (3, .int (nI i))]) hx hb dX2_fillOnce_110 rfl hl (by decide) rfl (fun ls hl => ?_)
                refine lv_iinc (v := nI (i + 1)) (lv' := [(3, .int (nI (i + 1))), (2, .int (nI 0)), (5, .int ((givM (fm i) (nw1 (rp i)) (nw1 (rq i))) &&& ((nw1 (hd i)) ^^^ ((-1))))), (4, .ref (a (10 + i))), (0, .ref (a 0)), (1, .int (nI L))]) hx hb dX2_fillOnce_111 hl (k := 5) rfl (nI_add i 1) (by decide) rfl (fun ls hl => ?_)
                refine lv_goto (tgt := 4) hx hb dX2_fillOnce_114 (by decide) ?_
                have kx := kx
                rw [show (foF hd fm rp rq nd L (nn + 1) i nw1 more).1 = (foF hd fm rp rq nd L nn (i + 1) (upd nw1 (hd i) ((nw1 (hd i)) ||| ((givM (fm i) (nw1 (rp i)) (nw1 (rq i))) &&& ((nw1 (hd i)) ^^^ ((-1)))))) false).1 from by simp only [foF, layM, c_3, c_5, c_6, c_7, c_8, ↓reduceIte, decide_true, decide_false, Bool.not_true, Bool.not_false, Bool.or_true, Bool.true_or, Bool.or_false, Bool.false_or, Bool.and_true, Bool.true_and, Bool.and_false, Bool.false_and, and_true, true_and, and_false, false_and, and_self, or_self, or_true, true_or, or_false, false_or, Bool.false_eq_true, Bool.true_eq_false, not_true_eq_false, not_false_eq_true, Bool.or_self, decide_eq_true_eq]] at kx
                rw [show (foF hd fm rp rq nd L (nn + 1) i nw1 more).2 = (foF hd fm rp rq nd L nn (i + 1) (upd nw1 (hd i) ((nw1 (hd i)) ||| ((givM (fm i) (nw1 (rp i)) (nw1 (rq i))) &&& ((nw1 (hd i)) ^^^ ((-1)))))) false).2 from by simp only [foF, layM, c_3, c_5, c_6, c_7, c_8, ↓reduceIte, decide_true, decide_false, Bool.not_true, Bool.not_false, Bool.or_true, Bool.true_or, Bool.or_false, Bool.false_or, Bool.and_true, Bool.true_and, Bool.and_false, Bool.false_and, and_true, true_and, and_false, false_and, and_self, or_self, or_true, true_or, or_false, false_or, Bool.false_eq_true, Bool.true_eq_false, not_true_eq_false, not_false_eq_true, Bool.or_self, decide_eq_true_eq]] at kx
                exact ih (i + 1) (upd nw1 (hd i) ((nw1 (hd i)) ||| ((givM (fm i) (nw1 (rp i)) (nw1 (rq i))) &&& ((nw1 (hd i)) ^^^ ((-1)))))) false (by omega) _ _ hP hD hS ls (lv_sub hl [4, 5, 1, 0] rfl) kx
              · refine lv_iconst (v := nI 1) hx hb dX2_fillOnce_105 (by decide) ?_
                refine lv_goto (tgt := 110) hx hb dX2_fillOnce_106 (by decide) ?_
                refine lv_istore_n (lv' := [(2, .int (nI 1)), (5, .int ((givM (fm i) (nw1 (rp i)) (nw1 (rq i))) &&& ((nw1 (hd i)) ^^^ ((-1))))), (4, .ref (a (10 + i))), (0, .ref (a 0)), (1, .int (nI L)), (3, .int (nI i))]) hx hb dX2_fillOnce_110 rfl hl (by decide) rfl (fun ls hl => ?_)
                refine lv_iinc (v := nI (i + 1)) (lv' := [(3, .int (nI (i + 1))), (2, .int (nI 1)), (5, .int ((givM (fm i) (nw1 (rp i)) (nw1 (rq i))) &&& ((nw1 (hd i)) ^^^ ((-1))))), (4, .ref (a (10 + i))), (0, .ref (a 0)), (1, .int (nI L))]) hx hb dX2_fillOnce_111 hl (k := 5) rfl (nI_add i 1) (by decide) rfl (fun ls hl => ?_)
                refine lv_goto (tgt := 4) hx hb dX2_fillOnce_114 (by decide) ?_
                have kx := kx
                rw [show (foF hd fm rp rq nd L (nn + 1) i nw1 more).1 = (foF hd fm rp rq nd L nn (i + 1) (upd nw1 (hd i) ((nw1 (hd i)) ||| ((givM (fm i) (nw1 (rp i)) (nw1 (rq i))) &&& ((nw1 (hd i)) ^^^ ((-1)))))) true).1 from by simp only [foF, layM, c_3, c_5, c_6, c_7, c_8, ↓reduceIte, decide_true, decide_false, Bool.not_true, Bool.not_false, Bool.or_true, Bool.true_or, Bool.or_false, Bool.false_or, Bool.and_true, Bool.true_and, Bool.and_false, Bool.false_and, and_true, true_and, and_false, false_and, and_self, or_self, or_true, true_or, or_false, false_or, Bool.false_eq_true, Bool.true_eq_false, not_true_eq_false, not_false_eq_true, Bool.or_self, decide_eq_true_eq]] at kx
                rw [show (foF hd fm rp rq nd L (nn + 1) i nw1 more).2 = (foF hd fm rp rq nd L nn (i + 1) (upd nw1 (hd i) ((nw1 (hd i)) ||| ((givM (fm i) (nw1 (rp i)) (nw1 (rq i))) &&& ((nw1 (hd i)) ^^^ ((-1)))))) true).2 from by simp only [foF, layM, c_3, c_5, c_6, c_7, c_8, ↓reduceIte, decide_true, decide_false, Bool.not_true, Bool.not_false, Bool.or_true, Bool.true_or, Bool.or_false, Bool.false_or, Bool.and_true, Bool.true_and, Bool.and_false, Bool.false_and, and_true, true_and, and_false, false_and, and_self, or_self, or_true, true_or, or_false, false_or, Bool.false_eq_true, Bool.true_eq_false, not_true_eq_false, not_false_eq_true, Bool.or_self, decide_eq_true_eq]] at kx
                exact ih (i + 1) (upd nw1 (hd i) ((nw1 (hd i)) ||| ((givM (fm i) (nw1 (rp i)) (nw1 (rq i))) &&& ((nw1 (hd i)) ^^^ ((-1)))))) true (by omega) _ _ hP hD hS ls (lv_sub hl [4, 5, 1, 0] rfl) kx
  refine L_4_0 n 0 nw false (by omega) _ _ hP hD hS ls (lv_sub hl [2, 3, 1, 0] rfl) (fun H locs hP hD hS ls hl => ?_)
  have hP : va_P (dC, dI) vwCl (vkW a cA n hd fm rp rq nd ((foF hd fm rp rq nd L n 0 nw false).1) bf su sI sO ct) H := hP
  have hD : va_D A (vkW a cA n hd fm rp rq nd ((foF hd fm rp rq nd L n 0 nw false).1) bf su sI sO ct) := hD
  have hl : lv_has ls 6 [(0, .ref (a 0)), (1, .int (nI L)), (2, .int (bI ((foF hd fm rp rq nd L n 0 nw false).2))), (3, .int (nI n))] := hl
  refine lv_iload_n hx hb dX2_fillOnce_117 rfl (lv_at hl 2 rfl) ?_
  have e9 : vkW a cA n hd fm rp rq nd ((foF hd fm rp rq nd L n 0 nw false).1) bf su sI sO ct = vkW a cA n hd fm rp rq nd ((foF hd fm rp rq nd L n 0 nw false).1) bf su sI sO ct := rfl
  rw [e9] at hP hD
  subst hAe
  exact W.zret (v := bI ((foF hd fm rp rq nd L n 0 nw false).2)) hx hb hr (nar_bI _) (fun t ht hW => ⟨⟨_, (), rfl, rfl, by rw [ht]; exact hP, va_K.moved hW.alike hK, hD⟩, hS.F ht⟩) hS.2.2 dX2_fillOnce_118
set_option maxHeartbeats 4000000 in
set_option maxRecDepth 100000 in
theorem c_X2_fill (l : Launch) (dC : Nat → ClassId) (dI : Nat → Nat → Nat) (a : Nat → Nat) (cA : Nat → ClassId) (n : Nat) (hd fm rp rq : Nat → Nat) (nd nw bf su sI sO ct : Nat → Int32) (L : Nat) (hy_0 : ruOk n hd fm rp rq) (hy_1 : L < 8) : WrV l yX2_fill wsX2_fill ({ frames := 4, cells := 0, slots := 0, locals := 92 }) (dC, dI) vwCl (vkW a cA n hd fm rp rq nd nw bf su sI sO ct) (vkW a cA n hd fm rp rq nd (flF n hd fm rp rq nd L 126 true nw) bf su sI sO ct) (vkT cA) nstW [.ref (a 0), .int (nI L)] := by
  intro sz
  refine Met.ofW (cc := cX2_fill) (maxL := 4) (ret := none) (by decide) rfl ?_
  intro p e s m args below meth c s₁ B hml hv
  obtain ⟨rfl, hsz, ⟨hP, hK, hN⟩, hD0⟩ := hv
  subst hsz
  have hx := B.exec
  have hb := B.bytes
  have hr := B.returns
  have hts := atoms_spec (ws := wsX2_fill) B.pre
  have hown : s.vm.findClass RX2 = some m.cls := findClass_of_methodNamed B.named
  have hlocks := B.notSynchronized
  obtain ⟨A, hAe⟩ : ∃ A, A = va_A (vkW a cA n hd fm rp rq nd nw bf su sI sO ct) s.heap.size := ⟨_, rfl⟩
  have hD : va_D A (vkW a cA n hd fm rp rq nd nw bf su sI sO ct) := by rw [hAe]; exact hD0.self (sz := s.heap.size)
  have hA : ∀ q : Nat, s.heap.size ≤ q → A q := fun q h => by rw [hAe]; exact Or.inr h
  have hS : va_S A s.heap s.heap [] := va_S.rf
  have hP : va_P (dC, dI) vwCl (vkW a cA n hd fm rp rq nd nw bf su sI sO ct) s.heap := hP
  have hl := lv_entry ([.ref (a 0), .int (nI L)]) (n := 4) (Nat.le_of_ble_eq_true rfl)
  rw [lg_entry_eq]
  generalize (lg_sl ([.ref (a 0), .int (nI L)]) ++ List.replicate (4 - (lg_sl ([.ref (a 0), .int (nI L)])).length) Slot.unset).toArray = ls at hl ⊢
  have hl : lv_has ls 4 [(0, .ref (a 0)), (1, .int (nI L))] := hl
  refine lv_iconst (v := nI 1) hx hb dX2_fill_0 (by decide) ?_
  refine lv_istore_n (lv' := [(2, .int (nI 1)), (0, .ref (a 0)), (1, .int (nI L))]) hx hb dX2_fill_1 rfl hl (by decide) rfl (fun ls hl => ?_)
  refine lv_iconst (v := nI 0) hx hb dX2_fill_2 (by decide) ?_
  refine lv_istore_n (lv' := [(3, .int (nI 0)), (2, .int (nI 1)), (0, .ref (a 0)), (1, .int (nI L))]) hx hb dX2_fill_3 rfl hl (by decide) rfl (fun ls hl => ?_)
  have L_4_0 : ∀ (nn : Nat) (ps : Nat) (more : Bool) (S1 : Nat → Int32), ps + nn = 126 → ∀ (H : Heap) (locs : List Loc), va_P (dC, dI) vwCl (vkW a cA n hd fm rp rq nd S1 bf su sI sO ct) H → va_D A (vkW a cA n hd fm rp rq nd S1 bf su sI sO ct) → va_S A s.heap H locs → ∀ ls : Array Slot, lv_has ls 4 [(0, .ref (a 0)), (1, .int (nI L)), (2, .int (bI more)), (3, .int (nI ps))] → (∀ (H : Heap) (locs : List Loc), va_P (dC, dI) vwCl (vkW a cA n hd fm rp rq nd (flF n hd fm rp rq nd L nn more S1) bf su sI sO ct) H → va_D A (vkW a cA n hd fm rp rq nd (flF n hd fm rp rq nd L nn more S1) bf su sI sO ct) → va_S A s.heap H locs → ∀ ls : Array Slot, lv_has ls 4 [(0, .ref (a 0)), (1, .int (nI L))] → W p l e (headSpec wsX2_fill ({ frames := 4, cells := 0, slots := 0, locals := 92 })).room s m ([.ref (a 0), .int (nI L)] : List Value).toArray below meth c H locs 0 0 (MQ below (va_Qv (fun _ : Unit => True) (wrB (dC, dI) vwCl (vkW a cA n hd fm rp rq nd nw bf su sI sO ct) (vkW a cA n hd fm rp rq nd (flF n hd fm rp rq nd L 126 true nw) bf su sI sO ct) (vkT cA) s.heap.size) (va_A (vkW a cA n hd fm rp rq nd nw bf su sI sO ct) s.heap.size)) ([.ref (a 0), .int (nI L)] : List Value).toArray s 0 0 (va_A (vkW a cA n hd fm rp rq nd nw bf su sI sO ct) s.heap.size)) (F0 m 26 ls [])) → W p l e (headSpec wsX2_fill ({ frames := 4, cells := 0, slots := 0, locals := 92 })).room s m ([.ref (a 0), .int (nI L)] : List Value).toArray below meth c H locs 0 0 (MQ below (va_Qv (fun _ : Unit => True) (wrB (dC, dI) vwCl (vkW a cA n hd fm rp rq nd nw bf su sI sO ct) (vkW a cA n hd fm rp rq nd (flF n hd fm rp rq nd L 126 true nw) bf su sI sO ct) (vkT cA) s.heap.size) (va_A (vkW a cA n hd fm rp rq nd nw bf su sI sO ct) s.heap.size)) ([.ref (a 0), .int (nI L)] : List Value).toArray s 0 0 (va_A (vkW a cA n hd fm rp rq nd nw bf su sI sO ct) s.heap.size)) (F0 m 4 ls []) := by
    intro nn
    induction nn with
    | zero =>
      intro ps more S1 hnp H locs hP hD hS ls hl kx
      obtain rfl : ps = 126 := by omega
      refine lv_iload_n hx hb dX2_fill_4 rfl (lv_at hl 2 rfl) ?_
      refine hx_ifB (tgt := 26) hx hb dX2_fill_5 (by decide) (fun c_2 => ?_) (fun c_2 => ?_)
      · exact kx _ _ hP hD hS ls (lv_sub hl [0, 1] rfl)
      · refine lv_iload_n hx hb dX2_fill_8 rfl (lv_at hl 3 rfl) ?_
        refine lv_bipush (v := nI 126) hx hb dX2_fill_9 (by decide) ?_
        refine hx_geN (tgt := 26) hx hb dX2_fill_11 (by decide) (by omega) (by omega) (fun c_3 => ?_) (fun c_3 => ?_)
        · exact kx _ _ hP hD hS ls (lv_sub hl [0, 1] rfl)
        · exact absurd c_3 (by omega)
    | succ nn ih =>
      intro ps more S1 hnp H locs hP hD hS ls hl kx
      refine lv_iload_n hx hb dX2_fill_4 rfl (lv_at hl 2 rfl) ?_
      refine hx_ifB (tgt := 26) hx hb dX2_fill_5 (by decide) (fun c_4 => ?_) (fun c_4 => ?_)
      · have kx := kx
        rw [show flF n hd fm rp rq nd L (nn + 1) more S1 = S1 from by simp only [flF, c_4, ↓reduceIte, decide_true, decide_false, Bool.not_true, Bool.not_false, Bool.or_true, Bool.true_or, Bool.or_false, Bool.false_or, Bool.and_true, Bool.true_and, Bool.and_false, Bool.false_and, and_true, true_and, and_false, false_and, and_self, or_self, or_true, true_or, or_false, false_or, Bool.false_eq_true, Bool.true_eq_false, not_true_eq_false, not_false_eq_true, Bool.or_self, decide_eq_true_eq]] at kx
        exact kx _ _ hP hD hS ls (lv_sub hl [0, 1] rfl)
      · refine lv_iload_n hx hb dX2_fill_8 rfl (lv_at hl 3 rfl) ?_
        refine lv_bipush (v := nI 126) hx hb dX2_fill_9 (by decide) ?_
        refine hx_geN (tgt := 26) hx hb dX2_fill_11 (by decide) (by omega) (by omega) (fun c_5 => ?_) (fun c_5 => ?_)
        · exact absurd c_5 (by omega)
        · refine lv_aload_n hx hb dX2_fill_14 rfl (lv_at hl 0 rfl) ?_
          refine lv_iload_n hx hb dX2_fill_15 rfl (lv_at hl 1 rfl) ?_
          refine hx_wri (va_runV (As := [.int (nI L)]) (rest := []) ⟨hx, hb, hml, hown, hts⟩ (c_X2_fillOnce l dC dI a cA n hd fm rp rq nd S1 bf su sI sO ct L (by omega) (by omega) H.size) (cwV 1 hts gX2_fill_X2_fillOnce rfl rfl rfl (by decide +kernel) ⟨Nat.le_of_ble_eq_true rfl, Nat.le_of_ble_eq_true rfl⟩) (wr_V nstW_ok hP hK hN hD 0 rfl rfl _) rfl rfl hl.1 rfl (lv_room (Nat.le_of_ble_eq_true rfl)) dX2_fill_16 ⟨Nat.zero_le _, Nat.zero_le _⟩) hD hS hA (fun H locs hP hD hS => ?_)
          have hP : va_P (dC, dI) vwCl (vkW a cA n hd fm rp rq nd ((foF hd fm rp rq nd L n 0 S1 false).1) bf su sI sO ct) H := hP
          have hD : va_D A (vkW a cA n hd fm rp rq nd ((foF hd fm rp rq nd L n 0 S1 false).1) bf su sI sO ct) := hD
          refine lv_istore_n (lv' := [(2, .int (bI ((foF hd fm rp rq nd L n 0 S1 false).2))), (0, .ref (a 0)), (1, .int (nI L)), (3, .int (nI ps))]) hx hb dX2_fill_19 rfl hl (by decide) rfl (fun ls hl => ?_)
          refine lv_iinc (v := nI (ps + 1)) (lv' := [(3, .int (nI (ps + 1))), (2, .int (bI ((foF hd fm rp rq nd L n 0 S1 false).2))), (0, .ref (a 0)), (1, .int (nI L))]) hx hb dX2_fill_20 hl (k := 3) rfl (nI_add ps 1) (by decide) rfl (fun ls hl => ?_)
          refine lv_goto (tgt := 4) hx hb dX2_fill_23 (by decide) ?_
          have kx := kx
          rw [show flF n hd fm rp rq nd L (nn + 1) more S1 = flF n hd fm rp rq nd L nn ((foF hd fm rp rq nd L n 0 S1 false).2) ((foF hd fm rp rq nd L n 0 S1 false).1) from by simp only [flF, c_4, c_5, ↓reduceIte, decide_true, decide_false, Bool.not_true, Bool.not_false, Bool.or_true, Bool.true_or, Bool.or_false, Bool.false_or, Bool.and_true, Bool.true_and, Bool.and_false, Bool.false_and, and_true, true_and, and_false, false_and, and_self, or_self, or_true, true_or, or_false, false_or, Bool.false_eq_true, Bool.true_eq_false, not_true_eq_false, not_false_eq_true, Bool.or_self, decide_eq_true_eq]] at kx
          exact ih (ps + 1) ((foF hd fm rp rq nd L n 0 S1 false).2) ((foF hd fm rp rq nd L n 0 S1 false).1) (by omega) _ _ hP hD hS ls (lv_sub hl [2, 3, 1, 0] rfl) kx
  refine L_4_0 126 0 true nw (by omega) _ _ hP hD hS ls (lv_sub hl [2, 3, 1, 0] rfl) (fun H locs hP hD hS ls hl => ?_)
  have hP : va_P (dC, dI) vwCl (vkW a cA n hd fm rp rq nd (flF n hd fm rp rq nd L 126 true nw) bf su sI sO ct) H := hP
  have hD : va_D A (vkW a cA n hd fm rp rq nd (flF n hd fm rp rq nd L 126 true nw) bf su sI sO ct) := hD
  have hl : lv_has ls 4 [(0, .ref (a 0)), (1, .int (nI L))] := hl
  have e9 : vkW a cA n hd fm rp rq nd (flF n hd fm rp rq nd L 126 true nw) bf su sI sO ct = vkW a cA n hd fm rp rq nd (flF n hd fm rp rq nd L 126 true nw) bf su sI sO ct := rfl
  rw [e9] at hP hD
  subst hAe
  exact W.vret hx hb hr (fun t ht hW => ⟨⟨(), rfl, trivial, by rw [ht]; exact hP, va_K.moved hW.alike hK, hD⟩, hS.F ht⟩) hS.2.2 dX2_fill_26
set_option maxHeartbeats 4000000 in
set_option maxRecDepth 100000 in
theorem c_X2_forgetChanges (l : Launch) (dC : Nat → ClassId) (dI : Nat → Nat → Nat) (a : Nat → Nat) (cA : Nat → ClassId) (n : Nat) (hd fm rp rq : Nat → Nat) (nd nw bf su sI sO ct : Nat → Int32)  : WrV l yX2_forgetChanges wsX2_forgetChanges ({ frames := 1, cells := 0, slots := 0, locals := 40 }) (dC, dI) vwCl (vkW a cA n hd fm rp rq nd nw bf su sI sO ct) (vkW a cA n hd fm rp rq nd nw nw (fun _ => nI 0) sI sO ct) (vkT cA) nstW [.ref (a 0)] := by
  intro sz
  refine Met.ofW (cc := cX2_forgetChanges) (maxL := 1) (ret := none) (by decide) rfl ?_
  intro p e s m args below meth c s₁ B hml hv
  obtain ⟨rfl, hsz, ⟨hP, hK, hN⟩, hD0⟩ := hv
  subst hsz
  have hx := B.exec
  have hb := B.bytes
  have hr := B.returns
  have hts := atoms_spec (ws := wsX2_forgetChanges) B.pre
  have hown : s.vm.findClass RX2 = some m.cls := findClass_of_methodNamed B.named
  have hlocks := B.notSynchronized
  obtain ⟨A, hAe⟩ : ∃ A, A = va_A (vkW a cA n hd fm rp rq nd nw bf su sI sO ct) s.heap.size := ⟨_, rfl⟩
  have hD : va_D A (vkW a cA n hd fm rp rq nd nw bf su sI sO ct) := by rw [hAe]; exact hD0.self (sz := s.heap.size)
  have hA : ∀ q : Nat, s.heap.size ≤ q → A q := fun q h => by rw [hAe]; exact Or.inr h
  have hS : va_S A s.heap s.heap [] := va_S.rf
  have hP : va_P (dC, dI) vwCl (vkW a cA n hd fm rp rq nd nw bf su sI sO ct) s.heap := hP
  have lf_16 := hts (.fieldLink RX2 16 "ViewKeeper" "now" "[I") (by decide +kernel)
  have in_X2 : ∀ w ∈ u_ws RX2 TX2 7, w ∈ wsX2_forgetChanges := by decide +kernel
  have lf_20 := hts (.fieldLink RX2 20 "ViewKeeper" "before" "[I") (by decide +kernel)
  have lf_23 := hts (.fieldLink RX2 23 "ViewKeeper" "suspects" "[I") (by decide +kernel)
  have hl := lv_entry ([.ref (a 0)]) (n := 1) (Nat.le_of_ble_eq_true rfl)
  rw [lg_entry_eq]
  generalize (lg_sl ([.ref (a 0)]) ++ List.replicate (1 - (lg_sl ([.ref (a 0)])).length) Slot.unset).toArray = ls at hl ⊢
  have hl : lv_has ls 1 [(0, .ref (a 0))] := hl
  refine lv_aload_n hx hb dX2_forgetChanges_0 rfl (lv_at hl 0 rfl) ?_
  refine va_get (D := (dC, dI)) (ci := 2) (v := .ref (a 4)) (C := RX2) (T := TX2) (N := 7) hx hb hts in_X2 hown hK hP 0 rfl rfl 1 (by decide) lf_16 (fun _ h9 => h9) rfl dX2_forgetChanges_1 ?_
  refine lv_iconst (v := nI 0) hx hb dX2_forgetChanges_4 (by decide) ?_
  refine lv_aload_n hx hb dX2_forgetChanges_5 rfl (lv_at hl 0 rfl) ?_
  refine va_get (D := (dC, dI)) (ci := 2) (v := .ref (a 5)) (C := RX2) (T := TX2) (N := 7) hx hb hts in_X2 hown hK hP 0 rfl rfl 2 (by decide) lf_20 (fun _ h9 => h9) rfl dX2_forgetChanges_6 ?_
  refine lv_iconst (v := nI 0) hx hb dX2_forgetChanges_9 (by decide) ?_
  refine lv_bipush (v := nI 7) hx hb dX2_forgetChanges_10 (by decide) ?_
  refine hx_copy0 hx hb (hml.trans hl.1.symm) hown (hts (.methodLink RX2 123 arraycopyName) (by decide +kernel)) (hts (.native arraycopyName) (by decide +kernel)) (hts (.static arraycopyName) (by decide +kernel)) (hts (.initialized "java/lang/System") (by decide +kernel)) hK hP hD hS 4 5 2 3 rfl rfl rfl rfl (by omega) (Nat.le_of_ble_eq_true rfl) (by decide) dX2_forgetChanges_12 (fun H locs hP hD hS => ?_)
  have hP : va_P (dC, dI) vwCl (vkW a cA n hd fm rp rq nd nw nw su sI sO ct) H := hP
  have hD : va_D A (vkW a cA n hd fm rp rq nd nw nw su sI sO ct) := hD
  refine lv_aload_n hx hb dX2_forgetChanges_15 rfl (lv_at hl 0 rfl) ?_
  refine va_get (D := (dC, dI)) (ci := 2) (v := .ref (a 6)) (C := RX2) (T := TX2) (N := 7) hx hb hts in_X2 hown hK hP 0 rfl rfl 3 (by decide) lf_23 (fun _ h9 => h9) rfl dX2_forgetChanges_16 ?_
  refine lv_iconst (v := nI 0) hx hb dX2_forgetChanges_19 (by decide) ?_
  have hPc : va_P (dC, dI) vwCl (arW (a 6) (cA 6) 7 su) H := hP.sub [6] rfl
  have hDc : va_D A (arW (a 6) (cA 6) 7 su) := hD.sub [6] (by decide) rfl
  have hKc : va_K (dC, dI) vwCl [(cA 6, .int)] s := hK.sub [4] rfl
  refine hx_wrv1 (va_runS (As := [.ref (a 6), .int (nI 0)]) (rest := []) ⟨hx, hb, hml, hown, hts⟩ (c_J7_fill_53178 l dC dI (a 6) (cA 6) 7 su (nI 0) (by omega) H.size) (va_cwS 2 hts gX2_forgetChanges_J7_fill_53178 rfl rfl rfl (by decide +kernel) ⟨Nat.le_of_ble_eq_true rfl, Nat.le_of_ble_eq_true rfl⟩) (wr_S nstW_ok hPc hKc hN hDc _) rfl rfl hl.1 rfl (lv_room (Nat.le_of_ble_eq_true rfl)) dX2_forgetChanges_20 ⟨Nat.zero_le _, Nat.zero_le _⟩) 6 hP rfl hD hS hA (fun H locs hP hD hS => ?_)
  have hP : va_P (dC, dI) vwCl (vkW a cA n hd fm rp rq nd nw nw (fun _ => nI 0) sI sO ct) H := hP
  have hD : va_D A (vkW a cA n hd fm rp rq nd nw nw (fun _ => nI 0) sI sO ct) := hD
  have e9 : vkW a cA n hd fm rp rq nd nw nw (fun _ => nI 0) sI sO ct = vkW a cA n hd fm rp rq nd nw nw (fun _ => nI 0) sI sO ct := rfl
  rw [e9] at hP hD
  subst hAe
  exact W.vret hx hb hr (fun t ht hW => ⟨⟨(), rfl, trivial, by rw [ht]; exact hP, va_K.moved hW.alike hK, hD⟩, hS.F ht⟩) hS.2.2 dX2_forgetChanges_23
set_option maxHeartbeats 4000000 in
set_option maxRecDepth 100000 in
theorem c_X2_clearStaged (l : Launch) (dC : Nat → ClassId) (dI : Nat → Nat → Nat) (a : Nat → Nat) (cA : Nat → ClassId) (n : Nat) (hd fm rp rq : Nat → Nat) (nd nw bf su sI sO ct : Nat → Int32)  : WrV l yX2_clearStaged wsX2_clearStaged ({ frames := 1, cells := 0, slots := 0, locals := 23 }) (dC, dI) vwCl (vkW a cA n hd fm rp rq nd nw bf su sI sO ct) (vkW a cA n hd fm rp rq nd nw bf su (fun _ => nI 0) (fun _ => nI 0) ct) (vkT cA) nstW [.ref (a 0)] := by
  intro sz
  refine Met.ofW (cc := cX2_clearStaged) (maxL := 1) (ret := none) (by decide) rfl ?_
  intro p e s m args below meth c s₁ B hml hv
  obtain ⟨rfl, hsz, ⟨hP, hK, hN⟩, hD0⟩ := hv
  subst hsz
  have hx := B.exec
  have hb := B.bytes
  have hr := B.returns
  have hts := atoms_spec (ws := wsX2_clearStaged) B.pre
  have hown : s.vm.findClass RX2 = some m.cls := findClass_of_methodNamed B.named
  have hlocks := B.notSynchronized
  obtain ⟨A, hAe⟩ : ∃ A, A = va_A (vkW a cA n hd fm rp rq nd nw bf su sI sO ct) s.heap.size := ⟨_, rfl⟩
  have hD : va_D A (vkW a cA n hd fm rp rq nd nw bf su sI sO ct) := by rw [hAe]; exact hD0.self (sz := s.heap.size)
  have hA : ∀ q : Nat, s.heap.size ≤ q → A q := fun q h => by rw [hAe]; exact Or.inr h
  have hS : va_S A s.heap s.heap [] := va_S.rf
  have hP : va_P (dC, dI) vwCl (vkW a cA n hd fm rp rq nd nw bf su sI sO ct) s.heap := hP
  have lf_29 := hts (.fieldLink RX2 29 "ViewKeeper" "stagedIn" "[I") (by decide +kernel)
  have in_X2 : ∀ w ∈ u_ws RX2 TX2 7, w ∈ wsX2_clearStaged := by decide +kernel
  have lf_32 := hts (.fieldLink RX2 32 "ViewKeeper" "stagedOut" "[I") (by decide +kernel)
  have hl := lv_entry ([.ref (a 0)]) (n := 1) (Nat.le_of_ble_eq_true rfl)
  rw [lg_entry_eq]
  generalize (lg_sl ([.ref (a 0)]) ++ List.replicate (1 - (lg_sl ([.ref (a 0)])).length) Slot.unset).toArray = ls at hl ⊢
  have hl : lv_has ls 1 [(0, .ref (a 0))] := hl
  refine lv_aload_n hx hb dX2_clearStaged_0 rfl (lv_at hl 0 rfl) ?_
  refine va_get (D := (dC, dI)) (ci := 2) (v := .ref (a 7)) (C := RX2) (T := TX2) (N := 7) hx hb hts in_X2 hown hK hP 0 rfl rfl 5 (by decide) lf_29 (fun _ h9 => h9) rfl dX2_clearStaged_1 ?_
  refine lv_iconst (v := nI 0) hx hb dX2_clearStaged_4 (by decide) ?_
  have hPc : va_P (dC, dI) vwCl (arW (a 7) (cA 7) 2 sI) s.heap := hP.sub [7] rfl
  have hDc : va_D A (arW (a 7) (cA 7) 2 sI) := hD.sub [7] (by decide) rfl
  have hKc : va_K (dC, dI) vwCl [(cA 7, .int)] s := hK.sub [5] rfl
  refine hx_wrv1 (va_runS (As := [.ref (a 7), .int (nI 0)]) (rest := []) ⟨hx, hb, hml, hown, hts⟩ (c_J7_fill_53178 l dC dI (a 7) (cA 7) 2 sI (nI 0) (by omega) s.heap.size) (va_cwS 2 hts gX2_clearStaged_J7_fill_53178 rfl rfl rfl (by decide +kernel) ⟨Nat.le_of_ble_eq_true rfl, Nat.le_of_ble_eq_true rfl⟩) (wr_S nstW_ok hPc hKc hN hDc _) rfl rfl hl.1 rfl (lv_room (Nat.le_of_ble_eq_true rfl)) dX2_clearStaged_5 ⟨Nat.zero_le _, Nat.zero_le _⟩) 7 hP rfl hD hS hA (fun H locs hP hD hS => ?_)
  have hP : va_P (dC, dI) vwCl (vkW a cA n hd fm rp rq nd nw bf su (fun _ => nI 0) sO ct) H := hP
  have hD : va_D A (vkW a cA n hd fm rp rq nd nw bf su (fun _ => nI 0) sO ct) := hD
  refine lv_aload_n hx hb dX2_clearStaged_8 rfl (lv_at hl 0 rfl) ?_
  refine va_get (D := (dC, dI)) (ci := 2) (v := .ref (a 8)) (C := RX2) (T := TX2) (N := 7) hx hb hts in_X2 hown hK hP 0 rfl rfl 6 (by decide) lf_32 (fun _ h9 => h9) rfl dX2_clearStaged_9 ?_
  refine lv_iconst (v := nI 0) hx hb dX2_clearStaged_12 (by decide) ?_
  have hPc : va_P (dC, dI) vwCl (arW (a 8) (cA 8) 2 sO) H := hP.sub [8] rfl
  have hDc : va_D A (arW (a 8) (cA 8) 2 sO) := hD.sub [8] (by decide) rfl
  have hKc : va_K (dC, dI) vwCl [(cA 8, .int)] s := hK.sub [6] rfl
  refine hx_wrv1 (va_runS (As := [.ref (a 8), .int (nI 0)]) (rest := []) ⟨hx, hb, hml, hown, hts⟩ (c_J7_fill_53178 l dC dI (a 8) (cA 8) 2 sO (nI 0) (by omega) H.size) (va_cwS 2 hts gX2_clearStaged_J7_fill_53178 rfl rfl rfl (by decide +kernel) ⟨Nat.le_of_ble_eq_true rfl, Nat.le_of_ble_eq_true rfl⟩) (wr_S nstW_ok hPc hKc hN hDc _) rfl rfl hl.1 rfl (lv_room (Nat.le_of_ble_eq_true rfl)) dX2_clearStaged_13 ⟨Nat.zero_le _, Nat.zero_le _⟩) 8 hP rfl hD hS hA (fun H locs hP hD hS => ?_)
  have hP : va_P (dC, dI) vwCl (vkW a cA n hd fm rp rq nd nw bf su (fun _ => nI 0) (fun _ => nI 0) ct) H := hP
  have hD : va_D A (vkW a cA n hd fm rp rq nd nw bf su (fun _ => nI 0) (fun _ => nI 0) ct) := hD
  have e9 : vkW a cA n hd fm rp rq nd nw bf su (fun _ => nI 0) (fun _ => nI 0) ct = vkW a cA n hd fm rp rq nd nw bf su (fun _ => nI 0) (fun _ => nI 0) ct := rfl
  rw [e9] at hP hD
  subst hAe
  exact W.vret hx hb hr (fun t ht hW => ⟨⟨(), rfl, trivial, by rw [ht]; exact hP, va_K.moved hW.alike hK, hD⟩, hS.F ht⟩) hS.2.2 dX2_clearStaged_16
set_option maxHeartbeats 4000000 in
set_option maxRecDepth 100000 in
theorem c_X2_doStaged (l : Launch) (dC : Nat → ClassId) (dI : Nat → Nat → Nat) (a : Nat → Nat) (cA : Nat → ClassId) (n : Nat) (hd fm rp rq : Nat → Nat) (nd nw bf su sI sO ct : Nat → Int32)  : WrV l yX2_doStaged wsX2_doStaged ({ frames := 2, cells := 0, slots := 0, locals := 43 }) (dC, dI) vwCl (vkW a cA n hd fm rp rq nd nw bf su sI sO ct) (vkW a cA n hd fm rp rq nd (dsF sI sO 2 0 nw) bf su (fun _ => nI 0) (fun _ => nI 0) ct) (vkT cA) nstW [.ref (a 0)] := by
  intro sz
  refine Met.ofW (cc := cX2_doStaged) (maxL := 2) (ret := none) (by decide) rfl ?_
  intro p e s m args below meth c s₁ B hml hv
  obtain ⟨rfl, hsz, ⟨hP, hK, hN⟩, hD0⟩ := hv
  subst hsz
  have hx := B.exec
  have hb := B.bytes
  have hr := B.returns
  have hts := atoms_spec (ws := wsX2_doStaged) B.pre
  have hown : s.vm.findClass RX2 = some m.cls := findClass_of_methodNamed B.named
  have hlocks := B.notSynchronized
  obtain ⟨A, hAe⟩ : ∃ A, A = va_A (vkW a cA n hd fm rp rq nd nw bf su sI sO ct) s.heap.size := ⟨_, rfl⟩
  have hD : va_D A (vkW a cA n hd fm rp rq nd nw bf su sI sO ct) := by rw [hAe]; exact hD0.self (sz := s.heap.size)
  have hA : ∀ q : Nat, s.heap.size ≤ q → A q := fun q h => by rw [hAe]; exact Or.inr h
  have hS : va_S A s.heap s.heap [] := va_S.rf
  have hP : va_P (dC, dI) vwCl (vkW a cA n hd fm rp rq nd nw bf su sI sO ct) s.heap := hP
  have lf_16 := hts (.fieldLink RX2 16 "ViewKeeper" "now" "[I") (by decide +kernel)
  have in_X2 : ∀ w ∈ u_ws RX2 TX2 7, w ∈ wsX2_doStaged := by decide +kernel
  have lf_29 := hts (.fieldLink RX2 29 "ViewKeeper" "stagedIn" "[I") (by decide +kernel)
  have lf_32 := hts (.fieldLink RX2 32 "ViewKeeper" "stagedOut" "[I") (by decide +kernel)
  have hl := lv_entry ([.ref (a 0)]) (n := 2) (Nat.le_of_ble_eq_true rfl)
  rw [lg_entry_eq]
  generalize (lg_sl ([.ref (a 0)]) ++ List.replicate (2 - (lg_sl ([.ref (a 0)])).length) Slot.unset).toArray = ls at hl ⊢
  have hl : lv_has ls 2 [(0, .ref (a 0))] := hl
  refine lv_iconst (v := nI 0) hx hb dX2_doStaged_0 (by decide) ?_
  refine lv_istore_n (lv' := [(1, .int (nI 0)), (0, .ref (a 0))]) hx hb dX2_doStaged_1 rfl hl (by decide) rfl (fun ls hl => ?_)
  have L_2_0 : ∀ (nn : Nat) (r : Nat) (nw1 : Nat → Int32), r + nn = 2 → ∀ (H : Heap) (locs : List Loc), va_P (dC, dI) vwCl (vkW a cA n hd fm rp rq nd nw1 bf su sI sO ct) H → va_D A (vkW a cA n hd fm rp rq nd nw1 bf su sI sO ct) → va_S A s.heap H locs → ∀ ls : Array Slot, lv_has ls 2 [(0, .ref (a 0)), (1, .int (nI r))] → (∀ (H : Heap) (locs : List Loc), va_P (dC, dI) vwCl (vkW a cA n hd fm rp rq nd (dsF sI sO nn r nw1) bf su sI sO ct) H → va_D A (vkW a cA n hd fm rp rq nd (dsF sI sO nn r nw1) bf su sI sO ct) → va_S A s.heap H locs → ∀ ls : Array Slot, lv_has ls 2 [(0, .ref (a 0)), (1, .int (nI 2))] → W p l e (headSpec wsX2_doStaged ({ frames := 2, cells := 0, slots := 0, locals := 43 })).room s m ([.ref (a 0)] : List Value).toArray below meth c H locs 0 0 (MQ below (va_Qv (fun _ : Unit => True) (wrB (dC, dI) vwCl (vkW a cA n hd fm rp rq nd nw bf su sI sO ct) (vkW a cA n hd fm rp rq nd (dsF sI sO 2 0 nw) bf su (fun _ => nI 0) (fun _ => nI 0) ct) (vkT cA) s.heap.size) (va_A (vkW a cA n hd fm rp rq nd nw bf su sI sO ct) s.heap.size)) ([.ref (a 0)] : List Value).toArray s 0 0 (va_A (vkW a cA n hd fm rp rq nd nw bf su sI sO ct) s.heap.size)) (F0 m 41 ls [])) → W p l e (headSpec wsX2_doStaged ({ frames := 2, cells := 0, slots := 0, locals := 43 })).room s m ([.ref (a 0)] : List Value).toArray below meth c H locs 0 0 (MQ below (va_Qv (fun _ : Unit => True) (wrB (dC, dI) vwCl (vkW a cA n hd fm rp rq nd nw bf su sI sO ct) (vkW a cA n hd fm rp rq nd (dsF sI sO 2 0 nw) bf su (fun _ => nI 0) (fun _ => nI 0) ct) (vkT cA) s.heap.size) (va_A (vkW a cA n hd fm rp rq nd nw bf su sI sO ct) s.heap.size)) ([.ref (a 0)] : List Value).toArray s 0 0 (va_A (vkW a cA n hd fm rp rq nd nw bf su sI sO ct) s.heap.size)) (F0 m 2 ls []) := by
    intro nn
    induction nn with
    | zero =>
      intro r nw1 hnr H locs hP hD hS ls hl kx
      obtain rfl : r = 2 := by omega
      refine lv_iload_n hx hb dX2_doStaged_2 rfl (lv_at hl 1 rfl) ?_
      refine lv_iconst (v := nI 2) hx hb dX2_doStaged_3 (by decide) ?_
      refine hx_geN (tgt := 41) hx hb dX2_doStaged_4 (by decide) (by omega) (by omega) (fun c_2 => ?_) (fun c_2 => ?_)
      · exact kx _ _ hP hD hS ls (lv_sub hl [0, 1] rfl)
      · exact absurd c_2 (by omega)
    | succ nn ih =>
      intro r nw1 hnr H locs hP hD hS ls hl kx
      refine lv_iload_n hx hb dX2_doStaged_2 rfl (lv_at hl 1 rfl) ?_
      refine lv_iconst (v := nI 2) hx hb dX2_doStaged_3 (by decide) ?_
      refine hx_geN (tgt := 41) hx hb dX2_doStaged_4 (by decide) (by omega) (by omega) (fun c_3 => ?_) (fun c_3 => ?_)
      · exact absurd c_3 (by omega)
      · refine lv_aload_n hx hb dX2_doStaged_7 rfl (lv_at hl 0 rfl) ?_
        refine va_get (D := (dC, dI)) (ci := 2) (v := .ref (a 4)) (C := RX2) (T := TX2) (N := 7) hx hb hts in_X2 hown hK hP 0 rfl rfl 1 (by decide) lf_16 (fun _ h9 => h9) rfl dX2_doStaged_8 ?_
        refine lv_iload_n hx hb dX2_doStaged_11 rfl (lv_at hl 1 rfl) ?_
        refine lv_aload_n hx hb dX2_doStaged_12 rfl (lv_at hl 0 rfl) ?_
        refine va_get (D := (dC, dI)) (ci := 2) (v := .ref (a 4)) (C := RX2) (T := TX2) (N := 7) hx hb hts in_X2 hown hK hP 0 rfl rfl 1 (by decide) lf_16 (fun _ h9 => h9) rfl dX2_doStaged_13 ?_
        refine lv_iload_n hx hb dX2_doStaged_16 rfl (lv_at hl 1 rfl) ?_
        refine hx_iald hx hb hK hP 4 2 rfl rfl (by omega) (by omega) dX2_doStaged_17 ?_
        refine lv_aload_n hx hb dX2_doStaged_18 rfl (lv_at hl 0 rfl) ?_
        refine va_get (D := (dC, dI)) (ci := 2) (v := .ref (a 7)) (C := RX2) (T := TX2) (N := 7) hx hb hts in_X2 hown hK hP 0 rfl rfl 5 (by decide) lf_29 (fun _ h9 => h9) rfl dX2_doStaged_19 ?_
        refine lv_iload_n hx hb dX2_doStaged_22 rfl (lv_at hl 1 rfl) ?_
        refine hx_iald hx hb hK hP 7 5 rfl rfl (by omega) (by omega) dX2_doStaged_23 ?_
        refine lv_ior hx hb dX2_doStaged_24 ?_
        refine lv_aload_n hx hb dX2_doStaged_25 rfl (lv_at hl 0 rfl) ?_
        refine va_get (D := (dC, dI)) (ci := 2) (v := .ref (a 8)) (C := RX2) (T := TX2) (N := 7) hx hb hts in_X2 hown hK hP 0 rfl rfl 6 (by decide) lf_32 (fun _ h9 => h9) rfl dX2_doStaged_26 ?_
        refine lv_iload_n hx hb dX2_doStaged_29 rfl (lv_at hl 1 rfl) ?_
        refine hx_iald hx hb hK hP 8 6 rfl rfl (by omega) (by omega) dX2_doStaged_30 ?_
        refine lv_iconst (v := (-1)) hx hb dX2_doStaged_31 (by decide) ?_
        refine lv_ixor hx hb dX2_doStaged_32 ?_
        refine lv_iand hx hb dX2_doStaged_33 ?_
        refine hx_iast hx hb hK hP hD hS 4 2 rfl rfl (by omega) (by omega) dX2_doStaged_34 (fun H locs hP hD hS => ?_)
        have hP : va_P (dC, dI) vwCl (vkW a cA n hd fm rp rq nd (upd nw1 r (((nw1 r) ||| (sI r)) &&& ((sO r) ^^^ ((-1))))) bf su sI sO ct) H := hP
        have hD : va_D A (vkW a cA n hd fm rp rq nd (upd nw1 r (((nw1 r) ||| (sI r)) &&& ((sO r) ^^^ ((-1))))) bf su sI sO ct) := hD
        refine lv_iinc (v := nI (r + 1)) (lv' := [(1, .int (nI (r + 1))), (0, .ref (a 0))]) hx hb dX2_doStaged_35 hl (k := 1) rfl (nI_add r 1) (by decide) rfl (fun ls hl => ?_)
        refine lv_goto (tgt := 2) hx hb dX2_doStaged_38 (by decide) ?_
        have kx := kx
        rw [show dsF sI sO (nn + 1) r nw1 = dsF sI sO nn (r + 1) (upd nw1 r (((nw1 r) ||| (sI r)) &&& ((sO r) ^^^ ((-1))))) from rfl] at kx
        exact ih (r + 1) (upd nw1 r (((nw1 r) ||| (sI r)) &&& ((sO r) ^^^ ((-1))))) (by omega) _ _ hP hD hS ls (lv_sub hl [1, 0] rfl) kx
  refine L_2_0 2 0 nw (by omega) _ _ hP hD hS ls (lv_sub hl [1, 0] rfl) (fun H locs hP hD hS ls hl => ?_)
  have hP : va_P (dC, dI) vwCl (vkW a cA n hd fm rp rq nd (dsF sI sO 2 0 nw) bf su sI sO ct) H := hP
  have hD : va_D A (vkW a cA n hd fm rp rq nd (dsF sI sO 2 0 nw) bf su sI sO ct) := hD
  have hl : lv_has ls 2 [(0, .ref (a 0)), (1, .int (nI 2))] := hl
  refine lv_aload_n hx hb dX2_doStaged_41 rfl (lv_at hl 0 rfl) ?_
  refine hx_wrv (va_runV (As := []) (rest := []) ⟨hx, hb, hml, hown, hts⟩ (c_X2_clearStaged l dC dI a cA n hd fm rp rq nd (dsF sI sO 2 0 nw) bf su sI sO ct H.size) (cwV 0 hts gX2_doStaged_X2_clearStaged rfl rfl rfl (by decide +kernel) ⟨Nat.le_of_ble_eq_true rfl, Nat.le_of_ble_eq_true rfl⟩) (wr_V nstW_ok hP hK hN hD 0 rfl rfl _) rfl rfl hl.1 rfl (lv_room (Nat.le_of_ble_eq_true rfl)) dX2_doStaged_42 ⟨Nat.zero_le _, Nat.zero_le _⟩) hD hS hA (fun H locs hP hD hS => ?_)
  have hP : va_P (dC, dI) vwCl (vkW a cA n hd fm rp rq nd ((dsF sI sO 2 0 nw)) bf su (fun _ => nI 0) (fun _ => nI 0) ct) H := hP
  have hD : va_D A (vkW a cA n hd fm rp rq nd ((dsF sI sO 2 0 nw)) bf su (fun _ => nI 0) (fun _ => nI 0) ct) := hD
  have e9 : vkW a cA n hd fm rp rq nd ((dsF sI sO 2 0 nw)) bf su (fun _ => nI 0) (fun _ => nI 0) ct = vkW a cA n hd fm rp rq nd (dsF sI sO 2 0 nw) bf su (fun _ => nI 0) (fun _ => nI 0) ct := rfl
  rw [e9] at hP hD
  subst hAe
  exact W.vret hx hb hr (fun t ht hW => ⟨⟨(), rfl, trivial, by rw [ht]; exact hP, va_K.moved hW.alike hK, hD⟩, hS.F ht⟩) hS.2.2 dX2_doStaged_45
set_option maxHeartbeats 4000000 in
set_option maxRecDepth 100000 in
theorem c_X2_recountPairs (l : Launch) (dC : Nat → ClassId) (dI : Nat → Nat → Nat) (a : Nat → Nat) (cA : Nat → ClassId) (n : Nat) (hd fm rp rq : Nat → Nat) (nd nw bf su sI sO ct : Nat → Int32) (v : Nat) (o0 m0 : Int32) (hy_0 : v < 7) : WrV l yX2_recountPairs wsX2_recountPairs ({ frames := 0, cells := 0, slots := 0, locals := 0 }) (dC, dI) vwCl (vkW a cA n hd fm rp rq nd nw bf su sI sO ct) (vkW a cA n hd fm rp rq nd ((rpF v o0 m0 25 0 ct nw).2) bf su sI sO ((rpF v o0 m0 25 0 ct nw).1)) (vkT cA) nstW [.ref (a 0), .int (nI v), .int (o0), .int (m0)] := by
  intro sz
  refine Met.ofW (cc := cX2_recountPairs) (maxL := 8) (ret := none) (by decide) rfl ?_
  intro p e s m args below meth c s₁ B hml hv
  obtain ⟨rfl, hsz, ⟨hP, hK, hN⟩, hD0⟩ := hv
  subst hsz
  have hx := B.exec
  have hb := B.bytes
  have hr := B.returns
  have hts := atoms_spec (ws := wsX2_recountPairs) B.pre
  have hown : s.vm.findClass RX2 = some m.cls := findClass_of_methodNamed B.named
  have hlocks := B.notSynchronized
  obtain ⟨A, hAe⟩ : ∃ A, A = va_A (vkW a cA n hd fm rp rq nd nw bf su sI sO ct) s.heap.size := ⟨_, rfl⟩
  have hD : va_D A (vkW a cA n hd fm rp rq nd nw bf su sI sO ct) := by rw [hAe]; exact hD0.self (sz := s.heap.size)
  have hA : ∀ q : Nat, s.heap.size ≤ q → A q := fun q h => by rw [hAe]; exact Or.inr h
  have hS : va_S A s.heap s.heap [] := va_S.rf
  have hP : va_P (dC, dI) vwCl (vkW a cA n hd fm rp rq nd nw bf su sI sO ct) s.heap := hP
  have lf_26 := hts (.fieldLink RX2 26 "ViewKeeper" "counts" "[I") (by decide +kernel)
  have in_X2 : ∀ w ∈ u_ws RX2 TX2 7, w ∈ wsX2_recountPairs := by decide +kernel
  have lf_16 := hts (.fieldLink RX2 16 "ViewKeeper" "now" "[I") (by decide +kernel)
  have hl := lv_entry ([.ref (a 0), .int (nI v), .int (o0), .int (m0)]) (n := 8) (Nat.le_of_ble_eq_true rfl)
  rw [lg_entry_eq]
  generalize (lg_sl ([.ref (a 0), .int (nI v), .int (o0), .int (m0)]) ++ List.replicate (8 - (lg_sl ([.ref (a 0), .int (nI v), .int (o0), .int (m0)])).length) Slot.unset).toArray = ls at hl ⊢
  have hl : lv_has ls 8 [(0, .ref (a 0)), (1, .int (nI v)), (2, .int (o0)), (3, .int (m0))] := hl
  refine lv_iload_n hx hb dX2_recountPairs_0 rfl (lv_at hl 2 rfl) ?_
  refine lv_iload_n hx hb dX2_recountPairs_1 rfl (lv_at hl 3 rfl) ?_
  refine lv_ixor hx hb dX2_recountPairs_2 ?_
  refine lv_istore (lv' := [(4, .int (o0 ^^^ m0)), (0, .ref (a 0)), (1, .int (nI v)), (2, .int (o0)), (3, .int (m0))]) hx hb dX2_recountPairs_3 hl (by decide) rfl (fun ls hl => ?_)
  refine lv_iconst (v := nI 0) hx hb dX2_recountPairs_5 (by decide) ?_
  refine lv_istore (lv' := [(5, .int (nI 0)), (4, .int (o0 ^^^ m0)), (0, .ref (a 0)), (1, .int (nI v)), (2, .int (o0)), (3, .int (m0))]) hx hb dX2_recountPairs_6 hl (by decide) rfl (fun ls hl => ?_)
  have L_8_0 : ∀ (nn : Nat) (j : Nat) (ct1 : Nat → Int32) (nw1 : Nat → Int32), j + nn = 25 → ∀ (H : Heap) (locs : List Loc), va_P (dC, dI) vwCl (vkW a cA n hd fm rp rq nd nw1 bf su sI sO ct1) H → va_D A (vkW a cA n hd fm rp rq nd nw1 bf su sI sO ct1) → va_S A s.heap H locs → ∀ ls : Array Slot, lv_has ls 8 [(0, .ref (a 0)), (1, .int (nI v)), (2, .int (o0)), (3, .int (m0)), (4, .int (o0 ^^^ m0)), (5, .int (nI j))] → (∀ (H : Heap) (locs : List Loc), va_P (dC, dI) vwCl (vkW a cA n hd fm rp rq nd ((rpF v o0 m0 nn j ct1 nw1).2) bf su sI sO ((rpF v o0 m0 nn j ct1 nw1).1)) H → va_D A (vkW a cA n hd fm rp rq nd ((rpF v o0 m0 nn j ct1 nw1).2) bf su sI sO ((rpF v o0 m0 nn j ct1 nw1).1)) → va_S A s.heap H locs → ∀ ls : Array Slot, lv_has ls 8 [(0, .ref (a 0)), (1, .int (nI v)), (2, .int (o0)), (3, .int (m0)), (4, .int (o0 ^^^ m0)), (5, .int (nI 25))] → W p l e (headSpec wsX2_recountPairs ({ frames := 0, cells := 0, slots := 0, locals := 0 })).room s m ([.ref (a 0), .int (nI v), .int (o0), .int (m0)] : List Value).toArray below meth c H locs 0 0 (MQ below (va_Qv (fun _ : Unit => True) (wrB (dC, dI) vwCl (vkW a cA n hd fm rp rq nd nw bf su sI sO ct) (vkW a cA n hd fm rp rq nd ((rpF v o0 m0 25 0 ct nw).2) bf su sI sO ((rpF v o0 m0 25 0 ct nw).1)) (vkT cA) s.heap.size) (va_A (vkW a cA n hd fm rp rq nd nw bf su sI sO ct) s.heap.size)) ([.ref (a 0), .int (nI v), .int (o0), .int (m0)] : List Value).toArray s 0 0 (va_A (vkW a cA n hd fm rp rq nd nw bf su sI sO ct) s.heap.size)) (F0 m 105 ls [])) → W p l e (headSpec wsX2_recountPairs ({ frames := 0, cells := 0, slots := 0, locals := 0 })).room s m ([.ref (a 0), .int (nI v), .int (o0), .int (m0)] : List Value).toArray below meth c H locs 0 0 (MQ below (va_Qv (fun _ : Unit => True) (wrB (dC, dI) vwCl (vkW a cA n hd fm rp rq nd nw bf su sI sO ct) (vkW a cA n hd fm rp rq nd ((rpF v o0 m0 25 0 ct nw).2) bf su sI sO ((rpF v o0 m0 25 0 ct nw).1)) (vkT cA) s.heap.size) (va_A (vkW a cA n hd fm rp rq nd nw bf su sI sO ct) s.heap.size)) ([.ref (a 0), .int (nI v), .int (o0), .int (m0)] : List Value).toArray s 0 0 (va_A (vkW a cA n hd fm rp rq nd nw bf su sI sO ct) s.heap.size)) (F0 m 8 ls []) := by
    intro nn
    induction nn with
    | zero =>
      intro j ct1 nw1 hnj H locs hP hD hS ls hl kx
      obtain rfl : j = 25 := by omega
      refine lv_iload hx hb dX2_recountPairs_8 (lv_at hl 5 rfl) ?_
      refine lv_bipush (v := nI 25) hx hb dX2_recountPairs_10 (by decide) ?_
      refine hx_geN (tgt := 105) hx hb dX2_recountPairs_12 (by decide) (by omega) (by omega) (fun c_2 => ?_) (fun c_2 => ?_)
      · exact kx _ _ hP hD hS ls (lv_sub hl [0, 1, 2, 3, 4, 5] rfl)
      · exact absurd c_2 (by omega)
    | succ nn ih =>
      intro j ct1 nw1 hnj H locs hP hD hS ls hl kx
      refine lv_iload hx hb dX2_recountPairs_8 (lv_at hl 5 rfl) ?_
      refine lv_bipush (v := nI 25) hx hb dX2_recountPairs_10 (by decide) ?_
      refine hx_geN (tgt := 105) hx hb dX2_recountPairs_12 (by decide) (by omega) (by omega) (fun c_3 => ?_) (fun c_3 => ?_)
      · exact absurd c_3 (by omega)
      · refine lv_iconst (v := nI 1) hx hb dX2_recountPairs_15 (by decide) ?_
        refine lv_iload hx hb dX2_recountPairs_16 (lv_at hl 5 rfl) ?_
        refine lv_ishl hx hb dX2_recountPairs_18 ?_
        refine hx_eq (y := bm j) rfl ?_
        refine lv_istore (lv' := [(6, .int (bm j)), (0, .ref (a 0)), (1, .int (nI v)), (2, .int (o0)), (3, .int (m0)), (4, .int (o0 ^^^ m0)), (5, .int (nI j))]) hx hb dX2_recountPairs_19 hl (by decide) rfl (fun ls hl => ?_)
        refine lv_iload hx hb dX2_recountPairs_21 (lv_at hl 5 rfl) ?_
        refine lv_iload hx hb dX2_recountPairs_23 (lv_at hl 0 rfl) ?_
        refine lv_iand hx hb dX2_recountPairs_25 ?_
        refine lv_if_eq (tgt := 99) hx hb dX2_recountPairs_26 (by decide) (fun c_4 => ?_) (fun c_4 => ?_)
        · refine lv_iinc (v := nI (j + 1)) (lv' := [(5, .int (nI (j + 1))), (6, .int (bm j)), (0, .ref (a 0)), (1, .int (nI v)), (2, .int (o0)), (3, .int (m0)), (4, .int (o0 ^^^ m0))]) hx hb dX2_recountPairs_99 hl (k := 6) rfl (nI_add j 1) (by decide) rfl (fun ls hl => ?_)
          refine lv_goto (tgt := 8) hx hb dX2_recountPairs_102 (by decide) ?_
          have kx := kx
          rw [show (rpF v o0 m0 (nn + 1) j ct1 nw1).1 = (rpF v o0 m0 nn (j + 1) ct1 nw1).1 from by simp only [rpF, c_3, c_4, ↓reduceIte, decide_true, decide_false, Bool.not_true, Bool.not_false, Bool.or_true, Bool.true_or, Bool.or_false, Bool.false_or, Bool.and_true, Bool.true_and, Bool.and_false, Bool.false_and, and_true, true_and, and_false, false_and, and_self, or_self, or_true, true_or, or_false, false_or, Bool.false_eq_true, Bool.true_eq_false, not_true_eq_false, not_false_eq_true, Bool.or_self, decide_eq_true_eq]] at kx
          rw [show (rpF v o0 m0 (nn + 1) j ct1 nw1).2 = (rpF v o0 m0 nn (j + 1) ct1 nw1).2 from by simp only [rpF, c_3, c_4, ↓reduceIte, decide_true, decide_false, Bool.not_true, Bool.not_false, Bool.or_true, Bool.true_or, Bool.or_false, Bool.false_or, Bool.and_true, Bool.true_and, Bool.and_false, Bool.false_and, and_true, true_and, and_false, false_and, and_self, or_self, or_true, true_or, or_false, false_or, Bool.false_eq_true, Bool.true_eq_false, not_true_eq_false, not_false_eq_true, Bool.or_self, decide_eq_true_eq]] at kx
          exact ih (j + 1) ct1 nw1 (by omega) _ _ hP hD hS ls (lv_sub hl [2, 3, 4, 5, 6, 0] rfl) kx
        · refine lv_bipush (v := nI 25) hx hb dX2_recountPairs_29 (by decide) ?_
          refine lv_iload_n hx hb dX2_recountPairs_31 rfl (lv_at hl 2 rfl) ?_
          refine hx_imul hx hb dX2_recountPairs_32 ?_
          refine lv_iload hx hb dX2_recountPairs_33 (lv_at hl 6 rfl) ?_
          refine hx_iadd hx hb dX2_recountPairs_35 ?_
          refine lv_istore (lv' := [(7, .int (nI ((25 * v) + j))), (6, .int (bm j)), (0, .ref (a 0)), (1, .int (nI v)), (2, .int (o0)), (3, .int (m0)), (4, .int (o0 ^^^ m0)), (5, .int (nI j))]) hx hb dX2_recountPairs_36 hl (by decide) rfl (fun ls hl => ?_)
          refine lv_aload_n hx hb dX2_recountPairs_38 rfl (lv_at hl 2 rfl) ?_
          refine va_get (D := (dC, dI)) (ci := 2) (v := .ref (a 9)) (C := RX2) (T := TX2) (N := 7) hx hb hts in_X2 hown hK hP 0 rfl rfl 4 (by decide) lf_26 (fun _ h9 => h9) rfl dX2_recountPairs_39 ?_
          refine lv_iload hx hb dX2_recountPairs_42 (lv_at hl 0 rfl) ?_
          refine lv_dup2_11 hx hb dX2_recountPairs_44 rfl rfl ?_
          refine hx_iald hx hb hK hP 9 7 rfl rfl (by omega) (by omega) dX2_recountPairs_45 ?_
          refine lv_iload_n hx hb dX2_recountPairs_46 rfl (lv_at hl 5 rfl) ?_
          refine lv_iload hx hb dX2_recountPairs_47 (lv_at hl 1 rfl) ?_
          refine lv_iand hx hb dX2_recountPairs_49 ?_
          refine lv_if_eq (tgt := 57) hx hb dX2_recountPairs_50 (by decide) (fun c_5 => ?_) (fun c_5 => ?_)
          · refine lv_iconst (v := (-1)) hx hb dX2_recountPairs_57 (by decide) ?_
            refine lv_iadd hx hb dX2_recountPairs_58 ?_
            refine hx_iast hx hb hK hP hD hS 9 7 rfl rfl (by omega) (by omega) dX2_recountPairs_59 (fun H locs hP hD hS => ?_)
            have hP : va_P (dC, dI) vwCl (vkW a cA n hd fm rp rq nd nw1 bf su sI sO (upd ct1 ((25 * v) + j) ((ct1 ((25 * v) + j)) + ((-1))))) H := hP
            have hD : va_D A (vkW a cA n hd fm rp rq nd nw1 bf su sI sO (upd ct1 ((25 * v) + j) ((ct1 ((25 * v) + j)) + ((-1))))) := hD
            refine lv_aload_n hx hb dX2_recountPairs_60 rfl (lv_at hl 2 rfl) ?_
            refine va_get (D := (dC, dI)) (ci := 2) (v := .ref (a 4)) (C := RX2) (T := TX2) (N := 7) hx hb hts in_X2 hown hK hP 0 rfl rfl 1 (by decide) lf_16 (fun _ h9 => h9) rfl dX2_recountPairs_61 ?_
            refine lv_iload_n hx hb dX2_recountPairs_64 rfl (lv_at hl 3 rfl) ?_
            refine lv_aload_n hx hb dX2_recountPairs_65 rfl (lv_at hl 2 rfl) ?_
            refine va_get (D := (dC, dI)) (ci := 2) (v := .ref (a 9)) (C := RX2) (T := TX2) (N := 7) hx hb hts in_X2 hown hK hP 0 rfl rfl 4 (by decide) lf_26 (fun _ h9 => h9) rfl dX2_recountPairs_66 ?_
            refine lv_iload hx hb dX2_recountPairs_69 (lv_at hl 0 rfl) ?_
            refine hx_iald hx hb hK hP 9 7 rfl rfl (by omega) (by omega) dX2_recountPairs_71 ?_
            refine hx_eq (y := (ct1 ((25 * v) + j)) + ((-1))) (by unfold upd; rw [if_pos rfl]) ?_
            refine lv_if_le (tgt := 87) hx hb dX2_recountPairs_72 (by decide) (fun c_6 => ?_) (fun c_6 => ?_)
            · refine lv_aload_n hx hb dX2_recountPairs_87 rfl (lv_at hl 2 rfl) ?_
              refine va_get (D := (dC, dI)) (ci := 2) (v := .ref (a 4)) (C := RX2) (T := TX2) (N := 7) hx hb hts in_X2 hown hK hP 0 rfl rfl 1 (by decide) lf_16 (fun _ h9 => h9) rfl dX2_recountPairs_88 ?_
              refine lv_iload_n hx hb dX2_recountPairs_91 rfl (lv_at hl 3 rfl) ?_
              refine hx_iald hx hb hK hP 4 2 rfl rfl (by omega) (by omega) dX2_recountPairs_92 ?_
              refine lv_iload hx hb dX2_recountPairs_93 (lv_at hl 1 rfl) ?_
              refine lv_iconst (v := (-1)) hx hb dX2_recountPairs_95 (by decide) ?_
              refine lv_ixor hx hb dX2_recountPairs_96 ?_
              refine lv_iand hx hb dX2_recountPairs_97 ?_
              refine hx_iast hx hb hK hP hD hS 4 2 rfl rfl (by omega) (by omega) dX2_recountPairs_98 (fun H locs hP hD hS => ?_)
              have hP : va_P (dC, dI) vwCl (vkW a cA n hd fm rp rq nd (upd nw1 v ((nw1 v) &&& ((bm j) ^^^ ((-1))))) bf su sI sO (upd ct1 ((25 * v) + j) ((ct1 ((25 * v) + j)) + ((-1))))) H := hP
              have hD : va_D A (vkW a cA n hd fm rp rq nd (upd nw1 v ((nw1 v) &&& ((bm j) ^^^ ((-1))))) bf su sI sO (upd ct1 ((25 * v) + j) ((ct1 ((25 * v) + j)) + ((-1))))) := hD
              refine lv_iinc (v := nI (j + 1)) (lv' := [(5, .int (nI (j + 1))), (7, .int (nI ((25 * v) + j))), (6, .int (bm j)), (0, .ref (a 0)), (1, .int (nI v)), (2, .int (o0)), (3, .int (m0)), (4, .int (o0 ^^^ m0))]) hx hb dX2_recountPairs_99 hl (k := 7) rfl (nI_add j 1) (by decide) rfl (fun ls hl => ?_)
              refine lv_goto (tgt := 8) hx hb dX2_recountPairs_102 (by decide) ?_
              have kx := kx
              rw [show (rpF v o0 m0 (nn + 1) j ct1 nw1).1 = (rpF v o0 m0 nn (j + 1) (upd ct1 ((25 * v) + j) ((ct1 ((25 * v) + j)) + ((-1)))) (upd nw1 v ((nw1 v) &&& ((bm j) ^^^ ((-1)))))).1 from by simp only [rpF, c_3, c_4, c_5, c_6, ↓reduceIte, decide_true, decide_false, Bool.not_true, Bool.not_false, Bool.or_true, Bool.true_or, Bool.or_false, Bool.false_or, Bool.and_true, Bool.true_and, Bool.and_false, Bool.false_and, and_true, true_and, and_false, false_and, and_self, or_self, or_true, true_or, or_false, false_or, Bool.false_eq_true, Bool.true_eq_false, not_true_eq_false, not_false_eq_true, Bool.or_self, decide_eq_true_eq]] at kx
              rw [show (rpF v o0 m0 (nn + 1) j ct1 nw1).2 = (rpF v o0 m0 nn (j + 1) (upd ct1 ((25 * v) + j) ((ct1 ((25 * v) + j)) + ((-1)))) (upd nw1 v ((nw1 v) &&& ((bm j) ^^^ ((-1)))))).2 from by simp only [rpF, c_3, c_4, c_5, c_6, ↓reduceIte, decide_true, decide_false, Bool.not_true, Bool.not_false, Bool.or_true, Bool.true_or, Bool.or_false, Bool.false_or, Bool.and_true, Bool.true_and, Bool.and_false, Bool.false_and, and_true, true_and, and_false, false_and, and_self, or_self, or_true, true_or, or_false, false_or, Bool.false_eq_true, Bool.true_eq_false, not_true_eq_false, not_false_eq_true, Bool.or_self, decide_eq_true_eq]] at kx
              exact ih (j + 1) (upd ct1 ((25 * v) + j) ((ct1 ((25 * v) + j)) + ((-1)))) (upd nw1 v ((nw1 v) &&& ((bm j) ^^^ ((-1))))) (by omega) _ _ hP hD hS ls (lv_sub hl [3, 4, 5, 6, 7, 0] rfl) kx
            · refine lv_aload_n hx hb dX2_recountPairs_75 rfl (lv_at hl 2 rfl) ?_
              refine va_get (D := (dC, dI)) (ci := 2) (v := .ref (a 4)) (C := RX2) (T := TX2) (N := 7) hx hb hts in_X2 hown hK hP 0 rfl rfl 1 (by decide) lf_16 (fun _ h9 => h9) rfl dX2_recountPairs_76 ?_
              refine lv_iload_n hx hb dX2_recountPairs_79 rfl (lv_at hl 3 rfl) ?_
              refine hx_iald hx hb hK hP 4 2 rfl rfl (by omega) (by omega) dX2_recountPairs_80 ?_
              refine lv_iload hx hb dX2_recountPairs_81 (lv_at hl 1 rfl) ?_
              refine lv_ior hx hb dX2_recountPairs_83 ?_
              refine lv_goto (tgt := 98) hx hb dX2_recountPairs_84 (by decide) ?_
              refine hx_iast hx hb hK hP hD hS 4 2 rfl rfl (by omega) (by omega) dX2_recountPairs_98 (fun H locs hP hD hS => ?_)
              have hP : va_P (dC, dI) vwCl (vkW a cA n hd fm rp rq nd (upd nw1 v ((nw1 v) ||| (bm j))) bf su sI sO (upd ct1 ((25 * v) + j) ((ct1 ((25 * v) + j)) + ((-1))))) H := hP
              have hD : va_D A (vkW a cA n hd fm rp rq nd (upd nw1 v ((nw1 v) ||| (bm j))) bf su sI sO (upd ct1 ((25 * v) + j) ((ct1 ((25 * v) + j)) + ((-1))))) := hD
              refine lv_iinc (v := nI (j + 1)) (lv' := [(5, .int (nI (j + 1))), (7, .int (nI ((25 * v) + j))), (6, .int (bm j)), (0, .ref (a 0)), (1, .int (nI v)), (2, .int (o0)), (3, .int (m0)), (4, .int (o0 ^^^ m0))]) hx hb dX2_recountPairs_99 hl (k := 7) rfl (nI_add j 1) (by decide) rfl (fun ls hl => ?_)
              refine lv_goto (tgt := 8) hx hb dX2_recountPairs_102 (by decide) ?_
              have kx := kx
              rw [show (rpF v o0 m0 (nn + 1) j ct1 nw1).1 = (rpF v o0 m0 nn (j + 1) (upd ct1 ((25 * v) + j) ((ct1 ((25 * v) + j)) + ((-1)))) (upd nw1 v ((nw1 v) ||| (bm j)))).1 from by simp only [rpF, c_3, c_4, c_5, c_6, ↓reduceIte, decide_true, decide_false, Bool.not_true, Bool.not_false, Bool.or_true, Bool.true_or, Bool.or_false, Bool.false_or, Bool.and_true, Bool.true_and, Bool.and_false, Bool.false_and, and_true, true_and, and_false, false_and, and_self, or_self, or_true, true_or, or_false, false_or, Bool.false_eq_true, Bool.true_eq_false, not_true_eq_false, not_false_eq_true, Bool.or_self, decide_eq_true_eq]] at kx
              rw [show (rpF v o0 m0 (nn + 1) j ct1 nw1).2 = (rpF v o0 m0 nn (j + 1) (upd ct1 ((25 * v) + j) ((ct1 ((25 * v) + j)) + ((-1)))) (upd nw1 v ((nw1 v) ||| (bm j)))).2 from by simp only [rpF, c_3, c_4, c_5, c_6, ↓reduceIte, decide_true, decide_false, Bool.not_true, Bool.not_false, Bool.or_true, Bool.true_or, Bool.or_false, Bool.false_or, Bool.and_true, Bool.true_and, Bool.and_false, Bool.false_and, and_true, true_and, and_false, false_and, and_self, or_self, or_true, true_or, or_false, false_or, Bool.false_eq_true, Bool.true_eq_false, not_true_eq_false, not_false_eq_true, Bool.or_self, decide_eq_true_eq]] at kx
              exact ih (j + 1) (upd ct1 ((25 * v) + j) ((ct1 ((25 * v) + j)) + ((-1)))) (upd nw1 v ((nw1 v) ||| (bm j))) (by omega) _ _ hP hD hS ls (lv_sub hl [3, 4, 5, 6, 7, 0] rfl) kx
          · refine lv_iconst (v := nI 1) hx hb dX2_recountPairs_53 (by decide) ?_
            refine lv_goto (tgt := 58) hx hb dX2_recountPairs_54 (by decide) ?_
            refine lv_iadd hx hb dX2_recountPairs_58 ?_
            refine hx_iast hx hb hK hP hD hS 9 7 rfl rfl (by omega) (by omega) dX2_recountPairs_59 (fun H locs hP hD hS => ?_)
            have hP : va_P (dC, dI) vwCl (vkW a cA n hd fm rp rq nd nw1 bf su sI sO (upd ct1 ((25 * v) + j) ((ct1 ((25 * v) + j)) + (nI 1)))) H := hP
            have hD : va_D A (vkW a cA n hd fm rp rq nd nw1 bf su sI sO (upd ct1 ((25 * v) + j) ((ct1 ((25 * v) + j)) + (nI 1)))) := hD
            refine lv_aload_n hx hb dX2_recountPairs_60 rfl (lv_at hl 2 rfl) ?_
            refine va_get (D := (dC, dI)) (ci := 2) (v := .ref (a 4)) (C := RX2) (T := TX2) (N := 7) hx hb hts in_X2 hown hK hP 0 rfl rfl 1 (by decide) lf_16 (fun _ h9 => h9) rfl dX2_recountPairs_61 ?_
            refine lv_iload_n hx hb dX2_recountPairs_64 rfl (lv_at hl 3 rfl) ?_
            refine lv_aload_n hx hb dX2_recountPairs_65 rfl (lv_at hl 2 rfl) ?_
            refine va_get (D := (dC, dI)) (ci := 2) (v := .ref (a 9)) (C := RX2) (T := TX2) (N := 7) hx hb hts in_X2 hown hK hP 0 rfl rfl 4 (by decide) lf_26 (fun _ h9 => h9) rfl dX2_recountPairs_66 ?_
            refine lv_iload hx hb dX2_recountPairs_69 (lv_at hl 0 rfl) ?_
            refine hx_iald hx hb hK hP 9 7 rfl rfl (by omega) (by omega) dX2_recountPairs_71 ?_
            refine hx_eq (y := (ct1 ((25 * v) + j)) + (nI 1)) (by unfold upd; rw [if_pos rfl]) ?_
            refine lv_if_le (tgt := 87) hx hb dX2_recountPairs_72 (by decide) (fun c_7 => ?_) (fun c_7 => ?_)
            · refine lv_aload_n hx hb dX2_recountPairs_87 rfl (lv_at hl 2 rfl) ?_
              refine va_get (D := (dC, dI)) (ci := 2) (v := .ref (a 4)) (C := RX2) (T := TX2) (N := 7) hx hb hts in_X2 hown hK hP 0 rfl rfl 1 (by decide) lf_16 (fun _ h9 => h9) rfl dX2_recountPairs_88 ?_
              refine lv_iload_n hx hb dX2_recountPairs_91 rfl (lv_at hl 3 rfl) ?_
              refine hx_iald hx hb hK hP 4 2 rfl rfl (by omega) (by omega) dX2_recountPairs_92 ?_
              refine lv_iload hx hb dX2_recountPairs_93 (lv_at hl 1 rfl) ?_
              refine lv_iconst (v := (-1)) hx hb dX2_recountPairs_95 (by decide) ?_
              refine lv_ixor hx hb dX2_recountPairs_96 ?_
              refine lv_iand hx hb dX2_recountPairs_97 ?_
              refine hx_iast hx hb hK hP hD hS 4 2 rfl rfl (by omega) (by omega) dX2_recountPairs_98 (fun H locs hP hD hS => ?_)
              have hP : va_P (dC, dI) vwCl (vkW a cA n hd fm rp rq nd (upd nw1 v ((nw1 v) &&& ((bm j) ^^^ ((-1))))) bf su sI sO (upd ct1 ((25 * v) + j) ((ct1 ((25 * v) + j)) + (nI 1)))) H := hP
              have hD : va_D A (vkW a cA n hd fm rp rq nd (upd nw1 v ((nw1 v) &&& ((bm j) ^^^ ((-1))))) bf su sI sO (upd ct1 ((25 * v) + j) ((ct1 ((25 * v) + j)) + (nI 1)))) := hD
              refine lv_iinc (v := nI (j + 1)) (lv' := [(5, .int (nI (j + 1))), (7, .int (nI ((25 * v) + j))), (6, .int (bm j)), (0, .ref (a 0)), (1, .int (nI v)), (2, .int (o0)), (3, .int (m0)), (4, .int (o0 ^^^ m0))]) hx hb dX2_recountPairs_99 hl (k := 7) rfl (nI_add j 1) (by decide) rfl (fun ls hl => ?_)
              refine lv_goto (tgt := 8) hx hb dX2_recountPairs_102 (by decide) ?_
              have kx := kx
              rw [show (rpF v o0 m0 (nn + 1) j ct1 nw1).1 = (rpF v o0 m0 nn (j + 1) (upd ct1 ((25 * v) + j) ((ct1 ((25 * v) + j)) + (nI 1))) (upd nw1 v ((nw1 v) &&& ((bm j) ^^^ ((-1)))))).1 from by simp only [rpF, c_3, c_4, c_5, c_7, ↓reduceIte, decide_true, decide_false, Bool.not_true, Bool.not_false, Bool.or_true, Bool.true_or, Bool.or_false, Bool.false_or, Bool.and_true, Bool.true_and, Bool.and_false, Bool.false_and, and_true, true_and, and_false, false_and, and_self, or_self, or_true, true_or, or_false, false_or, Bool.false_eq_true, Bool.true_eq_false, not_true_eq_false, not_false_eq_true, Bool.or_self, decide_eq_true_eq]] at kx
              rw [show (rpF v o0 m0 (nn + 1) j ct1 nw1).2 = (rpF v o0 m0 nn (j + 1) (upd ct1 ((25 * v) + j) ((ct1 ((25 * v) + j)) + (nI 1))) (upd nw1 v ((nw1 v) &&& ((bm j) ^^^ ((-1)))))).2 from by simp only [rpF, c_3, c_4, c_5, c_7, ↓reduceIte, decide_true, decide_false, Bool.not_true, Bool.not_false, Bool.or_true, Bool.true_or, Bool.or_false, Bool.false_or, Bool.and_true, Bool.true_and, Bool.and_false, Bool.false_and, and_true, true_and, and_false, false_and, and_self, or_self, or_true, true_or, or_false, false_or, Bool.false_eq_true, Bool.true_eq_false, not_true_eq_false, not_false_eq_true, Bool.or_self, decide_eq_true_eq]] at kx
              exact ih (j + 1) (upd ct1 ((25 * v) + j) ((ct1 ((25 * v) + j)) + (nI 1))) (upd nw1 v ((nw1 v) &&& ((bm j) ^^^ ((-1))))) (by omega) _ _ hP hD hS ls (lv_sub hl [3, 4, 5, 6, 7, 0] rfl) kx
            · refine lv_aload_n hx hb dX2_recountPairs_75 rfl (lv_at hl 2 rfl) ?_
              refine va_get (D := (dC, dI)) (ci := 2) (v := .ref (a 4)) (C := RX2) (T := TX2) (N := 7) hx hb hts in_X2 hown hK hP 0 rfl rfl 1 (by decide) lf_16 (fun _ h9 => h9) rfl dX2_recountPairs_76 ?_
              refine lv_iload_n hx hb dX2_recountPairs_79 rfl (lv_at hl 3 rfl) ?_
              refine hx_iald hx hb hK hP 4 2 rfl rfl (by omega) (by omega) dX2_recountPairs_80 ?_
              refine lv_iload hx hb dX2_recountPairs_81 (lv_at hl 1 rfl) ?_
              refine lv_ior hx hb dX2_recountPairs_83 ?_
              refine lv_goto (tgt := 98) hx hb dX2_recountPairs_84 (by decide) ?_
              refine hx_iast hx hb hK hP hD hS 4 2 rfl rfl (by omega) (by omega) dX2_recountPairs_98 (fun H locs hP hD hS => ?_)
              have hP : va_P (dC, dI) vwCl (vkW a cA n hd fm rp rq nd (upd nw1 v ((nw1 v) ||| (bm j))) bf su sI sO (upd ct1 ((25 * v) + j) ((ct1 ((25 * v) + j)) + (nI 1)))) H := hP
              have hD : va_D A (vkW a cA n hd fm rp rq nd (upd nw1 v ((nw1 v) ||| (bm j))) bf su sI sO (upd ct1 ((25 * v) + j) ((ct1 ((25 * v) + j)) + (nI 1)))) := hD
              refine lv_iinc (v := nI (j + 1)) (lv' := [(5, .int (nI (j + 1))), (7, .int (nI ((25 * v) + j))), (6, .int (bm j)), (0, .ref (a 0)), (1, .int (nI v)), (2, .int (o0)), (3, .int (m0)), (4, .int (o0 ^^^ m0))]) hx hb dX2_recountPairs_99 hl (k := 7) rfl (nI_add j 1) (by decide) rfl (fun ls hl => ?_)
              refine lv_goto (tgt := 8) hx hb dX2_recountPairs_102 (by decide) ?_
              have kx := kx
              rw [show (rpF v o0 m0 (nn + 1) j ct1 nw1).1 = (rpF v o0 m0 nn (j + 1) (upd ct1 ((25 * v) + j) ((ct1 ((25 * v) + j)) + (nI 1))) (upd nw1 v ((nw1 v) ||| (bm j)))).1 from by simp only [rpF, c_3, c_4, c_5, c_7, ↓reduceIte, decide_true, decide_false, Bool.not_true, Bool.not_false, Bool.or_true, Bool.true_or, Bool.or_false, Bool.false_or, Bool.and_true, Bool.true_and, Bool.and_false, Bool.false_and, and_true, true_and, and_false, false_and, and_self, or_self, or_true, true_or, or_false, false_or, Bool.false_eq_true, Bool.true_eq_false, not_true_eq_false, not_false_eq_true, Bool.or_self, decide_eq_true_eq]] at kx
              rw [show (rpF v o0 m0 (nn + 1) j ct1 nw1).2 = (rpF v o0 m0 nn (j + 1) (upd ct1 ((25 * v) + j) ((ct1 ((25 * v) + j)) + (nI 1))) (upd nw1 v ((nw1 v) ||| (bm j)))).2 from by simp only [rpF, c_3, c_4, c_5, c_7, ↓reduceIte, decide_true, decide_false, Bool.not_true, Bool.not_false, Bool.or_true, Bool.true_or, Bool.or_false, Bool.false_or, Bool.and_true, Bool.true_and, Bool.and_false, Bool.false_and, and_true, true_and, and_false, false_and, and_self, or_self, or_true, true_or, or_false, false_or, Bool.false_eq_true, Bool.true_eq_false, not_true_eq_false, not_false_eq_true, Bool.or_self, decide_eq_true_eq]] at kx
              exact ih (j + 1) (upd ct1 ((25 * v) + j) ((ct1 ((25 * v) + j)) + (nI 1))) (upd nw1 v ((nw1 v) ||| (bm j))) (by omega) _ _ hP hD hS ls (lv_sub hl [3, 4, 5, 6, 7, 0] rfl) kx
  refine L_8_0 25 0 ct nw (by omega) _ _ hP hD hS ls (lv_sub hl [2, 3, 4, 5, 1, 0] rfl) (fun H locs hP hD hS ls hl => ?_)
  have hP : va_P (dC, dI) vwCl (vkW a cA n hd fm rp rq nd ((rpF v o0 m0 25 0 ct nw).2) bf su sI sO ((rpF v o0 m0 25 0 ct nw).1)) H := hP
  have hD : va_D A (vkW a cA n hd fm rp rq nd ((rpF v o0 m0 25 0 ct nw).2) bf su sI sO ((rpF v o0 m0 25 0 ct nw).1)) := hD
  have hl : lv_has ls 8 [(0, .ref (a 0)), (1, .int (nI v)), (2, .int (o0)), (3, .int (m0)), (4, .int (o0 ^^^ m0)), (5, .int (nI 25))] := hl
  have e9 : vkW a cA n hd fm rp rq nd ((rpF v o0 m0 25 0 ct nw).2) bf su sI sO ((rpF v o0 m0 25 0 ct nw).1) = vkW a cA n hd fm rp rq nd ((rpF v o0 m0 25 0 ct nw).2) bf su sI sO ((rpF v o0 m0 25 0 ct nw).1) := rfl
  rw [e9] at hP hD
  subst hAe
  exact W.vret hx hb hr (fun t ht hW => ⟨⟨(), rfl, trivial, by rw [ht]; exact hP, va_K.moved hW.alike hK, hD⟩, hS.F ht⟩) hS.2.2 dX2_recountPairs_105
set_option maxHeartbeats 4000000 in
set_option maxRecDepth 100000 in
theorem c_X2_recount (l : Launch) (dC : Nat → ClassId) (dI : Nat → Nat → Nat) (a : Nat → Nat) (cA : Nat → ClassId) (n : Nat) (hd fm rp rq : Nat → Nat) (nd nw bf su sI sO ct : Nat → Int32) (L : Nat) (hy_0 : ruOk n hd fm rp rq) (hy_1 : L < 8) : WrV l yX2_recount wsX2_recount ({ frames := 4, cells := 0, slots := 0, locals := 89 }) (dC, dI) vwCl (vkW a cA n hd fm rp rq nd nw bf su sI sO ct) (vkW a cA n hd fm rp rq nd ((rcF hd fm rp rq nd bf L n 0 ct nw).2) bf su sI sO ((rcF hd fm rp rq nd bf L n 0 ct nw).1)) (vkT cA) nstW [.ref (a 0), .int (nI L)] := by
  intro sz
  refine Met.ofW (cc := cX2_recount) (maxL := 5) (ret := none) (by decide) rfl ?_
  intro p e s m args below meth c s₁ B hml hv
  obtain ⟨rfl, hsz, ⟨hP, hK, hN⟩, hD0⟩ := hv
  subst hsz
  have hx := B.exec
  have hb := B.bytes
  have hr := B.returns
  have hts := atoms_spec (ws := wsX2_recount) B.pre
  have hown : s.vm.findClass RX2 = some m.cls := findClass_of_methodNamed B.named
  have hlocks := B.notSynchronized
  obtain ⟨A, hAe⟩ : ∃ A, A = va_A (vkW a cA n hd fm rp rq nd nw bf su sI sO ct) s.heap.size := ⟨_, rfl⟩
  have hD : va_D A (vkW a cA n hd fm rp rq nd nw bf su sI sO ct) := by rw [hAe]; exact hD0.self (sz := s.heap.size)
  have hA : ∀ q : Nat, s.heap.size ≤ q → A q := fun q h => by rw [hAe]; exact Or.inr h
  have hS : va_S A s.heap s.heap [] := va_S.rf
  have hP : va_P (dC, dI) vwCl (vkW a cA n hd fm rp rq nd nw bf su sI sO ct) s.heap := hP
  obtain ⟨hn12, hru⟩ := id hy_0
  have lf_10 := hts (.fieldLink RX2 10 "ViewKeeper" "book" "LViewKeeper$RuleBook;") (by decide +kernel)
  have in_X2 : ∀ w ∈ u_ws RX2 TX2 7, w ∈ wsX2_recount := by decide +kernel
  have lf_42 : (Cond.fieldLinkNest RX2 42 "ViewKeeper$RuleBook" "made" "I" "ViewKeeper").before ([.ref (a 0), .int (nI L)] : List Value).toArray s = true := va_Nw.use rfl (hN _ (by decide +kernel))
  have in_X1 : ∀ w ∈ u_ws RX1 TX1 3, w ∈ wsX2_recount := by decide +kernel
  have lf_129 : (Cond.fieldLinkNest RX2 129 "ViewKeeper$RuleBook" "rows" "[LViewKeeper$Rule;" "ViewKeeper").before ([.ref (a 0), .int (nI L)] : List Value).toArray s = true := va_Nw.use rfl (hN _ (by decide +kernel))
  have lf_133 : (Cond.fieldLinkNest RX2 133 "ViewKeeper$Rule" "head" "I" "ViewKeeper").before ([.ref (a 0), .int (nI L)] : List Value).toArray s = true := va_Nw.use rfl (hN _ (by decide +kernel))
  have in_X0 : ∀ w ∈ u_ws RX0 TX0 4, w ∈ wsX2_recount := by decide +kernel
  have lf_20 := hts (.fieldLink RX2 20 "ViewKeeper" "before" "[I") (by decide +kernel)
  have lf_16 := hts (.fieldLink RX2 16 "ViewKeeper" "now" "[I") (by decide +kernel)
  have hl := lv_entry ([.ref (a 0), .int (nI L)]) (n := 5) (Nat.le_of_ble_eq_true rfl)
  rw [lg_entry_eq]
  generalize (lg_sl ([.ref (a 0), .int (nI L)]) ++ List.replicate (5 - (lg_sl ([.ref (a 0), .int (nI L)])).length) Slot.unset).toArray = ls at hl ⊢
  have hl : lv_has ls 5 [(0, .ref (a 0)), (1, .int (nI L))] := hl
  refine lv_iconst (v := nI 0) hx hb dX2_recount_0 (by decide) ?_
  refine lv_istore_n (lv' := [(2, .int (nI 0)), (0, .ref (a 0)), (1, .int (nI L))]) hx hb dX2_recount_1 rfl hl (by decide) rfl (fun ls hl => ?_)
  have L_2_0 : ∀ (nn : Nat) (i : Nat) (ct1 : Nat → Int32) (nw1 : Nat → Int32), i + nn = n → ∀ (H : Heap) (locs : List Loc), va_P (dC, dI) vwCl (vkW a cA n hd fm rp rq nd nw1 bf su sI sO ct1) H → va_D A (vkW a cA n hd fm rp rq nd nw1 bf su sI sO ct1) → va_S A s.heap H locs → ∀ ls : Array Slot, lv_has ls 5 [(0, .ref (a 0)), (1, .int (nI L)), (2, .int (nI i))] → (∀ (H : Heap) (locs : List Loc), va_P (dC, dI) vwCl (vkW a cA n hd fm rp rq nd ((rcF hd fm rp rq nd bf L nn i ct1 nw1).2) bf su sI sO ((rcF hd fm rp rq nd bf L nn i ct1 nw1).1)) H → va_D A (vkW a cA n hd fm rp rq nd ((rcF hd fm rp rq nd bf L nn i ct1 nw1).2) bf su sI sO ((rcF hd fm rp rq nd bf L nn i ct1 nw1).1)) → va_S A s.heap H locs → ∀ ls : Array Slot, lv_has ls 5 [(0, .ref (a 0)), (1, .int (nI L)), (2, .int (nI n))] → W p l e (headSpec wsX2_recount ({ frames := 4, cells := 0, slots := 0, locals := 89 })).room s m ([.ref (a 0), .int (nI L)] : List Value).toArray below meth c H locs 0 0 (MQ below (va_Qv (fun _ : Unit => True) (wrB (dC, dI) vwCl (vkW a cA n hd fm rp rq nd nw bf su sI sO ct) (vkW a cA n hd fm rp rq nd ((rcF hd fm rp rq nd bf L n 0 ct nw).2) bf su sI sO ((rcF hd fm rp rq nd bf L n 0 ct nw).1)) (vkT cA) s.heap.size) (va_A (vkW a cA n hd fm rp rq nd nw bf su sI sO ct) s.heap.size)) ([.ref (a 0), .int (nI L)] : List Value).toArray s 0 0 (va_A (vkW a cA n hd fm rp rq nd nw bf su sI sO ct) s.heap.size)) (F0 m 104 ls [])) → W p l e (headSpec wsX2_recount ({ frames := 4, cells := 0, slots := 0, locals := 89 })).room s m ([.ref (a 0), .int (nI L)] : List Value).toArray below meth c H locs 0 0 (MQ below (va_Qv (fun _ : Unit => True) (wrB (dC, dI) vwCl (vkW a cA n hd fm rp rq nd nw bf su sI sO ct) (vkW a cA n hd fm rp rq nd ((rcF hd fm rp rq nd bf L n 0 ct nw).2) bf su sI sO ((rcF hd fm rp rq nd bf L n 0 ct nw).1)) (vkT cA) s.heap.size) (va_A (vkW a cA n hd fm rp rq nd nw bf su sI sO ct) s.heap.size)) ([.ref (a 0), .int (nI L)] : List Value).toArray s 0 0 (va_A (vkW a cA n hd fm rp rq nd nw bf su sI sO ct) s.heap.size)) (F0 m 2 ls []) := by
    intro nn
    induction nn with
    | zero =>
      intro i ct1 nw1 hni H locs hP hD hS ls hl kx
      obtain rfl : n = i := by omega
      refine lv_iload_n hx hb dX2_recount_2 rfl (lv_at hl 2 rfl) ?_
      refine lv_aload_n hx hb dX2_recount_3 rfl (lv_at hl 0 rfl) ?_
      refine va_get (D := (dC, dI)) (ci := 2) (v := .ref (a 1)) (C := RX2) (T := TX2) (N := 7) hx hb hts in_X2 hown hK hP 0 rfl rfl 0 (by decide) lf_10 (fun _ h9 => h9) rfl dX2_recount_4 ?_
      refine va_getN (D := (dC, dI)) (ci := 1) (v := .int (nI n)) (C := RX1) (T := TX1) (N := 3) hx hb hts in_X1 hown hK hP 1 rfl rfl 2 (by decide) lf_42 (fun _ h9 => h9) rfl dX2_recount_7 ?_
      refine hx_geN (tgt := 104) hx hb dX2_recount_10 (by decide) (by omega) (by omega) (fun c_2 => ?_) (fun c_2 => ?_)
      · exact kx _ _ hP hD hS ls (lv_sub hl [0, 1, 2] rfl)
      · exact absurd c_2 (by omega)
    | succ nn ih =>
      intro i ct1 nw1 hni H locs hP hD hS ls hl kx
      refine lv_iload_n hx hb dX2_recount_2 rfl (lv_at hl 2 rfl) ?_
      refine lv_aload_n hx hb dX2_recount_3 rfl (lv_at hl 0 rfl) ?_
      refine va_get (D := (dC, dI)) (ci := 2) (v := .ref (a 1)) (C := RX2) (T := TX2) (N := 7) hx hb hts in_X2 hown hK hP 0 rfl rfl 0 (by decide) lf_10 (fun _ h9 => h9) rfl dX2_recount_4 ?_
      refine va_getN (D := (dC, dI)) (ci := 1) (v := .int (nI n)) (C := RX1) (T := TX1) (N := 3) hx hb hts in_X1 hown hK hP 1 rfl rfl 2 (by decide) lf_42 (fun _ h9 => h9) rfl dX2_recount_7 ?_
      refine hx_geN (tgt := 104) hx hb dX2_recount_10 (by decide) (by omega) (by omega) (fun c_3 => ?_) (fun c_3 => ?_)
      · exact absurd c_3 (by omega)
      · have hr9 := hru i (by omega)
        refine lv_aload_n hx hb dX2_recount_13 rfl (lv_at hl 0 rfl) ?_
        refine va_get (D := (dC, dI)) (ci := 2) (v := .ref (a 1)) (C := RX2) (T := TX2) (N := 7) hx hb hts in_X2 hown hK hP 0 rfl rfl 0 (by decide) lf_10 (fun _ h9 => h9) rfl dX2_recount_14 ?_
        refine va_getN (D := (dC, dI)) (ci := 1) (v := .ref (a 2)) (C := RX1) (T := TX1) (N := 3) hx hb hts in_X1 hown hK hP 1 rfl rfl 0 (by decide) lf_129 (fun _ h9 => h9) rfl dX2_recount_17 ?_
        refine lv_iload_n hx hb dX2_recount_20 rfl (lv_at hl 2 rfl) ?_
        refine hx_aald hx hb hK hP 2 0 rfl rfl (by omega) (by omega) dX2_recount_21 ?_
        refine lv_astore_n (lv' := [(3, .ref (a (10 + i))), (0, .ref (a 0)), (1, .int (nI L)), (2, .int (nI i))]) hx hb dX2_recount_22 rfl hl (by decide) rfl (fun ls hl => ?_)
        refine lv_aload_n hx hb dX2_recount_23 rfl (lv_at hl 1 rfl) ?_
        refine va_get (D := (dC, dI)) (ci := 2) (v := .ref (a 1)) (C := RX2) (T := TX2) (N := 7) hx hb hts in_X2 hown hK hP 0 rfl rfl 0 (by decide) lf_10 (fun _ h9 => h9) rfl dX2_recount_24 ?_
        refine lv_aload_n hx hb dX2_recount_27 rfl (lv_at hl 0 rfl) ?_
        refine va_getN (D := (dC, dI)) (ci := 0) (v := .int (nI (hd i))) (C := RX0) (T := TX0) (N := 4) hx hb hts in_X0 hown hK hP (10 + i) (vkW_rule (by omega)) rfl 0 (by decide) lf_133 (fun _ h9 => h9) rfl dX2_recount_28 ?_
        refine hx_read (va_runVN (C := RX1) (As := [.int (nI (hd i))]) (rest := []) ⟨hx, hb, hml, hown, hts⟩ (c_X1_layerOf l dC dI a cA n hd fm rp rq nd nw1 bf su sI sO ct1 (hd i) (by omega)) ⟨va_cnB 1 hts gX2_recount_X1_layerOf_n138 rfl rfl rfl (hN (.methodLinkNest RX2 138 yX1_layerOf "ViewKeeper") (by decide +kernel)) (hts (.initialized RX1) (by decide +kernel)) (by decide +kernel) ⟨Nat.le_of_ble_eq_true rfl, Nat.le_of_ble_eq_true rfl⟩, hts (.instanceMethod yX1_layerOf) (by decide +kernel), hts (.selects RX1 yX1_layerOf yX1_layerOf) (by decide +kernel)⟩ (rd_V nstW_ok hP hK hN 1 rfl rfl _) rfl rfl hl.1 rfl (lv_room (Nat.le_of_ble_eq_true rfl)) dX2_recount_31 ⟨Nat.zero_le _, Nat.zero_le _⟩) ?_
        have hc_4 := cntB_le (nd (hd i) ||| bm (hd i)) 32
        refine lv_iload_n hx hb dX2_recount_34 rfl (lv_at hl 2 rfl) ?_
        refine hx_neN (tgt := 98) hx hb dX2_recount_35 (by decide) (by omega) (by omega) (fun c_5 => ?_) (fun c_5 => ?_)
        · refine lv_iinc (v := nI (i + 1)) (lv' := [(2, .int (nI (i + 1))), (3, .ref (a (10 + i))), (0, .ref (a 0)), (1, .int (nI L))]) hx hb dX2_recount_98 hl (k := 3) rfl (nI_add i 1) (by decide) rfl (fun ls hl => ?_)
          refine lv_goto (tgt := 2) hx hb dX2_recount_101 (by decide) ?_
          have kx := kx
          rw [show (rcF hd fm rp rq nd bf L (nn + 1) i ct1 nw1).1 = (rcF hd fm rp rq nd bf L nn (i + 1) ct1 nw1).1 from by simp only [rcF, layM, c_3, c_5, ↓reduceIte, decide_true, decide_false, Bool.not_true, Bool.not_false, Bool.or_true, Bool.true_or, Bool.or_false, Bool.false_or, Bool.and_true, Bool.true_and, Bool.and_false, Bool.false_and, and_true, true_and, and_false, false_and, and_self, or_self, or_true, true_or, or_false, false_or, Bool.false_eq_true, Bool.true_eq_false, not_true_eq_false, not_false_eq_true, Bool.or_self, decide_eq_true_eq]] at kx
          rw [show (rcF hd fm rp rq nd bf L (nn + 1) i ct1 nw1).2 = (rcF hd fm rp rq nd bf L nn (i + 1) ct1 nw1).2 from by simp only [rcF, layM, c_3, c_5, ↓reduceIte, decide_true, decide_false, Bool.not_true, Bool.not_false, Bool.or_true, Bool.true_or, Bool.or_false, Bool.false_or, Bool.and_true, Bool.true_and, Bool.and_false, Bool.false_and, and_true, true_and, and_false, false_and, and_self, or_self, or_true, true_or, or_false, false_or, Bool.false_eq_true, Bool.true_eq_false, not_true_eq_false, not_false_eq_true, Bool.or_self, decide_eq_true_eq]] at kx
          exact ih (i + 1) ct1 nw1 (by omega) _ _ hP hD hS ls (lv_sub hl [2, 3, 0] rfl) kx
        · refine lv_aload_n hx hb dX2_recount_38 rfl (lv_at hl 1 rfl) ?_
          refine va_get (D := (dC, dI)) (ci := 2) (v := .ref (a 1)) (C := RX2) (T := TX2) (N := 7) hx hb hts in_X2 hown hK hP 0 rfl rfl 0 (by decide) lf_10 (fun _ h9 => h9) rfl dX2_recount_39 ?_
          refine lv_aload_n hx hb dX2_recount_42 rfl (lv_at hl 0 rfl) ?_
          refine va_getN (D := (dC, dI)) (ci := 0) (v := .int (nI (hd i))) (C := RX0) (T := TX0) (N := 4) hx hb hts in_X0 hown hK hP (10 + i) (vkW_rule (by omega)) rfl 0 (by decide) lf_133 (fun _ h9 => h9) rfl dX2_recount_43 ?_
          refine hx_read (va_runVN (C := RX1) (As := [.int (nI (hd i))]) (rest := []) ⟨hx, hb, hml, hown, hts⟩ (c_X1_leadsBack l dC dI a cA n hd fm rp rq nd nw1 bf su sI sO ct1 (hd i) (by omega)) ⟨va_cnB 1 hts gX2_recount_X1_leadsBack_n95 rfl rfl rfl (hN (.methodLinkNest RX2 95 yX1_leadsBack "ViewKeeper") (by decide +kernel)) (hts (.initialized RX1) (by decide +kernel)) (by decide +kernel) ⟨Nat.le_of_ble_eq_true rfl, Nat.le_of_ble_eq_true rfl⟩, hts (.instanceMethod yX1_leadsBack) (by decide +kernel), hts (.selects RX1 yX1_leadsBack yX1_leadsBack) (by decide +kernel)⟩ (rd_V nstW_ok hP hK hN 1 rfl rfl _) rfl rfl hl.1 rfl (lv_room (Nat.le_of_ble_eq_true rfl)) dX2_recount_46 ⟨Nat.zero_le _, Nat.zero_le _⟩) ?_
          refine hx_ifnB (tgt := 98) hx hb dX2_recount_49 (by decide) (fun c_6 => ?_) (fun c_6 => ?_)
          · refine lv_iinc (v := nI (i + 1)) (lv' := [(2, .int (nI (i + 1))), (3, .ref (a (10 + i))), (0, .ref (a 0)), (1, .int (nI L))]) hx hb dX2_recount_98 hl (k := 3) rfl (nI_add i 1) (by decide) rfl (fun ls hl => ?_)
            refine lv_goto (tgt := 2) hx hb dX2_recount_101 (by decide) ?_
            have kx := kx
            rw [show (rcF hd fm rp rq nd bf L (nn + 1) i ct1 nw1).1 = (rcF hd fm rp rq nd bf L nn (i + 1) ct1 nw1).1 from by simp only [rcF, layM, c_3, c_5, c_6, ↓reduceIte, decide_true, decide_false, Bool.not_true, Bool.not_false, Bool.or_true, Bool.true_or, Bool.or_false, Bool.false_or, Bool.and_true, Bool.true_and, Bool.and_false, Bool.false_and, and_true, true_and, and_false, false_and, and_self, or_self, or_true, true_or, or_false, false_or, Bool.false_eq_true, Bool.true_eq_false, not_true_eq_false, not_false_eq_true, Bool.or_self, decide_eq_true_eq]] at kx
            rw [show (rcF hd fm rp rq nd bf L (nn + 1) i ct1 nw1).2 = (rcF hd fm rp rq nd bf L nn (i + 1) ct1 nw1).2 from by simp only [rcF, layM, c_3, c_5, c_6, ↓reduceIte, decide_true, decide_false, Bool.not_true, Bool.not_false, Bool.or_true, Bool.true_or, Bool.or_false, Bool.false_or, Bool.and_true, Bool.true_and, Bool.and_false, Bool.false_and, and_true, true_and, and_false, false_and, and_self, or_self, or_true, true_or, or_false, false_or, Bool.false_eq_true, Bool.true_eq_false, not_true_eq_false, not_false_eq_true, Bool.or_self, decide_eq_true_eq]] at kx
            exact ih (i + 1) ct1 nw1 (by omega) _ _ hP hD hS ls (lv_sub hl [2, 3, 0] rfl) kx
          · refine lv_iconst (v := nI 0) hx hb dX2_recount_52 (by decide) ?_
            refine lv_istore (lv' := [(4, .int (nI 0)), (3, .ref (a (10 + i))), (0, .ref (a 0)), (1, .int (nI L)), (2, .int (nI i))]) hx hb dX2_recount_53 hl (by decide) rfl (fun ls hl => ?_)
            have L_55_6 : ∀ (nn : Nat) (w : Nat) (ct2 : Nat → Int32) (nw2 : Nat → Int32), w + nn = wayM (fm i) → ∀ (H : Heap) (locs : List Loc), va_P (dC, dI) vwCl (vkW a cA n hd fm rp rq nd nw2 bf su sI sO ct2) H → va_D A (vkW a cA n hd fm rp rq nd nw2 bf su sI sO ct2) → va_S A s.heap H locs → ∀ ls : Array Slot, lv_has ls 5 [(0, .ref (a 0)), (1, .int (nI L)), (2, .int (nI i)), (3, .ref (a (10 + i))), (4, .int (nI w))] → (∀ (H : Heap) (locs : List Loc), va_P (dC, dI) vwCl (vkW a cA n hd fm rp rq nd ((rwF (hd i) (fm i) (rp i) (rq i) bf nn w ct2 nw2).2) bf su sI sO ((rwF (hd i) (fm i) (rp i) (rq i) bf nn w ct2 nw2).1)) H → va_D A (vkW a cA n hd fm rp rq nd ((rwF (hd i) (fm i) (rp i) (rq i) bf nn w ct2 nw2).2) bf su sI sO ((rwF (hd i) (fm i) (rp i) (rq i) bf nn w ct2 nw2).1)) → va_S A s.heap H locs → ∀ ls : Array Slot, lv_has ls 5 [(0, .ref (a 0)), (1, .int (nI L)), (2, .int (nI i)), (3, .ref (a (10 + i))), (4, .int (nI (wayM (fm i))))] → W p l e (headSpec wsX2_recount ({ frames := 4, cells := 0, slots := 0, locals := 89 })).room s m ([.ref (a 0), .int (nI L)] : List Value).toArray below meth c H locs 0 0 (MQ below (va_Qv (fun _ : Unit => True) (wrB (dC, dI) vwCl (vkW a cA n hd fm rp rq nd nw bf su sI sO ct) (vkW a cA n hd fm rp rq nd ((rcF hd fm rp rq nd bf L n 0 ct nw).2) bf su sI sO ((rcF hd fm rp rq nd bf L n 0 ct nw).1)) (vkT cA) s.heap.size) (va_A (vkW a cA n hd fm rp rq nd nw bf su sI sO ct) s.heap.size)) ([.ref (a 0), .int (nI L)] : List Value).toArray s 0 0 (va_A (vkW a cA n hd fm rp rq nd nw bf su sI sO ct) s.heap.size)) (F0 m 98 ls [])) → W p l e (headSpec wsX2_recount ({ frames := 4, cells := 0, slots := 0, locals := 89 })).room s m ([.ref (a 0), .int (nI L)] : List Value).toArray below meth c H locs 0 0 (MQ below (va_Qv (fun _ : Unit => True) (wrB (dC, dI) vwCl (vkW a cA n hd fm rp rq nd nw bf su sI sO ct) (vkW a cA n hd fm rp rq nd ((rcF hd fm rp rq nd bf L n 0 ct nw).2) bf su sI sO ((rcF hd fm rp rq nd bf L n 0 ct nw).1)) (vkT cA) s.heap.size) (va_A (vkW a cA n hd fm rp rq nd nw bf su sI sO ct) s.heap.size)) ([.ref (a 0), .int (nI L)] : List Value).toArray s 0 0 (va_A (vkW a cA n hd fm rp rq nd nw bf su sI sO ct) s.heap.size)) (F0 m 55 ls []) := by
              intro nn
              induction nn with
              | zero =>
                intro w ct2 nw2 hnw H locs hP hD hS ls hl kx
                have hw9 : w = wayM (fm i) := by omega
                rw [← hw9] at kx
                refine lv_iload hx hb dX2_recount_55 (lv_at hl 4 rfl) ?_
                refine lv_aload_n hx hb dX2_recount_57 rfl (lv_at hl 3 rfl) ?_
                refine hx_read (va_runVN (C := RX0) (As := []) (rest := [.int (nI w)]) ⟨hx, hb, hml, hown, hts⟩ (c_X0_ways l dC dI a cA n hd fm rp rq nd nw2 bf su sI sO ct2 i (by omega) (by omega) (by omega) (by omega)) ⟨va_cnB 0 hts gX2_recount_X0_ways_n141 rfl rfl rfl (hN (.methodLinkNest RX2 141 yX0_ways "ViewKeeper") (by decide +kernel)) (hts (.initialized RX0) (by decide +kernel)) (by decide +kernel) ⟨Nat.le_of_ble_eq_true rfl, Nat.le_of_ble_eq_true rfl⟩, hts (.instanceMethod yX0_ways) (by decide +kernel), hts (.selects RX0 yX0_ways yX0_ways) (by decide +kernel)⟩ (rd_V nstW_ok hP hK hN (10 + i) (vkW_rule (by omega)) rfl _) rfl rfl hl.1 rfl (lv_room (Nat.le_of_ble_eq_true rfl)) dX2_recount_58 ⟨Nat.zero_le _, Nat.zero_le _⟩) ?_
                have hc_8 := wayM_le (fm i)
                refine hx_geN (tgt := 98) hx hb dX2_recount_61 (by decide) (by omega) (by omega) (fun c_9 => ?_) (fun c_9 => ?_)
                · exact kx _ _ hP hD hS ls (lv_sub hl [0, 1, 2, 3, 4] rfl)
                · exact absurd c_9 (by omega)
              | succ nn ih =>
                intro w ct2 nw2 hnw H locs hP hD hS ls hl kx
                refine lv_iload hx hb dX2_recount_55 (lv_at hl 4 rfl) ?_
                refine lv_aload_n hx hb dX2_recount_57 rfl (lv_at hl 3 rfl) ?_
                refine hx_read (va_runVN (C := RX0) (As := []) (rest := [.int (nI w)]) ⟨hx, hb, hml, hown, hts⟩ (c_X0_ways l dC dI a cA n hd fm rp rq nd nw2 bf su sI sO ct2 i (by omega) (by omega) (by omega) (by omega)) ⟨va_cnB 0 hts gX2_recount_X0_ways_n141 rfl rfl rfl (hN (.methodLinkNest RX2 141 yX0_ways "ViewKeeper") (by decide +kernel)) (hts (.initialized RX0) (by decide +kernel)) (by decide +kernel) ⟨Nat.le_of_ble_eq_true rfl, Nat.le_of_ble_eq_true rfl⟩, hts (.instanceMethod yX0_ways) (by decide +kernel), hts (.selects RX0 yX0_ways yX0_ways) (by decide +kernel)⟩ (rd_V nstW_ok hP hK hN (10 + i) (vkW_rule (by omega)) rfl _) rfl rfl hl.1 rfl (lv_room (Nat.le_of_ble_eq_true rfl)) dX2_recount_58 ⟨Nat.zero_le _, Nat.zero_le _⟩) ?_
                have hc_10 := wayM_le (fm i)
                refine hx_geN (tgt := 98) hx hb dX2_recount_61 (by decide) (by omega) (by omega) (fun c_11 => ?_) (fun c_11 => ?_)
                · exact absurd c_11 (by omega)
                · refine lv_aload_n hx hb dX2_recount_64 rfl (lv_at hl 0 rfl) ?_
                  refine lv_aload_n hx hb dX2_recount_65 rfl (lv_at hl 3 rfl) ?_
                  refine va_getN (D := (dC, dI)) (ci := 0) (v := .int (nI (hd i))) (C := RX0) (T := TX0) (N := 4) hx hb hts in_X0 hown hK hP (10 + i) (vkW_rule (by omega)) rfl 0 (by decide) lf_133 (fun _ h9 => h9) rfl dX2_recount_66 ?_
                  refine lv_aload_n hx hb dX2_recount_69 rfl (lv_at hl 3 rfl) ?_
                  refine lv_iload hx hb dX2_recount_70 (lv_at hl 4 rfl) ?_
                  refine lv_aload_n hx hb dX2_recount_72 rfl (lv_at hl 0 rfl) ?_
                  refine va_get (D := (dC, dI)) (ci := 2) (v := .ref (a 5)) (C := RX2) (T := TX2) (N := 7) hx hb hts in_X2 hown hK hP 0 rfl rfl 2 (by decide) lf_20 (fun _ h9 => h9) rfl dX2_recount_73 ?_
                  refine hx_read (va_runVN (C := RX0) (As := [.int (nI w), .ref (a 5)]) (rest := [.int (nI (hd i)), .ref (a 0)]) ⟨hx, hb, hml, hown, hts⟩ (c_X0_givenBy_b l dC dI a cA n hd fm rp rq nd nw2 bf su sI sO ct2 i w (by omega) (by omega) (by omega) (by omega)) ⟨va_cnB 2 hts gX2_recount_X0_givenBy_n145 rfl rfl rfl (hN (.methodLinkNest RX2 145 yX0_givenBy "ViewKeeper") (by decide +kernel)) (hts (.initialized RX0) (by decide +kernel)) (by decide +kernel) ⟨Nat.le_of_ble_eq_true rfl, Nat.le_of_ble_eq_true rfl⟩, hts (.instanceMethod yX0_givenBy) (by decide +kernel), hts (.selects RX0 yX0_givenBy yX0_givenBy) (by decide +kernel)⟩ (rd_V nstW_ok hP hK hN (10 + i) (vkW_rule (by omega)) rfl _) rfl rfl hl.1 rfl (lv_room (Nat.le_of_ble_eq_true rfl)) dX2_recount_76 ⟨Nat.zero_le _, Nat.zero_le _⟩) ?_
                  refine lv_aload_n hx hb dX2_recount_79 rfl (lv_at hl 3 rfl) ?_
                  refine lv_iload hx hb dX2_recount_80 (lv_at hl 4 rfl) ?_
                  refine lv_aload_n hx hb dX2_recount_82 rfl (lv_at hl 0 rfl) ?_
                  refine va_get (D := (dC, dI)) (ci := 2) (v := .ref (a 4)) (C := RX2) (T := TX2) (N := 7) hx hb hts in_X2 hown hK hP 0 rfl rfl 1 (by decide) lf_16 (fun _ h9 => h9) rfl dX2_recount_83 ?_
                  refine hx_read (va_runVN (C := RX0) (As := [.int (nI w), .ref (a 4)]) (rest := [.int (gbyM (fm i) w (bf (rp i)) (bf (rq i))), .int (nI (hd i)), .ref (a 0)]) ⟨hx, hb, hml, hown, hts⟩ (c_X0_givenBy l dC dI a cA n hd fm rp rq nd nw2 bf su sI sO ct2 i w (by omega) (by omega) (by omega) (by omega)) ⟨va_cnB 2 hts gX2_recount_X0_givenBy_n145 rfl rfl rfl (hN (.methodLinkNest RX2 145 yX0_givenBy "ViewKeeper") (by decide +kernel)) (hts (.initialized RX0) (by decide +kernel)) (by decide +kernel) ⟨Nat.le_of_ble_eq_true rfl, Nat.le_of_ble_eq_true rfl⟩, hts (.instanceMethod yX0_givenBy) (by decide +kernel), hts (.selects RX0 yX0_givenBy yX0_givenBy) (by decide +kernel)⟩ (rd_V nstW_ok hP hK hN (10 + i) (vkW_rule (by omega)) rfl _) rfl rfl hl.1 rfl (lv_room (Nat.le_of_ble_eq_true rfl)) dX2_recount_86 ⟨Nat.zero_le _, Nat.zero_le _⟩) ?_
                  refine hx_wrv (va_runV (As := [.int (nI (hd i)), .int (gbyM (fm i) w (bf (rp i)) (bf (rq i))), .int (gbyM (fm i) w (nw2 (rp i)) (nw2 (rq i)))]) (rest := []) ⟨hx, hb, hml, hown, hts⟩ (c_X2_recountPairs l dC dI a cA n hd fm rp rq nd nw2 bf su sI sO ct2 (hd i) (gbyM (fm i) w (bf (rp i)) (bf (rq i))) (gbyM (fm i) w (nw2 (rp i)) (nw2 (rq i))) (by omega) H.size) (cwV 3 hts gX2_recount_X2_recountPairs rfl rfl rfl (by decide +kernel) ⟨Nat.le_of_ble_eq_true rfl, Nat.le_of_ble_eq_true rfl⟩) (wr_V nstW_ok hP hK hN hD 0 rfl rfl _) rfl rfl hl.1 rfl (lv_room (Nat.le_of_ble_eq_true rfl)) dX2_recount_89 ⟨Nat.zero_le _, Nat.zero_le _⟩) hD hS hA (fun H locs hP hD hS => ?_)
                  have hP : va_P (dC, dI) vwCl (vkW a cA n hd fm rp rq nd ((rpF (hd i) (gbyM (fm i) w (bf (rp i)) (bf (rq i))) (gbyM (fm i) w (nw2 (rp i)) (nw2 (rq i))) 25 0 ct2 nw2).2) bf su sI sO ((rpF (hd i) (gbyM (fm i) w (bf (rp i)) (bf (rq i))) (gbyM (fm i) w (nw2 (rp i)) (nw2 (rq i))) 25 0 ct2 nw2).1)) H := hP
                  have hD : va_D A (vkW a cA n hd fm rp rq nd ((rpF (hd i) (gbyM (fm i) w (bf (rp i)) (bf (rq i))) (gbyM (fm i) w (nw2 (rp i)) (nw2 (rq i))) 25 0 ct2 nw2).2) bf su sI sO ((rpF (hd i) (gbyM (fm i) w (bf (rp i)) (bf (rq i))) (gbyM (fm i) w (nw2 (rp i)) (nw2 (rq i))) 25 0 ct2 nw2).1)) := hD
                  refine lv_iinc (v := nI (w + 1)) (lv' := [(4, .int (nI (w + 1))), (0, .ref (a 0)), (1, .int (nI L)), (2, .int (nI i)), (3, .ref (a (10 + i)))]) hx hb dX2_recount_92 hl (k := 4) rfl (nI_add w 1) (by decide) rfl (fun ls hl => ?_)
                  refine lv_goto (tgt := 55) hx hb dX2_recount_95 (by decide) ?_
                  have kx := kx
                  rw [show (rwF (hd i) (fm i) (rp i) (rq i) bf (nn + 1) w ct2 nw2).1 = (rwF (hd i) (fm i) (rp i) (rq i) bf nn (w + 1) ((rpF (hd i) (gbyM (fm i) w (bf (rp i)) (bf (rq i))) (gbyM (fm i) w (nw2 (rp i)) (nw2 (rq i))) 25 0 ct2 nw2).1) ((rpF (hd i) (gbyM (fm i) w (bf (rp i)) (bf (rq i))) (gbyM (fm i) w (nw2 (rp i)) (nw2 (rq i))) 25 0 ct2 nw2).2)).1 from rfl] at kx
                  rw [show (rwF (hd i) (fm i) (rp i) (rq i) bf (nn + 1) w ct2 nw2).2 = (rwF (hd i) (fm i) (rp i) (rq i) bf nn (w + 1) ((rpF (hd i) (gbyM (fm i) w (bf (rp i)) (bf (rq i))) (gbyM (fm i) w (nw2 (rp i)) (nw2 (rq i))) 25 0 ct2 nw2).1) ((rpF (hd i) (gbyM (fm i) w (bf (rp i)) (bf (rq i))) (gbyM (fm i) w (nw2 (rp i)) (nw2 (rq i))) 25 0 ct2 nw2).2)).2 from rfl] at kx
                  exact ih (w + 1) ((rpF (hd i) (gbyM (fm i) w (bf (rp i)) (bf (rq i))) (gbyM (fm i) w (nw2 (rp i)) (nw2 (rq i))) 25 0 ct2 nw2).1) ((rpF (hd i) (gbyM (fm i) w (bf (rp i)) (bf (rq i))) (gbyM (fm i) w (nw2 (rp i)) (nw2 (rq i))) 25 0 ct2 nw2).2) (by omega) _ _ hP hD hS ls (lv_sub hl [1, 2, 3, 4, 0] rfl) kx
            refine L_55_6 (wayM (fm i)) 0 ct1 nw1 (by omega) _ _ hP hD hS ls (lv_sub hl [2, 3, 4, 1, 0] rfl) (fun H locs hP hD hS ls hl => ?_)
            have hP : va_P (dC, dI) vwCl (vkW a cA n hd fm rp rq nd ((rwF (hd i) (fm i) (rp i) (rq i) bf (wayM (fm i)) 0 ct1 nw1).2) bf su sI sO ((rwF (hd i) (fm i) (rp i) (rq i) bf (wayM (fm i)) 0 ct1 nw1).1)) H := hP
            have hD : va_D A (vkW a cA n hd fm rp rq nd ((rwF (hd i) (fm i) (rp i) (rq i) bf (wayM (fm i)) 0 ct1 nw1).2) bf su sI sO ((rwF (hd i) (fm i) (rp i) (rq i) bf (wayM (fm i)) 0 ct1 nw1).1)) := hD
            have hl : lv_has ls 5 [(0, .ref (a 0)), (1, .int (nI L)), (2, .int (nI i)), (3, .ref (a (10 + i))), (4, .int (nI (wayM (fm i))))] := hl
            refine lv_iinc (v := nI (i + 1)) (lv' := [(2, .int (nI (i + 1))), (0, .ref (a 0)), (1, .int (nI L)), (3, .ref (a (10 + i))), (4, .int (nI (wayM (fm i))))]) hx hb dX2_recount_98 hl (k := 2) rfl (nI_add i 1) (by decide) rfl (fun ls hl => ?_)
            refine lv_goto (tgt := 2) hx hb dX2_recount_101 (by decide) ?_
            have kx := kx
            rw [show (rcF hd fm rp rq nd bf L (nn + 1) i ct1 nw1).1 = (rcF hd fm rp rq nd bf L nn (i + 1) ((rwF (hd i) (fm i) (rp i) (rq i) bf (wayM (fm i)) 0 ct1 nw1).1) ((rwF (hd i) (fm i) (rp i) (rq i) bf (wayM (fm i)) 0 ct1 nw1).2)).1 from by simp only [rcF, layM, c_3, c_5, c_6, ↓reduceIte, decide_true, decide_false, Bool.not_true, Bool.not_false, Bool.or_true, Bool.true_or, Bool.or_false, Bool.false_or, Bool.and_true, Bool.true_and, Bool.and_false, Bool.false_and, and_true, true_and, and_false, false_and, and_self, or_self, or_true, true_or, or_false, false_or, Bool.false_eq_true, Bool.true_eq_false, not_true_eq_false, not_false_eq_true, Bool.or_self, decide_eq_true_eq]] at kx
            rw [show (rcF hd fm rp rq nd bf L (nn + 1) i ct1 nw1).2 = (rcF hd fm rp rq nd bf L nn (i + 1) ((rwF (hd i) (fm i) (rp i) (rq i) bf (wayM (fm i)) 0 ct1 nw1).1) ((rwF (hd i) (fm i) (rp i) (rq i) bf (wayM (fm i)) 0 ct1 nw1).2)).2 from by simp only [rcF, layM, c_3, c_5, c_6, ↓reduceIte, decide_true, decide_false, Bool.not_true, Bool.not_false, Bool.or_true, Bool.true_or, Bool.or_false, Bool.false_or, Bool.and_true, Bool.true_and, Bool.and_false, Bool.false_and, and_true, true_and, and_false, false_and, and_self, or_self, or_true, true_or, or_false, false_or, Bool.false_eq_true, Bool.true_eq_false, not_true_eq_false, not_false_eq_true, Bool.or_self, decide_eq_true_eq]] at kx
            exact ih (i + 1) ((rwF (hd i) (fm i) (rp i) (rq i) bf (wayM (fm i)) 0 ct1 nw1).1) ((rwF (hd i) (fm i) (rp i) (rq i) bf (wayM (fm i)) 0 ct1 nw1).2) (by omega) _ _ hP hD hS ls (lv_sub hl [1, 2, 0] rfl) kx
  refine L_2_0 n 0 ct nw (by omega) _ _ hP hD hS ls (lv_sub hl [1, 2, 0] rfl) (fun H locs hP hD hS ls hl => ?_)
  have hP : va_P (dC, dI) vwCl (vkW a cA n hd fm rp rq nd ((rcF hd fm rp rq nd bf L n 0 ct nw).2) bf su sI sO ((rcF hd fm rp rq nd bf L n 0 ct nw).1)) H := hP
  have hD : va_D A (vkW a cA n hd fm rp rq nd ((rcF hd fm rp rq nd bf L n 0 ct nw).2) bf su sI sO ((rcF hd fm rp rq nd bf L n 0 ct nw).1)) := hD
  have hl : lv_has ls 5 [(0, .ref (a 0)), (1, .int (nI L)), (2, .int (nI n))] := hl
  have e9 : vkW a cA n hd fm rp rq nd ((rcF hd fm rp rq nd bf L n 0 ct nw).2) bf su sI sO ((rcF hd fm rp rq nd bf L n 0 ct nw).1) = vkW a cA n hd fm rp rq nd ((rcF hd fm rp rq nd bf L n 0 ct nw).2) bf su sI sO ((rcF hd fm rp rq nd bf L n 0 ct nw).1) := rfl
  rw [e9] at hP hD
  subst hAe
  exact W.vret hx hb hr (fun t ht hW => ⟨⟨(), rfl, trivial, by rw [ht]; exact hP, va_K.moved hW.alike hK, hD⟩, hS.F ht⟩) hS.2.2 dX2_recount_104
set_option maxHeartbeats 4000000 in
set_option maxRecDepth 100000 in
theorem c_X2_startFromNothing (l : Launch) (dC : Nat → ClassId) (dI : Nat → Nat → Nat) (a : Nat → Nat) (cA : Nat → ClassId) (n : Nat) (hd fm rp rq : Nat → Nat) (nd nw bf su sI sO ct : Nat → Int32)  : WrV l yX2_startFromNothing wsX2_startFromNothing ({ frames := 1, cells := 0, slots := 0, locals := 23 }) (dC, dI) vwCl (vkW a cA n hd fm rp rq nd nw bf su sI sO ct) (vkW a cA n hd fm rp rq nd (zeF 5 2 nw) (fun _ => nI 0) (fun _ => nI 0) sI sO (fun _ => nI 0)) (vkT cA) nstW [.ref (a 0)] := by
  intro sz
  refine Met.ofW (cc := cX2_startFromNothing) (maxL := 2) (ret := none) (by decide) rfl ?_
  intro p e s m args below meth c s₁ B hml hv
  obtain ⟨rfl, hsz, ⟨hP, hK, hN⟩, hD0⟩ := hv
  subst hsz
  have hx := B.exec
  have hb := B.bytes
  have hr := B.returns
  have hts := atoms_spec (ws := wsX2_startFromNothing) B.pre
  have hown : s.vm.findClass RX2 = some m.cls := findClass_of_methodNamed B.named
  have hlocks := B.notSynchronized
  obtain ⟨A, hAe⟩ : ∃ A, A = va_A (vkW a cA n hd fm rp rq nd nw bf su sI sO ct) s.heap.size := ⟨_, rfl⟩
  have hD : va_D A (vkW a cA n hd fm rp rq nd nw bf su sI sO ct) := by rw [hAe]; exact hD0.self (sz := s.heap.size)
  have hA : ∀ q : Nat, s.heap.size ≤ q → A q := fun q h => by rw [hAe]; exact Or.inr h
  have hS : va_S A s.heap s.heap [] := va_S.rf
  have hP : va_P (dC, dI) vwCl (vkW a cA n hd fm rp rq nd nw bf su sI sO ct) s.heap := hP
  have lf_20 := hts (.fieldLink RX2 20 "ViewKeeper" "before" "[I") (by decide +kernel)
  have in_X2 : ∀ w ∈ u_ws RX2 TX2 7, w ∈ wsX2_startFromNothing := by decide +kernel
  have lf_23 := hts (.fieldLink RX2 23 "ViewKeeper" "suspects" "[I") (by decide +kernel)
  have lf_26 := hts (.fieldLink RX2 26 "ViewKeeper" "counts" "[I") (by decide +kernel)
  have lf_16 := hts (.fieldLink RX2 16 "ViewKeeper" "now" "[I") (by decide +kernel)
  have hl := lv_entry ([.ref (a 0)]) (n := 2) (Nat.le_of_ble_eq_true rfl)
  rw [lg_entry_eq]
  generalize (lg_sl ([.ref (a 0)]) ++ List.replicate (2 - (lg_sl ([.ref (a 0)])).length) Slot.unset).toArray = ls at hl ⊢
  have hl : lv_has ls 2 [(0, .ref (a 0))] := hl
  refine lv_aload_n hx hb dX2_startFromNothing_0 rfl (lv_at hl 0 rfl) ?_
  refine va_get (D := (dC, dI)) (ci := 2) (v := .ref (a 5)) (C := RX2) (T := TX2) (N := 7) hx hb hts in_X2 hown hK hP 0 rfl rfl 2 (by decide) lf_20 (fun _ h9 => h9) rfl dX2_startFromNothing_1 ?_
  refine lv_iconst (v := nI 0) hx hb dX2_startFromNothing_4 (by decide) ?_
  have hPc : va_P (dC, dI) vwCl (arW (a 5) (cA 5) 7 bf) s.heap := hP.sub [5] rfl
  have hDc : va_D A (arW (a 5) (cA 5) 7 bf) := hD.sub [5] (by decide) rfl
  have hKc : va_K (dC, dI) vwCl [(cA 5, .int)] s := hK.sub [3] rfl
  refine hx_wrv1 (va_runS (As := [.ref (a 5), .int (nI 0)]) (rest := []) ⟨hx, hb, hml, hown, hts⟩ (c_J7_fill_53178 l dC dI (a 5) (cA 5) 7 bf (nI 0) (by omega) s.heap.size) (va_cwS 2 hts gX2_startFromNothing_J7_fill_53178 rfl rfl rfl (by decide +kernel) ⟨Nat.le_of_ble_eq_true rfl, Nat.le_of_ble_eq_true rfl⟩) (wr_S nstW_ok hPc hKc hN hDc _) rfl rfl hl.1 rfl (lv_room (Nat.le_of_ble_eq_true rfl)) dX2_startFromNothing_5 ⟨Nat.zero_le _, Nat.zero_le _⟩) 5 hP rfl hD hS hA (fun H locs hP hD hS => ?_)
  have hP : va_P (dC, dI) vwCl (vkW a cA n hd fm rp rq nd nw (fun _ => nI 0) su sI sO ct) H := hP
  have hD : va_D A (vkW a cA n hd fm rp rq nd nw (fun _ => nI 0) su sI sO ct) := hD
  refine lv_aload_n hx hb dX2_startFromNothing_8 rfl (lv_at hl 0 rfl) ?_
  refine va_get (D := (dC, dI)) (ci := 2) (v := .ref (a 6)) (C := RX2) (T := TX2) (N := 7) hx hb hts in_X2 hown hK hP 0 rfl rfl 3 (by decide) lf_23 (fun _ h9 => h9) rfl dX2_startFromNothing_9 ?_
  refine lv_iconst (v := nI 0) hx hb dX2_startFromNothing_12 (by decide) ?_
  have hPc : va_P (dC, dI) vwCl (arW (a 6) (cA 6) 7 su) H := hP.sub [6] rfl
  have hDc : va_D A (arW (a 6) (cA 6) 7 su) := hD.sub [6] (by decide) rfl
  have hKc : va_K (dC, dI) vwCl [(cA 6, .int)] s := hK.sub [4] rfl
  refine hx_wrv1 (va_runS (As := [.ref (a 6), .int (nI 0)]) (rest := []) ⟨hx, hb, hml, hown, hts⟩ (c_J7_fill_53178 l dC dI (a 6) (cA 6) 7 su (nI 0) (by omega) H.size) (va_cwS 2 hts gX2_startFromNothing_J7_fill_53178 rfl rfl rfl (by decide +kernel) ⟨Nat.le_of_ble_eq_true rfl, Nat.le_of_ble_eq_true rfl⟩) (wr_S nstW_ok hPc hKc hN hDc _) rfl rfl hl.1 rfl (lv_room (Nat.le_of_ble_eq_true rfl)) dX2_startFromNothing_13 ⟨Nat.zero_le _, Nat.zero_le _⟩) 6 hP rfl hD hS hA (fun H locs hP hD hS => ?_)
  have hP : va_P (dC, dI) vwCl (vkW a cA n hd fm rp rq nd nw (fun _ => nI 0) (fun _ => nI 0) sI sO ct) H := hP
  have hD : va_D A (vkW a cA n hd fm rp rq nd nw (fun _ => nI 0) (fun _ => nI 0) sI sO ct) := hD
  refine lv_aload_n hx hb dX2_startFromNothing_16 rfl (lv_at hl 0 rfl) ?_
  refine va_get (D := (dC, dI)) (ci := 2) (v := .ref (a 9)) (C := RX2) (T := TX2) (N := 7) hx hb hts in_X2 hown hK hP 0 rfl rfl 4 (by decide) lf_26 (fun _ h9 => h9) rfl dX2_startFromNothing_17 ?_
  refine lv_iconst (v := nI 0) hx hb dX2_startFromNothing_20 (by decide) ?_
  have hPc : va_P (dC, dI) vwCl (arW (a 9) (cA 9) 175 ct) H := hP.sub [9] rfl
  have hDc : va_D A (arW (a 9) (cA 9) 175 ct) := hD.sub [9] (by decide) rfl
  have hKc : va_K (dC, dI) vwCl [(cA 9, .int)] s := hK.sub [7] rfl
  refine hx_wrv1 (va_runS (As := [.ref (a 9), .int (nI 0)]) (rest := []) ⟨hx, hb, hml, hown, hts⟩ (c_J7_fill_53178 l dC dI (a 9) (cA 9) 175 ct (nI 0) (by omega) H.size) (va_cwS 2 hts gX2_startFromNothing_J7_fill_53178 rfl rfl rfl (by decide +kernel) ⟨Nat.le_of_ble_eq_true rfl, Nat.le_of_ble_eq_true rfl⟩) (wr_S nstW_ok hPc hKc hN hDc _) rfl rfl hl.1 rfl (lv_room (Nat.le_of_ble_eq_true rfl)) dX2_startFromNothing_21 ⟨Nat.zero_le _, Nat.zero_le _⟩) 9 hP rfl hD hS hA (fun H locs hP hD hS => ?_)
  have hP : va_P (dC, dI) vwCl (vkW a cA n hd fm rp rq nd nw (fun _ => nI 0) (fun _ => nI 0) sI sO (fun _ => nI 0)) H := hP
  have hD : va_D A (vkW a cA n hd fm rp rq nd nw (fun _ => nI 0) (fun _ => nI 0) sI sO (fun _ => nI 0)) := hD
  refine lv_iconst (v := nI 2) hx hb dX2_startFromNothing_24 (by decide) ?_
  refine lv_istore_n (lv' := [(1, .int (nI 2)), (0, .ref (a 0))]) hx hb dX2_startFromNothing_25 rfl hl (by decide) rfl (fun ls hl => ?_)
  have L_26_0 : ∀ (nn : Nat) (v : Nat) (nw1 : Nat → Int32), v + nn = 7 → ∀ (H : Heap) (locs : List Loc), va_P (dC, dI) vwCl (vkW a cA n hd fm rp rq nd nw1 (fun _ => nI 0) (fun _ => nI 0) sI sO (fun _ => nI 0)) H → va_D A (vkW a cA n hd fm rp rq nd nw1 (fun _ => nI 0) (fun _ => nI 0) sI sO (fun _ => nI 0)) → va_S A s.heap H locs → ∀ ls : Array Slot, lv_has ls 2 [(0, .ref (a 0)), (1, .int (nI v))] → (∀ (H : Heap) (locs : List Loc), va_P (dC, dI) vwCl (vkW a cA n hd fm rp rq nd (zeF nn v nw1) (fun _ => nI 0) (fun _ => nI 0) sI sO (fun _ => nI 0)) H → va_D A (vkW a cA n hd fm rp rq nd (zeF nn v nw1) (fun _ => nI 0) (fun _ => nI 0) sI sO (fun _ => nI 0)) → va_S A s.heap H locs → ∀ ls : Array Slot, lv_has ls 2 [(0, .ref (a 0)), (1, .int (nI 7))] → W p l e (headSpec wsX2_startFromNothing ({ frames := 1, cells := 0, slots := 0, locals := 23 })).room s m ([.ref (a 0)] : List Value).toArray below meth c H locs 0 0 (MQ below (va_Qv (fun _ : Unit => True) (wrB (dC, dI) vwCl (vkW a cA n hd fm rp rq nd nw bf su sI sO ct) (vkW a cA n hd fm rp rq nd (zeF 5 2 nw) (fun _ => nI 0) (fun _ => nI 0) sI sO (fun _ => nI 0)) (vkT cA) s.heap.size) (va_A (vkW a cA n hd fm rp rq nd nw bf su sI sO ct) s.heap.size)) ([.ref (a 0)] : List Value).toArray s 0 0 (va_A (vkW a cA n hd fm rp rq nd nw bf su sI sO ct) s.heap.size)) (F0 m 45 ls [])) → W p l e (headSpec wsX2_startFromNothing ({ frames := 1, cells := 0, slots := 0, locals := 23 })).room s m ([.ref (a 0)] : List Value).toArray below meth c H locs 0 0 (MQ below (va_Qv (fun _ : Unit => True) (wrB (dC, dI) vwCl (vkW a cA n hd fm rp rq nd nw bf su sI sO ct) (vkW a cA n hd fm rp rq nd (zeF 5 2 nw) (fun _ => nI 0) (fun _ => nI 0) sI sO (fun _ => nI 0)) (vkT cA) s.heap.size) (va_A (vkW a cA n hd fm rp rq nd nw bf su sI sO ct) s.heap.size)) ([.ref (a 0)] : List Value).toArray s 0 0 (va_A (vkW a cA n hd fm rp rq nd nw bf su sI sO ct) s.heap.size)) (F0 m 26 ls []) := by
    intro nn
    induction nn with
    | zero =>
      intro v nw1 hnv H locs hP hD hS ls hl kx
      obtain rfl : v = 7 := by omega
      refine lv_iload_n hx hb dX2_startFromNothing_26 rfl (lv_at hl 1 rfl) ?_
      refine lv_bipush (v := nI 7) hx hb dX2_startFromNothing_27 (by decide) ?_
      refine hx_geN (tgt := 45) hx hb dX2_startFromNothing_29 (by decide) (by omega) (by omega) (fun c_2 => ?_) (fun c_2 => ?_)
      · exact kx _ _ hP hD hS ls (lv_sub hl [0, 1] rfl)
      · exact absurd c_2 (by omega)
    | succ nn ih =>
      intro v nw1 hnv H locs hP hD hS ls hl kx
      refine lv_iload_n hx hb dX2_startFromNothing_26 rfl (lv_at hl 1 rfl) ?_
      refine lv_bipush (v := nI 7) hx hb dX2_startFromNothing_27 (by decide) ?_
      refine hx_geN (tgt := 45) hx hb dX2_startFromNothing_29 (by decide) (by omega) (by omega) (fun c_3 => ?_) (fun c_3 => ?_)
      · exact absurd c_3 (by omega)
      · refine lv_aload_n hx hb dX2_startFromNothing_32 rfl (lv_at hl 0 rfl) ?_
        refine va_get (D := (dC, dI)) (ci := 2) (v := .ref (a 4)) (C := RX2) (T := TX2) (N := 7) hx hb hts in_X2 hown hK hP 0 rfl rfl 1 (by decide) lf_16 (fun _ h9 => h9) rfl dX2_startFromNothing_33 ?_
        refine lv_iload_n hx hb dX2_startFromNothing_36 rfl (lv_at hl 1 rfl) ?_
        refine lv_iconst (v := nI 0) hx hb dX2_startFromNothing_37 (by decide) ?_
        refine hx_iast hx hb hK hP hD hS 4 2 rfl rfl (by omega) (by omega) dX2_startFromNothing_38 (fun H locs hP hD hS => ?_)
        have hP : va_P (dC, dI) vwCl (vkW a cA n hd fm rp rq nd (upd nw1 v (nI 0)) (fun _ => nI 0) (fun _ => nI 0) sI sO (fun _ => nI 0)) H := hP
        have hD : va_D A (vkW a cA n hd fm rp rq nd (upd nw1 v (nI 0)) (fun _ => nI 0) (fun _ => nI 0) sI sO (fun _ => nI 0)) := hD
        refine lv_iinc (v := nI (v + 1)) (lv' := [(1, .int (nI (v + 1))), (0, .ref (a 0))]) hx hb dX2_startFromNothing_39 hl (k := 1) rfl (nI_add v 1) (by decide) rfl (fun ls hl => ?_)
        refine lv_goto (tgt := 26) hx hb dX2_startFromNothing_42 (by decide) ?_
        have kx := kx
        rw [show zeF (nn + 1) v nw1 = zeF nn (v + 1) (upd nw1 v (nI 0)) from rfl] at kx
        exact ih (v + 1) (upd nw1 v (nI 0)) (by omega) _ _ hP hD hS ls (lv_sub hl [1, 0] rfl) kx
  refine L_26_0 5 2 nw (by omega) _ _ hP hD hS ls (lv_sub hl [1, 0] rfl) (fun H locs hP hD hS ls hl => ?_)
  have hP : va_P (dC, dI) vwCl (vkW a cA n hd fm rp rq nd (zeF 5 2 nw) (fun _ => nI 0) (fun _ => nI 0) sI sO (fun _ => nI 0)) H := hP
  have hD : va_D A (vkW a cA n hd fm rp rq nd (zeF 5 2 nw) (fun _ => nI 0) (fun _ => nI 0) sI sO (fun _ => nI 0)) := hD
  have hl : lv_has ls 2 [(0, .ref (a 0)), (1, .int (nI 7))] := hl
  have e9 : vkW a cA n hd fm rp rq nd (zeF 5 2 nw) (fun _ => nI 0) (fun _ => nI 0) sI sO (fun _ => nI 0) = vkW a cA n hd fm rp rq nd (zeF 5 2 nw) (fun _ => nI 0) (fun _ => nI 0) sI sO (fun _ => nI 0) := rfl
  rw [e9] at hP hD
  subst hAe
  exact W.vret hx hb hr (fun t ht hW => ⟨⟨(), rfl, trivial, by rw [ht]; exact hP, va_K.moved hW.alike hK, hD⟩, hS.F ht⟩) hS.2.2 dX2_startFromNothing_45
set_option maxHeartbeats 4000000 in
set_option maxRecDepth 100000 in
theorem c_X2_bringUpToDate (l : Launch) (dC : Nat → ClassId) (dI : Nat → Nat → Nat) (a : Nat → Nat) (cA : Nat → ClassId) (n : Nat) (hd fm rp rq : Nat → Nat) (nd nw bf su sI sO ct : Nat → Int32) (hy_0 : ruOk n hd fm rp rq) : WrV l yX2_bringUpToDate wsX2_bringUpToDate ({ frames := 5, cells := 0, slots := 0, locals := 119 }) (dC, dI) vwCl (vkW a cA n hd fm rp rq nd nw bf su sI sO ct) (vkW a cA n hd fm rp rq nd ((clF n hd fm rp rq nd bf 7 1 ct nw su).2.1) bf ((clF n hd fm rp rq nd bf 7 1 ct nw su).2.2) sI sO ((clF n hd fm rp rq nd bf 7 1 ct nw su).1)) (vkT cA) nstW [.ref (a 0)] := by
  intro sz
  refine Met.ofW (cc := cX2_bringUpToDate) (maxL := 2) (ret := none) (by decide) rfl ?_
  intro p e s m args below meth c s₁ B hml hv
  obtain ⟨rfl, hsz, ⟨hP, hK, hN⟩, hD0⟩ := hv
  subst hsz
  have hx := B.exec
  have hb := B.bytes
  have hr := B.returns
  have hts := atoms_spec (ws := wsX2_bringUpToDate) B.pre
  have hown : s.vm.findClass RX2 = some m.cls := findClass_of_methodNamed B.named
  have hlocks := B.notSynchronized
  obtain ⟨A, hAe⟩ : ∃ A, A = va_A (vkW a cA n hd fm rp rq nd nw bf su sI sO ct) s.heap.size := ⟨_, rfl⟩
  have hD : va_D A (vkW a cA n hd fm rp rq nd nw bf su sI sO ct) := by rw [hAe]; exact hD0.self (sz := s.heap.size)
  have hA : ∀ q : Nat, s.heap.size ≤ q → A q := fun q h => by rw [hAe]; exact Or.inr h
  have hS : va_S A s.heap s.heap [] := va_S.rf
  have hP : va_P (dC, dI) vwCl (vkW a cA n hd fm rp rq nd nw bf su sI sO ct) s.heap := hP
  have hl := lv_entry ([.ref (a 0)]) (n := 2) (Nat.le_of_ble_eq_true rfl)
  rw [lg_entry_eq]
  generalize (lg_sl ([.ref (a 0)]) ++ List.replicate (2 - (lg_sl ([.ref (a 0)])).length) Slot.unset).toArray = ls at hl ⊢
  have hl : lv_has ls 2 [(0, .ref (a 0))] := hl
  refine lv_iconst (v := nI 1) hx hb dX2_bringUpToDate_0 (by decide) ?_
  refine lv_istore_n (lv' := [(1, .int (nI 1)), (0, .ref (a 0))]) hx hb dX2_bringUpToDate_1 rfl hl (by decide) rfl (fun ls hl => ?_)
  have L_2_0 : ∀ (nn : Nat) (L : Nat) (ct1 : Nat → Int32) (nw1 : Nat → Int32) (su1 : Nat → Int32), L + nn = 8 → ∀ (H : Heap) (locs : List Loc), va_P (dC, dI) vwCl (vkW a cA n hd fm rp rq nd nw1 bf su1 sI sO ct1) H → va_D A (vkW a cA n hd fm rp rq nd nw1 bf su1 sI sO ct1) → va_S A s.heap H locs → ∀ ls : Array Slot, lv_has ls 2 [(0, .ref (a 0)), (1, .int (nI L))] → (∀ (H : Heap) (locs : List Loc), va_P (dC, dI) vwCl (vkW a cA n hd fm rp rq nd ((clF n hd fm rp rq nd bf nn L ct1 nw1 su1).2.1) bf ((clF n hd fm rp rq nd bf nn L ct1 nw1 su1).2.2) sI sO ((clF n hd fm rp rq nd bf nn L ct1 nw1 su1).1)) H → va_D A (vkW a cA n hd fm rp rq nd ((clF n hd fm rp rq nd bf nn L ct1 nw1 su1).2.1) bf ((clF n hd fm rp rq nd bf nn L ct1 nw1 su1).2.2) sI sO ((clF n hd fm rp rq nd bf nn L ct1 nw1 su1).1)) → va_S A s.heap H locs → ∀ ls : Array Slot, lv_has ls 2 [(0, .ref (a 0)), (1, .int (nI 8))] → W p l e (headSpec wsX2_bringUpToDate ({ frames := 5, cells := 0, slots := 0, locals := 119 })).room s m ([.ref (a 0)] : List Value).toArray below meth c H locs 0 0 (MQ below (va_Qv (fun _ : Unit => True) (wrB (dC, dI) vwCl (vkW a cA n hd fm rp rq nd nw bf su sI sO ct) (vkW a cA n hd fm rp rq nd ((clF n hd fm rp rq nd bf 7 1 ct nw su).2.1) bf ((clF n hd fm rp rq nd bf 7 1 ct nw su).2.2) sI sO ((clF n hd fm rp rq nd bf 7 1 ct nw su).1)) (vkT cA) s.heap.size) (va_A (vkW a cA n hd fm rp rq nd nw bf su sI sO ct) s.heap.size)) ([.ref (a 0)] : List Value).toArray s 0 0 (va_A (vkW a cA n hd fm rp rq nd nw bf su sI sO ct) s.heap.size)) (F0 m 34 ls [])) → W p l e (headSpec wsX2_bringUpToDate ({ frames := 5, cells := 0, slots := 0, locals := 119 })).room s m ([.ref (a 0)] : List Value).toArray below meth c H locs 0 0 (MQ below (va_Qv (fun _ : Unit => True) (wrB (dC, dI) vwCl (vkW a cA n hd fm rp rq nd nw bf su sI sO ct) (vkW a cA n hd fm rp rq nd ((clF n hd fm rp rq nd bf 7 1 ct nw su).2.1) bf ((clF n hd fm rp rq nd bf 7 1 ct nw su).2.2) sI sO ((clF n hd fm rp rq nd bf 7 1 ct nw su).1)) (vkT cA) s.heap.size) (va_A (vkW a cA n hd fm rp rq nd nw bf su sI sO ct) s.heap.size)) ([.ref (a 0)] : List Value).toArray s 0 0 (va_A (vkW a cA n hd fm rp rq nd nw bf su sI sO ct) s.heap.size)) (F0 m 2 ls []) := by
    intro nn
    induction nn with
    | zero =>
      intro L ct1 nw1 su1 hnL H locs hP hD hS ls hl kx
      obtain rfl : L = 8 := by omega
      refine lv_iload_n hx hb dX2_bringUpToDate_2 rfl (lv_at hl 1 rfl) ?_
      refine lv_bipush (v := nI 7) hx hb dX2_bringUpToDate_3 (by decide) ?_
      refine hx_gtN (tgt := 34) hx hb dX2_bringUpToDate_5 (by decide) (by omega) (by omega) (fun c_2 => ?_) (fun c_2 => ?_)
      · exact kx _ _ hP hD hS ls (lv_sub hl [0, 1] rfl)
      · exact absurd c_2 (by omega)
    | succ nn ih =>
      intro L ct1 nw1 su1 hnL H locs hP hD hS ls hl kx
      refine lv_iload_n hx hb dX2_bringUpToDate_2 rfl (lv_at hl 1 rfl) ?_
      refine lv_bipush (v := nI 7) hx hb dX2_bringUpToDate_3 (by decide) ?_
      refine hx_gtN (tgt := 34) hx hb dX2_bringUpToDate_5 (by decide) (by omega) (by omega) (fun c_3 => ?_) (fun c_3 => ?_)
      · exact absurd c_3 (by omega)
      · refine lv_aload_n hx hb dX2_bringUpToDate_8 rfl (lv_at hl 0 rfl) ?_
        refine lv_iload_n hx hb dX2_bringUpToDate_9 rfl (lv_at hl 1 rfl) ?_
        refine hx_wrv (va_runV (As := [.int (nI L)]) (rest := []) ⟨hx, hb, hml, hown, hts⟩ (c_X2_recount l dC dI a cA n hd fm rp rq nd nw1 bf su1 sI sO ct1 L (by omega) (by omega) H.size) (cwV 1 hts gX2_bringUpToDate_X2_recount rfl rfl rfl (by decide +kernel) ⟨Nat.le_of_ble_eq_true rfl, Nat.le_of_ble_eq_true rfl⟩) (wr_V nstW_ok hP hK hN hD 0 rfl rfl _) rfl rfl hl.1 rfl (lv_room (Nat.le_of_ble_eq_true rfl)) dX2_bringUpToDate_10 ⟨Nat.zero_le _, Nat.zero_le _⟩) hD hS hA (fun H locs hP hD hS => ?_)
        have hP : va_P (dC, dI) vwCl (vkW a cA n hd fm rp rq nd ((rcF hd fm rp rq nd bf L n 0 ct1 nw1).2) bf su1 sI sO ((rcF hd fm rp rq nd bf L n 0 ct1 nw1).1)) H := hP
        have hD : va_D A (vkW a cA n hd fm rp rq nd ((rcF hd fm rp rq nd bf L n 0 ct1 nw1).2) bf su1 sI sO ((rcF hd fm rp rq nd bf L n 0 ct1 nw1).1)) := hD
        refine lv_aload_n hx hb dX2_bringUpToDate_13 rfl (lv_at hl 0 rfl) ?_
        refine lv_iload_n hx hb dX2_bringUpToDate_14 rfl (lv_at hl 1 rfl) ?_
        refine hx_wrv (va_runV (As := [.int (nI L)]) (rest := []) ⟨hx, hb, hml, hown, hts⟩ (c_X2_findSuspects l dC dI a cA n hd fm rp rq nd ((rcF hd fm rp rq nd bf L n 0 ct1 nw1).2) bf su1 sI sO ((rcF hd fm rp rq nd bf L n 0 ct1 nw1).1) L (by omega) (by omega) H.size) (cwV 1 hts gX2_bringUpToDate_X2_findSuspects rfl rfl rfl (by decide +kernel) ⟨Nat.le_of_ble_eq_true rfl, Nat.le_of_ble_eq_true rfl⟩) (wr_V nstW_ok hP hK hN hD 0 rfl rfl _) rfl rfl hl.1 rfl (lv_room (Nat.le_of_ble_eq_true rfl)) dX2_bringUpToDate_15 ⟨Nat.zero_le _, Nat.zero_le _⟩) hD hS hA (fun H locs hP hD hS => ?_)
        have hP : va_P (dC, dI) vwCl (vkW a cA n hd fm rp rq nd (((rcF hd fm rp rq nd bf L n 0 ct1 nw1).2)) bf (fsF n hd fm rp rq nd ((rcF hd fm rp rq nd bf L n 0 ct1 nw1).2) bf L 126 true su1) sI sO (((rcF hd fm rp rq nd bf L n 0 ct1 nw1).1))) H := hP
        have hD : va_D A (vkW a cA n hd fm rp rq nd (((rcF hd fm rp rq nd bf L n 0 ct1 nw1).2)) bf (fsF n hd fm rp rq nd ((rcF hd fm rp rq nd bf L n 0 ct1 nw1).2) bf L 126 true su1) sI sO (((rcF hd fm rp rq nd bf L n 0 ct1 nw1).1))) := hD
        refine lv_aload_n hx hb dX2_bringUpToDate_18 rfl (lv_at hl 0 rfl) ?_
        refine lv_iload_n hx hb dX2_bringUpToDate_19 rfl (lv_at hl 1 rfl) ?_
        refine hx_wrv (va_runV (As := [.int (nI L)]) (rest := []) ⟨hx, hb, hml, hown, hts⟩ (c_X2_takeOutSuspects l dC dI a cA n hd fm rp rq nd (((rcF hd fm rp rq nd bf L n 0 ct1 nw1).2)) bf (fsF n hd fm rp rq nd ((rcF hd fm rp rq nd bf L n 0 ct1 nw1).2) bf L 126 true su1) sI sO (((rcF hd fm rp rq nd bf L n 0 ct1 nw1).1)) L (by omega) H.size) (cwV 1 hts gX2_bringUpToDate_X2_takeOutSuspects rfl rfl rfl (by decide +kernel) ⟨Nat.le_of_ble_eq_true rfl, Nat.le_of_ble_eq_true rfl⟩) (wr_V nstW_ok hP hK hN hD 0 rfl rfl _) rfl rfl hl.1 rfl (lv_room (Nat.le_of_ble_eq_true rfl)) dX2_bringUpToDate_20 ⟨Nat.zero_le _, Nat.zero_le _⟩) hD hS hA (fun H locs hP hD hS => ?_)
        have hP : va_P (dC, dI) vwCl (vkW a cA n hd fm rp rq nd (toF nd (fsF n hd fm rp rq nd ((rcF hd fm rp rq nd bf L n 0 ct1 nw1).2) bf L 126 true su1) L 5 2 (((rcF hd fm rp rq nd bf L n 0 ct1 nw1).2))) bf ((fsF n hd fm rp rq nd ((rcF hd fm rp rq nd bf L n 0 ct1 nw1).2) bf L 126 true su1)) sI sO ((((rcF hd fm rp rq nd bf L n 0 ct1 nw1).1)))) H := hP
        have hD : va_D A (vkW a cA n hd fm rp rq nd (toF nd (fsF n hd fm rp rq nd ((rcF hd fm rp rq nd bf L n 0 ct1 nw1).2) bf L 126 true su1) L 5 2 (((rcF hd fm rp rq nd bf L n 0 ct1 nw1).2))) bf ((fsF n hd fm rp rq nd ((rcF hd fm rp rq nd bf L n 0 ct1 nw1).2) bf L 126 true su1)) sI sO ((((rcF hd fm rp rq nd bf L n 0 ct1 nw1).1)))) := hD
        refine lv_aload_n hx hb dX2_bringUpToDate_23 rfl (lv_at hl 0 rfl) ?_
        refine lv_iload_n hx hb dX2_bringUpToDate_24 rfl (lv_at hl 1 rfl) ?_
        refine hx_wrv (va_runV (As := [.int (nI L)]) (rest := []) ⟨hx, hb, hml, hown, hts⟩ (c_X2_fill l dC dI a cA n hd fm rp rq nd (toF nd (fsF n hd fm rp rq nd ((rcF hd fm rp rq nd bf L n 0 ct1 nw1).2) bf L 126 true su1) L 5 2 (((rcF hd fm rp rq nd bf L n 0 ct1 nw1).2))) bf ((fsF n hd fm rp rq nd ((rcF hd fm rp rq nd bf L n 0 ct1 nw1).2) bf L 126 true su1)) sI sO ((((rcF hd fm rp rq nd bf L n 0 ct1 nw1).1))) L (by omega) (by omega) H.size) (cwV 1 hts gX2_bringUpToDate_X2_fill rfl rfl rfl (by decide +kernel) ⟨Nat.le_of_ble_eq_true rfl, Nat.le_of_ble_eq_true rfl⟩) (wr_V nstW_ok hP hK hN hD 0 rfl rfl _) rfl rfl hl.1 rfl (lv_room (Nat.le_of_ble_eq_true rfl)) dX2_bringUpToDate_25 ⟨Nat.zero_le _, Nat.zero_le _⟩) hD hS hA (fun H locs hP hD hS => ?_)
        have hP : va_P (dC, dI) vwCl (vkW a cA n hd fm rp rq nd (flF n hd fm rp rq nd L 126 true (toF nd (fsF n hd fm rp rq nd ((rcF hd fm rp rq nd bf L n 0 ct1 nw1).2) bf L 126 true su1) L 5 2 (((rcF hd fm rp rq nd bf L n 0 ct1 nw1).2)))) bf (((fsF n hd fm rp rq nd ((rcF hd fm rp rq nd bf L n 0 ct1 nw1).2) bf L 126 true su1))) sI sO (((((rcF hd fm rp rq nd bf L n 0 ct1 nw1).1))))) H := hP
        have hD : va_D A (vkW a cA n hd fm rp rq nd (flF n hd fm rp rq nd L 126 true (toF nd (fsF n hd fm rp rq nd ((rcF hd fm rp rq nd bf L n 0 ct1 nw1).2) bf L 126 true su1) L 5 2 (((rcF hd fm rp rq nd bf L n 0 ct1 nw1).2)))) bf (((fsF n hd fm rp rq nd ((rcF hd fm rp rq nd bf L n 0 ct1 nw1).2) bf L 126 true su1))) sI sO (((((rcF hd fm rp rq nd bf L n 0 ct1 nw1).1))))) := hD
        refine lv_iinc (v := nI (L + 1)) (lv' := [(1, .int (nI (L + 1))), (0, .ref (a 0))]) hx hb dX2_bringUpToDate_28 hl (k := 1) rfl (nI_add L 1) (by decide) rfl (fun ls hl => ?_)
        refine lv_goto (tgt := 2) hx hb dX2_bringUpToDate_31 (by decide) ?_
        have kx := kx
        rw [show (clF n hd fm rp rq nd bf (nn + 1) L ct1 nw1 su1).1 = (clF n hd fm rp rq nd bf nn (L + 1) (((((rcF hd fm rp rq nd bf L n 0 ct1 nw1).1)))) (flF n hd fm rp rq nd L 126 true (toF nd (fsF n hd fm rp rq nd ((rcF hd fm rp rq nd bf L n 0 ct1 nw1).2) bf L 126 true su1) L 5 2 (((rcF hd fm rp rq nd bf L n 0 ct1 nw1).2)))) (((fsF n hd fm rp rq nd ((rcF hd fm rp rq nd bf L n 0 ct1 nw1).2) bf L 126 true su1)))).1 from rfl] at kx
        rw [show (clF n hd fm rp rq nd bf (nn + 1) L ct1 nw1 su1).2.1 = (clF n hd fm rp rq nd bf nn (L + 1) (((((rcF hd fm rp rq nd bf L n 0 ct1 nw1).1)))) (flF n hd fm rp rq nd L 126 true (toF nd (fsF n hd fm rp rq nd ((rcF hd fm rp rq nd bf L n 0 ct1 nw1).2) bf L 126 true su1) L 5 2 (((rcF hd fm rp rq nd bf L n 0 ct1 nw1).2)))) (((fsF n hd fm rp rq nd ((rcF hd fm rp rq nd bf L n 0 ct1 nw1).2) bf L 126 true su1)))).2.1 from rfl] at kx
        rw [show (clF n hd fm rp rq nd bf (nn + 1) L ct1 nw1 su1).2.2 = (clF n hd fm rp rq nd bf nn (L + 1) (((((rcF hd fm rp rq nd bf L n 0 ct1 nw1).1)))) (flF n hd fm rp rq nd L 126 true (toF nd (fsF n hd fm rp rq nd ((rcF hd fm rp rq nd bf L n 0 ct1 nw1).2) bf L 126 true su1) L 5 2 (((rcF hd fm rp rq nd bf L n 0 ct1 nw1).2)))) (((fsF n hd fm rp rq nd ((rcF hd fm rp rq nd bf L n 0 ct1 nw1).2) bf L 126 true su1)))).2.2 from rfl] at kx
        exact ih (L + 1) (((((rcF hd fm rp rq nd bf L n 0 ct1 nw1).1)))) (flF n hd fm rp rq nd L 126 true (toF nd (fsF n hd fm rp rq nd ((rcF hd fm rp rq nd bf L n 0 ct1 nw1).2) bf L 126 true su1) L 5 2 (((rcF hd fm rp rq nd bf L n 0 ct1 nw1).2)))) (((fsF n hd fm rp rq nd ((rcF hd fm rp rq nd bf L n 0 ct1 nw1).2) bf L 126 true su1))) (by omega) _ _ hP hD hS ls (lv_sub hl [1, 0] rfl) kx
  refine L_2_0 7 1 ct nw su (by omega) _ _ hP hD hS ls (lv_sub hl [1, 0] rfl) (fun H locs hP hD hS ls hl => ?_)
  have hP : va_P (dC, dI) vwCl (vkW a cA n hd fm rp rq nd ((clF n hd fm rp rq nd bf 7 1 ct nw su).2.1) bf ((clF n hd fm rp rq nd bf 7 1 ct nw su).2.2) sI sO ((clF n hd fm rp rq nd bf 7 1 ct nw su).1)) H := hP
  have hD : va_D A (vkW a cA n hd fm rp rq nd ((clF n hd fm rp rq nd bf 7 1 ct nw su).2.1) bf ((clF n hd fm rp rq nd bf 7 1 ct nw su).2.2) sI sO ((clF n hd fm rp rq nd bf 7 1 ct nw su).1)) := hD
  have hl : lv_has ls 2 [(0, .ref (a 0)), (1, .int (nI 8))] := hl
  have e9 : vkW a cA n hd fm rp rq nd ((clF n hd fm rp rq nd bf 7 1 ct nw su).2.1) bf ((clF n hd fm rp rq nd bf 7 1 ct nw su).2.2) sI sO ((clF n hd fm rp rq nd bf 7 1 ct nw su).1) = vkW a cA n hd fm rp rq nd ((clF n hd fm rp rq nd bf 7 1 ct nw su).2.1) bf ((clF n hd fm rp rq nd bf 7 1 ct nw su).2.2) sI sO ((clF n hd fm rp rq nd bf 7 1 ct nw su).1) := rfl
  rw [e9] at hP hD
  subst hAe
  exact W.vret hx hb hr (fun t ht hW => ⟨⟨(), rfl, trivial, by rw [ht]; exact hP, va_K.moved hW.alike hK, hD⟩, hS.F ht⟩) hS.2.2 dX2_bringUpToDate_34

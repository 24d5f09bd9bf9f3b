/-! rows of my own over the kit's: numbers as nI, truth values as bI, arrays by their places -/
section HX
variable {p : Program} {l : Launch} {e : Env} {R : Room} {s : State} {m : MethodId} {args : Array Value} {below : List Frame} {meth : Method} {c : Code} {H : Heap} {locs : List Loc} {cells slots : Nat} {Q : State → Prop}
variable {cc : ByteArray} {pc : Nat} {ls : Array Slot} {rest : List Value}
theorem hx_eq {x y : Int32} (h : x = y) (k : W p l e R s m args below meth c H locs cells slots Q (F0 m pc ls (.int y :: rest))) : W p l e R s m args below meth c H locs cells slots Q (F0 m pc ls (.int x :: rest)) := h ▸ k
theorem hx_iadd {a b : Nat} (hexec : p.tables.exec = Jvm.exec) (hb : c.code = cc) (hdg : decode cc pc = .ok (.iadd, 1)) (k : W p l e R s m args below meth c H locs cells slots Q (F0 m (pc + 1) ls (.int (nI (a + b)) :: rest))) : W p l e R s m args below meth c H locs cells slots Q (F0 m pc ls (.int (nI b) :: .int (nI a) :: rest)) :=
  lv_iadd hexec hb hdg (hx_eq (nI_add a b) k)
theorem hx_imul {a b : Nat} (hexec : p.tables.exec = Jvm.exec) (hb : c.code = cc) (hdg : decode cc pc = .ok (.imul, 1)) (k : W p l e R s m args below meth c H locs cells slots Q (F0 m (pc + 1) ls (.int (nI (a * b)) :: rest))) : W p l e R s m args below meth c H locs cells slots Q (F0 m pc ls (.int (nI b) :: .int (nI a) :: rest)) :=
  lv_imul hexec hb hdg (hx_eq (pk_mul a b) k)
theorem hx_isub {a b : Nat} (h : b ≤ a) (hexec : p.tables.exec = Jvm.exec) (hb : c.code = cc) (hdg : decode cc pc = .ok (.isub, 1)) (k : W p l e R s m args below meth c H locs cells slots Q (F0 m (pc + 1) ls (.int (nI (a - b)) :: rest))) : W p l e R s m args below meth c H locs cells slots Q (F0 m pc ls (.int (nI b) :: .int (nI a) :: rest)) :=
  lv_isub hexec hb hdg (hx_eq (pk_sub h) k)
/-! branches over numbers -/
theorem hx_eqN {a b : Nat} (hexec : p.tables.exec = Jvm.exec) (hb : c.code = cc) {off : Int} {tgt : Nat} (hdg : decode cc pc = .ok (.if_icmp .eq off, 3)) (ht : (pc : Int) + off = (tgt : Int)) (h1 : a < 2 ^ 31) (h2 : b < 2 ^ 31)
    (kt : a = b → W p l e R s m args below meth c H locs cells slots Q (F0 m tgt ls rest)) (kf : ¬ a = b → W p l e R s m args below meth c H locs cells slots Q (F0 m (pc + 3) ls rest)) : W p l e R s m args below meth c H locs cells slots Q (F0 m pc ls (.int (nI b) :: .int (nI a) :: rest)) :=
  lv_icmp_eq hexec hb hdg ht (fun h => kt ((nI_eq h1 h2).mp h)) (fun h => kf (fun q => h ((nI_eq h1 h2).mpr q)))
theorem hx_neN {a b : Nat} (hexec : p.tables.exec = Jvm.exec) (hb : c.code = cc) {off : Int} {tgt : Nat} (hdg : decode cc pc = .ok (.if_icmp .ne off, 3)) (ht : (pc : Int) + off = (tgt : Int)) (h1 : a < 2 ^ 31) (h2 : b < 2 ^ 31)
    (kt : ¬ a = b → W p l e R s m args below meth c H locs cells slots Q (F0 m tgt ls rest)) (kf : a = b → W p l e R s m args below meth c H locs cells slots Q (F0 m (pc + 3) ls rest)) : W p l e R s m args below meth c H locs cells slots Q (F0 m pc ls (.int (nI b) :: .int (nI a) :: rest)) :=
  lv_icmp_ne hexec hb hdg ht (fun h => kt (fun q => h ((nI_eq h1 h2).mpr q))) (fun h => kf ((nI_eq h1 h2).mp h))
theorem hx_ltN {a b : Nat} (hexec : p.tables.exec = Jvm.exec) (hb : c.code = cc) {off : Int} {tgt : Nat} (hdg : decode cc pc = .ok (.if_icmp .lt off, 3)) (ht : (pc : Int) + off = (tgt : Int)) (h1 : a < 2 ^ 31) (h2 : b < 2 ^ 31)
    (kt : a < b → W p l e R s m args below meth c H locs cells slots Q (F0 m tgt ls rest)) (kf : ¬ a < b → W p l e R s m args below meth c H locs cells slots Q (F0 m (pc + 3) ls rest)) : W p l e R s m args below meth c H locs cells slots Q (F0 m pc ls (.int (nI b) :: .int (nI a) :: rest)) :=
  lv_icmp_lt hexec hb hdg ht (fun h => kt ((nI_ltI h1 h2).mp h)) (fun h => kf (fun q => h ((nI_ltI h1 h2).mpr q)))
theorem hx_geN {a b : Nat} (hexec : p.tables.exec = Jvm.exec) (hb : c.code = cc) {off : Int} {tgt : Nat} (hdg : decode cc pc = .ok (.if_icmp .ge off, 3)) (ht : (pc : Int) + off = (tgt : Int)) (h1 : a < 2 ^ 31) (h2 : b < 2 ^ 31)
    (kt : ¬ a < b → W p l e R s m args below meth c H locs cells slots Q (F0 m tgt ls rest)) (kf : a < b → W p l e R s m args below meth c H locs cells slots Q (F0 m (pc + 3) ls rest)) : W p l e R s m args below meth c H locs cells slots Q (F0 m pc ls (.int (nI b) :: .int (nI a) :: rest)) :=
  lv_icmp_ge hexec hb hdg ht (fun h => kt (fun q => absurd ((nI_leI h2 h1).mp h) (by omega))) (fun h => kf (Nat.lt_of_not_le (fun q => h ((nI_leI h2 h1).mpr q))))
theorem hx_gtN {a b : Nat} (hexec : p.tables.exec = Jvm.exec) (hb : c.code = cc) {off : Int} {tgt : Nat} (hdg : decode cc pc = .ok (.if_icmp .gt off, 3)) (ht : (pc : Int) + off = (tgt : Int)) (h1 : a < 2 ^ 31) (h2 : b < 2 ^ 31)
    (kt : b < a → W p l e R s m args below meth c H locs cells slots Q (F0 m tgt ls rest)) (kf : ¬ b < a → W p l e R s m args below meth c H locs cells slots Q (F0 m (pc + 3) ls rest)) : W p l e R s m args below meth c H locs cells slots Q (F0 m pc ls (.int (nI b) :: .int (nI a) :: rest)) :=
  lv_icmp_gt hexec hb hdg ht (fun h => kt ((nI_ltI h2 h1).mp h)) (fun h => kf (fun q => h ((nI_ltI h2 h1).mpr q)))
theorem hx_leN {a b : Nat} (hexec : p.tables.exec = Jvm.exec) (hb : c.code = cc) {off : Int} {tgt : Nat} (hdg : decode cc pc = .ok (.if_icmp .le off, 3)) (ht : (pc : Int) + off = (tgt : Int)) (h1 : a < 2 ^ 31) (h2 : b < 2 ^ 31)
    (kt : ¬ b < a → W p l e R s m args below meth c H locs cells slots Q (F0 m tgt ls rest)) (kf : b < a → W p l e R s m args below meth c H locs cells slots Q (F0 m (pc + 3) ls rest)) : W p l e R s m args below meth c H locs cells slots Q (F0 m pc ls (.int (nI b) :: .int (nI a) :: rest)) :=
  lv_icmp_le hexec hb hdg ht (fun h => kt (fun q => absurd ((nI_leI h1 h2).mp h) (by omega))) (fun h => kf (Nat.lt_of_not_le (fun q => h ((nI_leI h1 h2).mpr q))))
/-- a number against 0 -/
theorem hx_if0 {a : Nat} (hexec : p.tables.exec = Jvm.exec) (hb : c.code = cc) {off : Int} {tgt : Nat} (hdg : decode cc pc = .ok (.ifCond .eq off, 3)) (ht : (pc : Int) + off = (tgt : Int)) (h1 : a < 2 ^ 31)
    (kt : a = 0 → W p l e R s m args below meth c H locs cells slots Q (F0 m tgt ls rest)) (kf : ¬ a = 0 → W p l e R s m args below meth c H locs cells slots Q (F0 m (pc + 3) ls rest)) : W p l e R s m args below meth c H locs cells slots Q (F0 m pc ls (.int (nI a) :: rest)) :=
  lv_if_eq hexec hb hdg ht (fun h => kt ((nI_eq h1 (by omega : 0 < 2 ^ 31)).mp h)) (fun h => kf (fun q => h ((nI_eq h1 (by omega : 0 < 2 ^ 31)).mpr q)))
theorem hx_ifn0 {a : Nat} (hexec : p.tables.exec = Jvm.exec) (hb : c.code = cc) {off : Int} {tgt : Nat} (hdg : decode cc pc = .ok (.ifCond .ne off, 3)) (ht : (pc : Int) + off = (tgt : Int)) (h1 : a < 2 ^ 31)
    (kt : ¬ a = 0 → W p l e R s m args below meth c H locs cells slots Q (F0 m tgt ls rest)) (kf : a = 0 → W p l e R s m args below meth c H locs cells slots Q (F0 m (pc + 3) ls rest)) : W p l e R s m args below meth c H locs cells slots Q (F0 m pc ls (.int (nI a) :: rest)) :=
  lv_if_ne hexec hb hdg ht (fun h => kt (fun q => h ((nI_eq h1 (by omega : 0 < 2 ^ 31)).mpr q))) (fun h => kf ((nI_eq h1 (by omega : 0 < 2 ^ 31)).mp h))
theorem hx_ifle0 {a : Nat} (hexec : p.tables.exec = Jvm.exec) (hb : c.code = cc) {off : Int} {tgt : Nat} (hdg : decode cc pc = .ok (.ifCond .le off, 3)) (ht : (pc : Int) + off = (tgt : Int)) (h1 : a < 2 ^ 31)
    (kt : a = 0 → W p l e R s m args below meth c H locs cells slots Q (F0 m tgt ls rest)) (kf : ¬ a = 0 → W p l e R s m args below meth c H locs cells slots Q (F0 m (pc + 3) ls rest)) : W p l e R s m args below meth c H locs cells slots Q (F0 m pc ls (.int (nI a) :: rest)) :=
  lv_if_le hexec hb hdg ht (fun h => kt (by have := (nI_leI h1 (by omega : 0 < 2 ^ 31)).mp h; omega)) (fun h => kf (fun q => h ((nI_leI h1 (by omega : 0 < 2 ^ 31)).mpr (by omega))))
/-- truth values -/
theorem hx_ifB {b : Bool} (hexec : p.tables.exec = Jvm.exec) (hb : c.code = cc) {off : Int} {tgt : Nat} (hdg : decode cc pc = .ok (.ifCond .eq off, 3)) (ht : (pc : Int) + off = (tgt : Int))
    (kt : b = false → W p l e R s m args below meth c H locs cells slots Q (F0 m tgt ls rest)) (kf : b = true → W p l e R s m args below meth c H locs cells slots Q (F0 m (pc + 3) ls rest)) : W p l e R s m args below meth c H locs cells slots Q (F0 m pc ls (.int (bI b) :: rest)) :=
  lv_if_eq hexec hb hdg ht (fun h => kt (bI_0.mp h)) (fun h => kf (bI_n0.mp h))
theorem hx_ifnB {b : Bool} (hexec : p.tables.exec = Jvm.exec) (hb : c.code = cc) {off : Int} {tgt : Nat} (hdg : decode cc pc = .ok (.ifCond .ne off, 3)) (ht : (pc : Int) + off = (tgt : Int))
    (kt : b = true → W p l e R s m args below meth c H locs cells slots Q (F0 m tgt ls rest)) (kf : b = false → W p l e R s m args below meth c H locs cells slots Q (F0 m (pc + 3) ls rest)) : W p l e R s m args below meth c H locs cells slots Q (F0 m pc ls (.int (bI b) :: rest)) :=
  lv_if_ne hexec hb hdg ht (fun h => kt (bI_n0.mp h)) (fun h => kf (bI_0.mp h))
/-! arrays -/
variable {D : va_G} {cl : List vw_C} {A : Nat → Prop} {a : Nat} {tys : List (ClassId × FieldType)} {ws : va_W} {H0 : Heap}
theorem hx_iald (hexec : p.tables.exec = Jvm.exec) (hb : c.code = cc) (hK : va_K D cl tys s) (hP : va_P D cl ws H) (q0 t0 : Nat) {cA : ClassId} {n : Nat} {f : Nat → Int32} (ha : ws[q0]? = some (a, .inl (cA, n, .inl f))) (ht : tys[t0]? = some (cA, .int)) {i : Nat} (hi : i < n) (hn : n < 2 ^ 31) (hdg : decode cc pc = .ok (.iaload, 1))
    (kk : W p l e R s m args below meth c H locs cells slots Q (F0 m (pc + 1) ls (.int (f i) :: rest))) : W p l e R s m args below meth c H locs cells slots Q (F0 m pc ls (.int (nI i) :: .ref a :: rest)) :=
  va_iald hexec hb hK hP q0 t0 ha ht (vp_in_nI hi hn) hdg (by rw [nI_clamp (by omega)]; exact kk)
theorem hx_ialdN (hexec : p.tables.exec = Jvm.exec) (hb : c.code = cc) (hK : va_K D cl tys s) (hP : va_P D cl ws H) (q0 t0 : Nat) {cA : ClassId} {n : Nat} {f : Nat → Nat} (ha : ws[q0]? = some (a, .inl (cA, n, .inl (fun k => nI (f k))))) (ht : tys[t0]? = some (cA, .int)) {i : Nat} (hi : i < n) (hn : n < 2 ^ 31) (hdg : decode cc pc = .ok (.iaload, 1))
    (kk : W p l e R s m args below meth c H locs cells slots Q (F0 m (pc + 1) ls (.int (nI (f i)) :: rest))) : W p l e R s m args below meth c H locs cells slots Q (F0 m pc ls (.int (nI i) :: .ref a :: rest)) :=
  hx_iald hexec hb hK hP q0 t0 ha ht hi hn hdg kk
theorem hx_zald (hexec : p.tables.exec = Jvm.exec) (hb : c.code = cc) (hK : va_K D cl tys s) (hP : va_P D cl ws H) (q0 t0 : Nat) {cA : ClassId} {n : Nat} {f : Nat → Bool} (ha : ws[q0]? = some (a, .inl (cA, n, .inl (fun k => bI (f k))))) (ht : tys[t0]? = some (cA, .boolean)) {i : Nat} (hi : i < n) (hn : n < 2 ^ 31) (hdg : decode cc pc = .ok (.baload, 1))
    (kk : W p l e R s m args below meth c H locs cells slots Q (F0 m (pc + 1) ls (.int (bI (f i)) :: rest))) : W p l e R s m args below meth c H locs cells slots Q (F0 m pc ls (.int (nI i) :: .ref a :: rest)) :=
  va_zald hexec hb hK hP q0 t0 ha ht (vp_in_nI hi hn) hdg (by rw [nI_clamp (by omega)]; exact kk)
theorem hx_aald (hexec : p.tables.exec = Jvm.exec) (hb : c.code = cc) (hK : va_K D cl tys s) (hP : va_P D cl ws H) (q0 t0 : Nat) {cA : ClassId} {C : String} {n : Nat} {f : Nat → Nat} (ha : ws[q0]? = some (a, .inl (cA, n, .inr (.inr (.inr (.inr (fun k => some (f k)))))))) (ht : tys[t0]? = some (cA, .object C)) {i : Nat} (hi : i < n) (hn : n < 2 ^ 31) (hdg : decode cc pc = .ok (.aaload, 1))
    (kk : W p l e R s m args below meth c H locs cells slots Q (F0 m (pc + 1) ls (.ref (f i) :: rest))) : W p l e R s m args below meth c H locs cells slots Q (F0 m pc ls (.int (nI i) :: .ref a :: rest)) :=
  va_aldq hexec hb hK hP q0 t0 ha ht (vp_in_nI hi hn) hdg (by rw [nI_clamp (by omega)]; exact kk)
theorem hx_iast (hexec : p.tables.exec = Jvm.exec) (hb : c.code = cc) (hK : va_K D cl tys s) (hP : va_P D cl ws H) (hD : va_D A ws) (hS : va_S A H0 H locs) (q0 t0 : Nat) {cA : ClassId} {n : Nat} {f : Nat → Int32} (ha : ws[q0]? = some (a, .inl (cA, n, .inl f))) (ht : tys[t0]? = some (cA, .int)) {i : Nat} {x : Int32} (hi : i < n) (hn : n < 2 ^ 31) (hdg : decode cc pc = .ok (.iastore, 1))
    (kk : ∀ (H1 : Heap) (locs1 : List Loc), va_P D cl (ws.set q0 (a, .inl (cA, n, .inl (upd f i x)))) H1 → va_D A (ws.set q0 (a, .inl (cA, n, .inl (upd f i x)))) → va_S A H0 H1 locs1 → W p l e R s m args below meth c H1 locs1 cells slots Q (F0 m (pc + 1) ls rest)) : W p l e R s m args below meth c H locs cells slots Q (F0 m pc ls (.int x :: .int (nI i) :: .ref a :: rest)) :=
  va_iast hexec hb hK hP hD hS q0 t0 ha ht (vp_in_nI hi hn) hdg (by rw [nI_clamp (by omega)]; exact kk)
theorem upd_nI (f : Nat → Nat) (i v : Nat) : upd (fun k => nI (f k)) i (nI v) = fun k => nI (va_up f i v k) := by
  funext j
  unfold upd va_up
  split <;> rfl
theorem hx_iastN (hexec : p.tables.exec = Jvm.exec) (hb : c.code = cc) (hK : va_K D cl tys s) (hP : va_P D cl ws H) (hD : va_D A ws) (hS : va_S A H0 H locs) (q0 t0 : Nat) {cA : ClassId} {n : Nat} {f : Nat → Nat} (ha : ws[q0]? = some (a, .inl (cA, n, .inl (fun k => nI (f k))))) (ht : tys[t0]? = some (cA, .int)) {i v : Nat} (hi : i < n) (hn : n < 2 ^ 31) (hdg : decode cc pc = .ok (.iastore, 1))
    (kk : ∀ (H1 : Heap) (locs1 : List Loc), va_P D cl (ws.set q0 (a, .inl (cA, n, .inl (fun k => nI (va_up f i v k))))) H1 → va_D A (ws.set q0 (a, .inl (cA, n, .inl (fun k => nI (va_up f i v k))))) → va_S A H0 H1 locs1 → W p l e R s m args below meth c H1 locs1 cells slots Q (F0 m (pc + 1) ls rest)) : W p l e R s m args below meth c H locs cells slots Q (F0 m pc ls (.int (nI v) :: .int (nI i) :: .ref a :: rest)) :=
  hx_iast hexec hb hK hP hD hS q0 t0 ha ht hi hn hdg (by rw [upd_nI]; exact kk)
theorem upd_bI (f : Nat → Bool) (i : Nat) (v : Bool) : upd (fun k => bI (f k)) i (vp_nar .boolean (bI v)) = fun k => bI (va_up f i v k) := by
  funext j
  unfold upd va_up
  split
  · cases v <;> decide
  · rfl
theorem hx_zast (hexec : p.tables.exec = Jvm.exec) (hb : c.code = cc) (hK : va_K D cl tys s) (hP : va_P D cl ws H) (hD : va_D A ws) (hS : va_S A H0 H locs) (q0 t0 : Nat) {cA : ClassId} {n : Nat} {f : Nat → Bool} (ha : ws[q0]? = some (a, .inl (cA, n, .inl (fun k => bI (f k))))) (ht : tys[t0]? = some (cA, .boolean)) {i : Nat} {v : Bool} (hi : i < n) (hn : n < 2 ^ 31) (hdg : decode cc pc = .ok (.bastore, 1))
    (kk : ∀ (H1 : Heap) (locs1 : List Loc), va_P D cl (ws.set q0 (a, .inl (cA, n, .inl (fun k => bI (va_up f i v k))))) H1 → va_D A (ws.set q0 (a, .inl (cA, n, .inl (fun k => bI (va_up f i v k))))) → va_S A H0 H1 locs1 → W p l e R s m args below meth c H1 locs1 cells slots Q (F0 m (pc + 1) ls rest)) : W p l e R s m args below meth c H locs cells slots Q (F0 m pc ls (.int (bI v) :: .int (nI i) :: .ref a :: rest)) :=
  va_zast hexec hb hK hP hD hS q0 t0 ha ht (vp_in_nI hi hn) hdg (by rw [nI_clamp (by omega), upd_bI]; exact kk)
/-! reading calls: the heap stays, the answer is a number -/
theorem hx_read {v : Int32} {a : Array Value} {st0 : List Value} (hr : va_Run p l e R s m args below meth c H locs cells slots 0 0 (F0 m pc ls st0) rest (vp_Si (fun r => r = v) a) (fun _ => False))
    (kk : W p l e R s m args below meth c H locs cells slots Q (F0 m (pc + 3) ls (.int v :: rest))) : W p l e R s m args below meth c H locs cells slots Q (F0 m pc ls st0) :=
  vp_callSi hr.run (fun r hr => by rw [hr]; exact kk)
end HX
/-- what a reading method is told: the cells, the tables' words, the links between nest mates -/
def rdP (D : va_G) (cl : List vw_C) (ws : va_W) (tys : List (ClassId × FieldType)) (nst : List Cond) (U : State) : Prop := va_P D cl ws U.heap ∧ va_K D cl tys U ∧ ∀ w ∈ nst, va_Nw w U
/-- words on nest mates that a warmed machine keeps -/
def nstOk : Cond → Prop
  | .fieldLinkNest _ _ _ _ _ _ => True
  | .methodLinkNest _ _ _ _ => True
  | _ => False
theorem nst_warm {nst : List Cond} (h : ∀ w ∈ nst, nstOk w) {s U : State} (hW : s.WarmedH U.vm) (hN : ∀ w ∈ nst, va_Nw w s) : ∀ w ∈ nst, va_Nw w U := by
  intro w hw
  have h1 := h w hw
  have h2 := hN w hw
  match w, h1, h2 with
  | .fieldLinkNest _ _ _ _ _ _, _, h2 => exact va_Nw.warmF hW h2
  | .methodLinkNest _ _ _ _, _, h2 => exact va_Nw.warmM hW h2
theorem nst_calling {nst : List Cond} (h : ∀ w ∈ nst, nstOk w) {U : State} {g : JFrame} {mk : MethodId} {a : Array Value} (hN : ∀ w ∈ nst, va_Nw w U) : ∀ w ∈ nst, va_Nw w (U.calling g mk a) := by
  intro w hw
  have h1 := h w hw
  have h2 := hN w hw
  match w, h1, h2 with
  | .fieldLinkNest _ _ _ _ _ _, _, h2 => exact va_Nw.same rfl rfl h2
  | .methodLinkNest _ _ _ _, _, h2 => exact va_Nw.same rfl rfl h2
theorem rd_blind {D : va_G} {cl : List vw_C} {ws : va_W} {tys : List (ClassId × FieldType)} {nst : List Cond} (h : ∀ w ∈ nst, nstOk w) {As : List Value} : FrameBlind (va_Pc As (rdP D cl ws tys nst)) := by
  intro a U g mk q
  obtain ⟨q0, qP, qK, qN⟩ := q
  exact ⟨q0, qP, va_K.moved (u := U) (U := U.calling g mk a) (Vm.Alike.refl U.vm) qK, nst_calling h qN⟩
theorem rd_at {D : va_G} {cl : List vw_C} {ws : va_W} {tys : List (ClassId × FieldType)} {nst : List Cond} (h : ∀ w ∈ nst, nstOk w) {s : State} {H : Heap} (hP : va_P D cl ws H) (hK : va_K D cl tys s) (hN : ∀ w ∈ nst, va_Nw w s) {U : State} (hU : U.heap = H) (hW : s.WarmedH U.vm) : rdP D cl ws tys nst U :=
  ⟨by rw [hU]; exact hP, va_K.moved hW.alike hK, nst_warm h hW hN⟩
theorem rd_S {D : va_G} {cl : List vw_C} {ws : va_W} {tys : List (ClassId × FieldType)} {nst : List Cond} (h : ∀ w ∈ nst, nstOk w) {s : State} {H : Heap} (hP : va_P D cl ws H) (hK : va_K D cl tys s) (hN : ∀ w ∈ nst, va_Nw w s) (As : List Value) : PreS s H (va_Pc As (rdP D cl ws tys nst)) As :=
  ⟨rd_blind h, fun _ hU hW => ⟨rfl, rd_at h hP hK hN hU hW⟩⟩
theorem rd_V {D : va_G} {cl : List vw_C} {ws : va_W} {tys : List (ClassId × FieldType)} {nst : List Cond} (h : ∀ w ∈ nst, nstOk w) {s : State} {H : Heap} (hP : va_P D cl ws H) (hK : va_K D cl tys s) (hN : ∀ w ∈ nst, va_Nw w s) {b ci : Nat} {C : String} {T : u_T} {n : Nat} {fs : List Value} (q0 : Nat) (he : ws[q0]? = some (b, .inr (ci, fs))) (hc : cl[ci]? = some (C, T, n)) (As : List Value) : PreV s H C b (va_Pc (.ref b :: As) (rdP D cl ws tys nst)) As :=
  ⟨rd_blind h, va_recv hK hP (ci := ci) (q0 := q0) (q := (C, T, n)) hc he, fun _ hU hW => ⟨rfl, rd_at h hP hK hN hU hW⟩⟩
/-- a method that looks at nothing but its numbers -/
theorem nu_S {s : State} {H : Heap} (As : List Value) : PreS s H (va_Pc As (fun _ => True)) As := ⟨fun _ _ _ _ q => q, fun _ _ _ => ⟨rfl, trivial⟩⟩
/-- contracts: a reading method; a method of numbers alone -/
def RdM (l : Launch) (y : MethodName) (w : List Cond) (rm : Room) (D : va_G) (cl : List vw_C) (ws : va_W) (tys : List (ClassId × FieldType)) (nst : List Cond) (As : List Value) (v : Int32) : Prop := Met l y w rm (va_Pc As (rdP D cl ws tys nst)) (vp_Si (fun r => r = v)) 0 0 (fun _ => False)
def NuM (l : Launch) (y : MethodName) (w : List Cond) (rm : Room) (As : List Value) (v : Int32) : Prop := Met l y w rm (va_Pc As (fun _ => True)) (vp_Si (fun r => r = v)) 0 0 (fun _ => False)
/-- a writing method: its cells before, its cells behind, its answer -/
def wrP (D : va_G) (cl : List vw_C) (ws : va_W) (tys : List (ClassId × FieldType)) (nst : List Cond) (sz : Nat) (U : State) : Prop := U.heap.size = sz ∧ rdP D cl ws tys nst U ∧ va_D (fun _ => True) ws
def wrB (D : va_G) (cl : List vw_C) (ws ws' : va_W) (tys : List (ClassId × FieldType)) (sz : Nat) (_ : Unit) (t : State) : Prop := va_P D cl ws' t.heap ∧ va_K D cl tys t ∧ va_D (va_A ws sz) ws'
def WrV (l : Launch) (y : MethodName) (w : List Cond) (rm : Room) (D : va_G) (cl : List vw_C) (ws ws' : va_W) (tys : List (ClassId × FieldType)) (nst : List Cond) (As : List Value) : Prop := ∀ sz : Nat, Met l y w rm (va_Pc As (wrP D cl ws tys nst sz)) (va_Qv (fun _ : Unit => True) (wrB D cl ws ws' tys sz) (va_A ws sz)) 0 0 (va_A ws sz)
def WrI (l : Launch) (y : MethodName) (w : List Cond) (rm : Room) (D : va_G) (cl : List vw_C) (ws ws' : va_W) (tys : List (ClassId × FieldType)) (nst : List Cond) (As : List Value) (v : Int32) : Prop := ∀ sz : Nat, Met l y w rm (va_Pc As (wrP D cl ws tys nst sz)) (va_Qi (fun (r : Int32) (_ : Unit) => r = v) (wrB D cl ws ws' tys sz) (va_A ws sz)) 0 0 (va_A ws sz)
theorem wr_blind {D : va_G} {cl : List vw_C} {ws : va_W} {tys : List (ClassId × FieldType)} {nst : List Cond} (h : ∀ w ∈ nst, nstOk w) {As : List Value} {sz : Nat} : FrameBlind (va_Pc As (wrP D cl ws tys nst sz)) := by
  intro a U g mk q
  obtain ⟨q0, q1, ⟨qP, qK, qN⟩, qD⟩ := q
  exact ⟨q0, q1, ⟨qP, va_K.moved (u := U) (U := U.calling g mk a) (Vm.Alike.refl U.vm) qK, nst_calling h qN⟩, qD⟩
theorem wr_at {D : va_G} {cl : List vw_C} {ws : va_W} {tys : List (ClassId × FieldType)} {nst : List Cond} (h : ∀ w ∈ nst, nstOk w) {s : State} {H : Heap} {A : Nat → Prop} (hP : va_P D cl ws H) (hK : va_K D cl tys s) (hN : ∀ w ∈ nst, va_Nw w s) (hD : va_D A ws) {U : State} (hU : U.heap = H) (hW : s.WarmedH U.vm) : wrP D cl ws tys nst H.size U :=
  ⟨by rw [hU], rd_at h hP hK hN hU hW, hD.weaken (fun _ _ _ _ => trivial)⟩
theorem wr_S {D : va_G} {cl : List vw_C} {ws : va_W} {tys : List (ClassId × FieldType)} {nst : List Cond} (h : ∀ w ∈ nst, nstOk w) {s : State} {H : Heap} {A : Nat → Prop} (hP : va_P D cl ws H) (hK : va_K D cl tys s) (hN : ∀ w ∈ nst, va_Nw w s) (hD : va_D A ws) (As : List Value) : PreS s H (va_Pc As (wrP D cl ws tys nst H.size)) As :=
  ⟨wr_blind h, fun _ hU hW => ⟨rfl, wr_at h hP hK hN hD hU hW⟩⟩
theorem wr_V {D : va_G} {cl : List vw_C} {ws : va_W} {tys : List (ClassId × FieldType)} {nst : List Cond} (h : ∀ w ∈ nst, nstOk w) {s : State} {H : Heap} {A : Nat → Prop} (hP : va_P D cl ws H) (hK : va_K D cl tys s) (hN : ∀ w ∈ nst, va_Nw w s) (hD : va_D A ws) {b ci : Nat} {C : String} {T : u_T} {n : Nat} {fs : List Value} (q0 : Nat) (he : ws[q0]? = some (b, .inr (ci, fs))) (hc : cl[ci]? = some (C, T, n)) (As : List Value) : PreV s H C b (va_Pc (.ref b :: As) (wrP D cl ws tys nst H.size)) As :=
  ⟨wr_blind h, va_recv hK hP (ci := ci) (q0 := q0) (q := (C, T, n)) hc he, fun _ hU hW => ⟨rfl, wr_at h hP hK hN hD hU hW⟩⟩
theorem wr_all {A0 : Nat → Prop} {ws : va_W} {H0 H : Heap} {locs : List Loc} (hD : va_D A0 ws) (hS : va_S A0 H0 H locs) (hA : ∀ q, H0.size ≤ q → A0 q) : ∀ q, va_A ws H.size q → A0 q := by
  intro q h
  rcases h with ⟨k, e, h⟩ | h
  · exact hD.2 k _ h
  · exact hA q (Nat.le_trans hS.1 h)
section HW
variable {p : Program} {l : Launch} {e : Env} {R : Room} {s : State} {m : MethodId} {args : Array Value} {below : List Frame} {meth : Method} {c : Code} {H : Heap} {locs : List Loc} {cells slots : Nat} {Q : State → Prop}
variable {cc : ByteArray} {pc : Nat} {ls : Array Slot} {rest : List Value} {D : va_G} {cl : List vw_C} {A : Nat → Prop} {tys : List (ClassId × FieldType)} {ws ws' : va_W} {H0 : Heap}
/-- behind a writing call over all the caller's cells -/
theorem hx_wrv {a : Array Value} {st0 : List Value} (hr : va_Run p l e R s m args below meth c H locs cells slots 0 0 (F0 m pc ls st0) rest (va_Qv (fun _ : Unit => True) (wrB D cl ws ws' tys H.size) (va_A ws H.size) a) (va_A ws H.size)) (hD : va_D A ws) (hS : va_S A H0 H locs) (hA : ∀ q, H0.size ≤ q → A q)
    (kk : ∀ (H1 : Heap) (locs1 : List Loc), va_P D cl ws' H1 → va_D A ws' → va_S A H0 H1 locs1 → W p l e R s m args below meth c H1 locs1 cells slots Q (F0 m (pc + 3) ls rest)) : W p l e R s m args below meth c H locs cells slots Q (F0 m pc ls st0) :=
  va_callv hr hS (fun q _ h => wr_all hD hS hA q h) (wr_all hD hS hA) (fun u t H1 locs1 ht hvm _ hB hz1 hk1 hS1 => by
    obtain ⟨hP1, hK1, hD1⟩ := hB
    rw [ht] at hP1
    exact kk H1 locs1 hP1 ⟨hD1.1, fun k q hq => wr_all hD hS hA _ (hD1.2 k q hq)⟩ hS1)
theorem hx_wri {v : Int32} {a : Array Value} {st0 : List Value} (hr : va_Run p l e R s m args below meth c H locs cells slots 0 0 (F0 m pc ls st0) rest (va_Qi (fun (r : Int32) (_ : Unit) => r = v) (wrB D cl ws ws' tys H.size) (va_A ws H.size) a) (va_A ws H.size)) (hD : va_D A ws) (hS : va_S A H0 H locs) (hA : ∀ q, H0.size ≤ q → A q)
    (kk : ∀ (H1 : Heap) (locs1 : List Loc), va_P D cl ws' H1 → va_D A ws' → va_S A H0 H1 locs1 → W p l e R s m args below meth c H1 locs1 cells slots Q (F0 m (pc + 3) ls (.int v :: rest))) : W p l e R s m args below meth c H locs cells slots Q (F0 m pc ls st0) :=
  va_calli hr hS (fun q _ h => wr_all hD hS hA q h) (wr_all hD hS hA) (fun r u t H1 locs1 ht hvm hw hB hz1 hk1 hS1 => by
    obtain ⟨hP1, hK1, hD1⟩ := hB
    rw [ht] at hP1
    have hw : r = v := hw
    rw [hw]
    exact kk H1 locs1 hP1 ⟨hD1.1, fun k q hq => wr_all hD hS hA _ (hD1.2 k q hq)⟩ hS1)
end HW

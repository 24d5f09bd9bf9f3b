/-! the reference: its small methods, the needs, the instances, one step of growing -/
theorem hx_neB {p : Program} {l : Launch} {e : Env} {R : Room} {s : State} {m : MethodId} {args : Array Value} {below : List Frame} {meth : Method} {c : Code} {H : Heap} {locs : List Loc} {cells slots : Nat} {Q : State → Prop} {cc : ByteArray} {pc : Nat} {ls : Array Slot} {rest : List Value} {b : Bool} (hexec : p.tables.exec = Jvm.exec) (hb : c.code = cc) {off : Int} {tgt : Nat} (hdg : decode cc pc = .ok (.if_icmp .ne off, 3)) (ht : (pc : Int) + off = (tgt : Int))
    (kt : b = false → W p l e R s m args below meth c H locs cells slots Q (F0 m tgt ls rest)) (kf : b = true → W p l e R s m args below meth c H locs cells slots Q (F0 m (pc + 3) ls rest)) : W p l e R s m args below meth c H locs cells slots Q (F0 m pc ls (.int (nI 1) :: .int (bI b) :: rest)) :=
  lv_icmp_ne hexec hb hdg ht (fun h => kt (by cases b with | true => exact absurd rfl h | false => rfl)) (fun h => kf (bI_1.mp h))
def wiM (v : Int32) (lo hi : Nat) : Bool := !decide (v < nI lo) && !decide (nI hi < v)
def piM (r x y : Int32) : Bool := wiM r 0 6 && (wiM x 0 4 && wiM y 0 4)
theorem wiM_nI {v lo hi : Nat} (h1 : lo ≤ v) (h2 : v ≤ hi) (h : hi < 2 ^ 31) : wiM (nI v) lo hi = true := by
  unfold wiM
  rw [decide_eq_false (nI_nlt h1 (by omega)), decide_eq_false (nI_nlt h2 (by omega))]
  rfl
theorem piM_nI {r x y : Nat} (h1 : r < 7) (h2 : x < 5) (h3 : y < 5) : piM (nI r) (nI x) (nI y) = true := by
  unfold piM
  rw [wiM_nI (by omega) (by omega) (by omega), wiM_nI (by omega) (by omega) (by omega), wiM_nI (by omega) (by omega) (by omega)]
  rfl
def onF (m : Int32) : Nat → Nat → Nat → Nat
  | 0, _, w => w
  | n + 1, k, w => onF m n (k + 1) (w + (if bt m k = true then 1 else 0))
theorem onF_at (m : Int32) : ∀ (n k : Nat), onF m n k (cntB m k) = cntB m (k + n) := by
  intro n
  induction n with
  | zero => intro k; rfl
  | succ n ih =>
    intro k
    rw [onF]
    have h : cntB m k + (if bt m k = true then 1 else 0) = cntB m (k + 1) := rfl
    rw [h, ih, show k + 1 + n = k + (n + 1) by omega]
theorem onF_cnt (m : Int32) : onF m 25 0 0 = cntB m 25 := by
  have h := onF_at m 25 0
  rw [show cntB m 0 = 0 from rfl, Nat.zero_add] at h
  exact h
def fbF : Nat → Nat → (Nat → Bool) → Nat → Bool
  | 0, _, f => f
  | k + 1, j, f => fbF k (j + 1) (va_up f j false)
def neR (hd fm rp rq : Nat → Nat) : Nat → Nat → (Nat → Bool) → Nat → Bool
  | 0, _, f => f
  | k + 1, i, f => neR hd fm rp rq k (i + 1) (va_up (va_up f (7 * hd i + rp i) true) (7 * hd i + rq i) (va_up f (7 * hd i + rp i) true (7 * hd i + rq i) || decide (1 < fm i)))
def neB (mm aa : Nat) : Nat → Nat → (Nat → Bool) → Nat → Bool
  | 0, _, f => f
  | k + 1, bb, f => neB mm aa k (bb + 1) (va_up f (7 * aa + bb) (f (7 * aa + bb) || (f (7 * aa + mm) && f (7 * mm + bb))))
def neA (mm : Nat) : Nat → Nat → (Nat → Bool) → Nat → Bool
  | 0, _, f => f
  | k + 1, aa, f => neA mm k (aa + 1) (neB mm aa 7 0 f)
def neM : Nat → Nat → (Nat → Bool) → Nat → Bool
  | 0, _, f => f
  | k + 1, mm, f => neM k (mm + 1) (neA mm 7 0 f)
def neW (n : Nat) (hd fm rp rq : Nat → Nat) (ne : Nat → Bool) : Nat → Bool := neM 7 0 (neR hd fm rp rq n 0 (fbF 49 0 ne))
def cyM (hd fm rq : Nat → Nat) (ne : Nat → Bool) : Nat → Nat → Bool → Bool
  | 0, _, bad => bad
  | k + 1, i, bad => cyM hd fm rq ne k (i + 1) (bad || (decide (fm i = 4) && (decide (rq i = hd i) || ne (7 * rq i + hd i))))
def miM (f : Nat) (P Q : Int32) (x y : Nat) : Nat := if f = 0 then (if bt P (5 * x + y) = true then 1 else 0) else if f = 1 then (if bt P (5 * y + x) = true then 1 else 0) else if f = 2 then insJ P Q x y 5 0 0 else if f = 3 then (if (bt P (5 * x + y) && bt Q (5 * x + y)) = true then 1 else 0) else (if (bt P (5 * x + y) && !bt Q (5 * x + y)) = true then 1 else 0)
def mcF (hd fm rp rq : Nat → Nat) (nw : Nat → Int32) (v x y : Nat) : Nat → Nat → Nat → Nat
  | 0, _, w => w
  | k + 1, i, w => mcF hd fm rp rq nw v x y k (i + 1) (if hd i = v then w + miM (fm i) (nw (rp i)) (nw (rq i)) x y else w)
theorem insJ_le (P Q : Int32) (x y : Nat) : ∀ (n z w : Nat), insJ P Q x y n z w ≤ w + n := by
  intro n
  induction n with
  | zero => intro z w; exact Nat.le_refl _
  | succ n ih =>
    intro z w
    rw [insJ]
    refine Nat.le_trans (ih _ _) ?_
    split <;> omega
theorem miM_le (f : Nat) (P Q : Int32) (x y : Nat) : miM f P Q x y ≤ 5 := by
  unfold miM
  have := insJ_le P Q x y 5 0 0
  split
  · split <;> omega
  · split
    · split <;> omega
    · split
      · omega
      · split
        · split <;> omega
        · split <;> omega
theorem mcF_le (hd fm rp rq : Nat → Nat) (nw : Nat → Int32) (v x y : Nat) : ∀ (k i w : Nat), mcF hd fm rp rq nw v x y k i w ≤ w + 5 * k := by
  intro k
  induction k with
  | zero => intro i w; exact Nat.le_refl _
  | succ k ih =>
    intro i w
    rw [mcF]
    refine Nat.le_trans (ih _ _) ?_
    have := miM_le (fm i) (nw (rp i)) (nw (rq i)) x y
    split <;> omega
def grI (n : Nat) (hd fm rp rq : Nat → Nat) (nw : Nat → Int32) (v x : Nat) : Nat → Nat → Int32 → Int32
  | 0, _, m => m
  | k + 1, y, m => grI n hd fm rp rq nw v x k (y + 1) (if mcF hd fm rp rq nw v x y n 0 0 = 0 then m else m ||| bm (5 * x + y))
def grO (n : Nat) (hd fm rp rq : Nat → Nat) (nw : Nat → Int32) (v : Nat) : Nat → Nat → Int32 → Int32
  | 0, _, m => m
  | k + 1, x, m => grO n hd fm rp rq nw v k (x + 1) (grI n hd fm rp rq nw v x 5 0 m)
def toM (ne : Nat → Bool) (v w : Nat) : Bool := decide (v = w) || (ne (7 * v + w) && ne (7 * w + v))
def duF (ne dn : Nat → Bool) (v : Nat) : Nat → Nat → Bool → Bool
  | 0, _, al => al
  | k + 1, w, al => duF ne dn v k (w + 1) (al && (dn w || (!ne (7 * v + w) || toM ne v w)))
set_option maxHeartbeats 4000000 in
set_option maxRecDepth 100000 in
theorem c_X3_within (l : Launch) (v0 : Int32) (lo hi : Nat)  : NuM l yX3_within wsX3_within ({ frames := 0, cells := 0, slots := 0, locals := 0 }) [.int (v0), .int (nI lo), .int (nI hi)] (bI (wiM v0 lo hi)) := by
  refine Met.ofW (cc := cX3_within) (maxL := 3) (ret := (some .boolean)) (by decide) rfl ?_
  intro p e s m args below meth c s₁ B hml hv
  obtain ⟨rfl, -⟩ := hv
  have hx := B.exec
  have hb := B.bytes
  have hr := B.returns
  have hts := atoms_spec (ws := wsX3_within) B.pre
  have hown : s.vm.findClass RX3 = some m.cls := findClass_of_methodNamed B.named
  have hlocks := B.notSynchronized
  have hl := lv_entry ([.int (v0), .int (nI lo), .int (nI hi)]) (n := 3) (Nat.le_of_ble_eq_true rfl)
  rw [lg_entry_eq]
  generalize (lg_sl ([.int (v0), .int (nI lo), .int (nI hi)]) ++ List.replicate (3 - (lg_sl ([.int (v0), .int (nI lo), .int (nI hi)])).length) Slot.unset).toArray = ls at hl ⊢
  have hl : lv_has ls 3 [(0, .int (v0)), (1, .int (nI lo)), (2, .int (nI hi))] := hl
  refine lv_iload_n hx hb dX3_within_0 rfl (lv_at hl 0 rfl) ?_
  refine lv_iload_n hx hb dX3_within_1 rfl (lv_at hl 1 rfl) ?_
  refine lv_icmp_lt (tgt := 14) hx hb dX3_within_2 (by decide) (fun c_1 => ?_) (fun c_1 => ?_)
  · refine lv_iconst (v := nI 0) hx hb dX3_within_14 (by decide) ?_
    exact W.zret (v := nI 0) hx hb hr rfl (fun t ht hW => ⟨_, rfl, by rw [show wiM v0 lo hi = false from by simp [wiM, c_1]]; rfl, ht⟩) (fun _ h => by cases h) dX3_within_15
  · refine lv_iload_n hx hb dX3_within_5 rfl (lv_at hl 0 rfl) ?_
    refine lv_iload_n hx hb dX3_within_6 rfl (lv_at hl 2 rfl) ?_
    refine lv_icmp_gt (tgt := 14) hx hb dX3_within_7 (by decide) (fun c_2 => ?_) (fun c_2 => ?_)
    · refine lv_iconst (v := nI 0) hx hb dX3_within_14 (by decide) ?_
      exact W.zret (v := nI 0) hx hb hr rfl (fun t ht hW => ⟨_, rfl, by rw [show wiM v0 lo hi = false from by simp [wiM, c_1, c_2]]; rfl, ht⟩) (fun _ h => by cases h) dX3_within_15
    · refine lv_iconst (v := nI 1) hx hb dX3_within_10 (by decide) ?_
      refine lv_goto (tgt := 15) hx hb dX3_within_11 (by decide) ?_
      exact W.zret (v := nI 1) hx hb hr rfl (fun t ht hW => ⟨_, rfl, by rw [show wiM v0 lo hi = true from by simp [wiM, c_1, c_2]]; rfl, ht⟩) (fun _ h => by cases h) dX3_within_15
set_option maxHeartbeats 4000000 in
set_option maxRecDepth 100000 in
theorem c_X3_bit (l : Launch) (x y : Nat)  : NuM l yX3_bit wsX3_bit ({ frames := 0, cells := 0, slots := 0, locals := 0 }) [.int (nI x), .int (nI y)] (bm (5 * x + y)) := by
  refine Met.ofW (cc := cX3_bit) (maxL := 2) (ret := (some .int)) (by decide) rfl ?_
  intro p e s m args below meth c s₁ B hml hv
  obtain ⟨rfl, -⟩ := hv
  have hx := B.exec
  have hb := B.bytes
  have hr := B.returns
  have hts := atoms_spec (ws := wsX3_bit) B.pre
  have hown : s.vm.findClass RX3 = some m.cls := findClass_of_methodNamed B.named
  have hlocks := B.notSynchronized
  have hl := lv_entry ([.int (nI x), .int (nI y)]) (n := 2) (Nat.le_of_ble_eq_true rfl)
  rw [lg_entry_eq]
  generalize (lg_sl ([.int (nI x), .int (nI y)]) ++ List.replicate (2 - (lg_sl ([.int (nI x), .int (nI y)])).length) Slot.unset).toArray = ls at hl ⊢
  have hl : lv_has ls 2 [(0, .int (nI x)), (1, .int (nI y))] := hl
  refine lv_iconst (v := nI 1) hx hb dX3_bit_0 (by decide) ?_
  refine lv_iconst (v := nI 5) hx hb dX3_bit_1 (by decide) ?_
  refine lv_iload_n hx hb dX3_bit_2 rfl (lv_at hl 0 rfl) ?_
  refine hx_imul hx hb dX3_bit_3 ?_
  refine lv_iload_n hx hb dX3_bit_4 rfl (lv_at hl 1 rfl) ?_
  refine hx_iadd hx hb dX3_bit_5 ?_
  refine lv_ishl hx hb dX3_bit_6 ?_
  refine hx_eq (y := bm ((5 * x) + y)) rfl ?_
  exact W.iret (v := bm ((5 * x) + y)) hx hb hr (fun t ht hW => ⟨_, rfl, rfl, ht⟩) (fun _ h => by cases h) dX3_bit_7
set_option maxHeartbeats 4000000 in
set_option maxRecDepth 100000 in
theorem c_X3_in (l : Launch) (m0 : Int32) (x y : Nat) (hy_0 : x < 5) (hy_1 : y < 5) : NuM l yX3_in wsX3_in ({ frames := 0, cells := 0, slots := 0, locals := 0 }) [.int (m0), .int (nI x), .int (nI y)] (bI (bt m0 (5 * x + y))) := by
  refine Met.ofW (cc := cX3_in) (maxL := 3) (ret := (some .boolean)) (by decide) rfl ?_
  intro p e s m args below meth c s₁ B hml hv
  obtain ⟨rfl, -⟩ := hv
  have hx := B.exec
  have hb := B.bytes
  have hr := B.returns
  have hts := atoms_spec (ws := wsX3_in) B.pre
  have hown : s.vm.findClass RX3 = some m.cls := findClass_of_methodNamed B.named
  have hlocks := B.notSynchronized
  have hl := lv_entry ([.int (m0), .int (nI x), .int (nI y)]) (n := 3) (Nat.le_of_ble_eq_true rfl)
  rw [lg_entry_eq]
  generalize (lg_sl ([.int (m0), .int (nI x), .int (nI y)]) ++ List.replicate (3 - (lg_sl ([.int (m0), .int (nI x), .int (nI y)])).length) Slot.unset).toArray = ls at hl ⊢
  have hl : lv_has ls 3 [(0, .int (m0)), (1, .int (nI x)), (2, .int (nI y))] := hl
  refine lv_iload_n hx hb dX3_in_0 rfl (lv_at hl 0 rfl) ?_
  refine lv_iconst (v := nI 5) hx hb dX3_in_1 (by decide) ?_
  refine lv_iload_n hx hb dX3_in_2 rfl (lv_at hl 1 rfl) ?_
  refine hx_imul hx hb dX3_in_3 ?_
  refine lv_iload_n hx hb dX3_in_4 rfl (lv_at hl 2 rfl) ?_
  refine hx_iadd hx hb dX3_in_5 ?_
  refine lv_ishr hx hb dX3_in_6 ?_
  refine lv_iconst (v := nI 1) hx hb dX3_in_7 (by decide) ?_
  refine lv_iand hx hb dX3_in_8 ?_
  refine hx_eq (bt_read m0 (k := (5 * x) + y) (by omega)) ?_
  refine lv_iconst (v := nI 1) hx hb dX3_in_9 (by decide) ?_
  refine hx_neB (tgt := 17) hx hb dX3_in_10 (by decide) (fun c_1 => ?_) (fun c_1 => ?_)
  · refine lv_iconst (v := nI 0) hx hb dX3_in_17 (by decide) ?_
    exact W.zret (v := nI 0) hx hb hr rfl (fun t ht hW => ⟨_, rfl, by rw [c_1]; rfl, ht⟩) (fun _ h => by cases h) dX3_in_18
  · refine lv_iconst (v := nI 1) hx hb dX3_in_13 (by decide) ?_
    refine lv_goto (tgt := 18) hx hb dX3_in_14 (by decide) ?_
    exact W.zret (v := nI 1) hx hb hr rfl (fun t ht hW => ⟨_, rfl, by rw [c_1]; rfl, ht⟩) (fun _ h => by cases h) dX3_in_18
set_option maxHeartbeats 4000000 in
set_option maxRecDepth 100000 in
theorem c_X3_ones (l : Launch) (p0 : Int32)  : NuM l yX3_ones wsX3_ones ({ frames := 0, cells := 0, slots := 0, locals := 0 }) [.int (p0)] (nI (cntB p0 25)) := by
  refine Met.ofW (cc := cX3_ones) (maxL := 3) (ret := (some .int)) (by decide) rfl ?_
  intro p e s m args below meth c s₁ B hml hv
  obtain ⟨rfl, -⟩ := hv
  have hx := B.exec
  have hb := B.bytes
  have hr := B.returns
  have hts := atoms_spec (ws := wsX3_ones) B.pre
  have hown : s.vm.findClass RX3 = some m.cls := findClass_of_methodNamed B.named
  have hlocks := B.notSynchronized
  have hl := lv_entry ([.int (p0)]) (n := 3) (Nat.le_of_ble_eq_true rfl)
  rw [lg_entry_eq]
  generalize (lg_sl ([.int (p0)]) ++ List.replicate (3 - (lg_sl ([.int (p0)])).length) Slot.unset).toArray = ls at hl ⊢
  have hl : lv_has ls 3 [(0, .int (p0))] := hl
  refine lv_iconst (v := nI 0) hx hb dX3_ones_0 (by decide) ?_
  refine lv_istore_n (lv' := [(1, .int (nI 0)), (0, .int (p0))]) hx hb dX3_ones_1 rfl hl (by decide) rfl (fun ls hl => ?_)
  refine lv_iconst (v := nI 0) hx hb dX3_ones_2 (by decide) ?_
  refine lv_istore_n (lv' := [(2, .int (nI 0)), (1, .int (nI 0)), (0, .int (p0))]) hx hb dX3_ones_3 rfl hl (by decide) rfl (fun ls hl => ?_)
  have L_4_0 : ∀ (nn : Nat) (k : Nat) (w : Nat), k + nn = 25 → ∀ ls : Array Slot, lv_has ls 3 [(0, .int (p0)), (1, .int (nI w)), (2, .int (nI k))] → (∀ ls : Array Slot, lv_has ls 3 [(0, .int (p0)), (1, .int (nI (onF p0 nn k w))), (2, .int (nI 25))] → W p l e (headSpec wsX3_ones ({ frames := 0, cells := 0, slots := 0, locals := 0 })).room s m ([.int (p0)] : List Value).toArray below meth c s.heap [] 0 0 (MQ below (vp_Si (fun rz9 => rz9 = (nI (cntB p0 25)))) ([.int (p0)] : List Value).toArray s 0 0 (fun _ => False)) (F0 m 24 ls [])) → W p l e (headSpec wsX3_ones ({ frames := 0, cells := 0, slots := 0, locals := 0 })).room s m ([.int (p0)] : List Value).toArray below meth c s.heap [] 0 0 (MQ below (vp_Si (fun rz9 => rz9 = (nI (cntB p0 25)))) ([.int (p0)] : List Value).toArray s 0 0 (fun _ => False)) (F0 m 4 ls []) := by
    intro nn
    induction nn with
    | zero =>
      intro k w hnk ls hl kx
      obtain rfl : k = 25 := by omega
      refine lv_iload_n hx hb dX3_ones_4 rfl (lv_at hl 2 rfl) ?_
      refine lv_bipush (v := nI 25) hx hb dX3_ones_5 (by decide) ?_
      refine hx_geN (tgt := 24) hx hb dX3_ones_7 (by decide) (by omega) (by omega) (fun c_2 => ?_) (fun c_2 => ?_)
      · exact kx ls (lv_sub hl [0, 1, 2] rfl)
      · exact absurd c_2 (by omega)
    | succ nn ih =>
      intro k w hnk ls hl kx
      refine lv_iload_n hx hb dX3_ones_4 rfl (lv_at hl 2 rfl) ?_
      refine lv_bipush (v := nI 25) hx hb dX3_ones_5 (by decide) ?_
      refine hx_geN (tgt := 24) hx hb dX3_ones_7 (by decide) (by omega) (by omega) (fun c_3 => ?_) (fun c_3 => ?_)
      · exact absurd c_3 (by omega)
      · refine lv_iload_n hx hb dX3_ones_10 rfl (lv_at hl 1 rfl) ?_
        refine lv_iload_n hx hb dX3_ones_11 rfl (lv_at hl 0 rfl) ?_
        refine lv_iload_n hx hb dX3_ones_12 rfl (lv_at hl 2 rfl) ?_
        refine lv_ishr hx hb dX3_ones_13 ?_
        refine lv_iconst (v := nI 1) hx hb dX3_ones_14 (by decide) ?_
        refine lv_iand hx hb dX3_ones_15 ?_
        refine hx_eq (bt_read p0 (k := k) (by omega)) ?_
        refine hx_eq (y := nI (if bt p0 k = true then 1 else 0)) (bI_nI _) ?_
        refine hx_iadd hx hb dX3_ones_16 ?_
        refine lv_istore_n (lv' := [(1, .int (nI (w + (if bt p0 k = true then 1 else 0)))), (0, .int (p0)), (2, .int (nI k))]) hx hb dX3_ones_17 rfl hl (by decide) rfl (fun ls hl => ?_)
        refine lv_iinc (v := nI (k + 1)) (lv' := [(2, .int (nI (k + 1))), (1, .int (nI (w + (if bt p0 k = true then 1 else 0)))), (0, .int (p0))]) hx hb dX3_ones_18 hl (k := 2) rfl (nI_add k 1) (by decide) rfl (fun ls hl => ?_)
        refine lv_goto (tgt := 4) hx hb dX3_ones_21 (by decide) ?_
        have kx := kx
        rw [show onF p0 (nn + 1) k w = onF p0 nn (k + 1) (w + (if bt p0 k = true then 1 else 0)) from rfl] at kx
        exact ih (k + 1) (w + (if bt p0 k = true then 1 else 0)) (by omega) ls (lv_sub hl [2, 1, 0] rfl) kx
  refine L_4_0 25 0 0 (by omega) ls (lv_sub hl [2, 1, 0] rfl) (fun ls hl => ?_)
  have hl : lv_has ls 3 [(0, .int (p0)), (1, .int (nI (onF p0 25 0 0))), (2, .int (nI 25))] := hl
  refine lv_iload_n hx hb dX3_ones_24 rfl (lv_at hl 1 rfl) ?_
  exact W.iret (v := nI (onF p0 25 0 0)) hx hb hr (fun t ht hW => ⟨_, rfl, by rw [onF_cnt p0], ht⟩) (fun _ h => by cases h) dX3_ones_25
set_option maxHeartbeats 4000000 in
set_option maxRecDepth 100000 in
theorem c_X3_isPair (l : Launch) (r0 x0 y0 : Int32)  : NuM l yX3_isPair wsX3_isPair ({ frames := 1, cells := 0, slots := 0, locals := 22 }) [.int (r0), .int (x0), .int (y0)] (bI (piM r0 x0 y0)) := by
  refine Met.ofW (cc := cX3_isPair) (maxL := 3) (ret := (some .boolean)) (by decide) rfl ?_
  intro p e s m args below meth c s₁ B hml hv
  obtain ⟨rfl, -⟩ := hv
  have hx := B.exec
  have hb := B.bytes
  have hr := B.returns
  have hts := atoms_spec (ws := wsX3_isPair) B.pre
  have hown : s.vm.findClass RX3 = some m.cls := findClass_of_methodNamed B.named
  have hlocks := B.notSynchronized
  have hl := lv_entry ([.int (r0), .int (x0), .int (y0)]) (n := 3) (Nat.le_of_ble_eq_true rfl)
  rw [lg_entry_eq]
  generalize (lg_sl ([.int (r0), .int (x0), .int (y0)]) ++ List.replicate (3 - (lg_sl ([.int (r0), .int (x0), .int (y0)])).length) Slot.unset).toArray = ls at hl ⊢
  have hl : lv_has ls 3 [(0, .int (r0)), (1, .int (x0)), (2, .int (y0))] := hl
  refine lv_iload_n hx hb dX3_isPair_0 rfl (lv_at hl 0 rfl) ?_
  refine lv_iconst (v := nI 0) hx hb dX3_isPair_1 (by decide) ?_
  refine lv_bipush (v := nI 6) hx hb dX3_isPair_2 (by decide) ?_
  refine hx_read (va_runS (As := [.int (r0), .int (nI 0), .int (nI 6)]) (rest := []) ⟨hx, hb, hml, hown, hts⟩ (c_X3_within l r0 0 6) (va_cwS 3 hts gX3_isPair_X3_within rfl rfl rfl (by decide +kernel) ⟨Nat.le_of_ble_eq_true rfl, Nat.le_of_ble_eq_true rfl⟩) (nu_S _) rfl rfl hl.1 rfl (lv_room (Nat.le_of_ble_eq_true rfl)) dX3_isPair_4 ⟨Nat.zero_le _, Nat.zero_le _⟩) ?_
  refine hx_ifB (tgt := 32) hx hb dX3_isPair_7 (by decide) (fun c_1 => ?_) (fun c_1 => ?_)
  · refine lv_iconst (v := nI 0) hx hb dX3_isPair_32 (by decide) ?_
    exact W.zret (v := nI 0) hx hb hr rfl (fun t ht hW => ⟨_, rfl, by rw [show piM r0 x0 y0 = false from by simp [piM, c_1]]; rfl, ht⟩) (fun _ h => by cases h) dX3_isPair_33
  · refine lv_iload_n hx hb dX3_isPair_10 rfl (lv_at hl 1 rfl) ?_
    refine lv_iconst (v := nI 0) hx hb dX3_isPair_11 (by decide) ?_
    refine lv_iconst (v := nI 4) hx hb dX3_isPair_12 (by decide) ?_
    refine hx_read (va_runS (As := [.int (x0), .int (nI 0), .int (nI 4)]) (rest := []) ⟨hx, hb, hml, hown, hts⟩ (c_X3_within l x0 0 4) (va_cwS 3 hts gX3_isPair_X3_within rfl rfl rfl (by decide +kernel) ⟨Nat.le_of_ble_eq_true rfl, Nat.le_of_ble_eq_true rfl⟩) (nu_S _) rfl rfl hl.1 rfl (lv_room (Nat.le_of_ble_eq_true rfl)) dX3_isPair_13 ⟨Nat.zero_le _, Nat.zero_le _⟩) ?_
    refine hx_ifB (tgt := 32) hx hb dX3_isPair_16 (by decide) (fun c_2 => ?_) (fun c_2 => ?_)
    · refine lv_iconst (v := nI 0) hx hb dX3_isPair_32 (by decide) ?_
      exact W.zret (v := nI 0) hx hb hr rfl (fun t ht hW => ⟨_, rfl, by rw [show piM r0 x0 y0 = false from by simp [piM, c_1, c_2]]; rfl, ht⟩) (fun _ h => by cases h) dX3_isPair_33
    · refine lv_iload_n hx hb dX3_isPair_19 rfl (lv_at hl 2 rfl) ?_
      refine lv_iconst (v := nI 0) hx hb dX3_isPair_20 (by decide) ?_
      refine lv_iconst (v := nI 4) hx hb dX3_isPair_21 (by decide) ?_
      refine hx_read (va_runS (As := [.int (y0), .int (nI 0), .int (nI 4)]) (rest := []) ⟨hx, hb, hml, hown, hts⟩ (c_X3_within l y0 0 4) (va_cwS 3 hts gX3_isPair_X3_within rfl rfl rfl (by decide +kernel) ⟨Nat.le_of_ble_eq_true rfl, Nat.le_of_ble_eq_true rfl⟩) (nu_S _) rfl rfl hl.1 rfl (lv_room (Nat.le_of_ble_eq_true rfl)) dX3_isPair_22 ⟨Nat.zero_le _, Nat.zero_le _⟩) ?_
      refine hx_ifB (tgt := 32) hx hb dX3_isPair_25 (by decide) (fun c_3 => ?_) (fun c_3 => ?_)
      · refine lv_iconst (v := nI 0) hx hb dX3_isPair_32 (by decide) ?_
        exact W.zret (v := nI 0) hx hb hr rfl (fun t ht hW => ⟨_, rfl, by rw [show piM r0 x0 y0 = false from by simp [piM, c_1, c_2, c_3]]; rfl, ht⟩) (fun _ h => by cases h) dX3_isPair_33
      · refine lv_iconst (v := nI 1) hx hb dX3_isPair_28 (by decide) ?_
        refine lv_goto (tgt := 33) hx hb dX3_isPair_29 (by decide) ?_
        exact W.zret (v := nI 1) hx hb hr rfl (fun t ht hW => ⟨_, rfl, by rw [show piM r0 x0 y0 = true from by simp [piM, c_1, c_2, c_3]]; rfl, ht⟩) (fun _ h => by cases h) dX3_isPair_33
set_option maxHeartbeats 4000000 in
set_option maxRecDepth 100000 in
theorem c_X3_findNeeds (l : Launch) (dC : Nat → ClassId) (dI : Nat → Nat → Nat) (b : Nat → Nat) (cB : Nat → ClassId) (n : Nat) (hd fm rp rq : Nat → Nat) (nw bf db sg wt : Nat → Int32) (ne dn : Nat → Bool) (hy_0 : ruOk n hd fm rp rq) : WrV l yX3_findNeeds wsX3_findNeeds ({ frames := 0, cells := 0, slots := 0, locals := 0 }) (dC, dI) vwCl (mdW b cB n hd fm rp rq nw bf db sg wt ne dn) (mdW b cB n hd fm rp rq nw bf db sg wt (neW n hd fm rp rq ne) dn) (mdT cB) nstW [.ref (b 0)] := by
  intro sz
  refine Met.ofW (cc := cX3_findNeeds) (maxL := 4) (ret := none) (by decide) rfl ?_
  intro p e s m args below meth c s₁ B hml hv
  obtain ⟨rfl, hsz, ⟨hP, hK, hN⟩, hD0⟩ := hv
  subst hsz
  have hx := B.exec
  have hb := B.bytes
  have hr := B.returns
  have hts := atoms_spec (ws := wsX3_findNeeds) B.pre
  have hown : s.vm.findClass RX3 = some m.cls := findClass_of_methodNamed B.named
  have hlocks := B.notSynchronized
  obtain ⟨A, hAe⟩ : ∃ A, A = va_A (mdW b cB n hd fm rp rq nw bf db sg wt ne dn) s.heap.size := ⟨_, rfl⟩
  have hD : va_D A (mdW b cB n hd fm rp rq nw bf db sg wt ne dn) := by rw [hAe]; exact hD0.self (sz := s.heap.size)
  have hA : ∀ q : Nat, s.heap.size ≤ q → A q := fun q h => by rw [hAe]; exact Or.inr h
  have hS : va_S A s.heap s.heap [] := va_S.rf
  have hP : va_P (dC, dI) vwCl (mdW b cB n hd fm rp rq nw bf db sg wt ne dn) s.heap := hP
  obtain ⟨hn12, hru⟩ := id hy_0
  have lf_37 := hts (.fieldLink RX3 37 "ViewKeeperModel" "need" "[Z") (by decide +kernel)
  have in_X3 : ∀ w ∈ u_ws RX3 TX3 12, w ∈ wsX3_findNeeds := by decide +kernel
  have lf_44 := hts (.fieldLink RX3 44 "ViewKeeperModel" "count" "I") (by decide +kernel)
  have lf_7 := hts (.fieldLink RX3 7 "ViewKeeperModel" "heads" "[I") (by decide +kernel)
  have lf_16 := hts (.fieldLink RX3 16 "ViewKeeperModel" "first" "[I") (by decide +kernel)
  have lf_19 := hts (.fieldLink RX3 19 "ViewKeeperModel" "second" "[I") (by decide +kernel)
  have lf_13 := hts (.fieldLink RX3 13 "ViewKeeperModel" "forms" "[I") (by decide +kernel)
  have hl := lv_entry ([.ref (b 0)]) (n := 4) (Nat.le_of_ble_eq_true rfl)
  rw [lg_entry_eq]
  generalize (lg_sl ([.ref (b 0)]) ++ List.replicate (4 - (lg_sl ([.ref (b 0)])).length) Slot.unset).toArray = ls at hl ⊢
  have hl : lv_has ls 4 [(0, .ref (b 0))] := hl
  refine lv_iconst (v := nI 0) hx hb dX3_findNeeds_0 (by decide) ?_
  refine lv_istore_n (lv' := [(1, .int (nI 0)), (0, .ref (b 0))]) hx hb dX3_findNeeds_1 rfl hl (by decide) rfl (fun ls hl => ?_)
  have L_2_0 : ∀ (nn : Nat) (j : Nat) (ne1 : Nat → Bool), j + nn = 49 → ∀ (H : Heap) (locs : List Loc), va_P (dC, dI) vwCl (mdW b cB n hd fm rp rq nw bf db sg wt ne1 dn) H → va_D A (mdW b cB n hd fm rp rq nw bf db sg wt ne1 dn) → va_S A s.heap H locs → ∀ ls : Array Slot, lv_has ls 4 [(0, .ref (b 0)), (1, .int (nI j))] → (∀ (H : Heap) (locs : List Loc), va_P (dC, dI) vwCl (mdW b cB n hd fm rp rq nw bf db sg wt (fbF nn j ne1) dn) H → va_D A (mdW b cB n hd fm rp rq nw bf db sg wt (fbF nn j ne1) dn) → va_S A s.heap H locs → ∀ ls : Array Slot, lv_has ls 4 [(0, .ref (b 0)), (1, .int (nI 49))] → W p l e (headSpec wsX3_findNeeds ({ frames := 0, cells := 0, slots := 0, locals := 0 })).room s m ([.ref (b 0)] : List Value).toArray below meth c H locs 0 0 (MQ below (va_Qv (fun _ : Unit => True) (wrB (dC, dI) vwCl (mdW b cB n hd fm rp rq nw bf db sg wt ne dn) (mdW b cB n hd fm rp rq nw bf db sg wt (neW n hd fm rp rq ne) dn) (mdT cB) s.heap.size) (va_A (mdW b cB n hd fm rp rq nw bf db sg wt ne dn) s.heap.size)) ([.ref (b 0)] : List Value).toArray s 0 0 (va_A (mdW b cB n hd fm rp rq nw bf db sg wt ne dn) s.heap.size)) (F0 m 21 ls [])) → W p l e (headSpec wsX3_findNeeds ({ frames := 0, cells := 0, slots := 0, locals := 0 })).room s m ([.ref (b 0)] : List Value).toArray below meth c H locs 0 0 (MQ below (va_Qv (fun _ : Unit => True) (wrB (dC, dI) vwCl (mdW b cB n hd fm rp rq nw bf db sg wt ne dn) (mdW b cB n hd fm rp rq nw bf db sg wt (neW n hd fm rp rq ne) dn) (mdT cB) s.heap.size) (va_A (mdW b cB n hd fm rp rq nw bf db sg wt ne dn) s.heap.size)) ([.ref (b 0)] : List Value).toArray s 0 0 (va_A (mdW b cB n hd fm rp rq nw bf db sg wt ne dn) s.heap.size)) (F0 m 2 ls []) := by
    intro nn
    induction nn with
    | zero =>
      intro j ne1 hn_j H locs hP hD hS ls hl kx
      obtain rfl : j = 49 := by omega
      refine lv_iload_n hx hb dX3_findNeeds_2 rfl (lv_at hl 1 rfl) ?_
      refine lv_bipush (v := nI 49) hx hb dX3_findNeeds_3 (by decide) ?_
      refine hx_geN (tgt := 21) hx hb dX3_findNeeds_5 (by decide) (by omega) (by omega) (fun c_2 => ?_) (fun c_2 => ?_)
      · exact kx _ _ hP hD hS ls (lv_sub hl [0, 1] rfl)
      · exact absurd c_2 (by omega)
    | succ nn ih =>
      intro j ne1 hn_j H locs hP hD hS ls hl kx
      refine lv_iload_n hx hb dX3_findNeeds_2 rfl (lv_at hl 1 rfl) ?_
      refine lv_bipush (v := nI 49) hx hb dX3_findNeeds_3 (by decide) ?_
      refine hx_geN (tgt := 21) hx hb dX3_findNeeds_5 (by decide) (by omega) (by omega) (fun c_3 => ?_) (fun c_3 => ?_)
      · exact absurd c_3 (by omega)
      · refine lv_aload_n hx hb dX3_findNeeds_8 rfl (lv_at hl 0 rfl) ?_
        refine va_get (D := (dC, dI)) (ci := 3) (v := .ref (b 10)) (C := RX3) (T := TX3) (N := 12) hx hb hts in_X3 hown hK hP 0 rfl rfl 10 (by decide) lf_37 (fun _ h9 => h9) rfl dX3_findNeeds_9 ?_
        refine lv_iload_n hx hb dX3_findNeeds_12 rfl (lv_at hl 1 rfl) ?_
        refine lv_iconst (v := nI 0) hx hb dX3_findNeeds_13 (by decide) ?_
        refine hx_zast (v := false) hx hb hK hP hD hS 10 9 rfl rfl (by omega) (by omega) dX3_findNeeds_14 (fun H locs hP hD hS => ?_)
        have hP : va_P (dC, dI) vwCl (mdW b cB n hd fm rp rq nw bf db sg wt (va_up ne1 j false) dn) H := hP
        have hD : va_D A (mdW b cB n hd fm rp rq nw bf db sg wt (va_up ne1 j false) dn) := hD
        refine lv_iinc (v := nI (j + 1)) (lv' := [(1, .int (nI (j + 1))), (0, .ref (b 0))]) hx hb dX3_findNeeds_15 hl (k := 1) rfl (nI_add j 1) (by decide) rfl (fun ls hl => ?_)
        refine lv_goto (tgt := 2) hx hb dX3_findNeeds_18 (by decide) ?_
        have kx := kx
        rw [show fbF (nn + 1) j ne1 = fbF nn (j + 1) (va_up ne1 j false) from rfl] at kx
        exact ih (j + 1) (va_up ne1 j false) (by omega) _ _ hP hD hS ls (lv_sub hl [1, 0] rfl) kx
  refine L_2_0 49 0 ne (by omega) _ _ hP hD hS ls (lv_sub hl [1, 0] rfl) (fun H locs hP hD hS ls hl => ?_)
  have hP : va_P (dC, dI) vwCl (mdW b cB n hd fm rp rq nw bf db sg wt (fbF 49 0 ne) dn) H := hP
  have hD : va_D A (mdW b cB n hd fm rp rq nw bf db sg wt (fbF 49 0 ne) dn) := hD
  have hl : lv_has ls 4 [(0, .ref (b 0)), (1, .int (nI 49))] := hl
  refine lv_iconst (v := nI 0) hx hb dX3_findNeeds_21 (by decide) ?_
  refine lv_istore_n (lv' := [(1, .int (nI 0)), (0, .ref (b 0))]) hx hb dX3_findNeeds_22 rfl hl (by decide) rfl (fun ls hl => ?_)
  have L_23_3 : ∀ (nn : Nat) (i : Nat) (ne2 : Nat → Bool), i + nn = n → ∀ (H : Heap) (locs : List Loc), va_P (dC, dI) vwCl (mdW b cB n hd fm rp rq nw bf db sg wt ne2 dn) H → va_D A (mdW b cB n hd fm rp rq nw bf db sg wt ne2 dn) → va_S A s.heap H locs → ∀ ls : Array Slot, lv_has ls 4 [(0, .ref (b 0)), (1, .int (nI i))] → (∀ (H : Heap) (locs : List Loc), va_P (dC, dI) vwCl (mdW b cB n hd fm rp rq nw bf db sg wt (neR hd fm rp rq nn i ne2) dn) H → va_D A (mdW b cB n hd fm rp rq nw bf db sg wt (neR hd fm rp rq nn i ne2) dn) → va_S A s.heap H locs → ∀ ls : Array Slot, lv_has ls 4 [(0, .ref (b 0)), (1, .int (nI n))] → W p l e (headSpec wsX3_findNeeds ({ frames := 0, cells := 0, slots := 0, locals := 0 })).room s m ([.ref (b 0)] : List Value).toArray below meth c H locs 0 0 (MQ below (va_Qv (fun _ : Unit => True) (wrB (dC, dI) vwCl (mdW b cB n hd fm rp rq nw bf db sg wt ne dn) (mdW b cB n hd fm rp rq nw bf db sg wt (neW n hd fm rp rq ne) dn) (mdT cB) s.heap.size) (va_A (mdW b cB n hd fm rp rq nw bf db sg wt ne dn) s.heap.size)) ([.ref (b 0)] : List Value).toArray s 0 0 (va_A (mdW b cB n hd fm rp rq nw bf db sg wt ne dn) s.heap.size)) (F0 m 119 ls [])) → W p l e (headSpec wsX3_findNeeds ({ frames := 0, cells := 0, slots := 0, locals := 0 })).room s m ([.ref (b 0)] : List Value).toArray below meth c H locs 0 0 (MQ below (va_Qv (fun _ : Unit => True) (wrB (dC, dI) vwCl (mdW b cB n hd fm rp rq nw bf db sg wt ne dn) (mdW b cB n hd fm rp rq nw bf db sg wt (neW n hd fm rp rq ne) dn) (mdT cB) s.heap.size) (va_A (mdW b cB n hd fm rp rq nw bf db sg wt ne dn) s.heap.size)) ([.ref (b 0)] : List Value).toArray s 0 0 (va_A (mdW b cB n hd fm rp rq nw bf db sg wt ne dn) s.heap.size)) (F0 m 23 ls []) := by
    intro nn
    induction nn with
    | zero =>
      intro i ne2 hn_i H locs hP hD hS ls hl kx
      obtain rfl : n = i := by omega
      refine lv_iload_n hx hb dX3_findNeeds_23 rfl (lv_at hl 1 rfl) ?_
      refine lv_aload_n hx hb dX3_findNeeds_24 rfl (lv_at hl 0 rfl) ?_
      refine va_get (D := (dC, dI)) (ci := 3) (v := .int (nI n)) (C := RX3) (T := TX3) (N := 12) hx hb hts in_X3 hown hK hP 0 rfl rfl 0 (by decide) lf_44 (fun _ h9 => h9) rfl dX3_findNeeds_25 ?_
      refine hx_geN (tgt := 119) hx hb dX3_findNeeds_28 (by decide) (by omega) (by omega) (fun c_5 => ?_) (fun c_5 => ?_)
      · exact kx _ _ hP hD hS ls (lv_sub hl [0, 1] rfl)
      · exact absurd c_5 (by omega)
    | succ nn ih =>
      intro i ne2 hn_i H locs hP hD hS ls hl kx
      refine lv_iload_n hx hb dX3_findNeeds_23 rfl (lv_at hl 1 rfl) ?_
      refine lv_aload_n hx hb dX3_findNeeds_24 rfl (lv_at hl 0 rfl) ?_
      refine va_get (D := (dC, dI)) (ci := 3) (v := .int (nI n)) (C := RX3) (T := TX3) (N := 12) hx hb hts in_X3 hown hK hP 0 rfl rfl 0 (by decide) lf_44 (fun _ h9 => h9) rfl dX3_findNeeds_25 ?_
      refine hx_geN (tgt := 119) hx hb dX3_findNeeds_28 (by decide) (by omega) (by omega) (fun c_6 => ?_) (fun c_6 => ?_)
      · exact absurd c_6 (by omega)
      · have hr9 := hru i (by omega)
        refine lv_aload_n hx hb dX3_findNeeds_31 rfl (lv_at hl 0 rfl) ?_
        refine va_get (D := (dC, dI)) (ci := 3) (v := .ref (b 10)) (C := RX3) (T := TX3) (N := 12) hx hb hts in_X3 hown hK hP 0 rfl rfl 10 (by decide) lf_37 (fun _ h9 => h9) rfl dX3_findNeeds_32 ?_
        refine lv_bipush (v := nI 7) hx hb dX3_findNeeds_35 (by decide) ?_
        refine lv_aload_n hx hb dX3_findNeeds_37 rfl (lv_at hl 0 rfl) ?_
        refine va_get (D := (dC, dI)) (ci := 3) (v := .ref (b 1)) (C := RX3) (T := TX3) (N := 12) hx hb hts in_X3 hown hK hP 0 rfl rfl 1 (by decide) lf_7 (fun _ h9 => h9) rfl dX3_findNeeds_38 ?_
        refine lv_iload_n hx hb dX3_findNeeds_41 rfl (lv_at hl 1 rfl) ?_
        refine hx_ialdN hx hb hK hP 1 0 rfl rfl (by omega) (by omega) dX3_findNeeds_42 ?_
        refine hx_imul hx hb dX3_findNeeds_43 ?_
        refine lv_aload_n hx hb dX3_findNeeds_44 rfl (lv_at hl 0 rfl) ?_
        refine va_get (D := (dC, dI)) (ci := 3) (v := .ref (b 3)) (C := RX3) (T := TX3) (N := 12) hx hb hts in_X3 hown hK hP 0 rfl rfl 3 (by decide) lf_16 (fun _ h9 => h9) rfl dX3_findNeeds_45 ?_
        refine lv_iload_n hx hb dX3_findNeeds_48 rfl (lv_at hl 1 rfl) ?_
        refine hx_ialdN hx hb hK hP 3 2 rfl rfl (by omega) (by omega) dX3_findNeeds_49 ?_
        refine hx_iadd hx hb dX3_findNeeds_50 ?_
        refine lv_iconst (v := nI 1) hx hb dX3_findNeeds_51 (by decide) ?_
        refine hx_zast (v := true) hx hb hK hP hD hS 10 9 rfl rfl (by omega) (by omega) dX3_findNeeds_52 (fun H locs hP hD hS => ?_)
        have hP : va_P (dC, dI) vwCl (mdW b cB n hd fm rp rq nw bf db sg wt (va_up ne2 ((7 * (hd i)) + (rp i)) true) dn) H := hP
        have hD : va_D A (mdW b cB n hd fm rp rq nw bf db sg wt (va_up ne2 ((7 * (hd i)) + (rp i)) true) dn) := hD
        refine lv_aload_n hx hb dX3_findNeeds_53 rfl (lv_at hl 0 rfl) ?_
        refine va_get (D := (dC, dI)) (ci := 3) (v := .ref (b 10)) (C := RX3) (T := TX3) (N := 12) hx hb hts in_X3 hown hK hP 0 rfl rfl 10 (by decide) lf_37 (fun _ h9 => h9) rfl dX3_findNeeds_54 ?_
        refine lv_bipush (v := nI 7) hx hb dX3_findNeeds_57 (by decide) ?_
        refine lv_aload_n hx hb dX3_findNeeds_59 rfl (lv_at hl 0 rfl) ?_
        refine va_get (D := (dC, dI)) (ci := 3) (v := .ref (b 1)) (C := RX3) (T := TX3) (N := 12) hx hb hts in_X3 hown hK hP 0 rfl rfl 1 (by decide) lf_7 (fun _ h9 => h9) rfl dX3_findNeeds_60 ?_
        refine lv_iload_n hx hb dX3_findNeeds_63 rfl (lv_at hl 1 rfl) ?_
        refine hx_ialdN hx hb hK hP 1 0 rfl rfl (by omega) (by omega) dX3_findNeeds_64 ?_
        refine hx_imul hx hb dX3_findNeeds_65 ?_
        refine lv_aload_n hx hb dX3_findNeeds_66 rfl (lv_at hl 0 rfl) ?_
        refine va_get (D := (dC, dI)) (ci := 3) (v := .ref (b 4)) (C := RX3) (T := TX3) (N := 12) hx hb hts in_X3 hown hK hP 0 rfl rfl 4 (by decide) lf_19 (fun _ h9 => h9) rfl dX3_findNeeds_67 ?_
        refine lv_iload_n hx hb dX3_findNeeds_70 rfl (lv_at hl 1 rfl) ?_
        refine hx_ialdN hx hb hK hP 4 3 rfl rfl (by omega) (by omega) dX3_findNeeds_71 ?_
        refine hx_iadd hx hb dX3_findNeeds_72 ?_
        refine lv_aload_n hx hb dX3_findNeeds_73 rfl (lv_at hl 0 rfl) ?_
        refine va_get (D := (dC, dI)) (ci := 3) (v := .ref (b 10)) (C := RX3) (T := TX3) (N := 12) hx hb hts in_X3 hown hK hP 0 rfl rfl 10 (by decide) lf_37 (fun _ h9 => h9) rfl dX3_findNeeds_74 ?_
        refine lv_bipush (v := nI 7) hx hb dX3_findNeeds_77 (by decide) ?_
        refine lv_aload_n hx hb dX3_findNeeds_79 rfl (lv_at hl 0 rfl) ?_
        refine va_get (D := (dC, dI)) (ci := 3) (v := .ref (b 1)) (C := RX3) (T := TX3) (N := 12) hx hb hts in_X3 hown hK hP 0 rfl rfl 1 (by decide) lf_7 (fun _ h9 => h9) rfl dX3_findNeeds_80 ?_
        refine lv_iload_n hx hb dX3_findNeeds_83 rfl (lv_at hl 1 rfl) ?_
        refine hx_ialdN hx hb hK hP 1 0 rfl rfl (by omega) (by omega) dX3_findNeeds_84 ?_
        refine hx_imul hx hb dX3_findNeeds_85 ?_
        refine lv_aload_n hx hb dX3_findNeeds_86 rfl (lv_at hl 0 rfl) ?_
        refine va_get (D := (dC, dI)) (ci := 3) (v := .ref (b 4)) (C := RX3) (T := TX3) (N := 12) hx hb hts in_X3 hown hK hP 0 rfl rfl 4 (by decide) lf_19 (fun _ h9 => h9) rfl dX3_findNeeds_87 ?_
        refine lv_iload_n hx hb dX3_findNeeds_90 rfl (lv_at hl 1 rfl) ?_
        refine hx_ialdN hx hb hK hP 4 3 rfl rfl (by omega) (by omega) dX3_findNeeds_91 ?_
        refine hx_iadd hx hb dX3_findNeeds_92 ?_
        refine hx_zald hx hb hK hP 10 9 rfl rfl (by omega) (by omega) dX3_findNeeds_93 ?_
        refine hx_ifnB (tgt := 107) hx hb dX3_findNeeds_94 (by decide) (fun c_7 => ?_) (fun c_7 => ?_)
        · refine lv_iconst (v := nI 1) hx hb dX3_findNeeds_107 (by decide) ?_
          refine lv_goto (tgt := 112) hx hb dX3_findNeeds_108 (by decide) ?_
          refine hx_zast (v := true) hx hb hK hP hD hS 10 9 rfl rfl (by omega) (by omega) dX3_findNeeds_112 (fun H locs hP hD hS => ?_)
          have hP : va_P (dC, dI) vwCl (mdW b cB n hd fm rp rq nw bf db sg wt (va_up (va_up ne2 ((7 * (hd i)) + (rp i)) true) ((7 * (hd i)) + (rq i)) true) dn) H := hP
          have hD : va_D A (mdW b cB n hd fm rp rq nw bf db sg wt (va_up (va_up ne2 ((7 * (hd i)) + (rp i)) true) ((7 * (hd i)) + (rq i)) true) dn) := hD
          refine lv_iinc (v := nI (i + 1)) (lv' := [(1, .int (nI (i + 1))), (0, .ref (b 0))]) hx hb dX3_findNeeds_113 hl (k := 1) rfl (nI_add i 1) (by decide) rfl (fun ls hl => ?_)
          refine lv_goto (tgt := 23) hx hb dX3_findNeeds_116 (by decide) ?_
          have kx := kx
          rw [show neR hd fm rp rq (nn + 1) i ne2 = neR hd fm rp rq nn (i + 1) (va_up (va_up ne2 ((7 * (hd i)) + (rp i)) true) ((7 * (hd i)) + (rq i)) true) from by simp only [neR, c_6, c_7, ↓reduceIte, decide_true, decide_false, Bool.not_true, Bool.not_false, Bool.or_true, Bool.true_or, Bool.or_false, Bool.false_or, Bool.and_true, Bool.true_and, Bool.and_false, Bool.false_and, and_true, true_and, and_false, false_and, and_self, or_self, or_true, true_or, or_false, false_or, Bool.false_eq_true, Bool.true_eq_false, not_true_eq_false, not_false_eq_true, Bool.or_self, decide_eq_true_eq]] at kx
          exact ih (i + 1) (va_up (va_up ne2 ((7 * (hd i)) + (rp i)) true) ((7 * (hd i)) + (rq i)) true) (by omega) _ _ hP hD hS ls (lv_sub hl [1, 0] rfl) kx
        · refine lv_aload_n hx hb dX3_findNeeds_97 rfl (lv_at hl 0 rfl) ?_
          refine va_get (D := (dC, dI)) (ci := 3) (v := .ref (b 2)) (C := RX3) (T := TX3) (N := 12) hx hb hts in_X3 hown hK hP 0 rfl rfl 2 (by decide) lf_13 (fun _ h9 => h9) rfl dX3_findNeeds_98 ?_
          refine lv_iload_n hx hb dX3_findNeeds_101 rfl (lv_at hl 1 rfl) ?_
          refine hx_ialdN hx hb hK hP 2 1 rfl rfl (by omega) (by omega) dX3_findNeeds_102 ?_
          refine lv_iconst (v := nI 1) hx hb dX3_findNeeds_103 (by decide) ?_
          refine hx_leN (tgt := 111) hx hb dX3_findNeeds_104 (by decide) (by omega) (by omega) (fun c_8 => ?_) (fun c_8 => ?_)
          · refine lv_iconst (v := nI 0) hx hb dX3_findNeeds_111 (by decide) ?_
            refine hx_zast (v := false) hx hb hK hP hD hS 10 9 rfl rfl (by omega) (by omega) dX3_findNeeds_112 (fun H locs hP hD hS => ?_)
            have hP : va_P (dC, dI) vwCl (mdW b cB n hd fm rp rq nw bf db sg wt (va_up (va_up ne2 ((7 * (hd i)) + (rp i)) true) ((7 * (hd i)) + (rq i)) false) dn) H := hP
            have hD : va_D A (mdW b cB n hd fm rp rq nw bf db sg wt (va_up (va_up ne2 ((7 * (hd i)) + (rp i)) true) ((7 * (hd i)) + (rq i)) false) dn) := hD
            refine lv_iinc (v := nI (i + 1)) (lv' := [(1, .int (nI (i + 1))), (0, .ref (b 0))]) hx hb dX3_findNeeds_113 hl (k := 1) rfl (nI_add i 1) (by decide) rfl (fun ls hl => ?_)
            refine lv_goto (tgt := 23) hx hb dX3_findNeeds_116 (by decide) ?_
            have kx := kx
            rw [show neR hd fm rp rq (nn + 1) i ne2 = neR hd fm rp rq nn (i + 1) (va_up (va_up ne2 ((7 * (hd i)) + (rp i)) true) ((7 * (hd i)) + (rq i)) false) from by simp only [neR, c_6, c_7, c_8, ↓reduceIte, decide_true, decide_false, Bool.not_true, Bool.not_false, Bool.or_true, Bool.true_or, Bool.or_false, Bool.false_or, Bool.and_true, Bool.true_and, Bool.and_false, Bool.false_and, and_true, true_and, and_false, false_and, and_self, or_self, or_true, true_or, or_false, false_or, Bool.false_eq_true, Bool.true_eq_false, not_true_eq_false, not_false_eq_true, Bool.or_self, decide_eq_true_eq]] at kx
            exact ih (i + 1) (va_up (va_up ne2 ((7 * (hd i)) + (rp i)) true) ((7 * (hd i)) + (rq i)) false) (by omega) _ _ hP hD hS ls (lv_sub hl [1, 0] rfl) kx
          · refine lv_iconst (v := nI 1) hx hb dX3_findNeeds_107 (by decide) ?_
            refine lv_goto (tgt := 112) hx hb dX3_findNeeds_108 (by decide) ?_
            refine hx_zast (v := true) hx hb hK hP hD hS 10 9 rfl rfl (by omega) (by omega) dX3_findNeeds_112 (fun H locs hP hD hS => ?_)
            have hP : va_P (dC, dI) vwCl (mdW b cB n hd fm rp rq nw bf db sg wt (va_up (va_up ne2 ((7 * (hd i)) + (rp i)) true) ((7 * (hd i)) + (rq i)) true) dn) H := hP
            have hD : va_D A (mdW b cB n hd fm rp rq nw bf db sg wt (va_up (va_up ne2 ((7 * (hd i)) + (rp i)) true) ((7 * (hd i)) + (rq i)) true) dn) := hD
            refine lv_iinc (v := nI (i + 1)) (lv' := [(1, .int (nI (i + 1))), (0, .ref (b 0))]) hx hb dX3_findNeeds_113 hl (k := 1) rfl (nI_add i 1) (by decide) rfl (fun ls hl => ?_)
            refine lv_goto (tgt := 23) hx hb dX3_findNeeds_116 (by decide) ?_
            have kx := kx
            rw [show neR hd fm rp rq (nn + 1) i ne2 = neR hd fm rp rq nn (i + 1) (va_up (va_up ne2 ((7 * (hd i)) + (rp i)) true) ((7 * (hd i)) + (rq i)) true) from by simp only [neR, c_6, c_7, c_8, ↓reduceIte, decide_true, decide_false, Bool.not_true, Bool.not_false, Bool.or_true, Bool.true_or, Bool.or_false, Bool.false_or, Bool.and_true, Bool.true_and, Bool.and_false, Bool.false_and, and_true, true_and, and_false, false_and, and_self, or_self, or_true, true_or, or_false, false_or, Bool.false_eq_true, Bool.true_eq_false, not_true_eq_false, not_false_eq_true, Bool.or_self, decide_eq_true_eq]] at kx
            exact ih (i + 1) (va_up (va_up ne2 ((7 * (hd i)) + (rp i)) true) ((7 * (hd i)) + (rq i)) true) (by omega) _ _ hP hD hS ls (lv_sub hl [1, 0] rfl) kx
  refine L_23_3 n 0 (fbF 49 0 ne) (by omega) _ _ hP hD hS ls (lv_sub hl [1, 0] rfl) (fun H locs hP hD hS ls hl => ?_)
  have hP : va_P (dC, dI) vwCl (mdW b cB n hd fm rp rq nw bf db sg wt (neR hd fm rp rq n 0 (fbF 49 0 ne)) dn) H := hP
  have hD : va_D A (mdW b cB n hd fm rp rq nw bf db sg wt (neR hd fm rp rq n 0 (fbF 49 0 ne)) dn) := hD
  have hl : lv_has ls 4 [(0, .ref (b 0)), (1, .int (nI n))] := hl
  refine lv_iconst (v := nI 0) hx hb dX3_findNeeds_119 (by decide) ?_
  refine lv_istore_n (lv' := [(1, .int (nI 0)), (0, .ref (b 0))]) hx hb dX3_findNeeds_120 rfl hl (by decide) rfl (fun ls hl => ?_)
  have L_121_8 : ∀ (nn : Nat) (mm : Nat) (ne3 : Nat → Bool), mm + nn = 7 → ∀ (H : Heap) (locs : List Loc), va_P (dC, dI) vwCl (mdW b cB n hd fm rp rq nw bf db sg wt ne3 dn) H → va_D A (mdW b cB n hd fm rp rq nw bf db sg wt ne3 dn) → va_S A s.heap H locs → ∀ ls : Array Slot, lv_has ls 4 [(0, .ref (b 0)), (1, .int (nI mm))] → (∀ (H : Heap) (locs : List Loc), va_P (dC, dI) vwCl (mdW b cB n hd fm rp rq nw bf db sg wt (neM nn mm ne3) dn) H → va_D A (mdW b cB n hd fm rp rq nw bf db sg wt (neM nn mm ne3) dn) → va_S A s.heap H locs → ∀ ls : Array Slot, lv_has ls 4 [(0, .ref (b 0)), (1, .int (nI 7))] → W p l e (headSpec wsX3_findNeeds ({ frames := 0, cells := 0, slots := 0, locals := 0 })).room s m ([.ref (b 0)] : List Value).toArray below meth c H locs 0 0 (MQ below (va_Qv (fun _ : Unit => True) (wrB (dC, dI) vwCl (mdW b cB n hd fm rp rq nw bf db sg wt ne dn) (mdW b cB n hd fm rp rq nw bf db sg wt (neW n hd fm rp rq ne) dn) (mdT cB) s.heap.size) (va_A (mdW b cB n hd fm rp rq nw bf db sg wt ne dn) s.heap.size)) ([.ref (b 0)] : List Value).toArray s 0 0 (va_A (mdW b cB n hd fm rp rq nw bf db sg wt ne dn) s.heap.size)) (F0 m 219 ls [])) → W p l e (headSpec wsX3_findNeeds ({ frames := 0, cells := 0, slots := 0, locals := 0 })).room s m ([.ref (b 0)] : List Value).toArray below meth c H locs 0 0 (MQ below (va_Qv (fun _ : Unit => True) (wrB (dC, dI) vwCl (mdW b cB n hd fm rp rq nw bf db sg wt ne dn) (mdW b cB n hd fm rp rq nw bf db sg wt (neW n hd fm rp rq ne) dn) (mdT cB) s.heap.size) (va_A (mdW b cB n hd fm rp rq nw bf db sg wt ne dn) s.heap.size)) ([.ref (b 0)] : List Value).toArray s 0 0 (va_A (mdW b cB n hd fm rp rq nw bf db sg wt ne dn) s.heap.size)) (F0 m 121 ls []) := by
    intro nn
    induction nn with
    | zero =>
      intro mm ne3 hn_mm H locs hP hD hS ls hl kx
      obtain rfl : mm = 7 := by omega
      refine lv_iload_n hx hb dX3_findNeeds_121 rfl (lv_at hl 1 rfl) ?_
      refine lv_bipush (v := nI 7) hx hb dX3_findNeeds_122 (by decide) ?_
      refine hx_geN (tgt := 219) hx hb dX3_findNeeds_124 (by decide) (by omega) (by omega) (fun c_10 => ?_) (fun c_10 => ?_)
      · exact kx _ _ hP hD hS ls (lv_sub hl [0, 1] rfl)
      · exact absurd c_10 (by omega)
    | succ nn ih =>
      intro mm ne3 hn_mm H locs hP hD hS ls hl kx
      refine lv_iload_n hx hb dX3_findNeeds_121 rfl (lv_at hl 1 rfl) ?_
      refine lv_bipush (v := nI 7) hx hb dX3_findNeeds_122 (by decide) ?_
      refine hx_geN (tgt := 219) hx hb dX3_findNeeds_124 (by decide) (by omega) (by omega) (fun c_11 => ?_) (fun c_11 => ?_)
      · exact absurd c_11 (by omega)
      · refine lv_iconst (v := nI 0) hx hb dX3_findNeeds_127 (by decide) ?_
        refine lv_istore_n (lv' := [(2, .int (nI 0)), (0, .ref (b 0)), (1, .int (nI mm))]) hx hb dX3_findNeeds_128 rfl hl (by decide) rfl (fun ls hl => ?_)
        have L_129_11 : ∀ (nn : Nat) (aa : Nat) (ne4 : Nat → Bool), aa + nn = 7 → ∀ (H : Heap) (locs : List Loc), va_P (dC, dI) vwCl (mdW b cB n hd fm rp rq nw bf db sg wt ne4 dn) H → va_D A (mdW b cB n hd fm rp rq nw bf db sg wt ne4 dn) → va_S A s.heap H locs → ∀ ls : Array Slot, lv_has ls 4 [(0, .ref (b 0)), (1, .int (nI mm)), (2, .int (nI aa))] → (∀ (H : Heap) (locs : List Loc), va_P (dC, dI) vwCl (mdW b cB n hd fm rp rq nw bf db sg wt (neA mm nn aa ne4) dn) H → va_D A (mdW b cB n hd fm rp rq nw bf db sg wt (neA mm nn aa ne4) dn) → va_S A s.heap H locs → ∀ ls : Array Slot, lv_has ls 4 [(0, .ref (b 0)), (1, .int (nI mm)), (2, .int (nI 7))] → W p l e (headSpec wsX3_findNeeds ({ frames := 0, cells := 0, slots := 0, locals := 0 })).room s m ([.ref (b 0)] : List Value).toArray below meth c H locs 0 0 (MQ below (va_Qv (fun _ : Unit => True) (wrB (dC, dI) vwCl (mdW b cB n hd fm rp rq nw bf db sg wt ne dn) (mdW b cB n hd fm rp rq nw bf db sg wt (neW n hd fm rp rq ne) dn) (mdT cB) s.heap.size) (va_A (mdW b cB n hd fm rp rq nw bf db sg wt ne dn) s.heap.size)) ([.ref (b 0)] : List Value).toArray s 0 0 (va_A (mdW b cB n hd fm rp rq nw bf db sg wt ne dn) s.heap.size)) (F0 m 213 ls [])) → W p l e (headSpec wsX3_findNeeds ({ frames := 0, cells := 0, slots := 0, locals := 0 })).room s m ([.ref (b 0)] : List Value).toArray below meth c H locs 0 0 (MQ below (va_Qv (fun _ : Unit => True) (wrB (dC, dI) vwCl (mdW b cB n hd fm rp rq nw bf db sg wt ne dn) (mdW b cB n hd fm rp rq nw bf db sg wt (neW n hd fm rp rq ne) dn) (mdT cB) s.heap.size) (va_A (mdW b cB n hd fm rp rq nw bf db sg wt ne dn) s.heap.size)) ([.ref (b 0)] : List Value).toArray s 0 0 (va_A (mdW b cB n hd fm rp rq nw bf db sg wt ne dn) s.heap.size)) (F0 m 129 ls []) := by
          intro nn
          induction nn with
          | zero =>
            intro aa ne4 hn_aa H locs hP hD hS ls hl kx
            obtain rfl : aa = 7 := by omega
            refine lv_iload_n hx hb dX3_findNeeds_129 rfl (lv_at hl 2 rfl) ?_
            refine lv_bipush (v := nI 7) hx hb dX3_findNeeds_130 (by decide) ?_
            refine hx_geN (tgt := 213) hx hb dX3_findNeeds_132 (by decide) (by omega) (by omega) (fun c_13 => ?_) (fun c_13 => ?_)
            · exact kx _ _ hP hD hS ls (lv_sub hl [0, 1, 2] rfl)
            · exact absurd c_13 (by omega)
          | succ nn ih =>
            intro aa ne4 hn_aa H locs hP hD hS ls hl kx
            refine lv_iload_n hx hb dX3_findNeeds_129 rfl (lv_at hl 2 rfl) ?_
            refine lv_bipush (v := nI 7) hx hb dX3_findNeeds_130 (by decide) ?_
            refine hx_geN (tgt := 213) hx hb dX3_findNeeds_132 (by decide) (by omega) (by omega) (fun c_14 => ?_) (fun c_14 => ?_)
            · exact absurd c_14 (by omega)
            · refine lv_iconst (v := nI 0) hx hb dX3_findNeeds_135 (by decide) ?_
              refine lv_istore_n (lv' := [(3, .int (nI 0)), (0, .ref (b 0)), (1, .int (nI mm)), (2, .int (nI aa))]) hx hb dX3_findNeeds_136 rfl hl (by decide) rfl (fun ls hl => ?_)
              have L_137_14 : ∀ (nn : Nat) (bb : Nat) (ne5 : Nat → Bool), bb + nn = 7 → ∀ (H : Heap) (locs : List Loc), va_P (dC, dI) vwCl (mdW b cB n hd fm rp rq nw bf db sg wt ne5 dn) H → va_D A (mdW b cB n hd fm rp rq nw bf db sg wt ne5 dn) → va_S A s.heap H locs → ∀ ls : Array Slot, lv_has ls 4 [(0, .ref (b 0)), (1, .int (nI mm)), (2, .int (nI aa)), (3, .int (nI bb))] → (∀ (H : Heap) (locs : List Loc), va_P (dC, dI) vwCl (mdW b cB n hd fm rp rq nw bf db sg wt (neB mm aa nn bb ne5) dn) H → va_D A (mdW b cB n hd fm rp rq nw bf db sg wt (neB mm aa nn bb ne5) dn) → va_S A s.heap H locs → ∀ ls : Array Slot, lv_has ls 4 [(0, .ref (b 0)), (1, .int (nI mm)), (2, .int (nI aa)), (3, .int (nI 7))] → W p l e (headSpec wsX3_findNeeds ({ frames := 0, cells := 0, slots := 0, locals := 0 })).room s m ([.ref (b 0)] : List Value).toArray below meth c H locs 0 0 (MQ below (va_Qv (fun _ : Unit => True) (wrB (dC, dI) vwCl (mdW b cB n hd fm rp rq nw bf db sg wt ne dn) (mdW b cB n hd fm rp rq nw bf db sg wt (neW n hd fm rp rq ne) dn) (mdT cB) s.heap.size) (va_A (mdW b cB n hd fm rp rq nw bf db sg wt ne dn) s.heap.size)) ([.ref (b 0)] : List Value).toArray s 0 0 (va_A (mdW b cB n hd fm rp rq nw bf db sg wt ne dn) s.heap.size)) (F0 m 207 ls [])) → W p l e (headSpec wsX3_findNeeds ({ frames := 0, cells := 0, slots := 0, locals := 0 })).room s m ([.ref (b 0)] : List Value).toArray below meth c H locs 0 0 (MQ below (va_Qv (fun _ : Unit => True) (wrB (dC, dI) vwCl (mdW b cB n hd fm rp rq nw bf db sg wt ne dn) (mdW b cB n hd fm rp rq nw bf db sg wt (neW n hd fm rp rq ne) dn) (mdT cB) s.heap.size) (va_A (mdW b cB n hd fm rp rq nw bf db sg wt ne dn) s.heap.size)) ([.ref (b 0)] : List Value).toArray s 0 0 (va_A (mdW b cB n hd fm rp rq nw bf db sg wt ne dn) s.heap.size)) (F0 m 137 ls []) := by
                intro nn
                induction nn with
                | zero =>
                  intro bb ne5 hn_bb H locs hP hD hS ls hl kx
                  obtain rfl : bb = 7 := by omega
                  refine lv_iload_n hx hb dX3_findNeeds_137 rfl (lv_at hl 3 rfl) ?_
                  refine lv_bipush (v := nI 7) hx hb dX3_findNeeds_138 (by decide) ?_
                  refine hx_geN (tgt := 207) hx hb dX3_findNeeds_140 (by decide) (by omega) (by omega) (fun c_16 => ?_) (fun c_16 => ?_)
                  · exact kx _ _ hP hD hS ls (lv_sub hl [0, 1, 2, 3] rfl)
                  · exact absurd c_16 (by omega)
                | succ nn ih =>
                  intro bb ne5 hn_bb H locs hP hD hS ls hl kx
                  refine lv_iload_n hx hb dX3_findNeeds_137 rfl (lv_at hl 3 rfl) ?_
                  refine lv_bipush (v := nI 7) hx hb dX3_findNeeds_138 (by decide) ?_
                  refine hx_geN (tgt := 207) hx hb dX3_findNeeds_140 (by decide) (by omega) (by omega) (fun c_17 => ?_) (fun c_17 => ?_)
                  · exact absurd c_17 (by omega)
                  · refine lv_aload_n hx hb dX3_findNeeds_143 rfl (lv_at hl 0 rfl) ?_
                    refine va_get (D := (dC, dI)) (ci := 3) (v := .ref (b 10)) (C := RX3) (T := TX3) (N := 12) hx hb hts in_X3 hown hK hP 0 rfl rfl 10 (by decide) lf_37 (fun _ h9 => h9) rfl dX3_findNeeds_144 ?_
                    refine lv_bipush (v := nI 7) hx hb dX3_findNeeds_147 (by decide) ?_
                    refine lv_iload_n hx hb dX3_findNeeds_149 rfl (lv_at hl 2 rfl) ?_
                    refine hx_imul hx hb dX3_findNeeds_150 ?_
                    refine lv_iload_n hx hb dX3_findNeeds_151 rfl (lv_at hl 3 rfl) ?_
                    refine hx_iadd hx hb dX3_findNeeds_152 ?_
                    refine lv_aload_n hx hb dX3_findNeeds_153 rfl (lv_at hl 0 rfl) ?_
                    refine va_get (D := (dC, dI)) (ci := 3) (v := .ref (b 10)) (C := RX3) (T := TX3) (N := 12) hx hb hts in_X3 hown hK hP 0 rfl rfl 10 (by decide) lf_37 (fun _ h9 => h9) rfl dX3_findNeeds_154 ?_
                    refine lv_bipush (v := nI 7) hx hb dX3_findNeeds_157 (by decide) ?_
                    refine lv_iload_n hx hb dX3_findNeeds_159 rfl (lv_at hl 2 rfl) ?_
                    refine hx_imul hx hb dX3_findNeeds_160 ?_
                    refine lv_iload_n hx hb dX3_findNeeds_161 rfl (lv_at hl 3 rfl) ?_
                    refine hx_iadd hx hb dX3_findNeeds_162 ?_
                    refine hx_zald hx hb hK hP 10 9 rfl rfl (by omega) (by omega) dX3_findNeeds_163 ?_
                    refine hx_ifnB (tgt := 195) hx hb dX3_findNeeds_164 (by decide) (fun c_18 => ?_) (fun c_18 => ?_)
                    · refine lv_iconst (v := nI 1) hx hb dX3_findNeeds_195 (by decide) ?_
                      refine lv_goto (tgt := 200) hx hb dX3_findNeeds_196 (by decide) ?_
                      refine hx_zast (v := true) hx hb hK hP hD hS 10 9 rfl rfl (by omega) (by omega) dX3_findNeeds_200 (fun H locs hP hD hS => ?_)
                      have hP : va_P (dC, dI) vwCl (mdW b cB n hd fm rp rq nw bf db sg wt (va_up ne5 ((7 * aa) + bb) true) dn) H := hP
                      have hD : va_D A (mdW b cB n hd fm rp rq nw bf db sg wt (va_up ne5 ((7 * aa) + bb) true) dn) := hD
                      refine lv_iinc (v := nI (bb + 1)) (lv' := [(3, .int (nI (bb + 1))), (0, .ref (b 0)), (1, .int (nI mm)), (2, .int (nI aa))]) hx hb dX3_findNeeds_201 hl (k := 3) rfl (nI_add bb 1) (by decide) rfl (fun ls hl => ?_)
                      refine lv_goto (tgt := 137) hx hb dX3_findNeeds_204 (by decide) ?_
                      have kx := kx
                      rw [show neB mm aa (nn + 1) bb ne5 = neB mm aa nn (bb + 1) (va_up ne5 ((7 * aa) + bb) true) from by simp only [neB, c_11, c_14, c_17, c_18, ↓reduceIte, decide_true, decide_false, Bool.not_true, Bool.not_false, Bool.or_true, Bool.true_or, Bool.or_false, Bool.false_or, Bool.and_true, Bool.true_and, Bool.and_false, Bool.false_and, and_true, true_and, and_false, false_and, and_self, or_self, or_true, true_or, or_false, false_or, Bool.false_eq_true, Bool.true_eq_false, not_true_eq_false, not_false_eq_true, Bool.or_self, decide_eq_true_eq]] at kx
                      exact ih (bb + 1) (va_up ne5 ((7 * aa) + bb) true) (by omega) _ _ hP hD hS ls (lv_sub hl [1, 2, 3, 0] rfl) kx
                    · refine lv_aload_n hx hb dX3_findNeeds_167 rfl (lv_at hl 0 rfl) ?_
                      refine va_get (D := (dC, dI)) (ci := 3) (v := .ref (b 10)) (C := RX3) (T := TX3) (N := 12) hx hb hts in_X3 hown hK hP 0 rfl rfl 10 (by decide) lf_37 (fun _ h9 => h9) rfl dX3_findNeeds_168 ?_
                      refine lv_bipush (v := nI 7) hx hb dX3_findNeeds_171 (by decide) ?_
                      refine lv_iload_n hx hb dX3_findNeeds_173 rfl (lv_at hl 2 rfl) ?_
                      refine hx_imul hx hb dX3_findNeeds_174 ?_
                      refine lv_iload_n hx hb dX3_findNeeds_175 rfl (lv_at hl 1 rfl) ?_
                      refine hx_iadd hx hb dX3_findNeeds_176 ?_
                      refine hx_zald hx hb hK hP 10 9 rfl rfl (by omega) (by omega) dX3_findNeeds_177 ?_
                      refine hx_ifB (tgt := 199) hx hb dX3_findNeeds_178 (by decide) (fun c_19 => ?_) (fun c_19 => ?_)
                      · refine lv_iconst (v := nI 0) hx hb dX3_findNeeds_199 (by decide) ?_
                        refine hx_zast (v := false) hx hb hK hP hD hS 10 9 rfl rfl (by omega) (by omega) dX3_findNeeds_200 (fun H locs hP hD hS => ?_)
                        have hP : va_P (dC, dI) vwCl (mdW b cB n hd fm rp rq nw bf db sg wt (va_up ne5 ((7 * aa) + bb) false) dn) H := hP
                        have hD : va_D A (mdW b cB n hd fm rp rq nw bf db sg wt (va_up ne5 ((7 * aa) + bb) false) dn) := hD
                        refine lv_iinc (v := nI (bb + 1)) (lv' := [(3, .int (nI (bb + 1))), (0, .ref (b 0)), (1, .int (nI mm)), (2, .int (nI aa))]) hx hb dX3_findNeeds_201 hl (k := 3) rfl (nI_add bb 1) (by decide) rfl (fun ls hl => ?_)
                        refine lv_goto (tgt := 137) hx hb dX3_findNeeds_204 (by decide) ?_
                        have kx := kx
                        rw [show neB mm aa (nn + 1) bb ne5 = neB mm aa nn (bb + 1) (va_up ne5 ((7 * aa) + bb) false) from by simp only [neB, c_11, c_14, c_17, c_18, c_19, ↓reduceIte, decide_true, decide_false, Bool.not_true, Bool.not_false, Bool.or_true, Bool.true_or, Bool.or_false, Bool.false_or, Bool.and_true, Bool.true_and, Bool.and_false, Bool.false_and, and_true, true_and, and_false, false_and, and_self, or_self, or_true, true_or, or_false, false_or, Bool.false_eq_true, Bool.true_eq_false, not_true_eq_false, not_false_eq_true, Bool.or_self, decide_eq_true_eq]] at kx
                        exact ih (bb + 1) (va_up ne5 ((7 * aa) + bb) false) (by omega) _ _ hP hD hS ls (lv_sub hl [1, 2, 3, 0] rfl) kx
                      · refine lv_aload_n hx hb dX3_findNeeds_181 rfl (lv_at hl 0 rfl) ?_
                        refine va_get (D := (dC, dI)) (ci := 3) (v := .ref (b 10)) (C := RX3) (T := TX3) (N := 12) hx hb hts in_X3 hown hK hP 0 rfl rfl 10 (by decide) lf_37 (fun _ h9 => h9) rfl dX3_findNeeds_182 ?_
                        refine lv_bipush (v := nI 7) hx hb dX3_findNeeds_185 (by decide) ?_
                        refine lv_iload_n hx hb dX3_findNeeds_187 rfl (lv_at hl 1 rfl) ?_
                        refine hx_imul hx hb dX3_findNeeds_188 ?_
                        refine lv_iload_n hx hb dX3_findNeeds_189 rfl (lv_at hl 3 rfl) ?_
                        refine hx_iadd hx hb dX3_findNeeds_190 ?_
                        refine hx_zald hx hb hK hP 10 9 rfl rfl (by omega) (by omega) dX3_findNeeds_191 ?_
                        refine hx_ifB (tgt := 199) hx hb dX3_findNeeds_192 (by decide) (fun c_20 => ?_) (fun c_20 => ?_)
                        · refine lv_iconst (v := nI 0) hx hb dX3_findNeeds_199 (by decide) ?_
                          refine hx_zast (v := false) hx hb hK hP hD hS 10 9 rfl rfl (by omega) (by omega) dX3_findNeeds_200 (fun H locs hP hD hS => ?_)
                          have hP : va_P (dC, dI) vwCl (mdW b cB n hd fm rp rq nw bf db sg wt (va_up ne5 ((7 * aa) + bb) false) dn) H := hP
                          have hD : va_D A (mdW b cB n hd fm rp rq nw bf db sg wt (va_up ne5 ((7 * aa) + bb) false) dn) := hD
                          refine lv_iinc (v := nI (bb + 1)) (lv' := [(3, .int (nI (bb + 1))), (0, .ref (b 0)), (1, .int (nI mm)), (2, .int (nI aa))]) hx hb dX3_findNeeds_201 hl (k := 3) rfl (nI_add bb 1) (by decide) rfl (fun ls hl => ?_)
                          refine lv_goto (tgt := 137) hx hb dX3_findNeeds_204 (by decide) ?_
                          have kx := kx
                          rw [show neB mm aa (nn + 1) bb ne5 = neB mm aa nn (bb + 1) (va_up ne5 ((7 * aa) + bb) false) from by simp only [neB, c_11, c_14, c_17, c_18, c_19, c_20, ↓reduceIte, decide_true, decide_false, Bool.not_true, Bool.not_false, Bool.or_true, Bool.true_or, Bool.or_false, Bool.false_or, Bool.and_true, Bool.true_and, Bool.and_false, Bool.false_and, and_true, true_and, and_false, false_and, and_self, or_self, or_true, true_or, or_false, false_or, Bool.false_eq_true, Bool.true_eq_false, not_true_eq_false, not_false_eq_true, Bool.or_self, decide_eq_true_eq]] at kx
                          exact ih (bb + 1) (va_up ne5 ((7 * aa) + bb) false) (by omega) _ _ hP hD hS ls (lv_sub hl [1, 2, 3, 0] rfl) kx
                        · refine lv_iconst (v := nI 1) hx hb dX3_findNeeds_195 (by decide) ?_
                          refine lv_goto (tgt := 200) hx hb dX3_findNeeds_196 (by decide) ?_
                          refine hx_zast (v := true) hx hb hK hP hD hS 10 9 rfl rfl (by omega) (by omega) dX3_findNeeds_200 (fun H locs hP hD hS => ?_)
                          have hP : va_P (dC, dI) vwCl (mdW b cB n hd fm rp rq nw bf db sg wt (va_up ne5 ((7 * aa) + bb) true) dn) H := hP
                          have hD : va_D A (mdW b cB n hd fm rp rq nw bf db sg wt (va_up ne5 ((7 * aa) + bb) true) dn) := hD
                          refine lv_iinc (v := nI (bb + 1)) (lv' := [(3, .int (nI (bb + 1))), (0, .ref (b 0)), (1, .int (nI mm)), (2, .int (nI aa))]) hx hb dX3_findNeeds_201 hl (k := 3) rfl (nI_add bb 1) (by decide) rfl (fun ls hl => ?_)
                          refine lv_goto (tgt := 137) hx hb dX3_findNeeds_204 (by decide) ?_
                          have kx := kx
                          rw [show neB mm aa (nn + 1) bb ne5 = neB mm aa nn (bb + 1) (va_up ne5 ((7 * aa) + bb) true) from by simp only [neB, c_11, c_14, c_17, c_18, c_19, c_20, ↓reduceIte, decide_true, decide_false, Bool.not_true, Bool.not_false, Bool.or_true, Bool.true_or, Bool.or_false, Bool.false_or, Bool.and_true, Bool.true_and, Bool.and_false, Bool.false_and, and_true, true_and, and_false, false_and, and_self, or_self, or_true, true_or, or_false, false_or, Bool.false_eq_true, Bool.true_eq_false, not_true_eq_false, not_false_eq_true, Bool.or_self, decide_eq_true_eq]] at kx
                          exact ih (bb + 1) (va_up ne5 ((7 * aa) + bb) true) (by omega) _ _ hP hD hS ls (lv_sub hl [1, 2, 3, 0] rfl) kx
              refine L_137_14 7 0 ne4 (by omega) _ _ hP hD hS ls (lv_sub hl [1, 2, 3, 0] rfl) (fun H locs hP hD hS ls hl => ?_)
              have hP : va_P (dC, dI) vwCl (mdW b cB n hd fm rp rq nw bf db sg wt (neB mm aa 7 0 ne4) dn) H := hP
              have hD : va_D A (mdW b cB n hd fm rp rq nw bf db sg wt (neB mm aa 7 0 ne4) dn) := hD
              have hl : lv_has ls 4 [(0, .ref (b 0)), (1, .int (nI mm)), (2, .int (nI aa)), (3, .int (nI 7))] := hl
              refine lv_iinc (v := nI (aa + 1)) (lv' := [(2, .int (nI (aa + 1))), (0, .ref (b 0)), (1, .int (nI mm)), (3, .int (nI 7))]) hx hb dX3_findNeeds_207 hl (k := 2) rfl (nI_add aa 1) (by decide) rfl (fun ls hl => ?_)
              refine lv_goto (tgt := 129) hx hb dX3_findNeeds_210 (by decide) ?_
              have kx := kx
              rw [show neA mm (nn + 1) aa ne4 = neA mm nn (aa + 1) (neB mm aa 7 0 ne4) from rfl] at kx
              exact ih (aa + 1) (neB mm aa 7 0 ne4) (by omega) _ _ hP hD hS ls (lv_sub hl [1, 2, 0] rfl) kx
        refine L_129_11 7 0 ne3 (by omega) _ _ hP hD hS ls (lv_sub hl [1, 2, 0] rfl) (fun H locs hP hD hS ls hl => ?_)
        have hP : va_P (dC, dI) vwCl (mdW b cB n hd fm rp rq nw bf db sg wt (neA mm 7 0 ne3) dn) H := hP
        have hD : va_D A (mdW b cB n hd fm rp rq nw bf db sg wt (neA mm 7 0 ne3) dn) := hD
        have hl : lv_has ls 4 [(0, .ref (b 0)), (1, .int (nI mm)), (2, .int (nI 7))] := hl
        refine lv_iinc (v := nI (mm + 1)) (lv' := [(1, .int (nI (mm + 1))), (0, .ref (b 0)), (2, .int (nI 7))]) hx hb dX3_findNeeds_213 hl (k := 1) rfl (nI_add mm 1) (by decide) rfl (fun ls hl => ?_)
        refine lv_goto (tgt := 121) hx hb dX3_findNeeds_216 (by decide) ?_
        have kx := kx
        rw [show neM (nn + 1) mm ne3 = neM nn (mm + 1) (neA mm 7 0 ne3) from rfl] at kx
        exact ih (mm + 1) (neA mm 7 0 ne3) (by omega) _ _ hP hD hS ls (lv_sub hl [1, 0] rfl) kx
  refine L_121_8 7 0 (neR hd fm rp rq n 0 (fbF 49 0 ne)) (by omega) _ _ hP hD hS ls (lv_sub hl [1, 0] rfl) (fun H locs hP hD hS ls hl => ?_)
  have hP : va_P (dC, dI) vwCl (mdW b cB n hd fm rp rq nw bf db sg wt (neM 7 0 (neR hd fm rp rq n 0 (fbF 49 0 ne))) dn) H := hP
  have hD : va_D A (mdW b cB n hd fm rp rq nw bf db sg wt (neM 7 0 (neR hd fm rp rq n 0 (fbF 49 0 ne))) dn) := hD
  have hl : lv_has ls 4 [(0, .ref (b 0)), (1, .int (nI 7))] := hl
  have e9 : mdW b cB n hd fm rp rq nw bf db sg wt (neM 7 0 (neR hd fm rp rq n 0 (fbF 49 0 ne))) dn = mdW b cB n hd fm rp rq nw bf db sg wt (neW n hd fm rp rq ne) dn := rfl
  rw [e9] at hP hD
  subst hAe
  exact W.vret hx hb hr (fun t ht hW => ⟨⟨(), rfl, trivial, by rw [ht]; exact hP, va_K.moved hW.alike hK, hD⟩, hS.F ht⟩) hS.2.2 dX3_findNeeds_219
set_option maxHeartbeats 4000000 in
set_option maxRecDepth 100000 in
theorem c_X3_cyclic (l : Launch) (dC : Nat → ClassId) (dI : Nat → Nat → Nat) (b : Nat → Nat) (cB : Nat → ClassId) (n : Nat) (hd fm rp rq : Nat → Nat) (nw bf db sg wt : Nat → Int32) (ne dn : Nat → Bool) (hy_0 : ruOk n hd fm rp rq) : RdM l yX3_cyclic wsX3_cyclic ({ frames := 0, cells := 0, slots := 0, locals := 0 }) (dC, dI) vwCl (mdW b cB n hd fm rp rq nw bf db sg wt ne dn) (mdT cB) nstW [.ref (b 0)] (bI (cyM hd fm rq ne n 0 false)) := by
  refine Met.ofW (cc := cX3_cyclic) (maxL := 3) (ret := (some .boolean)) (by decide) rfl ?_
  intro p e s m args below meth c s₁ B hml hv
  obtain ⟨rfl, hP, hK, hN⟩ := hv
  have hx := B.exec
  have hb := B.bytes
  have hr := B.returns
  have hts := atoms_spec (ws := wsX3_cyclic) B.pre
  have hown : s.vm.findClass RX3 = some m.cls := findClass_of_methodNamed B.named
  have hlocks := B.notSynchronized
  obtain ⟨hn12, hru⟩ := id hy_0
  have lf_44 := hts (.fieldLink RX3 44 "ViewKeeperModel" "count" "I") (by decide +kernel)
  have in_X3 : ∀ w ∈ u_ws RX3 TX3 12, w ∈ wsX3_cyclic := by decide +kernel
  have lf_13 := hts (.fieldLink RX3 13 "ViewKeeperModel" "forms" "[I") (by decide +kernel)
  have lf_19 := hts (.fieldLink RX3 19 "ViewKeeperModel" "second" "[I") (by decide +kernel)
  have lf_7 := hts (.fieldLink RX3 7 "ViewKeeperModel" "heads" "[I") (by decide +kernel)
  have lf_37 := hts (.fieldLink RX3 37 "ViewKeeperModel" "need" "[Z") (by decide +kernel)
  have hl := lv_entry ([.ref (b 0)]) (n := 3) (Nat.le_of_ble_eq_true rfl)
  rw [lg_entry_eq]
  generalize (lg_sl ([.ref (b 0)]) ++ List.replicate (3 - (lg_sl ([.ref (b 0)])).length) Slot.unset).toArray = ls at hl ⊢
  have hl : lv_has ls 3 [(0, .ref (b 0))] := hl
  refine lv_iconst (v := nI 0) hx hb dX3_cyclic_0 (by decide) ?_
  refine lv_istore_n (lv' := [(1, .int (nI 0)), (0, .ref (b 0))]) hx hb dX3_cyclic_1 rfl hl (by decide) rfl (fun ls hl => ?_)
  refine lv_iconst (v := nI 0) hx hb dX3_cyclic_2 (by decide) ?_
  refine lv_istore_n (lv' := [(2, .int (nI 0)), (1, .int (nI 0)), (0, .ref (b 0))]) hx hb dX3_cyclic_3 rfl hl (by decide) rfl (fun ls hl => ?_)
  have L_4_0 : ∀ (nn : Nat) (i : Nat) (bad : Bool), i + nn = n → ∀ ls : Array Slot, lv_has ls 3 [(0, .ref (b 0)), (1, .int (bI bad)), (2, .int (nI i))] → (∀ ls : Array Slot, lv_has ls 3 [(0, .ref (b 0)), (1, .int (bI (cyM hd fm rq ne nn i bad))), (2, .int (nI n))] → W p l e (headSpec wsX3_cyclic ({ frames := 0, cells := 0, slots := 0, locals := 0 })).room s m ([.ref (b 0)] : List Value).toArray below meth c s.heap [] 0 0 (MQ below (vp_Si (fun rz9 => rz9 = (bI (cyM hd fm rq ne n 0 false)))) ([.ref (b 0)] : List Value).toArray s 0 0 (fun _ => False)) (F0 m 77 ls [])) → W p l e (headSpec wsX3_cyclic ({ frames := 0, cells := 0, slots := 0, locals := 0 })).room s m ([.ref (b 0)] : List Value).toArray below meth c s.heap [] 0 0 (MQ below (vp_Si (fun rz9 => rz9 = (bI (cyM hd fm rq ne n 0 false)))) ([.ref (b 0)] : List Value).toArray s 0 0 (fun _ => False)) (F0 m 4 ls []) := by
    intro nn
    induction nn with
    | zero =>
      intro i bad hn_i ls hl kx
      obtain rfl : n = i := by omega
      refine lv_iload_n hx hb dX3_cyclic_4 rfl (lv_at hl 2 rfl) ?_
      refine lv_aload_n hx hb dX3_cyclic_5 rfl (lv_at hl 0 rfl) ?_
      refine va_get (D := (dC, dI)) (ci := 3) (v := .int (nI n)) (C := RX3) (T := TX3) (N := 12) hx hb hts in_X3 hown hK hP 0 rfl rfl 0 (by decide) lf_44 (fun _ h9 => h9) rfl dX3_cyclic_6 ?_
      refine hx_geN (tgt := 77) hx hb dX3_cyclic_9 (by decide) (by omega) (by omega) (fun c_2 => ?_) (fun c_2 => ?_)
      · exact kx ls (lv_sub hl [0, 1, 2] rfl)
      · exact absurd c_2 (by omega)
    | succ nn ih =>
      intro i bad hn_i ls hl kx
      refine lv_iload_n hx hb dX3_cyclic_4 rfl (lv_at hl 2 rfl) ?_
      refine lv_aload_n hx hb dX3_cyclic_5 rfl (lv_at hl 0 rfl) ?_
      refine va_get (D := (dC, dI)) (ci := 3) (v := .int (nI n)) (C := RX3) (T := TX3) (N := 12) hx hb hts in_X3 hown hK hP 0 rfl rfl 0 (by decide) lf_44 (fun _ h9 => h9) rfl dX3_cyclic_6 ?_
      refine hx_geN (tgt := 77) hx hb dX3_cyclic_9 (by decide) (by omega) (by omega) (fun c_3 => ?_) (fun c_3 => ?_)
      · exact absurd c_3 (by omega)
      · have hr9 := hru i (by omega)
        refine lv_iload_n hx hb dX3_cyclic_12 rfl (lv_at hl 1 rfl) ?_
        refine hx_ifnB (tgt := 65) hx hb dX3_cyclic_13 (by decide) (fun c_4 => ?_) (fun c_4 => ?_)
        · refine lv_iconst (v := nI 1) hx hb dX3_cyclic_65 (by decide) ?_
          refine lv_goto (tgt := 70) hx hb dX3_cyclic_66 (by decide) ?_
          refine lv_istore_n (lv' := [(1, .int (nI 1)), (0, .ref (b 0)), (2, .int (nI i))]) hx hb dX3_cyclic_70 rfl hl (by decide) rfl (fun ls hl => ?_)
          refine lv_iinc (v := nI (i + 1)) (lv' := [(2, .int (nI (i + 1))), (1, .int (nI 1)), (0, .ref (b 0))]) hx hb dX3_cyclic_71 hl (k := 2) rfl (nI_add i 1) (by decide) rfl (fun ls hl => ?_)
          refine lv_goto (tgt := 4) hx hb dX3_cyclic_74 (by decide) ?_
          have kx := kx
          rw [show cyM hd fm rq ne (nn + 1) i bad = cyM hd fm rq ne nn (i + 1) true from by simp only [cyM, c_3, c_4, ↓reduceIte, decide_true, decide_false, Bool.not_true, Bool.not_false, Bool.or_true, Bool.true_or, Bool.or_false, Bool.false_or, Bool.and_true, Bool.true_and, Bool.and_false, Bool.false_and, and_true, true_and, and_false, false_and, and_self, or_self, or_true, true_or, or_false, false_or, Bool.false_eq_true, Bool.true_eq_false, not_true_eq_false, not_false_eq_true, Bool.or_self, decide_eq_true_eq]] at kx
          exact ih (i + 1) true (by omega) ls (lv_sub hl [2, 1, 0] rfl) kx
        · refine lv_aload_n hx hb dX3_cyclic_16 rfl (lv_at hl 0 rfl) ?_
          refine va_get (D := (dC, dI)) (ci := 3) (v := .ref (b 2)) (C := RX3) (T := TX3) (N := 12) hx hb hts in_X3 hown hK hP 0 rfl rfl 2 (by decide) lf_13 (fun _ h9 => h9) rfl dX3_cyclic_17 ?_
          refine lv_iload_n hx hb dX3_cyclic_20 rfl (lv_at hl 2 rfl) ?_
          refine hx_ialdN hx hb hK hP 2 1 rfl rfl (by omega) (by omega) dX3_cyclic_21 ?_
          refine lv_iconst (v := nI 4) hx hb dX3_cyclic_22 (by decide) ?_
          refine hx_neN (tgt := 69) hx hb dX3_cyclic_23 (by decide) (by omega) (by omega) (fun c_5 => ?_) (fun c_5 => ?_)
          · refine lv_iconst (v := nI 0) hx hb dX3_cyclic_69 (by decide) ?_
            refine lv_istore_n (lv' := [(1, .int (nI 0)), (0, .ref (b 0)), (2, .int (nI i))]) hx hb dX3_cyclic_70 rfl hl (by decide) rfl (fun ls hl => ?_)
            refine lv_iinc (v := nI (i + 1)) (lv' := [(2, .int (nI (i + 1))), (1, .int (nI 0)), (0, .ref (b 0))]) hx hb dX3_cyclic_71 hl (k := 2) rfl (nI_add i 1) (by decide) rfl (fun ls hl => ?_)
            refine lv_goto (tgt := 4) hx hb dX3_cyclic_74 (by decide) ?_
            have kx := kx
            rw [show cyM hd fm rq ne (nn + 1) i bad = cyM hd fm rq ne nn (i + 1) false from by simp only [cyM, c_3, c_4, c_5, ↓reduceIte, decide_true, decide_false, Bool.not_true, Bool.not_false, Bool.or_true, Bool.true_or, Bool.or_false, Bool.false_or, Bool.and_true, Bool.true_and, Bool.and_false, Bool.false_and, and_true, true_and, and_false, false_and, and_self, or_self, or_true, true_or, or_false, false_or, Bool.false_eq_true, Bool.true_eq_false, not_true_eq_false, not_false_eq_true, Bool.or_self, decide_eq_true_eq]] at kx
            exact ih (i + 1) false (by omega) ls (lv_sub hl [2, 1, 0] rfl) kx
          · refine lv_aload_n hx hb dX3_cyclic_26 rfl (lv_at hl 0 rfl) ?_
            refine va_get (D := (dC, dI)) (ci := 3) (v := .ref (b 4)) (C := RX3) (T := TX3) (N := 12) hx hb hts in_X3 hown hK hP 0 rfl rfl 4 (by decide) lf_19 (fun _ h9 => h9) rfl dX3_cyclic_27 ?_
            refine lv_iload_n hx hb dX3_cyclic_30 rfl (lv_at hl 2 rfl) ?_
            refine hx_ialdN hx hb hK hP 4 3 rfl rfl (by omega) (by omega) dX3_cyclic_31 ?_
            refine lv_aload_n hx hb dX3_cyclic_32 rfl (lv_at hl 0 rfl) ?_
            refine va_get (D := (dC, dI)) (ci := 3) (v := .ref (b 1)) (C := RX3) (T := TX3) (N := 12) hx hb hts in_X3 hown hK hP 0 rfl rfl 1 (by decide) lf_7 (fun _ h9 => h9) rfl dX3_cyclic_33 ?_
            refine lv_iload_n hx hb dX3_cyclic_36 rfl (lv_at hl 2 rfl) ?_
            refine hx_ialdN hx hb hK hP 1 0 rfl rfl (by omega) (by omega) dX3_cyclic_37 ?_
            refine hx_eqN (tgt := 65) hx hb dX3_cyclic_38 (by decide) (by omega) (by omega) (fun c_6 => ?_) (fun c_6 => ?_)
            · refine lv_iconst (v := nI 1) hx hb dX3_cyclic_65 (by decide) ?_
              refine lv_goto (tgt := 70) hx hb dX3_cyclic_66 (by decide) ?_
              refine lv_istore_n (lv' := [(1, .int (nI 1)), (0, .ref (b 0)), (2, .int (nI i))]) hx hb dX3_cyclic_70 rfl hl (by decide) rfl (fun ls hl => ?_)
              refine lv_iinc (v := nI (i + 1)) (lv' := [(2, .int (nI (i + 1))), (1, .int (nI 1)), (0, .ref (b 0))]) hx hb dX3_cyclic_71 hl (k := 2) rfl (nI_add i 1) (by decide) rfl (fun ls hl => ?_)
              refine lv_goto (tgt := 4) hx hb dX3_cyclic_74 (by decide) ?_
              have kx := kx
              rw [show cyM hd fm rq ne (nn + 1) i bad = cyM hd fm rq ne nn (i + 1) true from by simp only [cyM, c_3, c_4, c_5, c_6, ↓reduceIte, decide_true, decide_false, Bool.not_true, Bool.not_false, Bool.or_true, Bool.true_or, Bool.or_false, Bool.false_or, Bool.and_true, Bool.true_and, Bool.and_false, Bool.false_and, and_true, true_and, and_false, false_and, and_self, or_self, or_true, true_or, or_false, false_or, Bool.false_eq_true, Bool.true_eq_false, not_true_eq_false, not_false_eq_true, Bool.or_self, decide_eq_true_eq]] at kx
              exact ih (i + 1) true (by omega) ls (lv_sub hl [2, 1, 0] rfl) kx
            · refine lv_aload_n hx hb dX3_cyclic_41 rfl (lv_at hl 0 rfl) ?_
              refine va_get (D := (dC, dI)) (ci := 3) (v := .ref (b 10)) (C := RX3) (T := TX3) (N := 12) hx hb hts in_X3 hown hK hP 0 rfl rfl 10 (by decide) lf_37 (fun _ h9 => h9) rfl dX3_cyclic_42 ?_
              refine lv_bipush (v := nI 7) hx hb dX3_cyclic_45 (by decide) ?_
              refine lv_aload_n hx hb dX3_cyclic_47 rfl (lv_at hl 0 rfl) ?_
              refine va_get (D := (dC, dI)) (ci := 3) (v := .ref (b 4)) (C := RX3) (T := TX3) (N := 12) hx hb hts in_X3 hown hK hP 0 rfl rfl 4 (by decide) lf_19 (fun _ h9 => h9) rfl dX3_cyclic_48 ?_
              refine lv_iload_n hx hb dX3_cyclic_51 rfl (lv_at hl 2 rfl) ?_
              refine hx_ialdN hx hb hK hP 4 3 rfl rfl (by omega) (by omega) dX3_cyclic_52 ?_
              refine hx_imul hx hb dX3_cyclic_53 ?_
              refine lv_aload_n hx hb dX3_cyclic_54 rfl (lv_at hl 0 rfl) ?_
              refine va_get (D := (dC, dI)) (ci := 3) (v := .ref (b 1)) (C := RX3) (T := TX3) (N := 12) hx hb hts in_X3 hown hK hP 0 rfl rfl 1 (by decide) lf_7 (fun _ h9 => h9) rfl dX3_cyclic_55 ?_
              refine lv_iload_n hx hb dX3_cyclic_58 rfl (lv_at hl 2 rfl) ?_
              refine hx_ialdN hx hb hK hP 1 0 rfl rfl (by omega) (by omega) dX3_cyclic_59 ?_
              refine hx_iadd hx hb dX3_cyclic_60 ?_
              refine hx_zald hx hb hK hP 10 9 rfl rfl (by omega) (by omega) dX3_cyclic_61 ?_
              refine hx_ifB (tgt := 69) hx hb dX3_cyclic_62 (by decide) (fun c_7 => ?_) (fun c_7 => ?_)
              · refine lv_iconst (v := nI 0) hx hb dX3_cyclic_69 (by decide) ?_
                refine lv_istore_n (lv' := [(1, .int (nI 0)), (0, .ref (b 0)), (2, .int (nI i))]) hx hb dX3_cyclic_70 rfl hl (by decide) rfl (fun ls hl => ?_)
                refine lv_iinc (v := nI (i + 1)) (lv' := [(2, .int (nI (i + 1))), (1, .int (nI 0)), (0, .ref (b 0))]) hx hb dX3_cyclic_71 hl (k := 2) rfl (nI_add i 1) (by decide) rfl (fun ls hl => ?_)
                refine lv_goto (tgt := 4) hx hb dX3_cyclic_74 (by decide) ?_
                have kx := kx
                rw [show cyM hd fm rq ne (nn + 1) i bad = cyM hd fm rq ne nn (i + 1) false from by simp only [cyM, c_3, c_4, c_5, c_6, c_7, ↓reduceIte, decide_true, decide_false, Bool.not_true, Bool.not_false, Bool.or_true, Bool.true_or, Bool.or_false, Bool.false_or, Bool.and_true, Bool.true_and, Bool.and_false, Bool.false_and, and_true, true_and, and_false, false_and, and_self, or_self, or_true, true_or, or_false, false_or, Bool.false_eq_true, Bool.true_eq_false, not_true_eq_false, not_false_eq_true, Bool.or_self, decide_eq_true_eq]] at kx
                exact ih (i + 1) false (by omega) ls (lv_sub hl [2, 1, 0] rfl) kx
              · refine lv_iconst (v := nI 1) hx hb dX3_cyclic_65 (by decide) ?_
                refine lv_goto (tgt := 70) hx hb dX3_cyclic_66 (by decide) ?_
                refine lv_istore_n (lv' := [(1, .int (nI 1)), (0, .ref (b 0)), (2, .int (nI i))]) hx hb dX3_cyclic_70 rfl hl (by decide) rfl (fun ls hl => ?_)
                refine lv_iinc (v := nI (i + 1)) (lv' := [(2, .int (nI (i + 1))), (1, .int (nI 1)), (0, .ref (b 0))]) hx hb dX3_cyclic_71 hl (k := 2) rfl (nI_add i 1) (by decide) rfl (fun ls hl => ?_)
                refine lv_goto (tgt := 4) hx hb dX3_cyclic_74 (by decide) ?_
                have kx := kx
                rw [show cyM hd fm rq ne (nn + 1) i bad = cyM hd fm rq ne nn (i + 1) true from by simp only [cyM, c_3, c_4, c_5, c_6, c_7, ↓reduceIte, decide_true, decide_false, Bool.not_true, Bool.not_false, Bool.or_true, Bool.true_or, Bool.or_false, Bool.false_or, Bool.and_true, Bool.true_and, Bool.and_false, Bool.false_and, and_true, true_and, and_false, false_and, and_self, or_self, or_true, true_or, or_false, false_or, Bool.false_eq_true, Bool.true_eq_false, not_true_eq_false, not_false_eq_true, Bool.or_self, decide_eq_true_eq]] at kx
                exact ih (i + 1) true (by omega) ls (lv_sub hl [2, 1, 0] rfl) kx
  refine L_4_0 n 0 false (by omega) ls (lv_sub hl [2, 1, 0] rfl) (fun ls hl => ?_)
  have hl : lv_has ls 3 [(0, .ref (b 0)), (1, .int (bI (cyM hd fm rq ne n 0 false))), (2, .int (nI n))] := hl
  refine lv_iload_n hx hb dX3_cyclic_77 rfl (lv_at hl 1 rfl) ?_
  exact W.zret (v := bI (cyM hd fm rq ne n 0 false)) hx hb hr (nar_bI _) (fun t ht hW => ⟨_, rfl, rfl, ht⟩) (fun _ h => by cases h) dX3_cyclic_78
set_option maxHeartbeats 4000000 in
set_option maxRecDepth 100000 in
theorem c_X3_instances (l : Launch) (dC : Nat → ClassId) (dI : Nat → Nat → Nat) (b : Nat → Nat) (cB : Nat → ClassId) (n : Nat) (hd fm rp rq : Nat → Nat) (nw bf db sg wt : Nat → Int32) (ne dn : Nat → Bool) (i x y : Nat) (hy_0 : i < 13) (hy_1 : fm i ≤ 4) (hy_2 : rp i < 7) (hy_3 : rq i < 7) (hy_4 : x < 5) (hy_5 : y < 5) : RdM l yX3_instances wsX3_instances ({ frames := 1, cells := 0, slots := 0, locals := 22 }) (dC, dI) vwCl (mdW b cB n hd fm rp rq nw bf db sg wt ne dn) (mdT cB) nstW [.ref (b 0), .int (nI i), .int (nI x), .int (nI y)] (nI (miM (fm i) (nw (rp i)) (nw (rq i)) x y)) := by
  refine Met.ofW (cc := cX3_instances) (maxL := 8) (ret := (some .int)) (by decide) rfl ?_
  intro p e s m args below meth c s₁ B hml hv
  obtain ⟨rfl, hP, hK, hN⟩ := hv
  have hx := B.exec
  have hb := B.bytes
  have hr := B.returns
  have hts := atoms_spec (ws := wsX3_instances) B.pre
  have hown : s.vm.findClass RX3 = some m.cls := findClass_of_methodNamed B.named
  have hlocks := B.notSynchronized
  have lf_22 := hts (.fieldLink RX3 22 "ViewKeeperModel" "now" "[I") (by decide +kernel)
  have in_X3 : ∀ w ∈ u_ws RX3 TX3 12, w ∈ wsX3_instances := by decide +kernel
  have lf_16 := hts (.fieldLink RX3 16 "ViewKeeperModel" "first" "[I") (by decide +kernel)
  have lf_19 := hts (.fieldLink RX3 19 "ViewKeeperModel" "second" "[I") (by decide +kernel)
  have lf_13 := hts (.fieldLink RX3 13 "ViewKeeperModel" "forms" "[I") (by decide +kernel)
  have hl := lv_entry ([.ref (b 0), .int (nI i), .int (nI x), .int (nI y)]) (n := 8) (Nat.le_of_ble_eq_true rfl)
  rw [lg_entry_eq]
  generalize (lg_sl ([.ref (b 0), .int (nI i), .int (nI x), .int (nI y)]) ++ List.replicate (8 - (lg_sl ([.ref (b 0), .int (nI i), .int (nI x), .int (nI y)])).length) Slot.unset).toArray = ls at hl ⊢
  have hl : lv_has ls 8 [(0, .ref (b 0)), (1, .int (nI i)), (2, .int (nI x)), (3, .int (nI y))] := hl
  refine lv_aload_n hx hb dX3_instances_0 rfl (lv_at hl 0 rfl) ?_
  refine va_get (D := (dC, dI)) (ci := 3) (v := .ref (b 5)) (C := RX3) (T := TX3) (N := 12) hx hb hts in_X3 hown hK hP 0 rfl rfl 5 (by decide) lf_22 (fun _ h9 => h9) rfl dX3_instances_1 ?_
  refine lv_aload_n hx hb dX3_instances_4 rfl (lv_at hl 0 rfl) ?_
  refine va_get (D := (dC, dI)) (ci := 3) (v := .ref (b 3)) (C := RX3) (T := TX3) (N := 12) hx hb hts in_X3 hown hK hP 0 rfl rfl 3 (by decide) lf_16 (fun _ h9 => h9) rfl dX3_instances_5 ?_
  refine lv_iload_n hx hb dX3_instances_8 rfl (lv_at hl 1 rfl) ?_
  refine hx_ialdN hx hb hK hP 3 2 rfl rfl (by omega) (by omega) dX3_instances_9 ?_
  refine hx_iald hx hb hK hP 5 4 rfl rfl (by omega) (by omega) dX3_instances_10 ?_
  refine lv_istore (lv' := [(4, .int (nw (rp i))), (0, .ref (b 0)), (1, .int (nI i)), (2, .int (nI x)), (3, .int (nI y))]) hx hb dX3_instances_11 hl (by decide) rfl (fun ls hl => ?_)
  refine lv_aload_n hx hb dX3_instances_13 rfl (lv_at hl 1 rfl) ?_
  refine va_get (D := (dC, dI)) (ci := 3) (v := .ref (b 5)) (C := RX3) (T := TX3) (N := 12) hx hb hts in_X3 hown hK hP 0 rfl rfl 5 (by decide) lf_22 (fun _ h9 => h9) rfl dX3_instances_14 ?_
  refine lv_aload_n hx hb dX3_instances_17 rfl (lv_at hl 1 rfl) ?_
  refine va_get (D := (dC, dI)) (ci := 3) (v := .ref (b 4)) (C := RX3) (T := TX3) (N := 12) hx hb hts in_X3 hown hK hP 0 rfl rfl 4 (by decide) lf_19 (fun _ h9 => h9) rfl dX3_instances_18 ?_
  refine lv_iload_n hx hb dX3_instances_21 rfl (lv_at hl 2 rfl) ?_
  refine hx_ialdN hx hb hK hP 4 3 rfl rfl (by omega) (by omega) dX3_instances_22 ?_
  refine hx_iald hx hb hK hP 5 4 rfl rfl (by omega) (by omega) dX3_instances_23 ?_
  refine lv_istore (lv' := [(5, .int (nw (rq i))), (4, .int (nw (rp i))), (0, .ref (b 0)), (1, .int (nI i)), (2, .int (nI x)), (3, .int (nI y))]) hx hb dX3_instances_24 hl (by decide) rfl (fun ls hl => ?_)
  refine lv_aload_n hx hb dX3_instances_26 rfl (lv_at hl 2 rfl) ?_
  refine va_get (D := (dC, dI)) (ci := 3) (v := .ref (b 2)) (C := RX3) (T := TX3) (N := 12) hx hb hts in_X3 hown hK hP 0 rfl rfl 2 (by decide) lf_13 (fun _ h9 => h9) rfl dX3_instances_27 ?_
  refine lv_iload_n hx hb dX3_instances_30 rfl (lv_at hl 3 rfl) ?_
  refine hx_ialdN hx hb hK hP 2 1 rfl rfl (by omega) (by omega) dX3_instances_31 ?_
  rcases (show fm i = 0 ∨ fm i = 1 ∨ fm i = 2 ∨ fm i = 3 ∨ fm i = 4 by omega) with q_1 | q_1 | q_1 | q_1 | q_1
  · refine hx_eq (y := nI 0) (by rw [q_1]) ?_
    refine lv_tableIn (tgt := 64) hx hb dX3_instances_32 (by decide) (by decide) (off := 32) rfl (by decide) ?_
    refine lv_iload hx hb dX3_instances_64 (lv_at hl 1 rfl) ?_
    refine lv_iload_n hx hb dX3_instances_66 rfl (lv_at hl 4 rfl) ?_
    refine lv_iload_n hx hb dX3_instances_67 rfl (lv_at hl 5 rfl) ?_
    refine hx_read (va_runS (As := [.int (nw (rp i)), .int (nI x), .int (nI y)]) (rest := []) ⟨hx, hb, hml, hown, hts⟩ (c_X3_in l (nw (rp i)) x y (by omega) (by omega)) (va_cwS 3 hts gX3_instances_X3_in rfl rfl rfl (by decide +kernel) ⟨Nat.le_of_ble_eq_true rfl, Nat.le_of_ble_eq_true rfl⟩) (nu_S _) rfl rfl hl.1 rfl (lv_room (Nat.le_of_ble_eq_true rfl)) dX3_instances_68 ⟨Nat.zero_le _, Nat.zero_le _⟩) ?_
    refine hx_ifB (tgt := 78) hx hb dX3_instances_71 (by decide) (fun c_2 => ?_) (fun c_2 => ?_)
    · refine lv_iconst (v := nI 0) hx hb dX3_instances_78 (by decide) ?_
      exact W.iret (v := nI 0) hx hb hr (fun t ht hW => ⟨_, rfl, by simp [miM, q_1, c_2], ht⟩) (fun _ h => by cases h) dX3_instances_79
    · refine lv_iconst (v := nI 1) hx hb dX3_instances_74 (by decide) ?_
      refine lv_goto (tgt := 79) hx hb dX3_instances_75 (by decide) ?_
      exact W.iret (v := nI 1) hx hb hr (fun t ht hW => ⟨_, rfl, by simp [miM, q_1, c_2], ht⟩) (fun _ h => by cases h) dX3_instances_79
  · refine hx_eq (y := nI 1) (by rw [q_1]) ?_
    refine lv_tableIn (tgt := 80) hx hb dX3_instances_32 (by decide) (by decide) (off := 48) rfl (by decide) ?_
    refine lv_iload hx hb dX3_instances_80 (lv_at hl 1 rfl) ?_
    refine lv_iload_n hx hb dX3_instances_82 rfl (lv_at hl 5 rfl) ?_
    refine lv_iload_n hx hb dX3_instances_83 rfl (lv_at hl 4 rfl) ?_
    refine hx_read (va_runS (As := [.int (nw (rp i)), .int (nI y), .int (nI x)]) (rest := []) ⟨hx, hb, hml, hown, hts⟩ (c_X3_in l (nw (rp i)) y x (by omega) (by omega)) (va_cwS 3 hts gX3_instances_X3_in rfl rfl rfl (by decide +kernel) ⟨Nat.le_of_ble_eq_true rfl, Nat.le_of_ble_eq_true rfl⟩) (nu_S _) rfl rfl hl.1 rfl (lv_room (Nat.le_of_ble_eq_true rfl)) dX3_instances_84 ⟨Nat.zero_le _, Nat.zero_le _⟩) ?_
    refine hx_ifB (tgt := 94) hx hb dX3_instances_87 (by decide) (fun c_3 => ?_) (fun c_3 => ?_)
    · refine lv_iconst (v := nI 0) hx hb dX3_instances_94 (by decide) ?_
      exact W.iret (v := nI 0) hx hb hr (fun t ht hW => ⟨_, rfl, by simp [miM, q_1, c_3], ht⟩) (fun _ h => by cases h) dX3_instances_95
    · refine lv_iconst (v := nI 1) hx hb dX3_instances_90 (by decide) ?_
      refine lv_goto (tgt := 95) hx hb dX3_instances_91 (by decide) ?_
      exact W.iret (v := nI 1) hx hb hr (fun t ht hW => ⟨_, rfl, by simp [miM, q_1, c_3], ht⟩) (fun _ h => by cases h) dX3_instances_95
  · refine hx_eq (y := nI 2) (by rw [q_1]) ?_
    refine lv_tableIn (tgt := 96) hx hb dX3_instances_32 (by decide) (by decide) (off := 64) rfl (by decide) ?_
    refine lv_iconst (v := nI 0) hx hb dX3_instances_96 (by decide) ?_
    refine lv_istore (lv' := [(6, .int (nI 0)), (5, .int (nw (rq i))), (4, .int (nw (rp i))), (0, .ref (b 0)), (1, .int (nI i)), (2, .int (nI x)), (3, .int (nI y))]) hx hb dX3_instances_97 hl (by decide) rfl (fun ls hl => ?_)
    refine lv_iconst (v := nI 0) hx hb dX3_instances_99 (by decide) ?_
    refine lv_istore (lv' := [(7, .int (nI 0)), (6, .int (nI 0)), (5, .int (nw (rq i))), (4, .int (nw (rp i))), (0, .ref (b 0)), (1, .int (nI i)), (2, .int (nI x)), (3, .int (nI y))]) hx hb dX3_instances_100 hl (by decide) rfl (fun ls hl => ?_)
    have L_102_3 : ∀ (nn : Nat) (z : Nat) (w : Nat), z + nn = 5 → ∀ ls : Array Slot, lv_has ls 8 [(0, .ref (b 0)), (1, .int (nI i)), (2, .int (nI x)), (3, .int (nI y)), (4, .int (nw (rp i))), (5, .int (nw (rq i))), (6, .int (nI w)), (7, .int (nI z))] → (∀ ls : Array Slot, lv_has ls 8 [(0, .ref (b 0)), (1, .int (nI i)), (2, .int (nI x)), (3, .int (nI y)), (4, .int (nw (rp i))), (5, .int (nw (rq i))), (6, .int (nI (insJ (nw (rp i)) (nw (rq i)) x y nn z w))), (7, .int (nI 5))] → W p l e (headSpec wsX3_instances ({ frames := 1, cells := 0, slots := 0, locals := 22 })).room s m ([.ref (b 0), .int (nI i), .int (nI x), .int (nI y)] : List Value).toArray below meth c s.heap [] 0 0 (MQ below (vp_Si (fun rz9 => rz9 = (nI (miM (fm i) (nw (rp i)) (nw (rq i)) x y)))) ([.ref (b 0), .int (nI i), .int (nI x), .int (nI y)] : List Value).toArray s 0 0 (fun _ => False)) (F0 m 147 ls [])) → W p l e (headSpec wsX3_instances ({ frames := 1, cells := 0, slots := 0, locals := 22 })).room s m ([.ref (b 0), .int (nI i), .int (nI x), .int (nI y)] : List Value).toArray below meth c s.heap [] 0 0 (MQ below (vp_Si (fun rz9 => rz9 = (nI (miM (fm i) (nw (rp i)) (nw (rq i)) x y)))) ([.ref (b 0), .int (nI i), .int (nI x), .int (nI y)] : List Value).toArray s 0 0 (fun _ => False)) (F0 m 102 ls []) := by
      intro nn
      induction nn with
      | zero =>
        intro z w hn_z ls hl kx
        obtain rfl : z = 5 := by omega
        refine lv_iload hx hb dX3_instances_102 (lv_at hl 7 rfl) ?_
        refine lv_iconst (v := nI 5) hx hb dX3_instances_104 (by decide) ?_
        refine hx_geN (tgt := 147) hx hb dX3_instances_105 (by decide) (by omega) (by omega) (fun c_5 => ?_) (fun c_5 => ?_)
        · exact kx ls (lv_sub hl [0, 1, 2, 3, 4, 5, 6, 7] rfl)
        · exact absurd c_5 (by omega)
      | succ nn ih =>
        intro z w hn_z ls hl kx
        refine lv_iload hx hb dX3_instances_102 (lv_at hl 7 rfl) ?_
        refine lv_iconst (v := nI 5) hx hb dX3_instances_104 (by decide) ?_
        refine hx_geN (tgt := 147) hx hb dX3_instances_105 (by decide) (by omega) (by omega) (fun c_6 => ?_) (fun c_6 => ?_)
        · exact absurd c_6 (by omega)
        · refine lv_iload hx hb dX3_instances_108 (lv_at hl 4 rfl) ?_
          refine lv_iload_n hx hb dX3_instances_110 rfl (lv_at hl 2 rfl) ?_
          refine lv_iload hx hb dX3_instances_111 (lv_at hl 7 rfl) ?_
          refine hx_read (va_runS (As := [.int (nw (rp i)), .int (nI x), .int (nI z)]) (rest := []) ⟨hx, hb, hml, hown, hts⟩ (c_X3_in l (nw (rp i)) x z (by omega) (by omega)) (va_cwS 3 hts gX3_instances_X3_in rfl rfl rfl (by decide +kernel) ⟨Nat.le_of_ble_eq_true rfl, Nat.le_of_ble_eq_true rfl⟩) (nu_S _) rfl rfl hl.1 rfl (lv_room (Nat.le_of_ble_eq_true rfl)) dX3_instances_113 ⟨Nat.zero_le _, Nat.zero_le _⟩) ?_
          refine hx_ifB (tgt := 137) hx hb dX3_instances_116 (by decide) (fun c_7 => ?_) (fun c_7 => ?_)
          · refine lv_iload hx hb dX3_instances_137 (lv_at hl 6 rfl) ?_
            refine lv_istore (lv' := [(6, .int (nI w)), (0, .ref (b 0)), (1, .int (nI i)), (2, .int (nI x)), (3, .int (nI y)), (4, .int (nw (rp i))), (5, .int (nw (rq i))), (7, .int (nI z))]) hx hb dX3_instances_139 hl (by decide) rfl (fun ls hl => ?_)
            refine lv_iinc (v := nI (z + 1)) (lv' := [(7, .int (nI (z + 1))), (6, .int (nI w)), (0, .ref (b 0)), (1, .int (nI i)), (2, .int (nI x)), (3, .int (nI y)), (4, .int (nw (rp i))), (5, .int (nw (rq i)))]) hx hb dX3_instances_141 hl (k := 7) rfl (nI_add z 1) (by decide) rfl (fun ls hl => ?_)
            refine lv_goto (tgt := 102) hx hb dX3_instances_144 (by decide) ?_
            have kx := kx
            rw [show insJ (nw (rp i)) (nw (rq i)) x y (nn + 1) z w = insJ (nw (rp i)) (nw (rq i)) x y nn (z + 1) w from by simp only [insJ, q_1, c_6, c_7, ↓reduceIte, decide_true, decide_false, Bool.not_true, Bool.not_false, Bool.or_true, Bool.true_or, Bool.or_false, Bool.false_or, Bool.and_true, Bool.true_and, Bool.and_false, Bool.false_and, and_true, true_and, and_false, false_and, and_self, or_self, or_true, true_or, or_false, false_or, Bool.false_eq_true, Bool.true_eq_false, not_true_eq_false, not_false_eq_true, Bool.or_self, decide_eq_true_eq]] at kx
            exact ih (z + 1) w (by omega) ls (lv_sub hl [2, 3, 4, 5, 6, 7, 1, 0] rfl) kx
          · refine lv_iload hx hb dX3_instances_119 (lv_at hl 5 rfl) ?_
            refine lv_iload hx hb dX3_instances_121 (lv_at hl 7 rfl) ?_
            refine lv_iload_n hx hb dX3_instances_123 rfl (lv_at hl 3 rfl) ?_
            refine hx_read (va_runS (As := [.int (nw (rq i)), .int (nI z), .int (nI y)]) (rest := []) ⟨hx, hb, hml, hown, hts⟩ (c_X3_in l (nw (rq i)) z y (by omega) (by omega)) (va_cwS 3 hts gX3_instances_X3_in rfl rfl rfl (by decide +kernel) ⟨Nat.le_of_ble_eq_true rfl, Nat.le_of_ble_eq_true rfl⟩) (nu_S _) rfl rfl hl.1 rfl (lv_room (Nat.le_of_ble_eq_true rfl)) dX3_instances_124 ⟨Nat.zero_le _, Nat.zero_le _⟩) ?_
            refine hx_ifB (tgt := 137) hx hb dX3_instances_127 (by decide) (fun c_8 => ?_) (fun c_8 => ?_)
            · refine lv_iload hx hb dX3_instances_137 (lv_at hl 6 rfl) ?_
              refine lv_istore (lv' := [(6, .int (nI w)), (0, .ref (b 0)), (1, .int (nI i)), (2, .int (nI x)), (3, .int (nI y)), (4, .int (nw (rp i))), (5, .int (nw (rq i))), (7, .int (nI z))]) hx hb dX3_instances_139 hl (by decide) rfl (fun ls hl => ?_)
              refine lv_iinc (v := nI (z + 1)) (lv' := [(7, .int (nI (z + 1))), (6, .int (nI w)), (0, .ref (b 0)), (1, .int (nI i)), (2, .int (nI x)), (3, .int (nI y)), (4, .int (nw (rp i))), (5, .int (nw (rq i)))]) hx hb dX3_instances_141 hl (k := 7) rfl (nI_add z 1) (by decide) rfl (fun ls hl => ?_)
              refine lv_goto (tgt := 102) hx hb dX3_instances_144 (by decide) ?_
              have kx := kx
              rw [show insJ (nw (rp i)) (nw (rq i)) x y (nn + 1) z w = insJ (nw (rp i)) (nw (rq i)) x y nn (z + 1) w from by simp only [insJ, q_1, c_6, c_7, c_8, ↓reduceIte, decide_true, decide_false, Bool.not_true, Bool.not_false, Bool.or_true, Bool.true_or, Bool.or_false, Bool.false_or, Bool.and_true, Bool.true_and, Bool.and_false, Bool.false_and, and_true, true_and, and_false, false_and, and_self, or_self, or_true, true_or, or_false, false_or, Bool.false_eq_true, Bool.true_eq_false, not_true_eq_false, not_false_eq_true, Bool.or_self, decide_eq_true_eq]] at kx
              exact ih (z + 1) w (by omega) ls (lv_sub hl [2, 3, 4, 5, 6, 7, 1, 0] rfl) kx
            · refine lv_iload hx hb dX3_instances_130 (lv_at hl 6 rfl) ?_
              refine lv_iconst (v := nI 1) hx hb dX3_instances_132 (by decide) ?_
              refine hx_iadd hx hb dX3_instances_133 ?_
              refine lv_goto (tgt := 139) hx hb dX3_instances_134 (by decide) ?_
              refine lv_istore (lv' := [(6, .int (nI (w + 1))), (0, .ref (b 0)), (1, .int (nI i)), (2, .int (nI x)), (3, .int (nI y)), (4, .int (nw (rp i))), (5, .int (nw (rq i))), (7, .int (nI z))]) hx hb dX3_instances_139 hl (by decide) rfl (fun ls hl => ?_)
              refine lv_iinc (v := nI (z + 1)) (lv' := [(7, .int (nI (z + 1))), (6, .int (nI (w + 1))), (0, .ref (b 0)), (1, .int (nI i)), (2, .int (nI x)), (3, .int (nI y)), (4, .int (nw (rp i))), (5, .int (nw (rq i)))]) hx hb dX3_instances_141 hl (k := 7) rfl (nI_add z 1) (by decide) rfl (fun ls hl => ?_)
              refine lv_goto (tgt := 102) hx hb dX3_instances_144 (by decide) ?_
              have kx := kx
              rw [show insJ (nw (rp i)) (nw (rq i)) x y (nn + 1) z w = insJ (nw (rp i)) (nw (rq i)) x y nn (z + 1) (w + 1) from by simp only [insJ, q_1, c_6, c_7, c_8, ↓reduceIte, decide_true, decide_false, Bool.not_true, Bool.not_false, Bool.or_true, Bool.true_or, Bool.or_false, Bool.false_or, Bool.and_true, Bool.true_and, Bool.and_false, Bool.false_and, and_true, true_and, and_false, false_and, and_self, or_self, or_true, true_or, or_false, false_or, Bool.false_eq_true, Bool.true_eq_false, not_true_eq_false, not_false_eq_true, Bool.or_self, decide_eq_true_eq]] at kx
              exact ih (z + 1) (w + 1) (by omega) ls (lv_sub hl [2, 3, 4, 5, 6, 7, 1, 0] rfl) kx
    refine L_102_3 5 0 0 (by omega) ls (lv_sub hl [4, 5, 6, 7, 3, 2, 1, 0] rfl) (fun ls hl => ?_)
    have hl : lv_has ls 8 [(0, .ref (b 0)), (1, .int (nI i)), (2, .int (nI x)), (3, .int (nI y)), (4, .int (nw (rp i))), (5, .int (nw (rq i))), (6, .int (nI (insJ (nw (rp i)) (nw (rq i)) x y 5 0 0))), (7, .int (nI 5))] := hl
    refine lv_iload hx hb dX3_instances_147 (lv_at hl 6 rfl) ?_
    exact W.iret (v := nI (insJ (nw (rp i)) (nw (rq i)) x y 5 0 0)) hx hb hr (fun t ht hW => ⟨_, rfl, by simp [miM, q_1], ht⟩) (fun _ h => by cases h) dX3_instances_149
  · refine hx_eq (y := nI 3) (by rw [q_1]) ?_
    refine lv_tableIn (tgt := 150) hx hb dX3_instances_32 (by decide) (by decide) (off := 118) rfl (by decide) ?_
    refine lv_iload hx hb dX3_instances_150 (lv_at hl 1 rfl) ?_
    refine lv_iload_n hx hb dX3_instances_152 rfl (lv_at hl 4 rfl) ?_
    refine lv_iload_n hx hb dX3_instances_153 rfl (lv_at hl 5 rfl) ?_
    refine hx_read (va_runS (As := [.int (nw (rp i)), .int (nI x), .int (nI y)]) (rest := []) ⟨hx, hb, hml, hown, hts⟩ (c_X3_in l (nw (rp i)) x y (by omega) (by omega)) (va_cwS 3 hts gX3_instances_X3_in rfl rfl rfl (by decide +kernel) ⟨Nat.le_of_ble_eq_true rfl, Nat.le_of_ble_eq_true rfl⟩) (nu_S _) rfl rfl hl.1 rfl (lv_room (Nat.le_of_ble_eq_true rfl)) dX3_instances_154 ⟨Nat.zero_le _, Nat.zero_le _⟩) ?_
    refine hx_ifB (tgt := 174) hx hb dX3_instances_157 (by decide) (fun c_9 => ?_) (fun c_9 => ?_)
    · refine lv_iconst (v := nI 0) hx hb dX3_instances_174 (by decide) ?_
      exact W.iret (v := nI 0) hx hb hr (fun t ht hW => ⟨_, rfl, by simp [miM, q_1, c_9], ht⟩) (fun _ h => by cases h) dX3_instances_175
    · refine lv_iload hx hb dX3_instances_160 (lv_at hl 0 rfl) ?_
      refine lv_iload_n hx hb dX3_instances_162 rfl (lv_at hl 4 rfl) ?_
      refine lv_iload_n hx hb dX3_instances_163 rfl (lv_at hl 5 rfl) ?_
      refine hx_read (va_runS (As := [.int (nw (rq i)), .int (nI x), .int (nI y)]) (rest := []) ⟨hx, hb, hml, hown, hts⟩ (c_X3_in l (nw (rq i)) x y (by omega) (by omega)) (va_cwS 3 hts gX3_instances_X3_in rfl rfl rfl (by decide +kernel) ⟨Nat.le_of_ble_eq_true rfl, Nat.le_of_ble_eq_true rfl⟩) (nu_S _) rfl rfl hl.1 rfl (lv_room (Nat.le_of_ble_eq_true rfl)) dX3_instances_164 ⟨Nat.zero_le _, Nat.zero_le _⟩) ?_
      refine hx_ifB (tgt := 174) hx hb dX3_instances_167 (by decide) (fun c_10 => ?_) (fun c_10 => ?_)
      · refine lv_iconst (v := nI 0) hx hb dX3_instances_174 (by decide) ?_
        exact W.iret (v := nI 0) hx hb hr (fun t ht hW => ⟨_, rfl, by simp [miM, q_1, c_9, c_10], ht⟩) (fun _ h => by cases h) dX3_instances_175
      · refine lv_iconst (v := nI 1) hx hb dX3_instances_170 (by decide) ?_
        refine lv_goto (tgt := 175) hx hb dX3_instances_171 (by decide) ?_
        exact W.iret (v := nI 1) hx hb hr (fun t ht hW => ⟨_, rfl, by simp [miM, q_1, c_9, c_10], ht⟩) (fun _ h => by cases h) dX3_instances_175
  · refine hx_eq (y := nI 4) (by rw [q_1]) ?_
    refine lv_tableOut (tgt := 176) hx hb dX3_instances_32 (Or.inr (by decide)) (by decide) ?_
    refine lv_iload hx hb dX3_instances_176 (lv_at hl 1 rfl) ?_
    refine lv_iload_n hx hb dX3_instances_178 rfl (lv_at hl 4 rfl) ?_
    refine lv_iload_n hx hb dX3_instances_179 rfl (lv_at hl 5 rfl) ?_
    refine hx_read (va_runS (As := [.int (nw (rp i)), .int (nI x), .int (nI y)]) (rest := []) ⟨hx, hb, hml, hown, hts⟩ (c_X3_in l (nw (rp i)) x y (by omega) (by omega)) (va_cwS 3 hts gX3_instances_X3_in rfl rfl rfl (by decide +kernel) ⟨Nat.le_of_ble_eq_true rfl, Nat.le_of_ble_eq_true rfl⟩) (nu_S _) rfl rfl hl.1 rfl (lv_room (Nat.le_of_ble_eq_true rfl)) dX3_instances_180 ⟨Nat.zero_le _, Nat.zero_le _⟩) ?_
    refine hx_ifB (tgt := 200) hx hb dX3_instances_183 (by decide) (fun c_11 => ?_) (fun c_11 => ?_)
    · refine lv_iconst (v := nI 0) hx hb dX3_instances_200 (by decide) ?_
      exact W.iret (v := nI 0) hx hb hr (fun t ht hW => ⟨_, rfl, by simp [miM, q_1, c_11], ht⟩) (fun _ h => by cases h) dX3_instances_201
    · refine lv_iload hx hb dX3_instances_186 (lv_at hl 0 rfl) ?_
      refine lv_iload_n hx hb dX3_instances_188 rfl (lv_at hl 4 rfl) ?_
      refine lv_iload_n hx hb dX3_instances_189 rfl (lv_at hl 5 rfl) ?_
      refine hx_read (va_runS (As := [.int (nw (rq i)), .int (nI x), .int (nI y)]) (rest := []) ⟨hx, hb, hml, hown, hts⟩ (c_X3_in l (nw (rq i)) x y (by omega) (by omega)) (va_cwS 3 hts gX3_instances_X3_in rfl rfl rfl (by decide +kernel) ⟨Nat.le_of_ble_eq_true rfl, Nat.le_of_ble_eq_true rfl⟩) (nu_S _) rfl rfl hl.1 rfl (lv_room (Nat.le_of_ble_eq_true rfl)) dX3_instances_190 ⟨Nat.zero_le _, Nat.zero_le _⟩) ?_
      refine hx_ifnB (tgt := 200) hx hb dX3_instances_193 (by decide) (fun c_12 => ?_) (fun c_12 => ?_)
      · refine lv_iconst (v := nI 0) hx hb dX3_instances_200 (by decide) ?_
        exact W.iret (v := nI 0) hx hb hr (fun t ht hW => ⟨_, rfl, by simp [miM, q_1, c_11, c_12], ht⟩) (fun _ h => by cases h) dX3_instances_201
      · refine lv_iconst (v := nI 1) hx hb dX3_instances_196 (by decide) ?_
        refine lv_goto (tgt := 201) hx hb dX3_instances_197 (by decide) ?_
        exact W.iret (v := nI 1) hx hb hr (fun t ht hW => ⟨_, rfl, by simp [miM, q_1, c_11, c_12], ht⟩) (fun _ h => by cases h) dX3_instances_201
set_option maxHeartbeats 4000000 in
set_option maxRecDepth 100000 in
theorem c_X3_instancesOf (l : Launch) (dC : Nat → ClassId) (dI : Nat → Nat → Nat) (b : Nat → Nat) (cB : Nat → ClassId) (n : Nat) (hd fm rp rq : Nat → Nat) (nw bf db sg wt : Nat → Int32) (ne dn : Nat → Bool) (v x y : Nat) (hy_0 : ruOk n hd fm rp rq) (hy_1 : v < 7) (hy_2 : x < 5) (hy_3 : y < 5) : RdM l yX3_instancesOf wsX3_instancesOf ({ frames := 2, cells := 0, slots := 0, locals := 49 }) (dC, dI) vwCl (mdW b cB n hd fm rp rq nw bf db sg wt ne dn) (mdT cB) nstW [.ref (b 0), .int (nI v), .int (nI x), .int (nI y)] (nI (mcF hd fm rp rq nw v x y n 0 0)) := by
  refine Met.ofW (cc := cX3_instancesOf) (maxL := 6) (ret := (some .int)) (by decide) rfl ?_
  intro p e s m args below meth c s₁ B hml hv
  obtain ⟨rfl, hP, hK, hN⟩ := hv
  have hx := B.exec
  have hb := B.bytes
  have hr := B.returns
  have hts := atoms_spec (ws := wsX3_instancesOf) B.pre
  have hown : s.vm.findClass RX3 = some m.cls := findClass_of_methodNamed B.named
  have hlocks := B.notSynchronized
  obtain ⟨hn12, hru⟩ := id hy_0
  have lf_44 := hts (.fieldLink RX3 44 "ViewKeeperModel" "count" "I") (by decide +kernel)
  have in_X3 : ∀ w ∈ u_ws RX3 TX3 12, w ∈ wsX3_instancesOf := by decide +kernel
  have lf_7 := hts (.fieldLink RX3 7 "ViewKeeperModel" "heads" "[I") (by decide +kernel)
  have hl := lv_entry ([.ref (b 0), .int (nI v), .int (nI x), .int (nI y)]) (n := 6) (Nat.le_of_ble_eq_true rfl)
  rw [lg_entry_eq]
  generalize (lg_sl ([.ref (b 0), .int (nI v), .int (nI x), .int (nI y)]) ++ List.replicate (6 - (lg_sl ([.ref (b 0), .int (nI v), .int (nI x), .int (nI y)])).length) Slot.unset).toArray = ls at hl ⊢
  have hl : lv_has ls 6 [(0, .ref (b 0)), (1, .int (nI v)), (2, .int (nI x)), (3, .int (nI y))] := hl
  refine lv_iconst (v := nI 0) hx hb dX3_instancesOf_0 (by decide) ?_
  refine lv_istore (lv' := [(4, .int (nI 0)), (0, .ref (b 0)), (1, .int (nI v)), (2, .int (nI x)), (3, .int (nI y))]) hx hb dX3_instancesOf_1 hl (by decide) rfl (fun ls hl => ?_)
  refine lv_iconst (v := nI 0) hx hb dX3_instancesOf_3 (by decide) ?_
  refine lv_istore (lv' := [(5, .int (nI 0)), (4, .int (nI 0)), (0, .ref (b 0)), (1, .int (nI v)), (2, .int (nI x)), (3, .int (nI y))]) hx hb dX3_instancesOf_4 hl (by decide) rfl (fun ls hl => ?_)
  have L_6_0 : ∀ (nn : Nat) (i : Nat) (w : Nat), i + nn = n → ∀ ls : Array Slot, lv_has ls 6 [(0, .ref (b 0)), (1, .int (nI v)), (2, .int (nI x)), (3, .int (nI y)), (4, .int (nI w)), (5, .int (nI i))] → (∀ ls : Array Slot, lv_has ls 6 [(0, .ref (b 0)), (1, .int (nI v)), (2, .int (nI x)), (3, .int (nI y)), (4, .int (nI (mcF hd fm rp rq nw v x y nn i w))), (5, .int (nI n))] → W p l e (headSpec wsX3_instancesOf ({ frames := 2, cells := 0, slots := 0, locals := 49 })).room s m ([.ref (b 0), .int (nI v), .int (nI x), .int (nI y)] : List Value).toArray below meth c s.heap [] 0 0 (MQ below (vp_Si (fun rz9 => rz9 = (nI (mcF hd fm rp rq nw v x y n 0 0)))) ([.ref (b 0), .int (nI v), .int (nI x), .int (nI y)] : List Value).toArray s 0 0 (fun _ => False)) (F0 m 50 ls [])) → W p l e (headSpec wsX3_instancesOf ({ frames := 2, cells := 0, slots := 0, locals := 49 })).room s m ([.ref (b 0), .int (nI v), .int (nI x), .int (nI y)] : List Value).toArray below meth c s.heap [] 0 0 (MQ below (vp_Si (fun rz9 => rz9 = (nI (mcF hd fm rp rq nw v x y n 0 0)))) ([.ref (b 0), .int (nI v), .int (nI x), .int (nI y)] : List Value).toArray s 0 0 (fun _ => False)) (F0 m 6 ls []) := by
    intro nn
    induction nn with
    | zero =>
      intro i w hn_i ls hl kx
      obtain rfl : n = i := by omega
      refine lv_iload hx hb dX3_instancesOf_6 (lv_at hl 5 rfl) ?_
      refine lv_aload_n hx hb dX3_instancesOf_8 rfl (lv_at hl 0 rfl) ?_
      refine va_get (D := (dC, dI)) (ci := 3) (v := .int (nI n)) (C := RX3) (T := TX3) (N := 12) hx hb hts in_X3 hown hK hP 0 rfl rfl 0 (by decide) lf_44 (fun _ h9 => h9) rfl dX3_instancesOf_9 ?_
      refine hx_geN (tgt := 50) hx hb dX3_instancesOf_12 (by decide) (by omega) (by omega) (fun c_2 => ?_) (fun c_2 => ?_)
      · exact kx ls (lv_sub hl [0, 1, 2, 3, 4, 5] rfl)
      · exact absurd c_2 (by omega)
    | succ nn ih =>
      intro i w hn_i ls hl kx
      refine lv_iload hx hb dX3_instancesOf_6 (lv_at hl 5 rfl) ?_
      refine lv_aload_n hx hb dX3_instancesOf_8 rfl (lv_at hl 0 rfl) ?_
      refine va_get (D := (dC, dI)) (ci := 3) (v := .int (nI n)) (C := RX3) (T := TX3) (N := 12) hx hb hts in_X3 hown hK hP 0 rfl rfl 0 (by decide) lf_44 (fun _ h9 => h9) rfl dX3_instancesOf_9 ?_
      refine hx_geN (tgt := 50) hx hb dX3_instancesOf_12 (by decide) (by omega) (by omega) (fun c_3 => ?_) (fun c_3 => ?_)
      · exact absurd c_3 (by omega)
      · have hr9 := hru i (by omega)
        refine lv_aload_n hx hb dX3_instancesOf_15 rfl (lv_at hl 0 rfl) ?_
        refine va_get (D := (dC, dI)) (ci := 3) (v := .ref (b 1)) (C := RX3) (T := TX3) (N := 12) hx hb hts in_X3 hown hK hP 0 rfl rfl 1 (by decide) lf_7 (fun _ h9 => h9) rfl dX3_instancesOf_16 ?_
        refine lv_iload hx hb dX3_instancesOf_19 (lv_at hl 5 rfl) ?_
        refine hx_ialdN hx hb hK hP 1 0 rfl rfl (by omega) (by omega) dX3_instancesOf_21 ?_
        refine lv_iload_n hx hb dX3_instancesOf_22 rfl (lv_at hl 1 rfl) ?_
        refine hx_neN (tgt := 40) hx hb dX3_instancesOf_23 (by decide) (by omega) (by omega) (fun c_4 => ?_) (fun c_4 => ?_)
        · refine lv_iload hx hb dX3_instancesOf_40 (lv_at hl 4 rfl) ?_
          refine lv_istore (lv' := [(4, .int (nI w)), (0, .ref (b 0)), (1, .int (nI v)), (2, .int (nI x)), (3, .int (nI y)), (5, .int (nI i))]) hx hb dX3_instancesOf_42 hl (by decide) rfl (fun ls hl => ?_)
          refine lv_iinc (v := nI (i + 1)) (lv' := [(5, .int (nI (i + 1))), (4, .int (nI w)), (0, .ref (b 0)), (1, .int (nI v)), (2, .int (nI x)), (3, .int (nI y))]) hx hb dX3_instancesOf_44 hl (k := 5) rfl (nI_add i 1) (by decide) rfl (fun ls hl => ?_)
          refine lv_goto (tgt := 6) hx hb dX3_instancesOf_47 (by decide) ?_
          have kx := kx
          rw [show mcF hd fm rp rq nw v x y (nn + 1) i w = mcF hd fm rp rq nw v x y nn (i + 1) w from by simp only [mcF, c_3, c_4, ↓reduceIte, decide_true, decide_false, Bool.not_true, Bool.not_false, Bool.or_true, Bool.true_or, Bool.or_false, Bool.false_or, Bool.and_true, Bool.true_and, Bool.and_false, Bool.false_and, and_true, true_and, and_false, false_and, and_self, or_self, or_true, true_or, or_false, false_or, Bool.false_eq_true, Bool.true_eq_false, not_true_eq_false, not_false_eq_true, Bool.or_self, decide_eq_true_eq]] at kx
          exact ih (i + 1) w (by omega) ls (lv_sub hl [2, 3, 4, 5, 1, 0] rfl) kx
        · refine lv_iload hx hb dX3_instancesOf_26 (lv_at hl 4 rfl) ?_
          refine lv_aload_n hx hb dX3_instancesOf_28 rfl (lv_at hl 0 rfl) ?_
          refine lv_iload hx hb dX3_instancesOf_29 (lv_at hl 5 rfl) ?_
          refine lv_iload_n hx hb dX3_instancesOf_31 rfl (lv_at hl 2 rfl) ?_
          refine lv_iload_n hx hb dX3_instancesOf_32 rfl (lv_at hl 3 rfl) ?_
          refine hx_read (va_runV (As := [.int (nI i), .int (nI x), .int (nI y)]) (rest := [.int (nI w)]) ⟨hx, hb, hml, hown, hts⟩ (c_X3_instances l dC dI b cB n hd fm rp rq nw bf db sg wt ne dn i x y (by omega) (by omega) (by omega) (by omega) (by omega) (by omega)) (cwV 3 hts gX3_instancesOf_X3_instances rfl rfl rfl (by decide +kernel) ⟨Nat.le_of_ble_eq_true rfl, Nat.le_of_ble_eq_true rfl⟩) (rd_V nstW_ok hP hK hN 0 rfl rfl _) rfl rfl hl.1 rfl (lv_room (Nat.le_of_ble_eq_true rfl)) dX3_instancesOf_33 ⟨Nat.zero_le _, Nat.zero_le _⟩) ?_
          refine hx_iadd hx hb dX3_instancesOf_36 ?_
          refine lv_goto (tgt := 42) hx hb dX3_instancesOf_37 (by decide) ?_
          refine lv_istore (lv' := [(4, .int (nI (w + (miM (fm i) (nw (rp i)) (nw (rq i)) x y)))), (0, .ref (b 0)), (1, .int (nI v)), (2, .int (nI x)), (3, .int (nI y)), (5, .int (nI i))]) hx hb dX3_instancesOf_42 hl (by decide) rfl (fun ls hl => ?_)
          refine lv_iinc (v := nI (i + 1)) (lv' := [(5, .int (nI (i + 1))), (4, .int (nI (w + (miM (fm i) (nw (rp i)) (nw (rq i)) x y)))), (0, .ref (b 0)), (1, .int (nI v)), (2, .int (nI x)), (3, .int (nI y))]) hx hb dX3_instancesOf_44 hl (k := 5) rfl (nI_add i 1) (by decide) rfl (fun ls hl => ?_)
          refine lv_goto (tgt := 6) hx hb dX3_instancesOf_47 (by decide) ?_
          have kx := kx
          rw [show mcF hd fm rp rq nw v x y (nn + 1) i w = mcF hd fm rp rq nw v x y nn (i + 1) (w + (miM (fm i) (nw (rp i)) (nw (rq i)) x y)) from by simp only [mcF, c_3, c_4, ↓reduceIte, decide_true, decide_false, Bool.not_true, Bool.not_false, Bool.or_true, Bool.true_or, Bool.or_false, Bool.false_or, Bool.and_true, Bool.true_and, Bool.and_false, Bool.false_and, and_true, true_and, and_false, false_and, and_self, or_self, or_true, true_or, or_false, false_or, Bool.false_eq_true, Bool.true_eq_false, not_true_eq_false, not_false_eq_true, Bool.or_self, decide_eq_true_eq]] at kx
          exact ih (i + 1) (w + (miM (fm i) (nw (rp i)) (nw (rq i)) x y)) (by omega) ls (lv_sub hl [2, 3, 4, 5, 1, 0] rfl) kx
  refine L_6_0 n 0 0 (by omega) ls (lv_sub hl [2, 3, 4, 5, 1, 0] rfl) (fun ls hl => ?_)
  have hl : lv_has ls 6 [(0, .ref (b 0)), (1, .int (nI v)), (2, .int (nI x)), (3, .int (nI y)), (4, .int (nI (mcF hd fm rp rq nw v x y n 0 0))), (5, .int (nI n))] := hl
  refine lv_iload hx hb dX3_instancesOf_50 (lv_at hl 4 rfl) ?_
  exact W.iret (v := nI (mcF hd fm rp rq nw v x y n 0 0)) hx hb hr (fun t ht hW => ⟨_, rfl, rfl, ht⟩) (fun _ h => by cases h) dX3_instancesOf_52
set_option maxHeartbeats 4000000 in
set_option maxRecDepth 100000 in
theorem c_X3_grow (l : Launch) (dC : Nat → ClassId) (dI : Nat → Nat → Nat) (b : Nat → Nat) (cB : Nat → ClassId) (n : Nat) (hd fm rp rq : Nat → Nat) (nw bf db sg wt : Nat → Int32) (ne dn : Nat → Bool) (v : Nat) (hy_0 : ruOk n hd fm rp rq) (hy_1 : v < 7) : WrI l yX3_grow wsX3_grow ({ frames := 3, cells := 0, slots := 0, locals := 74 }) (dC, dI) vwCl (mdW b cB n hd fm rp rq nw bf db sg wt ne dn) (mdW b cB n hd fm rp rq (upd nw v (grO n hd fm rp rq nw v 5 0 (nw v))) bf db sg wt ne dn) (mdT cB) nstW [.ref (b 0), .int (nI v)] (bI (!decide (grO n hd fm rp rq nw v 5 0 (nw v) = nw v))) := by
  intro sz
  refine Met.ofW (cc := cX3_grow) (maxL := 5) (ret := (some .boolean)) (by decide) rfl ?_
  intro p e s m args below meth c s₁ B hml hv
  obtain ⟨rfl, hsz, ⟨hP, hK, hN⟩, hD0⟩ := hv
  subst hsz
  have hx := B.exec
  have hb := B.bytes
  have hr := B.returns
  have hts := atoms_spec (ws := wsX3_grow) B.pre
  have hown : s.vm.findClass RX3 = some m.cls := findClass_of_methodNamed B.named
  have hlocks := B.notSynchronized
  obtain ⟨A, hAe⟩ : ∃ A, A = va_A (mdW b cB n hd fm rp rq nw bf db sg wt ne dn) s.heap.size := ⟨_, rfl⟩
  have hD : va_D A (mdW b cB n hd fm rp rq nw bf db sg wt ne dn) := by rw [hAe]; exact hD0.self (sz := s.heap.size)
  have hA : ∀ q : Nat, s.heap.size ≤ q → A q := fun q h => by rw [hAe]; exact Or.inr h
  have hS : va_S A s.heap s.heap [] := va_S.rf
  have hP : va_P (dC, dI) vwCl (mdW b cB n hd fm rp rq nw bf db sg wt ne dn) s.heap := hP
  have hn12 := hy_0.1
  have lf_22 := hts (.fieldLink RX3 22 "ViewKeeperModel" "now" "[I") (by decide +kernel)
  have in_X3 : ∀ w ∈ u_ws RX3 TX3 12, w ∈ wsX3_grow := by decide +kernel
  have hl := lv_entry ([.ref (b 0), .int (nI v)]) (n := 5) (Nat.le_of_ble_eq_true rfl)
  rw [lg_entry_eq]
  generalize (lg_sl ([.ref (b 0), .int (nI v)]) ++ List.replicate (5 - (lg_sl ([.ref (b 0), .int (nI v)])).length) Slot.unset).toArray = ls at hl ⊢
  have hl : lv_has ls 5 [(0, .ref (b 0)), (1, .int (nI v))] := hl
  refine lv_aload_n hx hb dX3_grow_0 rfl (lv_at hl 0 rfl) ?_
  refine va_get (D := (dC, dI)) (ci := 3) (v := .ref (b 5)) (C := RX3) (T := TX3) (N := 12) hx hb hts in_X3 hown hK hP 0 rfl rfl 5 (by decide) lf_22 (fun _ h9 => h9) rfl dX3_grow_1 ?_
  refine lv_iload_n hx hb dX3_grow_4 rfl (lv_at hl 1 rfl) ?_
  refine hx_iald hx hb hK hP 5 4 rfl rfl (by omega) (by omega) dX3_grow_5 ?_
  refine lv_istore_n (lv' := [(2, .int (nw v)), (0, .ref (b 0)), (1, .int (nI v))]) hx hb dX3_grow_6 rfl hl (by decide) rfl (fun ls hl => ?_)
  refine lv_iconst (v := nI 0) hx hb dX3_grow_7 (by decide) ?_
  refine lv_istore_n (lv' := [(3, .int (nI 0)), (2, .int (nw v)), (0, .ref (b 0)), (1, .int (nI v))]) hx hb dX3_grow_8 rfl hl (by decide) rfl (fun ls hl => ?_)
  have L_9_0 : ∀ (nn : Nat) (x : Nat) (m9 : Int32), x + nn = 5 → ∀ (H : Heap) (locs : List Loc), va_P (dC, dI) vwCl (mdW b cB n hd fm rp rq nw bf db sg wt ne dn) H → va_D A (mdW b cB n hd fm rp rq nw bf db sg wt ne dn) → va_S A s.heap H locs → ∀ ls : Array Slot, lv_has ls 5 [(0, .ref (b 0)), (1, .int (nI v)), (2, .int (m9)), (3, .int (nI x))] → (∀ (H : Heap) (locs : List Loc), va_P (dC, dI) vwCl (mdW b cB n hd fm rp rq nw bf db sg wt ne dn) H → va_D A (mdW b cB n hd fm rp rq nw bf db sg wt ne dn) → va_S A s.heap H locs → ∀ ls : Array Slot, lv_has ls 5 [(0, .ref (b 0)), (1, .int (nI v)), (2, .int (grO n hd fm rp rq nw v nn x m9)), (3, .int (nI 5))] → W p l e (headSpec wsX3_grow ({ frames := 3, cells := 0, slots := 0, locals := 74 })).room s m ([.ref (b 0), .int (nI v)] : List Value).toArray below meth c H locs 0 0 (MQ below (va_Qi (fun (rz9 : Int32) (_ : Unit) => rz9 = (bI (!decide (grO n hd fm rp rq nw v 5 0 (nw v) = nw v)))) (wrB (dC, dI) vwCl (mdW b cB n hd fm rp rq nw bf db sg wt ne dn) (mdW b cB n hd fm rp rq (upd nw v (grO n hd fm rp rq nw v 5 0 (nw v))) bf db sg wt ne dn) (mdT cB) s.heap.size) (va_A (mdW b cB n hd fm rp rq nw bf db sg wt ne dn) s.heap.size)) ([.ref (b 0), .int (nI v)] : List Value).toArray s 0 0 (va_A (mdW b cB n hd fm rp rq nw bf db sg wt ne dn) s.heap.size)) (F0 m 59 ls [])) → W p l e (headSpec wsX3_grow ({ frames := 3, cells := 0, slots := 0, locals := 74 })).room s m ([.ref (b 0), .int (nI v)] : List Value).toArray below meth c H locs 0 0 (MQ below (va_Qi (fun (rz9 : Int32) (_ : Unit) => rz9 = (bI (!decide (grO n hd fm rp rq nw v 5 0 (nw v) = nw v)))) (wrB (dC, dI) vwCl (mdW b cB n hd fm rp rq nw bf db sg wt ne dn) (mdW b cB n hd fm rp rq (upd nw v (grO n hd fm rp rq nw v 5 0 (nw v))) bf db sg wt ne dn) (mdT cB) s.heap.size) (va_A (mdW b cB n hd fm rp rq nw bf db sg wt ne dn) s.heap.size)) ([.ref (b 0), .int (nI v)] : List Value).toArray s 0 0 (va_A (mdW b cB n hd fm rp rq nw bf db sg wt ne dn) s.heap.size)) (F0 m 9 ls []) := by
    intro nn
    induction nn with
    | zero =>
      intro x m9 hn_x H locs hP hD hS ls hl kx
      obtain rfl : x = 5 := by omega
      refine lv_iload_n hx hb dX3_grow_9 rfl (lv_at hl 3 rfl) ?_
      refine lv_iconst (v := nI 5) hx hb dX3_grow_10 (by decide) ?_
      refine hx_geN (tgt := 59) hx hb dX3_grow_11 (by decide) (by omega) (by omega) (fun c_2 => ?_) (fun c_2 => ?_)
      · exact kx _ _ hP hD hS ls (lv_sub hl [0, 1, 2, 3] rfl)
      · exact absurd c_2 (by omega)
    | succ nn ih =>
      intro x m9 hn_x H locs hP hD hS ls hl kx
      refine lv_iload_n hx hb dX3_grow_9 rfl (lv_at hl 3 rfl) ?_
      refine lv_iconst (v := nI 5) hx hb dX3_grow_10 (by decide) ?_
      refine hx_geN (tgt := 59) hx hb dX3_grow_11 (by decide) (by omega) (by omega) (fun c_3 => ?_) (fun c_3 => ?_)
      · exact absurd c_3 (by omega)
      · refine lv_iconst (v := nI 0) hx hb dX3_grow_14 (by decide) ?_
        refine lv_istore (lv' := [(4, .int (nI 0)), (0, .ref (b 0)), (1, .int (nI v)), (2, .int (m9)), (3, .int (nI x))]) hx hb dX3_grow_15 hl (by decide) rfl (fun ls hl => ?_)
        have L_17_3 : ∀ (nn : Nat) (y : Nat) (m8 : Int32), y + nn = 5 → ∀ (H : Heap) (locs : List Loc), va_P (dC, dI) vwCl (mdW b cB n hd fm rp rq nw bf db sg wt ne dn) H → va_D A (mdW b cB n hd fm rp rq nw bf db sg wt ne dn) → va_S A s.heap H locs → ∀ ls : Array Slot, lv_has ls 5 [(0, .ref (b 0)), (1, .int (nI v)), (2, .int (m8)), (3, .int (nI x)), (4, .int (nI y))] → (∀ (H : Heap) (locs : List Loc), va_P (dC, dI) vwCl (mdW b cB n hd fm rp rq nw bf db sg wt ne dn) H → va_D A (mdW b cB n hd fm rp rq nw bf db sg wt ne dn) → va_S A s.heap H locs → ∀ ls : Array Slot, lv_has ls 5 [(0, .ref (b 0)), (1, .int (nI v)), (2, .int (grI n hd fm rp rq nw v x nn y m8)), (3, .int (nI x)), (4, .int (nI 5))] → W p l e (headSpec wsX3_grow ({ frames := 3, cells := 0, slots := 0, locals := 74 })).room s m ([.ref (b 0), .int (nI v)] : List Value).toArray below meth c H locs 0 0 (MQ below (va_Qi (fun (rz9 : Int32) (_ : Unit) => rz9 = (bI (!decide (grO n hd fm rp rq nw v 5 0 (nw v) = nw v)))) (wrB (dC, dI) vwCl (mdW b cB n hd fm rp rq nw bf db sg wt ne dn) (mdW b cB n hd fm rp rq (upd nw v (grO n hd fm rp rq nw v 5 0 (nw v))) bf db sg wt ne dn) (mdT cB) s.heap.size) (va_A (mdW b cB n hd fm rp rq nw bf db sg wt ne dn) s.heap.size)) ([.ref (b 0), .int (nI v)] : List Value).toArray s 0 0 (va_A (mdW b cB n hd fm rp rq nw bf db sg wt ne dn) s.heap.size)) (F0 m 53 ls [])) → W p l e (headSpec wsX3_grow ({ frames := 3, cells := 0, slots := 0, locals := 74 })).room s m ([.ref (b 0), .int (nI v)] : List Value).toArray below meth c H locs 0 0 (MQ below (va_Qi (fun (rz9 : Int32) (_ : Unit) => rz9 = (bI (!decide (grO n hd fm rp rq nw v 5 0 (nw v) = nw v)))) (wrB (dC, dI) vwCl (mdW b cB n hd fm rp rq nw bf db sg wt ne dn) (mdW b cB n hd fm rp rq (upd nw v (grO n hd fm rp rq nw v 5 0 (nw v))) bf db sg wt ne dn) (mdT cB) s.heap.size) (va_A (mdW b cB n hd fm rp rq nw bf db sg wt ne dn) s.heap.size)) ([.ref (b 0), .int (nI v)] : List Value).toArray s 0 0 (va_A (mdW b cB n hd fm rp rq nw bf db sg wt ne dn) s.heap.size)) (F0 m 17 ls []) := by
          intro nn
          induction nn with
          | zero =>
            intro y m8 hn_y H locs hP hD hS ls hl kx
            obtain rfl : y = 5 := by omega
            refine lv_iload hx hb dX3_grow_17 (lv_at hl 4 rfl) ?_
            refine lv_iconst (v := nI 5) hx hb dX3_grow_19 (by decide) ?_
            refine hx_geN (tgt := 53) hx hb dX3_grow_20 (by decide) (by omega) (by omega) (fun c_5 => ?_) (fun c_5 => ?_)
            · exact kx _ _ hP hD hS ls (lv_sub hl [0, 1, 2, 3, 4] rfl)
            · exact absurd c_5 (by omega)
          | succ nn ih =>
            intro y m8 hn_y H locs hP hD hS ls hl kx
            refine lv_iload hx hb dX3_grow_17 (lv_at hl 4 rfl) ?_
            refine lv_iconst (v := nI 5) hx hb dX3_grow_19 (by decide) ?_
            refine hx_geN (tgt := 53) hx hb dX3_grow_20 (by decide) (by omega) (by omega) (fun c_6 => ?_) (fun c_6 => ?_)
            · exact absurd c_6 (by omega)
            · refine lv_aload_n hx hb dX3_grow_23 rfl (lv_at hl 0 rfl) ?_
              refine lv_iload_n hx hb dX3_grow_24 rfl (lv_at hl 1 rfl) ?_
              refine lv_iload_n hx hb dX3_grow_25 rfl (lv_at hl 3 rfl) ?_
              refine lv_iload hx hb dX3_grow_26 (lv_at hl 4 rfl) ?_
              refine hx_read (va_runV (As := [.int (nI v), .int (nI x), .int (nI y)]) (rest := []) ⟨hx, hb, hml, hown, hts⟩ (c_X3_instancesOf l dC dI b cB n hd fm rp rq nw bf db sg wt ne dn v x y (hy_0) (by omega) (by omega) (by omega)) (cwV 3 hts gX3_grow_X3_instancesOf rfl rfl rfl (by decide +kernel) ⟨Nat.le_of_ble_eq_true rfl, Nat.le_of_ble_eq_true rfl⟩) (rd_V nstW_ok hP hK hN 0 rfl rfl _) rfl rfl hl.1 rfl (lv_room (Nat.le_of_ble_eq_true rfl)) dX3_grow_28 ⟨Nat.zero_le _, Nat.zero_le _⟩) ?_
              have hc_7 := mcF_le hd fm rp rq nw v x y n 0 0
              refine hx_ifle0 (tgt := 45) hx hb dX3_grow_31 (by decide) (by omega) (fun c_8 => ?_) (fun c_8 => ?_)
              · refine lv_iload_n hx hb dX3_grow_45 rfl (lv_at hl 2 rfl) ?_
                refine lv_istore_n (lv' := [(2, .int (m8)), (0, .ref (b 0)), (1, .int (nI v)), (3, .int (nI x)), (4, .int (nI y))]) hx hb dX3_grow_46 rfl hl (by decide) rfl (fun ls hl => ?_)
                refine lv_iinc (v := nI (y + 1)) (lv' := [(4, .int (nI (y + 1))), (2, .int (m8)), (0, .ref (b 0)), (1, .int (nI v)), (3, .int (nI x))]) hx hb dX3_grow_47 hl (k := 4) rfl (nI_add y 1) (by decide) rfl (fun ls hl => ?_)
                refine lv_goto (tgt := 17) hx hb dX3_grow_50 (by decide) ?_
                have kx := kx
                rw [show grI n hd fm rp rq nw v x (nn + 1) y m8 = grI n hd fm rp rq nw v x nn (y + 1) m8 from by simp only [grI, c_3, c_6, c_8, ↓reduceIte, decide_true, decide_false, Bool.not_true, Bool.not_false, Bool.or_true, Bool.true_or, Bool.or_false, Bool.false_or, Bool.and_true, Bool.true_and, Bool.and_false, Bool.false_and, and_true, true_and, and_false, false_and, and_self, or_self, or_true, true_or, or_false, false_or, Bool.false_eq_true, Bool.true_eq_false, not_true_eq_false, not_false_eq_true, Bool.or_self, decide_eq_true_eq]] at kx
                exact ih (y + 1) m8 (by omega) _ _ hP hD hS ls (lv_sub hl [2, 3, 1, 4, 0] rfl) kx
              · refine lv_iload_n hx hb dX3_grow_34 rfl (lv_at hl 2 rfl) ?_
                refine lv_iload_n hx hb dX3_grow_35 rfl (lv_at hl 3 rfl) ?_
                refine lv_iload hx hb dX3_grow_36 (lv_at hl 4 rfl) ?_
                refine hx_read (va_runS (As := [.int (nI x), .int (nI y)]) (rest := [.int (m8)]) ⟨hx, hb, hml, hown, hts⟩ (c_X3_bit l x y) (va_cwS 2 hts gX3_grow_X3_bit rfl rfl rfl (by decide +kernel) ⟨Nat.le_of_ble_eq_true rfl, Nat.le_of_ble_eq_true rfl⟩) (nu_S _) rfl rfl hl.1 rfl (lv_room (Nat.le_of_ble_eq_true rfl)) dX3_grow_38 ⟨Nat.zero_le _, Nat.zero_le _⟩) ?_
                refine lv_ior hx hb dX3_grow_41 ?_
                refine lv_goto (tgt := 46) hx hb dX3_grow_42 (by decide) ?_
                refine lv_istore_n (lv' := [(2, .int (m8 ||| (bm (5 * x + y)))), (0, .ref (b 0)), (1, .int (nI v)), (3, .int (nI x)), (4, .int (nI y))]) hx hb dX3_grow_46 rfl hl (by decide) rfl (fun ls hl => ?_)
                refine lv_iinc (v := nI (y + 1)) (lv' := [(4, .int (nI (y + 1))), (2, .int (m8 ||| (bm (5 * x + y)))), (0, .ref (b 0)), (1, .int (nI v)), (3, .int (nI x))]) hx hb dX3_grow_47 hl (k := 4) rfl (nI_add y 1) (by decide) rfl (fun ls hl => ?_)
                refine lv_goto (tgt := 17) hx hb dX3_grow_50 (by decide) ?_
                have kx := kx
                rw [show grI n hd fm rp rq nw v x (nn + 1) y m8 = grI n hd fm rp rq nw v x nn (y + 1) (m8 ||| (bm (5 * x + y))) from by simp only [grI, c_3, c_6, c_8, ↓reduceIte, decide_true, decide_false, Bool.not_true, Bool.not_false, Bool.or_true, Bool.true_or, Bool.or_false, Bool.false_or, Bool.and_true, Bool.true_and, Bool.and_false, Bool.false_and, and_true, true_and, and_false, false_and, and_self, or_self, or_true, true_or, or_false, false_or, Bool.false_eq_true, Bool.true_eq_false, not_true_eq_false, not_false_eq_true, Bool.or_self, decide_eq_true_eq]] at kx
                exact ih (y + 1) (m8 ||| (bm (5 * x + y))) (by omega) _ _ hP hD hS ls (lv_sub hl [2, 3, 1, 4, 0] rfl) kx
        refine L_17_3 5 0 m9 (by omega) _ _ hP hD hS ls (lv_sub hl [1, 2, 3, 4, 0] rfl) (fun H locs hP hD hS ls hl => ?_)
        have hP : va_P (dC, dI) vwCl (mdW b cB n hd fm rp rq nw bf db sg wt ne dn) H := hP
        have hD : va_D A (mdW b cB n hd fm rp rq nw bf db sg wt ne dn) := hD
        have hl : lv_has ls 5 [(0, .ref (b 0)), (1, .int (nI v)), (2, .int (grI n hd fm rp rq nw v x 5 0 m9)), (3, .int (nI x)), (4, .int (nI 5))] := hl
        refine lv_iinc (v := nI (x + 1)) (lv' := [(3, .int (nI (x + 1))), (0, .ref (b 0)), (1, .int (nI v)), (2, .int (grI n hd fm rp rq nw v x 5 0 m9)), (4, .int (nI 5))]) hx hb dX3_grow_53 hl (k := 3) rfl (nI_add x 1) (by decide) rfl (fun ls hl => ?_)
        refine lv_goto (tgt := 9) hx hb dX3_grow_56 (by decide) ?_
        have kx := kx
        rw [show grO n hd fm rp rq nw v (nn + 1) x m9 = grO n hd fm rp rq nw v nn (x + 1) (grI n hd fm rp rq nw v x 5 0 m9) from rfl] at kx
        exact ih (x + 1) (grI n hd fm rp rq nw v x 5 0 m9) (by omega) _ _ hP hD hS ls (lv_sub hl [1, 2, 3, 0] rfl) kx
  refine L_9_0 5 0 (nw v) (by omega) _ _ hP hD hS ls (lv_sub hl [2, 3, 1, 0] rfl) (fun H locs hP hD hS ls hl => ?_)
  have hP : va_P (dC, dI) vwCl (mdW b cB n hd fm rp rq nw bf db sg wt ne dn) H := hP
  have hD : va_D A (mdW b cB n hd fm rp rq nw bf db sg wt ne dn) := hD
  have hl : lv_has ls 5 [(0, .ref (b 0)), (1, .int (nI v)), (2, .int (grO n hd fm rp rq nw v 5 0 (nw v))), (3, .int (nI 5))] := hl
  refine lv_iload_n hx hb dX3_grow_59 rfl (lv_at hl 2 rfl) ?_
  refine lv_aload_n hx hb dX3_grow_60 rfl (lv_at hl 0 rfl) ?_
  refine va_get (D := (dC, dI)) (ci := 3) (v := .ref (b 5)) (C := RX3) (T := TX3) (N := 12) hx hb hts in_X3 hown hK hP 0 rfl rfl 5 (by decide) lf_22 (fun _ h9 => h9) rfl dX3_grow_61 ?_
  refine lv_iload_n hx hb dX3_grow_64 rfl (lv_at hl 1 rfl) ?_
  refine hx_iald hx hb hK hP 5 4 rfl rfl (by omega) (by omega) dX3_grow_65 ?_
  refine lv_icmp_eq (tgt := 73) hx hb dX3_grow_66 (by decide) (fun c_9 => ?_) (fun c_9 => ?_)
  · refine lv_iconst (v := nI 0) hx hb dX3_grow_73 (by decide) ?_
    refine lv_istore_n (lv' := [(3, .int (nI 0)), (0, .ref (b 0)), (1, .int (nI v)), (2, .int (grO n hd fm rp rq nw v 5 0 (nw v)))]) hx hb dX3_grow_74 rfl hl (by decide) rfl (fun ls hl => ?_)
    refine lv_aload_n hx hb dX3_grow_75 rfl (lv_at hl 1 rfl) ?_
    refine va_get (D := (dC, dI)) (ci := 3) (v := .ref (b 5)) (C := RX3) (T := TX3) (N := 12) hx hb hts in_X3 hown hK hP 0 rfl rfl 5 (by decide) lf_22 (fun _ h9 => h9) rfl dX3_grow_76 ?_
    refine lv_iload_n hx hb dX3_grow_79 rfl (lv_at hl 2 rfl) ?_
    refine lv_iload_n hx hb dX3_grow_80 rfl (lv_at hl 3 rfl) ?_
    refine hx_iast hx hb hK hP hD hS 5 4 rfl rfl (by omega) (by omega) dX3_grow_81 (fun H locs hP hD hS => ?_)
    have hP : va_P (dC, dI) vwCl (mdW b cB n hd fm rp rq (upd nw v (grO n hd fm rp rq nw v 5 0 (nw v))) bf db sg wt ne dn) H := hP
    have hD : va_D A (mdW b cB n hd fm rp rq (upd nw v (grO n hd fm rp rq nw v 5 0 (nw v))) bf db sg wt ne dn) := hD
    refine lv_iload_n hx hb dX3_grow_82 rfl (lv_at hl 0 rfl) ?_
    have e9 : mdW b cB n hd fm rp rq (upd nw v (grO n hd fm rp rq nw v 5 0 (nw v))) bf db sg wt ne dn = mdW b cB n hd fm rp rq (upd nw v (grO n hd fm rp rq nw v 5 0 (nw v))) bf db sg wt ne dn := rfl
    rw [e9] at hP hD
    subst hAe
    exact W.zret (v := nI 0) hx hb hr rfl (fun t ht hW => ⟨⟨_, (), rfl, by rw [show (!decide (grO n hd fm rp rq nw v 5 0 (nw v) = nw v)) = false from by simp only [c_9, ↓reduceIte, decide_true, decide_false, Bool.not_true, Bool.not_false, Bool.or_true, Bool.true_or, Bool.or_false, Bool.false_or, Bool.and_true, Bool.true_and, Bool.and_false, Bool.false_and, and_true, true_and, and_false, false_and, and_self, or_self, or_true, true_or, or_false, false_or, Bool.false_eq_true, Bool.true_eq_false, not_true_eq_false, not_false_eq_true, Bool.or_self, decide_eq_true_eq]]; rfl, by rw [ht]; exact hP, va_K.moved hW.alike hK, hD⟩, hS.F ht⟩) hS.2.2 dX3_grow_83
  · refine lv_iconst (v := nI 1) hx hb dX3_grow_69 (by decide) ?_
    refine lv_goto (tgt := 74) hx hb dX3_grow_70 (by decide) ?_
    refine lv_istore_n (lv' := [(3, .int (nI 1)), (0, .ref (b 0)), (1, .int (nI v)), (2, .int (grO n hd fm rp rq nw v 5 0 (nw v)))]) hx hb dX3_grow_74 rfl hl (by decide) rfl (fun ls hl => ?_)
    refine lv_aload_n hx hb dX3_grow_75 rfl (lv_at hl 1 rfl) ?_
    refine va_get (D := (dC, dI)) (ci := 3) (v := .ref (b 5)) (C := RX3) (T := TX3) (N := 12) hx hb hts in_X3 hown hK hP 0 rfl rfl 5 (by decide) lf_22 (fun _ h9 => h9) rfl dX3_grow_76 ?_
    refine lv_iload_n hx hb dX3_grow_79 rfl (lv_at hl 2 rfl) ?_
    refine lv_iload_n hx hb dX3_grow_80 rfl (lv_at hl 3 rfl) ?_
    refine hx_iast hx hb hK hP hD hS 5 4 rfl rfl (by omega) (by omega) dX3_grow_81 (fun H locs hP hD hS => ?_)
    have hP : va_P (dC, dI) vwCl (mdW b cB n hd fm rp rq (upd nw v (grO n hd fm rp rq nw v 5 0 (nw v))) bf db sg wt ne dn) H := hP
    have hD : va_D A (mdW b cB n hd fm rp rq (upd nw v (grO n hd fm rp rq nw v 5 0 (nw v))) bf db sg wt ne dn) := hD
    refine lv_iload_n hx hb dX3_grow_82 rfl (lv_at hl 0 rfl) ?_
    have e9 : mdW b cB n hd fm rp rq (upd nw v (grO n hd fm rp rq nw v 5 0 (nw v))) bf db sg wt ne dn = mdW b cB n hd fm rp rq (upd nw v (grO n hd fm rp rq nw v 5 0 (nw v))) bf db sg wt ne dn := rfl
    rw [e9] at hP hD
    subst hAe
    exact W.zret (v := nI 1) hx hb hr rfl (fun t ht hW => ⟨⟨_, (), rfl, by rw [show (!decide (grO n hd fm rp rq nw v 5 0 (nw v) = nw v)) = true from by simp only [c_9, ↓reduceIte, decide_true, decide_false, Bool.not_true, Bool.not_false, Bool.or_true, Bool.true_or, Bool.or_false, Bool.false_or, Bool.and_true, Bool.true_and, Bool.and_false, Bool.false_and, and_true, true_and, and_false, false_and, and_self, or_self, or_true, true_or, or_false, false_or, Bool.false_eq_true, Bool.true_eq_false, not_true_eq_false, not_false_eq_true, Bool.or_self, decide_eq_true_eq]]; rfl, by rw [ht]; exact hP, va_K.moved hW.alike hK, hD⟩, hS.F ht⟩) hS.2.2 dX3_grow_83
set_option maxHeartbeats 4000000 in
set_option maxRecDepth 100000 in
theorem c_X3_together (l : Launch) (dC : Nat → ClassId) (dI : Nat → Nat → Nat) (b : Nat → Nat) (cB : Nat → ClassId) (n : Nat) (hd fm rp rq : Nat → Nat) (nw bf db sg wt : Nat → Int32) (ne dn : Nat → Bool) (v w : Nat) (hy_0 : v < 7) (hy_1 : w < 7) : RdM l yX3_together wsX3_together ({ frames := 0, cells := 0, slots := 0, locals := 0 }) (dC, dI) vwCl (mdW b cB n hd fm rp rq nw bf db sg wt ne dn) (mdT cB) nstW [.ref (b 0), .int (nI v), .int (nI w)] (bI (toM ne v w)) := by
  refine Met.ofW (cc := cX3_together) (maxL := 3) (ret := (some .boolean)) (by decide) rfl ?_
  intro p e s m args below meth c s₁ B hml hv
  obtain ⟨rfl, hP, hK, hN⟩ := hv
  have hx := B.exec
  have hb := B.bytes
  have hr := B.returns
  have hts := atoms_spec (ws := wsX3_together) B.pre
  have hown : s.vm.findClass RX3 = some m.cls := findClass_of_methodNamed B.named
  have hlocks := B.notSynchronized
  have lf_37 := hts (.fieldLink RX3 37 "ViewKeeperModel" "need" "[Z") (by decide +kernel)
  have in_X3 : ∀ w ∈ u_ws RX3 TX3 12, w ∈ wsX3_together := by decide +kernel
  have hl := lv_entry ([.ref (b 0), .int (nI v), .int (nI w)]) (n := 3) (Nat.le_of_ble_eq_true rfl)
  rw [lg_entry_eq]
  generalize (lg_sl ([.ref (b 0), .int (nI v), .int (nI w)]) ++ List.replicate (3 - (lg_sl ([.ref (b 0), .int (nI v), .int (nI w)])).length) Slot.unset).toArray = ls at hl ⊢
  have hl : lv_has ls 3 [(0, .ref (b 0)), (1, .int (nI v)), (2, .int (nI w))] := hl
  refine lv_iload_n hx hb dX3_together_0 rfl (lv_at hl 1 rfl) ?_
  refine lv_iload_n hx hb dX3_together_1 rfl (lv_at hl 2 rfl) ?_
  refine hx_eqN (tgt := 33) hx hb dX3_together_2 (by decide) (by omega) (by omega) (fun c_1 => ?_) (fun c_1 => ?_)
  · refine lv_iconst (v := nI 1) hx hb dX3_together_33 (by decide) ?_
    refine lv_goto (tgt := 38) hx hb dX3_together_34 (by decide) ?_
    exact W.zret (v := nI 1) hx hb hr rfl (fun t ht hW => ⟨_, rfl, by rw [show toM ne v w = true from by simp [toM, c_1]]; rfl, ht⟩) (fun _ h => by cases h) dX3_together_38
  · refine lv_aload_n hx hb dX3_together_5 rfl (lv_at hl 0 rfl) ?_
    refine va_get (D := (dC, dI)) (ci := 3) (v := .ref (b 10)) (C := RX3) (T := TX3) (N := 12) hx hb hts in_X3 hown hK hP 0 rfl rfl 10 (by decide) lf_37 (fun _ h9 => h9) rfl dX3_together_6 ?_
    refine lv_bipush (v := nI 7) hx hb dX3_together_9 (by decide) ?_
    refine lv_iload_n hx hb dX3_together_11 rfl (lv_at hl 1 rfl) ?_
    refine hx_imul hx hb dX3_together_12 ?_
    refine lv_iload_n hx hb dX3_together_13 rfl (lv_at hl 2 rfl) ?_
    refine hx_iadd hx hb dX3_together_14 ?_
    refine hx_zald hx hb hK hP 10 9 rfl rfl (by omega) (by omega) dX3_together_15 ?_
    refine hx_ifB (tgt := 37) hx hb dX3_together_16 (by decide) (fun c_2 => ?_) (fun c_2 => ?_)
    · refine lv_iconst (v := nI 0) hx hb dX3_together_37 (by decide) ?_
      exact W.zret (v := nI 0) hx hb hr rfl (fun t ht hW => ⟨_, rfl, by rw [show toM ne v w = false from by simp [toM, c_1, c_2]]; rfl, ht⟩) (fun _ h => by cases h) dX3_together_38
    · refine lv_aload_n hx hb dX3_together_19 rfl (lv_at hl 0 rfl) ?_
      refine va_get (D := (dC, dI)) (ci := 3) (v := .ref (b 10)) (C := RX3) (T := TX3) (N := 12) hx hb hts in_X3 hown hK hP 0 rfl rfl 10 (by decide) lf_37 (fun _ h9 => h9) rfl dX3_together_20 ?_
      refine lv_bipush (v := nI 7) hx hb dX3_together_23 (by decide) ?_
      refine lv_iload_n hx hb dX3_together_25 rfl (lv_at hl 2 rfl) ?_
      refine hx_imul hx hb dX3_together_26 ?_
      refine lv_iload_n hx hb dX3_together_27 rfl (lv_at hl 1 rfl) ?_
      refine hx_iadd hx hb dX3_together_28 ?_
      refine hx_zald hx hb hK hP 10 9 rfl rfl (by omega) (by omega) dX3_together_29 ?_
      refine hx_ifB (tgt := 37) hx hb dX3_together_30 (by decide) (fun c_3 => ?_) (fun c_3 => ?_)
      · refine lv_iconst (v := nI 0) hx hb dX3_together_37 (by decide) ?_
        exact W.zret (v := nI 0) hx hb hr rfl (fun t ht hW => ⟨_, rfl, by rw [show toM ne v w = false from by simp [toM, c_1, c_2, c_3]]; rfl, ht⟩) (fun _ h => by cases h) dX3_together_38
      · refine lv_iconst (v := nI 1) hx hb dX3_together_33 (by decide) ?_
        refine lv_goto (tgt := 38) hx hb dX3_together_34 (by decide) ?_
        exact W.zret (v := nI 1) hx hb hr rfl (fun t ht hW => ⟨_, rfl, by rw [show toM ne v w = true from by simp [toM, c_1, c_2, c_3]]; rfl, ht⟩) (fun _ h => by cases h) dX3_together_38
set_option maxHeartbeats 4000000 in
set_option maxRecDepth 100000 in
theorem c_X3_due (l : Launch) (dC : Nat → ClassId) (dI : Nat → Nat → Nat) (b : Nat → Nat) (cB : Nat → ClassId) (n : Nat) (hd fm rp rq : Nat → Nat) (nw bf db sg wt : Nat → Int32) (ne dn : Nat → Bool) (v : Nat) (hy_0 : v < 7) : RdM l yX3_due wsX3_due ({ frames := 1, cells := 0, slots := 0, locals := 22 }) (dC, dI) vwCl (mdW b cB n hd fm rp rq nw bf db sg wt ne dn) (mdT cB) nstW [.ref (b 0), .int (nI v)] (bI (duF ne dn v 5 2 (!dn v))) := by
  refine Met.ofW (cc := cX3_due) (maxL := 4) (ret := (some .boolean)) (by decide) rfl ?_
  intro p e s m args below meth c s₁ B hml hv
  obtain ⟨rfl, hP, hK, hN⟩ := hv
  have hx := B.exec
  have hb := B.bytes
  have hr := B.returns
  have hts := atoms_spec (ws := wsX3_due) B.pre
  have hown : s.vm.findClass RX3 = some m.cls := findClass_of_methodNamed B.named
  have hlocks := B.notSynchronized
  have lf_41 := hts (.fieldLink RX3 41 "ViewKeeperModel" "done" "[Z") (by decide +kernel)
  have in_X3 : ∀ w ∈ u_ws RX3 TX3 12, w ∈ wsX3_due := by decide +kernel
  have lf_37 := hts (.fieldLink RX3 37 "ViewKeeperModel" "need" "[Z") (by decide +kernel)
  have hl := lv_entry ([.ref (b 0), .int (nI v)]) (n := 4) (Nat.le_of_ble_eq_true rfl)
  rw [lg_entry_eq]
  generalize (lg_sl ([.ref (b 0), .int (nI v)]) ++ List.replicate (4 - (lg_sl ([.ref (b 0), .int (nI v)])).length) Slot.unset).toArray = ls at hl ⊢
  have hl : lv_has ls 4 [(0, .ref (b 0)), (1, .int (nI v))] := hl
  refine lv_aload_n hx hb dX3_due_0 rfl (lv_at hl 0 rfl) ?_
  refine va_get (D := (dC, dI)) (ci := 3) (v := .ref (b 11)) (C := RX3) (T := TX3) (N := 12) hx hb hts in_X3 hown hK hP 0 rfl rfl 11 (by decide) lf_41 (fun _ h9 => h9) rfl dX3_due_1 ?_
  refine lv_iload_n hx hb dX3_due_4 rfl (lv_at hl 1 rfl) ?_
  refine hx_zald hx hb hK hP 11 10 rfl rfl (by omega) (by omega) dX3_due_5 ?_
  refine hx_ifnB (tgt := 13) hx hb dX3_due_6 (by decide) (fun c_1 => ?_) (fun c_1 => ?_)
  · refine lv_iconst (v := nI 0) hx hb dX3_due_13 (by decide) ?_
    refine lv_istore_n (lv' := [(2, .int (nI 0)), (0, .ref (b 0)), (1, .int (nI v))]) hx hb dX3_due_14 rfl hl (by decide) rfl (fun ls hl => ?_)
    refine lv_iconst (v := nI 2) hx hb dX3_due_15 (by decide) ?_
    refine lv_istore_n (lv' := [(3, .int (nI 2)), (2, .int (nI 0)), (0, .ref (b 0)), (1, .int (nI v))]) hx hb dX3_due_16 rfl hl (by decide) rfl (fun ls hl => ?_)
    have L_17_1 : ∀ (nn : Nat) (w : Nat) (al : Bool), w + nn = 7 → ∀ ls : Array Slot, lv_has ls 4 [(0, .ref (b 0)), (1, .int (nI v)), (2, .int (bI al)), (3, .int (nI w))] → (∀ ls : Array Slot, lv_has ls 4 [(0, .ref (b 0)), (1, .int (nI v)), (2, .int (bI (duF ne dn v nn w al))), (3, .int (nI 7))] → W p l e (headSpec wsX3_due ({ frames := 1, cells := 0, slots := 0, locals := 22 })).room s m ([.ref (b 0), .int (nI v)] : List Value).toArray below meth c s.heap [] 0 0 (MQ below (vp_Si (fun rz9 => rz9 = (bI (duF ne dn v 5 2 (!dn v))))) ([.ref (b 0), .int (nI v)] : List Value).toArray s 0 0 (fun _ => False)) (F0 m 71 ls [])) → W p l e (headSpec wsX3_due ({ frames := 1, cells := 0, slots := 0, locals := 22 })).room s m ([.ref (b 0), .int (nI v)] : List Value).toArray below meth c s.heap [] 0 0 (MQ below (vp_Si (fun rz9 => rz9 = (bI (duF ne dn v 5 2 (!dn v))))) ([.ref (b 0), .int (nI v)] : List Value).toArray s 0 0 (fun _ => False)) (F0 m 17 ls []) := by
      intro nn
      induction nn with
      | zero =>
        intro w al hn_w ls hl kx
        obtain rfl : w = 7 := by omega
        refine lv_iload_n hx hb dX3_due_17 rfl (lv_at hl 3 rfl) ?_
        refine lv_bipush (v := nI 7) hx hb dX3_due_18 (by decide) ?_
        refine hx_geN (tgt := 71) hx hb dX3_due_20 (by decide) (by omega) (by omega) (fun c_3 => ?_) (fun c_3 => ?_)
        · exact kx ls (lv_sub hl [0, 1, 2, 3] rfl)
        · exact absurd c_3 (by omega)
      | succ nn ih =>
        intro w al hn_w ls hl kx
        refine lv_iload_n hx hb dX3_due_17 rfl (lv_at hl 3 rfl) ?_
        refine lv_bipush (v := nI 7) hx hb dX3_due_18 (by decide) ?_
        refine hx_geN (tgt := 71) hx hb dX3_due_20 (by decide) (by omega) (by omega) (fun c_4 => ?_) (fun c_4 => ?_)
        · exact absurd c_4 (by omega)
        · refine lv_iload_n hx hb dX3_due_23 rfl (lv_at hl 2 rfl) ?_
          refine hx_ifB (tgt := 63) hx hb dX3_due_24 (by decide) (fun c_5 => ?_) (fun c_5 => ?_)
          · refine lv_iconst (v := nI 0) hx hb dX3_due_63 (by decide) ?_
            refine lv_istore_n (lv' := [(2, .int (nI 0)), (0, .ref (b 0)), (1, .int (nI v)), (3, .int (nI w))]) hx hb dX3_due_64 rfl hl (by decide) rfl (fun ls hl => ?_)
            refine lv_iinc (v := nI (w + 1)) (lv' := [(3, .int (nI (w + 1))), (2, .int (nI 0)), (0, .ref (b 0)), (1, .int (nI v))]) hx hb dX3_due_65 hl (k := 3) rfl (nI_add w 1) (by decide) rfl (fun ls hl => ?_)
            refine lv_goto (tgt := 17) hx hb dX3_due_68 (by decide) ?_
            have kx := kx
            rw [show duF ne dn v (nn + 1) w al = duF ne dn v nn (w + 1) false from by simp only [duF, c_1, c_4, c_5, ↓reduceIte, decide_true, decide_false, Bool.not_true, Bool.not_false, Bool.or_true, Bool.true_or, Bool.or_false, Bool.false_or, Bool.and_true, Bool.true_and, Bool.and_false, Bool.false_and, and_true, true_and, and_false, false_and, and_self, or_self, or_true, true_or, or_false, false_or, Bool.false_eq_true, Bool.true_eq_false, not_true_eq_false, not_false_eq_true, Bool.or_self, decide_eq_true_eq]] at kx
            exact ih (w + 1) false (by omega) ls (lv_sub hl [2, 3, 1, 0] rfl) kx
          · refine lv_aload_n hx hb dX3_due_27 rfl (lv_at hl 0 rfl) ?_
            refine va_get (D := (dC, dI)) (ci := 3) (v := .ref (b 11)) (C := RX3) (T := TX3) (N := 12) hx hb hts in_X3 hown hK hP 0 rfl rfl 11 (by decide) lf_41 (fun _ h9 => h9) rfl dX3_due_28 ?_
            refine lv_iload_n hx hb dX3_due_31 rfl (lv_at hl 3 rfl) ?_
            refine hx_zald hx hb hK hP 11 10 rfl rfl (by omega) (by omega) dX3_due_32 ?_
            refine hx_ifnB (tgt := 59) hx hb dX3_due_33 (by decide) (fun c_6 => ?_) (fun c_6 => ?_)
            · refine lv_iconst (v := nI 1) hx hb dX3_due_59 (by decide) ?_
              refine lv_goto (tgt := 64) hx hb dX3_due_60 (by decide) ?_
              refine lv_istore_n (lv' := [(2, .int (nI 1)), (0, .ref (b 0)), (1, .int (nI v)), (3, .int (nI w))]) hx hb dX3_due_64 rfl hl (by decide) rfl (fun ls hl => ?_)
              refine lv_iinc (v := nI (w + 1)) (lv' := [(3, .int (nI (w + 1))), (2, .int (nI 1)), (0, .ref (b 0)), (1, .int (nI v))]) hx hb dX3_due_65 hl (k := 3) rfl (nI_add w 1) (by decide) rfl (fun ls hl => ?_)
              refine lv_goto (tgt := 17) hx hb dX3_due_68 (by decide) ?_
              have kx := kx
              rw [show duF ne dn v (nn + 1) w al = duF ne dn v nn (w + 1) true from by simp only [duF, c_1, c_4, c_5, c_6, ↓reduceIte, decide_true, decide_false, Bool.not_true, Bool.not_false, Bool.or_true, Bool.true_or, Bool.or_false, Bool.false_or, Bool.and_true, Bool.true_and, Bool.and_false, Bool.false_and, and_true, true_and, and_false, false_and, and_self, or_self, or_true, true_or, or_false, false_or, Bool.false_eq_true, Bool.true_eq_false, not_true_eq_false, not_false_eq_true, Bool.or_self, decide_eq_true_eq]] at kx
              exact ih (w + 1) true (by omega) ls (lv_sub hl [2, 3, 1, 0] rfl) kx
            · refine lv_aload_n hx hb dX3_due_36 rfl (lv_at hl 0 rfl) ?_
              refine va_get (D := (dC, dI)) (ci := 3) (v := .ref (b 10)) (C := RX3) (T := TX3) (N := 12) hx hb hts in_X3 hown hK hP 0 rfl rfl 10 (by decide) lf_37 (fun _ h9 => h9) rfl dX3_due_37 ?_
              refine lv_bipush (v := nI 7) hx hb dX3_due_40 (by decide) ?_
              refine lv_iload_n hx hb dX3_due_42 rfl (lv_at hl 1 rfl) ?_
              refine hx_imul hx hb dX3_due_43 ?_
              refine lv_iload_n hx hb dX3_due_44 rfl (lv_at hl 3 rfl) ?_
              refine hx_iadd hx hb dX3_due_45 ?_
              refine hx_zald hx hb hK hP 10 9 rfl rfl (by omega) (by omega) dX3_due_46 ?_
              refine hx_ifB (tgt := 59) hx hb dX3_due_47 (by decide) (fun c_7 => ?_) (fun c_7 => ?_)
              · refine lv_iconst (v := nI 1) hx hb dX3_due_59 (by decide) ?_
                refine lv_goto (tgt := 64) hx hb dX3_due_60 (by decide) ?_
                refine lv_istore_n (lv' := [(2, .int (nI 1)), (0, .ref (b 0)), (1, .int (nI v)), (3, .int (nI w))]) hx hb dX3_due_64 rfl hl (by decide) rfl (fun ls hl => ?_)
                refine lv_iinc (v := nI (w + 1)) (lv' := [(3, .int (nI (w + 1))), (2, .int (nI 1)), (0, .ref (b 0)), (1, .int (nI v))]) hx hb dX3_due_65 hl (k := 3) rfl (nI_add w 1) (by decide) rfl (fun ls hl => ?_)
                refine lv_goto (tgt := 17) hx hb dX3_due_68 (by decide) ?_
                have kx := kx
                rw [show duF ne dn v (nn + 1) w al = duF ne dn v nn (w + 1) true from by simp only [duF, c_1, c_4, c_5, c_6, c_7, ↓reduceIte, decide_true, decide_false, Bool.not_true, Bool.not_false, Bool.or_true, Bool.true_or, Bool.or_false, Bool.false_or, Bool.and_true, Bool.true_and, Bool.and_false, Bool.false_and, and_true, true_and, and_false, false_and, and_self, or_self, or_true, true_or, or_false, false_or, Bool.false_eq_true, Bool.true_eq_false, not_true_eq_false, not_false_eq_true, Bool.or_self, decide_eq_true_eq]] at kx
                exact ih (w + 1) true (by omega) ls (lv_sub hl [2, 3, 1, 0] rfl) kx
              · refine lv_aload_n hx hb dX3_due_50 rfl (lv_at hl 0 rfl) ?_
                refine lv_iload_n hx hb dX3_due_51 rfl (lv_at hl 1 rfl) ?_
                refine lv_iload_n hx hb dX3_due_52 rfl (lv_at hl 3 rfl) ?_
                refine hx_read (va_runV (As := [.int (nI v), .int (nI w)]) (rest := []) ⟨hx, hb, hml, hown, hts⟩ (c_X3_together l dC dI b cB n hd fm rp rq nw bf db sg wt ne dn v w (by omega) (by omega)) (cwV 2 hts gX3_due_X3_together rfl rfl rfl (by decide +kernel) ⟨Nat.le_of_ble_eq_true rfl, Nat.le_of_ble_eq_true rfl⟩) (rd_V nstW_ok hP hK hN 0 rfl rfl _) rfl rfl hl.1 rfl (lv_room (Nat.le_of_ble_eq_true rfl)) dX3_due_53 ⟨Nat.zero_le _, Nat.zero_le _⟩) ?_
                refine hx_ifB (tgt := 63) hx hb dX3_due_56 (by decide) (fun c_8 => ?_) (fun c_8 => ?_)
                · refine lv_iconst (v := nI 0) hx hb dX3_due_63 (by decide) ?_
                  refine lv_istore_n (lv' := [(2, .int (nI 0)), (0, .ref (b 0)), (1, .int (nI v)), (3, .int (nI w))]) hx hb dX3_due_64 rfl hl (by decide) rfl (fun ls hl => ?_)
                  refine lv_iinc (v := nI (w + 1)) (lv' := [(3, .int (nI (w + 1))), (2, .int (nI 0)), (0, .ref (b 0)), (1, .int (nI v))]) hx hb dX3_due_65 hl (k := 3) rfl (nI_add w 1) (by decide) rfl (fun ls hl => ?_)
                  refine lv_goto (tgt := 17) hx hb dX3_due_68 (by decide) ?_
                  have kx := kx
                  rw [show duF ne dn v (nn + 1) w al = duF ne dn v nn (w + 1) false from by simp only [duF, c_1, c_4, c_5, c_6, c_7, c_8, ↓reduceIte, decide_true, decide_false, Bool.not_true, Bool.not_false, Bool.or_true, Bool.true_or, Bool.or_false, Bool.false_or, Bool.and_true, Bool.true_and, Bool.and_false, Bool.false_and, and_true, true_and, and_false, false_and, and_self, or_self, or_true, true_or, or_false, false_or, Bool.false_eq_true, Bool.true_eq_false, not_true_eq_false, not_false_eq_true, Bool.or_self, decide_eq_true_eq]] at kx
                  exact ih (w + 1) false (by omega) ls (lv_sub hl [2, 3, 1, 0] rfl) kx
                · refine lv_iconst (v := nI 1) hx hb dX3_due_59 (by decide) ?_
                  refine lv_goto (tgt := 64) hx hb dX3_due_60 (by decide) ?_
                  refine lv_istore_n (lv' := [(2, .int (nI 1)), (0, .ref (b 0)), (1, .int (nI v)), (3, .int (nI w))]) hx hb dX3_due_64 rfl hl (by decide) rfl (fun ls hl => ?_)
                  refine lv_iinc (v := nI (w + 1)) (lv' := [(3, .int (nI (w + 1))), (2, .int (nI 1)), (0, .ref (b 0)), (1, .int (nI v))]) hx hb dX3_due_65 hl (k := 3) rfl (nI_add w 1) (by decide) rfl (fun ls hl => ?_)
                  refine lv_goto (tgt := 17) hx hb dX3_due_68 (by decide) ?_
                  have kx := kx
                  rw [show duF ne dn v (nn + 1) w al = duF ne dn v nn (w + 1) true from by simp only [duF, c_1, c_4, c_5, c_6, c_7, c_8, ↓reduceIte, decide_true, decide_false, Bool.not_true, Bool.not_false, Bool.or_true, Bool.true_or, Bool.or_false, Bool.false_or, Bool.and_true, Bool.true_and, Bool.and_false, Bool.false_and, and_true, true_and, and_false, false_and, and_self, or_self, or_true, true_or, or_false, false_or, Bool.false_eq_true, Bool.true_eq_false, not_true_eq_false, not_false_eq_true, Bool.or_self, decide_eq_true_eq]] at kx
                  exact ih (w + 1) true (by omega) ls (lv_sub hl [2, 3, 1, 0] rfl) kx
    refine L_17_1 5 2 false (by omega) ls (lv_sub hl [2, 3, 1, 0] rfl) (fun ls hl => ?_)
    have hl : lv_has ls 4 [(0, .ref (b 0)), (1, .int (nI v)), (2, .int (bI (duF ne dn v 5 2 false))), (3, .int (nI 7))] := hl
    refine lv_iload_n hx hb dX3_due_71 rfl (lv_at hl 2 rfl) ?_
    exact W.zret (v := bI (duF ne dn v 5 2 false)) hx hb hr (nar_bI _) (fun t ht hW => ⟨_, rfl, by rw [show duF ne dn v 5 2 (!dn v) = duF ne dn v 5 2 false from by simp only [c_1, ↓reduceIte, decide_true, decide_false, Bool.not_true, Bool.not_false, Bool.or_true, Bool.true_or, Bool.or_false, Bool.false_or, Bool.and_true, Bool.true_and, Bool.and_false, Bool.false_and, and_true, true_and, and_false, false_and, and_self, or_self, or_true, true_or, or_false, false_or, Bool.false_eq_true, Bool.true_eq_false, not_true_eq_false, not_false_eq_true, Bool.or_self, decide_eq_true_eq]], ht⟩) (fun _ h => by cases h) dX3_due_72
  · refine lv_iconst (v := nI 1) hx hb dX3_due_9 (by decide) ?_
    refine lv_goto (tgt := 14) hx hb dX3_due_10 (by decide) ?_
    refine lv_istore_n (lv' := [(2, .int (nI 1)), (0, .ref (b 0)), (1, .int (nI v))]) hx hb dX3_due_14 rfl hl (by decide) rfl (fun ls hl => ?_)
    refine lv_iconst (v := nI 2) hx hb dX3_due_15 (by decide) ?_
    refine lv_istore_n (lv' := [(3, .int (nI 2)), (2, .int (nI 1)), (0, .ref (b 0)), (1, .int (nI v))]) hx hb dX3_due_16 rfl hl (by decide) rfl (fun ls hl => ?_)
    have L_17_8 : ∀ (nn : Nat) (w : Nat) (al : Bool), w + nn = 7 → ∀ ls : Array Slot, lv_has ls 4 [(0, .ref (b 0)), (1, .int (nI v)), (2, .int (bI al)), (3, .int (nI w))] → (∀ ls : Array Slot, lv_has ls 4 [(0, .ref (b 0)), (1, .int (nI v)), (2, .int (bI (duF ne dn v nn w al))), (3, .int (nI 7))] → W p l e (headSpec wsX3_due ({ frames := 1, cells := 0, slots := 0, locals := 22 })).room s m ([.ref (b 0), .int (nI v)] : List Value).toArray below meth c s.heap [] 0 0 (MQ below (vp_Si (fun rz9 => rz9 = (bI (duF ne dn v 5 2 (!dn v))))) ([.ref (b 0), .int (nI v)] : List Value).toArray s 0 0 (fun _ => False)) (F0 m 71 ls [])) → W p l e (headSpec wsX3_due ({ frames := 1, cells := 0, slots := 0, locals := 22 })).room s m ([.ref (b 0), .int (nI v)] : List Value).toArray below meth c s.heap [] 0 0 (MQ below (vp_Si (fun rz9 => rz9 = (bI (duF ne dn v 5 2 (!dn v))))) ([.ref (b 0), .int (nI v)] : List Value).toArray s 0 0 (fun _ => False)) (F0 m 17 ls []) := by
      intro nn
      induction nn with
      | zero =>
        intro w al hn_w ls hl kx
        obtain rfl : w = 7 := by omega
        refine lv_iload_n hx hb dX3_due_17 rfl (lv_at hl 3 rfl) ?_
        refine lv_bipush (v := nI 7) hx hb dX3_due_18 (by decide) ?_
        refine hx_geN (tgt := 71) hx hb dX3_due_20 (by decide) (by omega) (by omega) (fun c_10 => ?_) (fun c_10 => ?_)
        · exact kx ls (lv_sub hl [0, 1, 2, 3] rfl)
        · exact absurd c_10 (by omega)
      | succ nn ih =>
        intro w al hn_w ls hl kx
        refine lv_iload_n hx hb dX3_due_17 rfl (lv_at hl 3 rfl) ?_
        refine lv_bipush (v := nI 7) hx hb dX3_due_18 (by decide) ?_
        refine hx_geN (tgt := 71) hx hb dX3_due_20 (by decide) (by omega) (by omega) (fun c_11 => ?_) (fun c_11 => ?_)
        · exact absurd c_11 (by omega)
        · refine lv_iload_n hx hb dX3_due_23 rfl (lv_at hl 2 rfl) ?_
          refine hx_ifB (tgt := 63) hx hb dX3_due_24 (by decide) (fun c_12 => ?_) (fun c_12 => ?_)
          · refine lv_iconst (v := nI 0) hx hb dX3_due_63 (by decide) ?_
            refine lv_istore_n (lv' := [(2, .int (nI 0)), (0, .ref (b 0)), (1, .int (nI v)), (3, .int (nI w))]) hx hb dX3_due_64 rfl hl (by decide) rfl (fun ls hl => ?_)
            refine lv_iinc (v := nI (w + 1)) (lv' := [(3, .int (nI (w + 1))), (2, .int (nI 0)), (0, .ref (b 0)), (1, .int (nI v))]) hx hb dX3_due_65 hl (k := 3) rfl (nI_add w 1) (by decide) rfl (fun ls hl => ?_)
            refine lv_goto (tgt := 17) hx hb dX3_due_68 (by decide) ?_
            have kx := kx
            rw [show duF ne dn v (nn + 1) w al = duF ne dn v nn (w + 1) false from by simp only [duF, c_1, c_11, c_12, ↓reduceIte, decide_true, decide_false, Bool.not_true, Bool.not_false, Bool.or_true, Bool.true_or, Bool.or_false, Bool.false_or, Bool.and_true, Bool.true_and, Bool.and_false, Bool.false_and, and_true, true_and, and_false, false_and, and_self, or_self, or_true, true_or, or_false, false_or, Bool.false_eq_true, Bool.true_eq_false, not_true_eq_false, not_false_eq_true, Bool.or_self, decide_eq_true_eq]] at kx
            exact ih (w + 1) false (by omega) ls (lv_sub hl [2, 3, 1, 0] rfl) kx
          · refine lv_aload_n hx hb dX3_due_27 rfl (lv_at hl 0 rfl) ?_
            refine va_get (D := (dC, dI)) (ci := 3) (v := .ref (b 11)) (C := RX3) (T := TX3) (N := 12) hx hb hts in_X3 hown hK hP 0 rfl rfl 11 (by decide) lf_41 (fun _ h9 => h9) rfl dX3_due_28 ?_
            refine lv_iload_n hx hb dX3_due_31 rfl (lv_at hl 3 rfl) ?_
            refine hx_zald hx hb hK hP 11 10 rfl rfl (by omega) (by omega) dX3_due_32 ?_
            refine hx_ifnB (tgt := 59) hx hb dX3_due_33 (by decide) (fun c_13 => ?_) (fun c_13 => ?_)
            · refine lv_iconst (v := nI 1) hx hb dX3_due_59 (by decide) ?_
              refine lv_goto (tgt := 64) hx hb dX3_due_60 (by decide) ?_
              refine lv_istore_n (lv' := [(2, .int (nI 1)), (0, .ref (b 0)), (1, .int (nI v)), (3, .int (nI w))]) hx hb dX3_due_64 rfl hl (by decide) rfl (fun ls hl => ?_)
              refine lv_iinc (v := nI (w + 1)) (lv' := [(3, .int (nI (w + 1))), (2, .int (nI 1)), (0, .ref (b 0)), (1, .int (nI v))]) hx hb dX3_due_65 hl (k := 3) rfl (nI_add w 1) (by decide) rfl (fun ls hl => ?_)
              refine lv_goto (tgt := 17) hx hb dX3_due_68 (by decide) ?_
              have kx := kx
              rw [show duF ne dn v (nn + 1) w al = duF ne dn v nn (w + 1) true from by simp only [duF, c_1, c_11, c_12, c_13, ↓reduceIte, decide_true, decide_false, Bool.not_true, Bool.not_false, Bool.or_true, Bool.true_or, Bool.or_false, Bool.false_or, Bool.and_true, Bool.true_and, Bool.and_false, Bool.false_and, and_true, true_and, and_false, false_and, and_self, or_self, or_true, true_or, or_false, false_or, Bool.false_eq_true, Bool.true_eq_false, not_true_eq_false, not_false_eq_true, Bool.or_self, decide_eq_true_eq]] at kx
              exact ih (w + 1) true (by omega) ls (lv_sub hl [2, 3, 1, 0] rfl) kx
            · refine lv_aload_n hx hb dX3_due_36 rfl (lv_at hl 0 rfl) ?_
              refine va_get (D := (dC, dI)) (ci := 3) (v := .ref (b 10)) (C := RX3) (T := TX3) (N := 12) hx hb hts in_X3 hown hK hP 0 rfl rfl 10 (by decide) lf_37 (fun _ h9 => h9) rfl dX3_due_37 ?_
              refine lv_bipush (v := nI 7) hx hb dX3_due_40 (by decide) ?_
              refine lv_iload_n hx hb dX3_due_42 rfl (lv_at hl 1 rfl) ?_
              refine hx_imul hx hb dX3_due_43 ?_
              refine lv_iload_n hx hb dX3_due_44 rfl (lv_at hl 3 rfl) ?_
              refine hx_iadd hx hb dX3_due_45 ?_
              refine hx_zald hx hb hK hP 10 9 rfl rfl (by omega) (by omega) dX3_due_46 ?_
              refine hx_ifB (tgt := 59) hx hb dX3_due_47 (by decide) (fun c_14 => ?_) (fun c_14 => ?_)
              · refine lv_iconst (v := nI 1) hx hb dX3_due_59 (by decide) ?_
                refine lv_goto (tgt := 64) hx hb dX3_due_60 (by decide) ?_
                refine lv_istore_n (lv' := [(2, .int (nI 1)), (0, .ref (b 0)), (1, .int (nI v)), (3, .int (nI w))]) hx hb dX3_due_64 rfl hl (by decide) rfl (fun ls hl => ?_)
                refine lv_iinc (v := nI (w + 1)) (lv' := [(3, .int (nI (w + 1))), (2, .int (nI 1)), (0, .ref (b 0)), (1, .int (nI v))]) hx hb dX3_due_65 hl (k := 3) rfl (nI_add w 1) (by decide) rfl (fun ls hl => ?_)
                refine lv_goto (tgt := 17) hx hb dX3_due_68 (by decide) ?_
                have kx := kx
                rw [show duF ne dn v (nn + 1) w al = duF ne dn v nn (w + 1) true from by simp only [duF, c_1, c_11, c_12, c_13, c_14, ↓reduceIte, decide_true, decide_false, Bool.not_true, Bool.not_false, Bool.or_true, Bool.true_or, Bool.or_false, Bool.false_or, Bool.and_true, Bool.true_and, Bool.and_false, Bool.false_and, and_true, true_and, and_false, false_and, and_self, or_self, or_true, true_or, or_false, false_or, Bool.false_eq_true, Bool.true_eq_false, not_true_eq_false, not_false_eq_true, Bool.or_self, decide_eq_true_eq]] at kx
                exact ih (w + 1) true (by omega) ls (lv_sub hl [2, 3, 1, 0] rfl) kx
              · refine lv_aload_n hx hb dX3_due_50 rfl (lv_at hl 0 rfl) ?_
                refine lv_iload_n hx hb dX3_due_51 rfl (lv_at hl 1 rfl) ?_
                refine lv_iload_n hx hb dX3_due_52 rfl (lv_at hl 3 rfl) ?_
                refine hx_read (va_runV (As := [.int (nI v), .int (nI w)]) (rest := []) ⟨hx, hb, hml, hown, hts⟩ (c_X3_together l dC dI b cB n hd fm rp rq nw bf db sg wt ne dn v w (by omega) (by omega)) (cwV 2 hts gX3_due_X3_together rfl rfl rfl (by decide +kernel) ⟨Nat.le_of_ble_eq_true rfl, Nat.le_of_ble_eq_true rfl⟩) (rd_V nstW_ok hP hK hN 0 rfl rfl _) rfl rfl hl.1 rfl (lv_room (Nat.le_of_ble_eq_true rfl)) dX3_due_53 ⟨Nat.zero_le _, Nat.zero_le _⟩) ?_
                refine hx_ifB (tgt := 63) hx hb dX3_due_56 (by decide) (fun c_15 => ?_) (fun c_15 => ?_)
                · refine lv_iconst (v := nI 0) hx hb dX3_due_63 (by decide) ?_
                  refine lv_istore_n (lv' := [(2, .int (nI 0)), (0, .ref (b 0)), (1, .int (nI v)), (3, .int (nI w))]) hx hb dX3_due_64 rfl hl (by decide) rfl (fun ls hl => ?_)
                  refine lv_iinc (v := nI (w + 1)) (lv' := [(3, .int (nI (w + 1))), (2, .int (nI 0)), (0, .ref (b 0)), (1, .int (nI v))]) hx hb dX3_due_65 hl (k := 3) rfl (nI_add w 1) (by decide) rfl (fun ls hl => ?_)
                  refine lv_goto (tgt := 17) hx hb dX3_due_68 (by decide) ?_
                  have kx := kx
                  rw [show duF ne dn v (nn + 1) w al = duF ne dn v nn (w + 1) false from by simp only [duF, c_1, c_11, c_12, c_13, c_14, c_15, ↓reduceIte, decide_true, decide_false, Bool.not_true, Bool.not_false, Bool.or_true, Bool.true_or, Bool.or_false, Bool.false_or, Bool.and_true, Bool.true_and, Bool.and_false, Bool.false_and, and_true, true_and, and_false, false_and, and_self, or_self, or_true, true_or, or_false, false_or, Bool.false_eq_true, Bool.true_eq_false, not_true_eq_false, not_false_eq_true, Bool.or_self, decide_eq_true_eq]] at kx
                  exact ih (w + 1) false (by omega) ls (lv_sub hl [2, 3, 1, 0] rfl) kx
                · refine lv_iconst (v := nI 1) hx hb dX3_due_59 (by decide) ?_
                  refine lv_goto (tgt := 64) hx hb dX3_due_60 (by decide) ?_
                  refine lv_istore_n (lv' := [(2, .int (nI 1)), (0, .ref (b 0)), (1, .int (nI v)), (3, .int (nI w))]) hx hb dX3_due_64 rfl hl (by decide) rfl (fun ls hl => ?_)
                  refine lv_iinc (v := nI (w + 1)) (lv' := [(3, .int (nI (w + 1))), (2, .int (nI 1)), (0, .ref (b 0)), (1, .int (nI v))]) hx hb dX3_due_65 hl (k := 3) rfl (nI_add w 1) (by decide) rfl (fun ls hl => ?_)
                  refine lv_goto (tgt := 17) hx hb dX3_due_68 (by decide) ?_
                  have kx := kx
                  rw [show duF ne dn v (nn + 1) w al = duF ne dn v nn (w + 1) true from by simp only [duF, c_1, c_11, c_12, c_13, c_14, c_15, ↓reduceIte, decide_true, decide_false, Bool.not_true, Bool.not_false, Bool.or_true, Bool.true_or, Bool.or_false, Bool.false_or, Bool.and_true, Bool.true_and, Bool.and_false, Bool.false_and, and_true, true_and, and_false, false_and, and_self, or_self, or_true, true_or, or_false, false_or, Bool.false_eq_true, Bool.true_eq_false, not_true_eq_false, not_false_eq_true, Bool.or_self, decide_eq_true_eq]] at kx
                  exact ih (w + 1) true (by omega) ls (lv_sub hl [2, 3, 1, 0] rfl) kx
    refine L_17_8 5 2 true (by omega) ls (lv_sub hl [2, 3, 1, 0] rfl) (fun ls hl => ?_)
    have hl : lv_has ls 4 [(0, .ref (b 0)), (1, .int (nI v)), (2, .int (bI (duF ne dn v 5 2 true))), (3, .int (nI 7))] := hl
    refine lv_iload_n hx hb dX3_due_71 rfl (lv_at hl 2 rfl) ?_
    exact W.zret (v := bI (duF ne dn v 5 2 true)) hx hb hr (nar_bI _) (fun t ht hW => ⟨_, rfl, by rw [show duF ne dn v 5 2 (!dn v) = duF ne dn v 5 2 true from by simp only [c_1, ↓reduceIte, decide_true, decide_false, Bool.not_true, Bool.not_false, Bool.or_true, Bool.true_or, Bool.or_false, Bool.false_or, Bool.and_true, Bool.true_and, Bool.and_false, Bool.false_and, and_true, true_and, and_false, false_and, and_self, or_self, or_true, true_or, or_false, false_or, Bool.false_eq_true, Bool.true_eq_false, not_true_eq_false, not_false_eq_true, Bool.or_self, decide_eq_true_eq]], ht⟩) (fun _ h => by cases h) dX3_due_72

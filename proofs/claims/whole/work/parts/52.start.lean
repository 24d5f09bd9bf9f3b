/-! the law's loop, whole; the law from its entry -/
set_option maxHeartbeats 4000000 in
set_option maxRecDepth 100000 in
theorem law_loop {p : Program} {l : Launch} {e : Env} {s : State} {m : MethodId} {below : List Frame} {meth : Method} {c : Code} {dC : Nat → ClassId} {dI : Nat → Nat → Nat} {sb Ls : Nat} {xs : Nat → Int32} (hL : Ls ≤ 2560) (C0 : lw_At p s m meth c sb Ls xs) (hN : ∀ w ∈ nstW, va_Nw w s) : ∀ (nn i : Nat), i ≤ Ls → Ls + 1 ≤ i + 5 * nn → ∀ (a b : Nat → Nat) (cA cB : Nat → ClassId) (n : Nat) (hd fm rp rq : Nat → Nat) (nd nw bf su sI sO ct nwM bfM db sg wt : Nat → Int32) (ne dn : Nat → Bool), CI n hd fm rp rq nd nw bf su sI sO ct nwM bfM db sg wt ne → va_K (dC, dI) vwCl (vkT cA) s → va_K (dC, dI) vwCl (mdT cB) s → ∀ (H : Heap) (locs : List Loc), va_P (dC, dI) vwCl (vkW a cA n hd fm rp rq nd nw bf su sI sO ct) H → va_P (dC, dI) vwCl (mdW b cB n hd fm rp rq nwM bfM db sg wt ne dn) H → va_D (fun q : Nat => s.heap.size ≤ q) (vkW a cA n hd fm rp rq nd nw bf su sI sO ct ++ mdW b cB n hd fm rp rq nwM bfM db sg wt ne dn) → va_S (fun q : Nat => s.heap.size ≤ q) s.heap H locs → ∀ ls : Array Slot, lv_has ls 4 [(0, .ref sb), (1, .ref (a 0)), (2, .ref (b 0)), (3, .int (nI i))] → W p l e room_1 s m #[Value.ref sb] below meth c H locs 34 422 (lw_Z below #[Value.ref sb] s) (F0 m 18 ls []) := by
  have C1 := C0
  obtain ⟨hx, hb, hr, hml, hown, hts0, hX, hbl, hlocks, hgv⟩ := C0
  have hts : ∀ w ∈ wsL_law, w.before #[Value.ref sb] s = true := fun w h => hts0 w (wsL_law_in w h)
  have hA : ∀ q : Nat, s.heap.size ≤ q → (fun q : Nat => s.heap.size ≤ q) q := fun _ h => h
  have hbA : ¬ (fun q : Nat => s.heap.size ≤ q) sb := Nat.not_le.mpr hbl
  intro nn
  induction nn with
  | zero => intro i h1 h2; exact absurd h2 (by omega)
  | succ nn ih =>
    intro i hi hn a b cA cB n hd fm rp rq nd nw bf su sI sO ct nwM bfM db sg wt ne dn C hK1 hK2 H locs hP1 hP2 hD hS ls hl
    refine lv_iload_n hx hb dL_law_18 rfl (lv_at hl 3 rfl) ?_
    refine lv_aload_n hx hb dL_law_19 rfl (lv_at hl 0 rfl) ?_
    refine va_slen hx hb hX hbl hbA hS dL_law_20 ?_
    refine lv_iconst (v := nI 5) hx hb dL_law_21 (by decide) ?_
    refine lv_isub hx hb dL_law_22 ?_
    refine lv_icmp_gt (tgt := 521) hx hb dL_law_23 (by decide) (fun _ => ?_) (fun c_1 => ?_)
    · refine lv_iconst (v := 1) hx hb dL_law_521 (by decide) ?_
      refine va_forget (fun q hq => hS.2.2 q hq) ?_
      refine W.widen (k := 600000) (n := 7302250) (Nat.le_of_ble_eq_true rfl) (Nat.le_of_ble_eq_true rfl) ?_
      exact lw_ret hx hb hr hlocks dL_law_522
    · have h5 : i + 5 ≤ Ls := law_in hL hi c_1
      have kx : ∀ (a b : Nat → Nat) (cA cB : Nat → ClassId) (n : Nat) (hd fm rp rq : Nat → Nat) (nd nw bf su sI sO ct nwM bfM db sg wt : Nat → Int32) (ne dn : Nat → Bool), CI n hd fm rp rq nd nw bf su sI sO ct nwM bfM db sg wt ne → va_K (dC, dI) vwCl (vkT cA) s → va_K (dC, dI) vwCl (mdT cB) s → ∀ (H : Heap) (locs : List Loc), va_P (dC, dI) vwCl (vkW a cA n hd fm rp rq nd nw bf su sI sO ct) H → va_P (dC, dI) vwCl (mdW b cB n hd fm rp rq nwM bfM db sg wt ne dn) H → va_D (fun q : Nat => s.heap.size ≤ q) (vkW a cA n hd fm rp rq nd nw bf su sI sO ct ++ mdW b cB n hd fm rp rq nwM bfM db sg wt ne dn) → va_S (fun q : Nat => s.heap.size ≤ q) s.heap H locs → ∀ ls : Array Slot, lv_has ls 4 [(0, .ref sb), (1, .ref (a 0)), (2, .ref (b 0)), (3, .int (nI i))] → W p l e room_1 s m #[Value.ref sb] below meth c H locs 34 422 (lw_Z below #[Value.ref sb] s) (F0 m 515 ls []) := by
        intro a b cA cB n hd fm rp rq nd nw bf su sI sO ct nwM bfM db sg wt ne dn C hK1 hK2 H locs hP1 hP2 hD hS ls hl
        refine lv_iinc (v := nI (i + 5)) (lv' := [(3, .int (nI (i + 5))), (0, .ref sb), (1, .ref (a 0)), (2, .ref (b 0))]) hx hb dL_law_515 hl (k := 3) rfl (nI_add i 5) (by decide) rfl (fun ls hl => ?_)
        refine lv_goto (tgt := 18) hx hb dL_law_518 (by decide) ?_
        exact ih (i + 5) (by omega) (by omega) a b cA cB n hd fm rp rq nd nw bf su sI sO ct nwM bfM db sg wt ne dn C hK1 hK2 H locs hP1 hP2 hD hS ls (lv_sub hl [1, 2, 3, 0] rfl)
      refine lv_aload_n hx hb dL_law_26 rfl (lv_at hl 0 rfl) ?_
      refine lv_iload_n hx hb dL_law_27 rfl (lv_at hl 3 rfl) ?_
      refine hx_sld hx hb hX hbl hbA hS (by omega) (by omega) dL_law_28 ?_
      refine lv_bipush (v := nI 15) hx hb dL_law_29 (by decide) ?_
      refine lv_iand hx hb dL_law_31 ?_
      obtain ⟨j, hj, ej⟩ := pk_andE (xs i) (m := nI 15) 4 (by decide)
      refine hx_eq ej ?_
      rcases (show j = 0 ∨ j = 1 ∨ j = 2 ∨ j = 3 ∨ j = 4 ∨ j = 5 ∨ j = 6 ∨ j = 7 ∨ j = 8 ∨ j = 9 ∨ j = 10 ∨ j = 11 ∨ j = 12 ∨ j = 13 ∨ j = 14 ∨ j = 15 by omega) with rfl | rfl | rfl | rfl | rfl | rfl | rfl | rfl | rfl | rfl | rfl | rfl | rfl | rfl | rfl | rfl
      · refine lv_tableIn (tgt := 100) hx hb dL_law_32 (by decide) (by decide) (off := 68) rfl (by decide) ?_
        exact law_rule hL C1 hN h5 kx a b cA cB n hd fm rp rq nd nw bf su sI sO ct nwM bfM db sg wt ne dn C hK1 hK2 H locs hP1 hP2 hD hS ls hl
      · refine lv_tableIn (tgt := 153) hx hb dL_law_32 (by decide) (by decide) (off := 121) rfl (by decide) ?_
        exact law_undo hL C1 hN h5 kx a b cA cB n hd fm rp rq nd nw bf su sI sO ct nwM bfM db sg wt ne dn C hK1 hK2 H locs hP1 hP2 hD hS ls hl
      · refine lv_tableIn (tgt := 166) hx hb dL_law_32 (by decide) (by decide) (off := 134) rfl (by decide) ?_
        exact law_stage hL C1 hN h5 kx a b cA cB n hd fm rp rq nd nw bf su sI sO ct nwM bfM db sg wt ne dn C hK1 hK2 H locs hP1 hP2 hD hS ls hl
      · refine lv_tableIn (tgt := 235) hx hb dL_law_32 (by decide) (by decide) (off := 203) rfl (by decide) ?_
        exact law_commit hL C1 hN h5 kx a b cA cB n hd fm rp rq nd nw bf su sI sO ct nwM bfM db sg wt ne dn C hK1 hK2 H locs hP1 hP2 hD hS ls hl
      · refine lv_tableIn (tgt := 248) hx hb dL_law_32 (by decide) (by decide) (off := 216) rfl (by decide) ?_
        exact law_abort hL C1 hN h5 kx a b cA cB n hd fm rp rq nd nw bf su sI sO ct nwM bfM db sg wt ne dn C hK1 hK2 H locs hP1 hP2 hD hS ls hl
      · refine lv_tableIn (tgt := 261) hx hb dL_law_32 (by decide) (by decide) (off := 229) rfl (by decide) ?_
        exact law_has hL C1 hN h5 kx a b cA cB n hd fm rp rq nd nw bf su sI sO ct nwM bfM db sg wt ne dn C hK1 hK2 H locs hP1 hP2 hD hS ls hl
      · refine lv_tableIn (tgt := 304) hx hb dL_law_32 (by decide) (by decide) (off := 272) rfl (by decide) ?_
        exact law_count hL C1 hN h5 kx a b cA cB n hd fm rp rq nd nw bf su sI sO ct nwM bfM db sg wt ne dn C hK1 hK2 H locs hP1 hP2 hD hS ls hl
      · refine lv_tableIn (tgt := 347) hx hb dL_law_32 (by decide) (by decide) (off := 315) rfl (by decide) ?_
        exact law_size hL C1 hN h5 kx a b cA cB n hd fm rp rq nd nw bf su sI sO ct nwM bfM db sg wt ne dn C hK1 hK2 H locs hP1 hP2 hD hS ls hl
      · refine lv_tableIn (tgt := 370) hx hb dL_law_32 (by decide) (by decide) (off := 338) rfl (by decide) ?_
        exact law_recursive hL C1 hN h5 kx a b cA cB n hd fm rp rq nd nw bf su sI sO ct nwM bfM db sg wt ne dn C hK1 hK2 H locs hP1 hP2 hD hS ls hl
      · refine lv_tableIn (tgt := 393) hx hb dL_law_32 (by decide) (by decide) (off := 361) rfl (by decide) ?_
        exact law_needs hL C1 hN h5 kx a b cA cB n hd fm rp rq nd nw bf su sI sO ct nwM bfM db sg wt ne dn C hK1 hK2 H locs hP1 hP2 hD hS ls hl
      · refine lv_tableIn (tgt := 426) hx hb dL_law_32 (by decide) (by decide) (off := 394) rfl (by decide) ?_
        exact law_rules hL C1 hN h5 kx a b cA cB n hd fm rp rq nd nw bf su sI sO ct nwM bfM db sg wt ne dn C hK1 hK2 H locs hP1 hP2 hD hS ls hl
      · refine lv_tableIn (tgt := 439) hx hb dL_law_32 (by decide) (by decide) (off := 407) rfl (by decide) ?_
        exact law_changed hL C1 hN h5 kx a b cA cB n hd fm rp rq nd nw bf su sI sO ct nwM bfM db sg wt ne dn C hK1 hK2 H locs hP1 hP2 hD hS ls hl
      · refine lv_tableIn (tgt := 472) hx hb dL_law_32 (by decide) (by decide) (off := 440) rfl (by decide) ?_
        exact law_suspect hL C1 hN h5 kx a b cA cB n hd fm rp rq nd nw bf su sI sO ct nwM bfM db sg wt ne dn C hK1 hK2 H locs hP1 hP2 hD hS ls hl
      · refine lv_tableOut (tgt := 515) hx hb dL_law_32 (Or.inr (by decide)) (by decide) ?_
        exact kx a b cA cB n hd fm rp rq nd nw bf su sI sO ct nwM bfM db sg wt ne dn C hK1 hK2 H locs hP1 hP2 hD hS ls hl
      · refine lv_tableOut (tgt := 515) hx hb dL_law_32 (Or.inr (by decide)) (by decide) ?_
        exact kx a b cA cB n hd fm rp rq nd nw bf su sI sO ct nwM bfM db sg wt ne dn C hK1 hK2 H locs hP1 hP2 hD hS ls hl
      · refine lv_tableOut (tgt := 515) hx hb dL_law_32 (Or.inr (by decide)) (by decide) ?_
        exact kx a b cA cB n hd fm rp rq nd nw bf su sI sO ct nwM bfM db sg wt ne dn C hK1 hK2 H locs hP1 hP2 hD hS ls hl
theorem nst_on {w : Cond} (h : nstOk w) : w.onTables = true := by
  match w, h with
  | .fieldLinkNest _ _ _ _ _ _, _ => rfl
  | .methodLinkNest _ _ _ _, _ => rfl
set_option maxHeartbeats 4000000 in
set_option maxRecDepth 100000 in
/-- THE LAW, from its entry -/
theorem whole_start {p : Program} {e : Env} {s : State} {m : MethodId} {below : List Frame} {meth : Method} {c : Code} (l : Launch) {b L : Nat} {xs : Nat → Int32} (hL : L ≤ 2560) (C0 : lw_At p s m meth c b L xs) : W p l e room_1 s m #[Value.ref b] below meth c s.heap [] 0 0 (lw_Z below #[Value.ref b] s) (entryFrame m ([Value.ref b] : List Value).toArray 4) := by
  obtain ⟨hx, hb, hr, hml, hown, hts0, hX, hbl, hlocks, hgv⟩ := id C0
  have hts : ∀ w ∈ wsL_law, w.before #[Value.ref b] s = true := fun w h => hts0 w (wsL_law_in w h)
  have hA : ∀ q : Nat, s.heap.size ≤ q → (fun q : Nat => s.heap.size ≤ q) q := fun _ h => h
  have hN : ∀ w ∈ nstW, va_Nw w s := fun w hw => va_Nw.of (nst_on (nstW_ok w hw)) (hts0 w (nst_in w hw))
  have hO : va_AO RX0 s := va_AO.of (hts0 _ ao_in)
  obtain ⟨k0, iS0, hKn0⟩ := u_known (C := RX0) (T := TX0) (N := 4) (n := 4) hts0 inX0 (hts (.instantiable RX0 4) (by decide +kernel))
  obtain ⟨k1, iS1, hKn1⟩ := u_known (C := RX1) (T := TX1) (N := 3) (n := 3) hts0 inX1 (hts (.instantiable RX1 3) (by decide +kernel))
  obtain ⟨k2, iS2, hKn2⟩ := u_known (C := RX2) (T := TX2) (N := 7) (n := 7) hts0 inX2 (hts (.instantiable RX2 7) (by decide +kernel))
  obtain ⟨k3, iS3, hKn3⟩ := u_known (C := RX3) (T := TX3) (N := 12) (n := 12) hts0 inX3 (hts (.instantiable RX3 12) (by decide +kernel))
  obtain ⟨dC, dI, hKc⟩ : ∃ (dC : Nat → ClassId) (dI : Nat → Nat → Nat), ∀ (k : Nat) (q : vw_C), vwCl[k]? = some q → u_Kn s q.1 q.2.1 q.2.2 (dC k) (dI k) := by
    refine ⟨fun k => if k = 0 then k0 else if k = 1 then k1 else if k = 2 then k2 else k3, fun k => if k = 0 then iS0 else if k = 1 then iS1 else if k = 2 then iS2 else iS3, ?_⟩
    intro k q hq
    match k, hq with
    | 0, hq => cases hq; exact hKn0
    | 1, hq => cases hq; exact hKn1
    | 2, hq => cases hq; exact hKn2
    | 3, hq => cases hq; exact hKn3
    | k + 4, hq => simp [vwCl] at hq
  have hS : va_S (fun q : Nat => s.heap.size ≤ q) s.heap s.heap [] := va_S.rf
  have hK : va_K (dC, dI) vwCl [] s := ⟨hKc, fun k q h => by simp at h⟩
  have hP : va_P (dC, dI) vwCl [] s.heap := fun k q h => by simp at h
  have hD : va_D (fun q : Nat => s.heap.size ≤ q) [] := ⟨fun i j p q h => by simp at h, fun k q h => by simp at h⟩
  have hl := lv_entry ([.ref b]) (n := 4) (Nat.le_of_ble_eq_true rfl)
  rw [lg_entry_eq]
  generalize (lg_sl ([.ref b]) ++ List.replicate (4 - (lg_sl ([.ref b])).length) Slot.unset).toArray = ls at hl ⊢
  have hl : lv_has ls 4 [(0, .ref b)] := hl
  refine va_new (ci := 2) (fs := [.null, .null, .null, .null, .null, .null, .null]) (C := RX2) (T := TX2) (N := 7) hx hb hts inlX2 tyX2 tyX2_ok hown (hts (.classLink RL 7 RX2) (by decide +kernel)) (hts (.instantiable RX2 7) (by decide +kernel)) (hts (.initialized RX2) (by decide +kernel)) hK hP hD hS hA rfl (fun j hj => by rcases (show j = 0 ∨ j = 1 ∨ j = 2 ∨ j = 3 ∨ j = 4 ∨ j = 5 ∨ j = 6 by omega) with rfl | rfl | rfl | rfl | rfl | rfl | rfl <;> rfl) (Nat.le_of_ble_eq_true rfl) (Nat.le_of_ble_eq_true rfl) dL_law_0 (fun q0 H hP hD hS => ?_)
  have hP : va_P (dC, dI) vwCl [(q0, .inr (2, [.null, .null, .null, .null, .null, .null, .null]))] H := hP
  have hD : va_D (fun q : Nat => s.heap.size ≤ q) [(q0, .inr (2, [.null, .null, .null, .null, .null, .null, .null]))] := hD
  refine lv_dup hx hb dL_law_3 rfl ?_
  have hFc := wr_all hD hS hA
  refine va_callv (va_runI (As := []) (rest := [.ref q0]) ⟨hx, hb, hml, hown, hts⟩ (c_X2_init l dC dI q0 H.size) (cwI 0 hts gL_law_X2_init rfl rfl rfl (hts (.initialized RX2) (by decide +kernel)) (hts (.methodLink RL 9 yX2_init) (by decide +kernel)) (hts (.instanceMethod yX2_init) (by decide +kernel)) rfl (by decide +kernel) ⟨Nat.le_of_ble_eq_true rfl, Nat.le_of_ble_eq_true rfl⟩) (nw_S hP hK hN hO hD _) rfl rfl hl.1 rfl (lv_room (Nat.le_of_ble_eq_true rfl)) dL_law_4 ⟨Nat.le_of_ble_eq_true rfl, Nat.le_of_ble_eq_true rfl⟩) hS (fun q _ h => hFc q h) hFc (fun u t H1 locs ht hvm hw hB hz1 hk1 hS => ?_)
  obtain ⟨a1, c1⟩ := u
  obtain ⟨hP1, hK1, hD1⟩ := hB
  rw [ht] at hP1
  have hK1 : va_K (dC, dI) vwCl (vkT c1) s := va_K.moved hvm.symm hK1
  have hw : a1 0 = q0 := hw
  have hP : va_P (dC, dI) vwCl (vkW a1 c1 0 (fun _ => 0) (fun _ => 0) (fun _ => 0) (fun _ => 0) (fun _ => nI 0) (fun _ => nI 0) (fun _ => nI 0) (fun _ => nI 0) (fun _ => nI 0) (fun _ => nI 0) (fun _ => nI 0)) H1 := hP1
  have hD : va_D (fun q : Nat => s.heap.size ≤ q) (vkW a1 c1 0 (fun _ => 0) (fun _ => 0) (fun _ => 0) (fun _ => 0) (fun _ => nI 0) (fun _ => nI 0) (fun _ => nI 0) (fun _ => nI 0) (fun _ => nI 0) (fun _ => nI 0) (fun _ => nI 0)) := ⟨hD1.1, fun k q hq => hFc _ (hD1.2 k q hq)⟩
  generalize H1 = H at hP hS ⊢
  rw [← hw]
  refine lv_astore_n (lv' := [(1, .ref (a1 0)), (0, .ref b)]) hx hb dL_law_7 rfl hl (by decide) rfl (fun ls hl => ?_)
  refine va_new (ci := 3) (fs := [.int 0, .null, .null, .null, .null, .null, .null, .null, .null, .null, .null, .null]) (C := RX3) (T := TX3) (N := 12) hx hb hts inlX3 tyX3 tyX3_ok hown (hts (.classLink RL 10 RX3) (by decide +kernel)) (hts (.instantiable RX3 12) (by decide +kernel)) (hts (.initialized RX3) (by decide +kernel)) hK1 hP hD hS hA rfl (fun j hj => by rcases (show j = 0 ∨ j = 1 ∨ j = 2 ∨ j = 3 ∨ j = 4 ∨ j = 5 ∨ j = 6 ∨ j = 7 ∨ j = 8 ∨ j = 9 ∨ j = 10 ∨ j = 11 by omega) with rfl | rfl | rfl | rfl | rfl | rfl | rfl | rfl | rfl | rfl | rfl | rfl <;> rfl) (Nat.le_of_ble_eq_true rfl) (Nat.le_of_ble_eq_true rfl) dL_law_8 (fun q1 H hP hD hS => ?_)
  have hD : va_D (fun q : Nat => s.heap.size ≤ q) ((vkW a1 c1 0 (fun _ => 0) (fun _ => 0) (fun _ => 0) (fun _ => 0) (fun _ => nI 0) (fun _ => nI 0) (fun _ => nI 0) (fun _ => nI 0) (fun _ => nI 0) (fun _ => nI 0) (fun _ => nI 0)) ++ [(q1, .inr (3, [.int 0, .null, .null, .null, .null, .null, .null, .null, .null, .null, .null, .null]))]) := hD
  have hPv : va_P (dC, dI) vwCl (vkW a1 c1 0 (fun _ => 0) (fun _ => 0) (fun _ => 0) (fun _ => 0) (fun _ => nI 0) (fun _ => nI 0) (fun _ => nI 0) (fun _ => nI 0) (fun _ => nI 0) (fun _ => nI 0) (fun _ => nI 0)) H := fun k q hq => hP k q (gx_l hq)
  have hPm : va_P (dC, dI) vwCl [(q1, .inr (3, [.int 0, .null, .null, .null, .null, .null, .null, .null, .null, .null, .null, .null]))] H := fun k q hq => hP _ q (gx_r (l1 := (vkW a1 c1 0 (fun _ => 0) (fun _ => 0) (fun _ => 0) (fun _ => 0) (fun _ => nI 0) (fun _ => nI 0) (fun _ => nI 0) (fun _ => nI 0) (fun _ => nI 0) (fun _ => nI 0) (fun _ => nI 0))) hq)
  refine lv_dup hx hb dL_law_11 rfl ?_
  have hFc := wr_all hD.right hS hA
  refine va_callv (va_runI (As := []) (rest := [.ref q1]) ⟨hx, hb, hml, hown, hts⟩ (c_X3_init l dC dI q1 H.size) (cwI 0 hts gL_law_X3_init rfl rfl rfl (hts (.initialized RX3) (by decide +kernel)) (hts (.methodLink RL 12 yX3_init) (by decide +kernel)) (hts (.instanceMethod yX3_init) (by decide +kernel)) rfl (by decide +kernel) ⟨Nat.le_of_ble_eq_true rfl, Nat.le_of_ble_eq_true rfl⟩) (nw_S hPm hK hN hO hD.right _) rfl rfl hl.1 rfl (lv_room (Nat.le_of_ble_eq_true rfl)) dL_law_12 ⟨Nat.le_of_ble_eq_true rfl, Nat.le_of_ble_eq_true rfl⟩) hS (fun q _ h => hFc q h) hFc (fun u t H1 locs ht hvm hw2 hB hz1 hk1 hS => ?_)
  obtain ⟨b1, c2⟩ := u
  obtain ⟨hP2, hK2, hD2⟩ := hB
  rw [ht] at hP2
  have hK2 : va_K (dC, dI) vwCl (mdT c2) s := va_K.moved hvm.symm hK2
  have hw2 : b1 0 = q1 := hw2
  obtain ⟨hPv, hD⟩ := join_any hD.turn hFc hPv hk1 hD2
  rw [← hw2]
  refine lv_astore_n (lv' := [(2, .ref (b1 0)), (1, .ref (a1 0)), (0, .ref b)]) hx hb dL_law_15 rfl hl (by decide) rfl (fun ls hl => ?_)
  refine lv_iconst (v := nI 0) hx hb dL_law_16 (by decide) ?_
  refine lv_istore_n (lv' := [(3, .int (nI 0)), (2, .ref (b1 0)), (1, .ref (a1 0)), (0, .ref b)]) hx hb dL_law_17 rfl hl (by decide) rfl (fun ls hl => ?_)
  refine W.widen (k := 34) (n := 422) (Nat.le_of_ble_eq_true rfl) (Nat.le_of_ble_eq_true rfl) ?_
  exact law_loop hL C0 hN (L + 1) 0 (Nat.zero_le _) (by omega) a1 b1 c1 c2 _ _ _ _ _ _ _ _ _ _ _ _ _ _ _ _ _ _ _ ci_new hK1 hK2 H1 locs hPv hP2 hD.turn hS ls (lv_sub hl [3, 2, 1, 0] rfl)

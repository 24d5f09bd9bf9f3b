/-! the cells of the system: the keeper, its book, its rules, its arrays; of the reference; the links between nest mates -/
def nstW : List Cond := [.methodLinkNest RX0 21 yX2_turned "ViewKeeper", .methodLinkNest RX0 25 yX2_joined "ViewKeeper", .methodLinkNest RX1 17 yX0_init "ViewKeeper", .methodLinkNest RX1 47 yX0_body "ViewKeeper", .methodLinkNest RX2 9 yX1_init "ViewKeeper", .methodLinkNest RX2 46 yX1_write "ViewKeeper", .methodLinkNest RX2 50 yX1_hasCycle "ViewKeeper", .methodLinkNest RX2 54 yX1_strikeLast "ViewKeeper", .methodLinkNest RX2 95 yX1_leadsBack "ViewKeeper", .methodLinkNest RX2 98 yX1_leadsTo "ViewKeeper", .methodLinkNest RX2 138 yX1_layerOf "ViewKeeper", .methodLinkNest RX2 141 yX0_ways "ViewKeeper", .methodLinkNest RX2 145 yX0_givenBy "ViewKeeper", .methodLinkNest RX2 181 yX0_given "ViewKeeper", .fieldLinkNest RX1 26 "ViewKeeper$Rule" "head" "I" "ViewKeeper", .fieldLinkNest RX1 29 "ViewKeeper$Rule" "form" "I" "ViewKeeper", .fieldLinkNest RX1 32 "ViewKeeper$Rule" "p" "I" "ViewKeeper", .fieldLinkNest RX1 35 "ViewKeeper$Rule" "q" "I" "ViewKeeper", .fieldLinkNest RX2 42 "ViewKeeper$RuleBook" "made" "I" "ViewKeeper", .fieldLinkNest RX2 129 "ViewKeeper$RuleBook" "rows" "[LViewKeeper$Rule;" "ViewKeeper", .fieldLinkNest RX2 133 "ViewKeeper$Rule" "head" "I" "ViewKeeper", .fieldLinkNest RX2 160 "ViewKeeper$Rule" "p" "I" "ViewKeeper", .fieldLinkNest RX2 163 "ViewKeeper$Rule" "q" "I" "ViewKeeper", .fieldLinkNest RX2 169 "ViewKeeper$Rule" "form" "I" "ViewKeeper"]
theorem nstW_ok : ∀ w ∈ nstW, nstOk w := by
  intro w hw
  simp only [nstW, List.mem_cons, List.not_mem_nil, or_false] at hw
  rcases hw with rfl | rfl | rfl | rfl | rfl | rfl | rfl | rfl | rfl | rfl | rfl | rfl | rfl | rfl | rfl | rfl | rfl | rfl | rfl | rfl | rfl | rfl | rfl | rfl <;> exact trivial
/-- contents that agree on the places that there are -/
theorem cell_congr (cA : ClassId) {n : Nat} {f g : Nat → Int32} (h : ∀ k, k < n → f k = g k) : vp_cell cA (n, .inl f) = vp_cell cA (n, .inl g) := by
  rw [vp_cell_i, vp_cell_i]
  unfold arrV
  congr 1
  apply Array.ext
  · simp
  · intro i h1 h2
    simp at h1
    simp [h i h1]
theorem va_P.arr {D : va_G} {cl : List vw_C} {ws : va_W} {H : Heap} (hP : va_P D cl ws H) (q0 : Nat) {a : Nat} {cA : ClassId} {n : Nat} {f : Nat → Int32} (g : Nat → Int32) (he : ws[q0]? = some (a, .inl (cA, n, .inl f))) (h : ∀ k, k < n → f k = g k) : va_P D cl (ws.set q0 (a, .inl (cA, n, .inl g))) H := by
  intro k q hk
  by_cases e : q0 = k
  · subst e
    have hl := (List.getElem?_eq_some_iff.mp he).1
    rw [List.getElem?_set_self hl] at hk
    cases hk
    show H[a]? = some (vp_cell cA (n, .inl g))
    rw [← cell_congr cA h]
    exact hP q0 _ he
  · rw [List.getElem?_set_ne e] at hk
    exact hP k q hk
/-- one array, by itself: what Arrays.fill is told -/
def arW (ad : Nat) (cX : ClassId) (k : Nat) (f : Nat → Int32) : va_W := [(ad, .inl (cX, k, .inl f))]
section HV
variable {p : Program} {l : Launch} {e : Env} {R : Room} {s : State} {m : MethodId} {args : Array Value} {below : List Frame} {meth : Method} {c : Code} {H : Heap} {locs : List Loc} {cells slots : Nat} {Q : State → Prop}
variable {cc : ByteArray} {pc : Nat} {ls : Array Slot} {rest : List Value} {D : va_G} {cl : List vw_C} {A : Nat → Prop} {tys : List (ClassId × FieldType)} {ws : va_W} {H0 : Heap}
/-- behind a writing call over one of the caller's cells -/
theorem hx_wrv1 {ad : Nat} {e0 e1 : va_E} {a : Array Value} {st0 : List Value} (hr : va_Run p l e R s m args below meth c H locs cells slots 0 0 (F0 m pc ls st0) rest (va_Qv (fun _ : Unit => True) (wrB D cl [(ad, e0)] [(ad, e1)] tys H.size) (va_A [(ad, e0)] H.size) a) (va_A [(ad, e0)] H.size)) (q0 : Nat) (hP : va_P D cl ws H) (he : ws[q0]? = some (ad, e0)) (hD : va_D A ws) (hS : va_S A H0 H locs) (hA : ∀ q, H0.size ≤ q → A q)
    (kk : ∀ (H1 : Heap) (locs1 : List Loc), va_P D cl (ws.set q0 (ad, e1)) H1 → va_D A (ws.set q0 (ad, e1)) → va_S A H0 H1 locs1 → W p l e R s m args below meth c H1 locs1 cells slots Q (F0 m (pc + 3) ls rest)) : W p l e R s m args below meth c H locs cells slots Q (F0 m pc ls st0) := by
  have hF : ∀ q, va_A [(ad, e0)] H.size q → A q := by
    intro q h
    rcases h with ⟨k, e2, h⟩ | h
    · have : q = ad := by
        match k, h with
        | 0, h => cases h; rfl
        | k + 1, h => simp at h
      rw [this]
      exact hD.2 q0 _ he
    · exact hA q (Nat.le_trans hS.1 h)
  refine va_callv hr hS (fun q _ h => hF q h) hF (fun u t H1 locs1 ht hvm _ hB hz1 hk1 hS1 => ?_)
  obtain ⟨hP1, hK1, hD1⟩ := hB
  rw [ht] at hP1
  refine kk H1 locs1 ?_ (hD.set he) hS1
  intro k q hk
  by_cases e2 : q0 = k
  · subst e2
    have hl := (List.getElem?_eq_some_iff.mp he).1
    rw [List.getElem?_set_self hl] at hk
    cases hk
    exact hP1 0 _ rfl
  · rw [List.getElem?_set_ne e2] at hk
    refine (hP k q hk).kept (hk1 q.1 (va_at.lt (hP k q hk)) ?_)
    intro h
    rcases h with ⟨j, e3, h⟩ | h
    · have : q.1 = ad := by
        match j, h with
        | 0, h => cases h; rfl
        | j + 1, h => simp at h
      exact e2 (hD.1 q0 k _ _ he hk this.symm)
    · exact absurd (va_at.lt (hP k q hk)) (Nat.not_lt.mpr h)
end HV
/-- the keeper's cells: a its addresses (0 the keeper, 1 the book, 2 the rows, 3 needed, 4 now, 5 before, 6 suspects, 7 and 8 what is staged, 9 the counts, 10 and on the rules), cA the arrays' own kinds -/
def vkW (a : Nat → Nat) (cA : Nat → ClassId) (n : Nat) (hd fm rp rq : Nat → Nat) (nd nw bf su sI sO ct : Nat → Int32) : va_W :=
  [(a 0, .inr (2, [.ref (a 1), .ref (a 4), .ref (a 5), .ref (a 6), .ref (a 9), .ref (a 7), .ref (a 8)])), (a 1, .inr (1, [.ref (a 2), .ref (a 3), .int (nI n)])), (a 2, .inl (cA 2, 12, .inr (.inr (.inr (.inr (fun k => some (a (10 + k)))))))), (a 3, .inl (cA 3, 7, .inl nd)), (a 4, .inl (cA 4, 7, .inl nw)), (a 5, .inl (cA 5, 7, .inl bf)), (a 6, .inl (cA 6, 7, .inl su)), (a 7, .inl (cA 7, 2, .inl sI)), (a 8, .inl (cA 8, 2, .inl sO)), (a 9, .inl (cA 9, 175, .inl ct))] ++ (List.range 12).map (fun k => (a (10 + k), .inr (0, [.int (nI (hd k)), .int (nI (fm k)), .int (nI (rp k)), .int (nI (rq k))])))
def vkT (cA : Nat → ClassId) : List (ClassId × FieldType) := [(cA 2, .object RX0), (cA 3, .int), (cA 4, .int), (cA 5, .int), (cA 6, .int), (cA 7, .int), (cA 8, .int), (cA 9, .int)]
theorem vkW_rule {a : Nat → Nat} {cA : Nat → ClassId} {n : Nat} {hd fm rp rq : Nat → Nat} {nd nw bf su sI sO ct : Nat → Int32} {i : Nat} (hi : i < 12) : (vkW a cA n hd fm rp rq nd nw bf su sI sO ct)[10 + i]? = some (a (10 + i), .inr (0, [.int (nI (hd i)), .int (nI (fm i)), .int (nI (rp i)), .int (nI (rq i))])) := by
  unfold vkW
  rw [List.getElem?_append_right (by simp)]
  simp [List.getElem?_range hi]
theorem va_up_same {α : Type} (f : Nat → α) (k : Nat) : va_up f k (f k) = f := by
  funext j
  unfold va_up
  split
  · next h => rw [h]
  · rfl
theorem vkW_set {a : Nat → Nat} {cA : Nat → ClassId} {n : Nat} {hd fm rp rq : Nat → Nat} {nd nw bf su sI sO ct : Nat → Int32} {i h f p q : Nat} (hi : i < 12) : (vkW a cA n hd fm rp rq nd nw bf su sI sO ct).set (10 + i) (a (10 + i), .inr (0, [.int (nI h), .int (nI f), .int (nI p), .int (nI q)])) = vkW a cA n (va_up hd i h) (va_up fm i f) (va_up rp i p) (va_up rq i q) nd nw bf su sI sO ct := by
  unfold vkW
  rw [List.set_append_right _ _ (by simp)]
  congr 1
  apply List.ext_getElem?
  intro j
  simp only [List.length_cons, List.length_nil, Nat.zero_add, Nat.reduceAdd, Nat.add_sub_cancel_left]
  by_cases e : i = j
  · subst e
    rw [List.getElem?_set_self (by simp; exact hi)]
    simp [List.getElem?_range hi, va_up]
  · rw [List.getElem?_set_ne e]
    by_cases hj : j < 12
    · simp [List.getElem?_range hj, va_up, Ne.symm e]
    · rw [List.getElem?_eq_none (by simp; omega), List.getElem?_eq_none (by simp; omega)]
/-- the reference's cells: 0 the object, 1 heads, 2 forms, 3 first, 4 second, 5 now, 6 before, 7 doubt, 8 staged, 9 wanted, 10 need, 11 done -/
def mdW (b : Nat → Nat) (cB : Nat → ClassId) (n : Nat) (hd fm rp rq : Nat → Nat) (nw bf db sg wt : Nat → Int32) (ne dn : Nat → Bool) : va_W :=
  [(b 0, .inr (3, [.int (nI n), .ref (b 1), .ref (b 2), .ref (b 3), .ref (b 4), .ref (b 5), .ref (b 6), .ref (b 7), .ref (b 8), .ref (b 9), .ref (b 10), .ref (b 11)])), (b 1, .inl (cB 1, 13, .inl (fun k => nI (hd k)))), (b 2, .inl (cB 2, 13, .inl (fun k => nI (fm k)))), (b 3, .inl (cB 3, 13, .inl (fun k => nI (rp k)))), (b 4, .inl (cB 4, 13, .inl (fun k => nI (rq k)))), (b 5, .inl (cB 5, 7, .inl nw)), (b 6, .inl (cB 6, 7, .inl bf)), (b 7, .inl (cB 7, 7, .inl db)), (b 8, .inl (cB 8, 2, .inl sg)), (b 9, .inl (cB 9, 2, .inl wt)), (b 10, .inl (cB 10, 49, .inl (fun k => bI (ne k)))), (b 11, .inl (cB 11, 7, .inl (fun k => bI (dn k))))]
def mdT (cB : Nat → ClassId) : List (ClassId × FieldType) := [(cB 1, .int), (cB 2, .int), (cB 3, .int), (cB 4, .int), (cB 5, .int), (cB 6, .int), (cB 7, .int), (cB 8, .int), (cB 9, .int), (cB 10, .boolean), (cB 11, .boolean)]
/-- the rules as they must be -/
def ruOk (n : Nat) (hd fm rp rq : Nat → Nat) : Prop := n ≤ 12 ∧ ∀ k, k < n → 2 ≤ hd k ∧ hd k < 7 ∧ fm k ≤ 4 ∧ rp k < 7 ∧ rq k < 7

/-! rows of arrays, of making, of calls -/
abbrev aI (n : Nat) (f : Nat → Int32) : FC := .inl (.int, n, .inl f)
abbrev aZ (n : Nat) (f : Nat → Int32) : FC := .inl (.boolean, n, .inl f)
abbrev aL (n : Nat) (f : Nat → Int64) : FC := .inl (.long, n, .inr (.inl f))
abbrev aR (C : FieldType) (n : Nat) (f : Nat → Option Nat) : FC := .inl (C, n, .inr (.inr (.inr (.inr f))))
theorem nI_rng {j n : Nat} (h : j < n) (h2 : j < 2147483648) {sz : Nat} (hz : sz = n) : ¬ (nI j < 0 ∨ sz ≤ (nI j).toNatClampNeg) := by
  rw [hz]
  intro q
  rcases q with q | q
  · exact nI_pos (by omega) q
  · rw [nI_clamp (by omega)] at q
    omega
theorem J_iald {K : KT} {pc : Nat} {env : LE} {st : List Value} {h : FH} {b : Bd} {a n j : Nat} {f : Nat → Int32} (X : JOK K) (hd : decode (cby K.2.2.1) pc = .ok (.iaload, 1)) (ha : h.2 a = some (aI n f)) (hj : j < n) (hj2 : j < 2147483648) (k : J K (pc + 1) env (.int (f j) :: st) h b) : J K pc env (.int (nI j) :: .ref a :: st) h b := by
  obtain ⟨⟨p, l, e, R, s, m, args, below, meth, c⟩, ⟨Q, P⟩, ⟨own, ini, cc, ret, nL⟩, Rr⟩ := K
  intro H locs ls kc ks hH hL hl h1 h2
  obtain ⟨cA, g1, g2, g3⟩ := hH.at ha
  exact W.iald (v := .int (f j)) X.1 X.2.1 g1 (g2 n (fun j => .int (f j))) (fun q => by cases q) (nI_rng hj hj2 (arrV_size _ _ _)) (by rw [nI_clamp (by omega)]; exact arrV_read cA (fun j => .int (f j)) hj) rfl rfl hd (k H locs ls kc ks hH hL hl h1 h2)
theorem J_zald {K : KT} {pc : Nat} {env : LE} {st : List Value} {h : FH} {b : Bd} {a n j : Nat} {f : Nat → Int32} (X : JOK K) (hd : decode (cby K.2.2.1) pc = .ok (.baload, 1)) (ha : h.2 a = some (aZ n f)) (hj : j < n) (hj2 : j < 2147483648) (k : J K (pc + 1) env (.int (f j) :: st) h b) : J K pc env (.int (nI j) :: .ref a :: st) h b := by
  obtain ⟨⟨p, l, e, R, s, m, args, below, meth, c⟩, ⟨Q, P⟩, ⟨own, ini, cc, ret, nL⟩, Rr⟩ := K
  intro H locs ls kc ks hH hL hl h1 h2
  obtain ⟨cA, g1, g2, g3⟩ := hH.at ha
  exact W.zald (v := .int (f j)) X.1 X.2.1 g1 (g2 n (fun j => .int (f j))) (fun q => by cases q) (nI_rng hj hj2 (arrV_size _ _ _)) (by rw [nI_clamp (by omega)]; exact arrV_read cA (fun j => .int (f j)) hj) rfl rfl hd (k H locs ls kc ks hH hL hl h1 h2)
theorem J_lald {K : KT} {pc : Nat} {env : LE} {st : List Value} {h : FH} {b : Bd} {a n j : Nat} {f : Nat → Int64} (X : JOK K) (hd : decode (cby K.2.2.1) pc = .ok (.laload, 1)) (ha : h.2 a = some (aL n f)) (hj : j < n) (hj2 : j < 2147483648) (k : J K (pc + 1) env (.long (f j) :: st) h b) : J K pc env (.int (nI j) :: .ref a :: st) h b := by
  obtain ⟨⟨p, l, e, R, s, m, args, below, meth, c⟩, ⟨Q, P⟩, ⟨own, ini, cc, ret, nL⟩, Rr⟩ := K
  intro H locs ls kc ks hH hL hl h1 h2
  obtain ⟨cA, g1, g2, g3⟩ := hH.at ha
  exact W.lald (v := .long (f j)) X.1 X.2.1 g1 (g2 n (fun j => .long (f j))) (fun q => by cases q) (nI_rng hj hj2 (arrV_size _ _ _)) (by rw [nI_clamp (by omega)]; exact arrV_read cA (fun j => .long (f j)) hj) rfl rfl hd (k H locs ls kc ks hH hL hl h1 h2)
theorem J_aald {K : KT} {pc : Nat} {env : LE} {st : List Value} {h : FH} {b : Bd} {a n j : Nat} {ty : FieldType} {f : Nat → Option Nat} (X : JOK K) (hd : decode (cby K.2.2.1) pc = .ok (.aaload, 1)) (ha : h.2 a = some (aR ty n f)) (hty : ty.isReference = true) (hj : j < n) (hj2 : j < 2147483648) (k : J K (pc + 1) env (va_rf (f j) :: st) h b) : J K pc env (.int (nI j) :: .ref a :: st) h b := by
  obtain ⟨⟨p, l, e, R, s, m, args, below, meth, c⟩, ⟨Q, P⟩, ⟨own, ini, cc, ret, nL⟩, Rr⟩ := K
  intro H locs ls kc ks hH hL hl h1 h2
  obtain ⟨cA, g1, g2, g3⟩ := hH.at ha
  exact W.aald (v := va_rf (f j)) (ty := ty) X.1 X.2.1 g1 (g2 n (fun j => va_rf (f j))) hty (fun q => by cases q) (nI_rng hj hj2 (arrV_size _ _ _)) (by rw [nI_clamp (by omega)]; exact arrV_read cA (fun j => va_rf (f j)) hj) rfl rfl hd (k H locs ls kc ks hH hL hl h1 h2)
theorem J_alen {K : KT} {pc : Nat} {env : LE} {st : List Value} {h : FH} {b : Bd} {a : Nat} {ty : FieldType} {x : vp_A} (X : JOK K) (hd : decode (cby K.2.2.1) pc = .ok (.arraylength, 1)) (ha : h.2 a = some (.inl (ty, x))) (k : J K (pc + 1) env (.int (nI x.1) :: st) h b) : J K pc env (.ref a :: st) h b := by
  obtain ⟨⟨p, l, e, R, s, m, args, below, meth, c⟩, ⟨Q, P⟩, ⟨own, ini, cc, ret, nL⟩, Rr⟩ := K
  intro H locs ls kc ks hH hL hl h1 h2
  obtain ⟨cA, g1, g2, g3⟩ := hH.at ha
  have hP : va_P P.1 vwCl [(a, .inl (cA, x))] H := fun k9 q hq => by
    match k9, hq with
    | 0, hq => cases hq; exact g1
    | k9 + 1, hq => simp at hq
  have hK : va_K P.1 vwCl [(cA, ty)] s := ⟨X.2.2.2.2.2.1.1.1, fun k9 q hq => by
    match k9, hq with
    | 0, hq => cases hq; exact ⟨g2, g3⟩
    | k9 + 1, hq => simp at hq⟩
  exact va_alen X.1 X.2.1 hK hP 0 0 rfl rfl rfl hd (k H locs ls kc ks hH hL hl h1 h2)
theorem loc_app {P : FPr} {h : FH} {U : State} {H : Heap} {locs : List Loc} {a j : Nat} {c0 : FC} (hH : fwH P U h H) (ha : h.2 a = some c0) (hL : ∀ q ∈ locs, P.2.1 ≤ q.base) : ∀ q ∈ locs ++ [(⟨a, j⟩ : Loc)], P.2.1 ≤ q.base := fun q hq => by
  rcases List.mem_append.mp hq with z | z
  · exact hL q z
  · rw [List.mem_singleton.mp z]
    exact hH.ge ha
theorem J_iast {K : KT} {pc : Nat} {env : LE} {st : List Value} {h : FH} {b : Bd} {a n j : Nat} {f : Nat → Int32} {x : Int32} (X : JOK K) (hd : decode (cby K.2.2.1) pc = .ok (.iastore, 1)) (ha : h.2 a = some (aI n f)) (hj : j < n) (hj2 : j < 2147483648) (k : J K (pc + 1) env st (hset h a (aI n (upd f j x))) b) : J K pc env (.int x :: .int (nI j) :: .ref a :: st) h b := by
  obtain ⟨⟨p, l, e, R, s, m, args, below, meth, c⟩, ⟨Q, P⟩, ⟨own, ini, cc, ret, nL⟩, Rr⟩ := K
  intro H locs ls kc ks hH hL hl h1 h2
  obtain ⟨cA, g1, g2, g3⟩ := hH.at ha
  refine W.iast X.1 X.2.1 g1 (g2 n (fun j => .int (f j))) (fun q => by cases q) (nI_rng hj hj2 (arrV_size _ _ _)) rfl rfl hd fun H1 e z oq => ?_
  rw [nI_clamp (by omega)] at e ⊢
  refine k H1 _ ls kc ks (hH.set ha ⟨cA, ?_, g2, g3⟩ z oq) (loc_app hH ha hL) hl h1 h2
  rw [e, vp_cell_i, vp_cell_i, arrV_store]
  congr 2
  funext q
  by_cases hq : q = j
  · subst hq
    simp [updV, upd]
  · simp [updV, upd, hq]
theorem J_zast {K : KT} {pc : Nat} {env : LE} {st : List Value} {h : FH} {b : Bd} {a n j : Nat} {f : Nat → Int32} {x : Int32} (X : JOK K) (hd : decode (cby K.2.2.1) pc = .ok (.bastore, 1)) (ha : h.2 a = some (aZ n f)) (hj : j < n) (hj2 : j < 2147483648) (hx : x = 0 ∨ x = 1) (k : J K (pc + 1) env st (hset h a (aZ n (upd f j x))) b) : J K pc env (.int x :: .int (nI j) :: .ref a :: st) h b := by
  obtain ⟨⟨p, l, e, R, s, m, args, below, meth, c⟩, ⟨Q, P⟩, ⟨own, ini, cc, ret, nL⟩, Rr⟩ := K
  intro H locs ls kc ks hH hL hl h1 h2
  obtain ⟨cA, g1, g2, g3⟩ := hH.at ha
  have hn : narrow .boolean (.int x) = .int x := by rcases hx with rfl | rfl <;> rfl
  refine W.zast X.1 X.2.1 g1 (g2 n (fun j => .int (f j))) (fun q => by cases q) (nI_rng hj hj2 (arrV_size _ _ _)) rfl rfl hd fun H1 e z oq => ?_
  rw [nI_clamp (by omega)] at e ⊢
  rw [hn] at e
  refine k H1 _ ls kc ks (hH.set ha ⟨cA, ?_, g2, g3⟩ z oq) (loc_app hH ha hL) hl h1 h2
  rw [e, vp_cell_i, vp_cell_i, arrV_store]
  congr 2
  funext q
  by_cases hq : q = j
  · subst hq
    simp [updV, upd]
  · simp [updV, upd, hq]
theorem J_last {K : KT} {pc : Nat} {env : LE} {st : List Value} {h : FH} {b : Bd} {a n j : Nat} {f : Nat → Int64} {x : Int64} (X : JOK K) (hd : decode (cby K.2.2.1) pc = .ok (.lastore, 1)) (ha : h.2 a = some (aL n f)) (hj : j < n) (hj2 : j < 2147483648) (k : J K (pc + 1) env st (hset h a (aL n (vp_updL f j x))) b) : J K pc env (.long x :: .int (nI j) :: .ref a :: st) h b := by
  obtain ⟨⟨p, l, e, R, s, m, args, below, meth, c⟩, ⟨Q, P⟩, ⟨own, ini, cc, ret, nL⟩, Rr⟩ := K
  intro H locs ls kc ks hH hL hl h1 h2
  obtain ⟨cA, g1, g2, g3⟩ := hH.at ha
  refine W.last X.1 X.2.1 g1 (g2 n (fun j => .long (f j))) (fun q => by cases q) (nI_rng hj hj2 (arrV_size _ _ _)) rfl rfl hd fun H1 e z oq => ?_
  rw [nI_clamp (by omega)] at e ⊢
  refine k H1 _ ls kc ks (hH.set ha ⟨cA, ?_, g2, g3⟩ z oq) (loc_app hH ha hL) hl h1 h2
  rw [e, vp_cell_l, vp_cell_l, arrV_store]
  congr 2
  funext q
  by_cases hq : q = j
  · subst hq
    simp [updV, vp_updL]
  · simp [updV, vp_updL, hq]
theorem J_aast {K : KT} {pc : Nat} {env : LE} {st : List Value} {h : FH} {b : Bd} {a n j v ci : Nat} {fs : List Value} {r : vw_C} {f : Nat → Option Nat} (X : JOK K) (hd : decode (cby K.2.2.1) pc = .ok (.aastore, 1)) (hr : vwCl[ci]? = some r) (ha : h.2 a = some (aR (.object r.1) n f)) (hv : h.2 v = some (.inr (ci, fs))) (hj : j < n) (hj2 : j < 2147483648) (k : J K (pc + 1) env st (hset h a (aR (.object r.1) n (va_up f j (some v)))) b) : J K pc env (.ref v :: .int (nI j) :: .ref a :: st) h b := by
  obtain ⟨⟨p, l, e, R, s, m, args, below, meth, c⟩, ⟨Q, P⟩, ⟨own, ini, cc, ret, nL⟩, Rr⟩ := K
  intro H locs ls kc ks hH hL hl h1 h2
  obtain ⟨cA, g1, g2, kA, comp, f1, f2, f3, f4⟩ := hH.at ha
  obtain ⟨r', hr', cellV, q1, q2, q3, -⟩ := hH.at hv
  cases hr.symm.trans hr'
  have hCl : ClassAt s r.1 (P.1.1 ci) := (X.2.2.2.2.2.1.1.1 ci r hr).2
  obtain ⟨hfc, kC, hkC, -⟩ := id hCl
  have hcomp : comp = P.1.1 ci := Option.some.inj (f3.symm.trans hfc)
  refine W.aast X.1 X.2.1 g1 (fun q z => by cases z) (fun z => by cases z) f1 f2 (by rfl) (kcomp := kC) (by rw [hcomp]; exact hkC) ⟨nI_pos (by omega), by rw [nI_clamp (by omega)]; show _ < (arrV _ _ _).slots.size; rw [arrV_size]; exact hj⟩ q1 (fun q z => by rw [q3] at z; cases z) (by rw [q2]; exact hkC) (by rw [q2, hcomp]; exact va_assign hCl) rfl rfl hd fun H1 e z oq => ?_
  rw [nI_clamp (by omega)] at e ⊢
  refine k H1 _ ls kc ks (hH.set ha ⟨cA, ?_, g2, kA, comp, f1, f2, f3, f4⟩ z oq) (loc_app hH ha hL) hl h1 h2
  rw [e, vp_cell_q, vp_cell_q, arrV_store]
  congr 2
  funext q
  by_cases hq : q = j
  · subst hq
    simp [updV, va_up, va_rf]
  · simp [updV, va_up, hq]
/-- making: an array of numbers -/
def nwC (t : ArrayType) (n : Nat) : FC := match t with
  | .int => aI n (fun _ => 0)
  | .boolean => aZ n (fun _ => 0)
  | _ => aL n (fun _ => 0)
theorem J_newa {K : KT} {pc : Nat} {env : LE} {st : List Value} {h : FH} {b : Bd} {n : Nat} {t : ArrayType} (X : JOK K) (hd : decode (cby K.2.2.1) pc = .ok (.newarray t, 2)) (ht : t = .int ∨ t = .boolean ∨ t = .long) (hn : n ≤ 65000000) (hc : 1 ≤ b.1) (hs : n ≤ b.2) (k : J K (pc + 2) env (.ref h.1 :: st) (hnew h (nwC t n)) (b.1 - 1, b.2 - n)) : J K pc env (.int (nI n) :: st) h b := by
  obtain ⟨⟨p, l, e, R, s, m, args, below, meth, c⟩, ⟨Q, P⟩, ⟨own, ini, cc, ret, nL⟩, Rr⟩ := K
  intro H locs ls kc ks hH hL hl h1 h2
  have ht2 : (Cond.arrayClass (newarray.typeOf t)).before args s = true := by
    rcases ht with rfl | rfl | rfl
    · exact X.2.2.2.2.1 _ A_ci
    · exact X.2.2.2.2.1 _ A_cz
    · exact X.2.2.2.2.1 _ A_cl
  have hby : n * componentBytes (newarray.typeOf t) ≤ 536870912 := by
    rcases ht with rfl | rfl | rfl
    · show n * 4 ≤ _; omega
    · show n * 1 ≤ _; omega
    · show n * 8 ≤ _; omega
  refine va_newaK X.1 X.2.1 ht2 rfl hd rfl (nI_pos (by omega)) (nI_clamp (by omega)) hby (by omega) (by omega) hH.1 fun H1 cA e1 z1 o1 hAr hNm => ?_
  have hc1 : fwAt P.1 s H1 h.1 (nwC t n) := by
    rcases ht with rfl | rfl | rfl <;> exact ⟨cA, e1, hAr, hNm⟩
  exact k H1 locs ls _ _ (hH.push hc1 z1 o1) hL hl (show kc + 1 + (b.1 - 1) ≤ _ by omega) (show ks + n + (b.2 - n) ≤ _ by omega)
theorem J_newo {K : KT} {pc : Nat} {env : LE} {st : List Value} {h : FH} {b : Bd} {idx ci : Nat} {r : vw_C} (X : JOK K) (hd : decode (cby K.2.2.1) pc = .ok (.new idx, 3)) (hk : lkK (cow K.2.2.1) idx = some ci) (hr : vwCl[ci]? = some r) (hc : 1 ≤ b.1) (hs : r.2.2 ≤ b.2) (k : J K (pc + 3) env (.ref h.1 :: st) (hnew h (.inr (ci, dfl ci))) (b.1 - 1, b.2 - r.2.2)) : J K pc env st h b := by
  obtain ⟨⟨p, l, e, R, s, m, args, below, meth, c⟩, ⟨Q, P⟩, ⟨own, ini, cc, ret, nL⟩, Rr⟩ := K
  intro H locs ls kc ks hH hL hl h1 h2
  obtain ⟨r', hr', hl1, hl2⟩ := lkK_ok hk
  cases hr.symm.trans hr'
  obtain ⟨hnm0, hws, hty, hnm, hdecl, hlen, hdf, hini⟩ := cls_ok hr
  have hKn := X.2.2.2.2.2.1.1.1 ci _ hr
  refine W.newcK X.1 X.2.1 X.2.2.2.1 (X.2.2.2.2.1 _ hl1) (X.2.2.2.2.1 _ hl2) (X.2.2.2.2.1 _ hini) rfl hd (by omega) (by omega) hKn.2.1 hH.1 fun H1 kC hkC e1 z1 o1 => ?_
  have hc1 : fwAt P.1 s H1 h.1 (.inr (ci, dfl ci)) := ⟨r, hr, (u_born (cty ci) X.2.2.2.2.1 hws hKn hkC e1 hty).to hdf⟩
  exact k H1 locs ls _ _ (hH.push hc1 z1 o1) hL hl (show kc + 1 + (b.1 - 1) ≤ _ by omega) (show ks + r.2.2 + (b.2 - r.2.2) ≤ _ by omega)
def aoOK (ci : Nat) : Bool := ci == 3 || ci == 8 || ci == 9
theorem J_anew {K : KT} {pc : Nat} {env : LE} {st : List Value} {h : FH} {b : Bd} {n idx ci : Nat} {r : vw_C} (X : JOK K) (hd : decode (cby K.2.2.1) pc = .ok (.anewarray idx, 3)) (hk : lkK (cow K.2.2.1) idx = some ci) (hr : vwCl[ci]? = some r) (ho : aoOK ci = true) (hn : n ≤ 65000000) (hc : 1 ≤ b.1) (hs : n ≤ b.2) (k : J K (pc + 3) env (.ref h.1 :: st) (hnew h (aR (.object r.1) n (fun _ => none))) (b.1 - 1, b.2 - n)) : J K pc env (.int (nI n) :: st) h b := by
  obtain ⟨⟨p, l, e, R, s, m, args, below, meth, c⟩, ⟨Q, P⟩, ⟨own, ini, cc, ret, nL⟩, Rr⟩ := K
  intro H locs ls kc ks hH hL hl h1 h2
  obtain ⟨r', hr', hl1, hl2⟩ := lkK_ok hk
  cases hr.symm.trans hr'
  have hao : va_AO r.1 s := by
    obtain ⟨h3, h8, h9⟩ := X.2.2.2.2.2.1.2.2.1
    unfold aoOK at ho
    simp only [Bool.or_eq_true, beq_iff_eq] at ho
    rcases ho with (rfl | rfl) | rfl
    · cases hr; exact h3
    · cases hr; exact h8
    · cases hr; exact h9
  have hcl : (nI n).toNatClampNeg = n := nI_clamp (by omega)
  refine W.anew X.1 X.2.1 X.2.2.2.1 (X.2.2.2.2.1 _ hl1) (va_AO.use hao) rfl hd rfl (nI_pos (by omega)) (by rw [hcl]; omega) (by have h1 : kc + b.1 ≤ R.cells := h1; show _ ≤ R.cells; omega) (by rw [hcl]; have h2 : ks + b.2 ≤ R.slots := h2; show _ ≤ R.slots; omega) fun cA kA comp f1 f2 f3 f4 => ?_
  rw [hcl]
  generalize hH1 : H.push ({ cls := cA, slots := Array.replicate n .null, vm := .none } : Cell) = H1
  have z1 : H1.size = h.1 + 1 := by rw [← hH1, Array.size_push, hH.1]
  have e1 : H1[h.1]? = some (arrV cA n (fun _ => .null)) := by rw [← hH1, ← hH.1, Array.getElem?_push_size, ← arrV_new]
  have o1 : ∀ q : Nat, q < h.1 → H1[q]? = H[q]? := fun q hq => by rw [← hH1, Array.getElem?_push, if_neg (Nat.ne_of_lt (by rw [hH.1]; exact hq))]
  have hAr : ArrOfT s cA (.object r.1) := fun N z => ⟨(fun k h => by cases h), kA, f2, comp, f3⟩
  have hc1 : fwAt P.1 s H1 h.1 (aR (.object r.1) n (fun _ => none)) := ⟨cA, e1, hAr, kA, comp, f2, f3, f4, f1⟩
  rw [show H.size = h.1 from hH.1]
  exact k H1 locs ls _ _ (hH.push hc1 z1 o1) hL hl (show kc + 1 + (b.1 - 1) ≤ _ by omega) (show ks + n + (b.2 - n) ≤ _ by omega)
theorem J_objInit {K : KT} {pc : Nat} {env : LE} {st : List Value} {h : FH} {b : Bd} {idx a : Nat} (X : JOK K) (hd : decode (cby K.2.2.1) pc = .ok (.invokespecial idx, 3)) (hk : lkO (cow K.2.2.1) idx = true) (hfr : 1 ≤ (kG K).1) (hw : sw st ≤ 8) (k : J K (pc + 3) env st h b) : J K pc env (.ref a :: st) h b := by
  obtain ⟨⟨p, l, e, R, s, m, args, below, meth, c⟩, ⟨Q, P⟩, ⟨own, ini, cc, ret, nL⟩, Rr⟩ := K
  intro H locs ls kc ks hH hL hl h1 h2
  have hR : 40 * R.frames ≤ R.locals := X.2.2.2.2.2.2.2
  have hfr : 1 ≤ R.frames := hfr
  have hro : 2 * (F0 m pc ls (.ref a :: st)).monitorRoom + (st.map fun v => v.category).sum ≤ 8 := lv_room hw
  refine W.objInit X.1 X.2.1 X.2.2.2.1 (X.2.2.2.2.1 _ (lkO_ok hk)) (X.2.2.2.2.1 _ A_oi) (X.2.2.2.2.1 _ A_oc) rfl (by show ls.size = c.maxLocals; rw [hl.1]; exact X.2.2.1.symm) rfl hd hfr (by show 2 * 0 + _ + 12 ≤ R.locals; show 2 * 0 + sw st + 12 ≤ R.locals; omega) (k H locs ls kc ks hH hL hl h1 h2)
/-- Math.max of longs -/
theorem mm_name : ((MTB[mathMax]?).map fun e => e.1.1.1) = some Lib.MathLoose.max_long.x := by decide +kernel
theorem mm_code : ((MTB[mathMax]?).map fun e => e.1.1.2) = some (Lib.MathLoose.max_long.code, 4, some .long) := by decide +kernel
def nwM (w : Jvm.Cond) : Bool := match w with | .methodLinkNest _ _ x _ => decide (x.cls ≠ "java/lang/Math") | _ => true
theorem NWL_noMath : ∀ w ∈ NWL, nwM w = true := List.all_eq_true.mp (by decide +kernel)
theorem mm_kind : ((MTB[mathMax]?).map fun e => e.1.2.1) = some 0 := by decide +kernel
theorem J_lmax {K : KT} {pc : Nat} {env : LE} {st : List Value} {h : FH} {b : Bd} {idx : Nat} {x y : Int64} (X : JOK K) (hd : decode (cby K.2.2.1) pc = .ok (.invokestatic idx, 3)) (hk : lkM (cow K.2.2.1) idx = some mathMax) (hfr : 1 ≤ (kG K).1) (hw : sw st ≤ 8) (k : J K (pc + 3) env (.long (if y < x then x else y) :: st) h b) : J K pc env (.long y :: .long x :: st) h b := by
  obtain ⟨⟨p, l, e, R, s, m, args, below, meth, c⟩, ⟨Q, P⟩, ⟨own, ini, cc, ret, nL⟩, Rr⟩ := K
  intro H locs ls kc ks hH hL hl h1 h2
  have hR : 40 * R.frames ≤ R.locals := X.2.2.2.2.2.2.2
  have hfr : 1 ≤ R.frames := hfr
  obtain ⟨r, hr, hlk⟩ := lkM_ok hk
  have g1 := mm_name
  have g2 := mm_code
  have g3 := mm_kind
  rw [hr] at g1 g2 g3
  simp only [Option.map_some, Option.some.injEq] at g1 g2 g3
  obtain ⟨m1, m2, -, -, m5, -⟩ := mt_ok hr
  rw [g1] at m5
  rw [g2, g1] at m1
  have m2 := m2 g3
  rw [g1] at m2 hlk
  rcases hlk with hlk | ⟨host, hlk⟩
  · exact va_mmax_long X.1 X.2.1 (by rw [hl.1]; exact X.2.2.1) X.2.2.2.1 (X.2.2.2.2.1 _ hlk) (X.2.2.2.2.1 _ m2) (X.2.2.2.2.1 _ m5) (X.2.2.2.2.1 _ m1) hfr (by show sw st + 15 ≤ _; omega) (by have h1 : kc + b.1 ≤ R.cells := h1; show kc ≤ R.cells; omega) (by have h2 : ks + b.2 ≤ R.slots := h2; show ks ≤ R.slots; omega) hd (k H locs ls kc ks hH hL hl h1 h2)
  · exact absurd (NWL_noMath _ hlk) (by show ¬ decide (Lib.MathLoose.max_long.x.cls ≠ "java/lang/Math") = true; decide +kernel)

/-! arraycopy, the constant table, the script, calls; a method's contract Call out of its body -/
theorem cp_neg (z : Int32) (hz : ¬ z < 0) : z.toInt = (z.toNatClampNeg : Int) := by
  have hz0 : (0 : Int) ≤ z.toInt := by
    have := Int32.not_lt.mp hz
    simpa using Int32.le_iff_toInt_le.mp this
  show z.toInt = ((z.toInt.toNat : Nat) : Int)
  omega
theorem J_copyI {K : KT} {pc : Nat} {env : LE} {st : List Value} {h : FH} {b : Bd} {idx a0 a n0 n1 sp dp n : Nat} {f g : Nat → Int32} (X : JOK K) (hd : decode (cby K.2.2.1) pc = .ok (.invokestatic idx, 3)) (hk : lkS (cow K.2.2.1) idx = true) (hfr : 1 ≤ (kG K).1) (hw : sw st ≤ 8) (ha0 : h.2 a0 = some (aI n0 f)) (ha1 : h.2 a = some (aI n1 g)) (h4 : sp + n ≤ n0) (h5 : dp + n ≤ n1) (hb0 : n0 < 2147483648) (hb1 : n1 < 2147483648)
    (k : J K (pc + 3) env st (hset h a (aI n1 (va_cpy f g sp dp n))) b) : J K pc env (.int (nI n) :: .int (nI dp) :: .ref a :: .int (nI sp) :: .ref a0 :: st) h b := by
  obtain ⟨⟨p, l, e, R, s, m, args, below, meth, c⟩, ⟨Q, P⟩, ⟨own, ini, cc, ret, nL⟩, Rr⟩ := K
  intro H locs ls kc ks hH hL hl h1 h2
  have hR : 40 * R.frames ≤ R.locals := X.2.2.2.2.2.2.2
  have hfr : 1 ≤ R.frames := hfr
  obtain ⟨c0, hc0, hAr0, -⟩ := hH.at ha0
  obtain ⟨c1, hc1, hAr1, hRA1⟩ := hH.at ha1
  obtain ⟨-, k0, hk0, cm0, hkk0⟩ := hAr0 n0 (fun j => .int (f j))
  obtain ⟨-, k1, hk1, cm1, hkk1⟩ := hAr1 n1 (fun j => .int (g j))
  have csp : (nI sp).toNatClampNeg = sp := nI_clamp (by omega)
  have cdp : (nI dp).toNatClampNeg = dp := nI_clamp (by omega)
  have cn : (nI n).toNatClampNeg = n := nI_clamp (by omega)
  intro T hT X0
  obtain ⟨vm', X', step⟩ := X0.arraycopy X.1 X.2.2.2.1 (X.2.2.2.2.1 _ (lkS_ok hk)) (X.2.2.2.2.1 _ A_na) (X.2.2.2.2.1 _ A_st) (X.2.2.2.2.1 _ A_is) (src := a0) (dst := a) (cs := vp_cell c0 (n0, .inl f)) (cd := vp_cell c1 (n1, .inl g)) (srcPos := nI sp) (destPos := nI dp) (n := nI n) (by rw [hT]; exact hc0) (by rw [hT]; exact hc1)
    (fun _ h => by cases h) (fun _ h => by cases h) (fun h => by cases h) (fun h => by cases h) hk0 hk1 hkk0 hkk1 (by simp [refKind]) (nI_pos (by omega)) (nI_pos (by omega)) (nI_pos (by omega))
    (by rw [cp_neg _ (nI_pos (by omega)), cp_neg _ (nI_pos (by omega)), csp, cn]; show ¬ _ > ((arrV c0 n0 (fun j => .int (f j))).slots.size : Int); rw [arrV_size]; omega)
    (by rw [cp_neg _ (nI_pos (by omega)), cp_neg _ (nI_pos (by omega)), cdp, cn]; show ¬ _ > ((arrV c1 n1 (fun j => .int (g j))).slots.size : Int); rw [arrV_size]; omega)
    (fun vm₁ _ i hi => by
      rw [cn] at hi
      have e : (vp_cell c0 (n0, .inl f)).slots.getD ((nI sp).toNatClampNeg + i) .null = .int (f (sp + i)) := by
        show (arrV c0 n0 (fun j => .int (f j))).slots.getD _ _ = _
        rw [csp, Array.getD_eq_getD_getElem?, arrV_read _ _ (by omega)]
        rfl
      refine ⟨?_, ?_⟩
      · rw [e]; rfl
      · rw [e]; exact trivial)
    (g := F0 m pc ls (.int (nI n) :: .int (nI dp) :: .ref a :: .int (nI sp) :: .ref a0 :: st)) rfl (by show ls.size = c.maxLocals; rw [hl.1]; exact X.2.2.1.symm) (rest := st) rfl (by rw [X.2.1]; exact hd) hfr (by
      have : nativeFrameWords "java/lang/System" "arraycopy" 5 + 11 ≤ 32 := by decide +kernel
      show 2 * 0 + sw st + _ ≤ R.locals
      omega)
  have e1 : copied (vp_cell c0 (n0, .inl f)) (vp_cell c1 (n1, .inl g)) (nI sp) (nI dp) (nI n) = vp_cell c1 (n1, .inl (va_cpy f g (nI sp).toNatClampNeg (nI dp).toNatClampNeg (nI n).toNatClampNeg)) := va_copied (fun z => .int z) c0 c1 f g (by rw [csp, cn]; exact h4)
  rw [csp, cdp, cn] at e1
  rw [e1] at X' step
  have hlt : a < H.size := (Array.getElem?_eq_some_iff.mp hc1).1
  have hheap : ((T.setVm vm').setCell a (vp_cell c1 (n1, .inl (va_cpy f g sp dp n)))).heap = H.setIfInBounds a (vp_cell c1 (n1, .inl (va_cpy f g sp dp n))) := by rw [← hT]; rfl
  obtain ⟨t, a1, b1⟩ := k (H.setIfInBounds a (vp_cell c1 (n1, .inl (va_cpy f g sp dp n)))) _ ls kc ks (hH.set ha1 ⟨c1, by simp [Array.getElem?_setIfInBounds, hlt], hAr1, hRA1⟩ (by simp) (fun q hq => by simp [Array.getElem?_setIfInBounds, Ne.symm hq])) (fun q hq => by
      rcases List.mem_append.mp hq with z | z
      · exact hL q z
      · obtain ⟨w, -, hw⟩ := List.mem_map.mp z
        rw [← hw]
        exact hH.ge ha1) hl h1 h2 _ hheap X'
  exact ⟨t, step t a1, b1⟩
theorem J_copyL {K : KT} {pc : Nat} {env : LE} {st : List Value} {h : FH} {b : Bd} {idx a0 a n0 n1 sp dp n : Nat} {f g : Nat → Int64} (X : JOK K) (hd : decode (cby K.2.2.1) pc = .ok (.invokestatic idx, 3)) (hk : lkS (cow K.2.2.1) idx = true) (hfr : 1 ≤ (kG K).1) (hw : sw st ≤ 8) (ha0 : h.2 a0 = some (aL n0 f)) (ha1 : h.2 a = some (aL n1 g)) (h4 : sp + n ≤ n0) (h5 : dp + n ≤ n1) (hb0 : n0 < 2147483648) (hb1 : n1 < 2147483648)
    (k : J K (pc + 3) env st (hset h a (aL n1 (va_cpy f g sp dp n))) b) : J K pc env (.int (nI n) :: .int (nI dp) :: .ref a :: .int (nI sp) :: .ref a0 :: st) h b := by
  obtain ⟨⟨p, l, e, R, s, m, args, below, meth, c⟩, ⟨Q, P⟩, ⟨own, ini, cc, ret, nL⟩, Rr⟩ := K
  intro H locs ls kc ks hH hL hl h1 h2
  have hR : 40 * R.frames ≤ R.locals := X.2.2.2.2.2.2.2
  have hfr : 1 ≤ R.frames := hfr
  obtain ⟨c0, hc0, hAr0, -⟩ := hH.at ha0
  obtain ⟨c1, hc1, hAr1, hRA1⟩ := hH.at ha1
  obtain ⟨-, k0, hk0, cm0, hkk0⟩ := hAr0 n0 (fun j => .long (f j))
  obtain ⟨-, k1, hk1, cm1, hkk1⟩ := hAr1 n1 (fun j => .long (g j))
  have csp : (nI sp).toNatClampNeg = sp := nI_clamp (by omega)
  have cdp : (nI dp).toNatClampNeg = dp := nI_clamp (by omega)
  have cn : (nI n).toNatClampNeg = n := nI_clamp (by omega)
  intro T hT X0
  obtain ⟨vm', X', step⟩ := X0.arraycopy X.1 X.2.2.2.1 (X.2.2.2.2.1 _ (lkS_ok hk)) (X.2.2.2.2.1 _ A_na) (X.2.2.2.2.1 _ A_st) (X.2.2.2.2.1 _ A_is) (src := a0) (dst := a) (cs := vp_cell c0 (n0, .inr (.inl f))) (cd := vp_cell c1 (n1, .inr (.inl g))) (srcPos := nI sp) (destPos := nI dp) (n := nI n) (by rw [hT]; exact hc0) (by rw [hT]; exact hc1)
    (fun _ h => by cases h) (fun _ h => by cases h) (fun h => by cases h) (fun h => by cases h) hk0 hk1 hkk0 hkk1 (by simp [refKind]) (nI_pos (by omega)) (nI_pos (by omega)) (nI_pos (by omega))
    (by rw [cp_neg _ (nI_pos (by omega)), cp_neg _ (nI_pos (by omega)), csp, cn]; show ¬ _ > ((arrV c0 n0 (fun j => .long (f j))).slots.size : Int); rw [arrV_size]; omega)
    (by rw [cp_neg _ (nI_pos (by omega)), cp_neg _ (nI_pos (by omega)), cdp, cn]; show ¬ _ > ((arrV c1 n1 (fun j => .long (g j))).slots.size : Int); rw [arrV_size]; omega)
    (fun vm₁ _ i hi => by
      rw [cn] at hi
      have e : (vp_cell c0 (n0, .inr (.inl f))).slots.getD ((nI sp).toNatClampNeg + i) .null = .long (f (sp + i)) := by
        show (arrV c0 n0 (fun j => .long (f j))).slots.getD _ _ = _
        rw [csp, Array.getD_eq_getD_getElem?, arrV_read _ _ (by omega)]
        rfl
      refine ⟨?_, ?_⟩
      · rw [e]; rfl
      · rw [e]; exact trivial)
    (g := F0 m pc ls (.int (nI n) :: .int (nI dp) :: .ref a :: .int (nI sp) :: .ref a0 :: st)) rfl (by show ls.size = c.maxLocals; rw [hl.1]; exact X.2.2.1.symm) (rest := st) rfl (by rw [X.2.1]; exact hd) hfr (by
      have : nativeFrameWords "java/lang/System" "arraycopy" 5 + 11 ≤ 32 := by decide +kernel
      show 2 * 0 + sw st + _ ≤ R.locals
      omega)
  have e1 : copied (vp_cell c0 (n0, .inr (.inl f))) (vp_cell c1 (n1, .inr (.inl g))) (nI sp) (nI dp) (nI n) = vp_cell c1 (n1, .inr (.inl (va_cpy f g (nI sp).toNatClampNeg (nI dp).toNatClampNeg (nI n).toNatClampNeg))) := va_copied (fun z => .long z) c0 c1 f g (by rw [csp, cn]; exact h4)
  rw [csp, cdp, cn] at e1
  rw [e1] at X' step
  have hlt : a < H.size := (Array.getElem?_eq_some_iff.mp hc1).1
  have hheap : ((T.setVm vm').setCell a (vp_cell c1 (n1, .inr (.inl (va_cpy f g sp dp n))))).heap = H.setIfInBounds a (vp_cell c1 (n1, .inr (.inl (va_cpy f g sp dp n)))) := by rw [← hT]; rfl
  obtain ⟨t, a1, b1⟩ := k (H.setIfInBounds a (vp_cell c1 (n1, .inr (.inl (va_cpy f g sp dp n))))) _ ls kc ks (hH.set ha1 ⟨c1, by simp [Array.getElem?_setIfInBounds, hlt], hAr1, hRA1⟩ (by simp) (fun q hq => by simp [Array.getElem?_setIfInBounds, Ne.symm hq])) (fun q hq => by
      rcases List.mem_append.mp hq with z | z
      · exact hL q z
      · obtain ⟨w, -, hw⟩ := List.mem_map.mp z
        rw [← hw]
        exact hH.ge ha1) hl h1 h2 _ hheap X'
  exact ⟨t, step t a1, b1⟩
/-! the table WEIGHTS, by its address t -/
theorem wt_link : Cond.fieldLink (cnm 0) wtIdx.2.1 "EventStructures$Bisimulation" "WEIGHTS" "[I" ∈ ALL := ALL_of (tch_in (j := wtIdx.2.2.1) (i := wtIdx.2.2.2) (by decide +kernel)) rfl
theorem J_gets {K : KT} {pc : Nat} {env : LE} {st : List Value} {h : FH} {b : Bd} {idx : Nat} (X : JOK K) (hd : decode (cby K.2.2.1) pc = .ok (.getstatic idx, 3)) (ho : cow K.2.2.1 = 0) (hi : idx = wtIdx.2.1) (k : J K (pc + 3) env (.ref (kG K).2.2.2.2 :: st) h b) : J K pc env st h b := by
  obtain ⟨⟨p, l, e, R, s, m, args, below, meth, c⟩, ⟨Q, P⟩, ⟨own, ini, cc, ret, nL⟩, Rr⟩ := K
  intro H locs ls kc ks hH hL hl h1 h2
  have ho : own = 0 := ho
  subst ho
  subst hi
  obtain ⟨cf, kf, fi, f, a, cell, g1, g2, g3, g4, g5, g6, g7, g8⟩ := hH.2.2.2.2.1
  exact W.gets X.1 X.2.1 X.2.2.2.1 (X.2.2.2.2.1 _ wt_link) g1 g2 g3 g4 g5 (fun e => by rw [e] at g6; cases g6) g7 rfl hd (k H locs ls kc ks hH hL hl h1 h2)
theorem J_wald {K : KT} {pc : Nat} {env : LE} {st : List Value} {h : FH} {b : Bd} {j : Nat} (X : JOK K) (hd : decode (cby K.2.2.1) pc = .ok (.iaload, 1)) (hj : j < 6) (k : J K (pc + 1) env (.int (wtab j) :: st) h b) : J K pc env (.int (nI j) :: .ref (kG K).2.2.2.2 :: st) h b := by
  obtain ⟨⟨p, l, e, R, s, m, args, below, meth, c⟩, ⟨Q, P⟩, ⟨own, ini, cc, ret, nL⟩, Rr⟩ := K
  intro H locs ls kc ks hH hL hl h1 h2
  obtain ⟨cell, g1, g2, g3, g4, g5, g6, g7⟩ := hH.2.2.2.2.2
  exact W.iald (v := .int (wtab j)) X.1 X.2.1 g1 g2 g3 (fun q => by
    rcases q with q | q
    · exact nI_pos (by omega) q
    · rw [nI_clamp (by omega)] at q; omega) (by rw [nI_clamp (by omega)]; exact g6 j hj) rfl rfl hd (k H locs ls kc ks hH hL hl h1 h2)
/-! the script: its cell is kept by the world; nobody writes it -/
theorem J_sald {K : KT} {pc : Nat} {env : LE} {st : List Value} {h : FH} {b : Bd} {j : Nat} (X : JOK K) (hd : decode (cby K.2.2.1) pc = .ok (.iaload, 1)) (hj : j < (kG K).2.2.1) (hj2 : j < 2147483648) (k : J K (pc + 1) env (.int ((kG K).2.2.2.1 j) :: st) h b) : J K pc env (.int (nI j) :: .ref (kG K).2.1 :: st) h b := by
  obtain ⟨⟨p, l, e, R, s, m, args, below, meth, c⟩, ⟨Q, P⟩, ⟨own, ini, cc, ret, nL⟩, Rr⟩ := K
  intro H locs ls kc ks hH hL hl h1 h2
  obtain ⟨scr, g1, g2, g3, g4, g5⟩ := hH.2.2.2.1.2
  exact W.iald (v := .int (P.2.2.2.2.1 j)) X.1 X.2.1 g1 g2 g3 (nI_rng hj hj2 g4) (by rw [nI_clamp (by omega)]; exact g5 j hj) rfl rfl hd (k H locs ls kc ks hH hL hl h1 h2)
theorem J_slen {K : KT} {pc : Nat} {env : LE} {st : List Value} {h : FH} {b : Bd} (X : JOK K) (hd : decode (cby K.2.2.1) pc = .ok (.arraylength, 1)) (k : J K (pc + 1) env (.int (nI (kG K).2.2.1) :: st) h b) : J K pc env (.ref (kG K).2.1 :: st) h b := by
  obtain ⟨⟨p, l, e, R, s, m, args, below, meth, c⟩, ⟨Q, P⟩, ⟨own, ini, cc, ret, nL⟩, Rr⟩ := K
  intro H locs ls kc ks hH hL hl h1 h2
  obtain ⟨scr, g1, g2, g3, g4, g5⟩ := hH.2.2.2.1.2
  exact W.alen (n := nI P.2.2.2.1) X.1 X.2.1 g1 g2 (by rw [g4]; rfl) rfl rfl hd (k H locs ls kc ks hH hL hl h1 h2)
theorem J_switch {K : KT} {pc : Nat} {env : LE} {st : List Value} {h : FH} {b : Bd} {dflt lo hi : Int} {offs : Array Int} {len : Nat} {x : Int32} {tgt : Nat} (X : JOK K) (hd : decode (cby K.2.2.1) pc = .ok (.tableswitch dflt lo hi offs, len)) (ht : (pc : Int) + (if x.toInt < lo ∨ hi < x.toInt then dflt else offs.getD (x.toInt - lo).toNat 0) = (tgt : Int)) (hlen : lo ≤ hi ∧ (hi - lo + 1).toNat = offs.size) (k : J K tgt env st h b) : J K pc env (.int x :: st) h b := by
  obtain ⟨⟨p, l, e, R, s, m, args, below, meth, c⟩, ⟨Q, P⟩, ⟨own, ini, cc, ret, nL⟩, Rr⟩ := K
  intro H locs ls kc ks hH hL hl h1 h2
  by_cases hx : x.toInt < lo ∨ hi < x.toInt
  · rw [if_pos hx] at ht
    exact lv_tableOut X.1 X.2.1 hd hx ht (k H locs ls kc ks hH hL hl h1 h2)
  · rw [if_neg hx] at ht
    have hs : (x.toInt - lo).toNat < offs.size := by omega
    exact lv_tableIn X.1 X.2.1 hd (fun q => hx (Or.inl q)) (fun q => hx (Or.inr q)) (off := offs.getD (x.toInt - lo).toNat 0) (by simp [Array.getD, hs]) ht (k H locs ls kc ks hH hL hl h1 h2)
/-! CALLS -/
def wsM (r : ME × MP) : List Cond := Cond.code r.1.1.1 r.1.1.2.1 r.1.1.2.2.1 r.1.1.2.2.2 :: ALL
theorem wsM_in {k : Nat} {r : ME × MP} (h : MTB[k]? = some r) : ∀ w ∈ wsM r, w ∈ ALL := fun w hw => by
  rcases List.mem_cons.mp hw with rfl | hw
  · exact (mt_ok h).1
  · exact hw
def rmD (d mc ms : Nat) : Room := { frames := d, cells := mc, slots := ms, locals := 40 * d }
/-- method k, called with these arguments over the flat heap h, with d frames left and mc cells of ms slots to spend: comes back, and what it answers and leaves is in Rr -/
def Call (k d : Nat) (av : List Value) (h : FH) (mc ms : Nat) (Rr : Option Value → FH → Prop) : Prop :=
  ∀ (r : ME × MP), MTB[k]? = some r → ∀ (l : Launch) (P : FPr), Met l r.1.1.1 (wsM r) (rmD d mc ms) (va_Pc av (fun U => fwH P U h U.heap ∧ fwV P U))
    (fun _ _ o t => ∃ (v : Option Value) (h' : FH), o = .returned v ∧ Rr v h' ∧ fwH P t h' t.heap) mc ms (fun q => P.2.1 ≤ q)
theorem Pc_blind {P : FPr} {h : FH} {av : List Value} : FrameBlind (va_Pc av (fun U => fwH P U h U.heap ∧ fwV P U)) := fun a U g mk q => by
  obtain ⟨q0, q1, q2⟩ := q
  exact ⟨q0, q1.calling, q2.calling⟩
theorem J_run {K : KT} {pc : Nat} {env : LE} {st0 st : List Value} {h : FH} {b : Bd} {mc ms : Nat} {Rr : Option Value → FH → Prop} (hb1 : mc ≤ b.1) (hb2 : ms ≤ b.2)
    (hr : ∀ (H : Heap) (locs : List Loc) (ls : Array Slot) (kc ks : Nat), fwH K.2.1.2 K.1.2.2.2.2.1 h H → lv_has ls K.2.2.1.2.2.2.2 (asl 0 env) → kc + mc ≤ K.1.2.2.2.1.cells → ks + ms ≤ K.1.2.2.2.1.slots →
      va_Run K.1.1 K.1.2.1 K.1.2.2.1 K.1.2.2.2.1 K.1.2.2.2.2.1 K.1.2.2.2.2.2.1 K.1.2.2.2.2.2.2.1 K.1.2.2.2.2.2.2.2.1 K.1.2.2.2.2.2.2.2.2.1 K.1.2.2.2.2.2.2.2.2.2 H locs kc ks mc ms (F0 K.1.2.2.2.2.2.1 pc ls st0) st
        (fun _ o t => ∃ (v : Option Value) (h' : FH), o = .returned v ∧ Rr v h' ∧ fwH K.2.1.2 t h' t.heap) (fun q => K.2.1.2.2.1 ≤ q))
    (kk : ∀ (v : Option Value) (h' : FH), Rr v h' → J K (pc + 3) env (v.toList ++ st) h' (b.1 - mc, b.2 - ms)) : J K pc env st0 h b := by
  obtain ⟨⟨p, l, e, R, s, m, args, below, meth, c⟩, ⟨Q, P⟩, ⟨own, ini, cc, ret, nL⟩, Rr0⟩ := K
  intro H locs ls kc ks hH hL hl h1 h2
  have h1 : kc + b.1 ≤ R.cells := h1
  have h2 : ks + b.2 ≤ R.slots := h2
  have hrun := hr H locs ls kc ks hH hl (show kc + mc ≤ R.cells by omega) (show ks + ms ≤ R.slots by omega)
  intro T hT X0
  obtain ⟨v, st₀, t, T', L, h0, X', hL2, e1, e2, ⟨v2, h', hv, hp, hw⟩, stp⟩ := hrun T hT X0
  cases hv
  have hvm : s.vm.Alike t.vm := by rw [← e2]; exact X'.warmed.alike
  have hw2 : fwH P s h' T'.heap := by
    rw [e1]
    exact hw.moved hvm.symm
  obtain ⟨t2, a1, b1⟩ := kk v h' hp T'.heap (locs ++ L) ls (kc + mc) (ks + ms) hw2 (fun q hq => by
    rcases List.mem_append.mp hq with z | z
    · exact hL q z
    · exact hL2 q z) hl (show kc + mc + (b.1 - mc) ≤ R.cells by omega) (show ks + ms + (b.2 - ms) ≤ R.slots by omega) T' rfl X'
  exact ⟨t2, stp t2 a1, b1⟩
theorem rm_ok {R : Room} {d mc ms maxL : Nat} (hd : d < R.frames) (hR : 40 * R.frames ≤ R.locals) (hm : maxL ≤ 21) : (rmD d mc ms).frames + 1 ≤ R.frames ∧ 8 + (maxL + 11) + (rmD d mc ms).locals ≤ R.locals := by
  refine ⟨hd, ?_⟩
  show 8 + (maxL + 11) + 40 * d ≤ R.locals
  omega
theorem MTB_ml : MTB.all (fun r => decide (r.1.1.2.2.1 ≤ 21)) = true := by decide +kernel
theorem mt_ml {k : Nat} {r : ME × MP} (h : MTB[k]? = some r) : r.1.1.2.2.1 ≤ 21 := of_decide_eq_true (List.all_eq_true.mp MTB_ml r (List.mem_of_getElem? h))
theorem Pc_pre {P : FPr} {s : State} {h : FH} {H : Heap} {av : List Value} (hH : fwH P s h H) (hV : fwV P s) : ∀ U : State, U.heap = H → s.WarmedH U.vm → va_Pc av (fun U => fwH P U h U.heap ∧ fwV P U) av.toArray U := fun U hU hW => ⟨rfl, by rw [hU]; exact hH.moved hW.alike, hV.warm hW⟩
theorem J_callV {K : KT} {pc : Nat} {env : LE} {st : List Value} {h : FH} {b : Bd} {idx k d mc ms a ci : Nat} {As fs : List Value} {r : ME × MP} {Rr : Option Value → FH → Prop} (X : JOK K) (hd : decode (cby K.2.2.1) pc = .ok (.invokevirtual idx, 3)) (hk : lkM (cow K.2.2.1) idx = some k) (hr : MTB[k]? = some r) (hkind : r.1.2.1 = 1) (hn : As.length = r.1.2.2)
    (hnest : ∀ host, Cond.methodLinkNest (cnm (cow K.2.2.1)) idx r.1.1.1 host ∉ NWL) (hdd : d < (kG K).1) (hw : sw st ≤ 8) (ha : h.2 a = some (.inr (ci, fs))) (hcl : cnm ci = r.1.1.1.cls) (hC : Call k d (.ref a :: As) h mc ms Rr) (hb1 : mc ≤ b.1) (hb2 : ms ≤ b.2)
    (kk : ∀ (v : Option Value) (h' : FH), Rr v h' → J K (pc + 3) env (v.toList ++ st) h' (b.1 - mc, b.2 - ms)) : J K pc env (As.reverse ++ .ref a :: st) h b := by
  refine J_run hb1 hb2 (fun H locs ls kc ks hH hl h1 h2 => ?_) kk
  obtain ⟨⟨p, l, e, R, s, m, args, below, meth, c⟩, ⟨Q, P⟩, ⟨own, ini, cc, ret, nL⟩, Rr0⟩ := K
  obtain ⟨m1, m2, m3, m4, m5, m6, m7, m8, m9⟩ := mt_ok hr
  obtain ⟨r', hr', hlk⟩ := lkM_ok hk
  cases hr.symm.trans hr'
  have hlk : Cond.methodLink (cnm own) idx r.1.1.1 ∈ ALL := by
    rcases hlk with z | ⟨host, z⟩
    · exact z
    · exact absurd z (hnest host)
  obtain ⟨r2, g1, cell, g2, g3, g4, -⟩ := hH.at ha
  have hcl2 : s.vm.findClass r.1.1.1.cls = some cell.cls := by
    rw [g3, ← hcl]
    have := (X.2.2.2.2.2.1.1.1 ci r2 g1).2.1
    rw [(cls_ok g1).1] at this
    exact this
  refine va_runV (As := As) (rest := st) ⟨X.1, X.2.1, X.2.2.1, X.2.2.2.1, X.2.2.2.2.1⟩ (hC r hr l P) (cwV _ X.2.2.2.2.1 (GA (fun w hw => ?_)) rfl rfl rfl ⟨rfl, m7, m8, m9⟩ (rm_ok hdd X.2.2.2.2.2.2.2 (mt_ml hr))) ⟨Pc_blind, ⟨cell, g2, by rw [g4]; rfl, hcl2⟩, Pc_pre hH X.2.2.2.2.2.1⟩ rfl hn hl.1 rfl (lv_room hw) hd ⟨h1, h2⟩
  unfold wsV at hw
  rcases List.mem_append.mp hw with z | z
  · simp only [List.mem_cons, List.not_mem_nil, or_false] at z
    rcases z with rfl | rfl | rfl | rfl
    · exact hlk
    · exact m3 (by omega)
    · exact m4 hkind
    · exact m5
  · exact wsM_in hr w z
theorem J_callS {K : KT} {pc : Nat} {env : LE} {st : List Value} {h : FH} {b : Bd} {idx k d mc ms : Nat} {As : List Value} {r : ME × MP} {Rr : Option Value → FH → Prop} (X : JOK K) (hd : decode (cby K.2.2.1) pc = .ok (.invokestatic idx, 3)) (hk : lkM (cow K.2.2.1) idx = some k) (hr : MTB[k]? = some r) (hkind : r.1.2.1 = 0) (hn : As.length = r.1.2.2)
    (hdd : d < (kG K).1) (hw : sw st ≤ 8) (hC : Call k d As h mc ms Rr) (hb1 : mc ≤ b.1) (hb2 : ms ≤ b.2)
    (kk : ∀ (v : Option Value) (h' : FH), Rr v h' → J K (pc + 3) env (v.toList ++ st) h' (b.1 - mc, b.2 - ms)) : J K pc env (As.reverse ++ st) h b := by
  refine J_run hb1 hb2 (fun H locs ls kc ks hH hl h1 h2 => ?_) kk
  obtain ⟨⟨p, l, e, R, s, m, args, below, meth, c⟩, ⟨Q, P⟩, ⟨own, ini, cc, ret, nL⟩, Rr0⟩ := K
  obtain ⟨m1, m2, m3, m4, m5, m6, m7, m8, m9⟩ := mt_ok hr
  obtain ⟨r', hr', hlk⟩ := lkM_ok hk
  cases hr.symm.trans hr'
  rcases hlk with hlk | ⟨host, hlk⟩
  · exact va_runS (As := As) (rest := st) ⟨X.1, X.2.1, X.2.2.1, X.2.2.2.1, X.2.2.2.2.1⟩ (hC r hr l P) ⟨callB_of _ X.2.2.2.2.1 (GA (wsM_in hr)) rfl rfl rfl (X.2.2.2.2.1 _ m5) (X.2.2.2.2.1 _ hlk) ⟨m7, m8, m9⟩ (rm_ok hdd X.2.2.2.2.2.2.2 (mt_ml hr)), X.2.2.2.2.1 _ (m2 hkind)⟩ ⟨Pc_blind, Pc_pre hH X.2.2.2.2.2.1⟩ rfl hn hl.1 rfl (lv_room hw) hd ⟨h1, h2⟩
  · exact va_runSN (As := As) (rest := st) ⟨X.1, X.2.1, X.2.2.1, X.2.2.2.1, X.2.2.2.2.1⟩ (hC r hr l P) ⟨va_cnB _ X.2.2.2.2.1 (GA (wsM_in hr)) rfl rfl rfl (X.2.2.2.2.2.1.2.1 _ hlk) (X.2.2.2.2.1 _ m5) ⟨m7, m8, m9⟩ (rm_ok hdd X.2.2.2.2.2.2.2 (mt_ml hr)), X.2.2.2.2.1 _ (m2 hkind), trivial⟩ ⟨Pc_blind, Pc_pre hH X.2.2.2.2.2.1⟩ rfl hn hl.1 rfl (lv_room hw) hd ⟨h1, h2⟩
theorem J_callI {K : KT} {pc : Nat} {env : LE} {st : List Value} {h : FH} {b : Bd} {idx k d mc ms a : Nat} {As : List Value} {r : ME × MP} {Rr : Option Value → FH → Prop} (X : JOK K) (hd : decode (cby K.2.2.1) pc = .ok (.invokespecial idx, 3)) (hk : lkM (cow K.2.2.1) idx = some k) (hr : MTB[k]? = some r) (hkind : r.1.2.1 = 2) (hn : As.length = r.1.2.2)
    (hdd : d < (kG K).1) (hw : sw st ≤ 8) (hC : Call k d (.ref a :: As) h mc ms Rr) (hb1 : mc ≤ b.1) (hb2 : ms ≤ b.2)
    (kk : ∀ (v : Option Value) (h' : FH), Rr v h' → J K (pc + 3) env (v.toList ++ st) h' (b.1 - mc, b.2 - ms)) : J K pc env (As.reverse ++ .ref a :: st) h b := by
  refine J_run hb1 hb2 (fun H locs ls kc ks hH hl h1 h2 => ?_) kk
  obtain ⟨⟨p, l, e, R, s, m, args, below, meth, c⟩, ⟨Q, P⟩, ⟨own, ini, cc, ret, nL⟩, Rr0⟩ := K
  obtain ⟨m1, m2, m3, m4, m5, m6, m7, m8, m9⟩ := mt_ok hr
  obtain ⟨m6, m6'⟩ := m6 hkind
  obtain ⟨r', hr', hlk⟩ := lkM_ok hk
  cases hr.symm.trans hr'
  have hC := hC r hr l P
  obtain ⟨⟨⟨y, by0, mL, rt⟩, kd, na⟩, mp⟩ := r
  have m6' : rt = none := m6'
  subst m6'
  rcases hlk with hlk | ⟨host, hlk⟩
  · exact va_runI (As := As) (rest := st) ⟨X.1, X.2.1, X.2.2.1, X.2.2.2.1, X.2.2.2.2.1⟩ hC (cwI _ X.2.2.2.2.1 (GA (wsM_in hr)) rfl rfl rfl (X.2.2.2.2.1 _ m5) (X.2.2.2.2.1 _ hlk) (X.2.2.2.2.1 _ (m3 (by omega))) m6 ⟨m7, m8, m9⟩ (rm_ok hdd X.2.2.2.2.2.2.2 (mt_ml hr))) ⟨Pc_blind, Pc_pre hH X.2.2.2.2.2.1⟩ rfl hn hl.1 rfl (lv_room hw) hd ⟨h1, h2⟩
  · exact va_runIN (As := As) (rest := st) ⟨X.1, X.2.1, X.2.2.1, X.2.2.2.1, X.2.2.2.2.1⟩ hC ⟨va_cnB _ X.2.2.2.2.1 (GA (wsM_in hr)) rfl rfl rfl (X.2.2.2.2.2.1.2.1 _ hlk) (X.2.2.2.2.1 _ m5) ⟨m7, m8, m9⟩ (rm_ok hdd X.2.2.2.2.2.2.2 (mt_ml hr)), m6, X.2.2.2.2.1 _ (m3 (by omega))⟩ ⟨Pc_blind, Pc_pre hH X.2.2.2.2.2.1⟩ rfl hn hl.1 rfl (lv_room hw) hd ⟨h1, h2⟩

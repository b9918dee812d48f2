/-! BOTH SIDES: refinement, net, text, saving -/
theorem BudM.spend {c : Nat → Nat} {r D E : Nat} {b : Bd} (x : BudM c (r + 1) b) (h1 : D ≤ 246) (h2 : E ≤ 1927) : D ≤ b.1 ∧ E ≤ b.2 ∧ BudM c r (b.1 - D, b.2 - E) := by
  obtain ⟨x1, x2⟩ := x
  refine ⟨by omega, by omega, ?_, ?_⟩
  · show _ ≤ b.1 - D
    omega
  · show _ ≤ b.2 - E
    omega
theorem A_refine {g : GE} {x k r : Nat} {z y1 y2 y3 : Int32} {q : Bool} (hg : 2048 ≤ g.1) (hk : k < 512) : Agree 103 214 [.int z, .int y1, .int y2, .int y3, .int (b2i q)] g x k r := fun h b Q hL hq => by
  obtain ⟨σ, R, cap, hC, hM, hW, hB⟩ := hL
  have hWW : ∀ i, i < 2 → WfS (σ.1 i) := fun i hi => (hW.1 i hi).1
  refine I_refine (by omega) hC hk hW (fun h1 c1 f1 => ⟨_, rfl, ?_⟩)
  have hM1 := hM.cl f1
  obtain ⟨I, m1, m2, m3⟩ := id hM1
  refine ⟨hM1.k, ?_⟩
  obtain ⟨d1, d2, d3⟩ := hB.spend (D := 7) (E := 55) (by omega) (by omega)
  have htop := m3.top
  refine R_refine (by omega) m1 hWW htop d1 d2 (fun h2 q1 q2 q3 => ⟨_, rfl, ?_⟩)
  exact hq _ _ _ ⟨_, R, cap, c1.ag (fun q a b => q3 q (by omega) (by omega)), ⟨I, q1, m2, m3.ag q2.1 (fun q a b => q3 q b (by omega))⟩, ⟨wf_refine hW.1, hW.2⟩, d3⟩
theorem A_clearNet {g : GE} {x k r : Nat} (hg : 2048 ≤ g.1) (hk : k < 512) : Agree 108 215 [] g x k r := fun h b Q hL hq => by
  obtain ⟨σ, R, cap, hC, hM, hW, hB⟩ := hL
  have hWW : ∀ i, i < 2 → WfS (σ.1 i) := fun i hi => (hW.1 i hi).1
  refine I_clearNet (by omega) hC hk hW (fun h1 c1 f1 => ⟨_, rfl, ?_⟩)
  have hM1 := hM.cl f1
  obtain ⟨I, m1, m2, m3⟩ := id hM1
  refine ⟨hM1.k, ?_⟩
  refine R_clearNet (by omega) hM1 hW (fun h2 q => ⟨_, rfl, ?_⟩)
  obtain ⟨q1, q2, q3⟩ := q
  exact hq _ _ _ ⟨σ, _, cap, c1.ag (fun q a b => q3 q (by omega)), q1, ⟨hW.1, hW.2.1, wf_ntE, hW.2.2.2⟩, hB.less⟩
theorem A_addPlace {g : GE} {x k r : Nat} {q : Bool} (hg : 2048 ≤ g.1) (hk : k < 512) : Agree 110 216 [.int (b2i q)] g x k r := fun h b Q hL hq => by
  obtain ⟨σ, R, cap, hC, hM, hW, hB⟩ := hL
  have hWW : ∀ i, i < 2 → WfS (σ.1 i) := fun i hi => (hW.1 i hi).1
  refine I_addPlace (by omega) hC hk hW (fun h1 c1 f1 => ⟨_, rfl, ?_⟩)
  have hM1 := hM.cl f1
  obtain ⟨I, m1, m2, m3⟩ := id hM1
  refine ⟨hM1.k, ?_⟩
  refine R_addPlace (by omega) hM1 hW (fun h2 q => ⟨_, rfl, ?_⟩)
  obtain ⟨q1, q2, q3⟩ := q
  exact hq _ _ _ ⟨σ, _, cap, c1.ag (fun q a b => q3 q (by omega)), q1, ⟨hW.1, hW.2.1, (wf_place hW.2.2.1), hW.2.2.2⟩, hB.less⟩
theorem A_addTransition {g : GE} {x k r : Nat} {y1 y2 y3 : Int32} (hg : 2048 ≤ g.1) (hk : k < 512) : Agree 112 217 [.int y1, .int y2, .int y3] g x k r := fun h b Q hL hq => by
  obtain ⟨σ, R, cap, hC, hM, hW, hB⟩ := hL
  have hWW : ∀ i, i < 2 → WfS (σ.1 i) := fun i hi => (hW.1 i hi).1
  refine I_addTransition (by omega) hC hk hW (fun h1 c1 f1 => ⟨_, rfl, ?_⟩)
  have hM1 := hM.cl f1
  obtain ⟨I, m1, m2, m3⟩ := id hM1
  refine ⟨hM1.k, ?_⟩
  refine R_addTransition (by omega) hM1 hW (fun h2 q => ⟨_, rfl, ?_⟩)
  obtain ⟨q1, q2, q3⟩ := q
  exact hq _ _ _ ⟨σ, _, cap, c1.ag (fun q a b => q3 q (by omega)), q1, ⟨hW.1, hW.2.1, (wf_trans hW.2.2.1), hW.2.2.2⟩, hB.less⟩
theorem bld_wfU {N : Ntt} (hN : WfN N) : ∀ f u, WfU u → ∀ v, bldU N f u = some v → WfU v
  | 0, u, _, v, h => by cases h
  | f + 1, u, hu, v, h => by
    have h : (match nxU u N with | none => some u | some r => if (uS u).1 = 8 then none else bldU N f (crU u N r.1 r.2)) = some v := h
    cases hn : nxU u N with
    | none =>
      rw [hn] at h
      cases h
      exact hu
    | some r =>
      rw [hn] at h
      have h : (if (uS u).1 = 8 then none else bldU N f (crU u N r.1 r.2)) = some v := h
      by_cases c : (uS u).1 = 8
      · rw [if_pos c] at h; cases h
      · rw [if_neg c] at h
        have h8 := hu.1.1
        exact bld_wfU hN f _ (crU_wf hu hN (nxU_in hn).1 (nxU_in hn).2 (by omega)) v h
theorem bld_wf {N : Ntt} (hN : WfN N) : ∀ v, bldU N 9 (uI N) = some v → WfU v := fun v h => bld_wfU hN 9 _ uI_wf v h
theorem A_unfold {g : GE} {x k r : Nat} {z : Int32} (hg : 2048 ≤ g.1) (hk : k < 512) : Agree 115 218 [.int z] g x k r := fun h b Q hL hq => by
  obtain ⟨σ, R, cap, hC, hM, hW, hB⟩ := hL
  have hWW : ∀ i, i < 2 → WfS (σ.1 i) := fun i hi => (hW.1 i hi).1
  refine I_unfold (by omega) hC hk hW (fun h1 c1 f1 => ⟨_, rfl, ?_⟩)
  have hM1 := hM.cl f1
  obtain ⟨I, m1, m2, m3⟩ := id hM1
  refine ⟨hM1.k, ?_⟩
  have htop := m3.top
  obtain ⟨z1, ⟨RN, FM, MN, MT, CL, NX, ME, z2⟩, ⟨pp, Lf, z3⟩, ⟨fr, z4⟩, ⟨df, z5⟩, z6, z7, ⟨u, z8⟩, z9⟩ := m3
  obtain ⟨i2, i16, ⟨i22, i23, i24⟩, i31, i38⟩ := m2
  refine R_unfold (by omega) m1 z6 hW.2.2.1 i16 z8 (fun h2 I' q1 q2 q3 q4 q5 => ⟨_, rfl, ?_⟩)
  obtain ⟨u', q4⟩ := q4
  have gq : ∀ q, x + 121 + 14 ≤ q → (q < x + 121 + 51 ∨ x + 121 + 62 ≤ q) → h2.2 q = h1.2 q := fun q a c => q5.2 q (by omega)
  have lo : ∀ q, q < x + 121 → h2.2 q = h1.2 q := fun q a => q5.2 q (by omega)
  have wfu : WfW (oUnf (rnt R) σ z).2.1 := by
    unfold oUnf
    rcases sIx_c z with ⟨i, hi, rfl, hs⟩ | ⟨hs, n0, n1⟩
    · simp only [hs]
      have := bld_wf hW.2.2.1
      cases hb : bldU (rnt R) 9 (uI (rnt R)) with
      | none => exact hW.1
      | some v => exact WfW.set hW.1 (this v hb).1 cfg_z
    · simp only [hs]; exact hW.1
  have e31 : I' 31 = nI (rcd (rUn R (oUnf (rnt R) σ z).2.2)) := by
    rw [q3]
    cases (oUnf (rnt R) σ z).2.2 with
    | none => exact i31
    | some c => rfl
  exact hq _ _ _ ⟨_, _, cap, c1.ag (fun q a b => lo q (by omega)), ⟨I', q1, ⟨(q2 _ (by omega) (by omega) (by omega)).trans i2, ⟨(q2 _ (by omega) (by omega) (by omega)).trans i16.1, (q2 _ (by omega) (by omega) (by omega)).trans i16.2.1, (q2 _ (by omega) (by omega) (by omega)).trans i16.2.2⟩, ⟨(q2 _ (by omega) (by omega) (by omega)).trans i22, (q2 _ (by omega) (by omega) (by omega)).trans i23, (q2 _ (by omega) (by omega) (by omega)).trans i24⟩, e31, (q2 _ (by omega) (by omega) (by omega)).trans i38⟩, z1.ag (fun q a b => gq q (by omega) (by omega)), ⟨RN, FM, MN, MT, CL, NX, ME, z2.ag (fun q a b => gq q (by omega) (by omega))⟩, ⟨pp, Lf, z3.eqv (by rw [q5.1]; exact Nat.le_refl _) (fun q a b => gq q (by omega) (by omega))⟩, ⟨fr, (gq _ (by omega) (by omega)).trans z4⟩, ⟨df, (gq _ (by omega) (by omega)).trans z5⟩, z6.ag (fun q a b => gq q (by omega) (by omega)), z7.ag (fun q a b => gq q (by omega) (by omega)), ⟨u', q4⟩, z9.ag (gq _ (by omega) (by omega))⟩, ⟨wfu, hW.2⟩, hB.less⟩
theorem A_conditionCount {g : GE} {x k r : Nat} (hg : 2048 ≤ g.1) (hk : k < 512) : Agree 124 224 [] g x k r := fun h b Q hL hq => by
  obtain ⟨σ, R, cap, hC, hM, hW, hB⟩ := hL
  have hWW : ∀ i, i < 2 → WfS (σ.1 i) := fun i hi => (hW.1 i hi).1
  refine S_conditionCount (by omega) hC.2.1 ⟨_, rfl, ?_⟩
  obtain ⟨I, m1, m2, m3⟩ := id hM
  refine ⟨hM.k, ?_⟩
  refine R_conditionCount (by omega) m1 (fun h2 q => ?_)
  subst q
  rw [m2.2.2.2.1]
  exact ⟨_, rfl, hq _ _ _ ⟨σ, R, cap, hC.mono (by omega), hM, hW, hB.less⟩⟩
theorem RstM.txt {m n : Nat} {T : Nat → Nat} {R : Rst} {cap : Nat → Nat} {h h' : FH} (x : RstM m R cap h) (ht : h.1 ≤ h'.1) (f : ∀ q, m + 14 ≤ q → q ≠ m + 62 → q < h.1 → h'.2 q = h.2 q) (z : TxtM m T n h') : RstM m (rTx R T n) cap h' := by
  have hp := x.top
  obtain ⟨h1, ⟨RN, FM, MN, MT, CL, NX, ME, h2⟩, ⟨pp, Lf, h3⟩, ⟨fr, h4⟩, ⟨df, h5⟩, h6, h7, ⟨u, h8⟩, -⟩ := x
  exact ⟨h1.ag (fun q a b => f q (by omega) (by omega) (by omega)), ⟨RN, FM, MN, MT, CL, NX, ME, h2.ag (fun q a b => f q (by omega) (by omega) (by omega))⟩, ⟨pp, Lf, h3.eqv ht (fun q a b => f q (by omega) (by omega) a)⟩, ⟨fr, (f _ (by omega) (by omega) (by omega)).trans h4⟩, ⟨df, (f _ (by omega) (by omega) (by omega)).trans h5⟩, h6.ag (fun q a b => f q (by omega) (by omega) (by omega)), h7.ag (fun q a b => f q (by omega) (by omega) (by omega)), ⟨u, h8.ag (fun q a b => f q (by omega) (by omega) (by omega))⟩, z⟩
theorem wf_apT {y : Int32} {T : Nat → Nat} {n : Nat} (hn : n ≤ 40) (h : ∀ i, i < n → T i < 127) : apN y n ≤ 40 ∧ ∀ i, i < apN y n → apT y T n i < 127 := by
  have hle : apN y n ≤ n + 1 ∧ (apN y n = n + 1 → apO y = true ∧ n ≠ 40) := by
    unfold apN
    split
    · rename_i c
      split
      · exact ⟨by omega, fun q => by omega⟩
      · rename_i d
        exact ⟨Nat.le_refl _, fun _ => ⟨c, d⟩⟩
    · exact ⟨by omega, fun q => by omega⟩
  unfold apT
  by_cases q : apN y n = n + 1
  · obtain ⟨c1, c2⟩ := hle.2 q
    refine ⟨by omega, fun i hi => ?_⟩
    rw [if_pos q]
    by_cases e : i = n
    · obtain ⟨c, rfl, z1, z2⟩ := apO_t c1
      rw [show updN T n (uns (nI c)) i = uns (nI c) from if_pos e, uns_s (by omega)]
      omega
    · rw [updN_in e]; exact h i (by omega)
  · refine ⟨by omega, fun i hi => ?_⟩
    rw [if_neg q]
    exact h i (by omega)
theorem A_append {g : GE} {x k r : Nat} {y : Int32} (hg : 2048 ≤ g.1) (hk : k < 512) : Agree 125 225 [.int y] g x k r := fun h b Q hL hq => by
  obtain ⟨σ, R, cap, hC, hM, hW, hB⟩ := hL
  have hWW : ∀ i, i < 2 → WfS (σ.1 i) := fun i hi => (hW.1 i hi).1
  refine I_append (by omega) hC hk hW (fun h1 c1 f1 => ⟨_, rfl, ?_⟩)
  have hM1 := hM.cl f1
  obtain ⟨I, m1, m2, m3⟩ := id hM1
  refine ⟨hM1.k, ?_⟩
  have htop := m3.top
  obtain ⟨TX, t1, t2⟩ := m3.2.2.2.2.2.2.2.2
  obtain ⟨i2, i16, i22, i31, i38⟩ := m2
  refine R_append (by omega) m1 t1 i38 hW.2.2.2.2.1 (fun h2 I' TX' q1 q2 q3 q4 q5 q6 q7 q8 => ⟨_, rfl, ?_⟩)
  have e : ∀ j, j ≠ 38 → I' j = I j := q4
  exact hq _ _ _ ⟨σ, _, cap, c1.ag (fun q a b => q8 q (by omega) (by omega)), ⟨I', q1, ⟨(e _ (by omega)).trans i2, ⟨(e _ (by omega)).trans i16.1, (e _ (by omega)).trans i16.2.1, (e _ (by omega)).trans i16.2.2⟩, ⟨(e _ (by omega)).trans i22.1, (e _ (by omega)).trans i22.2.1, (e _ (by omega)).trans i22.2.2⟩, (e _ (by omega)).trans i31, q3⟩, m3.txt (by rw [q7]; exact Nat.le_refl _) (fun q a b c => q8 q (by omega) b) ⟨TX', q2, ap_rep t2 q5 q6⟩⟩, ⟨hW.1, hW.2.1, hW.2.2.1, hW.2.2.2.1, wf_apT hW.2.2.2.2.1 hW.2.2.2.2.2⟩, hB.less⟩
theorem A_parse {g : GE} {x k r : Nat} {z : Int32} (hg : 2048 ≤ g.1) (hk : k < 512) : Agree 127 226 [.int z] g x k r := fun h b Q hL hq => by
  obtain ⟨σ, R, cap, hC, hM, hW, hB⟩ := hL
  have hWW : ∀ i, i < 2 → WfS (σ.1 i) := fun i hi => (hW.1 i hi).1
  refine I_parse (by omega) hC hk hW (fun h1 c1 f1 => ⟨_, rfl, ?_⟩)
  have hM1 := hM.cl f1
  obtain ⟨I, m1, m2, m3⟩ := id hM1
  refine ⟨hM1.k, ?_⟩
  have htop := m3.top
  obtain ⟨d1, d2, d3⟩ := hB.spend (D := 246) (E := 1927) (by omega) (by omega)
  obtain ⟨TX, t1, t2⟩ := m3.2.2.2.2.2.2.2.2
  obtain ⟨i2, i16, i22, i31, i38⟩ := m2
  refine R_parse (by omega) m1 ⟨TX, t1, t2⟩ i38 hW.2.2.2.2.1 hW.2.2.2.2.2 htop d1 d2 (fun h2 I' q1 q2 q3 q4 q5 => ⟨_, rfl, ?_⟩)
  have e : ∀ j, j ≠ 38 → j ≠ 39 → j ≠ 40 → j ≠ 41 → I' j = I j := q3
  have wfp : WfW (oParse σ z (rtx R) (rln R)).2 := by
    rcases sIx_c z with ⟨i, hi, rfl, hs⟩ | ⟨hs, n0, n1⟩
    · rcases parse_eq (T := rtx R) (n := rln R) (σ := σ) hi with ⟨e', -, -, c2⟩ | ⟨-, ⟨-, c2⟩ | ⟨s', -, c1, -, c2⟩⟩
      · rw [c2]; exact hW.1
      · rw [c2]; exact hW.1
      · rw [c2]; exact WfW.set hW.1 c1 cfg_z
    · have : oParse σ z (rtx R) (rln R) = (Int32.ofInt (-1), σ) := by simp only [oParse, hs]
      rw [this]; exact hW.1
  exact hq _ _ _ ⟨_, _, cap, c1.ag (fun q a b => q5 q (by omega) (by omega)), ⟨I', q1, ⟨(e _ (by omega) (by omega) (by omega) (by omega)).trans i2, ⟨(e _ (by omega) (by omega) (by omega) (by omega)).trans i16.1, (e _ (by omega) (by omega) (by omega) (by omega)).trans i16.2.1, (e _ (by omega) (by omega) (by omega) (by omega)).trans i16.2.2⟩, ⟨(e _ (by omega) (by omega) (by omega) (by omega)).trans i22.1, (e _ (by omega) (by omega) (by omega) (by omega)).trans i22.2.1, (e _ (by omega) (by omega) (by omega) (by omega)).trans i22.2.2⟩, (e _ (by omega) (by omega) (by omega) (by omega)).trans i31, q2⟩, m3.txt q4.1 (fun q a b c => q5 q c (by omega)) ⟨TX, (q5 _ (by omega) (by omega)).trans t1, fun i hi => absurd hi (Nat.not_lt_zero i)⟩⟩, ⟨wfp, hW.2.1, hW.2.2.1, hW.2.2.2.1, Nat.zero_le _, fun i hi => absurd hi (Nat.not_lt_zero i)⟩, d3⟩
theorem A_save {g : GE} {x k r : Nat} (hg : 2048 ≤ g.1) (hk : k < 512) : Agree 140 233 [] g x k r := fun h b Q hL hq => by
  obtain ⟨σ, R, cap, hC, hM, hW, hB⟩ := hL
  have hWW : ∀ i, i < 2 → WfS (σ.1 i) := fun i hi => (hW.1 i hi).1
  refine I_save (by omega) hC hk hW (fun h1 c1 f1 => ⟨_, rfl, ?_⟩)
  have hM1 := hM.cl f1
  obtain ⟨I, m1, m2, m3⟩ := id hM1
  refine ⟨hM1.k, ?_⟩
  refine R_save (by omega) hM1 hW (fun h2 q => ⟨_, rfl, ?_⟩)
  obtain ⟨q1, q2, q3⟩ := q
  exact hq _ _ _ ⟨σ, _, cap, c1.ag (fun q a b => q3 q (by omega)), q1, ⟨hW.1, hW.1, hW.2.2.1, hW.2.2.1, hW.2.2.2.2⟩, hB.less⟩
theorem A_restore {g : GE} {x k r : Nat} (hg : 2048 ≤ g.1) (hk : k < 512) : Agree 143 236 [] g x k r := fun h b Q hL hq => by
  obtain ⟨σ, R, cap, hC, hM, hW, hB⟩ := hL
  have hWW : ∀ i, i < 2 → WfS (σ.1 i) := fun i hi => (hW.1 i hi).1
  refine I_restore (by omega) hC hk hW (fun h1 c1 f1 => ⟨_, rfl, ?_⟩)
  have hM1 := hM.cl f1
  obtain ⟨I, m1, m2, m3⟩ := id hM1
  refine ⟨hM1.k, ?_⟩
  refine R_restore (by omega) hM1 hW (fun h2 q => ⟨_, rfl, ?_⟩)
  obtain ⟨q1, q2, q3⟩ := q
  refine hq _ _ _ ⟨_, _, cap, c1.ag (fun q a b => q3 q (by omega)), q1, ?_, hB.less⟩
  cases hrh : rhs R
  · rw [if_F, if_F]; exact hW
  · rw [if_pos rfl, if_pos rfl]
    exact ⟨WfW.set (WfW.set hW.1 (hW.2.1 0 (by omega)).1 (hW.2.1 0 (by omega)).2) (hW.2.1 1 (by omega)).1 (hW.2.1 1 (by omega)).2, hW.2.1, hW.2.2.2.1, hW.2.2.2.1, hW.2.2.2.2⟩

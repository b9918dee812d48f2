/-! BOTH SIDES: runs, bisimilarity, words -/
theorem A_runCount {g : GE} {x k r : Nat} {z y : Int32} (hg : 2048 ≤ g.1) (hk : k < 512) : Agree 57 188 [.int z, .int y] g x k r := fun h b Q hL hq => by
  obtain ⟨σ, R, cap, hC, hM, hW, hB⟩ := hL
  have hWW : ∀ i, i < 2 → WfS (σ.1 i) := fun i hi => (hW.1 i hi).1
  refine I_runCount (by omega) hC hk hW (fun h1 c1 f1 => ⟨_, rfl, ?_⟩)
  have hM1 := hM.cl f1
  obtain ⟨I, m1, m2, m3⟩ := id hM1
  refine ⟨hM1.k, ?_⟩
  obtain ⟨RN, FM, MN, MT, CL, NX, ME, s1⟩ := m3.2.1
  have htop := m3.top
  refine R_runCount (by omega) m1 s1.1 hWW (fun h2 q => ⟨_, rfl, ?_⟩)
  obtain ⟨q1, ⟨RN', q2⟩, q3, q4⟩ := q
  obtain ⟨z1, -, ⟨pp, Lf, z3⟩, ⟨fr, z4⟩, ⟨df, z5⟩, z6, z7, ⟨u, z8⟩, z9⟩ := m3
  obtain ⟨t27, t28, t29, t30, t31, t32, t33⟩ := s1
  have gq : ∀ q, x + 121 + 14 ≤ q → q ≠ x + 121 + 27 → h2.2 q = h1.2 q := fun q a c => q4 q (by omega) c
  refine hq _ _ _ ⟨σ, R, cap, c1.ag (fun q a b => q4 q (by omega) (by omega)), ⟨I, q1, m2, z1.ag (fun q a b => gq q (by omega) (by omega)), ⟨RN', FM, MN, MT, CL, NX, ME, q2, (gq _ (by omega) (by omega)).trans t28, (gq _ (by omega) (by omega)).trans t29, (gq _ (by omega) (by omega)).trans t30, (gq _ (by omega) (by omega)).trans t31, (gq _ (by omega) (by omega)).trans t32, (gq _ (by omega) (by omega)).trans t33⟩, ⟨pp, Lf, z3.eqv (by rw [q3]; exact Nat.le_refl _) (fun q a b => gq q (by omega) (by omega))⟩, ⟨fr, (gq _ (by omega) (by omega)).trans z4⟩, ⟨df, (gq _ (by omega) (by omega)).trans z5⟩, z6.ag (fun q a b => gq q (by omega) (by omega)), z7.ag (fun q a b => gq q (by omega) (by omega)), ⟨u, z8.ag (fun q a b => gq q (by omega) (by omega))⟩, z9.ag (gq _ (by omega) (by omega))⟩, hW, hB.less⟩
theorem A_stepRunCount {g : GE} {x k r : Nat} {z y : Int32} (hg : 2048 ≤ g.1) (hk : k < 512) : Agree 61 190 [.int z, .int y] g x k r := fun h b Q hL hq => by
  obtain ⟨σ, R, cap, hC, hM, hW, hB⟩ := hL
  have hWW : ∀ i, i < 2 → WfS (σ.1 i) := fun i hi => (hW.1 i hi).1
  refine I_stepRunCount (by omega) hC hk hW (fun h1 c1 f1 => ⟨_, rfl, ?_⟩)
  have hM1 := hM.cl f1
  obtain ⟨I, m1, m2, m3⟩ := id hM1
  refine ⟨hM1.k, ?_⟩
  obtain ⟨RN, FM, MN, MT, CL, NX, ME, s1⟩ := m3.2.1
  have htop := m3.top
  refine R_stepRunCount (by omega) m1 s1.1 hWW (fun h2 q => ⟨_, rfl, ?_⟩)
  obtain ⟨q1, ⟨RN', q2⟩, q3, q4⟩ := q
  obtain ⟨z1, -, ⟨pp, Lf, z3⟩, ⟨fr, z4⟩, ⟨df, z5⟩, z6, z7, ⟨u, z8⟩, z9⟩ := m3
  obtain ⟨t27, t28, t29, t30, t31, t32, t33⟩ := s1
  have gq : ∀ q, x + 121 + 14 ≤ q → q ≠ x + 121 + 27 → h2.2 q = h1.2 q := fun q a c => q4 q (by omega) c
  refine hq _ _ _ ⟨σ, R, cap, c1.ag (fun q a b => q4 q (by omega) (by omega)), ⟨I, q1, m2, z1.ag (fun q a b => gq q (by omega) (by omega)), ⟨RN', FM, MN, MT, CL, NX, ME, q2, (gq _ (by omega) (by omega)).trans t28, (gq _ (by omega) (by omega)).trans t29, (gq _ (by omega) (by omega)).trans t30, (gq _ (by omega) (by omega)).trans t31, (gq _ (by omega) (by omega)).trans t32, (gq _ (by omega) (by omega)).trans t33⟩, ⟨pp, Lf, z3.eqv (by rw [q3]; exact Nat.le_refl _) (fun q a b => gq q (by omega) (by omega))⟩, ⟨fr, (gq _ (by omega) (by omega)).trans z4⟩, ⟨df, (gq _ (by omega) (by omega)).trans z5⟩, z6.ag (fun q a b => gq q (by omega) (by omega)), z7.ag (fun q a b => gq q (by omega) (by omega)), ⟨u, z8.ag (fun q a b => gq q (by omega) (by omega))⟩, z9.ag (gq _ (by omega) (by omega))⟩, hW, hB.less⟩
theorem A_areBisimilar {g : GE} {x k r : Nat} {z : Int32} (hg : 2048 ≤ g.1) (hk : k < 512) : Agree 73 198 [.int z] g x k r := fun h b Q hL hq => by
  obtain ⟨σ, R, cap, hC, hM, hW, hB⟩ := hL
  have hWW : ∀ i, i < 2 → WfS (σ.1 i) := fun i hi => (hW.1 i hi).1
  refine I_areBisimilar (by omega) hC hk hW (fun h1 c1 f1 => ⟨_, rfl, ?_⟩)
  have hM1 := hM.cl f1
  obtain ⟨I, m1, m2, m3⟩ := id hM1
  refine ⟨hM1.k, ?_⟩
  obtain ⟨RN, FM, MN, MT, CL, NX, ME, s1⟩ := m3.2.1
  have htop := m3.top
  refine R_areBisimilar (by omega) m1 s1 hWW (fun h2 q => ⟨_, rfl, ?_⟩)
  obtain ⟨⟨I', q1, qI⟩, ⟨RN', FM', MN', MT', CL', NX', ME', q2⟩, q3, q4⟩ := q
  obtain ⟨z1, -, ⟨pp, Lf, z3⟩, ⟨fr, z4⟩, ⟨df, z5⟩, z6, z7, ⟨u, z8⟩, z9⟩ := m3
  obtain ⟨i2, ⟨i16, i17, i18⟩, ⟨i22, i23, i24⟩, i31, i38⟩ := m2
  have gq : ∀ q, x + 121 + 14 ≤ q → (q < x + 121 + 27 ∨ x + 121 + 34 ≤ q) → h2.2 q = h1.2 q := fun q a c => q4 q (by omega) c
  have e : ∀ j, j ≠ 10 → j ≠ 11 → j ≠ 12 → I' j = I j := qI
  refine hq _ _ _ ⟨σ, R, cap, c1.ag (fun q a b => q4 q (by omega) (by omega)), ⟨I', q1, ⟨(e _ (by omega) (by omega) (by omega)).trans i2, ⟨(e _ (by omega) (by omega) (by omega)).trans i16, (e _ (by omega) (by omega) (by omega)).trans i17, (e _ (by omega) (by omega) (by omega)).trans i18⟩, ⟨(e _ (by omega) (by omega) (by omega)).trans i22, (e _ (by omega) (by omega) (by omega)).trans i23, (e _ (by omega) (by omega) (by omega)).trans i24⟩, (e _ (by omega) (by omega) (by omega)).trans i31, (e _ (by omega) (by omega) (by omega)).trans i38⟩, z1.ag (fun q a b => gq q (by omega) (by omega)), ⟨RN', FM', MN', MT', CL', NX', ME', q2⟩, ⟨pp, Lf, z3.eqv (by rw [q3]; exact Nat.le_refl _) (fun q a b => gq q (by omega) (by omega))⟩, ⟨fr, (gq _ (by omega) (by omega)).trans z4⟩, ⟨df, (gq _ (by omega) (by omega)).trans z5⟩, z6.ag (fun q a b => gq q (by omega) (by omega)), z7.ag (fun q a b => gq q (by omega) (by omega)), ⟨u, z8.ag (fun q a b => gq q (by omega) (by omega))⟩, z9.ag (gq _ (by omega) (by omega))⟩, hW, hB.less⟩
theorem A_separationRound {g : GE} {x k r : Nat} {z : Int32} (hg : 2048 ≤ g.1) (hk : k < 512) : Agree 86 203 [.int z] g x k r := fun h b Q hL hq => by
  obtain ⟨σ, R, cap, hC, hM, hW, hB⟩ := hL
  have hWW : ∀ i, i < 2 → WfS (σ.1 i) := fun i hi => (hW.1 i hi).1
  refine I_separationRound (by omega) hC hk hW (fun h1 c1 f1 => ⟨_, rfl, ?_⟩)
  have hM1 := hM.cl f1
  obtain ⟨I, m1, m2, m3⟩ := id hM1
  refine ⟨hM1.k, ?_⟩
  obtain ⟨RN, FM, MN, MT, CL, NX, ME, s1⟩ := m3.2.1
  have htop := m3.top
  refine R_separationRound (by omega) m1 s1 hWW (fun h2 q => ⟨_, rfl, ?_⟩)
  obtain ⟨⟨I', q1, qI⟩, ⟨RN', FM', MN', MT', CL', NX', ME', q2⟩, q3, q4⟩ := q
  obtain ⟨z1, -, ⟨pp, Lf, z3⟩, ⟨fr, z4⟩, ⟨df, z5⟩, z6, z7, ⟨u, z8⟩, z9⟩ := m3
  obtain ⟨i2, ⟨i16, i17, i18⟩, ⟨i22, i23, i24⟩, i31, i38⟩ := m2
  have gq : ∀ q, x + 121 + 14 ≤ q → (q < x + 121 + 27 ∨ x + 121 + 34 ≤ q) → h2.2 q = h1.2 q := fun q a c => q4 q (by omega) c
  have e : ∀ j, j ≠ 10 → j ≠ 11 → j ≠ 12 → I' j = I j := qI
  refine hq _ _ _ ⟨σ, R, cap, c1.ag (fun q a b => q4 q (by omega) (by omega)), ⟨I', q1, ⟨(e _ (by omega) (by omega) (by omega)).trans i2, ⟨(e _ (by omega) (by omega) (by omega)).trans i16, (e _ (by omega) (by omega) (by omega)).trans i17, (e _ (by omega) (by omega) (by omega)).trans i18⟩, ⟨(e _ (by omega) (by omega) (by omega)).trans i22, (e _ (by omega) (by omega) (by omega)).trans i23, (e _ (by omega) (by omega) (by omega)).trans i24⟩, (e _ (by omega) (by omega) (by omega)).trans i31, (e _ (by omega) (by omega) (by omega)).trans i38⟩, z1.ag (fun q a b => gq q (by omega) (by omega)), ⟨RN', FM', MN', MT', CL', NX', ME', q2⟩, ⟨pp, Lf, z3.eqv (by rw [q3]; exact Nat.le_refl _) (fun q a b => gq q (by omega) (by omega))⟩, ⟨fr, (gq _ (by omega) (by omega)).trans z4⟩, ⟨df, (gq _ (by omega) (by omega)).trans z5⟩, z6.ag (fun q a b => gq q (by omega) (by omega)), z7.ag (fun q a b => gq q (by omega) (by omega)), ⟨u, z8.ag (fun q a b => gq q (by omega) (by omega))⟩, z9.ag (gq _ (by omega) (by omega))⟩, hW, hB.less⟩
theorem A_equivalenceClasses {g : GE} {x k r : Nat} {z : Int32} (hg : 2048 ≤ g.1) (hk : k < 512) : Agree 87 204 [.int z] g x k r := fun h b Q hL hq => by
  obtain ⟨σ, R, cap, hC, hM, hW, hB⟩ := hL
  have hWW : ∀ i, i < 2 → WfS (σ.1 i) := fun i hi => (hW.1 i hi).1
  refine I_equivalenceClasses (by omega) hC hk hW (fun h1 c1 f1 => ⟨_, rfl, ?_⟩)
  have hM1 := hM.cl f1
  obtain ⟨I, m1, m2, m3⟩ := id hM1
  refine ⟨hM1.k, ?_⟩
  obtain ⟨RN, FM, MN, MT, CL, NX, ME, s1⟩ := m3.2.1
  have htop := m3.top
  refine R_equivalenceClasses (by omega) m1 s1 hWW (fun h2 q => ⟨_, rfl, ?_⟩)
  obtain ⟨⟨I', q1, qI⟩, ⟨RN', FM', MN', MT', CL', NX', ME', q2⟩, q3, q4⟩ := q
  obtain ⟨z1, -, ⟨pp, Lf, z3⟩, ⟨fr, z4⟩, ⟨df, z5⟩, z6, z7, ⟨u, z8⟩, z9⟩ := m3
  obtain ⟨i2, ⟨i16, i17, i18⟩, ⟨i22, i23, i24⟩, i31, i38⟩ := m2
  have gq : ∀ q, x + 121 + 14 ≤ q → (q < x + 121 + 27 ∨ x + 121 + 34 ≤ q) → h2.2 q = h1.2 q := fun q a c => q4 q (by omega) c
  have e : ∀ j, j ≠ 10 → j ≠ 11 → j ≠ 12 → I' j = I j := qI
  refine hq _ _ _ ⟨σ, R, cap, c1.ag (fun q a b => q4 q (by omega) (by omega)), ⟨I', q1, ⟨(e _ (by omega) (by omega) (by omega)).trans i2, ⟨(e _ (by omega) (by omega) (by omega)).trans i16, (e _ (by omega) (by omega) (by omega)).trans i17, (e _ (by omega) (by omega) (by omega)).trans i18⟩, ⟨(e _ (by omega) (by omega) (by omega)).trans i22, (e _ (by omega) (by omega) (by omega)).trans i23, (e _ (by omega) (by omega) (by omega)).trans i24⟩, (e _ (by omega) (by omega) (by omega)).trans i31, (e _ (by omega) (by omega) (by omega)).trans i38⟩, z1.ag (fun q a b => gq q (by omega) (by omega)), ⟨RN', FM', MN', MT', CL', NX', ME', q2⟩, ⟨pp, Lf, z3.eqv (by rw [q3]; exact Nat.le_refl _) (fun q a b => gq q (by omega) (by omega))⟩, ⟨fr, (gq _ (by omega) (by omega)).trans z4⟩, ⟨df, (gq _ (by omega) (by omega)).trans z5⟩, z6.ag (fun q a b => gq q (by omega) (by omega)), z7.ag (fun q a b => gq q (by omega) (by omega)), ⟨u, z8.ag (fun q a b => gq q (by omega) (by omega))⟩, z9.ag (gq _ (by omega) (by omega))⟩, hW, hB.less⟩
theorem A_wordDifferenceLength {g : GE} {x k r : Nat} (hg : 2048 ≤ g.1) (hk : k < 512) : Agree 89 205 [] g x k r := fun h b Q hL hq => by
  obtain ⟨σ, R, cap, hC, hM, hW, hB⟩ := hL
  have hWW : ∀ i, i < 2 → WfS (σ.1 i) := fun i hi => (hW.1 i hi).1
  refine I_wordDifferenceLength (by omega) hC hk hW (fun h1 c1 f1 => ⟨_, rfl, ?_⟩)
  have hM1 := hM.cl f1
  obtain ⟨I, m1, m2, m3⟩ := id hM1
  refine ⟨hM1.k, ?_⟩
  obtain ⟨d1, d2, d3⟩ := capD_ok hM1 hWW hB.less
  refine R_wdLength (by omega) hM1 hWW d1 d2 (fun h2 q1 q2 => ⟨_, rfl, ?_⟩)
  exact hq _ _ _ ⟨σ, R, _, c1.ag (fun q a b => q2 q (by omega)), q1, hW, d3⟩
theorem A_wordDifferenceLabel {g : GE} {x k r : Nat} {y : Int32} (hg : 2048 ≤ g.1) (hk : k < 512) : Agree 98 212 [.int y] g x k r := fun h b Q hL hq => by
  obtain ⟨σ, R, cap, hC, hM, hW, hB⟩ := hL
  have hWW : ∀ i, i < 2 → WfS (σ.1 i) := fun i hi => (hW.1 i hi).1
  refine I_wordDifferenceLabel (by omega) hC hk hW (fun h1 c1 f1 => ⟨_, rfl, ?_⟩)
  have hM1 := hM.cl f1
  obtain ⟨I, m1, m2, m3⟩ := id hM1
  refine ⟨hM1.k, ?_⟩
  obtain ⟨d1, d2, d3⟩ := capD_ok hM1 hWW hB.less
  refine R_wdLabel (by omega) hM1 hWW d1 d2 (fun h2 q1 q2 => ⟨_, rfl, ?_⟩)
  exact hq _ _ _ ⟨σ, R, _, c1.ag (fun q a b => q2 q (by omega)), q1, hW, d3⟩
theorem A_wordCount {g : GE} {x k r : Nat} {z : Int32} (hg : 2048 ≤ g.1) (hk : k < 512) : Agree 100 213 [.int z] g x k r := fun h b Q hL hq => by
  obtain ⟨σ, R, cap, hC, hM, hW, hB⟩ := hL
  have hWW : ∀ i, i < 2 → WfS (σ.1 i) := fun i hi => (hW.1 i hi).1
  refine I_wordCount (by omega) hC hk hW (fun h1 c1 f1 => ⟨_, rfl, ?_⟩)
  have hM1 := hM.cl f1
  obtain ⟨I, m1, m2, m3⟩ := id hM1
  refine ⟨hM1.k, ?_⟩
  rcases sIx_c z with ⟨i, hi, rfl, hs⟩ | ⟨hs, n0, n1⟩
  · obtain ⟨d1, d2, d3⟩ := capC_ok hM1 hWW hi hB.less
    refine R_wdCount (by omega) hi hM1 hWW d1 d2 (fun h2 q1 q2 => ?_)
    have e : qWc σ.1 (nI i) = nI (cW σ.1 8 (F1 i)) := by simp only [qWc, hs]
    rw [← e]
    exact ⟨_, rfl, hq _ _ _ ⟨σ, R, _, c1.ag (fun q a b => q2 q (by omega)), q1, hW, d3⟩⟩
  · refine R_wdCountN (by omega) n0 n1 ?_
    have e : qWc σ.1 z = Int32.ofInt (-1) := by simp only [qWc, hs]
    rw [← e]
    exact ⟨_, rfl, hq _ _ _ ⟨σ, R, cap, c1, hM1, hW, hB.less⟩⟩

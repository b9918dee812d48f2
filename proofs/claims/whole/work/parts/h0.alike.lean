/-! BOTH SIDES: a call on each, alike -/
def LawI (x k r : Nat) (h : FH) (b : Bd) : Prop := ∃ (σ : Sw) (R : Rst) (cap : Nat → Nat), InvC x k σ R h ∧ InvM (x + 121) σ R cap h ∧ WfP σ R ∧ BudM cap r b
def Agree (kx km : Nat) (as : List Value) (g : GE) (x k r : Nat) : Prop := ∀ (h : FH) (b : Bd) (Q : Int32 → Int32 → FH → Bd → Prop), LawI x k (r + 1) h b → (∀ z h' b', LawI x (k + 1) r h' b' → Q z z h' b') → CallQ kx g (.ref x :: as) (fun v h1 b1 => ∃ z, v = some (.int z) ∧ isK km (h1.2 (x + 121)) ∧ CallQ km g (.ref (x + 121) :: as) (fun v' h2 b2 => ∃ z', v' = some (.int z') ∧ Q z z' h2 b2) h1 b1) h b
theorem InvM.cl {x : Nat} {σ : Sw} {R : Rst} {cap : Nat → Nat} {h h1 : FH} (y : InvM (x + 121) σ R cap h) (f : FrO x 121 h h1) : InvM (x + 121) σ R cap h1 := y.ag (by rw [f.1]; exact Nat.le_refl _) (fun q a _ => f.2 q (by omega))
theorem InvM.k {m : Nat} {σ : Sw} {R : Rst} {cap : Nat → Nat} {h : FH} (y : InvM m σ R cap h) : ∃ fs, h.2 m = some (.inr (10, fs)) := by
  obtain ⟨I, ⟨h0, -⟩, -⟩ := y
  exact ⟨_, h0⟩
theorem RstM.fr14 {m : Nat} {R : Rst} {cap : Nat → Nat} {h h' : FH} (x : RstM m R cap h) (f : FrO m 14 h h') : RstM m R cap h' := x.ag (by rw [f.1]; exact Nat.le_refl _) (fun q a _ => f.2 q (by omega))
theorem InvC.stri {x k : Nat} {σ : Sw} {R : Rst} {h : FH} (y : InvC x k σ R h) : ∃ v : Nat → Nat, ∀ i, i < 2 → StrI (x + 2 + 13 * i) (σ.1 i) (σ.2 i) (v i) h := by
  obtain ⟨⟨v, -, h2, -⟩, -⟩ := y
  refine ⟨v, fun i hi => ?_⟩
  obtain ⟨L, D, C, K, O, P, X, F, G, W, T, ver, a1, a2, -⟩ := h2 i hi
  have e2 : pX x i + 1 = x + 2 + 13 * i := by unfold pX; omega
  rw [e2] at a1
  exact ⟨L, D, C, K, O, a1, a2⟩
theorem qSet_cong {F F' : Str → Nat → Int32} {S : Nat → Str} {z x : Int32} (hh : ∀ i u, i < 2 → cfgB (S i) u = true → F (S i) u = F' (S i) u) : qSet F S z x = qSet F' S z x := by
  unfold qSet
  rcases sIx_c z with ⟨i, hi, rfl, hs⟩ | ⟨hs, n0, n1⟩
  · simp only [hs]
    by_cases c : cfgB (S i) (uns x) = true
    · rw [if_pos c, if_pos c, hh i _ hi c]
    · rw [if_neg c, if_neg c]
  · simp only [hs]
theorem qNum_cong {F F' : Str → Nat} {S : Nat → Str} {z : Int32} (hh : ∀ i, i < 2 → F (S i) = F' (S i)) : qNum F S z = qNum F' S z := by
  unfold qNum
  rcases sIx_c z with ⟨i, hi, rfl, hs⟩ | ⟨hs, n0, n1⟩
  · simp only [hs]
    rw [hh i hi]
  · simp only [hs]
theorem qCls {S : Nat → Str} {z x y : Int32} (hW : ∀ i, i < 2 → WfS (S i)) : qTwo icfB S z x y = qTwo (fun s e f => (clsM s (hst s e)).testBit f) S z x y := by
  unfold qTwo
  rcases sIx_c z with ⟨i, hi, rfl, hs⟩ | ⟨hs, n0, n1⟩
  · simp only [hs]
    have hn := (hW i hi).1
    rcases eIx_c (n := (S i).1) (by omega) x with ⟨e, he, rfl, hs2⟩ | ⟨hs2, hx⟩
    · simp only [hs2]
      rcases eIx_c (n := (S i).1) (by omega) y with ⟨f, hf, rfl, hs3⟩ | ⟨hs3, hx⟩
      · simp only [hs3]
        rw [cls_icf hf]
      · simp only [hs3]
    · simp only [hs2]
  · simp only [hs]
theorem A_addEvent {g : GE} {x k r : Nat} {z y u : Int32} (hg : 2048 ≤ g.1) (hk : k < 512) : Agree 8 147 [.int z, .int y, .int u] g x k r := fun h b Q hL hq => by
  obtain ⟨σ, R, cap, hC, hM, hW, hB⟩ := hL
  have hWW : ∀ i, i < 2 → WfS (σ.1 i) := fun i hi => (hW.1 i hi).1
  refine I_addEvent (by omega) hC hk hW (fun h1 c1 f1 => ⟨_, rfl, ?_⟩)
  have hM1 := hM.cl f1
  obtain ⟨I, m1, m2, m3⟩ := id hM1
  refine ⟨hM1.k, ?_⟩
  refine R_oAddEvent (by omega) m1 hWW (fun h2 q1 f2 => ⟨_, rfl, ?_⟩)
  exact hq _ _ _ ⟨_, R, cap, c1.ag (fun q a b => f2.2 q (by omega)), ⟨I, q1, m2, m3.fr14 f2⟩, ⟨wf_addEvent hW.1, hW.2⟩, hB.less⟩
theorem A_removeEvent {g : GE} {x k r : Nat} {z y : Int32} (hg : 2048 ≤ g.1) (hk : k < 512) : Agree 13 152 [.int z, .int y] g x k r := fun h b Q hL hq => by
  obtain ⟨σ, R, cap, hC, hM, hW, hB⟩ := hL
  have hWW : ∀ i, i < 2 → WfS (σ.1 i) := fun i hi => (hW.1 i hi).1
  refine I_removeEvent (by omega) hC hk hW (fun h1 c1 f1 => ⟨_, rfl, ?_⟩)
  have hM1 := hM.cl f1
  obtain ⟨I, m1, m2, m3⟩ := id hM1
  refine ⟨hM1.k, ?_⟩
  refine R_oRemove (by omega) m1 hWW (fun h2 q1 f2 => ⟨_, rfl, ?_⟩)
  exact hq _ _ _ ⟨_, R, cap, c1.ag (fun q a b => f2.2 q (by omega)), ⟨I, q1, m2, m3.fr14 f2⟩, ⟨wf_remove hW.1, hW.2⟩, hB.less⟩
theorem A_addCause {g : GE} {x k r : Nat} {z y u : Int32} (hg : 2048 ≤ g.1) (hk : k < 512) : Agree 17 155 [.int z, .int y, .int u] g x k r := fun h b Q hL hq => by
  obtain ⟨σ, R, cap, hC, hM, hW, hB⟩ := hL
  have hWW : ∀ i, i < 2 → WfS (σ.1 i) := fun i hi => (hW.1 i hi).1
  refine I_addCause (by omega) hC hk hW (fun h1 c1 f1 => ⟨_, rfl, ?_⟩)
  have hM1 := hM.cl f1
  obtain ⟨I, m1, m2, m3⟩ := id hM1
  refine ⟨hM1.k, ?_⟩
  refine R_oAddCause (by omega) m1 hWW (fun h2 q1 f2 => ⟨_, rfl, ?_⟩)
  exact hq _ _ _ ⟨_, R, cap, c1.ag (fun q a b => f2.2 q (by omega)), ⟨I, q1, m2, m3.fr14 f2⟩, ⟨wf_addCause hW.1, hW.2⟩, hB.less⟩
theorem A_addConflict {g : GE} {x k r : Nat} {z y u : Int32} (hg : 2048 ≤ g.1) (hk : k < 512) : Agree 21 158 [.int z, .int y, .int u] g x k r := fun h b Q hL hq => by
  obtain ⟨σ, R, cap, hC, hM, hW, hB⟩ := hL
  have hWW : ∀ i, i < 2 → WfS (σ.1 i) := fun i hi => (hW.1 i hi).1
  refine I_addConflict (by omega) hC hk hW (fun h1 c1 f1 => ⟨_, rfl, ?_⟩)
  have hM1 := hM.cl f1
  obtain ⟨I, m1, m2, m3⟩ := id hM1
  refine ⟨hM1.k, ?_⟩
  refine R_oAddConflict (by omega) m1 hWW (fun h2 q1 f2 => ⟨_, rfl, ?_⟩)
  exact hq _ _ _ ⟨_, R, cap, c1.ag (fun q a b => f2.2 q (by omega)), ⟨I, q1, m2, m3.fr14 f2⟩, ⟨wf_addConflict hW.1, hW.2⟩, hB.less⟩
theorem A_setLabel {g : GE} {x k r : Nat} {z y u : Int32} (hg : 2048 ≤ g.1) (hk : k < 512) : Agree 22 160 [.int z, .int y, .int u] g x k r := fun h b Q hL hq => by
  obtain ⟨σ, R, cap, hC, hM, hW, hB⟩ := hL
  have hWW : ∀ i, i < 2 → WfS (σ.1 i) := fun i hi => (hW.1 i hi).1
  refine I_setLabel (by omega) hC hk hW (fun h1 c1 f1 => ⟨_, rfl, ?_⟩)
  have hM1 := hM.cl f1
  obtain ⟨I, m1, m2, m3⟩ := id hM1
  refine ⟨hM1.k, ?_⟩
  refine R_oSetLabel (by omega) m1 hWW (fun h2 q1 f2 => ⟨_, rfl, ?_⟩)
  exact hq _ _ _ ⟨_, R, cap, c1.ag (fun q a b => f2.2 q (by omega)), ⟨I, q1, m2, m3.fr14 f2⟩, ⟨wf_setLabel hW.1, hW.2⟩, hB.less⟩
theorem A_clear {g : GE} {x k r : Nat} {z : Int32} (hg : 2048 ≤ g.1) (hk : k < 512) : Agree 24 161 [.int z] g x k r := fun h b Q hL hq => by
  obtain ⟨σ, R, cap, hC, hM, hW, hB⟩ := hL
  have hWW : ∀ i, i < 2 → WfS (σ.1 i) := fun i hi => (hW.1 i hi).1
  refine I_clear (by omega) hC hk hW (fun h1 c1 f1 => ⟨_, rfl, ?_⟩)
  have hM1 := hM.cl f1
  obtain ⟨I, m1, m2, m3⟩ := id hM1
  refine ⟨hM1.k, ?_⟩
  refine R_oClear (by omega) m1 (fun h2 q1 f2 => ⟨_, rfl, ?_⟩)
  exact hq _ _ _ ⟨_, R, cap, c1.ag (fun q a b => f2.2 q (by omega)), ⟨I, q1, m2, m3.fr14 f2⟩, ⟨wf_clear hW.1, hW.2⟩, hB.less⟩
theorem A_copy {g : GE} {x k r : Nat} {z y : Int32} (hg : 2048 ≤ g.1) (hk : k < 512) : Agree 26 162 [.int z, .int y] g x k r := fun h b Q hL hq => by
  obtain ⟨σ, R, cap, hC, hM, hW, hB⟩ := hL
  have hWW : ∀ i, i < 2 → WfS (σ.1 i) := fun i hi => (hW.1 i hi).1
  refine I_copy (by omega) hC hk hW (fun h1 c1 f1 => ⟨_, rfl, ?_⟩)
  have hM1 := hM.cl f1
  obtain ⟨I, m1, m2, m3⟩ := id hM1
  refine ⟨hM1.k, ?_⟩
  refine R_oCopy (by omega) m1 hWW (fun h2 q1 f2 => ⟨_, rfl, ?_⟩)
  exact hq _ _ _ ⟨_, R, cap, c1.ag (fun q a b => f2.2 q (by omega)), ⟨I, q1, m2, m3.fr14 f2⟩, ⟨wf_copy hW.1, hW.2⟩, hB.less⟩
theorem A_occur {g : GE} {x k r : Nat} {z y : Int32} (hg : 2048 ≤ g.1) (hk : k < 512) : Agree 70 195 [.int z, .int y] g x k r := fun h b Q hL hq => by
  obtain ⟨σ, R, cap, hC, hM, hW, hB⟩ := hL
  have hWW : ∀ i, i < 2 → WfS (σ.1 i) := fun i hi => (hW.1 i hi).1
  refine I_occur (by omega) hC hk hW (fun h1 c1 f1 => ⟨_, rfl, ?_⟩)
  have hM1 := hM.cl f1
  obtain ⟨I, m1, m2, m3⟩ := id hM1
  refine ⟨hM1.k, ?_⟩
  refine R_oOccur (by omega) m1 hWW (fun i hi => (hW.1 i hi).2) (fun h2 q1 f2 => ⟨_, rfl, ?_⟩)
  exact hq _ _ _ ⟨_, R, cap, c1.ag (fun q a b => f2.2 q (by omega)), ⟨I, q1, m2, m3.fr14 f2⟩, ⟨wf_occur hW.1, hW.2⟩, hB.less⟩
theorem A_withdraw {g : GE} {x k r : Nat} {z y : Int32} (hg : 2048 ≤ g.1) (hk : k < 512) : Agree 71 196 [.int z, .int y] g x k r := fun h b Q hL hq => by
  obtain ⟨σ, R, cap, hC, hM, hW, hB⟩ := hL
  have hWW : ∀ i, i < 2 → WfS (σ.1 i) := fun i hi => (hW.1 i hi).1
  refine I_withdraw (by omega) hC hk hW (fun h1 c1 f1 => ⟨_, rfl, ?_⟩)
  have hM1 := hM.cl f1
  obtain ⟨I, m1, m2, m3⟩ := id hM1
  refine ⟨hM1.k, ?_⟩
  refine R_oWithdraw (by omega) m1 hWW (fun i hi => (hW.1 i hi).2) (fun h2 q1 f2 => ⟨_, rfl, ?_⟩)
  exact hq _ _ _ ⟨_, R, cap, c1.ag (fun q a b => f2.2 q (by omega)), ⟨I, q1, m2, m3.fr14 f2⟩, ⟨wf_withdraw hW.1, hW.2⟩, hB.less⟩
theorem A_label {g : GE} {x k r : Nat} {z y : Int32} (hg : 2048 ≤ g.1) (hk : k < 512) : Agree 29 165 [.int z, .int y] g x k r := fun h b Q hL hq => by
  obtain ⟨σ, R, cap, hC, hM, hW, hB⟩ := hL
  have hWW : ∀ i, i < 2 → WfS (σ.1 i) := fun i hi => (hW.1 i hi).1
  refine I_label (by omega) hC hk hW (fun h1 c1 f1 => ⟨_, rfl, ?_⟩)
  have hM1 := hM.cl f1
  obtain ⟨I, m1, m2, m3⟩ := id hM1
  refine ⟨hM1.k, ?_⟩
  refine R_qLabel (by omega) m1 hWW ?_
  exact ⟨_, rfl, hq _ _ _ ⟨σ, R, cap, c1, hM1, hW, hB.less⟩⟩
theorem A_isBelow {g : GE} {x k r : Nat} {z y u : Int32} (hg : 2048 ≤ g.1) (hk : k < 512) : Agree 30 166 [.int z, .int y, .int u] g x k r := fun h b Q hL hq => by
  obtain ⟨σ, R, cap, hC, hM, hW, hB⟩ := hL
  have hWW : ∀ i, i < 2 → WfS (σ.1 i) := fun i hi => (hW.1 i hi).1
  refine I_isBelow (by omega) hC hk hW (fun h1 c1 f1 => ⟨_, rfl, ?_⟩)
  have hM1 := hM.cl f1
  obtain ⟨I, m1, m2, m3⟩ := id hM1
  refine ⟨hM1.k, ?_⟩
  refine R_qIsBelow (by omega) m1 hWW ?_
  exact ⟨_, rfl, hq _ _ _ ⟨σ, R, cap, c1, hM1, hW, hB.less⟩⟩
theorem A_areInConflict {g : GE} {x k r : Nat} {z y u : Int32} (hg : 2048 ≤ g.1) (hk : k < 512) : Agree 36 167 [.int z, .int y, .int u] g x k r := fun h b Q hL hq => by
  obtain ⟨σ, R, cap, hC, hM, hW, hB⟩ := hL
  have hWW : ∀ i, i < 2 → WfS (σ.1 i) := fun i hi => (hW.1 i hi).1
  refine I_areInConflict (by omega) hC hk hW (fun h1 c1 f1 => ⟨_, rfl, ?_⟩)
  have hM1 := hM.cl f1
  obtain ⟨I, m1, m2, m3⟩ := id hM1
  refine ⟨hM1.k, ?_⟩
  refine R_qInConf (by omega) m1 hWW ?_
  rw [qCls hWW]
  exact ⟨_, rfl, hq _ _ _ ⟨σ, R, cap, c1, hM1, hW, hB.less⟩⟩
theorem A_history {g : GE} {x k r : Nat} {z y : Int32} (hg : 2048 ≤ g.1) (hk : k < 512) : Agree 37 169 [.int z, .int y] g x k r := fun h b Q hL hq => by
  obtain ⟨σ, R, cap, hC, hM, hW, hB⟩ := hL
  have hWW : ∀ i, i < 2 → WfS (σ.1 i) := fun i hi => (hW.1 i hi).1
  refine I_history (by omega) hC hk hW (fun h1 c1 f1 => ⟨_, rfl, ?_⟩)
  have hM1 := hM.cl f1
  obtain ⟨I, m1, m2, m3⟩ := id hM1
  refine ⟨hM1.k, ?_⟩
  refine R_qHistory (by omega) m1 hWW ?_
  exact ⟨_, rfl, hq _ _ _ ⟨σ, R, cap, c1, hM1, hW, hB.less⟩⟩
theorem A_concurrentPairs {g : GE} {x k r : Nat} {z : Int32} (hg : 2048 ≤ g.1) (hk : k < 512) : Agree 38 170 [.int z] g x k r := fun h b Q hL hq => by
  obtain ⟨σ, R, cap, hC, hM, hW, hB⟩ := hL
  have hWW : ∀ i, i < 2 → WfS (σ.1 i) := fun i hi => (hW.1 i hi).1
  refine I_concurrentPairs (by omega) hC hk hW (fun h1 c1 f1 => ⟨_, rfl, ?_⟩)
  have hM1 := hM.cl f1
  obtain ⟨I, m1, m2, m3⟩ := id hM1
  refine ⟨hM1.k, ?_⟩
  refine R_qPairs (by omega) m1 hWW ?_
  rw [qNum_cong (F := pairsM) (F' := pairsC) (fun i hi => (pairs_eq (hWW i hi)).symm)]
  exact ⟨_, rfl, hq _ _ _ ⟨σ, R, cap, c1, hM1, hW, hB.less⟩⟩
theorem A_isConfiguration {g : GE} {x k r : Nat} {z y : Int32} (hg : 2048 ≤ g.1) (hk : k < 512) : Agree 40 172 [.int z, .int y] g x k r := fun h b Q hL hq => by
  obtain ⟨σ, R, cap, hC, hM, hW, hB⟩ := hL
  have hWW : ∀ i, i < 2 → WfS (σ.1 i) := fun i hi => (hW.1 i hi).1
  refine I_isConfiguration (by omega) hC hk hW (fun h1 c1 f1 => ⟨_, rfl, ?_⟩)
  have hM1 := hM.cl f1
  obtain ⟨I, m1, m2, m3⟩ := id hM1
  refine ⟨hM1.k, ?_⟩
  refine R_qIsCfg (by omega) m1 hWW ?_
  exact ⟨_, rfl, hq _ _ _ ⟨σ, R, cap, c1, hM1, hW, hB.less⟩⟩
theorem A_configurationCount {g : GE} {x k r : Nat} {z : Int32} (hg : 2048 ≤ g.1) (hk : k < 512) : Agree 42 176 [.int z] g x k r := fun h b Q hL hq => by
  obtain ⟨σ, R, cap, hC, hM, hW, hB⟩ := hL
  have hWW : ∀ i, i < 2 → WfS (σ.1 i) := fun i hi => (hW.1 i hi).1
  refine I_configurationCount (by omega) hC hk hW (fun h1 c1 f1 => ⟨_, rfl, ?_⟩)
  have hM1 := hM.cl f1
  obtain ⟨I, m1, m2, m3⟩ := id hM1
  refine ⟨hM1.k, ?_⟩
  refine R_qCfgCount (by omega) m1 hWW ?_
  exact ⟨_, rfl, hq _ _ _ ⟨σ, R, cap, c1, hM1, hW, hB.less⟩⟩
theorem A_maximalCount {g : GE} {x k r : Nat} {z : Int32} (hg : 2048 ≤ g.1) (hk : k < 512) : Agree 44 177 [.int z] g x k r := fun h b Q hL hq => by
  obtain ⟨σ, R, cap, hC, hM, hW, hB⟩ := hL
  have hWW : ∀ i, i < 2 → WfS (σ.1 i) := fun i hi => (hW.1 i hi).1
  refine I_maximalCount (by omega) hC hk hW (fun h1 c1 f1 => ⟨_, rfl, ?_⟩)
  have hM1 := hM.cl f1
  obtain ⟨I, m1, m2, m3⟩ := id hM1
  refine ⟨hM1.k, ?_⟩
  refine R_qMaxCount (by omega) m1 hWW ?_
  exact ⟨_, rfl, hq _ _ _ ⟨σ, R, cap, c1, hM1, hW, hB.less⟩⟩
theorem A_maximalConfiguration {g : GE} {x k r : Nat} {z y : Int32} (hg : 2048 ≤ g.1) (hk : k < 512) : Agree 47 179 [.int z, .int y] g x k r := fun h b Q hL hq => by
  obtain ⟨σ, R, cap, hC, hM, hW, hB⟩ := hL
  have hWW : ∀ i, i < 2 → WfS (σ.1 i) := fun i hi => (hW.1 i hi).1
  refine I_maximalConfiguration (by omega) hC hk hW (fun h1 c1 f1 => ⟨_, rfl, ?_⟩)
  have hM1 := hM.cl f1
  obtain ⟨I, m1, m2, m3⟩ := id hM1
  refine ⟨hM1.k, ?_⟩
  refine R_qMaxAt (by omega) m1 hWW ?_
  exact ⟨_, rfl, hq _ _ _ ⟨σ, R, cap, c1, hM1, hW, hB.less⟩⟩
theorem A_enabled {g : GE} {x k r : Nat} {z y : Int32} (hg : 2048 ≤ g.1) (hk : k < 512) : Agree 49 180 [.int z, .int y] g x k r := fun h b Q hL hq => by
  obtain ⟨σ, R, cap, hC, hM, hW, hB⟩ := hL
  have hWW : ∀ i, i < 2 → WfS (σ.1 i) := fun i hi => (hW.1 i hi).1
  refine I_enabled (by omega) hC hk hW (fun h1 c1 f1 => ⟨_, rfl, ?_⟩)
  have hM1 := hM.cl f1
  obtain ⟨I, m1, m2, m3⟩ := id hM1
  refine ⟨hM1.k, ?_⟩
  refine R_qEnabled (by omega) m1 hWW ?_
  exact ⟨_, rfl, hq _ _ _ ⟨σ, R, cap, c1, hM1, hW, hB.less⟩⟩
theorem A_shortestTime {g : GE} {x k r : Nat} {z y : Int32} (hg : 2048 ≤ g.1) (hk : k < 512) : Agree 62 191 [.int z, .int y] g x k r := fun h b Q hL hq => by
  obtain ⟨σ, R, cap, hC, hM, hW, hB⟩ := hL
  have hWW : ∀ i, i < 2 → WfS (σ.1 i) := fun i hi => (hW.1 i hi).1
  refine I_shortestTime (by omega) hC hk hW (fun h1 c1 f1 => ⟨_, rfl, ?_⟩)
  have hM1 := hM.cl f1
  obtain ⟨I, m1, m2, m3⟩ := id hM1
  refine ⟨hM1.k, ?_⟩
  refine R_qShort (by omega) m1 hWW ?_
  exact ⟨_, rfl, hq _ _ _ ⟨σ, R, cap, c1, hM1, hW, hB.less⟩⟩
theorem A_totalTime {g : GE} {x k r : Nat} {z y : Int32} (hg : 2048 ≤ g.1) (hk : k < 512) : Agree 68 194 [.int z, .int y] g x k r := fun h b Q hL hq => by
  obtain ⟨σ, R, cap, hC, hM, hW, hB⟩ := hL
  have hWW : ∀ i, i < 2 → WfS (σ.1 i) := fun i hi => (hW.1 i hi).1
  refine I_totalTime (by omega) hC hk hW (fun h1 c1 f1 => ⟨_, rfl, ?_⟩)
  have hM1 := hM.cl f1
  obtain ⟨I, m1, m2, m3⟩ := id hM1
  refine ⟨hM1.k, ?_⟩
  refine R_qTotal (by omega) m1 hWW ?_
  exact ⟨_, rfl, hq _ _ _ ⟨σ, R, cap, c1, hM1, hW, hB.less⟩⟩
theorem A_eventCount {g : GE} {x k r : Nat} {z : Int32} (hg : 2048 ≤ g.1) (hk : k < 512) : Agree 28 164 [.int z] g x k r := fun h b Q hL hq => by
  obtain ⟨σ, R, cap, hC, hM, hW, hB⟩ := hL
  have hWW : ∀ i, i < 2 → WfS (σ.1 i) := fun i hi => (hW.1 i hi).1
  obtain ⟨v, hS⟩ := hC.stri
  refine S_eventCount (by omega) hC.2.1 hS ⟨_, rfl, ?_⟩
  obtain ⟨I, m1, m2, m3⟩ := id hM
  refine ⟨hM.k, ?_⟩
  refine R_qEventCount (by omega) m1 ?_
  exact ⟨_, rfl, hq _ _ _ ⟨σ, R, cap, hC.mono (by omega), hM, hW, hB.less⟩⟩
theorem A_current {g : GE} {x k r : Nat} {z : Int32} (hg : 2048 ≤ g.1) (hk : k < 512) : Agree 72 197 [.int z] g x k r := fun h b Q hL hq => by
  obtain ⟨σ, R, cap, hC, hM, hW, hB⟩ := hL
  have hWW : ∀ i, i < 2 → WfS (σ.1 i) := fun i hi => (hW.1 i hi).1
  obtain ⟨v, hS⟩ := hC.stri
  refine S_current (by omega) hC.2.1 hS ⟨_, rfl, ?_⟩
  obtain ⟨I, m1, m2, m3⟩ := id hM
  refine ⟨hM.k, ?_⟩
  refine R_qCurrent (by omega) m1 ?_
  exact ⟨_, rfl, hq _ _ _ ⟨σ, R, cap, hC.mono (by omega), hM, hW, hB.less⟩⟩
theorem A_stepCount {g : GE} {x k r : Nat} {z y : Int32} (hg : 2048 ≤ g.1) (hk : k < 512) : Agree 50 183 [.int z, .int y] g x k r := fun h b Q hL hq => by
  obtain ⟨σ, R, cap, hC, hM, hW, hB⟩ := hL
  have hWW : ∀ i, i < 2 → WfS (σ.1 i) := fun i hi => (hW.1 i hi).1
  refine I_stepCount (by omega) hC hk hW (fun h1 c1 f1 => ⟨_, rfl, ?_⟩)
  have hM1 := hM.cl f1
  obtain ⟨I, m1, m2, m3⟩ := id hM1
  refine ⟨hM1.k, ?_⟩
  refine R_qSteps (by omega) m1 hWW (fun h2 q1 f2 => ?_)
  rw [qSet_cong (F := fun s u => nI (fb_ct (stpM s u) 256)) (F' := fun s u => nI ((subs (opc s u)).countP (stpB s u))) (fun i u hi hc => congrArg nI (steps_eq (hWW i hi) hc).symm)]
  exact ⟨_, rfl, hq _ _ _ ⟨σ, R, cap, c1.ag (fun q a b => f2.2 q (by omega)), ⟨I, q1, m2, m3.fr14 f2⟩, hW, hB.less⟩⟩
theorem A_largestStep {g : GE} {x k r : Nat} {z y : Int32} (hg : 2048 ≤ g.1) (hk : k < 512) : Agree 54 187 [.int z, .int y] g x k r := fun h b Q hL hq => by
  obtain ⟨σ, R, cap, hC, hM, hW, hB⟩ := hL
  have hWW : ∀ i, i < 2 → WfS (σ.1 i) := fun i hi => (hW.1 i hi).1
  refine I_largestStep (by omega) hC hk hW (fun h1 c1 f1 => ⟨_, rfl, ?_⟩)
  have hM1 := hM.cl f1
  obtain ⟨I, m1, m2, m3⟩ := id hM1
  refine ⟨hM1.k, ?_⟩
  refine R_qLargest (by omega) m1 hWW (fun h2 q1 f2 => ?_)
  rw [qSet_cong (F := fun s u => nI (lgM s u 256)) (F' := fun s u => nI ((subs (opc s u)).foldl (bestF s u) 0)) (fun i u hi hc => congrArg nI (best_eq (hWW i hi) hc).symm)]
  exact ⟨_, rfl, hq _ _ _ ⟨σ, R, cap, c1.ag (fun q a b => f2.2 q (by omega)), ⟨I, q1, m2, m3.fr14 f2⟩, hW, hB.less⟩⟩

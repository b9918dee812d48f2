/-! what the tables say, in words that the rows use (by mktab.py) -/
def cty : Nat → Nat → FieldType := fun k => match k with
  | 0 => tyX0
  | 1 => tyX1
  | 2 => tyX2
  | 3 => tyX3
  | 4 => tyX4
  | 5 => tyX5
  | 6 => tyX6
  | 7 => tyX7
  | 8 => tyX8
  | 9 => tyX9
  | _ => tyX10
def dfl : Nat → List Value := fun k => match k with
  | 0 => [.null, .null, .null, .null, .null, .int 0, .null, .null, .null, .null, .null, .null, .null]
  | 1 => [.null, .null, .int 0, .null, .int 0, .null, .int 0]
  | 2 => [.int 0, .int 0, .int 0, .null, .null, .null]
  | 3 => [.null, .null, .null, .null, .null, .null, .null, .int 0]
  | 4 => [.null, .null, .null, .null, .null, .int 0, .int 0, .int 0]
  | 5 => [.null, .int 0, .null, .null, .null, .null, .null, .long 0]
  | 6 => [.null, .null, .null, .null, .null, .int 0, .null, .null, .null, .null, .int 0, .null, .null, .int 0, .null, .null, .null]
  | 7 => [.null, .null, .null, .null, .null, .null, .null, .null, .null, .null, .null, .null, .null, .int 0, .int 0]
  | 8 => [.null, .null, .null, .int 0]
  | 9 => [.int 0, .null, .null, .null, .null, .int 0, .null]
  | _ => [.null, .null, .int 0, .null, .null, .null, .null, .null, .null, .null, .int 0, .int 0, .int 0, .null, .null, .null, .int 0, .int 0, .int 0, .null, .null, .null, .int 0, .int 0, .int 0, .null, .null, .null, .null, .null, .int 0, .int 0, .null, .null, .null, .null, .int 0, .null, .int 0, .int 0, .int 0, .int 0]
def ffin : Nat → Nat → Bool := fun ci k => match vwCl[ci]? with | some r => (r.2.1 k).2.2.2 | none => true
def clsOK (ci : Nat) (r : vw_C) : Prop := r.1 = cnm ci ∧ (∀ w ∈ u_ws r.1 r.2.1 r.2.2, w ∈ ALL) ∧ (∀ k, k < r.2.2 → parseFieldDescriptor (r.2.1 k).2.2.1 = some (cty ci k)) ∧
  (∀ a, a < r.2.2 → ∀ b, b < r.2.2 → a ≠ b → (r.2.1 a).2.1 ≠ (r.2.1 b).2.1) ∧ (∀ k, k < r.2.2 → (r.2.1 k).1 = r.1) ∧ (dfl ci).length = r.2.2 ∧ (∀ j, j < r.2.2 → defaultValue (cty ci j) = vp_V (dfl ci) j) ∧ Cond.initialized r.1 ∈ ALL
theorem u_good {C : String} {T : u_T} {N : Nat} : ∀ w ∈ u_ws C T N, goodWord w = true := by
  intro w hw
  obtain ⟨k, -, rfl⟩ := List.mem_map.mp hw
  unfold u_lay
  split <;> rfl
theorem clsOK_0 : clsOK 0 (RX0, TX0, 13) := ⟨by decide +kernel, fun w hw => ALL_of (tb_in ((by decide +kernel : ∀ w ∈ u_ws RX0 TX0 13, w ∈ tables_1) w hw)) (u_good w hw), tyX0_ok, nmX0, by decide +kernel, rfl, by decide +kernel, ALL_of (tch_in (j := 1) (i := 4) (by decide +kernel)) rfl⟩
theorem clsOK_1 : clsOK 1 (RX1, TX1, 7) := ⟨by decide +kernel, fun w hw => ALL_of (tb_in ((by decide +kernel : ∀ w ∈ u_ws RX1 TX1 7, w ∈ tables_1) w hw)) (u_good w hw), tyX1_ok, nmX1, by decide +kernel, rfl, by decide +kernel, ALL_of (tch_in (j := 1) (i := 8) (by decide +kernel)) rfl⟩
theorem clsOK_2 : clsOK 2 (RX2, TX2, 6) := ⟨by decide +kernel, fun w hw => ALL_of (tb_in ((by decide +kernel : ∀ w ∈ u_ws RX2 TX2 6, w ∈ tables_1) w hw)) (u_good w hw), tyX2_ok, nmX2, by decide +kernel, rfl, by decide +kernel, ALL_of (tch_in (j := 1) (i := 6) (by decide +kernel)) rfl⟩
theorem clsOK_3 : clsOK 3 (RX3, TX3, 8) := ⟨by decide +kernel, fun w hw => ALL_of (tb_in ((by decide +kernel : ∀ w ∈ u_ws RX3 TX3 8, w ∈ tables_1) w hw)) (u_good w hw), tyX3_ok, nmX3, by decide +kernel, rfl, by decide +kernel, ALL_of (tch_in (j := 1) (i := 2) (by decide +kernel)) rfl⟩
theorem clsOK_4 : clsOK 4 (RX4, TX4, 8) := ⟨by decide +kernel, fun w hw => ALL_of (tb_in ((by decide +kernel : ∀ w ∈ u_ws RX4 TX4 8, w ∈ tables_1) w hw)) (u_good w hw), tyX4_ok, nmX4, by decide +kernel, rfl, by decide +kernel, ALL_of (tch_in (j := 1) (i := 3) (by decide +kernel)) rfl⟩
theorem clsOK_5 : clsOK 5 (RX5, TX5, 8) := ⟨by decide +kernel, fun w hw => ALL_of (tb_in ((by decide +kernel : ∀ w ∈ u_ws RX5 TX5 8, w ∈ tables_1) w hw)) (u_good w hw), tyX5_ok, nmX5, by decide +kernel, rfl, by decide +kernel, ALL_of (tch_in (j := 1) (i := 7) (by decide +kernel)) rfl⟩
theorem clsOK_6 : clsOK 6 (RX6, TX6, 17) := ⟨by decide +kernel, fun w hw => ALL_of (tb_in ((by decide +kernel : ∀ w ∈ u_ws RX6 TX6 17, w ∈ tables_1) w hw)) (u_good w hw), tyX6_ok, nmX6, by decide +kernel, rfl, by decide +kernel, ALL_of (tch_in (j := 1) (i := 5) (by decide +kernel)) rfl⟩
theorem clsOK_7 : clsOK 7 (RX7, TX7, 15) := ⟨by decide +kernel, fun w hw => ALL_of (tb_in ((by decide +kernel : ∀ w ∈ u_ws RX7 TX7 15, w ∈ tables_1) w hw)) (u_good w hw), tyX7_ok, nmX7, by decide +kernel, rfl, by decide +kernel, ALL_of (tch_in (j := 1) (i := 1) (by decide +kernel)) rfl⟩
theorem clsOK_8 : clsOK 8 (RX8, TX8, 4) := ⟨by decide +kernel, fun w hw => ALL_of (tb_in ((by decide +kernel : ∀ w ∈ u_ws RX8 TX8 4, w ∈ tables_1) w hw)) (u_good w hw), tyX8_ok, nmX8, by decide +kernel, rfl, by decide +kernel, ALL_of (tch_in (j := 1) (i := 11) (by decide +kernel)) rfl⟩
theorem clsOK_9 : clsOK 9 (RX9, TX9, 7) := ⟨by decide +kernel, fun w hw => ALL_of (tb_in ((by decide +kernel : ∀ w ∈ u_ws RX9 TX9 7, w ∈ tables_1) w hw)) (u_good w hw), tyX9_ok, nmX9, by decide +kernel, rfl, by decide +kernel, ALL_of (tch_in (j := 1) (i := 10) (by decide +kernel)) rfl⟩
theorem clsOK_10 : clsOK 10 (RX10, TX10, 42) := ⟨by decide +kernel, fun w hw => ALL_of (tb_in ((by decide +kernel : ∀ w ∈ u_ws RX10 TX10 42, w ∈ tables_1) w hw)) (u_good w hw), tyX10_ok, nmX10, by decide +kernel, rfl, by decide +kernel, ALL_of (tch_in (j := 1) (i := 9) (by decide +kernel)) rfl⟩
theorem cls_ok {ci : Nat} {r : vw_C} (h : vwCl[ci]? = some r) : clsOK ci r := by
  match ci, h with
  | 0, h => cases h; exact clsOK_0
  | 1, h => cases h; exact clsOK_1
  | 2, h => cases h; exact clsOK_2
  | 3, h => cases h; exact clsOK_3
  | 4, h => cases h; exact clsOK_4
  | 5, h => cases h; exact clsOK_5
  | 6, h => cases h; exact clsOK_6
  | 7, h => cases h; exact clsOK_7
  | 8, h => cases h; exact clsOK_8
  | 9, h => cases h; exact clsOK_9
  | 10, h => cases h; exact clsOK_10
  | k + 11, h => simp [vwCl] at h
def flB (own : Nat) (e : Nat × Nat × Nat × Nat × Nat) : Bool := match vwCl[e.2.1]? with
  | some r => decide (e.2.2.1 < r.2.2) && (if e.2.2.2.1 = 99 then (match NWL[e.2.2.2.2]? with | some (.fieldLinkNest a i b n d _) => decide (a = cnm own) && decide (i = e.1) && decide (b = r.1) && decide (n = (r.2.1 e.2.2.1).2.1) && decide (d = (r.2.1 e.2.2.1).2.2.1) | _ => false)
    else decide ((tch e.2.2.2.1)[e.2.2.2.2]? = some (.fieldLink (cnm own) e.1 r.1 (r.2.1 e.2.2.1).2.1 (r.2.1 e.2.2.1).2.2.1)))
  | none => false
theorem FLT_B : ∀ own, own < 12 → ∀ e ∈ FLT own, flB own e = true := by
  intro own h
  match own, h with
  | 0, _ => exact List.all_eq_true.mp (by decide +kernel)
  | 1, _ => exact List.all_eq_true.mp (by decide +kernel)
  | 2, _ => exact List.all_eq_true.mp (by decide +kernel)
  | 3, _ => exact List.all_eq_true.mp (by decide +kernel)
  | 4, _ => exact List.all_eq_true.mp (by decide +kernel)
  | 5, _ => exact List.all_eq_true.mp (by decide +kernel)
  | 6, _ => exact List.all_eq_true.mp (by decide +kernel)
  | 7, _ => exact List.all_eq_true.mp (by decide +kernel)
  | 8, _ => exact List.all_eq_true.mp (by decide +kernel)
  | 9, _ => exact List.all_eq_true.mp (by decide +kernel)
  | 10, _ => exact List.all_eq_true.mp (by decide +kernel)
  | 11, _ => exact List.all_eq_true.mp (by decide +kernel)
  | k + 12, h => omega
def lkF (own idx : Nat) : Option (Nat × Nat) := if own < 12 then ((FLT own).find? (fun e => e.1 == idx)).map (fun e => (e.2.1, e.2.2.1)) else none
theorem lkF_ok {own idx ci k : Nat} (h : lkF own idx = some (ci, k)) : ∃ r : vw_C, vwCl[ci]? = some r ∧ k < r.2.2 ∧ (Cond.fieldLink (cnm own) idx r.1 (r.2.1 k).2.1 (r.2.1 k).2.2.1 ∈ ALL ∨ ∃ host, Cond.fieldLinkNest (cnm own) idx r.1 (r.2.1 k).2.1 (r.2.1 k).2.2.1 host ∈ NWL) := by
  unfold lkF at h
  split at h
  case isFalse => cases h
  case isTrue ho =>
    cases hf : (FLT own).find? (fun e => e.1 == idx) with
    | none => rw [hf] at h; cases h
    | some e =>
      rw [hf] at h
      simp only [Option.map_some, Option.some.injEq, Prod.mk.injEq] at h
      obtain ⟨rfl, rfl⟩ := h
      have hi := List.find?_some hf
      have hb := FLT_B own ho e (List.mem_of_find?_eq_some hf)
      simp only [beq_iff_eq] at hi
      subst hi
      unfold flB at hb
      split at hb
      case h_2 => cases hb
      case h_1 r hr =>
        rw [Bool.and_eq_true] at hb
        refine ⟨r, hr, of_decide_eq_true hb.1, ?_⟩
        have hb2 := hb.2
        split at hb2
        · split at hb2
          · rename_i a i b n d host hN
            simp only [Bool.and_eq_true, decide_eq_true_eq] at hb2
            obtain ⟨⟨⟨⟨rfl, rfl⟩, rfl⟩, rfl⟩, rfl⟩ := hb2
            exact Or.inr ⟨_, List.mem_of_getElem? hN⟩
          · cases hb2
        · exact Or.inl (ALL_of (tch_in (of_decide_eq_true hb2)) rfl)
def mlB (own : Nat) (e : Nat × Nat × Nat × Nat) : Bool := match MTB[e.2.1]? with
  | some r => (if e.2.2.1 = 99 then (match NWL[e.2.2.2]? with | some (.methodLinkNest a i x _) => decide (a = cnm own) && decide (i = e.1) && decide (x = r.1.1.1) | _ => false)
    else decide ((tch e.2.2.1)[e.2.2.2]? = some (.methodLink (cnm own) e.1 r.1.1.1)))
  | none => false
theorem MLT_B : ∀ own, own < 12 → ∀ e ∈ MLT own, mlB own e = true := by
  intro own h
  match own, h with
  | 0, _ => exact List.all_eq_true.mp (by decide +kernel)
  | 1, _ => exact List.all_eq_true.mp (by decide +kernel)
  | 2, _ => exact List.all_eq_true.mp (by decide +kernel)
  | 3, _ => exact List.all_eq_true.mp (by decide +kernel)
  | 4, _ => exact List.all_eq_true.mp (by decide +kernel)
  | 5, _ => exact List.all_eq_true.mp (by decide +kernel)
  | 6, _ => exact List.all_eq_true.mp (by decide +kernel)
  | 7, _ => exact List.all_eq_true.mp (by decide +kernel)
  | 8, _ => exact List.all_eq_true.mp (by decide +kernel)
  | 9, _ => exact List.all_eq_true.mp (by decide +kernel)
  | 10, _ => exact List.all_eq_true.mp (by decide +kernel)
  | 11, _ => exact List.all_eq_true.mp (by decide +kernel)
  | k + 12, h => omega
def lkM (own idx : Nat) : Option Nat := if own < 12 then ((MLT own).find? (fun e => e.1 == idx)).map (fun e => e.2.1) else none
theorem lkM_ok {own idx k : Nat} (h : lkM own idx = some k) : ∃ r : ME × MP, MTB[k]? = some r ∧ (Cond.methodLink (cnm own) idx r.1.1.1 ∈ ALL ∨ ∃ host, Cond.methodLinkNest (cnm own) idx r.1.1.1 host ∈ NWL) := by
  unfold lkM at h
  split at h
  case isFalse => cases h
  case isTrue ho =>
    cases hf : (MLT own).find? (fun e => e.1 == idx) with
    | none => rw [hf] at h; cases h
    | some e =>
      rw [hf] at h
      simp only [Option.map_some, Option.some.injEq] at h
      subst h
      have hi := List.find?_some hf
      have hb := MLT_B own ho e (List.mem_of_find?_eq_some hf)
      simp only [beq_iff_eq] at hi
      subst hi
      unfold mlB at hb
      split at hb
      case h_2 => cases hb
      case h_1 r hr =>
        refine ⟨r, hr, ?_⟩
        split at hb
        · split at hb
          · rename_i a i x host hN
            simp only [Bool.and_eq_true, decide_eq_true_eq] at hb
            obtain ⟨⟨rfl, rfl⟩, rfl⟩ := hb
            exact Or.inr ⟨_, List.mem_of_getElem? hN⟩
          · cases hb
        · exact Or.inl (ALL_of (tch_in (of_decide_eq_true hb)) rfl)
/-- what holds of every method of the table -/
theorem mt_ok {k : Nat} {r : ME × MP} (h : MTB[k]? = some r) : Cond.code r.1.1.1 r.1.1.2.1 r.1.1.2.2.1 r.1.1.2.2.2 ∈ ALL ∧ (r.1.2.1 = 0 → Cond.static r.1.1.1 ∈ ALL) ∧ (r.1.2.1 ≠ 0 → Cond.instanceMethod r.1.1.1 ∈ ALL) ∧ (r.1.2.1 = 1 → Cond.selects r.1.1.1.cls r.1.1.1 r.1.1.1 ∈ ALL) ∧ Cond.initialized r.1.1.1.cls ∈ ALL ∧
    (r.1.2.1 = 2 → r.1.1.1.name = "<init>" ∧ r.1.1.2.2.2 = none) ∧ r.1.1.1.cls ≠ "java/lang/invoke/MethodHandle" ∧ r.1.1.1.cls ≠ "java/lang/invoke/VarHandle" ∧ (parseMethodDescriptor r.1.1.1.desc).map (fun d => d.parameters.length) = some r.1.2.2 := by
  have hm := List.mem_of_getElem? h
  have hw := MTB_W r hm
  have hb := MTB_B r hm
  unfold mokB at hb
  simp only [Bool.and_eq_true, Bool.or_eq_true, decide_eq_true_eq] at hb
  obtain ⟨⟨⟨⟨⟨⟨h1, h2⟩, h3⟩, h4⟩, h5⟩, h6⟩, h7⟩ := hb
  refine ⟨ALL_of (tch_in hw) rfl, fun e => ?_, fun e => ?_, fun e => ?_, ALL_of (tch_in h3) rfl, fun e => ?_, h5, h6, h7⟩
  · rw [if_pos e] at h1
    exact ALL_of (tch_in h1) rfl
  · rw [if_neg e] at h1
    exact ALL_of (tch_in h1) rfl
  · rcases h2 with h2 | h2
    · exact absurd e h2
    · exact ALL_of (tch_in h2) rfl
  · rcases h4 with h4 | h4
    · exact absurd e h4
    · exact h4
/-- constants of the pools, class links, the links of Object's constructor and of arraycopy -/
def lkI (own idx : Nat) : Option Int32 := (CIT.find? (fun e => e.1 == own && e.2.1 == idx)).map (fun e => e.2.2.1)
def lkL (own idx : Nat) : Option Int64 := (CLT.find? (fun e => e.1 == own && e.2.1 == idx)).map (fun e => e.2.2.1)
def lkK (own idx : Nat) : Option Nat := (KLT.find? (fun e => e.1 == own && e.2.1 == idx)).map (fun e => e.2.2.1)
def lkO (own idx : Nat) : Bool := OLT.any (fun e => e.1 == own && e.2.1 == idx)
def lkS (own idx : Nat) : Bool := SLT.any (fun e => e.1 == own && e.2.1 == idx)
theorem CIT_B : ∀ e ∈ CIT, (fun e : Nat × Nat × Int32 × Nat × Nat => decide ((tch e.2.2.2.1)[e.2.2.2.2]? = some (.constant (cnm e.1) e.2.1 e.2.2.1))) e = true := List.all_eq_true.mp (by decide +kernel)
theorem CLT_B : ∀ e ∈ CLT, (fun e : Nat × Nat × Int64 × Nat × Nat => decide ((tch e.2.2.2.1)[e.2.2.2.2]? = some (.constantLong (cnm e.1) e.2.1 e.2.2.1))) e = true := List.all_eq_true.mp (by decide +kernel)
def klB (e : Nat × Nat × Nat × (Nat × Nat) × (Nat × Nat)) : Bool := match vwCl[e.2.2.1]? with
  | some r => decide ((tch e.2.2.2.1.1)[e.2.2.2.1.2]? = some (.classLink (cnm e.1) e.2.1 r.1)) && decide ((tch e.2.2.2.2.1)[e.2.2.2.2.2]? = some (.instantiable r.1 r.2.2))
  | none => false
theorem KLT_B : ∀ e ∈ KLT, klB e = true := List.all_eq_true.mp (by decide +kernel)
theorem OLT_B : ∀ e ∈ OLT, (fun e : Nat × Nat × Nat × Nat => decide ((tch e.2.2.1)[e.2.2.2]? = some (.methodLink (cnm e.1) e.2.1 objectInit))) e = true := List.all_eq_true.mp (by decide +kernel)
theorem SLT_B : ∀ e ∈ SLT, (fun e : Nat × Nat × Nat × Nat => decide ((tch e.2.2.1)[e.2.2.2]? = some (.methodLink (cnm e.1) e.2.1 arraycopyName))) e = true := List.all_eq_true.mp (by decide +kernel)
theorem lkI_ok {own idx : Nat} {v : Int32} (h : lkI own idx = some v) : Cond.constant (cnm own) idx v ∈ ALL := by
  unfold lkI at h
  cases hf : CIT.find? (fun e => e.1 == own && e.2.1 == idx) with
  | none => rw [hf] at h; cases h
  | some e =>
    rw [hf] at h
    cases h
    have hi := List.find?_some hf
    simp only [Bool.and_eq_true, beq_iff_eq] at hi
    obtain ⟨rfl, rfl⟩ := hi
    exact ALL_of (tch_in (of_decide_eq_true (CIT_B e (List.mem_of_find?_eq_some hf)))) rfl
theorem lkL_ok {own idx : Nat} {v : Int64} (h : lkL own idx = some v) : Cond.constantLong (cnm own) idx v ∈ ALL := by
  unfold lkL at h
  cases hf : CLT.find? (fun e => e.1 == own && e.2.1 == idx) with
  | none => rw [hf] at h; cases h
  | some e =>
    rw [hf] at h
    cases h
    have hi := List.find?_some hf
    simp only [Bool.and_eq_true, beq_iff_eq] at hi
    obtain ⟨rfl, rfl⟩ := hi
    exact ALL_of (tch_in (of_decide_eq_true (CLT_B e (List.mem_of_find?_eq_some hf)))) rfl
theorem lkK_ok {own idx ci : Nat} (h : lkK own idx = some ci) : ∃ r : vw_C, vwCl[ci]? = some r ∧ Cond.classLink (cnm own) idx r.1 ∈ ALL ∧ Cond.instantiable r.1 r.2.2 ∈ ALL := by
  unfold lkK at h
  cases hf : KLT.find? (fun e => e.1 == own && e.2.1 == idx) with
  | none => rw [hf] at h; cases h
  | some e =>
    rw [hf] at h
    cases h
    have hi := List.find?_some hf
    simp only [Bool.and_eq_true, beq_iff_eq] at hi
    obtain ⟨rfl, rfl⟩ := hi
    have hb := KLT_B e (List.mem_of_find?_eq_some hf)
    unfold klB at hb
    split at hb
    case h_2 => cases hb
    case h_1 r hr =>
      simp only [Bool.and_eq_true, decide_eq_true_eq] at hb
      exact ⟨r, hr, ALL_of (tch_in hb.1) rfl, ALL_of (tch_in hb.2) rfl⟩
theorem lkO_ok {own idx : Nat} (h : lkO own idx = true) : Cond.methodLink (cnm own) idx objectInit ∈ ALL := by
  obtain ⟨e, he, hi⟩ := List.any_eq_true.mp h
  simp only [Bool.and_eq_true, beq_iff_eq] at hi
  obtain ⟨rfl, rfl⟩ := hi
  exact ALL_of (tch_in (of_decide_eq_true (OLT_B e he))) rfl
theorem lkS_ok {own idx : Nat} (h : lkS own idx = true) : Cond.methodLink (cnm own) idx arraycopyName ∈ ALL := by
  obtain ⟨e, he, hi⟩ := List.any_eq_true.mp h
  simp only [Bool.and_eq_true, beq_iff_eq] at hi
  obtain ⟨rfl, rfl⟩ := hi
  exact ALL_of (tch_in (of_decide_eq_true (SLT_B e he))) rfl
theorem GA {ws : List Cond} (h : ∀ w ∈ ws, w ∈ ALL) : GoodIn ALL ws := fun w hw => ⟨h w hw, good_of_word (ALL_good (h w hw))⟩
theorem A_oi : Cond.instanceMethod objectInit ∈ ALL := ALL_of (tch_in (j := 1) (i := 22) (by decide +kernel)) rfl
theorem A_oc : Cond.code objectInit ⟨#[0xb1]⟩ 1 none ∈ ALL := ALL_of (tch_in (j := 1) (i := 23) (by decide +kernel)) rfl
theorem A_na : Cond.native arraycopyName ∈ ALL := ALL_of (tch_in (j := 5) (i := 232) (by decide +kernel)) rfl
theorem A_st : Cond.static arraycopyName ∈ ALL := ALL_of (tch_in (j := 5) (i := 231) (by decide +kernel)) rfl
theorem A_is : Cond.initialized "java/lang/System" ∈ ALL := ALL_of (tch_in (j := 1) (i := 12) (by decide +kernel)) rfl
theorem A_ci : Cond.arrayClass .int ∈ ALL := ALL_of (tch_in (j := 1) (i := 81) (by decide +kernel)) rfl
theorem A_cz : Cond.arrayClass .boolean ∈ ALL := ALL_of (tch_in (j := 1) (i := 120) (by decide +kernel)) rfl
theorem A_cl : Cond.arrayClass .long ∈ ALL := ALL_of (tch_in (j := 1) (i := 121) (by decide +kernel)) rfl
def mathMax : Nat := 66

/-! WORDS, mathematics: how large a layer can be -/
def lcn (s : Str) (m l : Nat) : Nat := fb_ct (fun e => m.testBit e && decide (sL s e = l)) s.1
theorem one6 : ∀ x, x < 6 → ∀ b : Bool, fb_sm (fun l => if b && decide (x = l) then 1 else 0) 6 = if b then 1 else 0 := by decide
theorem dcount {p : Nat → Bool} {lab : Nat → Nat} : ∀ {n : Nat}, (∀ e, e < n → lab e < 6) → fb_sm (fun l => fb_ct (fun e => p e && decide (lab e = l)) n) 6 = fb_ct p n
  | 0, _ => rfl
  | n + 1, h => by
    have ih := dcount (p := p) (n := n) fun e he => h e (by omega)
    have e1 : fb_sm (fun l => fb_ct (fun e => p e && decide (lab e = l)) (n + 1)) 6 = fb_sm (fun l => fb_ct (fun e => p e && decide (lab e = l)) n + (if p n && decide (lab n = l) then 1 else 0)) 6 := rfl
    rw [e1, fb_sm_add, ih, one6 _ (h n (by omega)) (p n)]
    rfl
theorem ct_sm {p : Nat → Bool} : ∀ n, fb_ct p n = fb_sm (fun l => if p l then 1 else 0) n
  | 0 => rfl
  | n + 1 => by rw [fb_ct_succ, fb_sm_succ, ct_sm n]
theorem cnt_n {m n : Nat} (hn : n ≤ 8) (hm : m < 2 ^ n) : cntB m 8 = fb_ct (fun e => m.testBit e) n := by
  have h := fb_ct_split (fun e => m.testBit e) n (8 - n)
  rw [show n + (8 - n) = 8 by omega] at h
  have h0 : fb_ct (fun k => m.testBit (n + k)) (8 - n) = 0 := fb_ct_zero.mpr fun k _ => tb_false_of_lt hm (by omega)
  rw [h0, Nat.add_zero] at h
  exact h
theorem lcn_sum {s : Str} (hw : WfS s) {m : Nat} (hm : cfgB s m = true) : fb_sm (fun l => lcn s m l) 6 = cntB m 8 := by
  unfold lcn
  rw [dcount fun e he => (hw.2.1 e he).1, cnt_n hw.1 (cfg_t.mp hm).1]
theorem ct_lt {p q : Nat → Bool} {n e : Nat} (he : e < n) (h : ∀ k, k < n → p k = true → q k = true) (hp : p e = false) (hq : q e = true) : fb_ct p n + 1 ≤ fb_ct q n := by
  have h1 := fb_ct_upd p true he
  rw [hp, if_neg (by decide), if_pos rfl, Nat.add_zero] at h1
  rw [← h1]
  refine fb_ct_sub fun k hk hk2 => ?_
  by_cases ek : k = e
  · subst ek; exact hq
  · rw [if_neg ek] at hk2
    exact h k hk hk2
theorem lab_bound {s : Str} (hw : WfS s) {A : Nat → Prop} {d : Nat} {μ : Nat → Nat} (hd : dpA s A d) (hμ : ∀ m, A m → ∀ l, lcn s m l = μ l) : fb_ct (fun l => bP (neA (stA s A l))) 6 ≤ 8 - d := by
  by_cases hA : ∃ m, A m
  · obtain ⟨m0, hm0⟩ := hA
    obtain ⟨b1, b2, b3⟩ := hd m0 hm0
    have hs := lcn_sum hw b2
    rw [b3] at hs
    have ht : fb_sm (fun l => fb_ct (fun e => true && decide (sL s e = l)) s.1) 6 = s.1 := by
      rw [dcount fun e he => (hw.2.1 e he).1]
      exact fb_ct_all.mpr fun _ _ => rfl
    have key : fb_sm (fun l => (if bP (neA (stA s A l)) then 1 else 0) + lcn s m0 l) 6 ≤ fb_sm (fun l => fb_ct (fun e => true && decide (sL s e = l)) s.1) 6 := fb_sm_le fun l _ => by
      cases hb : bP (neA (stA s A l))
      · rw [if_neg (by decide), Nat.zero_add]
        refine fb_ct_sub fun k _ hk => ?_
        rw [Bool.and_eq_true] at hk
        rw [hk.2]; rfl
      · rw [if_pos rfl]
        obtain ⟨t, m, e, h1, h2, h3, -⟩ := bP_t.mp hb
        obtain ⟨o1, o2, o3, o4⟩ := opc_b.mp h2
        rw [hμ m0 hm0 l, ← hμ m h1 l, Nat.add_comm]
        refine ct_lt o1 (fun k _ hk => ?_) (by show (m.testBit e && _) = false; rw [o3]; rfl) (by show (true && decide (sL s e = l)) = true; rw [h3, decide_eq_true rfl]; rfl)
        rw [Bool.and_eq_true] at hk
        rw [hk.2]; rfl
    rw [fb_sm_add, hs, ht, ← ct_sm] at key
    have := hw.1
    omega
  · have : fb_ct (fun l => bP (neA (stA s A l))) 6 = 0 := fb_ct_zero.mpr fun l _ => bP_0 (by rintro ⟨t, m, e, h1, -⟩; exact hA ⟨m, h1⟩)
    omega
def MsF (S : Nat → Str) (s : Nat) (F : Fr) : Prop := ∃ μ : Nat → Nat, ∀ m, sdF F s m → ∀ l, lcn (S s) m l = μ l
def MdC (df : Bool) (s : Nat) (F : Fr) : Prop := (df = true ∧ s = 0) ∨ (df = false ∧ ∀ x, F x → x / 256 = s)
theorem MsF.st {S : Nat → Str} {s l d : Nat} {F : Fr} (h : MsF S s F) (hs : s < 2) (hW : WfS (S s)) (hd : dpA (S s) (sdF F s) d) : MsF S s (stF S F l) := by
  obtain ⟨μ, h⟩ := h
  refine ⟨fun l' => μ l' + (if decide (l = l') then 1 else 0), fun t ht l' => ?_⟩
  rw [sd_st hs hW hd] at ht
  obtain ⟨m, e, h1, h2, h3, rfl⟩ := ht
  obtain ⟨o1, o2, o3, o4⟩ := opc_b.mp h2
  have hu := fb_ct_upd (fun k => m.testBit k && decide (sL (S s) k = l')) (decide (sL (S s) e = l')) o1
  simp only [o3, Bool.false_and, Bool.false_eq_true, if_false, Nat.add_zero] at hu
  dsimp only
  rw [← h m h1 l', ← h3]
  show fb_ct _ _ = fb_ct _ _ + _
  rw [← hu]
  refine fb_ct_cong fun k _ => ?_
  rw [fb_bit_set]
  by_cases ek : k = e
  · subst ek; simp
  · simp [ek]
theorem MdC.st {S : Nat → Str} {df : Bool} {s l : Nat} {F : Fr} (h : MdC df s F) : MdC df s (stF S F l) := by
  rcases h with h | ⟨h1, h2⟩
  · exact Or.inl h
  · exact Or.inr ⟨h1, st_side h2⟩
def LyOk (S : Nat → Str) (df : Bool) (s : Nat) (L : Lay) : Prop := ∀ i, i < lyN L → MsF S s (lyF L i) ∧ MdC df s (lyF L i)
theorem LyOk.add {S : Nat → Str} {df : Bool} {s c : Nat} {L : Lay} {F : Fr} {v : List Nat} (h : LyOk S df s L) (h1 : MsF S s F) (h2 : MdC df s F) : LyOk S df s (adL L F v c) := fun i hi => by
  unfold adL at hi ⊢
  cases hz : fndL L F with
  | some j =>
    rw [hz] at hi
    exact h i hi
  | none =>
    rw [hz] at hi
    have hi : i < lyN L + 1 := hi
    show MsF S s (va_up (lyF L) (lyN L) F i) ∧ MdC df s (va_up (lyF L) (lyN L) F i)
    by_cases e : i = lyN L
    · rw [e, up_1]; exact ⟨h1, h2⟩
    · rw [up_2 e]; exact h i (by omega)
theorem go_side {S : Nat → Str} {df : Bool} {s l : Nat} {F : Fr} (hs : s < 2) (h : MdC df s F) (h1 : ¬ (df && (decide (hasN (stF S F l) = 1) || decide (hasN (stF S F l) = 2))) = true) (h2 : ¬ hasN (stF S F l) = 0) : bP (neA (sdF (stF S F l) s)) = true := by
  rcases h with ⟨rfl, rfl⟩ | ⟨rfl, h⟩
  · simp only [Bool.true_and, Bool.or_eq_true, decide_eq_true_eq] at h1
    rcases has_c (G := stF S F l) with ⟨g1, g2, g3⟩ | ⟨g1, g2, g3⟩ | ⟨g1, g2⟩
    · exact absurd g1 h2
    · exact g2
    · exact absurd g1 h1
  · have hst := st_side (S := S) (l := l) h
    rcases has_c (G := stF S F l) with ⟨g1, g2, g3⟩ | ⟨g1, g2, g3⟩ | ⟨g1, g2⟩
    · exact absurd g1 h2
    · rcases i2 hs with rfl | rfl
      · exact g2
      · exact g3
    · have z : ∀ j, j < 2 → j ≠ s → bP (neA (sdF (stF S F l) j)) = false := fun j hj hne => bP_0 (by rintro ⟨m, hm⟩; exact sd_none hst hne m hm)
      rcases i2 hs with rfl | rfl
      · rw [z 1 (by omega) (by omega)] at g2
        cases hb : bP (neA (sdF (stF S F l) 0))
        · rw [hb] at g2; exact absurd rfl g2
        · rfl
      · rw [z 0 (by omega) (by omega)] at g2
        cases hb : bP (neA (sdF (stF S F l) 1))
        · rw [hb] at g2; exact absurd rfl g2
        · rfl
theorem mcL_b {S : Nat → Str} {df : Bool} {s d c W : Nat} {F : Fr} {v : List Nat} {t : Lay} (hs : s < 2) (hW : WfS (S s)) (hd : dpA (S s) (sdF F s) d) (h1 : MsF S s F) (h2 : MdC df s F) (ht : LyOk S df s t) : ∀ l, lyN (mcL S df F v c t W l).2.1 ≤ lyN t + fb_ct (fun l => bP (neA (stA (S s) (sdF F s) l))) l ∧ LyOk S df s (mcL S df F v c t W l).2.1
  | 0 => ⟨Nat.le_refl _, ht⟩
  | l + 1 => by
    obtain ⟨ih1, ih2⟩ := mcL_b (c := c) (W := W) (v := v) hs hW hd h1 h2 ht l
    have hm := fb_ct_mono (fun l => bP (neA (stA (S s) (sdF F s) l))) (show l ≤ l + 1 by omega)
    rcases hz : mcL S df F v c t W l with ⟨r, t', W'⟩
    rw [hz] at ih1 ih2
    cases r with
    | some r =>
      rw [mcL_k hz 1]
      exact ⟨Nat.le_trans ih1 (by omega), ih2⟩
    | none =>
      rw [mcL_s hz]
      split
      · exact ⟨Nat.le_trans ih1 (by omega), ih2⟩
      · rename_i g1
        split
        · exact ⟨Nat.le_trans ih1 (by omega), ih2⟩
        · rename_i g2
          have hb := go_side hs h2 g1 g2
          rw [sd_st hs hW hd] at hb
          refine ⟨?_, ih2.add (h1.st hs hW hd) h2.st⟩
          rw [fb_ct_succ, if_pos hb]
          have ih1 : lyN t' ≤ _ := ih1
          show lyN (adL t' _ _ _) ≤ _
          rw [ad_n]
          split <;> omega
theorem mcE_b {S : Nat → Str} {df : Bool} {s d W : Nat} {A : Lay} (hs : s < 2) (hW : WfS (S s)) (hE : EntOk S d A) (hA : LyOk S df s A) : ∀ i, i ≤ lyN A → lyN (mcE S df A W i).2.1 ≤ i * min 6 (8 - d) ∧ LyOk S df s (mcE S df A W i).2.1
  | 0, _ => ⟨by rw [Nat.zero_mul]; exact Nat.le_refl _, fun i hi => absurd hi (by show ¬ i < 0; omega)⟩
  | i + 1, hi => by
    obtain ⟨ih1, ih2⟩ := mcE_b (df := df) (W := W) hs hW hE hA i (by omega)
    rcases hz : mcE S df A W i with ⟨r, t', W'⟩
    rw [hz] at ih1 ih2
    rw [Nat.succ_mul]
    cases r with
    | some r =>
      rw [mcE_k hz 1]
      exact ⟨Nat.le_trans ih1 (by omega), ih2⟩
    | none =>
      rw [mcE_s hz]
      obtain ⟨hd, -⟩ := hE i (by omega)
      obtain ⟨h1, h2⟩ := hA i (by omega)
      obtain ⟨g1, g2⟩ := mcL_b (c := lyC A i) (W := W') (v := lyW A i) hs hW (hd.2 s hs) h1 h2 ih2 6
      refine ⟨?_, g2⟩
      obtain ⟨μ, hμ⟩ := h1
      have hb := lab_bound hW (hd.2 s hs) hμ
      have h6 := fb_ct_le (fun l => bP (neA (stA (S s) (sdF (lyF A i) s) l))) 6
      have ih1 : lyN t' ≤ i * min 6 (8 - d) := ih1
      have g1 : lyN (mcL S df (lyF A i) (lyW A i) (lyC A i) t' W' 6).2.1 ≤ lyN t' + _ := g1
      omega
def BdW : Nat → Nat
  | 0 => 1
  | d + 1 => BdW d * min 6 (8 - d)
theorem BdW_le : ∀ d, d < 9 → BdW d ≤ 25920 := by decide
theorem mcD_b {S : Nat → Str} {df : Bool} {s : Nat} {F0 : Fr} (hs : s < 2) (hWf : ∀ i, i < 2 → WfS (S i)) (h0 : dpF S F0 0) (h1 : MsF S s F0) (h2 : MdC df s F0) : ∀ d, d ≤ 8 → (∀ y, (mcD S df F0 d).2.2.2 y ≤ 25920) ∧ ∀ L W M, mcD S df F0 d = (none, L, W, M) → lyN L ≤ BdW d ∧ EntOk S d L ∧ LyOk S df s L
  | 0, _ => by
    refine ⟨fun y => ?_, fun L W M h => ?_⟩
    · show (if y = 0 then 1 else 0) ≤ 25920
      split <;> omega
    · cases h
      exact ⟨Nat.le_refl _, fun i _ => ⟨h0, rfl⟩, fun i _ => ⟨h1, h2⟩⟩
  | d + 1, hd => by
    obtain ⟨ih1, ih2⟩ := mcD_b (df := df) hs hWf h0 h1 h2 d (by omega)
    rcases hz : mcD S df F0 d with ⟨r, L, W, M⟩
    rw [hz] at ih1
    cases r with
    | some r =>
      rw [mcD_k hz 1]
      exact ⟨ih1, fun L W M h => by cases h⟩
    | none =>
      obtain ⟨g1, g2, g3⟩ := ih2 L W M hz
      rw [mcD_s hz]
      obtain ⟨e1, e2⟩ := mcE_b (df := df) (W := W) hs (hWf s hs) g2 g3 (lyN L) (Nat.le_refl _)
      have e3 := EntOk.ent (df := df) (W := W) hWf g2 (lyN L) (Nat.le_refl _)
      have hb : lyN (mcE S df L W (lyN L)).2.1 ≤ BdW (d + 1) := Nat.le_trans e1 (Nat.mul_le_mul_right _ g1)
      have hB := BdW_le (d + 1) (by omega)
      refine ⟨fun y => ?_, fun L' W' M' h => ?_⟩
      · show va_up M (1 - d % 2) (max (M (1 - d % 2)) (lyN (mcE S df L W (lyN L)).2.1)) y ≤ 25920
        have := ih1 (1 - d % 2)
        have : M (1 - d % 2) ≤ 25920 := this
        unfold va_up
        split
        · omega
        · exact ih1 y
      · rcases hy : mcE S df L W (lyN L) with ⟨r, t, W2⟩
        rw [hy] at h e2 e3 hb
        cases h
        exact ⟨hb, e3, e2⟩
theorem ms_0 {S : Nat → Str} {s : Nat} {F : Fr} (h : ∀ m, sdF F s m → m = 0) : MsF S s F := ⟨fun l => lcn (S s) 0 l, fun m hm l => by rw [h m hm]⟩
theorem bound_d {S : Nat → Str} (hW : ∀ i, i < 2 → WfS (S i)) : ∀ y, (mcD S true (F00 true true) 8).2.2.2 y ≤ 32768 := fun y => by
  rw [F00_12]
  have := (mcD_b (df := true) (s := 0) (F0 := F12) (by omega) hW dp_12 (ms_0 fun m hm => (sd_12 (by omega)).mp hm) (Or.inl ⟨rfl, rfl⟩) 8 (Nat.le_refl _)).1 y
  omega
theorem bound_c {S : Nat → Str} (hW : ∀ i, i < 2 → WfS (S i)) {x : Nat} (hx : x < 2) : ∀ y, (mcD S false (F1 x) 8).2.2.2 y ≤ 32768 := fun y => by
  have := (mcD_b (df := false) (s := x) (F0 := F1 x) hx hW (dp_1 hx) (ms_0 fun m hm => sd_1.mp hm) (Or.inr ⟨rfl, fun z hz => by have : z = 256 * x := hz; omega⟩) 8 (Nat.le_refl _)).1 y
  omega

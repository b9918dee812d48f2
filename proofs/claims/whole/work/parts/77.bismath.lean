/-! MATHEMATICS: nothing is told apart after nine rounds -/
theorem eqB_t {S : Nat → Str} {bs : Bool} {c : Nat → Nat} {x y : Nat} : eqB S bs c x y = true ↔ c y = c x ∧ ∀ z, z ∈ mvs S bs c y ↔ z ∈ mvs S bs c x := by
  unfold eqB
  rw [Bool.and_eq_true, decide_eq_true_eq, same_t]
theorem eqB_rfl {S : Nat → Str} {bs : Bool} {c : Nat → Nat} {x : Nat} : eqB S bs c x x = true := eqB_t.mpr ⟨rfl, fun _ => Iff.rfl⟩
theorem eqB_sym {S : Nat → Str} {bs : Bool} {c : Nat → Nat} {x y : Nat} (h : eqB S bs c x y = true) : eqB S bs c y x = true := eqB_t.mpr ⟨(eqB_t.mp h).1.symm, fun z => ((eqB_t.mp h).2 z).symm⟩
theorem eqB_tr {S : Nat → Str} {bs : Bool} {c : Nat → Nat} {x y z : Nat} (h : eqB S bs c x y = true) (k : eqB S bs c y z = true) : eqB S bs c x z = true := eqB_t.mpr ⟨(eqB_t.mp k).1.trans (eqB_t.mp h).1, fun u => ((eqB_t.mp k).2 u).trans ((eqB_t.mp h).2 u)⟩
def AsgI (S : Nat → Str) (bs : Bool) (c : Nat → Nat) (X : Nat) : Prop := (∀ y, y < X → cfX S y = true → (asg S bs c X).2.2 y < (asg S bs c X).1 ∧ eqB S bs c y ((asg S bs c X).2.1 ((asg S bs c X).2.2 y)) = true) ∧ (∀ i j, i < j → j < (asg S bs c X).1 → eqB S bs c ((asg S bs c X).2.1 j) ((asg S bs c X).2.1 i) = false) ∧ ∀ i, i < (asg S bs c X).1 → (asg S bs c X).2.2 ((asg S bs c X).2.1 i) = i
theorem asg_inv {S : Nat → Str} {bs : Bool} {c : Nat → Nat} : ∀ X, AsgI S bs c X
  | 0 => ⟨fun y hy => absurd hy (Nat.not_lt_zero _), fun i j _ hj => absurd hj (Nat.not_lt_zero _), fun i hi => absurd hi (Nat.not_lt_zero _)⟩
  | X + 1 => by
    obtain ⟨i1, i2, i3⟩ := asg_inv (S := S) (bs := bs) (c := c) X
    have hmem := fun i => asg_mem (S := S) (bs := bs) (c := c) X i
    unfold AsgI
    cases hc : cfX S X
    · rw [asg_f hc]
      refine ⟨fun y hy hcy => i1 y ?_ hcy, i2, i3⟩
      rcases Nat.lt_or_ge y X with q | q
      · exact q
      · have : y = X := by omega
        subst this
        rw [hc] at hcy; cases hcy
    · have hfl := fa_first_le (fun i => eqB S bs c X ((asg S bs c X).2.1 i)) (asg S bs c X).1
      have hfno := fa_first_no (fun i => eqB S bs c X ((asg S bs c X).2.1 i)) (asg S bs c X).1
      have hfy := fa_first_yes (fun i => eqB S bs c X ((asg S bs c X).2.1 i)) (asg S bs c X).1
      by_cases e : fa_first (fun i => eqB S bs c X ((asg S bs c X).2.1 i)) (asg S bs c X).1 = (asg S bs c X).1
      · rw [asg_n hc e]
        rw [e] at hfno
        generalize asg S bs c X = r at *
        obtain ⟨cnt, mem, cl⟩ := r
        dsimp only at *
        have mem1 : ∀ i, i < cnt → updN mem cnt X i = mem i := fun i hi => if_neg (by omega)
        have memc : updN mem cnt X cnt = X := if_pos rfl
        refine ⟨fun y hy hcy => ?_, fun i j hij hj => ?_, fun i hi => ?_⟩
        · by_cases q : y = X
          · subst q
            rw [show updN cl y cnt y = cnt from if_pos rfl, memc]
            exact ⟨by omega, eqB_rfl⟩
          · rw [show updN cl X cnt y = cl y from if_neg q]
            obtain ⟨a1, a2⟩ := i1 y (by omega) hcy
            rw [mem1 _ a1]
            exact ⟨by omega, a2⟩
        · by_cases q : j = cnt
          · subst q
            rw [memc, mem1 i hij]
            exact hfno i hij
          · rw [mem1 j (by omega), mem1 i (by omega)]
            exact i2 i j hij (by omega)
        · by_cases q : i = cnt
          · subst q
            rw [memc]
            exact if_pos rfl
          · rw [mem1 i (by omega)]
            have := (hmem i (by omega)).1
            rw [show updN cl X cnt (mem i) = cl (mem i) from if_neg (by omega)]
            exact i3 i (by omega)
      · rw [asg_o hc e]
        have hlt : fa_first (fun i => eqB S bs c X ((asg S bs c X).2.1 i)) (asg S bs c X).1 < (asg S bs c X).1 := by omega
        have hy := hfy hlt
        generalize fa_first (fun i => eqB S bs c X ((asg S bs c X).2.1 i)) (asg S bs c X).1 = k at *
        generalize asg S bs c X = r at *
        obtain ⟨cnt, mem, cl⟩ := r
        dsimp only at *
        refine ⟨fun y hyl hcy => ?_, i2, fun i hi => ?_⟩
        · by_cases q : y = X
          · subst q
            rw [show updN cl y k y = k from if_pos rfl]
            exact ⟨hlt, hy⟩
          · rw [show updN cl X k y = cl y from if_neg q]
            exact i1 y (by omega) hcy
        · have := (hmem i hi).1
          rw [show updN cl X k (mem i) = cl (mem i) from if_neg (by omega)]
          exact i3 i hi
/-- two states are in one class exactly if the round before tells them equal -/
theorem cls_eq {S : Nat → Str} {bs : Bool} {c : Nat → Nat} {x y : Nat} (hx : x < 512) (hy : y < 512) (hcx : cfX S x = true) (hcy : cfX S y = true) : (asg S bs c 512).2.2 x = (asg S bs c 512).2.2 y ↔ eqB S bs c x y = true := by
  obtain ⟨i1, i2, -⟩ := asg_inv (S := S) (bs := bs) (c := c) 512
  obtain ⟨a1, a2⟩ := i1 x hx hcx
  obtain ⟨b1, b2⟩ := i1 y hy hcy
  constructor
  · intro e
    rw [← e] at b2
    exact eqB_tr a2 (eqB_sym b2)
  · intro e
    have h := eqB_tr (eqB_sym a2) (eqB_tr e b2)
    rcases Nat.lt_trichotomy ((asg S bs c 512).2.2 x) ((asg S bs c 512).2.2 y) with q | q | q
    · have := i2 _ _ q b1
      rw [eqB_sym h] at this; cases this
    · exact q
    · have := i2 _ _ q a1
      rw [h] at this; cases this
theorem cnt_pos {S : Nat → Str} {bs : Bool} {c : Nat → Nat} : 1 ≤ (asg S bs c 512).1 := by
  obtain ⟨i1, -, -⟩ := asg_inv (S := S) (bs := bs) (c := c) 512
  have := (i1 0 (by omega) (cfg_0 (s := S 0))).1
  omega
theorem cnt_mono {S : Nat → Str} {bs : Bool} : ∀ r, cntR S bs r ≤ cntR S bs (r + 1)
  | 0 => cnt_pos
  | r + 1 => by
    have hm := fun i => asg_mem (S := S) (bs := bs) (c := clsR S bs r) 512 i
    obtain ⟨-, -, i3⟩ := asg_inv (S := S) (bs := bs) (c := clsR S bs r) 512
    obtain ⟨j1, -, -⟩ := asg_inv (S := S) (bs := bs) (c := clsR S bs (r + 1)) 512
    refine fb_holes (asg S bs (clsR S bs (r + 1)) 512).1 (asg S bs (clsR S bs r) 512).1 (fun i => (asg S bs (clsR S bs (r + 1)) 512).2.2 ((asg S bs (clsR S bs r) 512).2.1 i)) (fun i hi => (j1 _ (hm i hi).1 (hm i hi).2).1) (fun i j hij hj e => ?_)
    have h1 := hm i (by omega)
    have h2 := hm j hj
    have h3 := (eqB_t.mp ((cls_eq h1.1 h2.1 h1.2 h2.2).mp e)).1
    have h4 : (asg S bs (clsR S bs r) 512).2.2 ((asg S bs (clsR S bs r) 512).2.1 j) = (asg S bs (clsR S bs r) 512).2.2 ((asg S bs (clsR S bs r) 512).2.1 i) := h3
    rw [i3 j hj, i3 i (by omega)] at h4
    omega
theorem asg_cong {S : Nat → Str} {bs : Bool} {c c' : Nat → Nat} (h : ∀ x y, x < 512 → y < 512 → cfX S x = true → cfX S y = true → eqB S bs c x y = eqB S bs c' x y) : ∀ X, X ≤ 512 → asg S bs c X = asg S bs c' X
  | 0, _ => rfl
  | X + 1, hX => by
    have ih := asg_cong h X (by omega)
    cases hc : cfX S X
    · rw [asg_f hc, asg_f hc, ih]
    · have hm := fun i => asg_mem (S := S) (bs := bs) (c := c) X i
      have e1 : ∀ n, n ≤ (asg S bs c X).1 → fa_first (fun i => eqB S bs c X ((asg S bs c X).2.1 i)) n = fa_first (fun i => eqB S bs c' X ((asg S bs c X).2.1 i)) n := fun n => by
        induction n with
        | zero => intro _; rfl
        | succ n ihn =>
          intro hn
          rw [fa_first_s, fa_first_s, ihn (by omega), h X _ (by omega) (by have := (hm n (by omega)).1; omega) hc (hm n (by omega)).2]
      have e2 := e1 _ (Nat.le_refl _)
      by_cases q : fa_first (fun i => eqB S bs c X ((asg S bs c X).2.1 i)) (asg S bs c X).1 = (asg S bs c X).1
      · rw [asg_n hc q]
        rw [e2, ih] at q
        rw [asg_n hc q, ih]
      · rw [asg_o hc q, e2]
        rw [e2] at q
        rw [ih] at q ⊢
        rw [asg_o hc q]
theorem clsR_lt {S : Nat → Str} {bs : Bool} : ∀ r x, clsR S bs r x < 512
  | 0, _ => by show 0 < 512; omega
  | r + 1, x => asg_cls 512 (Nat.le_refl _) x
theorem mv_in {S : Nat → Str} (hW : ∀ i, i < 2 → WfS (S i)) {bs : Bool} {c : Nat → Nat} {x : Nat} (hx : x < 512) {z : Nat} : z ∈ mvs S bs c x ↔ ∃ t, t ∈ mvT (S (x / 256)) bs (x % 256) ∧ nmS (S (x / 256)) t * 512 + c (x + t) = z := by
  unfold mvs
  rw [List.mem_map]
  constructor
  · rintro ⟨t, h1, h2⟩
    exact ⟨t, h1, by rw [← (mv_code hW hx h1).1]; exact h2⟩
  · rintro ⟨t, h1, h2⟩
    exact ⟨t, h1, by rw [(mv_code hW hx h1).1]; exact h2⟩
theorem cnt_move {S : Nat → Str} (hW : ∀ i, i < 2 → WfS (S i)) {bs : Bool} {x t : Nat} (hx : x < 512) (ht : t ∈ mvT (S (x / 256)) bs (x % 256)) : cntB (x % 256) 8 < cntB ((x + t) % 256) 8 := by
  obtain ⟨a1, a2, a3, a4⟩ := mvT_in (hW _ (by omega)) (by omega) ht
  have a5 : x % 256 + t < 256 := by rw [← a3]; exact Nat.or_lt_two_pow (n := 8) (by omega) a1
  have e : (x + t) % 256 = x % 256 ||| t := by rw [a3]; omega
  rw [e]
  exact cnt_lt (fun i hi => by rw [Nat.testBit_or, hi]; rfl) (Nat.or_lt_two_pow (by omega) a1) (by rw [a3]; omega)
theorem rest_eq {S : Nat → Str} (hW : ∀ i, i < 2 → WfS (S i)) {bs : Bool} : ∀ r x y, x < 512 → y < 512 → cfX S x = true → cfX S y = true → 8 ≤ r + cntB (x % 256) 8 → eqB S bs (clsR S bs r) x y = true → eqB S bs (clsR S bs (r + 1)) x y = true := fun r => by
  induction r with
  | zero =>
    intro x y hx hy hcx hcy hr h
    have nox : ∀ t, ¬ t ∈ mvT (S (x / 256)) bs (x % 256) := fun t ht => by
      have h1 := cnt_move hW hx ht
      have h2 := cnt_le ((x + t) % 256) 8
      omega
    have h0 := (eqB_t.mp h).2
    refine eqB_t.mpr ⟨((cls_eq hx hy hcx hcy).mpr h).symm, fun z => ?_⟩
    rw [mv_in hW hy, mv_in hW hx]
    constructor
    · rintro ⟨t, h1, -⟩
      obtain ⟨u, h2, -⟩ := (mv_in hW hx).mp ((h0 _).mp ((mv_in hW hy).mpr ⟨t, h1, rfl⟩))
      exact absurd h2 (nox u)
    · rintro ⟨t, h1, -⟩
      exact absurd h1 (nox t)
  | succ r ih =>
    intro x y hx hy hcx hcy hr h
    have h0 := (eqB_t.mp h).2
    have key : ∀ t u, t ∈ mvT (S (x / 256)) bs (x % 256) → u ∈ mvT (S (y / 256)) bs (y % 256) → clsR S bs (r + 1) (x + t) = clsR S bs (r + 1) (y + u) → clsR S bs (r + 2) (x + t) = clsR S bs (r + 2) (y + u) := fun t u ht hu e => by
      obtain ⟨-, a1, a2⟩ := mv_code hW (c := fun _ => 0) hx ht
      obtain ⟨-, b1, b2⟩ := mv_code hW (c := fun _ => 0) hy hu
      have h1 := cnt_move hW hx ht
      exact (cls_eq a1 b1 a2 b2).mpr (ih (x + t) (y + u) a1 b1 a2 b2 (by omega) ((cls_eq a1 b1 a2 b2).mp e))
    refine eqB_t.mpr ⟨((cls_eq hx hy hcx hcy).mpr h).symm, fun z => ?_⟩
    rw [mv_in hW hy, mv_in hW hx]
    constructor
    · rintro ⟨u, h1, rfl⟩
      obtain ⟨t, h2, h3⟩ := (mv_in hW hx).mp ((h0 _).mp ((mv_in hW hy).mpr ⟨u, h1, rfl⟩))
      have l1 := clsR_lt (S := S) (bs := bs) (r + 1) (x + t)
      have l2 := clsR_lt (S := S) (bs := bs) (r + 1) (y + u)
      have h5 : nmS (S (x / 256)) t = nmS (S (y / 256)) u := by omega
      exact ⟨t, h2, by rw [key t u h2 h1 (by omega), h5]⟩
    · rintro ⟨t, h1, rfl⟩
      obtain ⟨u, h2, h3⟩ := (mv_in hW hy).mp ((h0 _).mpr ((mv_in hW hx).mpr ⟨t, h1, rfl⟩))
      have l1 := clsR_lt (S := S) (bs := bs) (r + 1) (x + t)
      have l2 := clsR_lt (S := S) (bs := bs) (r + 1) (y + u)
      have h5 : nmS (S (x / 256)) t = nmS (S (y / 256)) u := by omega
      exact ⟨u, h2, by rw [key t u h1 h2 (by omega), h5]⟩
theorem asg_9 {S : Nat → Str} (hW : ∀ i, i < 2 → WfS (S i)) {bs : Bool} : asg S bs (clsR S bs 9) 512 = asg S bs (clsR S bs 8) 512 := by
  refine asg_cong (fun x y hx hy hcx hcy => ?_) 512 (Nat.le_refl _)
  rw [Bool.eq_iff_iff]
  constructor
  · intro h
    exact (cls_eq hx hy hcx hcy).mp (eqB_t.mp h).1.symm
  · intro h
    exact rest_eq hW 8 x y hx hy hcx hcy (by omega) h
theorem cls_10 {S : Nat → Str} (hW : ∀ i, i < 2 → WfS (S i)) {bs : Bool} : clsR S bs 10 = clsR S bs 9 := by
  show (asg S bs (clsR S bs 9) 512).2.2 = (asg S bs (clsR S bs 8) 512).2.2
  rw [asg_9 hW]
theorem cnt_10 {S : Nat → Str} (hW : ∀ i, i < 2 → WfS (S i)) {bs : Bool} : cntR S bs 10 = cntR S bs 9 := by
  show (asg S bs (clsR S bs 9) 512).1 = (asg S bs (clsR S bs 8) 512).1
  rw [asg_9 hW]
theorem sep_s {S : Nat → Str} {bs : Bool} {r : Nat} : sepR S bs (r + 1) = if sepR S bs r = 0 ∧ clsR S bs (r + 1) 0 ≠ clsR S bs (r + 1) 256 then r + 1 else sepR S bs r := rfl
theorem sep_10 {S : Nat → Str} (hW : ∀ i, i < 2 → WfS (S i)) {bs : Bool} : sepR S bs 10 = sepR S bs 9 := by
  rw [sep_s (r := 9)]
  refine if_neg fun h => ?_
  have h1 := h.1
  have h2 := h.2
  rw [show (9 : Nat) + 1 = 10 from rfl, cls_10 hW] at h2
  rw [sep_s (r := 8)] at h1
  by_cases q : sepR S bs 8 = 0
  · rw [if_pos ⟨q, h2⟩] at h1
    cases h1
  · rw [if_neg (fun hh => q hh.1)] at h1
    exact q h1
theorem bis_eq {S : Nat → Str} (hW : ∀ i, i < 2 → WfS (S i)) {k : Nat} : bisM S k = bisA S k := by
  have key : ∀ bs, sepR S bs (finM S bs) = sepR S bs (finR S bs) ∧ cntR S bs (finM S bs) = cntR S bs (finR S bs) := fun bs => by
    have hp : (fun i => decide (cntR S bs (i + 1) ≤ cntR S bs i)) = fun i => decide (cntR S bs (i + 1) = cntR S bs i) := funext fun i => decide_eq_decide.mpr ⟨fun h => Nat.le_antisymm h (cnt_mono i), fun h => Nat.le_of_eq h⟩
    have h9 : (fun i => decide (cntR S bs (i + 1) = cntR S bs i)) 9 = true := decide_eq_true (cnt_10 hW)
    unfold finM finR
    rw [hp]
    generalize (fun i => decide (cntR S bs (i + 1) = cntR S bs i)) = p at h9 ⊢
    obtain ⟨i, hi, hpi, hno⟩ := fb_first (p := fun i => p i = true) (n := 10) ⟨9, by omega, h9⟩
    have hno' : ∀ j, j < i → p j = false := fun j hj => by
      cases hb : p j
      · rfl
      · exact absurd hb (hno j hj)
    have e1 : fa_first p 600 = i := fa_first_is (by omega) hpi hno'
    rw [e1]
    by_cases q : i = 9
    · subst q
      have e2 : fa_first p 9 = 9 := fa_first_none hno'
      rw [e2]
      exact ⟨sep_10 hW, cnt_10 hW⟩
    · have e2 : fa_first p 9 = i := fa_first_is (by omega) hpi hno'
      rw [e2, show min 9 (i + 1) = i + 1 by omega]
      exact ⟨rfl, rfl⟩
  obtain ⟨k1, k2⟩ := key (decide (k = 1))
  refine Prod.ext ?_ ?_
  · rw [bisM_1, bisA_1]; exact k1
  · rw [bisM_2, bisA_2]; exact k2

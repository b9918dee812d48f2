/-! TOOLS: constants, loops, contracts -/
theorem oI_0 : Int32.ofInt 0 = nI 0 := rfl
theorem oI_1 : Int32.ofInt 1 = nI 1 := rfl
theorem oI_2 : Int32.ofInt 2 = nI 2 := rfl
theorem oI_3 : Int32.ofInt 3 = nI 3 := rfl
theorem oI_4 : Int32.ofInt 4 = nI 4 := rfl
theorem oI_5 : Int32.ofInt 5 = nI 5 := rfl
theorem oI_6 : Int32.ofInt 6 = nI 6 := rfl
theorem oI_8 : Int32.ofInt 8 = nI 8 := rfl
theorem oI_9 : Int32.ofInt 9 = nI 9 := rfl
theorem oI_12 : Int32.ofInt 12 = nI 12 := rfl
theorem oI_16 : Int32.ofInt 16 = nI 16 := rfl
theorem oI_18 : Int32.ofInt 18 = nI 18 := rfl
theorem oI_32 : Int32.ofInt 32 = nI 32 := rfl
theorem oI_40 : Int32.ofInt 40 = nI 40 := rfl
theorem oI_41 : Int32.ofInt 41 = nI 41 := rfl
theorem oI_43 : Int32.ofInt 43 = nI 43 := rfl
theorem oI_48 : Int32.ofInt 48 = nI 48 := rfl
theorem oI_54 : Int32.ofInt 54 = nI 54 := rfl
theorem oI_55 : Int32.ofInt 55 = nI 55 := rfl
theorem oI_59 : Int32.ofInt 59 = nI 59 := rfl
theorem oI_63 : Int32.ofInt 63 = nI 63 := rfl
theorem oI_64 : Int32.ofInt 64 = nI 64 := rfl
theorem oI_70 : Int32.ofInt 70 = nI 70 := rfl
theorem oI_72 : Int32.ofInt 72 = nI 72 := rfl
theorem oI_97 : Int32.ofInt 97 = nI 97 := rfl
theorem oI_102 : Int32.ofInt 102 = nI 102 := rfl
theorem oI_103 : Int32.ofInt 103 = nI 103 := rfl
theorem oI_124 : Int32.ofInt 124 = nI 124 := rfl
theorem oI_126 : Int32.ofInt 126 = nI 126 := rfl
theorem oI_256 : Int32.ofInt 256 = nI 256 := rfl
theorem oI_512 : Int32.ofInt 512 = nI 512 := rfl
theorem oI_513 : Int32.ofInt 513 = nI 513 := rfl
theorem oI_4096 : Int32.ofInt 4096 = nI 4096 := rfl
theorem oI_13122 : Int32.ofInt 13122 = nI 13122 := rfl
theorem oI_1000000000 : Int32.ofInt 1000000000 = nI 1000000000 := rfl
theorem oI_1431655765 : Int32.ofInt 1431655765 = nI 1431655765 := rfl
theorem oI_252645135 : Int32.ofInt 252645135 = nI 252645135 := rfl
theorem oI_858993459 : Int32.ofInt 858993459 = nI 858993459 := rfl
theorem mc_8 : mci 8 = 7 := rfl
theorem mc_9 : mci 9 = 7 := rfl
theorem mc_11 : mci 11 = 4 := rfl
theorem mc_12 : mci 12 = 4 := rfl
theorem mc_13 : mci 13 = 7 := rfl
theorem mc_14 : mci 14 = 4 := rfl
theorem mc_15 : mci 15 = 4 := rfl
theorem mc_17 : mci 17 = 7 := rfl
theorem mc_18 : mci 18 = 4 := rfl
theorem mc_20 : mci 20 = 4 := rfl
theorem mc_21 : mci 21 = 7 := rfl
theorem mc_22 : mci 22 = 7 := rfl
theorem mc_23 : mci 23 = 4 := rfl
theorem mc_24 : mci 24 = 7 := rfl
theorem mc_25 : mci 25 = 4 := rfl
theorem mc_26 : mci 26 = 7 := rfl
theorem mc_27 : mci 27 = 4 := rfl
theorem mc_28 : mci 28 = 7 := rfl
theorem mc_29 : mci 29 = 7 := rfl
theorem mc_30 : mci 30 = 7 := rfl
theorem mc_31 : mci 31 = 7 := rfl
theorem mc_32 : mci 32 = 3 := rfl
theorem mc_33 : mci 33 = 3 := rfl
theorem mc_34 : mci 34 = 4 := rfl
theorem mc_35 : mci 35 = 3 := rfl
theorem mc_36 : mci 36 = 7 := rfl
theorem mc_37 : mci 37 = 7 := rfl
theorem mc_38 : mci 38 = 7 := rfl
theorem mc_39 : mci 39 = 3 := rfl
theorem mc_40 : mci 40 = 7 := rfl
theorem mc_41 : mci 41 = 3 := rfl
theorem mc_42 : mci 42 = 7 := rfl
theorem mc_43 : mci 43 = 3 := rfl
theorem mc_44 : mci 44 = 7 := rfl
theorem mc_45 : mci 45 = 3 := rfl
theorem mc_46 : mci 46 = 3 := rfl
theorem mc_47 : mci 47 = 7 := rfl
theorem mc_48 : mci 48 = 3 := rfl
theorem mc_49 : mci 49 = 7 := rfl
theorem mc_50 : mci 50 = 7 := rfl
theorem mc_51 : mci 51 = 3 := rfl
theorem mc_52 : mci 52 = 3 := rfl
theorem mc_53 : mci 53 = 3 := rfl
theorem mc_54 : mci 54 = 7 := rfl
theorem mc_55 : mci 55 = 3 := rfl
theorem mc_57 : mci 57 = 7 := rfl
theorem mc_58 : mci 58 = 7 := rfl
theorem mc_59 : mci 59 = 3 := rfl
theorem mc_60 : mci 60 = 3 := rfl
theorem mc_61 : mci 61 = 7 := rfl
theorem mc_62 : mci 62 = 7 := rfl
theorem mc_63 : mci 63 = 3 := rfl
theorem mc_65 : mci 65 = 3 := rfl
theorem mc_68 : mci 68 = 7 := rfl
theorem mc_69 : mci 69 = 3 := rfl
theorem mc_70 : mci 70 = 7 := rfl
theorem mc_71 : mci 71 = 7 := rfl
theorem mc_72 : mci 72 = 7 := rfl
theorem mc_73 : mci 73 = 7 := rfl
theorem mc_75 : mci 75 = 0 := rfl
theorem mc_76 : mci 76 = 0 := rfl
theorem mc_77 : mci 77 = 0 := rfl
theorem mc_78 : mci 78 = 0 := rfl
theorem mc_80 : mci 80 = 0 := rfl
theorem mc_81 : mci 81 = 0 := rfl
theorem mc_82 : mci 82 = 0 := rfl
theorem mc_83 : mci 83 = 0 := rfl
theorem mc_84 : mci 84 = 0 := rfl
theorem mc_85 : mci 85 = 0 := rfl
theorem mc_86 : mci 86 = 7 := rfl
theorem mc_87 : mci 87 = 7 := rfl
theorem mc_88 : mci 88 = 0 := rfl
theorem mc_89 : mci 89 = 7 := rfl
theorem mc_90 : mci 90 = 6 := rfl
theorem mc_91 : mci 91 = 6 := rfl
theorem mc_93 : mci 93 = 6 := rfl
theorem mc_94 : mci 94 = 6 := rfl
theorem mc_95 : mci 95 = 6 := rfl
theorem mc_96 : mci 96 = 6 := rfl
theorem mc_97 : mci 97 = 6 := rfl
theorem mc_98 : mci 98 = 7 := rfl
theorem mc_99 : mci 99 = 6 := rfl
theorem mc_100 : mci 100 = 7 := rfl
theorem mc_101 : mci 101 = 6 := rfl
theorem mc_103 : mci 103 = 7 := rfl
theorem mc_104 : mci 104 = 4 := rfl
theorem mc_105 : mci 105 = 4 := rfl
theorem mc_106 : mci 106 = 4 := rfl
theorem mc_107 : mci 107 = 4 := rfl
theorem mc_108 : mci 108 = 7 := rfl
theorem mc_109 : mci 109 = 2 := rfl
theorem mc_110 : mci 110 = 7 := rfl
theorem mc_111 : mci 111 = 2 := rfl
theorem mc_112 : mci 112 = 7 := rfl
theorem mc_113 : mci 113 = 2 := rfl
theorem mc_114 : mci 114 = 2 := rfl
theorem mc_115 : mci 115 = 7 := rfl
theorem mc_116 : mci 116 = 5 := rfl
theorem mc_117 : mci 117 = 5 := rfl
theorem mc_118 : mci 118 = 5 := rfl
theorem mc_120 : mci 120 = 5 := rfl
theorem mc_121 : mci 121 = 5 := rfl
theorem mc_122 : mci 122 = 5 := rfl
theorem mc_123 : mci 123 = 5 := rfl
theorem mc_124 : mci 124 = 7 := rfl
theorem mc_125 : mci 125 = 7 := rfl
theorem mc_126 : mci 126 = 1 := rfl
theorem mc_127 : mci 127 = 7 := rfl
theorem mc_128 : mci 128 = 1 := rfl
theorem mc_131 : mci 131 = 1 := rfl
theorem mc_132 : mci 132 = 1 := rfl
theorem mc_133 : mci 133 = 1 := rfl
theorem mc_134 : mci 134 = 1 := rfl
theorem mc_135 : mci 135 = 1 := rfl
theorem mc_136 : mci 136 = 1 := rfl
theorem mc_137 : mci 137 = 1 := rfl
theorem mc_138 : mci 138 = 1 := rfl
theorem mc_139 : mci 139 = 1 := rfl
theorem mc_140 : mci 140 = 7 := rfl
theorem mc_141 : mci 141 = 4 := rfl
theorem mc_142 : mci 142 = 2 := rfl
theorem mc_143 : mci 143 = 7 := rfl
theorem mc_147 : mci 147 = 10 := rfl
theorem mc_151 : mci 151 = 9 := rfl
theorem mc_152 : mci 152 = 10 := rfl
theorem mc_153 : mci 153 = 10 := rfl
theorem mc_155 : mci 155 = 10 := rfl
theorem mc_156 : mci 156 = 9 := rfl
theorem mc_157 : mci 157 = 9 := rfl
theorem mc_158 : mci 158 = 10 := rfl
theorem mc_159 : mci 159 = 9 := rfl
theorem mc_160 : mci 160 = 10 := rfl
theorem mc_161 : mci 161 = 10 := rfl
theorem mc_162 : mci 162 = 10 := rfl
theorem mc_163 : mci 163 = 9 := rfl
theorem mc_164 : mci 164 = 10 := rfl
theorem mc_165 : mci 165 = 10 := rfl
theorem mc_166 : mci 166 = 10 := rfl
theorem mc_167 : mci 167 = 10 := rfl
theorem mc_168 : mci 168 = 9 := rfl
theorem mc_169 : mci 169 = 10 := rfl
theorem mc_170 : mci 170 = 10 := rfl
theorem mc_171 : mci 171 = 9 := rfl
theorem mc_172 : mci 172 = 10 := rfl
theorem mc_173 : mci 173 = 10 := rfl
theorem mc_174 : mci 174 = 9 := rfl
theorem mc_175 : mci 175 = 9 := rfl
theorem mc_176 : mci 176 = 10 := rfl
theorem mc_177 : mci 177 = 10 := rfl
theorem mc_178 : mci 178 = 9 := rfl
theorem mc_179 : mci 179 = 10 := rfl
theorem mc_180 : mci 180 = 10 := rfl
theorem mc_181 : mci 181 = 10 := rfl
theorem mc_182 : mci 182 = 9 := rfl
theorem mc_183 : mci 183 = 10 := rfl
theorem mc_184 : mci 184 = 9 := rfl
theorem mc_185 : mci 185 = 9 := rfl
theorem mc_186 : mci 186 = 9 := rfl
theorem mc_187 : mci 187 = 10 := rfl
theorem mc_188 : mci 188 = 10 := rfl
theorem mc_189 : mci 189 = 10 := rfl
theorem mc_190 : mci 190 = 10 := rfl
theorem mc_191 : mci 191 = 10 := rfl
theorem mc_194 : mci 194 = 10 := rfl
theorem mc_195 : mci 195 = 10 := rfl
theorem mc_196 : mci 196 = 10 := rfl
theorem mc_197 : mci 197 = 10 := rfl
theorem mc_198 : mci 198 = 10 := rfl
theorem mc_199 : mci 199 = 10 := rfl
theorem mc_200 : mci 200 = 10 := rfl
theorem mc_202 : mci 202 = 10 := rfl
theorem mc_203 : mci 203 = 10 := rfl
theorem mc_204 : mci 204 = 10 := rfl
theorem mc_205 : mci 205 = 10 := rfl
theorem mc_206 : mci 206 = 10 := rfl
theorem mc_207 : mci 207 = 10 := rfl
theorem mc_208 : mci 208 = 8 := rfl
theorem mc_209 : mci 209 = 8 := rfl
theorem mc_210 : mci 210 = 8 := rfl
theorem mc_211 : mci 211 = 10 := rfl
theorem mc_212 : mci 212 = 10 := rfl
theorem mc_213 : mci 213 = 10 := rfl
theorem mc_214 : mci 214 = 10 := rfl
theorem mc_215 : mci 215 = 10 := rfl
theorem mc_216 : mci 216 = 10 := rfl
theorem mc_217 : mci 217 = 10 := rfl
theorem mc_218 : mci 218 = 10 := rfl
theorem mc_219 : mci 219 = 10 := rfl
theorem mc_220 : mci 220 = 10 := rfl
theorem mc_221 : mci 221 = 10 := rfl
theorem mc_222 : mci 222 = 10 := rfl
theorem mc_223 : mci 223 = 10 := rfl
theorem mc_224 : mci 224 = 10 := rfl
theorem mc_225 : mci 225 = 10 := rfl
theorem mc_226 : mci 226 = 10 := rfl
theorem mc_227 : mci 227 = 10 := rfl
theorem mc_228 : mci 228 = 10 := rfl
theorem mc_229 : mci 229 = 10 := rfl
theorem mc_230 : mci 230 = 10 := rfl
theorem mc_231 : mci 231 = 10 := rfl
theorem mc_232 : mci 232 = 10 := rfl
theorem mc_233 : mci 233 = 10 := rfl
theorem mc_235 : mci 235 = 10 := rfl
theorem mc_236 : mci 236 = 10 := rfl
theorem d_10 : decide ((1 : Nat) = 0) = false := rfl
theorem d_00 : decide ((0 : Nat) = 0) = true := rfl
theorem cn_b {p : Bool} {P : Int32 → Prop} : cnd p (P (nI 1)) (P (nI 0)) = P (b2i p) := by
  cases p
  · exact propext ⟨fun q => q.2 rfl, fun q => ⟨(fun e => by cases e), fun _ => q⟩⟩
  · exact propext ⟨fun q => q.1 rfl, fun q => ⟨fun _ => q, fun e => by cases e⟩⟩
theorem cn_t {A B : Prop} : cnd true A B = A := propext ⟨fun q => q.1 rfl, fun q => ⟨fun _ => q, fun e => by cases e⟩⟩
theorem cn_f {A B : Prop} : cnd false A B = B := propext ⟨fun q => q.2 rfl, fun q => ⟨(fun e => by cases e), fun _ => q⟩⟩
theorem cn_n {p : Bool} {A B : Prop} : cnd (!p) A B = cnd p B A := by cases p <;> simp only [Bool.not_true, Bool.not_false, cn_t, cn_f]
theorem cn_d {p : Prop} [Decidable p] {A B : Prop} : cnd (decide p) A B = ((p → A) ∧ (¬ p → B)) := by
  unfold cnd
  rw [decide_eq_true_eq, decide_eq_false_iff_not]
theorem cn_i {p : Prop} [Decidable p] {A B : Prop} (h1 : p → A) (h2 : ¬ p → B) : cnd (decide p) A B := by
  rw [cn_d]
  exact ⟨h1, h2⟩
theorem cn_y {p : Prop} [Decidable p] {A B : Prop} (h : p) (h1 : A) : cnd (decide p) A B := cn_i (fun _ => h1) (fun q => absurd h q)
theorem cn_o {p : Prop} [Decidable p] {A B : Prop} (h : ¬ p) (h1 : B) : cnd (decide p) A B := cn_i (fun q => absurd q h) (fun _ => h1)
/-- a loop with an invariant on a number that goes up to N at most -/
theorem whl_i {c : XC} {a : ST} {g : GE} {Q : LE → FH → Bd → Prop} {R : Option Value → FH → Prop} {env : LE} {h : FH} {b : Bd} (N : Nat) (I : Nat → LE → FH → Bd → Prop) (h0 : I 0 env h b)
    (step : ∀ (i : Nat) (e : LE) (h : FH) (b : Bd), I i e h b → ∀ J : LE → FH → Bd → Prop, (i < N → ∀ (e : LE) (h : FH) (b : Bd), I (i + 1) e h b → J e h b) → c.2 g (fun v h' b' => cnd v (a.2 g J R e h' b') (Q e h' b')) e h b) : (s_whl c a).2 g Q R env h b := by
  refine ⟨fun n e h b => ∃ i, n = N - i ∧ I i e h b, ⟨N - 0, 0, rfl, h0⟩, fun n e h b hi => ?_⟩
  obtain ⟨i, rfl, hI⟩ := hi
  exact step i e h b hI _ (fun hN e h b hI => ⟨N - (i + 1), by omega, i + 1, rfl, hI⟩)
/-- a loop whose state is known at every turn -/
theorem whl_d {c : XC} {a : ST} {g : GE} {Q : LE → FH → Bd → Prop} {R : Option Value → FH → Prop} {env : LE} {h : FH} {b : Bd} (N : Nat) (S : Nat → LE × FH × Bd) (h0 : (env, h, b) = S 0)
    (step : ∀ i : Nat, i ≤ N → ∀ J : LE → FH → Bd → Prop, (i < N → J (S (i + 1)).1 (S (i + 1)).2.1 (S (i + 1)).2.2) → c.2 g (fun v h' b' => cnd v (a.2 g J R (S i).1 h' b') (Q (S i).1 h' b')) (S i).1 (S i).2.1 (S i).2.2) : (s_whl c a).2 g Q R env h b := by
  refine whl_i N (fun i e h b => i ≤ N ∧ (e, h, b) = S i) ⟨Nat.zero_le _, h0⟩ (fun i e h b hI J hJ => ?_)
  obtain ⟨hi, hS⟩ := hI
  have := step i hi J (fun hN => hJ hN _ _ _ ⟨hN, rfl⟩)
  rw [← hS] at this
  exact this
/-- a loop that leaves the heap as it is -/
theorem whl_p {c : XC} {a : ST} {g : GE} {Q : LE → FH → Bd → Prop} {R : Option Value → FH → Prop} {env : LE} {h : FH} {b : Bd} (N : Nat) (E : Nat → LE) (h0 : env = E 0)
    (step : ∀ i : Nat, i ≤ N → ∀ J : LE → FH → Bd → Prop, (i < N → J (E (i + 1)) h b) → c.2 g (fun v h' b' => cnd v (a.2 g J R (E i) h' b') (Q (E i) h' b')) (E i) h b) : (s_whl c a).2 g Q R env h b :=
  whl_d N (fun i => (E i, h, b)) (by rw [h0]) step
/-- contracts -/
theorem CQ_p {k d : Nat} {g : GE} {av : List Value} {Q : Option Value → FH → Bd → Prop} {h : FH} {b : Bd} {B : (Option Value → FH → Prop) → Prop} (w : Option Value) (C : ∀ Rr : Option Value → FH → Prop, B Rr → Call k d av h 0 0 Rr) (hd : d < g.1) (body : ∀ Rr : Option Value → FH → Prop, Rr w h → B Rr) (hq : Q w h b) : CallQ k g av Q h b :=
  ⟨d, 0, 0, fun v h' => v = w ∧ h' = h, hd, Nat.zero_le _, Nat.zero_le _, C _ (body _ ⟨rfl, rfl⟩), fun v h' e => by
    obtain ⟨rfl, rfl⟩ := e
    exact hq⟩
theorem CQ_g {k d : Nat} {g : GE} {av : List Value} {Q : Option Value → FH → Bd → Prop} {h : FH} {b : Bd} {B : (Option Value → FH → Prop) → Prop} (mc ms : Nat) (Rr : Option Value → FH → Prop) (C : ∀ Rr : Option Value → FH → Prop, B Rr → Call k d av h mc ms Rr) (hd : d < g.1) (h1 : mc ≤ b.1) (h2 : ms ≤ b.2) (body : B Rr) (hq : ∀ v h', Rr v h' → Q v h' (b.1 - mc, b.2 - ms)) : CallQ k g av Q h b :=
  ⟨d, mc, ms, Rr, hd, h1, h2, C _ body, hq⟩
theorem CQ_h {k d : Nat} {g : GE} {av : List Value} {Q : Option Value → FH → Bd → Prop} {h : FH} {b : Bd} {B : (Option Value → FH → Prop) → Prop} (w : Option Value) (P : FH → Prop) (C : ∀ Rr : Option Value → FH → Prop, B Rr → Call k d av h 0 0 Rr) (hd : d < g.1) (body : ∀ Rr : Option Value → FH → Prop, (∀ h', P h' → Rr w h') → B Rr) (hq : ∀ h', P h' → Q w h' b) : CallQ k g av Q h b :=
  ⟨d, 0, 0, fun v h' => v = w ∧ P h', hd, Nat.zero_le _, Nat.zero_le _, C _ (body _ fun h' q => ⟨rfl, q⟩), fun v h' e => by
    obtain ⟨rfl, e⟩ := e
    exact hq _ e⟩
def FrO (lo n : Nat) (h h' : FH) : Prop := h'.1 = h.1 ∧ ∀ x, (x < lo ∨ lo + n ≤ x) → h'.2 x = h.2 x
theorem FrO.refl {lo n : Nat} {h : FH} : FrO lo n h h := ⟨rfl, fun _ _ => rfl⟩
theorem FrO.trans {lo n : Nat} {h h' h'' : FH} (a : FrO lo n h h') (b : FrO lo n h' h'') : FrO lo n h h'' := ⟨b.1.trans a.1, fun x hx => (b.2 x hx).trans (a.2 x hx)⟩
theorem FrO.set {lo n a : Nat} {h : FH} {c : FC} (h1 : lo ≤ a) (h2 : a < lo + n) : FrO lo n h (hset h a c) := ⟨rfl, fun x hx => hs_ne (by omega)⟩
theorem FrO.mono {lo n lo' n' : Nat} {h h' : FH} (a : FrO lo n h h') (h1 : lo' ≤ lo) (h2 : lo + n ≤ lo' + n') : FrO lo' n' h h' := ⟨a.1, fun x hx => a.2 x (by omega)⟩

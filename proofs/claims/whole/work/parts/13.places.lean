/-! places in the table of methods -/
theorem mtb_0 {i : Nat} (hi : i < MTB_0.length) : MTB[0 + i]? = MTB_0[i]? := by
  unfold MTB
  rw [Nat.zero_add]
  rw [List.getElem?_append_left hi]
theorem mtb_1 {i : Nat} (hi : i < MTB_1.length) : MTB[40 + i]? = MTB_1[i]? := by
  unfold MTB
  rw [List.getElem?_append_right (by show 40 ≤ _; omega), show 40 + i - MTB_0.length = 0 + i from (by show 40 + i - 40 = _; omega)]
  rw [Nat.zero_add]
  rw [List.getElem?_append_left hi]
theorem mtb_2 {i : Nat} (hi : i < MTB_2.length) : MTB[80 + i]? = MTB_2[i]? := by
  unfold MTB
  rw [List.getElem?_append_right (by show 40 ≤ _; omega), show 80 + i - MTB_0.length = 40 + i from (by show 80 + i - 40 = _; omega)]
  rw [List.getElem?_append_right (by show 40 ≤ _; omega), show 40 + i - MTB_1.length = 0 + i from (by show 40 + i - 40 = _; omega)]
  rw [Nat.zero_add]
  rw [List.getElem?_append_left hi]
theorem mtb_3 {i : Nat} (hi : i < MTB_3.length) : MTB[120 + i]? = MTB_3[i]? := by
  unfold MTB
  rw [List.getElem?_append_right (by show 40 ≤ _; omega), show 120 + i - MTB_0.length = 80 + i from (by show 120 + i - 40 = _; omega)]
  rw [List.getElem?_append_right (by show 40 ≤ _; omega), show 80 + i - MTB_1.length = 40 + i from (by show 80 + i - 40 = _; omega)]
  rw [List.getElem?_append_right (by show 40 ≤ _; omega), show 40 + i - MTB_2.length = 0 + i from (by show 40 + i - 40 = _; omega)]
  rw [Nat.zero_add]
  rw [List.getElem?_append_left hi]
theorem mtb_4 {i : Nat} (hi : i < MTB_4.length) : MTB[160 + i]? = MTB_4[i]? := by
  unfold MTB
  rw [List.getElem?_append_right (by show 40 ≤ _; omega), show 160 + i - MTB_0.length = 120 + i from (by show 160 + i - 40 = _; omega)]
  rw [List.getElem?_append_right (by show 40 ≤ _; omega), show 120 + i - MTB_1.length = 80 + i from (by show 120 + i - 40 = _; omega)]
  rw [List.getElem?_append_right (by show 40 ≤ _; omega), show 80 + i - MTB_2.length = 40 + i from (by show 80 + i - 40 = _; omega)]
  rw [List.getElem?_append_right (by show 40 ≤ _; omega), show 40 + i - MTB_3.length = 0 + i from (by show 40 + i - 40 = _; omega)]
  rw [Nat.zero_add]
  rw [List.getElem?_append_left hi]
theorem mtb_5 {i : Nat} (hi : i < MTB_5.length) : MTB[200 + i]? = MTB_5[i]? := by
  unfold MTB
  rw [List.getElem?_append_right (by show 40 ≤ _; omega), show 200 + i - MTB_0.length = 160 + i from (by show 200 + i - 40 = _; omega)]
  rw [List.getElem?_append_right (by show 40 ≤ _; omega), show 160 + i - MTB_1.length = 120 + i from (by show 160 + i - 40 = _; omega)]
  rw [List.getElem?_append_right (by show 40 ≤ _; omega), show 120 + i - MTB_2.length = 80 + i from (by show 120 + i - 40 = _; omega)]
  rw [List.getElem?_append_right (by show 40 ≤ _; omega), show 80 + i - MTB_3.length = 40 + i from (by show 80 + i - 40 = _; omega)]
  rw [List.getElem?_append_right (by show 40 ≤ _; omega), show 40 + i - MTB_4.length = 0 + i from (by show 40 + i - 40 = _; omega)]
  rw [Nat.zero_add]
theorem call_of2 {k d mc ms own kind na nL p' : Nat} {y : MethodName} {cc : ByteArray} {rt : Option FieldType} {mp : MP} {av : List Value} {h : FH} {Rr : Option Value → FH → Prop} {s : ST} (hr : MTB[k]? = some (((y, cc, nL, rt), (kind, na)), mp)) (hp : plainName y.cls = true) (hown : cnm own = y.cls) (hs : OKS s) (hc : s.1 (own, kini kind, cc, rt, nL) 0 = some (p', false, [])) (hlen : (lg_sl av).length ≤ nL)
    (body : ∀ g : GE, g.1 = d → s.2 g (fun _ _ _ => False) Rr (eent nL av) h (mc, ms)) : Call k d av h mc ms Rr := call_of (r := (((y, cc, nL, rt), (kind, na)), mp)) hr hp hown hs hc hlen body

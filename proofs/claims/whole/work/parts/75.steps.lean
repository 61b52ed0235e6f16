/-! PURE: text, the model's machine steps -/
def MS (c : Nat) (W W' : xV) : Prop := ∀ f, g_Md_text_102 (f + c) W = g_Md_text_102 f W'
theorem MS.rf (W : xV) : MS 0 W W := fun _ => rfl
theorem MS.tr {a b : Nat} {W W1 W2 : xV} (h1 : MS a W W1) (h2 : MS b W1 W2) : MS (a + b) W W2 := fun f => by rw [show f + (a + b) = (f + b) + a by omega, h1, h2]
theorem MS.s0 {W W' : xV} (h1 : W 65 16 = 0) (h2 : W 65 25 = nI 0) (h : f_Md_asks W = some W') : MS 1 W W' := fun f => by
  show b_Md_text_102 _ _ = _
  unfold b_Md_text_102 b_Md_text_124
  rw [h1, h2, if_neg (fun z => z rfl), if_pos (by decide), if_pos (by decide), h, Option.bind_some]
theorem MS.s1 {W W' : xV} (h1 : W 65 16 = 0) (h2 : W 65 25 = nI 1) (h : f_Md_begins W = some W') : MS 1 W W' := fun f => by
  show b_Md_text_102 _ _ = _
  unfold b_Md_text_102 b_Md_text_124
  rw [h1, h2, if_neg (fun z => z rfl), if_pos (by decide), if_neg (by decide), if_pos (by decide), h, Option.bind_some]
theorem MS.s2 {W W' : xV} (h1 : W 65 16 = 0) (h2 : W 65 25 = nI 2) (h : f_Md_goesOn W = some W') : MS 1 W W' := fun f => by
  show b_Md_text_102 _ _ = _
  unfold b_Md_text_102 b_Md_text_124
  rw [h1, h2, if_neg (fun z => z rfl), if_pos (by decide), if_neg (by decide), if_neg (by decide), if_pos (by decide), h, Option.bind_some]
theorem MS.s3 {W W' : xV} (h1 : W 65 16 = 0) (h2 : W 65 25 = nI 3) (h : f_Md_asksOn W = some W') : MS 1 W W' := fun f => by
  show b_Md_text_102 _ _ = _
  unfold b_Md_text_102 b_Md_text_124
  rw [h1, h2, if_neg (fun z => z rfl), if_pos (by decide), if_neg (by decide), if_neg (by decide), if_neg (by decide), if_pos (by decide), h, Option.bind_some]
theorem MS.s4 {W W' : xV} (h1 : W 65 16 = 0) (h2 : W 65 25 = nI 4) (h3 : ¬ W 65 14 = 0) (h : f_Md_clause W = some W') : MS 1 W W' := fun f => by
  show b_Md_text_102 _ _ = _
  unfold b_Md_text_102 b_Md_text_124
  rw [h1, h2, if_neg (fun z => z rfl), if_neg (fun z => z (by decide)), if_neg h3, if_neg (by decide), if_neg (by decide), if_neg (by decide), if_neg (by decide), h, Option.bind_some]

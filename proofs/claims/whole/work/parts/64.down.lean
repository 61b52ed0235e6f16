/-! PURE: plan, the search of the class goes down -/
theorem FW.up {V W : xV} {R : Nat → Int32} {st : Int32 × Int32 × Int32} (h : FW V W R st) (k : Nat) (v : Int32) : FW V (x2 W 59 k v) (upR R k v) st := by
  obtain ⟨a1, a2, a3, a4, a5, a6, a7⟩ := h
  refine ⟨fun i hi => ?_, by rw [x2_ne (by decide)]; exact a2, by rw [x2_ne (by decide)]; exact a3, by rw [x2_ne (by decide)]; exact a4, by rw [x2_ne (by decide)]; exact a5, by rw [x2_ne (by decide)]; exact a6, fun r r1 r2 => by rw [x2_ne r2]; exact a7 r r1 r2⟩
  unfold upR
  by_cases c : i = k
  · subst c; rw [x2_at, if_pos rfl]
  · rw [x2_off (by omega), if_neg c]; exact a1 i hi
theorem upR_back (R : Nat → Int32) (k : Nat) (v : Int32) : upR (upR R k v) k (R k) = R := by
  funext i
  unfold upR
  by_cases c : i = k
  · rw [if_pos c, c]
  · rw [if_neg c, if_neg c]
theorem upR_up (R : Nat → Int32) (k : Nat) (v u : Int32) : upR (upR R k v) k u = upR R k u := by
  funext i
  unfold upR
  by_cases c : i = k
  · rw [if_pos c, if_pos c]
  · rw [if_neg c, if_neg c, if_neg c]

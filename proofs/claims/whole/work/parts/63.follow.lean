/-! PURE: plan, the search of the class -/
def upR (R : Nat → Int32) (k : Nat) (v : Int32) : Nat → Int32 := fun i => if i = k then v else R i
def lf (g pt : Int32) (st : Int32 × Int32 × Int32) : Int32 × Int32 × Int32 := if st.1 = 0 then (1, g, pt) else if g ≤ st.2.1 then st else (1, g, pt)
def foS (gn : Nat → Int32) (sn : Nat → Nat) : Nat → Nat → (Nat → Int32) → Nat → Int32 → Int32 → Int32 × Int32 × Int32 → Int32 × Int32 × Int32
  | 0, _, _, _, g, pt, st => lf g pt st
  | r + 1, k, R, l, g, pt, st =>
    (fun st0 => if R (10 * l + sn k) = -1 ∨ R (10 * l + sn k) = 1 then foS gn sn r (k + 1) (upR R (10 * l + sn k) 1) 1 (g + gn (2 * k + 1)) (pt ||| (1 <<< (nI k &&& 31))) st0 else st0)
      (if R (10 * l + sn k) = -1 ∨ R (10 * l + sn k) = 0 then foS gn sn r (k + 1) (upR R (10 * l + sn k) 0) 0 (g + gn (2 * k)) (pt ||| (0 <<< (nI k &&& 31))) st else st)
def FW (V W : xV) (R : Nat → Int32) (st : Int32 × Int32 × Int32) : Prop := (∀ i, i < 20 → W 59 i = R i) ∧ W 57 8 = st.1 ∧ W 57 0 = st.2.1 ∧ W 57 1 = st.2.2 ∧ W 57 6 = V 57 6 ∧ W 57 7 = V 57 7 ∧ ∀ r, r ≠ 57 → r ≠ 59 → W r = V r
theorem leaf_c {V W : xV} {R : Nat → Int32} {st : Int32 × Int32 × Int32} (rr : Int32 → Int32 → Int32 → Int32 → xV → Option xV) (h : FW V W R st) (g pt : Int32) : ∃ W', b_Planner_follow_14 rr g pt W = some W' ∧ FW V W' R (lf g pt st) := by
  obtain ⟨a1, a2, a3, a4, a5, a6, a7⟩ := h
  have new : FW V (x2 (x2 (x2 W 57 8 1) 57 0 g) 57 1 pt) R (1, g, pt) := ⟨fun i hi => by rw [x2_ne (by decide), x2_ne (by decide), x2_ne (by decide)]; exact a1 i hi, by simp [x2], by simp [x2], by simp [x2], by simp [x2]; exact a5, by simp [x2]; exact a6, fun r r1 r2 => by rw [x2_ne r1, x2_ne r1, x2_ne r1]; exact a7 r r1 r2⟩
  unfold b_Planner_follow_14 b_Planner_follow_29 lf
  rw [a2, a3]
  by_cases c : st.1 = 0
  · exact ⟨_, by rw [if_pos c], by rw [if_pos c]; exact new⟩
  · by_cases c2 : g ≤ st.2.1
    · exact ⟨W, by rw [if_neg c, if_pos c2], by rw [if_neg c, if_pos c2]; exact ⟨a1, a2, a3, a4, a5, a6, a7⟩⟩
    · exact ⟨_, by rw [if_neg c, if_neg c2], by rw [if_neg c, if_neg c2]; exact new⟩

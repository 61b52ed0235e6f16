/-! PURE: numbers that clauses come to -/
def iI (x : Int) : Int32 := Int32.ofInt x
def lI (x : Int) : Int64 := Int64.ofInt x
def mil (x : Int) : Prop := -1000000 ≤ x ∧ x ≤ 1000000
def bit (x : Int) : Prop := x = 0 ∨ x = 1
def bnd (x : Int) : Int := if 1000000 < x then 1000000 else if x < -1000000 then -1000000 else x
theorem bnd_mil (x : Int) : mil (bnd x) := by unfold mil bnd; split <;> (try split) <;> omega
theorem mil_bnd {x : Int} (h : mil x) : bnd x = x := by unfold mil at h; unfold bnd; rw [if_neg (by omega), if_neg (by omega)]
theorem bit_mil {x : Int} (h : bit x) : mil x := by unfold bit at h; unfold mil; omega
theorem lI_toInt {x : Int} (h1 : -4000000000000 ≤ x) (h2 : x ≤ 4000000000000) : (lI x).toInt = x := Int64.toInt_ofInt_of_le (by omega) (by omega)
theorem iI_toInt {x : Int} (h1 : -2000000000 ≤ x) (h2 : x ≤ 2000000000) : (iI x).toInt = x := Int32.toInt_ofInt_of_le (by omega) (by omega)
theorem iI_l {x : Int} (h : mil x) : (iI x).toInt64 = lI x := by
  unfold mil at h
  exact Int32.toInt64_ofInt (by rw [show Int32.minValue.toInt = -2147483648 by decide]; omega) (by rw [show Int32.maxValue.toInt = 2147483647 by decide]; omega)
theorem lI_i (x : Int) : (lI x).toInt32 = iI x := Int64.toInt32_ofInt
theorem nI_iI (n : Nat) : nI n = iI (n : Int) := by
  unfold nI iI
  exact (Int32.ofInt_eq_ofNat).symm
def big (x : Int) : Prop := -4000000000000 ≤ x ∧ x ≤ 4000000000000
theorem lI_lt {x y : Int} (hx : big x) (hy : big y) : lI x < lI y ↔ x < y := by rw [Int64.lt_iff_toInt_lt, lI_toInt hx.1 hx.2, lI_toInt hy.1 hy.2]
theorem lI_le {x y : Int} (hx : big x) (hy : big y) : lI x ≤ lI y ↔ x ≤ y := by rw [Int64.le_iff_toInt_le, lI_toInt hx.1 hx.2, lI_toInt hy.1 hy.2]
theorem lI_eq {x y : Int} (hx : big x) (hy : big y) : lI x = lI y ↔ x = y := by rw [← Int64.toInt_inj, lI_toInt hx.1 hx.2, lI_toInt hy.1 hy.2]
theorem mil_big {x : Int} (h : mil x) : big x := by unfold mil at h; unfold big; omega
theorem c_ge {x y : Int} (hx : big x) (hy : big y) : (0 ≤ lg_cmp (lI x) (lI y)) ↔ y ≤ x := by rw [lg_cmp_ge, lI_le hy hx]
theorem c_le {x y : Int} (hx : big x) (hy : big y) : (lg_cmp (lI x) (lI y) ≤ 0) ↔ x ≤ y := by rw [lg_cmp_le, lI_le hx hy]
theorem c_gt {x y : Int} (hx : big x) (hy : big y) : (0 < lg_cmp (lI x) (lI y)) ↔ y < x := by rw [lg_cmp_gt, lI_lt hy hx]
theorem c_lt {x y : Int} (hx : big x) (hy : big y) : (lg_cmp (lI x) (lI y) < 0) ↔ x < y := by rw [lg_cmp_lt, lI_lt hx hy]
theorem c_eq {x y : Int} (hx : big x) (hy : big y) : (lg_cmp (lI x) (lI y) = 0) ↔ x = y := by rw [lg_cmp_eq, lI_eq hx hy]
theorem held_c {x : Int} (hx : big x) : f_Bench_held (lI x) = iI (bnd x) := by
  have b1 : big 1000000 := by unfold big; omega
  have b2 : big (-1000000) := by unfold big; omega
  show (if lg_cmp (lI x) (lI 1000000) ≤ 0 then (if 0 ≤ lg_cmp (lI x) (lI (-1000000)) then (lI x).toInt32 else iI (-1000000)) else iI 1000000) = _
  unfold bnd
  by_cases h1 : x ≤ 1000000
  · rw [if_pos ((c_le hx b1).mpr h1), if_neg (show ¬ (1000000 : Int) < x by omega)]
    by_cases h2 : -1000000 ≤ x
    · rw [if_pos ((c_ge hx b2).mpr h2), if_neg (by omega), lI_i]
    · rw [if_neg (fun z => h2 ((c_ge hx b2).mp z)), if_pos (by omega)]
  · rw [if_neg (fun z => h1 ((c_le hx b1).mp z)), if_pos (by omega)]
theorem bound_m {x : Int} (hx : big x) : f_Md_bound (lI x) = lI (bnd x) := by
  have b1 : big 1000000 := by unfold big; omega
  have b2 : big (-1000000) := by unfold big; omega
  show (if lg_cmp (lI x) (lI 1000000) ≤ 0 then (if 0 ≤ lg_cmp (lI x) (lI (-1000000)) then lI x else lI (-1000000)) else lI 1000000) = _
  unfold bnd
  by_cases h1 : x ≤ 1000000
  · rw [if_pos ((c_le hx b1).mpr h1), if_neg (show ¬ (1000000 : Int) < x by omega)]
    by_cases h2 : -1000000 ≤ x
    · rw [if_pos ((c_ge hx b2).mpr h2), if_neg (by omega)]
    · rw [if_neg (fun z => h2 ((c_ge hx b2).mp z)), if_pos (by omega)]
  · rw [if_neg (fun z => h1 ((c_le hx b1).mp z)), if_pos (by omega)]
theorem held_m {x : Int} (hx : mil x) (lo hi : Int) (hl : mil lo) (hh : mil hi) (hlh : lo ≤ hi) : f_Md_held (lI x) (iI lo) (iI hi) = iI (if x < lo then lo else if hi < x then hi else x) := by
  unfold f_Md_held
  rw [iI_l hl, iI_l hh]
  by_cases h1 : lo ≤ x
  · rw [if_pos ((c_ge (mil_big hx) (mil_big hl)).mpr h1), if_neg (show ¬ x < lo by omega)]
    by_cases h2 : x ≤ hi
    · rw [if_pos ((c_le (mil_big hx) (mil_big hh)).mpr h2), if_neg (by omega), lI_i]
    · rw [if_neg (fun z => h2 ((c_le (mil_big hx) (mil_big hh)).mp z)), if_pos (by omega)]
  · rw [if_neg (fun z => h1 ((c_ge (mil_big hx) (mil_big hl)).mp z)), if_pos (show x < lo by omega)]
theorem iI_lt {x y : Int} (hx : mil x) (hy : mil y) : iI x < iI y ↔ x < y := by
  unfold mil at hx hy
  rw [Int32.lt_iff_toInt_lt, iI_toInt (by omega) (by omega), iI_toInt (by omega) (by omega)]
theorem iI_le {x y : Int} (hx : mil x) (hy : mil y) : iI x ≤ iI y ↔ x ≤ y := by
  unfold mil at hx hy
  rw [Int32.le_iff_toInt_le, iI_toInt (by omega) (by omega), iI_toInt (by omega) (by omega)]
theorem iI_eq {x y : Int} (hx : mil x) (hy : mil y) : iI x = iI y ↔ x = y := by
  unfold mil at hx hy
  rw [← Int32.toInt_inj, iI_toInt (by omega) (by omega), iI_toInt (by omega) (by omega)]
/-- what an operation comes to -/
def wk (o : Nat) (x y : Int) : Int :=
  if o = 6 then (if 0 < x + y then 1 else 0) else if o = 7 then x * y else if o = 22 then (if x < y then 1 else 0) else if o = 23 then (if x ≤ y then 1 else 0) else if o = 24 then (if y < x then 1 else 0) else if o = 25 then (if y ≤ x then 1 else 0) else if o = 26 then (if x = y then 1 else 0) else if o = 27 then (if x = y then 0 else 1) else if o = 28 then bnd (x + y) else if o = 29 then bnd (x - y) else if o = 30 then bnd (x * y) else if y = 0 then 0 else x.tdiv y
def mo (o : Nat) : Int32 :=
  if o = 6 then 407 else if o = 7 then 406 else if o = 22 then 60 else if o = 23 then 300 else if o = 24 then 62 else if o = 25 then 301 else if o = 26 then 61 else if o = 27 then 35 else if o = 28 then 43 else if o = 29 then 45 else if o = 30 then 42 else 47
def opL (o : Nat) : Prop := o = 6 ∨ o = 7
def opA (o : Nat) : Prop := o = 22 ∨ o = 23 ∨ o = 24 ∨ o = 25 ∨ o = 26 ∨ o = 27
def opS (o : Nat) : Prop := o = 28 ∨ o = 29 ∨ o = 30 ∨ o = 31
theorem wk28 (x y : Int) : wk 28 x y = bnd (x + y) := by unfold wk; rw [if_neg (by decide), if_neg (by decide), if_neg (by decide), if_neg (by decide), if_neg (by decide), if_neg (by decide), if_neg (by decide), if_neg (by decide), if_pos rfl]
theorem wk29 (x y : Int) : wk 29 x y = bnd (x - y) := by unfold wk; rw [if_neg (by decide), if_neg (by decide), if_neg (by decide), if_neg (by decide), if_neg (by decide), if_neg (by decide), if_neg (by decide), if_neg (by decide), if_neg (by decide), if_pos rfl]
theorem wk30 (x y : Int) : wk 30 x y = bnd (x * y) := by unfold wk; rw [if_neg (by decide), if_neg (by decide), if_neg (by decide), if_neg (by decide), if_neg (by decide), if_neg (by decide), if_neg (by decide), if_neg (by decide), if_neg (by decide), if_neg (by decide), if_pos rfl]
theorem wk31 (x y : Int) : wk 31 x y = if y = 0 then 0 else x.tdiv y := by unfold wk; rw [if_neg (by decide), if_neg (by decide), if_neg (by decide), if_neg (by decide), if_neg (by decide), if_neg (by decide), if_neg (by decide), if_neg (by decide), if_neg (by decide), if_neg (by decide), if_neg (by decide)]
theorem Bench_worked_28 (a b : Int64) : f_Bench_worked (nI 28) a b = some (a + b) := by unfold f_Bench_worked; rw [if_neg (by decide), if_neg (by decide), if_neg (by decide), if_neg (by decide), if_neg (by decide), if_neg (by decide), if_neg (by decide), if_neg (by decide), if_pos (by decide)]
theorem Bench_worked_29 (a b : Int64) : f_Bench_worked (nI 29) a b = some (a - b) := by unfold f_Bench_worked; rw [if_neg (by decide), if_neg (by decide), if_neg (by decide), if_neg (by decide), if_neg (by decide), if_neg (by decide), if_neg (by decide), if_neg (by decide), if_neg (by decide), if_pos (by decide)]
theorem Bench_worked_30 (a b : Int64) : f_Bench_worked (nI 30) a b = some (a * b) := by unfold f_Bench_worked; rw [if_neg (by decide), if_neg (by decide), if_neg (by decide), if_neg (by decide), if_neg (by decide), if_neg (by decide), if_neg (by decide), if_neg (by decide), if_neg (by decide), if_neg (by decide), if_pos (by decide)]
theorem Bench_worked_31 (a b : Int64) : f_Bench_worked (nI 31) a b = (if ¬ lg_cmp b 0 = 0 then (if ¬ b = 0 then some (a / b) else none) else some 0) := by unfold f_Bench_worked; rw [if_neg (by decide), if_neg (by decide), if_neg (by decide), if_neg (by decide), if_neg (by decide), if_neg (by decide), if_neg (by decide), if_neg (by decide), if_neg (by decide), if_neg (by decide), if_neg (by decide), if_pos (by decide)]
theorem Md_worked_28 (a b : Int64) : f_Md_worked (mo 28) a b = some (f_Md_bound (a + b)) := by
  rw [show mo 28 = 43 from by decide]; unfold f_Md_worked; rw [if_neg (by decide), if_neg (by decide), if_pos (by decide)]
theorem Md_worked_29 (a b : Int64) : f_Md_worked (mo 29) a b = some (f_Md_bound (a - b)) := by
  rw [show mo 29 = 45 from by decide]; unfold f_Md_worked; rw [if_neg (by decide), if_neg (by decide), if_neg (by decide), if_pos (by decide)]
theorem Md_worked_30 (a b : Int64) : f_Md_worked (mo 30) a b = some (f_Md_bound (a * b)) := by
  rw [show mo 30 = 42 from by decide]; unfold f_Md_worked; rw [if_neg (by decide), if_pos (by decide)]
theorem Md_worked_31 (a b : Int64) : f_Md_worked (mo 31) a b = (if ¬ lg_cmp b 0 = 0 then (if ¬ b = 0 then some (a / b) else none) else some 0) := by
  rw [show mo 31 = 47 from by decide]; unfold f_Md_worked; rw [if_neg (by decide), if_neg (by decide), if_neg (by decide), if_neg (by decide), if_pos (by decide)]
theorem tdiv_mil {x y : Int} (h : mil x) : mil (x.tdiv y) := by
  have := Int.natAbs_tdiv_le_natAbs x y
  unfold mil at *
  omega
theorem mul_big {x y : Int} (hx : mil x) (hy : mil y) : big (x * y) := by
  unfold mil at hx hy
  have h := Int.natAbs_mul x y
  have h1 : x.natAbs ≤ 1000000 := by omega
  have h2 : y.natAbs ≤ 1000000 := by omega
  have h3 := Nat.mul_le_mul h1 h2
  unfold big
  omega
theorem wk_L {o : Nat} {x y : Int} (ho : opL o) (hx : bit x) (hy : bit y) : bit (wk o x y) := by
  rcases ho with rfl | rfl <;> rcases hx with rfl | rfl <;> rcases hy with rfl | rfl <;> simp [wk, bit]
theorem bitif (p : Prop) [Decidable p] : bit (if p then 1 else 0) := by unfold bit; split <;> simp
theorem wk_A {o : Nat} {x y : Int} (ho : opA o) : bit (wk o x y) := by
  rcases ho with rfl | rfl | rfl | rfl | rfl | rfl
  · exact bitif _
  · exact bitif _
  · exact bitif _
  · exact bitif _
  · exact bitif _
  · show bit (if x = y then 0 else 1); unfold bit; split <;> simp
theorem wk_S {o : Nat} {x y : Int} (ho : opS o) (hx : mil x) : mil (wk o x y) := by
  rcases ho with rfl | rfl | rfl | rfl
  · rw [wk28]; exact bnd_mil _
  · rw [wk29]; exact bnd_mil _
  · rw [wk30]; exact bnd_mil _
  · rw [wk31]
    split
    · unfold mil; omega
    · exact tdiv_mil hx
theorem wk_cL {o : Nat} {x y : Int} (ho : opL o) (hx : bit x) (hy : bit y) : ∃ r, f_Bench_worked (nI o) (lI x) (lI y) = some r ∧ f_Bench_held r = iI (wk o x y) := by
  rcases ho with rfl | rfl <;> rcases hx with rfl | rfl <;> rcases hy with rfl | rfl
  · exact ⟨_, rfl, by decide⟩
  · exact ⟨_, rfl, by decide⟩
  · exact ⟨_, rfl, by decide⟩
  · exact ⟨_, rfl, by decide⟩
  · exact ⟨_, rfl, by decide⟩
  · exact ⟨_, rfl, by decide⟩
  · exact ⟨_, rfl, by decide⟩
  · exact ⟨_, rfl, by decide⟩
theorem wk_mL {o : Nat} {x y : Int} (ho : opL o) (hx : bit x) (hy : bit y) : f_Md_worked (mo o) (lI x) (lI y) = some (lI (wk o x y)) := by
  rcases ho with rfl | rfl <;> rcases hx with rfl | rfl <;> rcases hy with rfl | rfl <;> decide
theorem h01 (p : Prop) [Decidable p] (q : Prop) [Decidable q] (h : p ↔ ¬ q) : ∃ r : Int64, (if p then some (0 : Int64) else some 1) = some r ∧ f_Bench_held r = iI (if q then 1 else 0) := by
  by_cases c : q
  · exact ⟨1, by rw [if_neg (fun z => h.mp z c)], by rw [if_pos c]; decide⟩
  · exact ⟨0, by rw [if_pos (h.mpr c)], by rw [if_neg c]; decide⟩
theorem m01 (p : Prop) [Decidable p] (q : Prop) [Decidable q] (h : p ↔ ¬ q) : (if p then some (0 : Int64) else some 1) = some (lI (if q then 1 else 0)) := by
  by_cases c : q
  · rw [if_neg (fun z => h.mp z c), if_pos c]; rfl
  · rw [if_pos (h.mpr c), if_neg c]; rfl
theorem wk_cA {o : Nat} {x y : Int} (ho : opA o) (hx : mil x) (hy : mil y) : ∃ r, f_Bench_worked (nI o) (lI x) (lI y) = some r ∧ f_Bench_held r = iI (wk o x y) := by
  have bx := mil_big hx
  have bY := mil_big hy
  rcases ho with rfl | rfl | rfl | rfl | rfl | rfl
  · exact h01 (0 ≤ lg_cmp (lI x) (lI y)) (x < y) (by rw [c_ge bx bY]; omega)
  · exact h01 (0 < lg_cmp (lI x) (lI y)) (x ≤ y) (by rw [c_gt bx bY]; omega)
  · exact h01 (lg_cmp (lI x) (lI y) ≤ 0) (y < x) (by rw [c_le bx bY]; omega)
  · exact h01 (lg_cmp (lI x) (lI y) < 0) (y ≤ x) (by rw [c_lt bx bY]; omega)
  · exact h01 (¬ lg_cmp (lI x) (lI y) = 0) (x = y) (by rw [c_eq bx bY])
  · obtain ⟨r, h1, h2⟩ := h01 (lg_cmp (lI x) (lI y) = 0) (¬ x = y) (by rw [c_eq bx bY]; omega)
    refine ⟨r, h1, h2.trans ?_⟩
    show _ = iI (if x = y then 0 else 1)
    by_cases c : x = y
    · rw [if_neg (fun z => z c), if_pos c]
    · rw [if_pos c, if_neg c]
theorem wk_mA {o : Nat} {x y : Int} (ho : opA o) (hx : mil x) (hy : mil y) : f_Md_worked (mo o) (lI x) (lI y) = some (lI (wk o x y)) := by
  have bx := mil_big hx
  have bY := mil_big hy
  rcases ho with rfl | rfl | rfl | rfl | rfl | rfl
  · exact m01 (0 ≤ lg_cmp (lI x) (lI y)) (x < y) (by rw [c_ge bx bY]; omega)
  · exact m01 (0 < lg_cmp (lI x) (lI y)) (x ≤ y) (by rw [c_gt bx bY]; omega)
  · exact m01 (lg_cmp (lI x) (lI y) ≤ 0) (y < x) (by rw [c_le bx bY]; omega)
  · exact m01 (lg_cmp (lI x) (lI y) < 0) (y ≤ x) (by rw [c_lt bx bY]; omega)
  · exact m01 (¬ lg_cmp (lI x) (lI y) = 0) (x = y) (by rw [c_eq bx bY])
  · refine Eq.trans (m01 (lg_cmp (lI x) (lI y) = 0) (¬ x = y) (by rw [c_eq bx bY]; omega)) ?_
    show _ = some (lI (if x = y then 0 else 1))
    by_cases c : x = y
    · rw [if_neg (fun z => z c), if_pos c]
    · rw [if_pos c, if_neg c]
theorem lI_div {x y : Int} (hx : mil x) (hy : mil y) : lI x / lI y = lI (x.tdiv y) := by
  unfold mil at hx hy
  exact (Int64.ofInt_tdiv (by rw [show Int64.minValue.toInt = -9223372036854775808 by decide]; omega) (by rw [show Int64.maxValue.toInt = 9223372036854775807 by decide]; omega) (by rw [show Int64.minValue.toInt = -9223372036854775808 by decide]; omega) (by rw [show Int64.maxValue.toInt = 9223372036854775807 by decide]; omega)).symm
theorem wk_cS {o : Nat} {x y : Int} (ho : opS o) (hx : mil x) (hy : mil y) : ∃ r, f_Bench_worked (nI o) (lI x) (lI y) = some r ∧ f_Bench_held r = iI (wk o x y) := by
  have bx := mil_big hx
  have bY := mil_big hy
  have b0 : big 0 := by unfold big; omega
  have h31 := wk_S (o := 31) (y := y) (by unfold opS; omega) hx
  have h4 : (0 : Int64) = lI 0 := rfl
  rcases ho with rfl | rfl | rfl | rfl
  · refine ⟨lI (x + y), ?_, by rw [wk28]; exact held_c (by unfold mil at *; unfold big; omega)⟩
    rw [Bench_worked_28, show lI x + lI y = lI (x + y) from (Int64.ofInt_add _ _).symm]
  · refine ⟨lI (x - y), ?_, by rw [wk29]; exact held_c (by unfold mil at *; unfold big; omega)⟩
    rw [Bench_worked_29, show lI x - lI y = lI (x - y) from (Int64.ofInt_sub _ _).symm]
  · refine ⟨lI (x * y), ?_, by rw [wk30]; exact held_c (mul_big hx hy)⟩
    rw [Bench_worked_30, show lI x * lI y = lI (x * y) from (Int64.ofInt_mul _ _).symm]
  · refine ⟨lI (wk 31 x y), ?_, by rw [held_c (mil_big h31), mil_bnd h31]⟩
    rw [Bench_worked_31, wk31, h4]
    by_cases c : y = 0
    · rw [if_neg (fun z => z ((c_eq bY b0).mpr c)), if_pos c]
    · rw [if_pos (fun z => c ((c_eq bY b0).mp z)), if_pos (fun z => c ((lI_eq bY b0).mp z)), if_neg c, lI_div hx hy]
theorem wk_mS {o : Nat} {x y : Int} (ho : opS o) (hx : mil x) (hy : mil y) : f_Md_worked (mo o) (lI x) (lI y) = some (lI (wk o x y)) := by
  have bx := mil_big hx
  have bY := mil_big hy
  have b0 : big 0 := by unfold big; omega
  have h4 : (0 : Int64) = lI 0 := rfl
  rcases ho with rfl | rfl | rfl | rfl
  · rw [Md_worked_28, wk28, show lI x + lI y = lI (x + y) from (Int64.ofInt_add _ _).symm, bound_m (by unfold mil at *; unfold big; omega)]
  · rw [Md_worked_29, wk29, show lI x - lI y = lI (x - y) from (Int64.ofInt_sub _ _).symm, bound_m (by unfold mil at *; unfold big; omega)]
  · rw [Md_worked_30, wk30, show lI x * lI y = lI (x * y) from (Int64.ofInt_mul _ _).symm, bound_m (mul_big hx hy)]
  · rw [Md_worked_31, wk31, h4]
    by_cases c : y = 0
    · rw [if_neg (fun z => z ((c_eq bY b0).mpr c)), if_pos c]
    · rw [if_pos (fun z => c ((c_eq bY b0).mp z)), if_pos (fun z => c ((lI_eq bY b0).mp z)), if_neg c, lI_div hx hy]

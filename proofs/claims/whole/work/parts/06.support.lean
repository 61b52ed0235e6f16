/-! SUPPORT: what the printed walks use -/
theorem xpos {α : Type} {c : Prop} [Decidable c] {a b r : α} (hc : c) (h : (if c then a else b) = r) : a = r := by rwa [if_pos hc] at h
theorem xneg {α : Type} {c : Prop} [Decidable c] {a b r : α} (hc : ¬ c) (h : (if c then a else b) = r) : b = r := by rwa [if_neg hc] at h
theorem xguard {α : Type} {c : Prop} [Decidable c] {a : Option α} {r : α} (h : (if c then a else none) = some r) : c ∧ a = some r := by
  by_cases hc : c
  · rw [if_pos hc] at h; exact ⟨hc, h⟩
  · rw [if_neg hc] at h; cases h
theorem xbind {α β : Type} {a : Option α} {f : α → Option β} {r : β} (h : Option.bind a f = some r) : ∃ p, a = some p ∧ f p = some r := by
  cases a with
  | none => cases h
  | some p => exact ⟨p, rfl, h⟩
theorem xnz {v : Int32} (h : v = 0 ∨ v = 1) : narrow .boolean (.int v) = .int v := by rcases h with rfl | rfl <;> rfl
def xnl (c : Nat) : Value := match c with
  | 0 => .null
  | q + 1 => .ref q
theorem xnul (c : Nat) : (c = 0 ∧ xnl c = .null) ∨ ∃ q, c = q + 1 ∧ xnl c = .ref q := by
  cases c with
  | zero => exact Or.inl ⟨rfl, rfl⟩
  | succ q => exact Or.inr ⟨q, rfl, rfl⟩
def xrem (x y : Int32) : Int32 := x - x / y * y
def xmax (x y : Int32) : Int32 := if x < y then y else x
def xmin (x y : Int32) : Int32 := if y < x then y else x
def xfill (V : xV) (r n : Nat) (v : Int32) : xV := xrow V r (fun k => if k < n then v else V r k)
def xcopy (V : xV) (r q n : Nat) : xV := xrow V q (fun k => if k < n then V r k else V q k)
theorem xfit_of {d e : Nat} {M M2 : xM} (h : d + 1 ≤ e) (hm : M2.2.2.1 ≤ 45) : d + 1 ≤ (xRm e M).frames ∧ 8 + (M2.2.2.1 + 11) + (64 * d + 64) ≤ (xRm e M).locals := ⟨h, by show _ ≤ 64 * e + 64; omega⟩
theorem xlib_of {e : Nat} {M : xM} (h : 1 ≤ e) : 1 ≤ (xRm e M).frames ∧ 64 ≤ (xRm e M).locals ∧ 0 ≤ (xRm e M).cells ∧ 0 ≤ (xRm e M).slots := ⟨h, by show _ ≤ 64 * e + 64; omega, Nat.zero_le _, Nat.zero_le _⟩
theorem xpickm {G : xG} {ls ls' : List (Nat × Value)} (ks : List Nat) (h : lv_pick ls ks = ls') : lv_pick (xls G ls) ks = xls G ls' := by
  subst h
  induction ks with
  | nil => rfl
  | cons k ks ih =>
    simp only [lv_pick, xls, List.filterMap_cons, List.getElem?_map] at ih ⊢
    cases ls[k]? with
    | none => simpa using ih
    | some q => simpa using ih
section XSup
variable {M M2 : xM} {R : Room} {Z : xG → List Frame → Array Value → State → State → Prop} {sh : xS} {V V2 : xV} {L L2 : xL} {cu su pc : Nat} {ls ls' : List (Nat × Value)} {st stk : List Value} {d idx n : Nat} {as : List Value} {host : String} {v : Value}
theorem x_pick (ks : List Nat) (hp : lv_pick ls ks = ls') (K : X M R Z sh V L cu su pc ls' st) : X M R Z sh V L cu su pc ls st := by
  intro l G p e s m args below meth c H locs la hC hz hR hS hl
  exact K l G p e s m args below meth c H locs la hC hz hR hS (lv_sub hl ks (xpickm ks hp))
theorem x_irem2 {x y : Int32} (hd : decode M.2.1 pc = .ok (.irem, 1)) (hne : ¬ y = 0) (K : X M R Z sh V L cu su (pc + 1) ls (.int (xrem x y) :: st)) : X M R Z sh V L cu su pc ls (.int y :: .int x :: st) := x_irem hd hne K
/-- calls of methods that make nothing -/
theorem x_callS0 (he : xES M.1.cls idx M2 n) (hrun : xRuns d M2 as (sh, V, L) (fun o h => o = some v ∧ h = (sh, V2, L2))) (h0 : M2.2.2.2.2 = (0, 0)) (hn : as.length = n) (hstk : stk = as.reverse ++ st) (hc : (st.map fun v => v.category).sum ≤ 8) (hf : d + 1 ≤ R.frames ∧ 8 + (M2.2.2.1 + 11) + (64 * d + 64) ≤ R.locals) (h1 : cu ≤ R.cells) (h2 : su ≤ R.slots) (hd : decode M.2.1 pc = .ok (.invokestatic idx, 3))
    (K : X M R Z sh V2 L2 cu su (pc + 3) ls (v :: st)) : X M R Z sh V L cu su pc ls stk := by
  refine x_callS he hrun hn hstk hc ⟨hf.1, hf.2, by rw [h0]; exact h1, by rw [h0]; exact h2⟩ hd (fun r h q => by obtain ⟨rfl, rfl⟩ := q; rw [h0]; exact Nat.le_refl _) (fun r h q => ?_)
  obtain ⟨rfl, rfl⟩ := q
  rw [h0]; exact K
theorem x_callS0v (he : xES M.1.cls idx M2 n) (hrun : xRuns d M2 as (sh, V, L) (fun o h => o = none ∧ h = (sh, V2, L2))) (h0 : M2.2.2.2.2 = (0, 0)) (hn : as.length = n) (hstk : stk = as.reverse ++ st) (hc : (st.map fun v => v.category).sum ≤ 8) (hf : d + 1 ≤ R.frames ∧ 8 + (M2.2.2.1 + 11) + (64 * d + 64) ≤ R.locals) (h1 : cu ≤ R.cells) (h2 : su ≤ R.slots) (hd : decode M.2.1 pc = .ok (.invokestatic idx, 3))
    (K : X M R Z sh V2 L2 cu su (pc + 3) ls st) : X M R Z sh V L cu su pc ls stk := by
  refine x_callS he hrun hn hstk hc ⟨hf.1, hf.2, by rw [h0]; exact h1, by rw [h0]; exact h2⟩ hd (fun r h q => by obtain ⟨rfl, rfl⟩ := q; rw [h0]; exact Nat.le_refl _) (fun r h q => ?_)
  obtain ⟨rfl, rfl⟩ := q
  rw [h0]; exact K
theorem x_callSN0 (he : xESN M.1.cls idx host M2 n) (hrun : xRuns d M2 as (sh, V, L) (fun o h => o = some v ∧ h = (sh, V2, L2))) (h0 : M2.2.2.2.2 = (0, 0)) (hn : as.length = n) (hstk : stk = as.reverse ++ st) (hc : (st.map fun v => v.category).sum ≤ 8) (hf : d + 1 ≤ R.frames ∧ 8 + (M2.2.2.1 + 11) + (64 * d + 64) ≤ R.locals) (h1 : cu ≤ R.cells) (h2 : su ≤ R.slots) (hd : decode M.2.1 pc = .ok (.invokestatic idx, 3))
    (K : X M R Z sh V2 L2 cu su (pc + 3) ls (v :: st)) : X M R Z sh V L cu su pc ls stk := by
  refine x_callSN he hrun hn hstk hc ⟨hf.1, hf.2, by rw [h0]; exact h1, by rw [h0]; exact h2⟩ hd (fun r h q => by obtain ⟨rfl, rfl⟩ := q; rw [h0]; exact Nat.le_refl _) (fun r h q => ?_)
  obtain ⟨rfl, rfl⟩ := q
  rw [h0]; exact K
theorem x_callV0 {r ci : Nat} {ks : List Nat} {T : u_T} {N : Nat} (he : xEV M.1.cls idx M2 n) (hs : sh[r]? = some (.inr (ci, ks))) (hci : classes[ci]? = some (M2.1.cls, T, N)) (hrun : xRuns d M2 (.ref r :: as) (sh, V, L) (fun o h => o = some v ∧ h = (sh, V2, L2))) (h0 : M2.2.2.2.2 = (0, 0)) (hn : as.length = n) (hstk : stk = as.reverse ++ .ref r :: st) (hc : (st.map fun v => v.category).sum ≤ 8) (hf : d + 1 ≤ R.frames ∧ 8 + (M2.2.2.1 + 11) + (64 * d + 64) ≤ R.locals) (h1 : cu ≤ R.cells) (h2 : su ≤ R.slots) (hd : decode M.2.1 pc = .ok (.invokevirtual idx, 3))
    (K : X M R Z sh V2 L2 cu su (pc + 3) ls (v :: st)) : X M R Z sh V L cu su pc ls stk := by
  refine x_callV he hs hci hrun hn hstk hc ⟨hf.1, hf.2, by rw [h0]; exact h1, by rw [h0]; exact h2⟩ hd (fun r h q => by obtain ⟨rfl, rfl⟩ := q; rw [h0]; exact Nat.le_refl _) (fun r h q => ?_)
  obtain ⟨rfl, rfl⟩ := q
  rw [h0]; exact K
theorem x_callV0v {r ci : Nat} {ks : List Nat} {T : u_T} {N : Nat} (he : xEV M.1.cls idx M2 n) (hs : sh[r]? = some (.inr (ci, ks))) (hci : classes[ci]? = some (M2.1.cls, T, N)) (hrun : xRuns d M2 (.ref r :: as) (sh, V, L) (fun o h => o = none ∧ h = (sh, V2, L2))) (h0 : M2.2.2.2.2 = (0, 0)) (hn : as.length = n) (hstk : stk = as.reverse ++ .ref r :: st) (hc : (st.map fun v => v.category).sum ≤ 8) (hf : d + 1 ≤ R.frames ∧ 8 + (M2.2.2.1 + 11) + (64 * d + 64) ≤ R.locals) (h1 : cu ≤ R.cells) (h2 : su ≤ R.slots) (hd : decode M.2.1 pc = .ok (.invokevirtual idx, 3))
    (K : X M R Z sh V2 L2 cu su (pc + 3) ls st) : X M R Z sh V L cu su pc ls stk := by
  refine x_callV he hs hci hrun hn hstk hc ⟨hf.1, hf.2, by rw [h0]; exact h1, by rw [h0]; exact h2⟩ hd (fun r h q => by obtain ⟨rfl, rfl⟩ := q; rw [h0]; exact Nat.le_refl _) (fun r h q => ?_)
  obtain ⟨rfl, rfl⟩ := q
  rw [h0]; exact K
/-- an array's place that is a number -/
theorem x_ialoadC {r n : Nat} {f : Nat → Option Nat} {i : Int32} (j : Nat) (hs : sh[r]? = some (.inl (.int, n, f))) (hi : xI i n = true) (hj : i.toNatClampNeg = j) (hd : decode M.2.1 pc = .ok (.iaload, 1)) (K : X M R Z sh V L cu su (pc + 1) ls (.int (V r j) :: st)) : X M R Z sh V L cu su pc ls (.int i :: .ref r :: st) := by subst hj; exact x_iaload hs hi hd K
theorem x_laloadC {r n : Nat} {f : Nat → Option Nat} {i : Int32} (j : Nat) (hs : sh[r]? = some (.inl (.long, n, f))) (hi : xI i n = true) (hj : i.toNatClampNeg = j) (hd : decode M.2.1 pc = .ok (.laload, 1)) (K : X M R Z sh V L cu su (pc + 1) ls (.long (L r j) :: st)) : X M R Z sh V L cu su pc ls (.int i :: .ref r :: st) := by subst hj; exact x_laload hs hi hd K
theorem x_iastoreC {r n : Nat} {f : Nat → Option Nat} {i x : Int32} (j : Nat) (hs : sh[r]? = some (.inl (.int, n, f))) (hi : xI i n = true) (hj : i.toNatClampNeg = j) (hd : decode M.2.1 pc = .ok (.iastore, 1)) (K : X M R Z sh (x2 V r j x) L cu su (pc + 1) ls st) : X M R Z sh V L cu su pc ls (.int x :: .int i :: .ref r :: st) := by subst hj; exact x_iastore hs hi hd K
/-- the library's functions -/
def xLmax (own : String) (idx : Nat) : Prop := Cond.methodLink own idx Lib.Math.max.name ∈ xTbl ∧ Cond.static Lib.Math.max.name ∈ xTbl ∧ Cond.initialized "java/lang/Math" ∈ xTbl ∧ Cond.code Lib.Math.max.name Lib.Math.max.code 2 (some .int) ∈ xTbl
def xLmin (own : String) (idx : Nat) : Prop := Cond.methodLink own idx Lib.Math.min.name ∈ xTbl ∧ Cond.static Lib.Math.min.name ∈ xTbl ∧ Cond.initialized "java/lang/Math" ∈ xTbl ∧ Cond.code Lib.Math.min.name Lib.Math.min.code 2 (some .int) ∈ xTbl
def xLcopy (own : String) (idx : Nat) : Prop := Cond.methodLink own idx arraycopyName ∈ xTbl ∧ Cond.native arraycopyName ∈ xTbl ∧ Cond.static arraycopyName ∈ xTbl ∧ Cond.initialized "java/lang/System" ∈ xTbl
theorem x_max0 {x y : Int32} (hw : xLmax M.1.cls idx) (hl : 1 ≤ R.frames ∧ 64 ≤ R.locals ∧ cu ≤ R.cells ∧ su ≤ R.slots) (hc : (st.map fun v => v.category).sum ≤ 8) (hd : decode M.2.1 pc = .ok (.invokestatic idx, 3)) (K : X M R Z sh V L cu su (pc + 3) ls (.int (xmax x y) :: st)) : X M R Z sh V L cu su pc ls (.int y :: .int x :: st) := x_max hw.1 hw.2.1 hw.2.2.1 hw.2.2.2 hl.1 (Nat.le_trans (by decide) hl.2.1) hl.2.2.1 hl.2.2.2 hc hd K
theorem x_min0 {x y : Int32} (hw : xLmin M.1.cls idx) (hl : 1 ≤ R.frames ∧ 64 ≤ R.locals ∧ cu ≤ R.cells ∧ su ≤ R.slots) (hc : (st.map fun v => v.category).sum ≤ 8) (hd : decode M.2.1 pc = .ok (.invokestatic idx, 3)) (K : X M R Z sh V L cu su (pc + 3) ls (.int (xmin x y) :: st)) : X M R Z sh V L cu su pc ls (.int y :: .int x :: st) := x_min hw.1 hw.2.1 hw.2.2.1 hw.2.2.2 hl.1 (Nat.le_trans (by decide) hl.2.1) hl.2.2.1 hl.2.2.2 hc hd K
theorem x_copy0 {r q n0 n1 : Nat} {f0 f1 : Nat → Option Nat} {i : Int32} (hw : xLcopy M.1.cls idx) (hl : 1 ≤ R.frames ∧ 64 ≤ R.locals ∧ cu ≤ R.cells ∧ su ≤ R.slots) (hc : (st.map fun v => v.category).sum ≤ 8) (h0 : sh[r]? = some (.inl (.int, n0, f0))) (h1 : sh[q]? = some (.inl (.int, n1, f1))) (n : Nat) (hn : ¬ i < 0 ∧ i.toNatClampNeg = n ∧ n ≤ n0 ∧ n ≤ n1) (hd : decode M.2.1 pc = .ok (.invokestatic idx, 3)) (K : X M R Z sh (xcopy V r q n) L cu su (pc + 3) ls st) : X M R Z sh V L cu su pc ls (.int i :: .int 0 :: .ref q :: .int 0 :: .ref r :: st) := by
  obtain ⟨g1, g2, g3, g4⟩ := hn
  subst g2
  have e : xrow V q (va_cpy (V r) (V q) (0 : Int32).toNatClampNeg (0 : Int32).toNatClampNeg i.toNatClampNeg) = xcopy V r q i.toNatClampNeg := by
    unfold xcopy
    congr 1
    funext k
    have z : (0 : Int32).toNatClampNeg = 0 := by decide
    simp [va_cpy, z]
  have z : (0 : Int32).toNatClampNeg = 0 := by decide
  refine x_copy (sp := 0) (dp := 0) hw.1 hw.2.1 hw.2.2.1 hw.2.2.2 hl.1 (Nat.le_trans (by decide) hl.2.1) hc h0 h1 (by decide) (by decide) g1 (by rw [z]; omega) (by rw [z]; omega) hd ?_
  rw [e]
  exact K
/-- the constants that aren't ours -/
theorem x_getNames (hw : Cond.fieldLinkNest M.1.cls idx "WarrantWeather" "NAME_IS_OF" "[I" "WarrantWeather" ∈ xNest) (hd : decode M.2.1 pc = .ok (.getstatic idx, 3)) (K : X M R Z sh V L cu su (pc + 3) ls (.retAddr 2 :: st)) : X M R Z sh V L cu su pc ls st := by
  intro l G p e s m args below meth c H locs la hC hz hR hS hl
  have hk : xK G s := hC.2.2.2.2.2.2.2.2
  exact va_getsN hC.1 hC.2.1 hk.2.2.2.2.2.1 hS hC.2.2.2.2.1 (va_Nw.use rfl (hk.2.1 _ hw)) (fun _ h => h) hd (K l G p e s m args below meth c H locs la hC hz hR hS hl)
end XSup

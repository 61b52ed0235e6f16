/-! CALLS, and what makes cells (printed by wip/whole/gen_calls.py) -/
theorem xcat {G : xG} {st : List Value} (h : (st.map fun v => v.category).sum ≤ 8) : ((st.map (xv G)).map fun v => v.category).sum ≤ 8 := by
  have e : (st.map (xv G)).map (fun v => v.category) = st.map fun v => v.category := by
    rw [List.map_map]
    exact List.map_congr_left (fun v _ => xv_cat G v)
  rw [e]
  exact h
theorem xblind {G : xG} {as : List Value} {h : xH} : FrameBlind (xPc G as h) := fun _ _ _ _ q => ⟨q.1, q.2.1, q.2.2.1.call, q.2.2.2⟩
theorem xpre {G : xG} {as : List Value} {sh : xS} {V : xV} {L : xL} {s : State} {H : Heap} {locs : List Loc} (hK : xK G s) (hR : xR G sh V L H) (hS : va_S (xA G) s.heap H locs) (hz : H.size ≤ G.1 + sh.length) : ∀ U : State, U.heap = H → s.WarmedH U.vm → xPc G as (sh, V, L) (as.map (xv G)).toArray U := by
  intro U hU hW
  refine ⟨rfl, by rw [hU]; exact hR, hK.to hW (by rw [hU]; exact hS.1) (fun q h1 h2 => by rw [hU]; exact hS.2.1 q h1 h2), by rw [hU]; exact hz⟩
/-- what an edge of the calls needs: the link, the callee's class and code, how many it takes -/
def xE0 (y : xM) (n : Nat) : Prop := Cond.initialized y.1.cls ∈ xTbl ∧ Cond.code y.1 y.2.1 y.2.2.1 y.2.2.2.1 ∈ xTbl ∧ (y.1.cls ≠ "java/lang/invoke/MethodHandle" ∧ y.1.cls ≠ "java/lang/invoke/VarHandle" ∧ (parseMethodDescriptor y.1.desc).map (fun d => d.parameters.length) = some n)
def xES (own : String) (idx : Nat) (y : xM) (n : Nat) : Prop := xE0 y n ∧ Cond.methodLink own idx y.1 ∈ xTbl ∧ Cond.static y.1 ∈ xTbl
def xEV (own : String) (idx : Nat) (y : xM) (n : Nat) : Prop := xE0 y n ∧ Cond.methodLink own idx y.1 ∈ xTbl ∧ Cond.instanceMethod y.1 ∈ xTbl ∧ Cond.selects y.1.cls y.1 y.1 ∈ xTbl
def xEI (own : String) (idx : Nat) (y : xM) (n : Nat) : Prop := xE0 y n ∧ Cond.methodLink own idx y.1 ∈ xTbl ∧ Cond.instanceMethod y.1 ∈ xTbl ∧ y.1.name = "<init>" ∧ y.2.2.2.1 = none
def xESN (own : String) (idx : Nat) (host : String) (y : xM) (n : Nat) : Prop := xE0 y n ∧ Cond.methodLinkNest own idx y.1 host ∈ xNest ∧ Cond.static y.1 ∈ xTbl
def xEIN (own : String) (idx : Nat) (host : String) (y : xM) (n : Nat) : Prop := xE0 y n ∧ Cond.methodLinkNest own idx y.1 host ∈ xNest ∧ Cond.instanceMethod y.1 ∈ xTbl ∧ y.1.name = "<init>" ∧ y.2.2.2.1 = none
/-- the room that a call of y, d deep, wants -/
def xFit (R : Room) (cu su d : Nat) (y : xM) : Prop := d + 1 ≤ R.frames ∧ 8 + (y.2.2.1 + 11) + (64 * d + 64) ≤ R.locals ∧ cu + y.2.2.2.2.1 ≤ R.cells ∧ su + y.2.2.2.2.2 ≤ R.slots
section XCalls
variable {M M2 : xM} {R : Room} {Z : xG → List Frame → Array Value → State → State → Prop} {sh : xS} {V : xV} {L : xL} {cu su pc : Nat} {ls ls' : List (Nat × Value)} {st stk : List Value} {d idx n : Nat} {Q : Option Value → xH → Prop} {as : List Value} {host : String}
theorem x_callS (he : xES M.1.cls idx M2 n) (hrun : xRuns d M2 as (sh, V, L) Q) (hn : as.length = n) (hstk : stk = as.reverse ++ st) (hc : (st.map fun v => v.category).sum ≤ 8) (hf : xFit R cu su d M2) (hd : decode M.2.1 pc = .ok (.invokestatic idx, 3)) (hg : ∀ r h, Q r h → sh.length + M2.2.2.2.2.1 ≤ h.1.length)
    (K : ∀ r h, Q r h → X M R Z h.1 h.2.1 h.2.2 (cu + M2.2.2.2.2.1) (su + M2.2.2.2.2.2) (pc + 3) ls (r.toList ++ st)) : X M R Z sh V L cu su pc ls stk := by
  intro l G p e1 s m args below meth c H locs la hC hz hR hS hl
  refine x_size fun hsz => ?_
  have hz2 : H.size ≤ G.1 + sh.length := by omega
  obtain ⟨⟨e3, e4, e5⟩, e6, e7⟩ := he
  subst hstk
  have hts := hC.2.2.2.2.2.1
  refine x_run (Q := Q) (rest := st.map (xv G)) (va_runS (As := as.map (xv G)) ⟨hC.1, hC.2.1, hC.2.2.2.1, hC.2.2.2.2.1, hC.2.2.2.2.2.1⟩ (hrun l G) ⟨callB_of n hts (xGood e4) rfl rfl rfl (hts _ e3) (hts _ e6) e5 ⟨hf.1, hf.2.1⟩, hts _ e7⟩ ⟨xblind, xpre hC.2.2.2.2.2.2.2.2 hR hS hz2⟩ rfl (by rw [List.length_map]; exact hn) hl.1 (by simp) (lv_room (xcat hc)) hd hf.2.2) hS (fun r h H1 locs1 hq hR1 hS1 => ?_)
  have e : (r.map (xv G)).toList ++ st.map (xv G) = (r.toList ++ st).map (xv G) := by cases r <;> simp
  rw [e]
  exact K r h hq l G p e1 s m args below meth c H1 locs1 la hC (by have := hg r h hq; omega) hR1 hS1 hl
theorem x_callSN (he : xESN M.1.cls idx host M2 n) (hrun : xRuns d M2 as (sh, V, L) Q) (hn : as.length = n) (hstk : stk = as.reverse ++ st) (hc : (st.map fun v => v.category).sum ≤ 8) (hf : xFit R cu su d M2) (hd : decode M.2.1 pc = .ok (.invokestatic idx, 3)) (hg : ∀ r h, Q r h → sh.length + M2.2.2.2.2.1 ≤ h.1.length)
    (K : ∀ r h, Q r h → X M R Z h.1 h.2.1 h.2.2 (cu + M2.2.2.2.2.1) (su + M2.2.2.2.2.2) (pc + 3) ls (r.toList ++ st)) : X M R Z sh V L cu su pc ls stk := by
  intro l G p e1 s m args below meth c H locs la hC hz hR hS hl
  refine x_size fun hsz => ?_
  have hz2 : H.size ≤ G.1 + sh.length := by omega
  obtain ⟨⟨e3, e4, e5⟩, e6, e7⟩ := he
  subst hstk
  have hts := hC.2.2.2.2.2.1
  have hk : xK G s := hC.2.2.2.2.2.2.2.2
  refine x_run (Q := Q) (rest := st.map (xv G)) (va_runSN (As := as.map (xv G)) ⟨hC.1, hC.2.1, hC.2.2.2.1, hC.2.2.2.2.1, hC.2.2.2.2.2.1⟩ (hrun l G) ⟨va_cnB n hts (xGood e4) rfl rfl rfl (hk.2.1 _ e6) (hts _ e3) e5 ⟨hf.1, hf.2.1⟩, hts _ e7, trivial⟩ ⟨xblind, xpre hk hR hS hz2⟩ rfl (by rw [List.length_map]; exact hn) hl.1 (by simp) (lv_room (xcat hc)) hd hf.2.2) hS (fun r h H1 locs1 hq hR1 hS1 => ?_)
  have e : (r.map (xv G)).toList ++ st.map (xv G) = (r.toList ++ st).map (xv G) := by cases r <;> simp
  rw [e]
  exact K r h hq l G p e1 s m args below meth c H1 locs1 la hC (by have := hg r h hq; omega) hR1 hS1 hl
theorem x_callV {r ci : Nat} {ks : List Nat} {T : u_T} {N : Nat} (he : xEV M.1.cls idx M2 n) (hs : sh[r]? = some (.inr (ci, ks))) (hci : classes[ci]? = some (M2.1.cls, T, N)) (hrun : xRuns d M2 (.ref r :: as) (sh, V, L) Q) (hn : as.length = n) (hstk : stk = as.reverse ++ .ref r :: st) (hc : (st.map fun v => v.category).sum ≤ 8) (hf : xFit R cu su d M2) (hd : decode M.2.1 pc = .ok (.invokevirtual idx, 3)) (hg : ∀ r h, Q r h → sh.length + M2.2.2.2.2.1 ≤ h.1.length)
    (K : ∀ r h, Q r h → X M R Z h.1 h.2.1 h.2.2 (cu + M2.2.2.2.2.1) (su + M2.2.2.2.2.2) (pc + 3) ls (r.toList ++ st)) : X M R Z sh V L cu su pc ls stk := by
  intro l G p e1 s m args below meth c H locs la hC hz hR hS hl
  refine x_size fun hsz => ?_
  have hz2 : H.size ≤ G.1 + sh.length := by omega
  obtain ⟨⟨e3, e4, e5⟩, e6, e7, e8⟩ := he
  subst hstk
  have hts := hC.2.2.2.2.2.1
  have hk : xK G s := hC.2.2.2.2.2.2.2.2
  refine x_run (Q := Q) (rest := st.map (xv G)) (va_runV (C := M2.1.cls) (b := G.1 + r) (As := as.map (xv G)) ⟨hC.1, hC.2.1, hC.2.2.2.1, hC.2.2.2.2.1, hC.2.2.2.2.2.1⟩ (hrun l G) ⟨callB_of n hts (xGood e4) rfl rfl rfl (hts _ e3) (hts _ e6) e5 ⟨hf.1, hf.2.1⟩, hts _ e7, hts _ e8⟩ ⟨xblind, va_recv hk.1 hR hci (xw_at hs), xpre (as := .ref r :: as) hk hR hS hz2⟩ rfl (by rw [List.length_map]; exact hn) hl.1 (by simp [xv]) (lv_room (xcat hc)) hd hf.2.2) hS (fun r h H1 locs1 hq hR1 hS1 => ?_)
  have e : (r.map (xv G)).toList ++ st.map (xv G) = (r.toList ++ st).map (xv G) := by cases r <;> simp
  rw [e]
  exact K r h hq l G p e1 s m args below meth c H1 locs1 la hC (by have := hg r h hq; omega) hR1 hS1 hl
theorem x_callI {r : Nat} (he : xEI M.1.cls idx M2 n) (hrun : xRuns d M2 (.ref r :: as) (sh, V, L) Q) (hn : as.length = n) (hstk : stk = as.reverse ++ .ref r :: st) (hc : (st.map fun v => v.category).sum ≤ 8) (hf : xFit R cu su d M2) (hd : decode M.2.1 pc = .ok (.invokespecial idx, 3)) (hg : ∀ r h, Q r h → sh.length + M2.2.2.2.2.1 ≤ h.1.length)
    (K : ∀ r h, Q r h → X M R Z h.1 h.2.1 h.2.2 (cu + M2.2.2.2.2.1) (su + M2.2.2.2.2.2) (pc + 3) ls (r.toList ++ st)) : X M R Z sh V L cu su pc ls stk := by
  intro l G p e1 s m args below meth c H locs la hC hz hR hS hl
  refine x_size fun hsz => ?_
  have hz2 : H.size ≤ G.1 + sh.length := by omega
  obtain ⟨⟨e3, e4, e5⟩, e6, e7, e8, e9⟩ := he
  subst hstk
  have hts := hC.2.2.2.2.2.1
  have hk : xK G s := hC.2.2.2.2.2.2.2.2
  have hM := hrun l G
  rw [e9] at hM e4
  refine x_run (Q := Q) (rest := st.map (xv G)) (va_runI (b := G.1 + r) (As := as.map (xv G)) ⟨hC.1, hC.2.1, hC.2.2.2.1, hC.2.2.2.2.1, hC.2.2.2.2.2.1⟩ hM ⟨callB_of n hts (xGood e4) rfl rfl rfl (hts _ e3) (hts _ e6) e5 ⟨hf.1, hf.2.1⟩, e8, hts _ e7⟩ ⟨xblind, xpre (as := .ref r :: as) hk hR hS hz2⟩ rfl (by rw [List.length_map]; exact hn) hl.1 (by simp [xv]) (lv_room (xcat hc)) hd hf.2.2) hS (fun r h H1 locs1 hq hR1 hS1 => ?_)
  have e : (r.map (xv G)).toList ++ st.map (xv G) = (r.toList ++ st).map (xv G) := by cases r <;> simp
  rw [e]
  exact K r h hq l G p e1 s m args below meth c H1 locs1 la hC (by have := hg r h hq; omega) hR1 hS1 hl
theorem x_callIN {r : Nat} (he : xEIN M.1.cls idx host M2 n) (hrun : xRuns d M2 (.ref r :: as) (sh, V, L) Q) (hn : as.length = n) (hstk : stk = as.reverse ++ .ref r :: st) (hc : (st.map fun v => v.category).sum ≤ 8) (hf : xFit R cu su d M2) (hd : decode M.2.1 pc = .ok (.invokespecial idx, 3)) (hg : ∀ r h, Q r h → sh.length + M2.2.2.2.2.1 ≤ h.1.length)
    (K : ∀ r h, Q r h → X M R Z h.1 h.2.1 h.2.2 (cu + M2.2.2.2.2.1) (su + M2.2.2.2.2.2) (pc + 3) ls (r.toList ++ st)) : X M R Z sh V L cu su pc ls stk := by
  intro l G p e1 s m args below meth c H locs la hC hz hR hS hl
  refine x_size fun hsz => ?_
  have hz2 : H.size ≤ G.1 + sh.length := by omega
  obtain ⟨⟨e3, e4, e5⟩, e6, e7, e8, e9⟩ := he
  subst hstk
  have hts := hC.2.2.2.2.2.1
  have hk : xK G s := hC.2.2.2.2.2.2.2.2
  have hM := hrun l G
  rw [e9] at hM e4
  refine x_run (Q := Q) (rest := st.map (xv G)) (va_runIN (b := G.1 + r) (As := as.map (xv G)) ⟨hC.1, hC.2.1, hC.2.2.2.1, hC.2.2.2.2.1, hC.2.2.2.2.2.1⟩ hM ⟨va_cnB n hts (xGood e4) rfl rfl rfl (hk.2.1 _ e6) (hts _ e3) e5 ⟨hf.1, hf.2.1⟩, e8, hts _ e7⟩ ⟨xblind, xpre (as := .ref r :: as) hk hR hS hz2⟩ rfl (by rw [List.length_map]; exact hn) hl.1 (by simp [xv]) (lv_room (xcat hc)) hd hf.2.2) hS (fun r h H1 locs1 hq hR1 hS1 => ?_)
  have e : (r.map (xv G)).toList ++ st.map (xv G) = (r.toList ++ st).map (xv G) := by cases r <;> simp
  rw [e]
  exact K r h hq l G p e1 s m args below meth c H1 locs1 la hC (by have := hg r h hq; omega) hR1 hS1 hl
theorem x_objInit {r : Nat} (hw : Cond.methodLink M.1.cls idx Lib.objectInit ∈ xTbl) (hi : Cond.instanceMethod Lib.objectInit ∈ xTbl) (hco : Cond.code Lib.objectInit ⟨#[0xb1]⟩ 1 none ∈ xTbl) (hf : 1 ≤ R.frames) (hlo : 20 ≤ R.locals) (hc : (st.map fun v => v.category).sum ≤ 8) (hd : decode M.2.1 pc = .ok (.invokespecial idx, 3)) (K : X M R Z sh V L cu su (pc + 3) ls st) : X M R Z sh V L cu su pc ls (.ref r :: st) := by
  intro l G p e s m args below meth c H locs la hC hz hR hS hl
  have hts := hC.2.2.2.2.2.1
  have h2 := lv_room (m := m) (pc := pc) (ls := la) (rest := []) (xcat (G := G) hc)
  refine W.objInit hC.1 hC.2.1 hC.2.2.2.2.1 (hts _ hw) (hts _ hi) (hts _ hco) (g := F0 m pc la ((.ref r :: st).map (xv G))) rfl (by rw [hC.2.2.2.1]; exact hl.1) (a := G.1 + r) (rest := st.map (xv G)) rfl hd hf ?_ (K l G p e s m args below meth c H locs la hC hz hR hS hl)
  exact Nat.le_trans (Nat.add_le_add_right h2 12) hlo
theorem x_max {x y : Int32} (hw : Cond.methodLink M.1.cls idx Lib.Math.max.name ∈ xTbl) (hs : Cond.static Lib.Math.max.name ∈ xTbl) (hi : Cond.initialized "java/lang/Math" ∈ xTbl) (hco : Cond.code Lib.Math.max.name Lib.Math.max.code 2 (some .int) ∈ xTbl) (hf : 1 ≤ R.frames) (hlo : 21 ≤ R.locals) (h1 : cu ≤ R.cells) (h2 : su ≤ R.slots) (hc : (st.map fun v => v.category).sum ≤ 8) (hd : decode M.2.1 pc = .ok (.invokestatic idx, 3)) (K : X M R Z sh V L cu su (pc + 3) ls (.int (if x < y then y else x) :: st)) : X M R Z sh V L cu su pc ls (.int y :: .int x :: st) := by
  intro l G p e s m args below meth c H locs la hC hz hR hS hl
  have hts := hC.2.2.2.2.2.1
  exact va_mmax hC.1 hC.2.1 (by rw [hC.2.2.2.1]; exact hl.1.symm) hC.2.2.2.2.1 (hts _ hw) (hts _ hs) (hts _ hi) (hts _ hco) hf (Nat.le_trans (Nat.add_le_add_right (xcat hc) 13) hlo) h1 h2 hd (K l G p e s m args below meth c H locs la hC hz hR hS hl)
theorem x_min {x y : Int32} (hw : Cond.methodLink M.1.cls idx Lib.Math.min.name ∈ xTbl) (hs : Cond.static Lib.Math.min.name ∈ xTbl) (hi : Cond.initialized "java/lang/Math" ∈ xTbl) (hco : Cond.code Lib.Math.min.name Lib.Math.min.code 2 (some .int) ∈ xTbl) (hf : 1 ≤ R.frames) (hlo : 21 ≤ R.locals) (h1 : cu ≤ R.cells) (h2 : su ≤ R.slots) (hc : (st.map fun v => v.category).sum ≤ 8) (hd : decode M.2.1 pc = .ok (.invokestatic idx, 3)) (K : X M R Z sh V L cu su (pc + 3) ls (.int (if y < x then y else x) :: st)) : X M R Z sh V L cu su pc ls (.int y :: .int x :: st) := by
  intro l G p e s m args below meth c H locs la hC hz hR hS hl
  have hts := hC.2.2.2.2.2.1
  exact va_mmin hC.1 hC.2.1 (by rw [hC.2.2.2.1]; exact hl.1.symm) hC.2.2.2.2.1 (hts _ hw) (hts _ hs) (hts _ hi) (hts _ hco) hf (Nat.le_trans (Nat.add_le_add_right (xcat hc) 13) hlo) h1 h2 hd (K l G p e s m args below meth c H locs la hC hz hR hS hl)
theorem x_copy {r q n0 n1 : Nat} {f0 f1 : Nat → Option Nat} {sp dp n : Int32} (hw : Cond.methodLink M.1.cls idx arraycopyName ∈ xTbl) (hna : Cond.native arraycopyName ∈ xTbl) (hs : Cond.static arraycopyName ∈ xTbl) (hi : Cond.initialized "java/lang/System" ∈ xTbl) (hf : 1 ≤ R.frames) (hlo : 8 + (nativeFrameWords "java/lang/System" "arraycopy" 5 + 11) ≤ R.locals) (hc : (st.map fun v => v.category).sum ≤ 8)
    (h0 : sh[r]? = some (.inl (.int, n0, f0))) (h1 : sh[q]? = some (.inl (.int, n1, f1))) (g1 : ¬ sp < 0) (g2 : ¬ dp < 0) (g3 : ¬ n < 0) (g4 : sp.toNatClampNeg + n.toNatClampNeg ≤ n0) (g5 : dp.toNatClampNeg + n.toNatClampNeg ≤ n1) (hd : decode M.2.1 pc = .ok (.invokestatic idx, 3)) (K : X M R Z sh (xrow V q (va_cpy (V r) (V q) sp.toNatClampNeg dp.toNatClampNeg n.toNatClampNeg)) L cu su (pc + 3) ls st) : X M R Z sh V L cu su pc ls (.int n :: .int dp :: .ref q :: .int sp :: .ref r :: st) := by
  intro l G p e s m args below meth c H locs la hC hz hR hS hl
  have hts := hC.2.2.2.2.2.1
  refine va_copyi hC.1 hC.2.1 (by rw [hC.2.2.2.1]; exact hl.1.symm) hC.2.2.2.2.1 (hts _ hw) (hts _ hna) (hts _ hs) (hts _ hi) hC.2.2.2.2.2.2.2.2.1 hR (xw_D G sh V L) hS r q 0 0 (xw_at h0) (xw_at h1) rfl rfl rfl g1 g2 g3 g4 g5 (fun _ _ => rfl) hf (Nat.le_trans (Nat.add_le_add_right (xcat hc) _) hlo) hd (fun H1 locs1 p1 p2 p3 => ?_)
  refine K l G p e s m args below meth c H1 locs1 la hC hz ?_ p3 hl
  show va_P _ _ _ _
  rw [xw_setS (V := V) (L := L) h1 (fun j hj => xrow_ne hj) (fun _ _ => rfl)]
  simp only [xe, xb, xrow_eq]
  exact p1
theorem xpush {G : xG} {sh : xS} {V : xV} {L : xL} {H H1 : Heap} {c : xC} (hR : xR G sh V L H) (hz : H.size = G.1 + sh.length) (ho : ∀ q, q < H.size → H1[q]? = H[q]?) (hc : va_at G.2.2.1 classes (G.1 + sh.length, xe G V L sh.length c) H1) : xR G (sh ++ [c]) V L H1 := by
  intro k q hk
  obtain ⟨c1, h1, rfl⟩ := xw_of hk
  by_cases hl : k < sh.length
  · rw [List.getElem?_append_left hl] at h1
    exact (hR k _ (xw_at h1)).kept (ho _ (by show G.1 + k < H.size; omega))
  · rw [List.getElem?_append_right (by omega)] at h1
    have h2 : k - sh.length < 1 := (List.getElem?_eq_some_iff.mp h1).1
    have h3 : k = sh.length := by omega
    subst h3
    rw [Nat.sub_self] at h1
    cases h1
    exact hc
theorem xgrow {G : xG} {H0 H H1 : Heap} {locs : List Loc} (hS : va_S (xA G) H0 H locs) (z : H1.size = H.size + 1) (ho : ∀ q, q < H.size → H1[q]? = H[q]?) : va_S (xA G) H0 H1 locs := ⟨Nat.le_trans hS.1 (by omega), fun q h1 h2 => (ho q (Nat.lt_of_lt_of_le h1 hS.1)).trans (hS.2.1 q h1 h2), hS.2.2⟩
/-- what a class needs to be made of by an instruction of own -/
def xN (own : String) (idx ci : Nat) (ks : List Nat) : Prop := ∃ (C : String) (T : u_T) (N : Nat) (tf : Nat → FieldType), classes[ci]? = some (C, T, N) ∧ xCls C T N tf ∧ Cond.classLink own idx C ∈ xTbl ∧ Cond.instantiable C N ∈ xTbl ∧ Cond.initialized C ∈ xTbl ∧ ks.length = N ∧ ∀ j, j < N → (ks[j]? = some 0 ∧ defaultValue (tf j) = .int 0) ∨ (ks[j]? = some 1 ∧ defaultValue (tf j) = .null)
theorem x_new {ci : Nat} {ks : List Nat} (hN : xN M.1.cls idx ci ks) (hV : ∀ k, V sh.length k = 0) (hc1 : cu + 1 ≤ R.cells) (hc2 : su + ks.length ≤ R.slots) (hd : decode M.2.1 pc = .ok (.new idx, 3))
    (K : X M R Z (sh ++ [.inr (ci, ks)]) V L (cu + 1) (su + ks.length) (pc + 3) ls (.ref sh.length :: st)) : X M R Z sh V L cu su pc ls st := by
  intro l G p e s m args below meth c H locs la hC hz hR hS hl
  refine x_size fun hsz => ?_
  have hk : xK G s := hC.2.2.2.2.2.2.2.2
  have hlow := xR_low hR (Nat.le_trans hk.2.2.2.2.1 hS.1)
  have hH : H.size = G.1 + sh.length := by omega
  obtain ⟨C, T, N, tf, f1, f2, f3, f4, f5, f6, f7⟩ := hN
  have hts := hC.2.2.2.2.2.1
  have hKn := hk.1.1 ci _ f1
  subst f6
  refine W.newcK hC.1 hC.2.1 hC.2.2.2.2.1 (hts _ f3) (hts _ f4) (hts _ f5) rfl hd hc1 hc2 hKn.2.1 hH fun H1 kC hkC e1 z1 o1 => ?_
  refine K l G p e s m args below meth c H1 locs la hC (by simp; omega) (xpush hR hH (by rw [hH]; exact o1) ?_) (xgrow hS (by rw [z1, hH]) (by rw [hH]; exact o1)) hl
  refine ⟨_, f1, (u_born tf hts f2.1 hKn hkC e1 f2.2.1).to (fun k hk => ?_)⟩
  show _ = (ks.mapIdx (fun k kd => xv G (xsv kd (V sh.length k)))).getD k .null
  rcases f7 k hk with ⟨a1, a2⟩ | ⟨a1, a2⟩
  · rw [List.getD_eq_getElem?_getD, xks_at a1, a2, hV]; rfl
  · rw [List.getD_eq_getElem?_getD, xks_at a1, a2]; rfl
theorem x_newarray {at_ : ArrayType} {ty : FieldType} {i : Int32} (n : Nat) (hw : Cond.arrayClass ty ∈ xTbl) (hty : newarray.typeOf at_ = ty) (ht : ty = .int ∨ ty = .byte ∨ ty = .long) (hV : ∀ k, V sh.length k = 0) (hL : ∀ k, L sh.length k = 0) (hi : ¬ i < 0) (hn : i.toNatClampNeg = n) (hb : n * 8 ≤ 536870912) (hc1 : cu + 1 ≤ R.cells) (hc2 : su + n ≤ R.slots) (hd : decode M.2.1 pc = .ok (.newarray at_, 2))
    (K : X M R Z (sh ++ [.inl (ty, n, fun _ => none)]) V L (cu + 1) (su + n) (pc + 2) ls (.ref sh.length :: st)) : X M R Z sh V L cu su pc ls (.int i :: st) := by
  intro l G p e s m args below meth c H locs la hC hz hR hS hl
  refine x_size fun hsz => ?_
  have hk : xK G s := hC.2.2.2.2.2.2.2.2
  have hlow := xR_low hR (Nat.le_trans hk.2.2.2.2.1 hS.1)
  have hH : H.size = G.1 + sh.length := by omega
  have hts := hC.2.2.2.2.2.1
  subst hty
  have hcb : n * componentBytes (newarray.typeOf at_) ≤ 536870912 := by
    refine Nat.le_trans ?_ hb
    rcases ht with h | h | h <;> rw [h] <;> exact Nat.mul_le_mul_left _ (by decide)
  refine va_newaK hC.1 hC.2.1 (hts _ hw) rfl hd rfl hi hn hcb hc1 hc2 hH fun H1 cA e1 z1 o1 hAr hNm => ?_
  have hcA : cA = G.2.2.2.1 (newarray.typeOf at_) := by
    rcases ht with h | h | h
    · have h2 : s.vm.findClass ("[" ++ (FieldType.int).toString) = some (G.2.2.2.1 .int) := (hk.1.2 0 _ rfl).2
      rw [h] at hNm ⊢; exact Option.some.inj (hNm.symm.trans h2)
    · have h2 : s.vm.findClass ("[" ++ (FieldType.byte).toString) = some (G.2.2.2.1 .byte) := (hk.1.2 1 _ rfl).2
      rw [h] at hNm ⊢; exact Option.some.inj (hNm.symm.trans h2)
    · have h2 : s.vm.findClass ("[" ++ (FieldType.long).toString) = some (G.2.2.2.1 .long) := (hk.1.2 2 _ rfl).2
      rw [h] at hNm ⊢; exact Option.some.inj (hNm.symm.trans h2)
  refine K l G p e s m args below meth c H1 locs la hC (by simp; omega) (xpush hR hH (by rw [hH]; exact o1) ?_) (xgrow hS (by rw [z1, hH]) (by rw [hH]; exact o1)) hl
  have hV2 : V sh.length = fun _ => 0 := funext hV
  have hL2 : L sh.length = fun _ => 0 := funext hL
  show H1[G.1 + sh.length]? = some (vp_cell _ _)
  rw [e1, hcA]
  rcases ht with h | h | h <;> rw [h] <;> simp only [xb, hV2, hL2] <;> rfl
theorem x_anewarray {i : Int32} (n : Nat) (hw : Cond.classLink M.1.cls idx "WarrantWeather$Law" ∈ xTbl) (hi : ¬ i < 0) (hn : i.toNatClampNeg = n) (hb : n * 4 ≤ 536870912) (hc1 : cu + 1 ≤ R.cells) (hc2 : su + n ≤ R.slots) (hd : decode M.2.1 pc = .ok (.anewarray idx, 3))
    (K : X M R Z (sh ++ [.inl (.object "WarrantWeather$Law", n, fun _ => none)]) V L (cu + 1) (su + n) (pc + 3) ls (.ref sh.length :: st)) : X M R Z sh V L cu su pc ls (.int i :: st) := by
  intro l G p e s m args below meth c H locs la hC hz hR hS hl
  refine x_size fun hsz => ?_
  have hk : xK G s := hC.2.2.2.2.2.2.2.2
  have hlow := xR_low hR (Nat.le_trans hk.2.2.2.2.1 hS.1)
  have hH : H.size = G.1 + sh.length := by omega
  have hts := hC.2.2.2.2.2.1
  subst hn
  refine W.anew hC.1 hC.2.1 hC.2.2.2.2.1 (hts _ hw) (va_AO.use hk.2.2.2.2.2.2.2.2.2.2.2) rfl hd rfl hi hb hc1 hc2 fun cA kA comp f1 f2 f3 f4 => ?_
  have h2 : va_RA s (G.2.2.2.1 (.object "WarrantWeather$Law")) (.object "WarrantWeather$Law") := (hk.1.2 3 _ rfl).2
  obtain ⟨kA2, comp2, q1, q2, q3, q4⟩ := h2
  have hcA : cA = G.2.2.2.1 (.object "WarrantWeather$Law") := Option.some.inj (f1.symm.trans q4)
  have o1 : ∀ q : Nat, q < H.size → (H.push ({ cls := cA, slots := Array.replicate i.toNatClampNeg .null, vm := .none } : Cell))[q]? = H[q]? := fun q hq => by rw [Array.getElem?_push, if_neg (Nat.ne_of_lt hq)]
  rw [hH]
  refine K l G p e s m args below meth c _ locs la hC (by simp; omega) (xpush hR hH o1 ?_) (xgrow hS (by rw [Array.size_push]) o1) hl
  show (H.push _)[G.1 + sh.length]? = some (vp_cell _ _)
  rw [← hH, Array.getElem?_push_size, ← hcA]
  show _ = some (arrV cA i.toNatClampNeg (fun _ => Value.null))
  rw [← arrV_new]
theorem xset_len {α : Type} {l : List α} {k : Nat} {v : α} : (l.set k v).length = l.length := by simp
theorem xV_putP {G : xG} {V : xV} {L : xL} {r k ci q : Nat} {ks : List Nat} (hk : k < ks.length) : xe G V L r (.inr (ci, ks.set k (q + 3))) = .inr (ci, (ks.mapIdx (fun k kd => xv G (xsv kd (V r k)))).set k (.ref (G.1 + q))) := by
  simp only [xe]
  congr 2
  apply List.ext_getElem?
  intro j
  by_cases hj : j = k
  · subst hj
    rw [List.getElem?_set_self (by simp only [List.length_mapIdx]; exact hk)]
    simp only [List.getElem?_mapIdx, List.getElem?_set_self hk, Option.map_some, xsv, xv]
  · rw [List.getElem?_set_ne (Ne.symm hj)]
    simp only [List.getElem?_mapIdx]
    rw [List.getElem?_set_ne (Ne.symm hj)]
/-- a reference is put into a new object's field -/
theorem x_putP {ci k r q : Nat} {fin : Bool} {ty : FieldType} {ks : List Nat} (hf : xF M.1.cls idx ci k fin ty) (hs : sh[r]? = some (.inr (ci, ks))) (hk : k < ks.length) (hty : narrow ty (.ref 0) = .ref 0 ∧ ∀ a, narrow ty (.ref a) = .ref a ∧ fits ty (.ref a) = true) (hin : fin = true → M.1.name = "<init>" ∧ ∃ T N, classes[ci]? = some (M.1.cls, T, N)) (hd : decode M.2.1 pc = .ok (.putfield idx, 3))
    (K : X M R Z (sh.set r (.inr (ci, ks.set k (q + 3)))) V L cu su (pc + 3) ls st) : X M R Z sh V L cu su pc ls (.ref q :: .ref r :: st) := by
  intro l G p e s m args below meth c H locs la hC hz hR hS hl
  obtain ⟨C, T, N, tf, f1, f2, f3, f4, f5, f6, f7⟩ := hf
  have hr : r < sh.length := (List.getElem?_eq_some_iff.mp hs).1
  have fin1 : ∀ (H1 : Heap) (locs1 : List Loc), va_P G.2.2.1 classes ((xw G sh V L).set r (G.1 + r, .inr (ci, (ks.mapIdx (fun k kd => xv G (xsv kd (V r k)))).set k (xv G (.ref q))))) H1 → va_D (xA G) ((xw G sh V L).set r (G.1 + r, .inr (ci, (ks.mapIdx (fun k kd => xv G (xsv kd (V r k)))).set k (xv G (.ref q))))) → va_S (xA G) s.heap H1 locs1 → W p l e R s m args below meth c H1 locs1 cu su (Z G below args s) (F0 m (pc + 3) la (st.map (xv G))) := by
    intro H1 locs1 p1 p2 p3
    refine K l G p e s m args below meth c H1 locs1 la hC (by simp; omega) ?_ p3 hl
    show va_P _ _ _ _
    rw [xw_set (V := V) (L := L) _ hr (fun _ _ => rfl) (fun _ _ => rfl), xV_putP hk]
    exact p1
  cases fin with
  | false => exact va_put hC.1 hC.2.1 hC.2.2.2.2.2.1 f2.1 tf f2.2.1 f2.2.2 hC.2.2.2.2.1 hC.2.2.2.2.2.2.2.2.1 hR (xw_D G sh V L) hS r (xw_at hs) f1 k f3 (hC.2.2.2.2.2.1 _ f4) (fun _ h => h) f5 (by rw [f2.2.1 k f3, f6]) (hty.2 _).1 (hty.2 _).2 (by simp only [List.length_mapIdx]; exact hk) hd fin1
  | true =>
    obtain ⟨i1, T2, N2, i2⟩ := hin rfl
    have hCc : C = M.1.cls := congrArg Prod.fst (Option.some.inj (f1.symm.trans i2))
    exact va_putF hC.1 hC.2.1 hC.2.2.2.2.2.1 f2.1 tf f2.2.1 f2.2.2 hC.2.2.2.2.1 hC.2.2.2.2.2.2.2.2.1 hR (xw_D G sh V L) hS r (xw_at hs) f1 k f3 (hC.2.2.2.2.2.1 _ f4) (fun _ h => h) f5 (hC.2.2.2.2.2.2.2.1 i1) (by rw [f7, hCc]) (by rw [f2.2.1 k f3, f6]) (hty.2 _).1 (hty.2 _).2 (by simp only [List.length_mapIdx]; exact hk) hd fin1
end XCalls

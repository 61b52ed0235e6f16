/-! THE FRAME: an abstract heap (shapes, ints, longs), and the judgement X over it: the machine's walk with all of its context hidden. -/
/-- a cell's shape: an array (its type, its length, its references), or an object (its class's number, its slots' kinds: 0 an int, 1 null, 2 a reference that V holds, q + 3 the reference q) -/
abbrev xC : Type := (FieldType × Nat × (Nat → Option Nat)) ⊕ (Nat × List Nat)
abbrev xS : Type := List xC
abbrev xV : Type := Nat → Nat → Int32
abbrev xL : Type := Nat → Nat → Int64
abbrev xH : Type := xS × xV × xL
/-- where the world lies: its first address, the addresses of what isn't ours, the classes' numbers and slots, the arrays' classes, the script -/
abbrev xG : Type := Nat × (Nat → Nat) × va_G × (FieldType → ClassId) × (Nat × (Nat → Int32))
/-- a method: its name, its bytes, how many locals, what it returns, how many cells and slots it may make -/
abbrev xM : Type := MethodName × ByteArray × Nat × Option FieldType × Nat × Nat
def xv (G : xG) : Value → Value
  | .ref q => .ref (G.1 + q)
  | .retAddr k => .ref (G.2.1 k)
  | v => v
theorem xv_cat (G : xG) (v : Value) : (xv G v).category = v.category := by cases v <;> rfl
def xsv (kd : Nat) (x : Int32) : Value := match kd with
  | 0 => .int x
  | 1 => .null
  | 2 => .ref x.toNatClampNeg
  | q + 3 => .ref q
def xb (G : xG) (V : xV) (L : xL) (r : Nat) (ty : FieldType) (f : Nat → Option Nat) : (Nat → Int32) ⊕ (Nat → Int64) ⊕ (Nat → UInt32) ⊕ (Nat → UInt64) ⊕ (Nat → Option Nat) := match ty with
  | .long => .inr (.inl (L r))
  | .object _ => .inr (.inr (.inr (.inr (fun j => (f j).map (fun q => G.1 + q)))))
  | _ => .inl (V r)
def xe (G : xG) (V : xV) (L : xL) (r : Nat) : xC → va_E
  | .inl (ty, n, f) => .inl (G.2.2.2.1 ty, n, xb G V L r ty f)
  | .inr (ci, ks) => .inr (ci, ks.mapIdx (fun k kd => xv G (xsv kd (V r k))))
def xw (G : xG) (sh : xS) (V : xV) (L : xL) : va_W := sh.mapIdx (fun r c => (G.1 + r, xe G V L r c))
def xA (G : xG) : Nat → Prop := fun q => G.1 ≤ q
def xR (G : xG) (sh : xS) (V : xV) (L : xL) (H : Heap) : Prop := va_P G.2.2.1 classes (xw G sh V L) H
theorem xw_at {G : xG} {sh : xS} {V : xV} {L : xL} {r : Nat} {c : xC} (h : sh[r]? = some c) : (xw G sh V L)[r]? = some (G.1 + r, xe G V L r c) := by
  simp only [xw, List.getElem?_mapIdx, h, Option.map_some]
theorem xw_of {G : xG} {sh : xS} {V : xV} {L : xL} {r : Nat} {q : Nat × va_E} (h : (xw G sh V L)[r]? = some q) : ∃ c, sh[r]? = some c ∧ q = (G.1 + r, xe G V L r c) := by
  simp only [xw, List.getElem?_mapIdx, Option.map_eq_some_iff] at h
  obtain ⟨c, h1, h2⟩ := h
  exact ⟨c, h1, h2.symm⟩
theorem xw_D (G : xG) (sh : xS) (V : xV) (L : xL) : va_D (xA G) (xw G sh V L) := by
  refine ⟨fun i j p q hi hj e => ?_, fun k q hk => ?_⟩
  · obtain ⟨c1, -, rfl⟩ := xw_of hi
    obtain ⟨c2, -, rfl⟩ := xw_of hj
    have e : G.1 + i = G.1 + j := e
    omega
  · obtain ⟨c1, -, rfl⟩ := xw_of hk
    exact Nat.le_add_right _ _
/-- the array types that the world has -/
def xTy (G : xG) : List (ClassId × FieldType) := [(G.2.2.2.1 .int, .int), (G.2.2.2.1 .byte, .byte), (G.2.2.2.1 .long, .long), (G.2.2.2.1 (.object "WarrantWeather$Law"), .object "WarrantWeather$Law")]
/-- what holds of every state: the tables, the script, the constants that aren't ours -/
def xK (G : xG) (U : State) : Prop :=
  va_K G.2.2.1 classes (xTy G) U ∧ (∀ w ∈ xNest, va_Nw w U) ∧ va_X (G.2.1 0) G.2.2.2.2.1 G.2.2.2.2.2 U U.heap ∧ G.2.1 0 < G.1 ∧ G.1 ≤ U.heap.size ∧
  va_Z "WarrantWeather" "NAME_IS_OF" "[I" (.ref (G.2.1 2)) (xA G) U U.heap ∧ va_T .int (G.2.1 2) 13 (fun j => .int (xNames.getD j 0)) (xA G) U U.heap ∧
  vk_R "WarrantWeather$Tokens" 65 xWords (G.2.1 1) U ∧ vk_S 1 [xWordsN] [xWordsB] (fun _ => G.2.1 1) (fun _ => G.2.1 3) (xA G) U U.heap ∧
  va_Z "java/lang/String" "COMPACT_STRINGS" "Z" (.int 1) (xA G) U U.heap ∧ (va_Z "jdk/internal/util/Preconditions" "SIOOBE_FORMATTER" "Ljava/util/function/BiFunction;" .null (xA G) U U.heap ∨ va_Z "jdk/internal/util/Preconditions" "SIOOBE_FORMATTER" "Ljava/util/function/BiFunction;" (.ref (G.2.1 4)) (xA G) U U.heap) ∧ va_AO "WarrantWeather$Law" U
theorem xK.to {G : xG} {s U : State} (h : xK G s) (hW : s.WarmedH U.vm) (hz : s.heap.size ≤ U.heap.size) (hq : ∀ q : Nat, q < s.heap.size → ¬ xA G q → U.heap[q]? = s.heap[q]?) : xK G U := by
  obtain ⟨h1, h2, h3, h4, h5, h6, h7, h8, h9, h10, h11, h12⟩ := h
  have hb : ¬ xA G (G.2.1 0) := Nat.not_le.mpr h4
  refine ⟨va_K.moved hW.alike h1, fun w hw => ?_, (va_X.moved hW.alike h3).kept (hq _ (Nat.lt_of_lt_of_le h4 h5) hb), h4, Nat.le_trans h5 hz, (va_Z.moved hW.alike h6).kept hq, (va_T.moved hW.alike h7).kept hq, vk_R.warm hW h8, (vk_S.moved hW.alike h9).kept hq, (va_Z.moved hW.alike h10).kept hq, h11.imp (fun h => (va_Z.moved hW.alike h).kept hq) (fun h => (va_Z.moved hW.alike h).kept hq), va_AO.moved hW.alike h12⟩
  have h := h2 w hw
  have hn : xIsNest w = true := (List.mem_filter.mp hw).2
  cases w <;> first | (exact va_Nw.warmF hW h) | (exact va_Nw.warmM hW h) | (cases hn)
theorem xK.call {G : xG} {U : State} {g : JFrame} {mk : MethodId} {a : Array Value} (h : xK G U) : xK G (U.calling g mk a) := by
  obtain ⟨h1, h2, h3, h4, h5, h6, h7, h8, h9, h10, h11, h12⟩ := h
  refine ⟨va_K.moved (u := U) (U := U.calling g mk a) (Vm.Alike.refl U.vm) h1, fun w hw => va_Nw.same ?_ (u := U) rfl (h2 w hw), va_X.moved (u := U) (Vm.Alike.refl U.vm) h3, h4, h5, va_Z.moved (u := U) (Vm.Alike.refl U.vm) h6, va_T.moved (u := U) (Vm.Alike.refl U.vm) h7, vk_R.same (u := U) rfl h8, vk_S.moved (u := U) (Vm.Alike.refl U.vm) h9, va_Z.moved (u := U) (Vm.Alike.refl U.vm) h10, h11.imp (fun h => va_Z.moved (u := U) (Vm.Alike.refl U.vm) h) (fun h => va_Z.moved (u := U) (Vm.Alike.refl U.vm) h), va_AO.moved (u := U) (Vm.Alike.refl U.vm) h12⟩
  have hn : xIsNest w = true := (List.mem_filter.mp hw).2
  cases w <;> first | rfl | (cases hn)
/-- the room of a method whose calls go d deep -/
def xRm (d : Nat) (M : xM) : Room := { frames := d, cells := M.2.2.2.2.1, slots := M.2.2.2.2.2, locals := 64 * d + 64 }
def xPc (G : xG) (as : List Value) (h : xH) : Array Value → State → Prop := fun a U => a = (as.map (xv G)).toArray ∧ xR G h.1 h.2.1 h.2.2 U.heap ∧ xK G U ∧ U.heap.size ≤ G.1 + h.1.length
def xQc (G : xG) (Q : Option Value → xH → Prop) : Array Value → State → Outcome → State → Prop := fun _ st o t => ∃ (r : Option Value) (h : xH), o = .returned (r.map (xv G)) ∧ Q r h ∧ xR G h.1 h.2.1 h.2.2 t.heap ∧ va_F (xA G) st t
/-- a method's contract over the abstract heap -/
def xRuns (d : Nat) (M : xM) (as : List Value) (h : xH) (Q : Option Value → xH → Prop) : Prop :=
  ∀ (l : Launch) (G : xG), Met l M.1 (.code M.1 M.2.1 M.2.2.1 M.2.2.2.1 :: xTbl) (xRm d M) (xPc G as h) (xQc G Q) M.2.2.2.2.1 M.2.2.2.2.2 (xA G)
/-- a method's context -/
def xCx (G : xG) (M : xM) (p : Program) (s : State) (m : MethodId) (args : Array Value) (meth : Method) (c : Code) : Prop :=
  p.tables.exec = Jvm.exec ∧ c.code = M.2.1 ∧ meth.sig.returnType = M.2.2.2.1 ∧ c.maxLocals = M.2.2.1 ∧ s.vm.findClass M.1.cls = some m.cls ∧ (∀ w ∈ xTbl, w.before args s = true) ∧ meth.locks = false ∧ (M.1.name = "<init>" → meth.name = "<init>") ∧ xK G s
def xls (G : xG) (ls : List (Nat × Value)) : List (Nat × Value) := ls.map (fun q => (q.1, xv G q.2))
/-- the judgement: the machine, in method M at pc with these locals and this stack, over this heap, comes to Z -/
def X (M : xM) (R : Room) (Z : xG → List Frame → Array Value → State → State → Prop) (sh : xS) (V : xV) (L : xL) (cu su pc : Nat) (ls : List (Nat × Value)) (st : List Value) : Prop :=
  ∀ (l : Launch) (G : xG) (p : Program) (e : Env) (s : State) (m : MethodId) (args : Array Value) (below : List Frame) (meth : Method) (c : Code) (H : Heap) (locs : List Loc) (la : Array Slot),
    xCx G M p s m args meth c → s.heap.size + cu ≤ G.1 + sh.length → xR G sh V L H → va_S (xA G) s.heap H locs → lv_has la M.2.2.1 (xls G ls) →
    W p l e R s m args below meth c H locs cu su (Z G below args s) (F0 m pc la (st.map (xv G)))
/-- a method's end -/
def xZ (M : xM) (Q : Option Value → xH → Prop) : xG → List Frame → Array Value → State → State → Prop := fun G below args s => MQ below (xQc G Q) args s M.2.2.2.2.1 M.2.2.2.2.2 (xA G)
theorem xl_at {G : xG} {ls : List (Nat × Value)} {k i : Nat} {v : Value} (h : ls[k]? = some (i, v)) : (xls G ls)[k]? = some (i, xv G v) := by
  simp only [xls, List.getElem?_map, h, Option.map_some]
theorem xl_st1 {G : xG} {ls ls' : List (Nat × Value)} {i : Nat} {v : Value} (h : (i, v) :: ls.filter (fun q => !(q.1 == i) && !(q.1 + 1 == i && q.2.category == 2)) = ls') :
    (i, xv G v) :: (xls G ls).filter (fun q => !(q.1 == i) && !(q.1 + 1 == i && q.2.category == 2)) = xls G ls' := by
  subst h
  simp only [xls, List.filter_map, List.map_cons]
  congr 2
  congr 1
  funext q
  simp only [Function.comp, xv_cat]
theorem xl_st2 {G : xG} {ls ls' : List (Nat × Value)} {i : Nat} {v : Value} (h : (i, v) :: ls.filter (fun q => !(q.1 == i) && (!(q.1 == i + 1) && !(q.1 + 1 == i && q.2.category == 2))) = ls') :
    (i, xv G v) :: (xls G ls).filter (fun q => !(q.1 == i) && (!(q.1 == i + 1) && !(q.1 + 1 == i && q.2.category == 2))) = xls G ls' := by
  subst h
  simp only [xls, List.filter_map, List.map_cons]
  congr 2
  congr 1
  funext q
  simp only [Function.comp, xv_cat]
theorem xl_args (G : xG) : ∀ (as : List Value) (i : Nat), lv_args i (as.map (xv G)) = xls G (lv_args i as)
  | [], _ => rfl
  | v :: vs, i => by
    simp only [List.map_cons, lv_args, xv_cat, xls]
    rw [xl_args G vs]
    rfl
theorem xl_sl (G : xG) : ∀ as : List Value, (lg_sl (as.map (xv G))).length = (lg_sl as).length
  | [] => rfl
  | v :: vs => by
    have ih := xl_sl G vs
    simp only [lg_sl, List.map_cons, List.flatMap_cons, List.length_append, xv_cat] at ih ⊢
    rw [ih]
    split <;> rfl
/-- a method's contract out of the walk of its body -/
theorem xRuns_of {d : Nat} {M : xM} {as : List Value} {sh : xS} {V : xV} {L : xL} {Q : Option Value → xH → Prop} (hy : plainName M.1.cls = true) (hn : (lg_sl as).length ≤ M.2.2.1)
    (h : X M (xRm d M) (xZ M Q) sh V L 0 0 0 (lv_args 0 as) []) : xRuns d M as (sh, V, L) Q := by
  intro l G
  refine Met.ofW (cc := M.2.1) (maxL := M.2.2.1) (ret := M.2.2.2.1) hy rfl ?_
  intro p e s m args below meth c s₁ B hml hv
  obtain ⟨rfl, hR, hK, hz⟩ := hv
  have hl := lv_entry (as.map (xv G)) (n := M.2.2.1) (by rw [xl_sl]; exact hn)
  rw [xl_args] at hl
  rw [lg_entry_eq]
  exact h l G p e s m _ below meth c s.heap [] _ ⟨B.exec, B.bytes, B.returns, hml, findClass_of_methodNamed B.named, fun w hw => atoms_spec B.pre w (List.mem_cons_of_mem _ hw), B.notSynchronized, fun h => (name_of_methodNamed B.named B.method).1.trans h, hK⟩ hz hR va_S.rf hl
theorem xRuns.weak {d : Nat} {M : xM} {as : List Value} {h : xH} {Q Q2 : Option Value → xH → Prop} (hM : xRuns d M as h Q) (hq : ∀ r h', Q r h' → Q2 r h') : xRuns d M as h Q2 := by
  intro l G
  refine fun p e ha hc hk s m args below hf happ hP hK => ?_
  obtain ⟨k, o, h1, h2, h3, ⟨r, h', e1, e2, e3⟩, h4⟩ := hM l G p e ha hc hk s m args below hf happ hP hK
  exact ⟨k, o, h1, h2, h3, ⟨r, h', e1, hq r h' e2, e3⟩, h4⟩
section XR
variable {p : Program} {l : Launch} {e : Env} {R : Room} {s : State} {m : MethodId} {args : Array Value} {below : List Frame} {meth : Method} {c : Code} {H : Heap} {locs : List Loc} {cells slots : Nat} {Qf : State → Prop}
variable {pc mc ms : Nat} {la : Array Slot} {rest st0 : List Value} {a : Array Value} {G : xG} {Q : Option Value → xH → Prop}
theorem x_run (hr : va_Run p l e R s m args below meth c H locs cells slots mc ms (F0 m pc la st0) rest (xQc G Q a) (xA G)) (hS : va_S (xA G) s.heap H locs)
    (K : ∀ (r : Option Value) (h : xH) (H1 : Heap) (locs1 : List Loc), Q r h → xR G h.1 h.2.1 h.2.2 H1 → va_S (xA G) s.heap H1 locs1 → W p l e R s m args below meth c H1 locs1 (cells + mc) (slots + ms) Qf (F0 m (pc + 3) la ((r.map (xv G)).toList ++ rest))) : W p l e R s m args below meth c H locs cells slots Qf (F0 m pc la st0) := by
  intro T hT Xx
  obtain ⟨v, st₀, t, T', L, h0, X', hL, e1, e2, ⟨r, h, hv, hq, hR, hz, hk⟩, st⟩ := hr T hT Xx
  cases hv
  rw [h0] at hz hk
  obtain ⟨t2, a1, b1⟩ := K r h T'.heap (locs ++ L) hq (by rw [e1]; exact hR)
    ⟨Nat.le_trans hS.1 (by rw [e1]; exact hz), fun q h1 h2 => by rw [e1, hk q (Nat.lt_of_lt_of_le h1 hS.1) h2]; exact hS.2.1 q h1 h2, fun q hq => by
      rcases List.mem_append.mp hq with h | h
      · exact hS.2.2 q h
      · exact hL q h⟩ T' rfl X'
  exact ⟨t2, st t2 a1, b1⟩
theorem x_size {g : JFrame} (h : H.size ≤ s.heap.size + cells → W p l e R s m args below meth c H locs cells slots Qf g) : W p l e R s m args below meth c H locs cells slots Qf g := fun T hT Xs => h (by have := Xs.same.2.2.1; rw [← hT]; exact this) T hT Xs
end XR
theorem xR_low {G : xG} {sh : xS} {V : xV} {L : xL} {H : Heap} (h : xR G sh V L H) (hb : G.1 ≤ H.size) : G.1 + sh.length ≤ H.size := by
  rcases Nat.eq_zero_or_pos sh.length with h0 | h0
  · omega
  · have h1 : sh[sh.length - 1]? = some sh[sh.length - 1] := List.getElem?_eq_getElem (by omega)
    have h2 := (h _ _ (xw_at (G := G) (V := V) (L := L) h1)).lt
    simp only at h2
    omega
theorem xe_eq {G : xG} {V V' : xV} {L L' : xL} {r : Nat} (c : xC) (hV : V' r = V r) (hL : L' r = L r) : xe G V' L' r c = xe G V L r c := by
  rcases c with ⟨ty, n, f⟩ | ⟨ci, ks⟩
  · cases ty <;> simp only [xe, xb, hV, hL]
  · simp only [xe, hV]
theorem xw_set {G : xG} {sh : xS} {V V' : xV} {L L' : xL} {r : Nat} (c : xC) (hr : r < sh.length) (hV : ∀ j, j ≠ r → V' j = V j) (hL : ∀ j, j ≠ r → L' j = L j) : xw G (sh.set r c) V' L' = (xw G sh V L).set r (G.1 + r, xe G V' L' r c) := by
  apply List.ext_getElem?
  intro i
  by_cases hi : i = r
  · subst hi
    rw [xw_at (List.getElem?_set_self hr), List.getElem?_set_self (by simp only [xw, List.length_mapIdx]; exact hr)]
  · rw [List.getElem?_set_ne (Ne.symm hi)]
    simp only [xw, List.getElem?_mapIdx]
    rw [List.getElem?_set_ne (Ne.symm hi)]
    cases sh[i]? with
    | none => rfl
    | some c' =>
      simp only [Option.map_some]
      rw [xe_eq c' (hV i hi) (hL i hi)]
theorem xw_setS {G : xG} {sh : xS} {V V' : xV} {L L' : xL} {r : Nat} {c : xC} (hr : sh[r]? = some c) (hV : ∀ j, j ≠ r → V' j = V j) (hL : ∀ j, j ≠ r → L' j = L j) : xw G sh V' L' = (xw G sh V L).set r (G.1 + r, xe G V' L' r c) := by
  have h1 := xw_set (G := G) c (List.getElem?_eq_some_iff.mp hr).1 hV hL
  rw [← h1]
  congr 1
  apply List.ext_getElem?
  intro i
  by_cases hi : i = r
  · subst hi
    rw [List.getElem?_set_self (List.getElem?_eq_some_iff.mp hr).1, hr]
  · rw [List.getElem?_set_ne (Ne.symm hi)]
/-- one int of the heap is another -/
def x2 (V : xV) (r k : Nat) (v : Int32) : xV := fun r' k' => if r' = r ∧ k' = k then v else V r' k'
def x2L (L : xL) (r k : Nat) (v : Int64) : xL := fun r' k' => if r' = r ∧ k' = k then v else L r' k'
/-- a row of the heap is another -/
def xrow (V : xV) (r : Nat) (f : Nat → Int32) : xV := fun r' => if r' = r then f else V r'
theorem x2_ne {V : xV} {r k j : Nat} {v : Int32} (h : j ≠ r) : x2 V r k v j = V j := by funext i; simp [x2, h]
theorem x2L_ne {V : xL} {r k j : Nat} {v : Int64} (h : j ≠ r) : x2L V r k v j = V j := by funext i; simp [x2L, h]
theorem xrow_ne {V : xV} {r j : Nat} {f : Nat → Int32} (h : j ≠ r) : xrow V r f j = V j := if_neg h
theorem xrow_eq {V : xV} {r : Nat} {f : Nat → Int32} : xrow V r f r = f := if_pos rfl
theorem x2_upd {V : xV} {r k : Nat} {v : Int32} : x2 V r k v r = upd (V r) k v := by funext i; simp [x2, upd]
theorem x2L_upd {V : xL} {r k : Nat} {v : Int64} : x2L V r k v r = vp_updL (V r) k v := by funext i; simp [x2L, vp_updL]
/-- an index is within -/
def xI (i : Int32) (n : Nat) : Bool := decide (0 ≤ i.toInt ∧ i.toInt < (n : Int))
theorem xI_in {i : Int32} {n : Nat} (h : xI i n = true) : vp_in i n := vp_in_iff.mpr (of_decide_eq_true h)

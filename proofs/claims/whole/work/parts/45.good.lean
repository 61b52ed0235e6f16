/-! PURE: codes of both sides that come to the same -/
def cA (V : xV) (r : Nat) : Nat → List Int32 → Prop
  | _, [] => True
  | p, c :: l => V r p = c ∧ cA V r (p + 1) l
def oA (V : xV) : Nat → List (Int32 × Int32) → Prop
  | _, [] => True
  | p, c :: l => (V 72 p = c.1 ∧ V 73 p = c.2) ∧ oA V (p + 1) l
theorem cA_app {V : xV} {r : Nat} {b : List Int32} : ∀ {a : List Int32} {p : Nat}, cA V r p (a ++ b) ↔ cA V r p a ∧ cA V r (p + a.length) b
  | [], p => by show _ ↔ True ∧ cA V r (p + 0) b; simp
  | c :: a, p => by
    show (_ ∧ cA V r (p + 1) (a ++ b)) ↔ (_ ∧ cA V r (p + 1) a) ∧ cA V r (p + (a.length + 1)) b
    rw [cA_app, show p + (a.length + 1) = p + 1 + a.length by omega, and_assoc]
theorem oA_app {V : xV} {b : List (Int32 × Int32)} : ∀ {a : List (Int32 × Int32)} {p : Nat}, oA V p (a ++ b) ↔ oA V p a ∧ oA V (p + a.length) b
  | [], p => by show _ ↔ True ∧ oA V (p + 0) b; simp
  | c :: a, p => by
    show (_ ∧ oA V (p + 1) (a ++ b)) ↔ (_ ∧ oA V (p + 1) a) ∧ oA V (p + (a.length + 1)) b
    rw [oA_app, show p + (a.length + 1) = p + 1 + a.length by omega]
    exact ⟨fun ⟨x, y, z⟩ => ⟨⟨x, y⟩, z⟩, fun ⟨⟨x, y⟩, z⟩ => ⟨x, y, z⟩⟩
theorem cA_fr {V V' : xV} {r : Nat} : ∀ {l : List Int32} {p : Nat}, (∀ i, p ≤ i → i < p + l.length → V' r i = V r i) → cA V r p l → cA V' r p l
  | [], _, _, _ => trivial
  | c :: l, p, h, hh => ⟨(h p (Nat.le_refl _) (by show p < p + (l.length + 1); omega)).trans hh.1, cA_fr (fun i h1 h2 => h i (by omega) (by show i < p + (l.length + 1); omega)) hh.2⟩
theorem oA_fr {V V' : xV} : ∀ {l : List (Int32 × Int32)} {p : Nat}, (∀ i, p ≤ i → i < p + l.length → V' 72 i = V 72 i ∧ V' 73 i = V 73 i) → oA V p l → oA V' p l
  | [], _, _, _ => trivial
  | c :: l, p, h, hh => by
    have h0 := h p (Nat.le_refl _) (by show p < p + (l.length + 1); omega)
    exact ⟨⟨h0.1.trans hh.1.1, h0.2.trans hh.1.2⟩, oA_fr (fun i h1 h2 => h i (by omega) (by show i < p + (l.length + 1); omega)) hh.2⟩
/-- which names are of which clause -/
def msk (k : Nat) : Nat := [63, 63, 1, 1, 23, 30, 30, 30, 12, 4, 16, 32, 32].getD k 0
def may (w k : Nat) : Prop := msk k / 2 ^ w % 2 = 1
def eC (w : Nat) (V : xV) (env : Nat → Int) : Prop := ∀ k, k < 13 → may w k → V 54 k = iI (env k)
def eM (w : Nat) (V : xV) (env : Nat → Int) : Prop := ∀ k, k < 13 → may w k → V 82 k = iI (env k)
def eb (w : Nat) (env : Nat → Int) : Prop := ∀ k, k < 13 → may w k → mil (env k)
def cK (j : Nat) : Int32 := (-1) - nI j
theorem cK_k : ∀ j, j < 40 → (-1) - cK j = nI j := by decide +kernel
theorem iI_sub (x y : Int) : iI x - iI y = iI (x - y) := (Int32.ofInt_sub x y).symm
theorem lI_sub (x y : Int) : lI x - lI y = lI (x - y) := (Int64.ofInt_sub x y).symm
theorem num_neg {n : Nat} (h : n ≤ 9999) : (-1) - nI n < 0 := by
  rw [nI_iI, show (-1 : Int32) = iI (-1) from rfl, iI_sub, show (0 : Int32) = iI 0 from rfl, iI_lt (by unfold mil; omega) (by unfold mil; omega)]
  omega
theorem pk2 (h : Nat) : nI (h + 2) - 2 = nI h := by rw [show (2 : Int32) = nI 2 from rfl, pk_sub (by omega)]; congr 1
theorem m1 (h : Nat) : nI (h + 1) + (-1) = nI h := by rw [← nI_pred h]; exact (Int32.sub_eq_add_neg _ _).symm
theorem st_num {q st h p n f : Nat} {V : xV} (hp : p < st) (hst : st ≤ 300) (hh : h < 40) (hn : n ≤ 9999) (hc : V (q + 1) p = nI n) : g_Bench_run_31 q (f + 1) (nI st) (nI h) (nI p) V = g_Bench_run_31 q f (nI st) (nI (h + 1)) (nI (p + 1)) (x2 V 53 h (nI n)) := by
  show b_Bench_run_31 _ _ _ _ _ _ = _
  unfold b_Bench_run_31
  rw [if_neg (nI_ge hp (by omega)), if_pos (xI_ok (by omega) (by decide)), cl (by omega), hc, if_pos (num_neg hn)]
  unfold b_Bench_run_65
  rw [if_pos (show nI h < 40 from nI_lt (b := 40) hh (by decide)), if_neg (Int32.not_le.mpr (num_neg hn)), if_pos (xI_ok (by omega) (by decide)), if_pos (xI_ok hh (by decide)), cl (by omega), cl (by omega), hc, nI_1, nI_1]
theorem st_nam {q st h p k f : Nat} {V : xV} (hp : p < st) (hst : st ≤ 300) (hh : h < 40) (hk : k < 13) (hc : V (q + 1) p = cK (9 + k)) : g_Bench_run_31 q (f + 1) (nI st) (nI h) (nI p) V = g_Bench_run_31 q f (nI st) (nI (h + 1)) (nI (p + 1)) (x2 V 53 h (V 54 k)) := by
  show b_Bench_run_31 _ _ _ _ _ _ = _
  unfold b_Bench_run_31
  rw [if_neg (nI_ge hp (by omega)), if_pos (xI_ok (by omega) (by decide)), cl (by omega), hc, cK_k _ (by omega), if_neg (nI_pos (by omega)), if_neg (show ¬ nI (9 + k) < 9 from nI_nlt (b := 9) (by omega) (by omega)), if_neg (show ¬ (22 : Int32) ≤ nI (9 + k) from nI_ge (b := 22) (by omega) (by decide))]
  unfold b_Bench_run_65
  rw [if_pos (show nI h < 40 from nI_lt (b := 40) hh (by decide)), if_pos (show (0 : Int32) ≤ nI (9 + k) from nI_le (a := 0) (by omega) (by omega)), show nI (9 + k) - 9 = nI k by rw [show (9 : Int32) = nI 9 from rfl, pk_sub (by omega)]; congr 1; omega, if_pos (xI_ok hk (by decide)), if_pos (xI_ok hh (by decide)), cl (by omega), cl (by omega), nI_1, nI_1]
theorem st_un {q st h p f : Nat} {V : xV} (o : Nat) (ho : o = 8 ∨ o = 38) (hp : p < st) (hst : st ≤ 300) (hh : h < 40) (hc : V (q + 1) p = cK o) : g_Bench_run_31 q (f + 1) (nI st) (nI (h + 1)) (nI p) V = g_Bench_run_31 q f (nI st) (nI (h + 1)) (nI (p + 1)) (x2 V 53 h ((if o = 8 then 1 else 0) - V 53 h)) := by
  show b_Bench_run_31 _ _ _ _ _ _ = _
  unfold b_Bench_run_31
  rw [if_neg (nI_ge hp (by omega)), if_pos (xI_ok (by omega) (by decide)), cl (by omega), hc, cK_k _ (by omega), if_neg (nI_pos (by omega))]
  rcases ho with rfl | rfl
  · rw [if_pos (by decide)]
    unfold b_Bench_run_112
    rw [if_pos (by decide)]
    unfold b_Bench_run_126
    rw [if_pos (show (1 : Int32) ≤ nI (h + 1) from nI_le (a := 1) (by omega) (by omega)), if_neg (by decide), nI_pred, if_pos (xI_ok hh (by decide)), if_pos (xI_ok hh (by decide)), cl (by omega), nI_1]; rfl
  · rw [if_neg (by decide), if_pos (by decide)]
    unfold b_Bench_run_112
    rw [if_neg (by decide), if_neg (by decide)]
    unfold b_Bench_run_126
    rw [if_pos (show (1 : Int32) ≤ nI (h + 1) from nI_le (a := 1) (by omega) (by omega)), if_pos (by decide), nI_pred, if_pos (xI_ok hh (by decide)), if_pos (xI_ok hh (by decide)), cl (by omega), nI_1]; rfl
theorem st_bin {q st h p f : Nat} {V : xV} (o : Nat) (ho : o = 6 ∨ o = 7 ∨ (22 ≤ o ∧ o ≤ 31)) (hp : p < st) (hst : st ≤ 300) (hh : h + 1 < 40) (hc : V (q + 1) p = cK o) (r : Int64) (hr : f_Bench_worked (nI o) (V 53 h).toInt64 (V 53 (h + 1)).toInt64 = some r) : g_Bench_run_31 q (f + 1) (nI st) (nI (h + 2)) (nI p) V = g_Bench_run_31 q f (nI st) (nI (h + 1)) (nI (p + 1)) (x2 V 53 h (f_Bench_held r)) := by
  have key : b_Bench_run_112 q (g_Bench_run_31 q f) (nI st) (nI (h + 2)) (nI p) (nI o) V = g_Bench_run_31 q f (nI st) (nI (h + 1)) (nI (p + 1)) (x2 V 53 h (f_Bench_held r)) := by
    unfold b_Bench_run_112
    rw [if_neg (show ¬ nI o = 8 from fun z => by have := nI_small (b := 8) (by omega) (by decide) z; omega), if_pos (show ¬ nI o = 38 from fun z => by have := nI_small (b := 38) (by omega) (by decide) z; omega), if_pos (show (2 : Int32) ≤ nI (h + 2) from nI_le (a := 2) (by omega) (by omega)), pk2, show nI (h + 2) - 1 = nI (h + 1) from nI_pred (h + 1), if_pos (xI_ok (by omega) (by decide)), if_pos (xI_ok (by omega) (by decide)), cl (by omega), cl (by omega), hr, Option.bind_some, if_pos (xI_ok (by omega) (by decide)), show nI (h + 2) + (-1) = nI (h + 1) from m1 (h + 1), nI_1]
  show b_Bench_run_31 _ _ _ _ _ _ = _
  unfold b_Bench_run_31
  rw [if_neg (nI_ge hp (by omega)), if_pos (xI_ok (by omega) (by decide)), cl (by omega), hc, cK_k _ (by omega), if_neg (nI_pos (by omega))]
  by_cases c : o < 9
  · rw [if_pos (show nI o < 9 from nI_lt (b := 9) c (by decide))]; exact key
  · rw [if_neg (show ¬ nI o < 9 from nI_nlt (b := 9) (by omega) (by omega)), if_pos (show (22 : Int32) ≤ nI o from nI_le (a := 22) (by omega) (by omega))]; exact key
/-- steps of the model -/
theorem x2L_at (L : xL) (r k : Nat) (v : Int64) : x2L L r k v r k = v := by simp [x2L]
theorem x2L_off {L : xL} {r k r' k' : Nat} {v : Int64} (h : ¬ (r' = r ∧ k' = k)) : x2L L r k v r' k' = L r' k' := if_neg h
theorem sm_num {V : xV} {L : xL} {h p n f : Nat} (hp : p < 1600) (hh : h < 200) (h1 : V 72 p = 400) (h2 : V 73 p = nI n) : g_Md_saysOf_4 V (f + 1) (nI h) (nI p) L = g_Md_saysOf_4 V f (nI (h + 1)) (nI (p + 1)) (x2L L 83 h (nI n).toInt64) := by
  show b_Md_saysOf_4 _ _ _ _ _ = _
  unfold b_Md_saysOf_4
  rw [if_pos (xI_ok hp (by decide)), cl (by omega), h1, if_neg (by decide), if_pos (xI_ok hp (by decide)), if_pos (by decide)]
  unfold b_Md_saysOf_40
  rw [if_neg (by decide), if_pos (xI_ok hp (by decide)), if_pos (xI_ok hh (by decide)), cl (by omega), cl (by omega), h2, nI_1, nI_1]
theorem sm_nam {V : xV} {L : xL} {h p k f : Nat} (hp : p < 1600) (hh : h < 200) (hk : k < 13) (h1 : V 72 p = 401) (h2 : V 73 p = nI k) : g_Md_saysOf_4 V (f + 1) (nI h) (nI p) L = g_Md_saysOf_4 V f (nI (h + 1)) (nI (p + 1)) (x2L L 83 h (V 82 k).toInt64) := by
  show b_Md_saysOf_4 _ _ _ _ _ = _
  unfold b_Md_saysOf_4
  rw [if_pos (xI_ok hp (by decide)), cl (by omega), h1, if_neg (by decide), if_pos (xI_ok hp (by decide)), if_neg (by decide), if_neg (by decide)]
  unfold b_Md_saysOf_40
  rw [if_pos (by decide), if_pos (xI_ok hp (by decide)), cl (by omega), h2, if_pos (xI_ok hk (by decide)), if_pos (xI_ok hh (by decide)), cl (by omega), cl (by omega), nI_1, nI_1]
theorem sm_neg {V : xV} {L : xL} {h p f : Nat} (hp : p < 1600) (hh : h < 200) (h1 : V 72 p = 402) : g_Md_saysOf_4 V (f + 1) (nI (h + 1)) (nI p) L = g_Md_saysOf_4 V f (nI (h + 1)) (nI (p + 1)) (x2L L 83 h (0 - L 83 h)) := by
  show b_Md_saysOf_4 _ _ _ _ _ = _
  unfold b_Md_saysOf_4
  rw [if_pos (xI_ok hp (by decide)), cl (by omega), h1, if_neg (by decide), if_pos (xI_ok hp (by decide)), if_neg (by decide), if_pos (by decide), if_neg (by decide), nI_pred, if_pos (xI_ok hh (by decide)), if_pos (xI_ok hh (by decide)), cl (by omega), nI_1]
theorem sm_not {V : xV} {L : xL} {h p f : Nat} (hp : p < 1600) (hh : h < 200) (h1 : V 72 p = 405) : g_Md_saysOf_4 V (f + 1) (nI (h + 1)) (nI p) L = g_Md_saysOf_4 V f (nI (h + 1)) (nI (p + 1)) (x2L L 83 h (1 - L 83 h)) := by
  show b_Md_saysOf_4 _ _ _ _ _ = _
  unfold b_Md_saysOf_4
  rw [if_pos (xI_ok hp (by decide)), cl (by omega), h1, if_neg (by decide), if_pos (xI_ok hp (by decide)), if_neg (by decide), if_pos (by decide), if_pos (by decide), if_neg (by decide), nI_pred, if_pos (xI_ok hh (by decide)), if_pos (xI_ok hh (by decide)), cl (by omega), nI_1]
theorem mo_no : ∀ o, o < 32 → ¬ mo o = 408 ∧ ¬ mo o = 400 ∧ ¬ mo o = 401 ∧ ¬ mo o = 402 ∧ ¬ mo o = 405 := by decide +kernel
theorem sm_bin {V : xV} {L : xL} {h p f : Nat} (o : Nat) (ho : o < 32) (hp : p < 1600) (hh : h + 1 < 200) (h1 : V 72 p = mo o) (r : Int64) (hr : f_Md_worked (mo o) (L 83 h) (L 83 (h + 1)) = some r) : g_Md_saysOf_4 V (f + 1) (nI (h + 2)) (nI p) L = g_Md_saysOf_4 V f (nI (h + 1)) (nI (p + 1)) (x2L L 83 h r) := by
  obtain ⟨a1, a2, a3, a4, a5⟩ := mo_no o ho
  show b_Md_saysOf_4 _ _ _ _ _ = _
  unfold b_Md_saysOf_4
  rw [if_pos (xI_ok hp (by decide)), cl (by omega), h1, if_neg a1, if_pos (xI_ok hp (by decide)), if_neg a2, if_pos a3, if_pos a4, if_pos a5, show nI (h + 2) + (-1) = nI (h + 1) from m1 (h + 1), nI_pred, if_pos (xI_ok (by omega) (by decide)), if_pos (xI_ok (by omega) (by decide)), cl (by omega), cl (by omega), hr, Option.bind_some, if_pos (xI_ok (by omega) (by decide)), nI_1]
def GC (w : Nat) (C : List Int32) (v : (Nat → Int) → Int) (d : Nat) : Prop := ∀ (q : Nat) (V : xV) (env : Nat → Int) (p h f st : Nat), q < 46 → cA V (q + 1) p C → p + C.length ≤ st → st ≤ 300 → h + d ≤ 40 → eC w V env → eb w env → ∃ V', g_Bench_run_31 q (f + C.length) (nI st) (nI h) (nI p) V = g_Bench_run_31 q f (nI st) (nI (h + 1)) (nI (p + C.length)) V' ∧ V' 53 h = iI (v env) ∧ (∀ i, i < h → V' 53 i = V 53 i) ∧ ∀ r, r ≠ 53 → V' r = V r
def GM (w : Nat) (M : List (Int32 × Int32)) (v : (Nat → Int) → Int) (d : Nat) : Prop := ∀ (V : xV) (L : xL) (env : Nat → Int) (p h f : Nat), oA V p M → p + M.length < 1600 → h + d ≤ 40 → eM w V env → eb w env → ∃ L', g_Md_saysOf_4 V (f + M.length) (nI h) (nI p) L = g_Md_saysOf_4 V f (nI (h + 1)) (nI (p + M.length)) L' ∧ L' 83 h = lI (v env) ∧ ∀ i, i < h → L' 83 i = L 83 i
def Good (w : Nat) (ty : Bool) (C : List Int32) (M : List (Int32 × Int32)) (v : (Nat → Int) → Int) (d : Nat) : Prop := GC w C v d ∧ GM w M v d ∧ (∀ env, eb w env → mil (v env) ∧ (ty = false → bit (v env))) ∧ 0 < C.length ∧ (∀ o, o ∈ M → ¬ o.1 = 408) ∧ ((cK 13 ∈ C) ↔ ((401, nI 4) ∈ M)) ∧ 0 < d
theorem num_cK : ∀ j, j < 40 → cK j < 0 := by decide +kernel
theorem num_no {n : Nat} (h : n ≤ 9999) : ¬ cK 13 = nI n := fun z => by
  have := num_cK 13 (by decide)
  rw [z] at this
  exact nI_pos (by omega) this
theorem good_num (w n : Nat) (h : n ≤ 9999) : Good w true [nI n] [(400, nI n)] (fun _ => (n : Int)) 1 := by
  have hm : mil (n : Int) := by unfold mil; omega
  refine ⟨?_, ?_, fun _ _ => ⟨hm, fun z => by cases z⟩, Nat.zero_lt_succ _, fun o ho => by rw [List.mem_singleton] at ho; rw [ho]; exact (by decide : ¬ (400 : Int32) = 408), ?_, Nat.zero_lt_succ _⟩
  · intro q V env p h' f st hq hc hp hst hh _ _
    refine ⟨_, st_num (show p < st from by simp at hp; omega) hst (by omega) h hc.1, ?_, fun i hi => x2_off (by omega), fun r hr => x2_ne hr⟩
    rw [x2_at, nI_iI]
  · intro V L env p h' f ho hp hh _ _
    refine ⟨_, sm_num (show p < 1600 from by simp at hp; omega) (by omega) ho.1.1 ho.1.2, ?_, fun i hi => x2L_off (by omega)⟩
    rw [x2L_at, nI_iI, iI_l hm]
  · simp [num_no h]
theorem cK_inj : ∀ k, k < 13 → (cK 13 = cK (9 + k) ↔ nI 4 = nI k) := by decide +kernel
theorem good_nam (w k : Nat) (h : k < 13) (hw : may w k) : Good w true [cK (9 + k)] [(401, nI k)] (fun env => env k) 1 := by
  refine ⟨?_, ?_, fun env he => ⟨he k h hw, fun z => by cases z⟩, Nat.zero_lt_succ _, fun o ho => by rw [List.mem_singleton] at ho; rw [ho]; exact (by decide : ¬ (401 : Int32) = 408), ?_, Nat.zero_lt_succ _⟩
  · intro q V env p h' f st hq hc hp hst hh he _
    refine ⟨_, st_nam (show p < st from by simp at hp; omega) hst (by omega) h hc.1, ?_, fun i hi => x2_off (by omega), fun r hr => x2_ne hr⟩
    rw [x2_at, he k h hw]
  · intro V L env p h' f ho hp hh he hb
    refine ⟨_, sm_nam (show p < 1600 from by simp at hp; omega) (by omega) h ho.1.1 ho.1.2, ?_, fun i hi => x2L_off (by omega)⟩
    rw [x2L_at, he k h hw, iI_l (hb k h hw)]
  · simp [cK_inj k h]
theorem GC.un {w d : Nat} {C : List Int32} {v : (Nat → Int) → Int} (h : GC w C v d) (hd : 0 < d) (o : Nat) (ho : o = 8 ∨ o = 38) : GC w (C ++ [cK o]) (fun env => (if o = 8 then 1 else 0) - v env) d := by
  intro q V env p h' f st hq hc hp hst hh he hb
  rw [List.length_append] at hp
  have hp : p + (C.length + 1) ≤ st := hp
  obtain ⟨c1, c2⟩ := cA_app.mp hc
  obtain ⟨V', e, e1, e2, e3⟩ := h q V env p h' (f + 1) st hq c1 (by omega) hst hh he hb
  refine ⟨x2 V' 53 h' ((if o = 8 then 1 else 0) - V' 53 h'), ?_, ?_, fun i hi => by rw [x2_off (by omega)]; exact e2 i hi, fun r hr => by rw [x2_ne hr]; exact e3 r hr⟩
  · rw [List.length_append]
    show g_Bench_run_31 q (f + (C.length + 1)) _ _ _ _ = g_Bench_run_31 q f _ _ (nI (p + (C.length + 1))) _
    rw [show f + (C.length + 1) = f + 1 + C.length by omega, e]
    exact st_un o ho (by omega) hst (by omega) (by rw [e3 (q + 1) (by omega)]; exact c2.1)
  · rw [x2_at, e1]
    rcases ho with rfl | rfl
    · exact iI_sub 1 _
    · exact iI_sub 0 _
theorem GC.bin {w da db : Nat} {Ca Cb : List Int32} {va vb : (Nat → Int) → Int} (ha : GC w Ca va da) (hb : GC w Cb vb db) (o : Nat) (ho : o = 6 ∨ o = 7 ∨ (22 ≤ o ∧ o ≤ 31)) (hd : 0 < db) (hma : ∀ env, eb w env → mil (va env)) (hmb : ∀ env, eb w env → mil (vb env)) (hw : ∀ env, eb w env → ∃ r, f_Bench_worked (nI o) (lI (va env)) (lI (vb env)) = some r ∧ f_Bench_held r = iI (wk o (va env) (vb env))) : GC w (Ca ++ Cb ++ [cK o]) (fun env => wk o (va env) (vb env)) (max da (db + 1)) := by
  intro q V env p h f st hq hc hp hst hh he hb'
  rw [List.length_append, List.length_append] at hp
  have hp : p + (Ca.length + Cb.length + 1) ≤ st := hp
  obtain ⟨c12, c3⟩ := cA_app.mp hc
  obtain ⟨c1, c2⟩ := cA_app.mp c12
  rw [List.length_append] at c3
  obtain ⟨V1, e, e1, e2, e3⟩ := ha q V env p h (f + 1 + Cb.length) st hq c1 (by omega) hst (by omega) he hb'
  obtain ⟨V2, g, g1, g2, g3⟩ := hb q V1 env (p + Ca.length) (h + 1) (f + 1) st hq (cA_fr (fun i _ _ => by rw [e3 (q + 1) (by omega)]) c2) (by omega) hst (by omega) (fun k hk hm => by rw [e3 54 (by decide)]; exact he k hk hm) hb'
  obtain ⟨r, r1, r2⟩ := hw env hb'
  have k1 : V2 53 h = iI (va env) := by rw [g2 h (by omega)]; exact e1
  refine ⟨x2 V2 53 h (f_Bench_held r), ?_, by rw [x2_at]; exact r2, fun i hi => by rw [x2_off (by omega), g2 i (by omega)]; exact e2 i hi, fun r hr => by rw [x2_ne hr, g3 r hr]; exact e3 r hr⟩
  rw [List.length_append, List.length_append]
  show g_Bench_run_31 q (f + (Ca.length + Cb.length + 1)) _ _ _ _ = g_Bench_run_31 q f _ _ (nI (p + (Ca.length + Cb.length + 1))) _
  rw [show f + (Ca.length + Cb.length + 1) = f + 1 + Cb.length + Ca.length by omega, e, g, show p + (Ca.length + Cb.length + 1) = p + Ca.length + Cb.length + 1 by omega]
  refine st_bin o ho (by omega) hst (by omega) ?_ r ?_
  · rw [g3 (q + 1) (by omega), e3 (q + 1) (by omega), Nat.add_assoc]; exact c3.1
  · rw [k1, g1, iI_l (hma env hb'), iI_l (hmb env hb')]; exact r1
theorem GM.un {w d : Nat} {M : List (Int32 × Int32)} {v : (Nat → Int) → Int} (h : GM w M v d) (hd : 0 < d) (o : Int32) (u : Int32) (z : Int) (ho : (o = 402 ∧ z = 0) ∨ (o = 405 ∧ z = 1)) : GM w (M ++ [(o, u)]) (fun env => z - v env) d := by
  intro V L env p h' f hc hp hh he hb
  rw [List.length_append] at hp
  have hp : p + (M.length + 1) < 1600 := hp
  obtain ⟨c1, c2⟩ := oA_app.mp hc
  obtain ⟨L', e, e1, e2⟩ := h V L env p h' (f + 1) c1 (by omega) hh he hb
  refine ⟨x2L L' 83 h' (lI z - L' 83 h'), ?_, ?_, fun i hi => by rw [x2L_off (by omega)]; exact e2 i hi⟩
  · rw [List.length_append]
    show g_Md_saysOf_4 V (f + (M.length + 1)) _ _ _ = g_Md_saysOf_4 V f _ (nI (p + (M.length + 1))) _
    rw [show f + (M.length + 1) = f + 1 + M.length by omega, e]
    rcases ho with ⟨rfl, rfl⟩ | ⟨rfl, rfl⟩
    · exact sm_neg (by omega) (by omega) c2.1.1
    · exact sm_not (by omega) (by omega) c2.1.1
  · rw [x2L_at, e1]; exact lI_sub _ _
theorem GM.bin {w da db : Nat} {Ma Mb : List (Int32 × Int32)} {va vb : (Nat → Int) → Int} (ha : GM w Ma va da) (hb : GM w Mb vb db) (o : Nat) (u : Int32) (ho : o < 32) (hd : 0 < db) (hw : ∀ env, eb w env → f_Md_worked (mo o) (lI (va env)) (lI (vb env)) = some (lI (wk o (va env) (vb env)))) : GM w (Ma ++ Mb ++ [(mo o, u)]) (fun env => wk o (va env) (vb env)) (max da (db + 1)) := by
  intro V L env p h f hc hp hh he hb'
  rw [List.length_append, List.length_append] at hp
  have hp : p + (Ma.length + Mb.length + 1) < 1600 := hp
  obtain ⟨c12, c3⟩ := oA_app.mp hc
  obtain ⟨c1, c2⟩ := oA_app.mp c12
  rw [List.length_append] at c3
  obtain ⟨L1, e, e1, e2⟩ := ha V L env p h (f + 1 + Mb.length) c1 (by omega) (by omega) he hb'
  obtain ⟨L2, g, g1, g2⟩ := hb V L1 env (p + Ma.length) (h + 1) (f + 1) c2 (by omega) (by omega) he hb'
  have k1 : L2 83 h = lI (va env) := by rw [g2 h (by omega)]; exact e1
  refine ⟨x2L L2 83 h (lI (wk o (va env) (vb env))), ?_, by rw [x2L_at], fun i hi => by rw [x2L_off (by omega), g2 i (by omega)]; exact e2 i hi⟩
  rw [List.length_append, List.length_append]
  show g_Md_saysOf_4 V (f + (Ma.length + Mb.length + 1)) _ _ _ = g_Md_saysOf_4 V f _ (nI (p + (Ma.length + Mb.length + 1))) _
  rw [show f + (Ma.length + Mb.length + 1) = f + 1 + Mb.length + Ma.length by omega, e, g, show p + (Ma.length + Mb.length + 1) = p + Ma.length + Mb.length + 1 by omega]
  refine sm_bin o ho (by omega) (by omega) ?_ _ ?_
  · rw [Nat.add_assoc]; exact c3.1.1
  · rw [k1, g1]; exact hw env hb'
theorem cK_ne : ∀ o, o < 40 → o ≠ 13 → ¬ cK 13 = cK o := by decide +kernel
theorem good_bin {w : Nat} {ty t2 : Bool} {Ca Cb : List Int32} {Ma Mb : List (Int32 × Int32)} {va vb : (Nat → Int) → Int} {da db : Nat} (ha : Good w t2 Ca Ma va da) (hb : Good w t2 Cb Mb vb db) (o : Nat) (u : Int32) (ho : (opL o ∧ t2 = false ∧ ty = false) ∨ (opA o ∧ t2 = true ∧ ty = false) ∨ (opS o ∧ t2 = true ∧ ty = true)) : Good w ty (Ca ++ Cb ++ [cK o]) (Ma ++ Mb ++ [(mo o, u)]) (fun env => wk o (va env) (vb env)) (max da (db + 1)) := by
  obtain ⟨a1, a2, a3, a4, a5, a6, a7⟩ := ha
  obtain ⟨b1, b2, b3, b4, b5, b6, b7⟩ := hb
  have oo : o = 6 ∨ o = 7 ∨ (22 ≤ o ∧ o ≤ 31) := by unfold opL opA opS at ho; omega
  obtain ⟨n1, -, n3, -, -⟩ := mo_no o (by omega)
  refine ⟨a1.bin b1 o oo b7 (fun env he => (a3 env he).1) (fun env he => (b3 env he).1) (fun env he => ?_), a2.bin b2 o u (by omega) b7 (fun env he => ?_), fun env he => ?_, ?_, ?_, ?_, by omega⟩
  · rcases ho with ⟨h1, h2, -⟩ | ⟨h1, h2, -⟩ | ⟨h1, h2, -⟩
    · exact wk_cL h1 ((a3 env he).2 h2) ((b3 env he).2 h2)
    · exact wk_cA h1 (a3 env he).1 (b3 env he).1
    · exact wk_cS h1 (a3 env he).1 (b3 env he).1
  · rcases ho with ⟨h1, h2, -⟩ | ⟨h1, h2, -⟩ | ⟨h1, h2, -⟩
    · exact wk_mL h1 ((a3 env he).2 h2) ((b3 env he).2 h2)
    · exact wk_mA h1 (a3 env he).1 (b3 env he).1
    · exact wk_mS h1 (a3 env he).1 (b3 env he).1
  · rcases ho with ⟨h1, h2, -⟩ | ⟨h1, h2, -⟩ | ⟨h1, h2, h3⟩
    · have := wk_L h1 ((a3 env he).2 h2) ((b3 env he).2 h2)
      exact ⟨bit_mil this, fun _ => this⟩
    · have := wk_A (x := va env) (y := vb env) h1
      exact ⟨bit_mil this, fun _ => this⟩
    · exact ⟨wk_S h1 (a3 env he).1, fun z => by rw [h3] at z; cases z⟩
  · rw [List.length_append, List.length_append]; omega
  · intro x hx
    rw [List.mem_append, List.mem_append, List.mem_singleton] at hx
    rcases hx with (hx | hx) | hx
    · exact a5 x hx
    · exact b5 x hx
    · rw [hx]; exact n1
  · rw [List.mem_append, List.mem_append, List.mem_append, List.mem_append, List.mem_singleton, List.mem_singleton, a6, b6]
    constructor
    · rintro (h | h)
      · exact Or.inl h
      · exact absurd h (cK_ne o (by omega) (by omega))
    · rintro (h | h)
      · exact Or.inl h
      · exact absurd (congrArg Prod.fst h).symm n3
/-- like codes, of whatever signs they were made -/
theorem good_un {w : Nat} {ty : Bool} {C : List Int32} {M : List (Int32 × Int32)} {v : (Nat → Int) → Int} {d : Nat} (h : Good w ty C M v d) (o : Nat) (mO : Int32) (ho : (o = 38 ∧ mO = 402 ∧ ty = true) ∨ (o = 8 ∧ mO = 405 ∧ ty = false)) : ∀ n, Good w ty (C ++ if n % 2 = 1 then [cK o] else []) (M ++ List.replicate n (mO, 0)) (fun env => if n % 2 = 1 then (if o = 8 then 1 else 0) - v env else v env) d := by
  obtain ⟨a1, a2, a3, a4, a5, a6, a7⟩ := h
  intro n
  have rng : ∀ env, eb w env → mil ((if o = 8 then 1 else 0) - v env) ∧ (ty = false → bit ((if o = 8 then 1 else 0) - v env)) := by
    intro env he
    obtain ⟨q1, q2⟩ := a3 env he
    rcases ho with ⟨rfl, -, rfl⟩ | ⟨rfl, -, rfl⟩
    · exact ⟨by rw [if_neg (by decide)]; unfold mil at *; omega, fun z => by cases z⟩
    · have := q2 rfl
      have b : bit (1 - v env) := by unfold bit at *; omega
      rw [if_pos rfl]
      exact ⟨bit_mil b, fun _ => b⟩
  have gm : ∀ n, GM w (M ++ List.replicate n (mO, 0)) (fun env => if n % 2 = 1 then (if o = 8 then 1 else 0) - v env else v env) d := by
    intro n
    induction n with
    | zero => rw [List.replicate_zero, List.append_nil]; exact a2
    | succ n ih =>
      have := ih.un a7 mO 0 (if o = 8 then 1 else 0) (by rcases ho with ⟨rfl, rfl, -⟩ | ⟨rfl, rfl, -⟩; exact Or.inl ⟨rfl, rfl⟩; exact Or.inr ⟨rfl, rfl⟩)
      rw [List.append_assoc, ← List.replicate_succ'] at this
      have e : (fun env => (if o = 8 then (1 : Int) else 0) - (if n % 2 = 1 then (if o = 8 then 1 else 0) - v env else v env)) = (fun env => if (n + 1) % 2 = 1 then (if o = 8 then 1 else 0) - v env else v env) := by
        funext env
        by_cases c : n % 2 = 1
        · rw [if_pos c, if_neg (show ¬ (n + 1) % 2 = 1 by omega)]; omega
        · rw [if_neg c, if_pos (show (n + 1) % 2 = 1 by omega)]
      rw [e] at this
      exact this
  have no8 : ∀ x, x ∈ List.replicate n (mO, (0 : Int32)) → x.1 = mO := fun x hx => by rw [(List.mem_replicate.mp hx).2]
  have m8 : ¬ mO = 408 ∧ ¬ mO = 401 ∧ ¬ cK 13 = cK o := by
    rcases ho with ⟨rfl, rfl, -⟩ | ⟨rfl, rfl, -⟩ <;> decide +kernel
  refine ⟨?_, gm n, fun env he => ?_, ?_, fun x hx => ?_, ?_, a7⟩
  · by_cases c : n % 2 = 1
    · have := a1.un a7 o (by omega)
      simp only [if_pos c]
      exact this
    · simp only [if_neg c, List.append_nil]
      exact a1
  · by_cases c : n % 2 = 1
    · simp only [if_pos c]; exact rng env he
    · simp only [if_neg c]; exact a3 env he
  · rw [List.length_append]; omega
  · rw [List.mem_append] at hx
    rcases hx with hx | hx
    · exact a5 x hx
    · rw [no8 x hx]; exact m8.1
  · rw [List.mem_append, List.mem_append, a6]
    constructor
    · rintro (q | q)
      · exact Or.inl q
      · by_cases c : n % 2 = 1
        · rw [if_pos c, List.mem_singleton] at q; exact absurd q m8.2.2
        · rw [if_neg c] at q; cases q
    · rintro (q | q)
      · exact Or.inl q
      · exact absurd (no8 _ q).symm m8.2.1

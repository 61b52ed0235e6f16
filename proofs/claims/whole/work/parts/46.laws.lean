/-! PURE: the laws of both sides -/
def tyw (w : Nat) : Bool := w == 2 || w == 3 || w == 5
def AB (V : xV) (j w : Nat) : Prop := V (28 + 5 * j) w = 0 ∧ V (29 + 5 * j) w = 0 ∧ V 70 (6 * j + w) = -1 ∧ V 71 (6 * j + w) = -1
def PR (V : xV) (j n w : Nat) : Prop := ∃ (s : Nat) (C : List Int32) (M : List (Int32 × Int32)) (v : (Nat → Int) → Int) (d k i : Nat) (u : Int32), Good w (tyw w) C M v d ∧ d ≤ 40 ∧ V (28 + 5 * j) w = nI s ∧ V (29 + 5 * j) w = nI (s + C.length) ∧ s + C.length ≤ 300 ∧ cA V (27 + 5 * j) s C ∧ V 70 (6 * j + w) = nI k ∧ k + M.length < 400 * (j + 1) ∧ oA V k (M ++ [(408, u)]) ∧ V 71 (6 * j + w) = nI i ∧ i < n ∧ V (30 + 5 * j) i = nI w
def LJ (V : xV) (j : Nat) : Prop := ∃ n, n ≤ 6 ∧ V (26 + 5 * j) 4 = nI n ∧ V 69 j = nI n ∧ (∀ w, w < 6 → AB V j w ∨ PR V j n w) ∧ ∀ i, i < n → ∃ w, w < 6 ∧ V (30 + 5 * j) i = nI w ∧ V 71 (6 * j + w) = nI i
def LW (V : xV) (t : Nat) : Prop := t ≤ 4 ∧ ∀ j, j < t → LJ V j
theorem LJ.fr {V V' : xV} {j : Nat} (hj : j < 4) (h : LJ V j) (h1 : ∀ r, 26 + 5 * j ≤ r → r < 31 + 5 * j → V' r = V r) (h2 : ∀ r, 69 ≤ r → r < 74 → V' r = V r) : LJ V' j := by
  obtain ⟨n, a1, a2, a3, a4, a5⟩ := h
  refine ⟨n, a1, by rw [h1 _ (by omega) (by omega)]; exact a2, by rw [h2 _ (by omega) (by omega)]; exact a3, fun w hw => ?_, fun i hi => ?_⟩
  · rcases a4 w hw with ⟨b1, b2, b3, b4⟩ | ⟨s, C, M, v, d, k, i, u, b1, b2, b3, b4, b5, b6, b7, b8, b9, b10, b11, b12⟩
    · left
      exact ⟨by rw [h1 _ (by omega) (by omega)]; exact b1, by rw [h1 _ (by omega) (by omega)]; exact b2, by rw [h2 _ (by omega) (by omega)]; exact b3, by rw [h2 _ (by omega) (by omega)]; exact b4⟩
    · right
      exact ⟨s, C, M, v, d, k, i, u, b1, b2, by rw [h1 _ (by omega) (by omega)]; exact b3, by rw [h1 _ (by omega) (by omega)]; exact b4, b5, cA_fr (fun _ _ _ => by rw [h1 _ (by omega) (by omega)]) b6, by rw [h2 _ (by omega) (by omega)]; exact b7, b8, oA_fr (fun _ _ _ => by rw [h2 72 (by omega) (by omega), h2 73 (by omega) (by omega)]; exact ⟨rfl, rfl⟩) b9, by rw [h2 _ (by omega) (by omega)]; exact b10, b11, by rw [h1 _ (by omega) (by omega)]; exact b12⟩
  · obtain ⟨w, b1, b2, b3⟩ := a5 i hi
    exact ⟨w, b1, by rw [h1 _ (by omega) (by omega)]; exact b2, by rw [h2 _ (by omega) (by omega)]; exact b3⟩
theorem lwF_LW : lwF LW := ⟨fun V V' t h1 h2 h => ⟨h.1, fun j hj => (h.2 j hj).fr (by have := h.1; omega) (fun r r1 r2 => h1 r (by omega) (by have := h.1; omega)) h2⟩, fun V t t' ht h => ⟨by have := h.1; omega, fun j hj => h.2 j (by omega)⟩⟩
theorem LW_0 (V : xV) : LW V 0 := ⟨by omega, fun j hj => absurd hj (Nat.not_lt_zero _)⟩
theorem fchoice {α : Type} (a0 : α) {P : Nat → α → Prop} : ∀ n, (∀ w, w < n → ∃ x, P w x) → ∃ F : Nat → α, ∀ w, w < n → P w (F w)
  | 0, _ => ⟨fun _ => a0, fun w hw => absurd hw (Nat.not_lt_zero _)⟩
  | n + 1, h => by
    obtain ⟨F, hF⟩ := fchoice a0 n (fun w hw => h w (by omega))
    obtain ⟨x, hx⟩ := h n (by omega)
    refine ⟨fun w => if w = n then x else F w, fun w hw => ?_⟩
    by_cases c : w = n
    · subst c; simp only [if_pos]; exact hx
    · simp only [if_neg c]; exact hF w (by omega)
/-- a clause's meaning -/
abbrev Mn : Type := Option ((Nat → Int) → Int)
def vl (x : Mn) (env : Nat → Int) : Int := match x with | none => 0 | some v => v env
def so (x : Mn) : Nat := match x with | none => 0 | some _ => 1
def cl1 (V : xV) (q w : Nat) (x : Mn) : Prop := ∀ W : xV, (∀ r, 20 ≤ r → r < 46 → W r = V r) → f_Law_has q (nI w) W = some (nI (so x)) ∧ ∀ env, eC w W env → eb w env → ∃ W', f_Bench_run q (nI w) W = some (iI (vl x env), W') ∧ ∀ r, r ≠ 53 → W' r = W r
def cl2 (V : xV) (j w : Nat) (x : Mn) : Prop := (x = none → V 70 (6 * j + w) = -1) ∧ ∀ v, x = some v → ¬ V 70 (6 * j + w) = -1 ∧ ∀ W : xV, (∀ r, 69 ≤ r → r < 74 → W r = V r) → ∀ L env, eM w W env → eb w env → ∃ L', f_Md_saysOf (V 70 (6 * j + w)) W L = some (lI (v env), L')
def rg (w : Nat) (x : Mn) : Prop := ∀ v, x = some v → ∀ env, eb w env → mil (v env) ∧ (tyw w = false → bit (v env))
theorem law_so {q w s e : Nat} {W : xV} (hw : w < 6) (h1 : W (q + 2) w = nI s) (h2 : W (q + 3) w = nI e) : f_Law_stopOf q (nI w) W = some (nI e) ∧ f_Law_startOf q (nI w) W = some (nI s) := by
  constructor
  · unfold f_Law_stopOf
    rw [if_neg (nI_pos (by omega)), if_neg (show ¬ (6 : Int32) ≤ nI w from nI_ge (b := 6) hw (by decide)), if_pos (xI_ok hw (by decide)), cl (by omega), h2]
  · unfold f_Law_startOf
    rw [if_neg (nI_pos (by omega)), if_neg (show ¬ (6 : Int32) ≤ nI w from nI_ge (b := 6) hw (by decide)), if_pos (xI_ok hw (by decide)), cl (by omega), h1]
theorem law_hs {q w s e : Nat} {W : xV} (hw : w < 6) (hs : s < 2 ^ 31) (he : e < 2 ^ 31) (h1 : W (q + 2) w = nI s) (h2 : W (q + 3) w = nI e) : f_Law_has q (nI w) W = some (if e ≤ s then 0 else 1) := by
  unfold f_Law_has
  rw [show (6 : Int32) = nI 6 from rfl, within_in hw (by decide), if_neg (by decide), if_pos (xI_ok hw (by decide)), if_pos (xI_ok hw (by decide)), cl (by omega), h1, h2]
  by_cases c : e ≤ s
  · rw [if_pos (nI_le c hs), if_pos c]
  · rw [if_neg (nI_ge (by omega) he), if_neg c]
theorem xmm {s e : Nat} (he : e ≤ 300) (hs : s < 2 ^ 31) : xmin 300 (nI e) = nI e ∧ xmax 0 (nI s) = nI s := by
  constructor
  · unfold xmin
    by_cases c : nI e < 300
    · rw [if_pos c]
    · rw [if_neg c]
      have : ¬ e < 300 := fun z => c (nI_lt (b := 300) z (by decide))
      rw [show e = 300 by omega]; rfl
  · unfold xmax
    by_cases c : (0 : Int32) < nI s
    · rw [if_pos c]
    · rw [if_neg c]
      have : ¬ 0 < s := fun z => c (nI_lt (a := 0) z hs)
      rw [show s = 0 by omega]; rfl
theorem cl1_no {V : xV} {q w : Nat} (hq : 20 ≤ q ∧ q < 42) (hw : w < 6) (h1 : V (q + 2) w = 0) (h2 : V (q + 3) w = 0) : cl1 V q w none := by
  intro W hW
  have h1 : W (q + 2) w = nI 0 := by rw [hW _ (by omega) (by omega)]; exact h1
  have h2 : W (q + 3) w = nI 0 := by rw [hW _ (by omega) (by omega)]; exact h2
  refine ⟨by rw [law_hs hw (by decide) (by decide) h1 h2]; rfl, fun env _ _ => ⟨W, ?_, fun _ _ => rfl⟩⟩
  unfold f_Bench_run
  rw [(law_so hw h1 h2).1, Option.bind_some, (law_so hw h1 h2).2, Option.bind_some, (xmm (s := 0) (e := 0) (by decide) (by decide)).1, (xmm (s := 0) (e := 0) (by decide) (by decide)).2]
  rfl
theorem cl1_yes {V : xV} {q w s d : Nat} {C : List Int32} {M : List (Int32 × Int32)} {v : (Nat → Int) → Int} (hq : 20 ≤ q ∧ q < 42) (hw : w < 6) (hG : Good w (tyw w) C M v d) (hd : d ≤ 40) (h1 : V (q + 2) w = nI s) (h2 : V (q + 3) w = nI (s + C.length)) (h3 : s + C.length ≤ 300) (h4 : cA V (q + 1) s C) : cl1 V q w (some v) := by
  intro W hW
  have h1 : W (q + 2) w = nI s := by rw [hW _ (by omega) (by omega)]; exact h1
  have h2 : W (q + 3) w = nI (s + C.length) := by rw [hW _ (by omega) (by omega)]; exact h2
  have h4 : cA W (q + 1) s C := cA_fr (fun _ _ _ => by rw [hW _ (by omega) (by omega)]) h4
  obtain ⟨g1, g2, g3, g4, g5, g6, g7⟩ := hG
  refine ⟨?_, fun env he hb => ?_⟩
  · rw [law_hs hw (by omega) (by omega) h1 h2, if_neg (by omega)]; rfl
  · obtain ⟨W', e, e1, e2, e3⟩ := g1 q W env s 0 (1999 - C.length + 1) (s + C.length) (by omega) h4 (Nat.le_refl _) h3 (by omega) he hb
    refine ⟨W', ?_, e3⟩
    unfold f_Bench_run
    rw [(law_so hw h1 h2).1, Option.bind_some, (law_so hw h1 h2).2, Option.bind_some, (xmm (s := s) h3 (by omega)).1, (xmm (s := s) h3 (by omega)).2]
    rw [show 1999 - C.length + 1 + C.length = 2000 by omega] at e
    refine Eq.trans e ?_
    show b_Bench_run_31 _ _ _ _ _ _ = _
    unfold b_Bench_run_31
    rw [if_pos (nI_le (Nat.le_refl _) (by omega)), if_neg (show ¬ nI (0 + 1) ≤ 0 by decide), e1]
    rfl
theorem cl2_yes {V : xV} {j w k d : Nat} {C : List Int32} {M : List (Int32 × Int32)} {v : (Nat → Int) → Int} {u : Int32} (hG : Good w (tyw w) C M v d) (hd : d ≤ 40) (h1 : V 70 (6 * j + w) = nI k) (h2 : k + M.length < 1600) (h3 : oA V k (M ++ [(408, u)])) : cl2 V j w (some v) := by
  refine ⟨(fun z => by cases z), fun v' hv => ?_⟩
  cases hv
  refine ⟨by rw [h1]; exact nI_m1 (by omega), fun W hW L env he hb => ?_⟩
  obtain ⟨g1, g2, g3, g4, g5, g6, g7⟩ := hG
  have h3 : oA W k (M ++ [(408, u)]) := oA_fr (fun _ _ _ => by rw [hW 72 (by omega) (by omega), hW 73 (by omega) (by omega)]; exact ⟨rfl, rfl⟩) h3
  obtain ⟨c1, c2⟩ := oA_app.mp h3
  obtain ⟨L', e, e1, e2⟩ := g2 W L env k 0 (1999 - M.length + 1) c1 h2 (by omega) he hb
  rw [show 1999 - M.length + 1 + M.length = 2000 by omega] at e
  refine ⟨L', ?_⟩
  unfold f_Md_saysOf
  rw [h1]
  refine Eq.trans e ?_
  show b_Md_saysOf_4 _ _ _ _ _ = _
  unfold b_Md_saysOf_4
  rw [if_pos (xI_ok h2 (by decide)), cl (by omega), c2.1.1, if_pos (show (408 : Int32) = 408 from rfl), e1]
/-- the ruling law: which cell, and its meaning on both sides -/
def RL (V : xV) (q : Nat) (F : Nat → Mn) : Prop := (∀ W : xV, W 1 = V 1 → f_Shelf_ruling W = some q) ∧ lawB q = true ∧ (∀ w, w < 6 → cl1 V q w (F w) ∧ rg w (F w)) ∧ ((V 66 3 = -1 ∧ ∀ w, w < 6 → F w = none) ∨ ∃ j, j < 4 ∧ V 66 3 = nI j ∧ q = 26 + 5 * j ∧ LJ V j ∧ ∀ w, w < 6 → cl2 V j w (F w))
theorem lawB_ok : ∀ j, j < 4 → lawB (26 + 5 * j) = true := by decide
theorem ruling {V : xV} {S : Nat → Nat} (hA : pA V 1 S) (hM : V 66 3 = nI (S 3) - 1) (hr : rA S) (hms : ms V) (hL : LW V (S 2)) : ∃ q F, RL V q F := by
  obtain ⟨-, -, hr2, hr3⟩ := hr
  by_cases c : S 3 = 0
  · refine ⟨20, fun _ => none, fun W hW => ?_, by decide, fun w hw => ⟨cl1_no (by omega) hw (hms.2.2.2 w hw).1 (hms.2.2.2 w hw).2, fun v hv => by cases hv⟩, Or.inl ⟨by rw [hM, c]; decide, fun _ _ => rfl⟩⟩
    unfold f_Shelf_ruling
    rw [hW, hA.2.2.2, c, if_pos (by decide)]; rfl
  · obtain ⟨j, hj⟩ : ∃ j, S 3 = j + 1 := ⟨S 3 - 1, by omega⟩
    have hj4 : j < 4 := by omega
    have e1 : V 1 10 = nI j := by rw [hA.2.2.2, hj, nI_pred]
    have e2 : V 66 3 = nI j := by rw [hM, hj, nI_pred]
    have hJ := hL.2 j (by omega)
    obtain ⟨n, a1, a2, a3, a4, a5⟩ := id hJ
    have ex : ∀ w, w < 6 → ∃ x : Mn, (cl1 V (26 + 5 * j) w x ∧ rg w x) ∧ cl2 V j w x := by
      intro w hw
      rcases a4 w hw with ⟨b1, b2, b3, b4⟩ | ⟨s, C, M, v, d, k, i, u, b1, b2, b3, b4, b5, b6, b7, b8, b9, b10, b11, b12⟩
      · exact ⟨none, ⟨cl1_no (by omega) hw (by rw [show 26 + 5 * j + 2 = 28 + 5 * j by omega]; exact b1) (by rw [show 26 + 5 * j + 3 = 29 + 5 * j by omega]; exact b2), fun v hv => by cases hv⟩, fun _ => b3, fun v hv => by cases hv⟩
      · exact ⟨some v, ⟨cl1_yes (by omega) hw b1 b2 (by rw [show 26 + 5 * j + 2 = 28 + 5 * j by omega]; exact b3) (by rw [show 26 + 5 * j + 3 = 29 + 5 * j by omega]; exact b4) b5 (by rw [show 26 + 5 * j + 1 = 27 + 5 * j by omega]; exact b6), fun v' hv => by cases hv; exact b1.2.2.1⟩, cl2_yes b1 b2 b7 (by omega) b9⟩
    obtain ⟨F, hF⟩ := fchoice (α := Mn) none 6 ex
    refine ⟨26 + 5 * j, F, fun W hW => ?_, lawB_ok j hj4, fun w hw => (hF w hw).1, Or.inr ⟨j, hj4, e2, rfl, hJ, fun w hw => (hF w hw).2⟩⟩
    unfold f_Shelf_ruling
    rw [hW, e1, if_neg (nI_pos (by omega)), if_neg (show ¬ (4 : Int32) ≤ nI j from nI_ge (b := 4) hj4 (by decide)), if_pos (xI_ok hj4 (by decide)), cl (by omega)]
/-- a clause that is looked away from -/
def xo (e : Nat) : Int32 := if e < 6 then nI e else -1
def Fx (F : Nat → Mn) (e w : Nat) : Mn := if w = e then none else F w
theorem xo_eq {w e : Nat} (hw : w < 6) : (nI w = xo e) ↔ w = e := by
  unfold xo
  by_cases c : e < 6
  · rw [if_pos c, nI_eq (by omega) (by omega)]
  · rw [if_neg c]
    exact ⟨fun z => absurd z (nI_m1 (by omega)), fun z => by omega⟩
theorem comes {V W : xV} {q w e : Nat} {F : Nat → Mn} {env : Nat → Int} (h : RL V q F) (hw : w < 6) (h1 : W 1 = V 1) (h2 : ∀ r, 20 ≤ r → r < 46 → W r = V r) (h3 : W 51 1 = xo e) (he : eC w W env) (hb : eb w env) : ∃ W', f_Court_comesTo (nI w) W = some (iI (vl (Fx F e w) env), W') ∧ ∀ r, r ≠ 53 → W' r = W r := by
  unfold f_Court_comesTo
  rw [h3]
  by_cases c : w = e
  · refine ⟨W, ?_, fun _ _ => rfl⟩
    rw [if_neg (fun z => z ((xo_eq hw).mpr c))]
    unfold Fx; rw [if_pos c]; rfl
  · obtain ⟨W', e1, e2⟩ := ((h.2.2.1 w hw).1 W h2).2 env he hb
    refine ⟨W', ?_, e2⟩
    rw [if_pos (fun z => c ((xo_eq hw).mp z)), h.1 W h1, Option.bind_some, if_pos h.2.1, e1, Option.bind_some]
    unfold Fx; rw [if_neg c]
theorem hasM {V W : xV} {q w e : Nat} {F : Nat → Mn} (h : RL V q F) (hw : w < 6) (h1 : W 66 = V 66) (h2 : ∀ r, 69 ≤ r → r < 74 → W r = V r) (h3 : W 65 35 = xo e) : f_Md_hasClause (nI w) W = some (nI (so (Fx F e w))) := by
  unfold f_Md_hasClause
  rw [h1, h3]
  rcases h.2.2.2 with ⟨g1, g2⟩ | ⟨j, hj, g1, g2, g3, g4⟩
  · rw [if_pos g1]
    unfold Fx
    by_cases c : w = e
    · rw [if_pos c]; rfl
    · rw [if_neg c, g2 w hw]; rfl
  · rw [g1, if_neg (nI_m1 (by omega))]
    unfold Fx
    by_cases c : w = e
    · rw [if_pos ((xo_eq hw).mpr c), if_pos c]; rfl
    · rw [if_neg (fun z => c ((xo_eq hw).mp z)), if_neg c, show (6 : Int32) * nI j + nI w = nI (6 * j + w) by rw [show (6 : Int32) = nI 6 from rfl, pk_mul, nI_add], if_pos (xI_ok (by omega) (by decide)), cl (by omega), h2 70 (by omega) (by omega)]
      cases hx : F w with
      | none => rw [if_pos ((g4 w hw).1 hx)]; rfl
      | some v => rw [if_neg ((g4 w hw).2 v hx).1]; rfl
theorem saysM {V W : xV} {L : xL} {q w e : Nat} {F : Nat → Mn} {env : Nat → Int} (h : RL V q F) (hw : w < 6) (h1 : W 66 = V 66) (h2 : ∀ r, 69 ≤ r → r < 74 → W r = V r) (hs : so (Fx F e w) = 1) (he : eM w W env) (hb : eb w env) : ∃ L', f_Md_says (nI w) W L = some (lI (vl (Fx F e w) env), L') := by
  have c : ¬ w = e := fun z => by unfold Fx at hs; rw [if_pos z] at hs; cases hs
  have hF : Fx F e w = F w := by unfold Fx; rw [if_neg c]
  rw [hF] at hs ⊢
  cases hx : F w with
  | none => rw [hx] at hs; cases hs
  | some v =>
    rcases h.2.2.2 with ⟨g1, g2⟩ | ⟨j, hj, g1, g2, g3, g4⟩
    · rw [g2 w hw] at hx; cases hx
    · obtain ⟨L', e1⟩ := ((g4 w hw).2 v hx).2 W h2 L env he hb
      refine ⟨L', ?_⟩
      unfold f_Md_says
      rw [h1, g1, show (6 : Int32) * nI j + nI w = nI (6 * j + w) by rw [show (6 : Int32) = nI 6 from rfl, pk_mul, nI_add], if_pos (xI_ok (by omega) (by decide)), cl (by omega), h2 70 (by omega) (by omega), e1, Option.bind_some]
      rfl
theorem rgX {V : xV} {q w e : Nat} {F : Nat → Mn} {env : Nat → Int} (h : RL V q F) (hw : w < 6) (hb : eb w env) : mil (vl (Fx F e w) env) ∧ (tyw w = false → bit (vl (Fx F e w) env)) := by
  have z : mil 0 ∧ (tyw w = false → bit 0) := ⟨by unfold mil; omega, fun _ => Or.inl rfl⟩
  unfold Fx
  by_cases c : w = e
  · rw [if_pos c]; exact z
  · rw [if_neg c]
    cases hx : F w with
    | none => exact z
    | some v => exact (h.2.2.1 w hw).2 v hx env hb

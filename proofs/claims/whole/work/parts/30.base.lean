/-! PURE: numbers, reads of a store, ranges -/
theorem x2_at (V : xV) (r k : Nat) (v : Int32) : x2 V r k v r k = v := by simp [x2]
theorem x2_off {V : xV} {r k r' k' : Nat} {v : Int32} (h : ¬ (r' = r ∧ k' = k)) : x2 V r k v r' k' = V r' k' := if_neg h
theorem nI_small {a b : Nat} (ha : a < 2 ^ 31) (hb : b < 2 ^ 31) (h : nI a = nI b) : a = b := (nI_eq ha hb).mp h
theorem lt0_nI {k : Nat} (h : k < 2 ^ 31) : ¬ nI k < 0 := nI_pos h
theorem xI_iff {k n : Nat} (hk : k < 2 ^ 31) : xI (nI k) n = true ↔ k < n := by
  unfold xI
  rw [decide_eq_true_iff, nI_toInt hk]
  omega
theorem xI_ok {k n : Nat} (h : k < n) (hn : n < 2 ^ 31) : xI (nI k) n = true := (xI_iff (by omega)).mpr h
theorem cl {k : Nat} (h : k < 2 ^ 31) : (nI k).toNatClampNeg = k := nI_clamp h
/-- a number is in a range, or it isn't: both classes' tests say the same -/
theorem wi (a b m : Int32) (n : Nat) (hn : n < 2 ^ 31) (hb : b = nI n) (hm : m.toInt = (n : Int) - 1) : (f_Ww_within a b = 0 ∧ f_Md_in a 0 m = 0) ∨ ∃ j, j < n ∧ a = nI j ∧ f_Ww_within a b = 1 ∧ f_Md_in a 0 m = 1 := by
  subst hb
  rcases pk_ix a hn with h | h | ⟨j, hj, rfl⟩
  · left
    exact ⟨if_pos h, if_pos h⟩
  · left
    have h0 : ¬ a < 0 := by
      rw [Int32.lt_iff_toInt_lt]
      have := Int32.le_iff_toInt_le.mp h
      rw [nI_toInt hn] at this
      simp; omega
    refine ⟨?_, ?_⟩
    · unfold f_Ww_within; rw [if_neg h0, if_pos h]
    · unfold f_Md_in; rw [if_neg h0, if_pos]
      rw [Int32.lt_iff_toInt_lt, hm]
      have := Int32.le_iff_toInt_le.mp h
      rw [nI_toInt hn] at this
      omega
  · right
    refine ⟨j, hj, rfl, ?_, ?_⟩
    · unfold f_Ww_within; rw [if_neg (nI_pos (by omega)), if_neg (nI_ge hj hn)]
    · unfold f_Md_in; rw [if_neg (nI_pos (by omega)), if_neg]
      rw [Int32.lt_iff_toInt_lt, hm, nI_toInt (by omega)]
      omega
theorem xI_add {a b n : Nat} (h : a + b < n) (hn : n < 2 ^ 31) : xI (nI a + nI b) n = true := by rw [nI_add]; exact xI_ok h hn
/-- every row of V but those named is as it was -/
def xsame (V V' : xV) (P : Nat → Prop) : Prop := ∀ r, P r → V' r = V r
/-! THE INVARIANT -/
/-- the abstract state of the rolls: the model's row, as naturals (place 3: one more than it) -/
def rA (S : Nat → Nat) : Prop := S 0 ≤ 12 ∧ S 1 < 10000 ∧ S 2 ≤ 4 ∧ S 3 ≤ S 2
def rF (S : Nat → Nat) : Prop := ∀ i, i < 12 → S (170 + 3 * i) < 4 ∧ S (170 + 3 * i + 1) < 10 ∧ S (170 + 3 * i + 2) < 10
def rS (S : Nat → Nat) : Prop := ∀ d, d < 30 → S (10 + d) < 10
def rD (S : Nat → Nat) : Prop := ∀ c, c < 120 → S (40 + c) < 2
def rC (S : Nat → Nat) : Prop := ∀ s, s < 10 → S (160 + s) < 10
def rT (S : Nat → Nat) : Prop := S 4 ≤ 60
def rok (S : Nat → Nat) : Prop := rA S ∧ rF S ∧ rS S ∧ rD S ∧ rC S ∧ rT S
/-- the model's row holds it -/
def pm (V : xV) (m : Nat) (S : Nat → Nat) : Prop := V m 3 = nI (S 3) - 1 ∧ ∀ k, k < 270 → k ≠ 3 → V m k = nI (S k)
/-- the class's rolls hold it: the numbers, the folk, the skies, the decrees, the chances, the steps -/
def pA (V : xV) (o : Nat) (S : Nat → Nat) : Prop := V o 7 = nI (S 0) ∧ V o 8 = nI (S 1) ∧ V o 9 = nI (S 2) ∧ V o 10 = nI (S 3) - 1
def pF (V : xV) (o : Nat) (S : Nat → Nat) : Prop := ∀ i, i < 12 → V (o + 1) i = nI (S (170 + 3 * i)) ∧ V (o + 2) i = nI (S (170 + 3 * i + 1)) ∧ V (o + 3) i = nI (S (170 + 3 * i + 2))
def pS (V : xV) (o : Nat) (S : Nat → Nat) : Prop := ∀ d, d < 30 → V (o + 4) d = nI (S (10 + d))
def pD (V : xV) (o : Nat) (S : Nat → Nat) : Prop := ∀ c, c < 120 → V (o + 5) c = nI (S (40 + c))
def pC (V : xV) (o : Nat) (S : Nat → Nat) : Prop := ∀ s, s < 10 → V (o + 6) s = nI (S (160 + s))
def pT (V : xV) (o : Nat) (S : Nat → Nat) : Prop := V o 11 = nI (S 4) ∧ ∃ p, p < 60 ∧ V o 12 = nI p ∧ ∀ j, j < S 4 → ∃ c, c < 120 ∧ V (o + 7) ((p + 60 - S 4 + j) % 60) = nI c ∧ S (210 + j) = 10 * (c / 4) + c % 4
def pc (V : xV) (o : Nat) (S : Nat → Nat) : Prop := pA V o S ∧ pF V o S ∧ pS V o S ∧ pD V o S ∧ pC V o S ∧ pT V o S
/-- the tapes -/
def tp (V : xV) : Prop := ∃ n, n ≤ 300 ∧ V 17 1 = nI n ∧ V 65 3 = nI n ∧ ∀ i, i < n → ∃ b, b < 256 ∧ V 18 i = nI b ∧ V 68 i = (nI b).toInt8.toInt32
/-- the latest fault -/
def ft (V : xV) : Prop := (V 46 0 = 0 ∧ V 65 4 = -1 ∧ V 65 5 = -1) ∨ (V 46 0 = 1 ∧ V 46 1 = V 65 4 ∧ V 46 2 = V 65 5)
/-- what else stays -/
def ms (V : xV) : Prop := V 51 1 = -1 ∧ V 65 35 = -1 ∧ V 20 4 = 0 ∧ ∀ w, w < 6 → V 22 w = 0 ∧ V 23 w = 0
/-- the laws' relation is of these cells alone -/
def lwF (LW : xV → Nat → Prop) : Prop := (∀ V V' t, (∀ r, 20 ≤ r → r < 46 → V' r = V r) → (∀ r, 69 ≤ r → r < 74 → V' r = V r) → LW V t → LW V' t) ∧ ∀ V t t', t' ≤ t → LW V t → LW V t'
def Inv (LW : xV → Nat → Prop) (V : xV) (_ : xL) : Prop := ∃ S K : Nat → Nat, rok S ∧ rok K ∧ pc V 1 S ∧ pm V 66 S ∧ pc V 9 K ∧ pm V 67 K ∧ K 2 ≤ S 2 ∧ tp V ∧ ft V ∧ ms V ∧ LW V (S 2)
def su (S : Nat → Nat) (k v : Nat) : Nat → Nat := fun j => if j = k then v else S j
theorem su_at (S : Nat → Nat) (k v : Nat) : su S k v k = v := if_pos rfl
theorem su_ne {S : Nat → Nat} {k v j : Nat} (h : j ≠ k) : su S k v j = S j := if_neg h
theorem pA.fr {V V' : xV} {o : Nat} {S S' : Nat → Nat} (h : pA V o S) (hV : ∀ k, 7 ≤ k → k ≤ 10 → V' o k = V o k) (hS : ∀ k, k < 4 → S' k = S k) : pA V' o S' := by
  obtain ⟨h1, h2, h3, h4⟩ := h
  refine ⟨?_, ?_, ?_, ?_⟩
  · rw [hV 7 (by omega) (by omega), hS 0 (by omega)]; exact h1
  · rw [hV 8 (by omega) (by omega), hS 1 (by omega)]; exact h2
  · rw [hV 9 (by omega) (by omega), hS 2 (by omega)]; exact h3
  · rw [hV 10 (by omega) (by omega), hS 3 (by omega)]; exact h4
theorem pF.fr {V V' : xV} {o : Nat} {S S' : Nat → Nat} (h : pF V o S) (h1 : V' (o + 1) = V (o + 1)) (h2 : V' (o + 2) = V (o + 2)) (h3 : V' (o + 3) = V (o + 3)) (hS : ∀ k, 170 ≤ k → k < 206 → S' k = S k) : pF V' o S' := fun i hi => by
  rw [h1, h2, h3, hS _ (by omega) (by omega), hS _ (by omega) (by omega), hS _ (by omega) (by omega)]; exact h i hi
theorem pS.fr {V V' : xV} {o : Nat} {S S' : Nat → Nat} (h : pS V o S) (h1 : V' (o + 4) = V (o + 4)) (hS : ∀ k, 10 ≤ k → k < 40 → S' k = S k) : pS V' o S' := fun i hi => by
  rw [h1, hS _ (by omega) (by omega)]; exact h i hi
theorem pD.fr {V V' : xV} {o : Nat} {S S' : Nat → Nat} (h : pD V o S) (h1 : V' (o + 5) = V (o + 5)) (hS : ∀ k, 40 ≤ k → k < 160 → S' k = S k) : pD V' o S' := fun i hi => by
  rw [h1, hS _ (by omega) (by omega)]; exact h i hi
theorem pC.fr {V V' : xV} {o : Nat} {S S' : Nat → Nat} (h : pC V o S) (h1 : V' (o + 6) = V (o + 6)) (hS : ∀ k, 160 ≤ k → k < 170 → S' k = S k) : pC V' o S' := fun i hi => by
  rw [h1, hS _ (by omega) (by omega)]; exact h i hi
theorem pT.fr {V V' : xV} {o : Nat} {S S' : Nat → Nat} (h : pT V o S) (hr : rT S) (h1 : V' (o + 7) = V (o + 7)) (h2 : V' o 11 = V o 11) (h3 : V' o 12 = V o 12) (h4 : S' 4 = S 4) (hS : ∀ k, 210 ≤ k → k < 270 → S' k = S k) : pT V' o S' := by
  obtain ⟨g1, p, g2, g3, g4⟩ := h
  refine ⟨by rw [h2, h4]; exact g1, p, g2, by rw [h3]; exact g3, fun j hj => ?_⟩
  rw [h4] at hj
  have hr : S 4 ≤ 60 := hr
  rw [h1, h4, hS _ (by omega) (by omega)]
  exact g4 j hj
theorem pc.fr {V V' : xV} {o : Nat} {S : Nat → Nat} (h : pc V o S) (hV : ∀ r, o ≤ r → r ≤ o + 7 → V' r = V r) : pc V' o S := by
  obtain ⟨h1, h2, h3, h4, h5, g1, p, g2, g3, g4⟩ := h
  have e0 := hV o (by omega) (by omega)
  refine ⟨h1.fr (fun k _ _ => by rw [e0]) (fun _ _ => rfl), h2.fr (hV _ (by omega) (by omega)) (hV _ (by omega) (by omega)) (hV _ (by omega) (by omega)) (fun _ _ _ => rfl), h3.fr (hV _ (by omega) (by omega)) (fun _ _ _ => rfl), h4.fr (hV _ (by omega) (by omega)) (fun _ _ _ => rfl), h5.fr (hV _ (by omega) (by omega)) (fun _ _ _ => rfl), by rw [e0]; exact g1, p, g2, by rw [e0]; exact g3, fun j hj => ?_⟩
  rw [hV (o + 7) (by omega) (by omega)]
  exact g4 j hj
theorem pm.fr {V V' : xV} {m : Nat} {S : Nat → Nat} (h : pm V m S) (hV : V' m = V m) : pm V' m S := by unfold pm; rw [hV]; exact h
theorem pm.set {V : xV} {m : Nat} {S : Nat → Nat} (h : pm V m S) {k : Nat} (v : Nat) (hk : k ≠ 3) : pm (x2 V m k (nI v)) m (su S k v) := by
  refine ⟨by rw [x2_off (by omega), su_ne (by omega)]; exact h.1, fun j hj h3 => ?_⟩
  by_cases e : j = k
  · subst e; rw [x2_at, su_at]
  · rw [x2_off (by omega), su_ne e]; exact h.2 j hj h3
theorem rA.fr {S S' : Nat → Nat} (h : rA S) (hS : ∀ k, k < 4 → S' k = S k) : rA S' := by unfold rA; rw [hS 0 (by omega), hS 1 (by omega), hS 2 (by omega), hS 3 (by omega)]; exact h
theorem rF.fr {S S' : Nat → Nat} (h : rF S) (hS : ∀ k, 170 ≤ k → k < 206 → S' k = S k) : rF S' := fun i hi => by rw [hS _ (by omega) (by omega), hS _ (by omega) (by omega), hS _ (by omega) (by omega)]; exact h i hi
theorem rS.fr {S S' : Nat → Nat} (h : rS S) (hS : ∀ k, 10 ≤ k → k < 40 → S' k = S k) : rS S' := fun i hi => by rw [hS _ (by omega) (by omega)]; exact h i hi
theorem rD.fr {S S' : Nat → Nat} (h : rD S) (hS : ∀ k, 40 ≤ k → k < 160 → S' k = S k) : rD S' := fun i hi => by rw [hS _ (by omega) (by omega)]; exact h i hi
theorem rC.fr {S S' : Nat → Nat} (h : rC S) (hS : ∀ k, 160 ≤ k → k < 170 → S' k = S k) : rC S' := fun i hi => by rw [hS _ (by omega) (by omega)]; exact h i hi
theorem tp.fr {V V' : xV} (h : tp V) (h1 : V' 17 1 = V 17 1) (h2 : V' 65 3 = V 65 3) (h3 : V' 18 = V 18) (h4 : V' 68 = V 68) : tp V' := by unfold tp; rw [h1, h2, h3, h4]; exact h
theorem ft.fr {V V' : xV} (h : ft V) (h1 : ∀ k, k < 3 → V' 46 k = V 46 k) (h2 : V' 65 4 = V 65 4) (h3 : V' 65 5 = V 65 5) : ft V' := by unfold ft; rw [h1 0 (by omega), h1 1 (by omega), h1 2 (by omega), h2, h3]; exact h
theorem ms.fr {V V' : xV} (h : ms V) (h1 : V' 51 1 = V 51 1) (h2 : V' 65 35 = V 65 35) (h3 : ∀ r, 20 ≤ r → r < 25 → V' r = V r) : ms V' := by unfold ms; rw [h1, h2, h3 20 (by omega) (by omega), h3 22 (by omega) (by omega), h3 23 (by omega) (by omega)]; exact h
/-- cells that nobody reads later may be anything -/
theorem Inv.scratch {LW : xV → Nat → Prop} (hF : lwF LW) {V V' : xV} {L L' : xL} (h : Inv LW V L) (h1 : ∀ r, r < 46 → V' r = V r) (h2 : ∀ k, k < 3 → V' 46 k = V 46 k) (h3 : V' 51 1 = V 51 1) (h4 : ∀ k, k = 3 ∨ k = 4 ∨ k = 5 ∨ k = 35 → V' 65 k = V 65 k) (h5 : ∀ r, 66 ≤ r → r < 74 → V' r = V r) : Inv LW V' L' := by
  obtain ⟨S, K, a1, a2, a3, a4, a5, a6, a7, a8, a9, a10, a11⟩ := h
  exact ⟨S, K, a1, a2, a3.fr (fun r _ _ => h1 r (by omega)), a4.fr (h5 _ (by omega) (by omega)), a5.fr (fun r _ _ => h1 r (by omega)), a6.fr (h5 _ (by omega) (by omega)), a7, a8.fr (by rw [h1 17 (by omega)]) (h4 3 (by omega)) (h1 _ (by omega)) (h5 _ (by omega) (by omega)), a9.fr h2 (h4 4 (by omega)) (h4 5 (by omega)), a10.fr h3 (h4 35 (by omega)) (fun r _ _ => h1 r (by omega)), hF.1 V V' _ (fun r _ _ => h1 r (by omega)) (fun r _ _ => h5 r (by omega) (by omega)) a11⟩

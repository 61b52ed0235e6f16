/-! PURE: text, operators that wait -/
def ol (x : Option Nat) : List Nat := match x with | none => [] | some p => [p]
def pI (x : Option Nat) : Int32 := match x with | none => 36 | some p => nI p
def cks (l : List Nat) : List Int32 := l.map cK
def mos (l : List Nat) : List (Int32 × Int32) := l.map fun p => (mo p, 0)
def opT (ty : Bool) (p : Nat) : Prop := (ty = true ∧ opS p) ∨ (ty = false ∧ opL p)
def Pd (wc : Nat) (ty : Bool) (x : Option Nat) (C : List Int32) (M : List (Int32 × Int32)) (D : Nat) : Prop := (x = none ∧ C = [] ∧ M = []) ∨ ∃ p v d, x = some p ∧ opT ty p ∧ Good wc ty C M v d ∧ d ≤ D
theorem comb {wc : Nat} {ty : Bool} {x : Option Nat} {C Cc : List Int32} {M Mc : List (Int32 × Int32)} {D dc : Nat} {vc : (Nat → Int) → Int} (h : Pd wc ty x C M D) (hc : Good wc ty Cc Mc vc dc) (hd : dc + 1 ≤ D) : ∃ v d, Good wc ty (C ++ Cc ++ cks (ol x)) (M ++ Mc ++ mos (ol x)) v d ∧ d ≤ D := by
  rcases h with ⟨rfl, rfl, rfl⟩ | ⟨p, v, d, rfl, h1, h2, h3⟩
  · refine ⟨vc, dc, ?_, by omega⟩
    show Good wc ty ([] ++ Cc ++ []) ([] ++ Mc ++ []) vc dc
    rw [List.append_nil, List.nil_append, List.append_nil, List.nil_append]
    exact hc
  · have := good_bin (ty := ty) h2 hc p 0 (by
      rcases h1 with ⟨q1, q2⟩ | ⟨q1, q2⟩
      · exact Or.inr (Or.inr ⟨q2, q1, q1⟩)
      · exact Or.inl ⟨q2, q1, q1⟩)
    exact ⟨_, _, this, by omega⟩
def sk (W : xV) (fr : Nat) : Nat → List Nat → Prop
  | _, [] => True
  | x, p :: R => ∃ y, x = y + 1 ∧ (W 76 y = mo p ∧ W 77 y = nI fr) ∧ sk W fr y R
theorem sk.fr {W W' : xV} {fr : Nat} : ∀ {R : List Nat} {x : Nat}, sk W fr x R → (∀ k, k < x → W' 76 k = W 76 k ∧ W' 77 k = W 77 k) → sk W' fr x R
  | [], _, _, _ => trivial
  | p :: R, x, ⟨y, h1, h2, h3⟩, h => ⟨y, h1, ⟨by rw [(h y (by omega)).1]; exact h2.1, by rw [(h y (by omega)).2]; exact h2.2⟩, h3.fr (fun k hk => h k (by omega))⟩
theorem sk.at {W : xV} {fr : Nat} : ∀ {R : List Nat} {x : Nat}, sk W fr x R → ∀ y, x ≤ y + R.length → y < x → W 77 y = nI fr
  | [], x, _, y, h1, h2 => by
    have h1 : x ≤ y + 0 := h1
    omega
  | p :: R, x, ⟨z, h1, h2, h3⟩, y, g1, g2 => by
    have g1 : x ≤ y + (R.length + 1) := g1
    by_cases e : y = z
    · rw [e]; exact h2.2
    · exact h3.at y (by omega) (by omega)
theorem sk.drop {W : xV} {fr : Nat} : ∀ {R T : List Nat} {x : Nat}, sk W fr (x + R.length) (R ++ T) → sk W fr x T
  | [], T, x, h => h
  | p :: R, T, x, h => by
    obtain ⟨y, h1, h2, h3⟩ := h
    have h1 : x + (R.length + 1) = y + 1 := h1
    have : y = x + R.length := by omega
    subst this
    exact sk.drop h3
theorem sk.take {W : xV} {fr : Nat} : ∀ {R T : List Nat} {x : Nat}, sk W fr x (R ++ T) → sk W fr x R
  | [], T, x, h => trivial
  | p :: R, T, x, h => by
    obtain ⟨y, h1, h2, h3⟩ := h
    exact ⟨y, h1, h2, sk.take h3⟩
def SP (W : xV) (fr : Nat) (rk : Int32) (x : Nat) : Prop := x = 0 ∨ ∃ y, x = y + 1 ∧ ((∃ g, g < fr ∧ W 77 y = nI g) ∨ (W 77 y = nI fr ∧ f_Md_rank (W 76 y) < rk))
section WK
variable {B : Nat → Nat} {n N wc : Nat} {i sv fr o : Nat}
theorem MV.wt {W : xV} {w m : Nat} (h : MV B n wc W i sv fr o w m) (w' : Nat) : MV B n wc (x2 W 65 22 (nI w')) i sv fr o w' m := by
  obtain ⟨h1, h2, h3, h4, h5, h6, h7, h8⟩ := h
  exact ⟨h1.fr (x2_ne (by decide)) (fun k _ _ => x2_off (by omega)), by rw [x2_off (by omega)]; exact h2, by rw [x2_off (by omega)]; exact h3, by rw [x2_off (by omega)]; exact h4, by rw [x2_off (by omega)]; exact h5, x2_at _ _ _ _, by rw [x2_off (by omega)]; exact h7, by rw [x2_off (by omega)]; exact h8⟩
theorem works_R (rk : Int32) (x : Nat) (hfr : fr < 1000) : ∀ (R : List Nat) (m u : Nat) (W : xV), MV B n wc W i sv fr o (x + R.length) m → sk W fr (x + R.length) R → (∀ p, p ∈ R → ¬ f_Md_rank (mo p) < rk) → SP W fr rk x → x + R.length ≤ 80 → m + R.length ≤ 400 → R.length < u → ∃ W', g_Md_works_0 u rk W = some W' ∧ MV B n wc W' i sv fr o x (m + R.length) ∧ (∀ wv, MR W W' fr wv m (mos R)) ∧ W' 76 = W 76 ∧ W' 77 = W 77
  | [], m, u + 1, W, h, h1, h2, h3, h4, h5, h6 => by
    refine ⟨W, ?_, h, fun wv => ⟨trivial, MF.rf _ _ _ _⟩, rfl, rfl⟩
    have h22 : W 65 22 = nI x := h.2.2.2.2.2.1
    have h4 : x + 0 ≤ 80 := h4
    show b_Md_works_0 _ _ _ = _
    unfold b_Md_works_0
    rw [h22, h.2.2.2.1]
    rcases h3 with rfl | ⟨y, rfl, h3⟩
    · rw [if_pos (by decide)]
    · rw [if_neg (show ¬ nI (y + 1) ≤ 0 from nI_ge (a := 0) (by omega) (by omega)), nI_pred, if_pos (xI_ok (by omega) (by decide)), cl (by omega)]
      rcases h3 with ⟨g, g1, g2⟩ | ⟨g1, g2⟩
      · rw [if_pos (show ¬ W 77 y = nI fr by rw [g2]; exact fun z => by have := nI_small (by omega) (by omega) z; omega)]
      · rw [if_neg (fun z => z g1), if_pos (xI_ok (by omega) (by decide)), if_pos g2]
  | p :: R, m, u + 1, W, h, h1, h2, h3, h4, h5, h6 => by
    obtain ⟨y, y1, ⟨y2, y3⟩, y4⟩ := h1
    have y1 : x + (R.length + 1) = y + 1 := y1
    have hy : y = x + R.length := by omega
    subst hy
    have h4 : x + (R.length + 1) ≤ 80 := h4
    have h5 : m + (R.length + 1) ≤ 400 := h5
    have h6 : R.length + 1 < u + 1 := h6
    have h22 : W 65 22 = nI (x + R.length + 1) := h.2.2.2.2.2.1
    have hw := h.wt (x + R.length)
    have hq : ∀ wv, MR W (eMm (x2 W 65 22 (nI (x + R.length))) m (mo p) 0) fr wv m [(mo p, 0)] := fun wv => MR.fm (m' := m) (MF.s65 (by omega) _ _ _) (eMm_R _ m (mo p) 0 fr wv) (Nat.le_refl _) (Nat.le_refl _)
    have e76 : eMm (x2 W 65 22 (nI (x + R.length))) m (mo p) 0 76 = W 76 := by rw [eMm_r _ _ _ _ (by decide) (by decide) (by decide), x2_ne (by decide)]
    have e77 : eMm (x2 W 65 22 (nI (x + R.length))) m (mo p) 0 77 = W 77 := by rw [eMm_r _ _ _ _ (by decide) (by decide) (by decide), x2_ne (by decide)]
    obtain ⟨W', a1, a2, a3, a4, a5⟩ := works_R rk x hfr R (m + 1) u _ (hw.em (mo p) 0) (y4.fr (fun k _ => by rw [e76, e77]; exact ⟨rfl, rfl⟩)) (fun z hz => h2 z (List.mem_cons_of_mem _ hz)) (by unfold SP; rw [e76, e77]; exact h3) (by omega) (by omega) (by omega)
    refine ⟨W', ?_, ?_, fun wv => (hq wv).tr (a3 wv) (Nat.le_refl _) (Nat.le_refl _), by rw [a4, e76], by rw [a5, e77]⟩
    · rw [← a1]
      show b_Md_works_0 _ _ _ = _
      unfold b_Md_works_0
      rw [h22, if_neg (show ¬ nI (x + R.length + 1) ≤ 0 from nI_ge (a := 0) (by omega) (by omega)), nI_pred, if_pos (xI_ok (by omega) (by decide)), if_pos (xI_ok (by omega) (by decide)), cl (by omega), y3, h.2.2.2.1, if_neg (fun z => z rfl), y2, if_neg (h2 p List.mem_cons_self), x2_at, if_pos (xI_ok (by omega) (by decide)), cl (by omega), show x2 W 65 22 (nI (x + R.length)) 76 = W 76 from x2_ne (by decide), y2, emits_m hw.2.2.2.2.2.2.1 (by omega), Option.bind_some]
    · show MV B n wc W' i sv fr o x (m + (R.length + 1))
      rw [show m + (R.length + 1) = m + 1 + R.length by omega]
      exact a2
theorem waits_m (hN : tkN B n N) {W W2 : xV} {w m : Nat} {a : Int32} (h1 : f_Md_works (f_Md_rank a) W = some W2) (h : MV B n wc W2 i sv fr o w m) (hw : w < 80) (hi : i + 1 < N) : ∃ W3, f_Md_waitsFor a W = some W3 ∧ MV B n wc W3 (i + 1) sv fr o (w + 1) m ∧ (W3 76 w = a ∧ W3 77 w = nI fr) ∧ MF W2 W3 fr w m := by
  have e1 : x2 W2 76 w a 65 22 = nI w := by rw [x2_ne (by decide)]; exact h.2.2.2.2.2.1
  have e2 : x2 W2 76 w a 65 19 = nI fr := by rw [x2_ne (by decide)]; exact h.2.2.2.1
  have e3 : x2 (x2 W2 76 w a) 77 w (nI fr) 65 22 = nI w := by rw [x2_ne (by decide)]; exact e1
  have h' : MV B n wc (x2 (x2 W2 76 w a) 77 w (nI fr)) i sv fr o w m := by
    obtain ⟨h1, h2, h3, h4, h5, h6, h7, h8⟩ := h
    have e : ∀ k, x2 (x2 W2 76 w a) 77 w (nI fr) 65 k = W2 65 k := fun k => by rw [x2_ne (by decide), x2_ne (by decide)]
    exact ⟨h1.fr (by rw [x2_ne (by decide), x2_ne (by decide)]) (fun k _ _ => e k), by rw [e]; exact h2, by rw [e]; exact h3, by rw [e]; exact h4, by rw [e]; exact h5, by rw [e]; exact h6, by rw [e]; exact h7, by rw [e]; exact h8⟩
  obtain ⟨W3, a1, a2, a3⟩ := (h'.wt (w + 1)).next hN hi
  refine ⟨W3, ?_, a2, ⟨by rw [a3 76 w (by omega), x2_ne (by decide), x2_ne (by decide), x2_at], by rw [a3 77 w (by omega), x2_ne (by decide), x2_at]⟩, ?_⟩
  · unfold f_Md_waitsFor
    rw [h1, Option.bind_some, h.2.2.2.2.2.1, if_pos (xI_ok hw (by decide)), cl (by omega), e1, if_pos (xI_ok hw (by decide)), cl (by omega), e2, e3, nI_1, a1, Option.bind_some]
  · exact (MF.s76 (Nat.le_refl _)).tr ((MF.s77 (Nat.le_refl _)).tr ((MF.s65 (by omega) _ _ _).tr (MF.nf a3 _ _ _) (Nat.le_refl _) (Nat.le_refl _) (Nat.le_refl _)) (Nat.le_refl _) (Nat.le_refl _) (Nat.le_refl _)) (Nat.le_refl _) (Nat.le_refl _) (Nat.le_refl _)
end WK
theorem emit_o {B : Nat → Nat} {n N q wc : Nat} {V : xV} {i len : Nat} (hq : qk q) (h : CS B n N q wc V i len) (x : Option Nat) (hx : ∀ p, x = some p → p < 36) (hl : len + (ol x).length ≤ 300) : ∃ V', f_Reader_emitIf (if pI x = 36 then 0 else 1) ((-1) - pI x) V = some V' ∧ CE B n N q wc V V' i len (cks (ol x)) := by
  cases x with
  | none =>
    obtain ⟨V', e1, e2⟩ := emit_at hq h false (fun z => by cases z) ((-1) - pI none)
    exact ⟨V', by rw [if_pos (show pI none = 36 from rfl)]; exact e1, e2⟩
  | some p =>
    obtain ⟨V', e1, e2⟩ := emit_at hq h true (fun _ => by have hl : len + 1 ≤ 300 := hl; omega) ((-1) - pI (some p))
    refine ⟨V', ?_, e2⟩
    rw [if_neg (show ¬ pI (some p) = 36 from fun z => by have := nI_small (a := p) (b := 36) (by have := hx p rfl; omega) (by decide) z; have := hx p rfl; omega)]
    exact e1

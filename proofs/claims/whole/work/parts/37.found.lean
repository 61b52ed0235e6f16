/-! PURE: found, skies -/
def la (S : Nat → Nat) (p d : Nat) : Nat := if d = 0 then 0 else S (40 + (4 * (d - 1) + p))
def se (S : Nat → Nat) (d : Nat) : Nat := if d = 0 then 0 else S (10 + (d - 1))
theorem la_lt {S : Nat → Nat} (hr : rD S) {p d : Nat} (hp : p < 4) (hd : d < 31) : la S p d < 2 := by
  unfold la; split
  · decide
  · exact hr _ (by omega)
theorem se_lt {S : Nat → Nat} (hr : rS S) {d : Nat} (hd : d < 31) : se S d < 10 := by
  unfold se; split
  · decide
  · exact hr _ (by omega)
theorem last_c {V : xV} {S : Nat → Nat} (h : pD V 1 S) {d p : Nat} (hd : d < 31) (hp : p < 4) : f_Rolls_lastOf (nI d) (nI p) V = some (nI (la S p d)) := by
  unfold f_Rolls_lastOf la
  by_cases q : d = 0
  · subst q
    rw [if_pos rfl]
    have e : f_Rolls_decreeOf (nI 0 - 1) (nI p) V = some 0 := by
      unfold f_Rolls_decreeOf
      rw [if_pos]
      unfold f_Ww_within
      rw [if_pos]
      rw [show nI 0 - 1 = (-1 : Int32) by decide, show (-1 : Int32) * 4 = -4 by decide, Int32.add_comm, ← Int32.sub_eq_add_neg]
      exact pk_sneg (b := 4) (by decide) hp
    rw [e]; rfl
  · rw [if_neg q, show (1 : Int32) = nI 1 from rfl, pk_sub (by omega), dec_c h (by omega) hp]; rfl
theorem sky_c {V : xV} {S : Nat → Nat} (h : pS V 1 S) {d : Nat} (hd : d < 30) : f_Rolls_skyOf (nI d) V = some (nI (S (10 + d))) := by
  unfold f_Rolls_skyOf
  rw [show (30 : Int32) = nI 30 from rfl, within_in hd (by decide), if_neg (by decide), if_pos (xI_ok hd (by decide)), cl (by omega)]
  exact congrArg some (h d hd)
theorem seen_c {V : xV} {S : Nat → Nat} (h : pS V 1 S) {d : Nat} (hd : d < 31) : f_Rolls_seenOn (nI d) V = some (nI (se S d)) := by
  unfold f_Rolls_seenOn se
  by_cases q : d = 0
  · subst q
    rw [if_pos rfl]
    have e : f_Rolls_skyOf (nI 0 - 1) V = some 0 := by
      unfold f_Rolls_skyOf
      rw [show nI 0 - 1 = (-1 : Int32) by decide, if_pos (by decide)]
    rw [e]; rfl
  · rw [if_neg q, show (1 : Int32) = nI 1 from rfl, pk_sub (by omega), sky_c h (by omega)]; rfl
theorem key_c {V : xV} {S : Nat → Nat} (h : pD V 1 S) (h3 : pS V 1 S) {d p : Nat} (hd : d < 31) (hp : p < 4) : f_Rolls_ruleKey (nI d) (nI p) V = some (nI (la S p d * 10 + se S d)) := by
  unfold f_Rolls_ruleKey
  rw [last_c h hd hp, Option.bind_some, seen_c h3 hd, Option.bind_some, show (10 : Int32) = nI 10 from rfl, pk_mul, nI_add]
theorem like_m {V : xV} {S : Nat → Nat} (hm : pm V 66 S) (r3 : rS S) (r4 : rD S) {d e p : Nat} (hd : d < 30) (he : e < 30) (hp : p < 4) : f_Md_isLike (nI p) (nI e) (nI d) V = some (if la S p e = la S p d ∧ se S e = se S d then 1 else 0) := by
  have nz : ∀ x, x < 30 → (¬ nI x = 0 ↔ ¬ x = 0) := fun x hx => by
    constructor
    · intro h q; exact h (by rw [q]; rfl)
    · intro h q; exact h (nI_small (b := 0) (by omega) (by decide) q)
  have hdec : ∀ x, x < 30 → ¬ x = 0 → f_Md_decreeOf (nI x - 1) (nI p) V = some (nI (la S p x)) := fun x hx h0 => by
    unfold la
    rw [if_neg h0, show (1 : Int32) = nI 1 from rfl, pk_sub (by omega), dec_m hm (by omega) hp]
  have hsee : ∀ x, x < 30 → ¬ x = 0 → xI (10 + nI x - 1) 270 = true ∧ V 66 (10 + nI x - 1).toNatClampNeg = nI (se S x) := fun x hx h0 => by
    rw [show (10 : Int32) + nI x - 1 = nI (10 + x) - nI 1 by rw [← nI_add]; rfl, pk_sub (by omega)]
    refine ⟨xI_ok (by omega) (by decide), ?_⟩
    rw [cl (by omega), hm.at (by omega) (by omega)]
    unfold se
    rw [if_neg h0, show 10 + x - 1 = 10 + (x - 1) by omega]
  have g76 : ∀ a b c f, a < 2 → b < 2 → c < 10 → f < 10 → b_Md_isLike_76 V (nI a) (nI b) (nI c) (nI f) = some (if a = b ∧ c = f then 1 else 0) := by
    intro a b c f ha hb hc hf
    unfold b_Md_isLike_76
    by_cases q : a = b
    · subst q
      rw [if_neg (fun h => h rfl)]
      by_cases q2 : c = f
      · subst q2; rw [if_neg (fun h => h rfl), if_pos ⟨rfl, rfl⟩]
      · rw [if_pos (fun h => q2 (nI_small (by omega) (by omega) h)), if_neg (fun h => q2 h.2)]
    · rw [if_pos (fun h => q (nI_small (by omega) (by omega) h)), if_neg (fun h => q h.1)]
  have g55 : ∀ a b c, a < 2 → b < 2 → c < 10 → b_Md_isLike_55 V (nI d) (nI a) (nI b) (nI c) = some (if a = b ∧ c = se S d then 1 else 0) := by
    intro a b c ha hb hc
    unfold b_Md_isLike_55
    by_cases q : d = 0
    · rw [if_neg (fun h => (nz d hd).mp h q)]
      have e0 : se S d = 0 := by unfold se; rw [if_pos q]
      have h := g76 a b c (se S d) ha hb hc (se_lt r3 (show d < 31 by omega))
      rw [e0] at h ⊢
      exact h
    · rw [if_pos ((nz d hd).mpr q), if_pos (hsee d hd q).1, (hsee d hd q).2]
      exact g76 a b c _ ha hb hc (se_lt r3 (by omega))
  have g34 : ∀ a b, a < 2 → b < 2 → b_Md_isLike_34 V (nI e) (nI d) (nI a) (nI b) = some (if a = b ∧ se S e = se S d then 1 else 0) := by
    intro a b ha hb
    unfold b_Md_isLike_34
    by_cases q : e = 0
    · rw [if_neg (fun h => (nz e he).mp h q)]
      have e0 : se S e = 0 := by unfold se; rw [if_pos q]
      have h := g55 a b (se S e) ha hb (se_lt r3 (show e < 31 by omega))
      rw [e0] at h ⊢
      exact h
    · rw [if_pos ((nz e he).mpr q), if_pos (hsee e he q).1, (hsee e he q).2]
      exact g55 a b _ ha hb (se_lt r3 (by omega))
  have g16 : ∀ a, a < 2 → b_Md_isLike_16 V (nI p) (nI e) (nI d) (nI a) = some (if a = la S p d ∧ se S e = se S d then 1 else 0) := by
    intro a ha
    unfold b_Md_isLike_16
    by_cases q : d = 0
    · rw [if_neg (fun h => (nz d hd).mp h q)]
      have e0 : la S p d = 0 := by unfold la; rw [if_pos q]
      have h := g34 a (la S p d) ha (la_lt r4 hp (show d < 31 by omega))
      rw [e0] at h ⊢
      exact h
    · rw [if_pos ((nz d hd).mpr q), hdec d hd q, Option.bind_some]
      exact g34 a _ ha (la_lt r4 hp (by omega))
  unfold f_Md_isLike
  by_cases q : e = 0
  · rw [if_neg (fun h => (nz e he).mp h q)]
    have e0 : la S p e = 0 := by unfold la; rw [if_pos q]
    have h := g16 (la S p e) (la_lt r4 hp (show e < 31 by omega))
    rw [e0] at h ⊢
    exact h
  · rw [if_pos ((nz e he).mpr q), hdec e he q, Option.bind_some]
    exact g16 _ (la_lt r4 hp (by omega))
/-- two days that tell on the clerk -/
def tell (S : Nat → Nat) (p d e : Nat) : Bool := la S p e == la S p d && se S e == se S d && !(S (40 + (4 * e + p)) == S (40 + (4 * d + p)))
def fe (S : Nat → Nat) (p d : Nat) : Nat → Nat → Option Nat
  | 0, _ => none
  | n + 1, e => if tell S p d e = true then some e else fe S p d n (e + 1)
def fo (S : Nat → Nat) (p : Nat) (w : Int32) : Nat → Nat → Int32
  | 0, _ => -1
  | n + 1, d => match fe S p d d 0 with
    | none => fo S p w n (d + 1)
    | some e => if w = 0 then nI d else nI e
theorem fe_c {V : xV} {S : Nat → Nat} (h : pD V 1 S) (h3 : pS V 1 S) (r3 : rS S) (r4 : rD S) {d p : Nat} (hd : d < 30) (hp : p < 4) (w : Int32) (k20 : Int32 → Int32 → Int32 → Option Int32) : ∀ (n e f : Nat), e + n = d → n < f → g_Ww_found_29 V k20 f (nI p) w (nI d) (nI e) = match fe S p d n e with | none => k20 (nI p) w (nI d + 1) | some e => some (if w = 0 then nI d else nI e)
  | 0, e, f + 1, he, hf => by
    show b_Ww_found_29 _ _ _ _ _ _ _ = _
    unfold b_Ww_found_29 fe
    rw [if_pos (nI_le (by omega) (by omega))]
  | n + 1, e, f + 1, he, hf => by
    show b_Ww_found_29 _ _ _ _ _ _ _ = _
    unfold b_Ww_found_29 fe
    have l1 := la_lt r4 hp (show d < 31 by omega); have l2 := la_lt r4 hp (show e < 31 by omega)
    have s1 := se_lt r3 (show d < 31 by omega); have s2 := se_lt r3 (show e < 31 by omega)
    have d1 := r4 (4 * d + p) (by omega); have d2 := r4 (4 * e + p) (by omega)
    rw [if_neg (nI_ge (by omega) (by omega)), key_c h h3 (by omega) hp, Option.bind_some, key_c h h3 (by omega) hp, Option.bind_some, dec_c h hd hp, Option.bind_some, dec_c h (by omega) hp, Option.bind_some, nI_1]
    have ih := fe_c h h3 r3 r4 hd hp w k20 n (e + 1) f (by omega) (by omega)
    by_cases q : la S p e = la S p d ∧ se S e = se S d
    · rw [if_neg (fun hh => hh (by rw [q.1, q.2]))]
      by_cases q2 : S (40 + (4 * e + p)) = S (40 + (4 * d + p))
      · rw [if_pos (by rw [q2]), if_neg (show ¬ tell S p d e = true by unfold tell; simp [q2])]
        exact ih
      · rw [if_neg (fun hh => q2 (nI_small (by omega) (by omega) hh).symm), if_pos (show tell S p d e = true by unfold tell; simp [q.1, q.2, q2])]
        by_cases q3 : w = 0
        · rw [if_neg (show ¬ ¬ w = 0 from fun hh => hh q3)]; simp [q3]
        · rw [if_pos (show ¬ w = 0 from q3)]; simp [q3]
    · rw [if_pos (fun hh => q (by have := nI_small (by omega) (by omega) hh; omega)), if_neg (show ¬ tell S p d e = true by unfold tell; intro hh; simp at hh; exact q hh.1)]
      exact ih
theorem fe_m {V : xV} {S : Nat → Nat} (hm : pm V 66 S) (r3 : rS S) (r4 : rD S) {d p : Nat} (hd : d < 30) (hp : p < 4) (w : Int32) (k20 : Int32 → Int32 → Int32 → Option Int32) : ∀ (n e f : Nat), e + n = d → n < f → g_Md_found_29 V k20 f (nI p) w (nI d) (nI e) = match fe S p d n e with | none => k20 (nI p) w (nI d + 1) | some e => some (if w = 0 then nI d else nI e)
  | 0, e, f + 1, he, hf => by
    show b_Md_found_29 _ _ _ _ _ _ _ = _
    unfold b_Md_found_29 fe
    rw [if_pos (nI_le (by omega) (by omega))]
  | n + 1, e, f + 1, he, hf => by
    show b_Md_found_29 _ _ _ _ _ _ _ = _
    unfold b_Md_found_29 fe
    have d1 := r4 (4 * d + p) (by omega); have d2 := r4 (4 * e + p) (by omega)
    rw [if_neg (nI_ge (by omega) (by omega)), like_m hm r3 r4 hd (by omega) hp, Option.bind_some, dec_m hm (by omega) hp, Option.bind_some, dec_m hm (by omega) hp, Option.bind_some, nI_1]
    have ih := fe_m hm r3 r4 hd hp w k20 n (e + 1) f (by omega) (by omega)
    by_cases q : la S p e = la S p d ∧ se S e = se S d
    · rw [if_pos q, if_neg (show ¬ ((1 : Int32) = 0) by decide)]
      by_cases q2 : S (40 + (4 * e + p)) = S (40 + (4 * d + p))
      · rw [if_pos (by rw [q2]), if_neg (show ¬ tell S p d e = true by unfold tell; simp [q2])]
        exact ih
      · rw [if_neg (fun hh => q2 (nI_small (by omega) (by omega) hh)), if_pos (show tell S p d e = true by unfold tell; simp [q.1, q.2, q2])]
        by_cases q3 : w = 0
        · rw [if_neg (show ¬ ¬ w = 0 from fun hh => hh q3)]; simp [q3]
        · rw [if_pos (show ¬ w = 0 from q3)]; simp [q3]
    · rw [if_neg q, if_pos rfl, if_neg (show ¬ tell S p d e = true by unfold tell; intro hh; simp at hh; exact q hh.1)]
      exact ih
theorem fo_c {V : xV} {S : Nat → Nat} (h : pD V 1 S) (h3 : pS V 1 S) (r3 : rS S) (r4 : rD S) {p : Nat} (hp : p < 4) (w : Int32) : ∀ (n d f : Nat), d + n = 30 → n < f → g_Ww_found_20 V f (nI p) w (nI d) = some (fo S p w n d)
  | 0, d, f + 1, hd, hf => by
    have e : d = 30 := by omega
    subst e
    show b_Ww_found_20 _ _ _ _ _ = _
    unfold b_Ww_found_20 fo
    rw [if_pos (show (30 : Int32) ≤ nI 30 by decide)]
  | n + 1, d, f + 1, hd, hf => by
    show b_Ww_found_20 _ _ _ _ _ = _
    unfold b_Ww_found_20 fo
    rw [if_neg (show ¬ (30 : Int32) ≤ nI d from nI_ge (b := 30) (by omega) (by decide)), show (0 : Int32) = nI 0 from rfl, fe_c h h3 r3 r4 (by omega) hp w _ d 0 2000 (by omega) (by omega)]
    cases fe S p d d 0 with
    | none => simp only []; rw [nI_1]; exact fo_c h h3 r3 r4 hp w n (d + 1) f (by omega) (by omega)
    | some e => rfl
theorem fo_m {V : xV} {S : Nat → Nat} (hm : pm V 66 S) (r3 : rS S) (r4 : rD S) {p : Nat} (hp : p < 4) (w : Int32) : ∀ (n d f : Nat), d + n = 30 → n < f → g_Md_found_20 V f (nI p) w (nI d) = some (fo S p w n d)
  | 0, d, f + 1, hd, hf => by
    have e : d = 30 := by omega
    subst e
    show b_Md_found_20 _ _ _ _ _ = _
    unfold b_Md_found_20 fo
    rw [if_pos (show (30 : Int32) ≤ nI 30 by decide)]
  | n + 1, d, f + 1, hd, hf => by
    show b_Md_found_20 _ _ _ _ _ = _
    unfold b_Md_found_20 fo
    rw [if_neg (show ¬ (30 : Int32) ≤ nI d from nI_ge (b := 30) (by omega) (by decide)), show (0 : Int32) = nI 0 from rfl, fe_m hm r3 r4 (by omega) hp w _ d 0 2000 (by omega) (by omega)]
    cases fe S p d d 0 with
    | none => simp only []; rw [nI_1]; exact fo_m hm r3 r4 hp w n (d + 1) f (by omega) (by omega)
    | some e => rfl
theorem op_found {LW : xV → Nat → Prop} : P_found (Inv LW) := by
  intro a b V L hI
  rcases wi a 4 3 4 (by decide) rfl (by decide) with ⟨h1, h2⟩ | ⟨p, hp, rfl, h1, h2⟩
  · refine ⟨-1, ?_, ?_, hI⟩
    · unfold f_Ww_found; rw [h1]; rfl
    · unfold f_Md_found f_Md_isProvince; rw [h2]; rfl
  rcases wi b 2 1 2 (by decide) rfl (by decide) with ⟨g1, g2⟩ | ⟨j, hj, rfl, g1, g2⟩
  · refine ⟨-1, ?_, ?_, hI⟩
    · unfold f_Ww_found; rw [h1, g1]; rfl
    · unfold f_Md_found f_Md_isProvince; rw [h2, g2]; rfl
  obtain ⟨S, K, hh⟩ := id hI
  obtain ⟨⟨r1, r2, r3, r4, r5, r6⟩, a2, ⟨c1, c2, c3, c4, c5, c6⟩, a4, -⟩ := id hh
  refine ⟨fo S p (nI j) 29 1, ?_, ?_, hI⟩
  · unfold f_Ww_found
    rw [h1, g1, if_neg (by decide), if_pos (by decide)]
    exact fo_c c4 c3 r3 r4 hp (nI j) 29 1 2000 rfl (by decide)
  · unfold f_Md_found f_Md_isProvince
    rw [h2, g2, if_neg (by decide), if_pos (by decide)]
    exact fo_m a4 r3 r4 hp (nI j) 30 0 2000 rfl (by decide)

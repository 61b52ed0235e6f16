/-! PURE: plan, the search of the class is a walk over all sets -/
theorem upR_self (R : Nat → Int32) (k : Nat) : upR R k (R k) = R := by
  funext i
  unfold upR
  by_cases c : i = k
  · rw [if_pos c, c]
  · rw [if_neg c]
theorem half_c {V W : xV} {R : Nat → Int32} {st : Int32 × Int32 × Int32} {N k key v : Nat} {c g pt : Int32} (rr : Int32 → Int32 → Int32 → Int32 → xV → Option xV) (k92 : Int32 → Int32 → Int32 → Int32 → Int32 → Int32 → xV → Option xV) (st' : Int32 × Int32 × Int32) (hk : k < N) (hN : N ≤ 10) (hkey : key < 20) (hv : v < 2) (h : FW V W (upR R key c) st)
    (ih : ∀ W0, FW V W0 (upR R key (nI v)) st → ∃ W', rr (nI (k + 1)) (nI v) (g + V 58 (2 * k + v)) (pt ||| (nI v <<< (nI k &&& 31))) W0 = some W' ∧ FW V W' (upR R key (nI v)) st') :
    ∃ W' c', b_Planner_follow_92 rr k92 (nI k) g pt (nI key) (R key) (nI v) W = k92 (nI k) g pt (nI key) (R key) (nI (v + 1)) W' ∧ FW V W' (upR R key c') (if R key = -1 ∨ R key = nI v then st' else st) := by
  have hW : FW V (x2 W 59 key (nI v)) (upR R key (nI v)) st := by
    have := h.up key (nI v)
    rw [upR_up] at this
    exact this
  obtain ⟨W', e1, e2⟩ := ih _ hW
  have go : b_Planner_follow_111 rr k92 (nI k) g pt (nI key) (R key) (nI v) W = k92 (nI k) g pt (nI key) (R key) (nI (v + 1)) W' := by
    unfold b_Planner_follow_111
    rw [if_pos (xI_ok hkey (by decide)), show (2 : Int32) * nI k + nI v = nI (2 * k + v) by rw [show (2 : Int32) = nI 2 from rfl, pk_mul, nI_add], if_pos (xI_ok (by omega) (by decide)), cl (by omega), cl (by omega), nI_1, show x2 W 59 key (nI v) 58 = V 58 from hW.2.2.2.2.2.2 58 (by decide) (by decide), e1, Option.bind_some, nI_1]
  unfold b_Planner_follow_92
  rw [if_neg (show ¬ (1 : Int32) < nI v from nI_nlt (a := 1) (by omega) (by omega))]
  by_cases c1 : R key = -1
  · exact ⟨W', nI v, by rw [if_pos c1]; exact go, by rw [if_pos (Or.inl c1)]; exact e2⟩
  · by_cases c2 : R key = nI v
    · exact ⟨W', nI v, by rw [if_neg c1, if_neg (fun z => z c2)]; exact go, by rw [if_pos (Or.inr c2)]; exact e2⟩
    · exact ⟨W, c, by rw [if_neg c1, if_pos c2, nI_1], by rw [if_neg (fun z => z.elim c1 c2)]; exact h⟩
theorem follow_c {V : xV} {S : Nat → Nat} {x N : Nat} (hS : pS V 1 S) (hr : rS S) (hN : N ≤ 10) (hx : x + N ≤ 30) (h6 : V 57 6 = nI x) (h7 : V 57 7 = nI N) : ∀ (r k f : Nat) (R : Nat → Int32) (l : Nat) (g pt : Int32) (st : Int32 × Int32 × Int32) (W : xV), k + r = N → r < f → l < 2 → FW V W R st → ∃ W', f_Planner_follow f (nI k) (nI l) g pt W = some W' ∧ FW V W' R (foS (V 58) (fun k => se S (x + k)) r k R l g pt st)
  | 0, k, f + 1, R, l, g, pt, st, W, h1, h2, h3, h => by
    obtain ⟨W', e1, e2⟩ := leaf_c (f_Planner_follow f) h g pt
    refine ⟨W', ?_, e2⟩
    show F_Planner_follow _ _ _ _ _ _ = _
    unfold F_Planner_follow
    rw [show W 57 7 = nI N from h.2.2.2.2.2.1.trans h7, if_pos (nI_le (by omega) (by omega))]
    exact e1
  | r + 1, k, f + 1, R, l, g, pt, st, W, h1, h2, h3, h => by
    have hk : k < N := by omega
    have hs : se S (x + k) < 10 := se_lt hr (by omega)
    have hkey : 10 * l + se S (x + k) < 20 := by omega
    have h0 : FW V W (upR R (10 * l + se S (x + k)) (R (10 * l + se S (x + k)))) st := by rw [upR_self]; exact h
    obtain ⟨W1, c1, a1, a2⟩ := half_c (g := g) (pt := pt) (v := 0) (f_Planner_follow f) (g_Planner_follow_92 (f_Planner_follow f) 1999) (foS (V 58) (fun k => se S (x + k)) r (k + 1) (upR R (10 * l + se S (x + k)) (nI 0)) 0 (g + V 58 (2 * k + 0)) (pt ||| (nI 0 <<< (nI k &&& 31))) st) hk hN hkey (by decide) h0 (fun W0 hW0 => follow_c hS hr hN hx h6 h7 r (k + 1) f _ 0 _ _ st W0 (by omega) (by omega) (by decide) hW0)
    obtain ⟨W2, c2, b1, b2⟩ := half_c (g := g) (pt := pt) (v := 1) (f_Planner_follow f) (g_Planner_follow_92 (f_Planner_follow f) 1998) (foS (V 58) (fun k => se S (x + k)) r (k + 1) (upR R (10 * l + se S (x + k)) (nI 1)) 1 (g + V 58 (2 * k + 1)) (pt ||| (nI 1 <<< (nI k &&& 31))) _) hk hN hkey (by decide) a2 (fun W0 hW0 => follow_c hS hr hN hx h6 h7 r (k + 1) f _ 1 _ _ _ W0 (by omega) (by omega) (by decide) hW0)
    have b3 := b2.up (10 * l + se S (x + k)) (R (10 * l + se S (x + k)))
    rw [upR_up, upR_self] at b3
    refine ⟨_, ?_, b3⟩
    show F_Planner_follow _ _ _ _ _ _ = _
    unfold F_Planner_follow
    rw [show W 57 7 = nI N from h.2.2.2.2.2.1.trans h7, if_neg (nI_ge hk (by omega)), if_pos (show nI k < 10 from nI_lt (b := 10) (by omega) (by decide)), show W 57 6 = nI x from h.2.2.2.2.1.trans h6, nI_add, show f_Rolls_seenOn (nI (x + k)) W = some (nI (se S (x + k))) from seen_c (hS.fr (h.2.2.2.2.2.2 5 (by decide) (by decide)) (fun _ _ _ => rfl)) (by omega), Option.bind_some, show nI l * 10 + nI (se S (x + k)) = nI (10 * l + se S (x + k)) by rw [show (10 : Int32) = nI 10 from rfl, pk_mul, nI_add, Nat.mul_comm], show f_Ww_within (nI (10 * l + se S (x + k))) 20 = 1 from within_in (n := 20) hkey (by decide), if_pos (by decide), if_pos (xI_ok hkey (by decide)), cl (by omega), h.1 _ hkey]
    refine Eq.trans a1 (Eq.trans b1 ?_)
    show b_Planner_follow_92 _ _ _ _ _ _ _ _ _ = _
    unfold b_Planner_follow_92
    rw [if_pos (by decide), if_pos (xI_ok hkey (by decide)), cl (by omega)]
def okS (sn : Nat → Nat) : Nat → Nat → (Nat → Int32) → Nat → Nat → Bool
  | 0, _, _, _, _ => true
  | r + 1, k, R, l, t => decide (R (10 * l + sn k) = -1 ∨ R (10 * l + sn k) = nI (t / 2 ^ r % 2)) && okS sn r (k + 1) (upR R (10 * l + sn k) (nI (t / 2 ^ r % 2))) (t / 2 ^ r % 2) t
def smA (gn : Nat → Int32) : Nat → Nat → Int32 → Nat → Int32
  | 0, _, g, _ => g
  | r + 1, k, g, t => smA gn r (k + 1) (g + gn (2 * k + t / 2 ^ r % 2)) t
def ptA : Nat → Nat → Int32 → Nat → Int32
  | 0, _, pt, _ => pt
  | r + 1, k, pt, t => ptA r (k + 1) (pt ||| (nI (t / 2 ^ r % 2) <<< (nI k &&& 31))) t
def stp (gn : Nat → Int32) (sn : Nat → Nat) (r k : Nat) (R : Nat → Int32) (l : Nat) (g pt : Int32) (t : Nat) (st : Int32 × Int32 × Int32) : Int32 × Int32 × Int32 := if okS sn r k R l t = true then lf (smA gn r k g t) (ptA r k pt t) st else st
def rng {α : Type} (f : Nat → α → α) : Nat → Nat → α → α
  | 0, _, s => s
  | m + 1, t, s => rng f m (t + 1) (f t s)
theorem rng_add {α : Type} (f : Nat → α → α) (b : Nat) : ∀ (a t : Nat) (s : α), rng f (a + b) t s = rng f b (t + a) (rng f a t s)
  | 0, t, s => by rw [Nat.zero_add]; rfl
  | a + 1, t, s => by
    rw [show a + 1 + b = (a + b) + 1 by omega]
    show rng f (a + b) (t + 1) (f t s) = rng f b (t + (a + 1)) (rng f a (t + 1) (f t s))
    rw [rng_add f b a, show t + (a + 1) = t + 1 + a by omega]
theorem rng_congr {α : Type} {f g : Nat → α → α} : ∀ (m t : Nat) (s : α), (∀ i, i < m → f (t + i) = g (t + i)) → rng f m t s = rng g m t s
  | 0, _, _, _ => rfl
  | m + 1, t, s, h => by
    show rng f m (t + 1) (f t s) = rng g m (t + 1) (g t s)
    rw [show f t = g t from h 0 (by omega)]
    exact rng_congr m (t + 1) _ (fun i hi => by rw [show t + 1 + i = t + (i + 1) by omega]; exact h (i + 1) (by omega))
theorem rng_id {α : Type} : ∀ (m t : Nat) (s : α), rng (fun _ s => s) m t s = s
  | 0, _, _ => rfl
  | m + 1, t, s => rng_id m (t + 1) s
theorem stp_hi (gn : Nat → Int32) (sn : Nat → Nat) (r k : Nat) (R : Nat → Int32) (l : Nat) (g pt : Int32) {t v : Nat} (hd : t / 2 ^ r % 2 = v) : stp gn sn (r + 1) k R l g pt t = fun st => if R (10 * l + sn k) = -1 ∨ R (10 * l + sn k) = nI v then stp gn sn r (k + 1) (upR R (10 * l + sn k) (nI v)) v (g + gn (2 * k + v)) (pt ||| (nI v <<< (nI k &&& 31))) t st else st := by
  funext st
  unfold stp
  show (if (decide (R (10 * l + sn k) = -1 ∨ R (10 * l + sn k) = nI (t / 2 ^ r % 2)) && okS sn r (k + 1) (upR R (10 * l + sn k) (nI (t / 2 ^ r % 2))) (t / 2 ^ r % 2) t) = true then lf (smA gn r (k + 1) (g + gn (2 * k + t / 2 ^ r % 2)) t) (ptA r (k + 1) (pt ||| (nI (t / 2 ^ r % 2) <<< (nI k &&& 31))) t) st else st) = _
  rw [hd]
  by_cases c : R (10 * l + sn k) = -1 ∨ R (10 * l + sn k) = nI v
  · rw [decide_eq_true c, Bool.true_and, if_pos c]
  · rw [decide_eq_false c, Bool.false_and, if_neg c, if_neg (by decide)]
theorem foS_rng (gn : Nat → Int32) (sn : Nat → Nat) : ∀ (r k : Nat) (R : Nat → Int32) (l : Nat) (g pt : Int32) (st : Int32 × Int32 × Int32) (B : Nat), foS gn sn r k R l g pt st = rng (stp gn sn r k R l g pt) (2 ^ r) (2 ^ r * B) st
  | 0, k, R, l, g, pt, st, B => rfl
  | r + 1, k, R, l, g, pt, st, B => by
    have hp : 0 < 2 ^ r := Nat.two_pow_pos r
    have d0 : ∀ i, i < 2 ^ r → (2 ^ r * (2 * B) + i) / 2 ^ r % 2 = 0 := fun i hi => by
      rw [Nat.mul_add_div hp, Nat.div_eq_of_lt hi]; omega
    have d1 : ∀ i, i < 2 ^ r → (2 ^ r * (2 * B + 1) + i) / 2 ^ r % 2 = 1 := fun i hi => by
      rw [Nat.mul_add_div hp, Nat.div_eq_of_lt hi]; omega
    have e0 : ∀ s, rng (stp gn sn (r + 1) k R l g pt) (2 ^ r) (2 ^ r * (2 * B)) s = if R (10 * l + sn k) = -1 ∨ R (10 * l + sn k) = nI 0 then foS gn sn r (k + 1) (upR R (10 * l + sn k) (nI 0)) 0 (g + gn (2 * k + 0)) (pt ||| (nI 0 <<< (nI k &&& 31))) s else s := by
      intro s
      by_cases c : R (10 * l + sn k) = -1 ∨ R (10 * l + sn k) = nI 0
      · rw [if_pos c, foS_rng gn sn r (k + 1) _ _ _ _ s (2 * B)]
        exact rng_congr _ _ _ (fun i hi => by rw [stp_hi gn sn r k R l g pt (d0 i hi)]; funext st; rw [if_pos c])
      · rw [if_neg c]
        exact Eq.trans (rng_congr (g := fun _ s => s) _ _ _ (fun i hi => by rw [stp_hi gn sn r k R l g pt (d0 i hi)]; funext st; rw [if_neg c])) (rng_id _ _ _)
    have e1 : ∀ s, rng (stp gn sn (r + 1) k R l g pt) (2 ^ r) (2 ^ r * (2 * B + 1)) s = if R (10 * l + sn k) = -1 ∨ R (10 * l + sn k) = nI 1 then foS gn sn r (k + 1) (upR R (10 * l + sn k) (nI 1)) 1 (g + gn (2 * k + 1)) (pt ||| (nI 1 <<< (nI k &&& 31))) s else s := by
      intro s
      by_cases c : R (10 * l + sn k) = -1 ∨ R (10 * l + sn k) = nI 1
      · rw [if_pos c, foS_rng gn sn r (k + 1) _ _ _ _ s (2 * B + 1)]
        exact rng_congr _ _ _ (fun i hi => by rw [stp_hi gn sn r k R l g pt (d1 i hi)]; funext st; rw [if_pos c])
      · rw [if_neg c]
        exact Eq.trans (rng_congr (g := fun _ s => s) _ _ _ (fun i hi => by rw [stp_hi gn sn r k R l g pt (d1 i hi)]; funext st; rw [if_neg c])) (rng_id _ _ _)
    rw [show 2 ^ (r + 1) = 2 ^ r + 2 ^ r by rw [Nat.pow_succ]; omega, rng_add, show (2 ^ r + 2 ^ r) * B = 2 ^ r * (2 * B) by rw [← Nat.two_mul, Nat.mul_right_comm, Nat.mul_comm, Nat.mul_comm 2 B], e0, show 2 ^ r * (2 * B) + 2 ^ r = 2 ^ r * (2 * B + 1) by rw [Nat.mul_add, Nat.mul_one], e1]
    rfl
theorem okS_0 (sn : Nat → Nat) : ∀ (r k : Nat) (R : Nat → Int32) (l : Nat), (∀ i, R i = -1 ∨ R i = 0) → okS sn r k R l 0 = true
  | 0, _, _, _, _ => rfl
  | r + 1, k, R, l, h => by
    show (decide (R (10 * l + sn k) = -1 ∨ R (10 * l + sn k) = nI (0 / 2 ^ r % 2)) && okS sn r (k + 1) (upR R (10 * l + sn k) (nI (0 / 2 ^ r % 2))) (0 / 2 ^ r % 2) 0) = true
    rw [show 0 / 2 ^ r % 2 = 0 by rw [Nat.zero_div], decide_eq_true (show R (10 * l + sn k) = -1 ∨ R (10 * l + sn k) = nI 0 from h _), Bool.true_and]
    refine okS_0 sn r (k + 1) _ _ (fun i => ?_)
    unfold upR
    by_cases c : i = 10 * l + sn k
    · rw [if_pos c]; exact Or.inr rfl
    · rw [if_neg c]; exact h i
theorem pth_all : ∀ n, n < 11 → ∀ t, t < 2 ^ n → ∀ i, i < n → (ptA n 0 0 t >>> (nI i &&& 31)) &&& 1 = (nI t >>> ((nI n - 1) - nI i &&& 31)) &&& 1 := by decide +kernel

/-! PURE: text, the model's scan -/
def sg (k : Nat) : Int32 := if k = 32 then 40 else if k = 33 then 41 else if k = 34 then 59 else mo k
def mt (k v : Nat) (s t : Int32) : Prop := (k < 22 ∧ s = 1 ∧ t = nI k) ∨ ((22 ≤ k ∧ k < 35) ∧ s = 3 ∧ t = sg k) ∨ (k = 35 ∧ s = 2 ∧ ((v ≤ 9999 ∧ t = nI v) ∨ (9999 < v ∧ 9999 < t))) ∨ (k = 36 ∧ (s = 4 ∨ (s = 3 ∧ t = 44))) ∨ (k = 37 ∧ s = 0)
def TM (W : xV) (B : Nat → Nat) (n : Nat) : Prop := n ≤ 300 ∧ W 65 11 = nI n ∧ ∀ i, i < n → B i < 256 ∧ W 68 i = sx (B i)
def nf (W W' : xV) : Prop := ∀ r k, ¬ (r = 65 ∧ 12 ≤ k ∧ k ≤ 15) → W' r k = W r k
theorem nf.tr {V W X : xV} (h1 : nf V W) (h2 : nf W X) : nf V X := fun r k h => (h2 r k h).trans (h1 r k h)
theorem nf_x2 {W : xV} {k : Nat} {v : Int32} (h1 : 12 ≤ k) (h2 : k ≤ 15) : nf W (x2 W 65 k v) := fun r j h => x2_off (by omega)
theorem nf.row {W W' : xV} (h : nf W W') {r : Nat} (hr : r ≠ 65) : W' r = W r := by funext k; exact h r k (fun z => hr z.1)
theorem TM.nf {W W' : xV} {B : Nat → Nat} {n : Nat} (h : TM W B n) (hf : nf W W') : TM W' B n := by
  obtain ⟨h1, h2, h3⟩ := h
  exact ⟨h1, (hf 65 11 (by omega)).trans h2, fun i hi => ⟨(h3 i hi).1, (hf 68 i (by omega)).trans (h3 i hi).2⟩⟩
theorem skip_m {B : Nat → Nat} {n : Nat} : ∀ (r a u : Nat) (W : xV), a + r = n → r < u → TM W B n → W 65 12 = nI a → ∃ W', g_Md_next_0 u W = b_Md_next_52 W' ∧ W' 65 12 = nI (rn isB B r a) ∧ nf W W'
  | 0, a, u + 1, W, h1, h2, h, h3 => by
    have hn := h.1
    refine ⟨W, ?_, h3, fun _ _ _ => rfl⟩
    show b_Md_next_0 _ _ = _
    unfold b_Md_next_0
    rw [h.2.1, h3, if_pos (nI_le (by omega) (by omega))]
  | r + 1, a, u + 1, W, h1, h2, h, h3 => by
    have hn := h.1
    obtain ⟨hb, hw⟩ := h.2.2 a (by omega)
    obtain ⟨-, q1, q2⟩ := b32 (B a) hb
    show ∃ W', b_Md_next_0 _ _ = _ ∧ _
    unfold b_Md_next_0
    rw [h.2.1, h3, if_neg (nI_ge (by omega) (by omega)), if_pos (xI_ok (by omega) (by decide)), cl (by omega), hw, if_pos (xI_ok (by omega) (by decide)), nI_1, show rn isB B (r + 1) a = if isB (B a) = true then rn isB B r (a + 1) else a from rfl]
    obtain ⟨W', k1, k2, k3⟩ := skip_m r (a + 1) u (x2 W 65 12 (nI (a + 1))) (by omega) (by omega) (h.nf (nf_x2 (by decide) (by decide))) (x2_at _ _ _ _)
    have k3' := (nf_x2 (W := W) (k := 12) (v := nI (a + 1)) (by decide) (by decide)).tr k3
    by_cases c2 : isB (B a) = true
    · rw [if_pos c2]
      refine ⟨W', ?_, k2, k3'⟩
      rcases isB_r.mp c2 with z | z
      · rw [if_pos (q1.mpr z)]; exact k1
      · rw [if_neg (fun y => by have := q1.mp y; omega), if_neg (fun y => y (q2.mpr z))]; exact k1
    · rw [if_neg c2]
      have z : ¬ B a = 32 ∧ ¬ B a = 10 := ⟨fun y => c2 (isB_r.mpr (Or.inl y)), fun y => c2 (isB_r.mpr (Or.inr y))⟩
      exact ⟨W, by rw [if_neg (fun y => z.1 (q1.mp y)), if_pos (fun y => z.2 (q2.mp y))], h3, fun _ _ _ => rfl⟩
/-- numbers: what the model has against what the class has -/
def nr (x t : Nat) : Prop := (x ≤ 9999 ∧ t = x) ∨ (x = 10000 ∧ 9999 < t ∧ t ≤ 1000000)
theorem num_m {B : Nat → Nat} {n : Nat} : ∀ (r a x t u : Nat) (W : xV), a + r = n → r < u → TM W B n → W 65 12 = nI a → W 65 15 = nI t → nr x t → ∃ W' t', g_Md_next_232 u W = some W' ∧ W' 65 12 = nI (rn isD B r a) ∧ W' 65 15 = nI t' ∧ nr (nc B (rn isD B r a - a) a x) t' ∧ W' 65 13 = W 65 13 ∧ W' 65 14 = W 65 14 ∧ nf W W'
  | 0, a, x, t, u + 1, W, h1, h2, h, h3, h4, h5 => by
    have hn := h.1
    refine ⟨W, t, ?_, h3, h4, by rw [show rn isD B 0 a - a = 0 from Nat.sub_self a]; exact h5, rfl, rfl, fun _ _ _ => rfl⟩
    show b_Md_next_232 _ _ = _
    unfold b_Md_next_232
    rw [h.2.1, h3, if_pos (nI_le (by omega) (by omega))]
  | r + 1, a, x, t, u + 1, W, h1, h2, h, h3, h4, h5 => by
    have hn := h.1
    obtain ⟨hb, hw⟩ := h.2.2 a (by omega)
    show ∃ W' t', b_Md_next_232 _ _ = _ ∧ _
    unfold b_Md_next_232
    rw [h.2.1, h3, if_neg (nI_ge (by omega) (by omega)), if_pos (xI_ok (by omega) (by decide)), cl (by omega), hw, digM _ hb, if_pos (xI_ok (by omega) (by decide)), h4, show rn isD B (r + 1) a = if isD (B a) = true then rn isD B r (a + 1) else a from rfl]
    by_cases c : isD (B a) = true
    · have hd := isD_r c
      rw [if_neg (show ¬ o1 (isD (B a)) = 0 by rw [c]; decide), if_pos c]
      have hl := rn_le isD B r (a + 1)
      have step : ∀ t1, nr (min 10000 (x * 10 + (B a - 48))) t1 → ∃ W' t', g_Md_next_232 u (x2 (x2 W 65 15 (nI t1)) 65 12 (nI (a + 1))) = some W' ∧ W' 65 12 = nI (rn isD B r (a + 1)) ∧ W' 65 15 = nI t' ∧ nr (nc B (rn isD B r (a + 1) - a) a x) t' ∧ W' 65 13 = W 65 13 ∧ W' 65 14 = W 65 14 ∧ nf W W' := by
        intro t1 ht
        have f0 : nf W (x2 (x2 W 65 15 (nI t1)) 65 12 (nI (a + 1))) := (nf_x2 (by decide) (by decide)).tr (nf_x2 (by decide) (by decide))
        obtain ⟨W', t', k1, k2, k3, k4, k5, k6, k7⟩ := num_m r (a + 1) (min 10000 (x * 10 + (B a - 48))) t1 u _ (by omega) (by omega) (h.nf f0) (x2_at _ _ _ _) (by rw [x2_off (by omega), x2_at]) ht
        refine ⟨W', t', k1, k2, k3, ?_, by rw [k5, x2_off (by omega), x2_off (by omega)], by rw [k6, x2_off (by omega), x2_off (by omega)], f0.tr k7⟩
        rw [show rn isD B r (a + 1) - a = (rn isD B r (a + 1) - (a + 1)) + 1 by omega]
        exact k4
      have e12 : ∀ v, x2 W 65 15 v 65 12 = nI a := fun v => by rw [x2_off (by omega)]; exact h3
      have lb : low (B a) (by omega) = low (B a) (by omega) := rfl
      have eb : sx (B a) = nI (B a) := low (B a) (by omega)
      rw [e12, e12, nI_1]
      rcases h5 with ⟨p1, p2⟩ | ⟨p1, p2, p3⟩
      · subst p2
        rw [if_pos (show nI t ≤ 99999 from nI_le (b := 99999) (by omega) (by decide)), eb, show (10 : Int32) * nI t + nI (B a) - 48 = nI (10 * t + (B a - 48)) by rw [show (10 : Int32) = nI 10 from rfl, pk_mul, nI_add, show (48 : Int32) = nI 48 from rfl, pk_sub (by omega)]; congr 1; omega]
        exact step _ (by
          unfold nr
          by_cases z : t * 10 + (B a - 48) < 10000
          · left; rw [Nat.min_eq_right (by omega)]; omega
          · right; rw [Nat.min_eq_left (by omega)]; omega)
      · by_cases z : t ≤ 99999
        · rw [if_pos (show nI t ≤ 99999 from nI_le (b := 99999) z (by decide)), eb, show (10 : Int32) * nI t + nI (B a) - 48 = nI (10 * t + (B a - 48)) by rw [show (10 : Int32) = nI 10 from rfl, pk_mul, nI_add, show (48 : Int32) = nI 48 from rfl, pk_sub (by omega)]; congr 1; omega]
          exact step _ (by unfold nr; right; rw [Nat.min_eq_left (by omega)]; omega)
        · rw [if_neg (show ¬ nI t ≤ 99999 from nI_ge (a := 99999) (by omega) (by omega))]
          exact step _ (by unfold nr; right; rw [Nat.min_eq_left (by omega)]; omega)
    · have c' : isD (B a) = false := by cases q : isD (B a); rfl; exact absurd q c
      rw [if_pos (show o1 (isD (B a)) = 0 by rw [c']; rfl), if_neg c]
      exact ⟨W, t, rfl, h3, h4, by rw [Nat.sub_self]; exact h5, rfl, rfl, fun _ _ _ => rfl⟩
/-- words: letters as the model counts them -/
def encN : List Nat → Nat
  | [] => 0
  | c :: l => 64 * encN l + (c - 64)
def vld (l : List Nat) : Prop := ∀ c, c ∈ l → 65 ≤ c ∧ c ≤ 122
theorem encN_lt : ∀ l, vld l → encN l < 64 ^ l.length
  | [], _ => by decide
  | c :: l, h => by
    have h1 := encN_lt l (fun c hc => h c (List.mem_cons_of_mem _ hc))
    have h2 := h c List.mem_cons_self
    show 64 * encN l + (c - 64) < 64 ^ (l.length + 1)
    rw [Nat.pow_succ]
    omega
theorem encN_inj : ∀ l m, vld l → vld m → encN l = encN m → l = m
  | [], [], _, _, _ => rfl
  | [], c :: m, _, h, e => by
    have h2 := h c List.mem_cons_self
    have e : 0 = 64 * encN m + (c - 64) := e
    omega
  | c :: l, [], h, _, e => by
    have h2 := h c List.mem_cons_self
    have e : 64 * encN l + (c - 64) = 0 := e
    omega
  | c :: l, d :: m, h, h', e => by
    have h2 := h c List.mem_cons_self
    have h3 := h' d List.mem_cons_self
    have e : 64 * encN l + (c - 64) = 64 * encN m + (d - 64) := e
    rw [encN_inj l m (fun c hc => h c (List.mem_cons_of_mem _ hc)) (fun c hc => h' c (List.mem_cons_of_mem _ hc)) (by omega), show c = d by omega]
def lE (x : Nat) : Int64 := lI (x : Int)
theorem lE_inj {x y : Nat} (hx : x < 2 ^ 60) (hy : y < 2 ^ 60) : lE x = lE y ↔ x = y := by
  constructor
  · intro h
    have h := congrArg Int64.toInt h
    unfold lE lI at h
    rw [Int64.toInt_ofInt_of_le (by omega) (by omega), Int64.toInt_ofInt_of_le (by omega) (by omega)] at h
    omega
  · intro h; rw [h]
theorem enc_60 {l : List Nat} (h : vld l) (hl : l.length ≤ 8) : encN l < 2 ^ 60 := by
  have h1 := encN_lt l h
  have h2 : 64 ^ l.length ≤ 64 ^ 8 := Nat.pow_le_pow_right (by decide) hl
  have h3 : 64 ^ 8 < 2 ^ 60 := by decide
  omega
def mc : List Int64 → Nat → Int64 → Int32
  | [], _, _ => -1
  | c :: cs, k, a => if ¬ lg_cmp a c = 0 then mc cs (k + 1) a else nI k
def mcs : List Int64 := [3815856806836, 9632115, 10361454, 10132389, 36251523180, 13826860, 3058, 138148, 191476, 149625, 214593589143781, 11672820, 13523310, 211705, 39284844901, 885659941, 10115186, 137460, 227700, 10624307, 11967397, 51348921523]
theorem mcs_ok : mcs = WDS.map (fun w => lE (encN w.reverse)) := by decide +kernel
theorem mc_of (a : Int64) : f_Md_wordOf a = mc mcs 0 a := rfl
theorem mc_wx {l : List Nat} (hl : vld l.reverse) (h8 : l.length ≤ 8) : ∀ (ws : List (List Nat)) (k : Nat), (∀ w, w ∈ ws → vld w.reverse ∧ w.length ≤ 8) → k + ws.length ≤ 36 → mc (ws.map (fun w => lE (encN w.reverse))) k (lE (encN l.reverse)) = if wx ws k l = 36 then -1 else nI (wx ws k l)
  | [], k, h, _ => rfl
  | w :: ws, k, h, hk => by
    have hk : k + (ws.length + 1) ≤ 36 := hk
    obtain ⟨g1, g2⟩ := h w List.mem_cons_self
    have ih := mc_wx hl h8 ws (k + 1) (fun w hw => h w (List.mem_cons_of_mem _ hw)) (by omega)
    show (if ¬ lg_cmp (lE (encN l.reverse)) (lE (encN w.reverse)) = 0 then mc (ws.map (fun w => lE (encN w.reverse))) (k + 1) (lE (encN l.reverse)) else nI k) = _
    rw [ih]
    have q := (lg_cmp_eq (lE (encN l.reverse)) (lE (encN w.reverse))).trans (lE_inj (enc_60 hl (by rw [List.length_reverse]; exact h8)) (enc_60 g1 (by rw [List.length_reverse]; exact g2)))
    rw [show wx (w :: ws) k l = if l = w then k else wx ws (k + 1) l from rfl]
    by_cases c : l = w
    · rw [if_neg (fun z => z (q.mpr (by rw [c]))), if_pos c, if_neg (by omega)]
    · rw [if_pos (fun z => c (List.reverse_inj.mp (encN_inj _ _ hl g1 (q.mp z)))), if_neg c]
theorem wds_all : WDS.all (fun w => w.all (fun c => decide (65 ≤ c ∧ c ≤ 122)) && decide (w.length ≤ 8)) = true := by decide +kernel
theorem wds_ok : ∀ w, w ∈ WDS → vld w.reverse ∧ w.length ≤ 8 := by
  intro w hw
  have h := List.all_eq_true.mp wds_all w hw
  rw [Bool.and_eq_true, decide_eq_true_eq] at h
  refine ⟨fun c hc => ?_, h.2⟩
  have := List.all_eq_true.mp h.1 c (List.mem_reverse.mp hc)
  exact of_decide_eq_true this
theorem wx_in : ∀ (ws : List (List Nat)) (k : Nat) (l : List Nat), ¬ wx ws k l = 36 → l ∈ ws
  | [], k, l, h => absurd rfl h
  | w :: ws, k, l, h => by
    unfold wx at h
    by_cases c : l = w
    · rw [c]; exact List.mem_cons_self
    · rw [if_neg c] at h
      exact List.mem_cons_of_mem _ (wx_in ws (k + 1) l h)
theorem let_m {B : Nat → Nat} {n : Nat} : ∀ (r a u : Nat) (rv : List Nat) (v2 : Int64) (W : xV), a + r = n → r < u → rv.length ≤ a → TM W B n → W 65 12 = nI a → (rv.length ≤ 8 → v2 = lE (encN rv)) → ∃ W' v3, g_Md_next_99 u v2 (nI rv.length) W = b_Md_next_173 v3 (nI (rv.length + (rn isL B r a - a))) W' ∧ W' 65 12 = nI (rn isL B r a) ∧ (rv.length + (rn isL B r a - a) ≤ 8 → v3 = lE (encN ((sl B (rn isL B r a - a) a).reverse ++ rv))) ∧ W' 65 13 = W 65 13 ∧ nf W W'
  | 0, a, u + 1, rv, v2, W, h1, h2, h0, h, h3, h4 => by
    have hn := h.1
    have e0 : rn isL B 0 a - a = 0 := Nat.sub_self a
    refine ⟨W, v2, ?_, h3, by rw [e0]; exact h4, rfl, fun _ _ _ => rfl⟩
    show b_Md_next_99 _ _ _ _ = _
    unfold b_Md_next_99
    rw [h.2.1, h3, if_pos (nI_le (by omega) (by omega)), e0, Nat.add_zero]
  | r + 1, a, u + 1, rv, v2, W, h1, h2, h0, h, h3, h4 => by
    have hn := h.1
    obtain ⟨hb, hw⟩ := h.2.2 a (by omega)
    show ∃ W' v3, b_Md_next_99 _ _ _ _ = _ ∧ _
    unfold b_Md_next_99
    rw [h.2.1, h3, if_neg (nI_ge (by omega) (by omega)), if_pos (xI_ok (by omega) (by decide)), cl (by omega), hw, letM _ hb, if_pos (xI_ok (by omega) (by decide)), show rn isL B (r + 1) a = if isL (B a) = true then rn isL B r (a + 1) else a from rfl]
    by_cases c : isL (B a) = true
    · have hd := isL_r c
      have hl := rn_le isL B r (a + 1)
      rw [if_neg (show ¬ o1 (isL (B a)) = 0 by rw [c]; decide), if_pos c]
      have step : ∀ v, ((B a :: rv).length ≤ 8 → v = lE (encN (B a :: rv))) → ∃ W' v3, b_Md_next_156 (g_Md_next_99 u) (nI rv.length) v W = b_Md_next_173 v3 (nI (rv.length + (rn isL B r (a + 1) - a))) W' ∧ W' 65 12 = nI (rn isL B r (a + 1)) ∧ (rv.length + (rn isL B r (a + 1) - a) ≤ 8 → v3 = lE (encN ((sl B (rn isL B r (a + 1) - a) a).reverse ++ rv))) ∧ W' 65 13 = W 65 13 ∧ nf W W' := by
        intro v hv
        have f0 : nf W (x2 W 65 12 (nI (a + 1))) := nf_x2 (by decide) (by decide)
        obtain ⟨W', v3, k1, k2, k3, k4, k5⟩ := let_m r (a + 1) u (B a :: rv) v (x2 W 65 12 (nI (a + 1))) (by omega) (by omega) (by show rv.length + 1 ≤ a + 1; omega) (h.nf f0) (x2_at _ _ _ _) hv
        have el : (B a :: rv).length = rv.length + 1 := rfl
        have ed : rn isL B r (a + 1) - a = (rn isL B r (a + 1) - (a + 1)) + 1 := by omega
        refine ⟨W', v3, ?_, k2, fun hh => ?_, by rw [k4, x2_off (by omega)], f0.tr k5⟩
        · unfold b_Md_next_156
          rw [h3, nI_1, nI_1, ← el, k1, el, ed]
          congr 2; omega
        · rw [el] at k3
          rw [k3 (by omega), ed]
          show _ = lE (encN ((B a :: sl B (rn isL B r (a + 1) - (a + 1)) (a + 1)).reverse ++ rv))
          rw [List.reverse_cons, List.append_assoc]; rfl
      by_cases c9 : 9 ≤ rv.length
      · rw [if_pos (show (9 : Int32) ≤ nI rv.length from nI_le (a := 9) c9 (by omega))]
        exact step v2 (fun z => by have z : rv.length + 1 ≤ 8 := z; omega)
      · rw [if_neg (show ¬ (9 : Int32) ≤ nI rv.length from nI_ge (b := 9) (by omega) (by decide))]
        refine step _ (fun z => ?_)
        have z : rv.length + 1 ≤ 8 := z
        rw [h4 (by omega), low (B a) (by omega), nI_iI, iI_l (by unfold mil; omega)]
        rw [show lE (encN (B a :: rv)) = lI ((64 * encN rv + (B a - 64) : Nat) : Int) from rfl, show lE (encN rv) = lI (encN rv : Int) from rfl, show (64 : Int64) = lI 64 by decide, show lI 64 * lI (encN rv : Int) = lI (64 * (encN rv : Int)) from (Int64.ofInt_mul _ _).symm, show lI (64 * (encN rv : Int)) + lI (B a : Int) = lI (64 * (encN rv : Int) + (B a : Int)) from (Int64.ofInt_add _ _).symm, lI_sub]
        congr 1; omega
    · have c' : isL (B a) = false := by cases q : isL (B a); rfl; exact absurd q c
      rw [if_pos (show o1 (isL (B a)) = 0 by rw [c']; rfl), if_neg c]
      exact ⟨W, v2, by rw [Nat.sub_self, Nat.add_zero], h3, by rw [Nat.sub_self]; exact h4, rfl, fun _ _ _ => rfl⟩
/-- signs -/
def sgA (b : Nat) : Int32 := if ¬ f_Md_in (sx b) 59 62 = 0 then 3 else if ¬ f_Md_in (sx b) 40 45 = 0 then 3 else if sx b = 47 then 3 else if ¬ sx b = 35 then 4 else 3
def tol (b : Nat) (l : Bool) : Int32 := if l = true then (if ¬ sx b = 60 then 301 else 300) else sx b
theorem sgA_ok : ∀ b, b < 256 → ∀ l : Bool, ((isL b = true ∨ isD b = true) ∨ (l = true ∧ ¬ (b = 60 ∨ b = 62))) ∨ ((22 ≤ sgn b l ∧ sgn b l < 35) ∧ sgA b = 3 ∧ tol b l = sg (sgn b l)) ∨ (sgn b l = 36 ∧ (sgA b = 4 ∨ (sgA b = 3 ∧ tol b l = 44))) := by decide +kernel

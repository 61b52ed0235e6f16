/-! PURE: text, small steps of both readers -/
def qk (q : Nat) : Prop := q = 26 ∨ q = 31 ∨ q = 36 ∨ q = 41
theorem qk.law {q : Nat} (h : qk q) : lawB q = true := by rcases h with rfl | rfl | rfl | rfl <;> rfl
theorem qk.r {q : Nat} (h : qk q) : 26 ≤ q ∧ q < 42 := by unfold qk at h; omega
/-- the class's reader stands at token i, with len codes written -/
def CS (B : Nat → Nat) (n N q wc : Nat) (V : xV) (i len : Nat) : Prop := V 46 5 = nI i ∧ V 46 4 = nI q ∧ V 46 6 = nI wc ∧ V q 5 = nI len ∧ V 47 3 = nI N ∧ tkC V B n N
def CFr (q : Nat) (V V' : xV) (len : Nat) : Prop := (∀ r, r ≠ 46 → r ≠ q → r ≠ q + 1 → V' r = V r) ∧ (∀ k, k ≠ 5 → V' 46 k = V 46 k) ∧ (∀ k, k ≠ 5 → V' q k = V q k) ∧ ∀ k, k < len → V' (q + 1) k = V (q + 1) k
def CFx (q : Nat) (V V' : xV) : Prop := (∀ r, r ≠ 46 → r ≠ q → r ≠ q + 1 → V' r = V r) ∧ ∀ k, k ≠ 1 → k ≠ 2 → k ≠ 5 → V' 46 k = V 46 k
def CE (B : Nat → Nat) (n N q wc : Nat) (V V' : xV) (j len : Nat) (C : List Int32) : Prop := CS B n N q wc V' j (len + C.length) ∧ cA V' (q + 1) len C ∧ CFr q V V' len
theorem CFr.tr {q : Nat} {V V1 V2 : xV} {a b : Nat} (h1 : CFr q V V1 a) (h2 : CFr q V1 V2 b) (hab : a ≤ b) : CFr q V V2 a := ⟨fun r r1 r2 r3 => by rw [h2.1 r r1 r2 r3]; exact h1.1 r r1 r2 r3, fun k hk => by rw [h2.2.1 k hk]; exact h1.2.1 k hk, fun k hk => by rw [h2.2.2.1 k hk]; exact h1.2.2.1 k hk, fun k hk => by rw [h2.2.2.2 k (by omega)]; exact h1.2.2.2 k hk⟩
theorem CFr.x {q : Nat} {V V1 V2 : xV} {a : Nat} (h1 : CFr q V V1 a) (h2 : CFx q V1 V2) : CFx q V V2 := ⟨fun r r1 r2 r3 => by rw [h2.1 r r1 r2 r3]; exact h1.1 r r1 r2 r3, fun k k1 k2 k5 => by rw [h2.2 k k1 k2 k5]; exact h1.2.1 k k5⟩
theorem CFr.rf (q : Nat) (V : xV) (a : Nat) : CFr q V V a := ⟨fun _ _ _ _ => rfl, fun _ _ => rfl, fun _ _ => rfl, fun _ _ => rfl⟩
section CP
variable {B : Nat → Nat} {n N q wc : Nat} {V : xV} {i len : Nat}
theorem CE.rf (h : CS B n N q wc V i len) : CE B n N q wc V V i len [] := ⟨h, trivial, CFr.rf q V len⟩
theorem CE.tr {V1 V2 : xV} {j1 j2 : Nat} {C1 C2 : List Int32} (h1 : CE B n N q wc V V1 j1 len C1) (h2 : CE B n N q wc V1 V2 j2 (len + C1.length) C2) : CE B n N q wc V V2 j2 len (C1 ++ C2) := by
  obtain ⟨a1, a2, a3⟩ := h1
  obtain ⟨b1, b2, b3⟩ := h2
  refine ⟨by rw [List.length_append, ← Nat.add_assoc]; exact b1, cA_app.mpr ⟨cA_fr (fun k _ hk => b3.2.2.2 k hk) a2, b2⟩, a3.tr b3 (by omega)⟩
theorem kind_at (h : CS B n N q wc V i len) (hi : i < N) (hN : N ≤ 301) : f_Reader_kind V = some (nI (kdT B n i)) := by
  unfold f_Reader_kind
  rw [h.1, h.2.2.2.2.1, if_neg (nI_pos (by omega)), if_neg (nI_ge hi (by omega)), if_neg (show ¬ (301 : Int32) ≤ nI i from nI_ge (b := 301) (by omega) (by decide)), if_pos (xI_ok (by omega) (by decide)), cl (by omega), (h.2.2.2.2.2 i hi).1]
theorem value_at (h : CS B n N q wc V i len) (hi : i < N) (hN : N ≤ 301) : f_Reader_value V = some (nI (vlT B n i)) := by
  unfold f_Reader_value
  rw [h.1, if_neg (nI_pos (by omega)), if_neg (show ¬ (301 : Int32) ≤ nI i from nI_ge (b := 301) (by omega) (by decide)), if_pos (xI_ok (by omega) (by decide)), cl (by omega), (h.2.2.2.2.2 i hi).2.2]
theorem wrong_at (h : CS B n N q wc V i len) (hi : i < N) (hN : N ≤ 301) (a : Int32) : ∃ V', f_Reader_wrong a V = some (0, V') ∧ V' 46 1 = a ∧ V' 46 2 = nI (plT B n i) ∧ CFx q V V' := by
  have e5 : x2 V 46 1 a 46 5 = nI i := by rw [x2_off (by omega)]; exact h.1
  refine ⟨x2 (x2 V 46 1 a) 46 2 (nI (plT B n i)), ?_, by rw [x2_off (by omega), x2_at], x2_at _ _ _ _, fun r r1 _ _ => by rw [x2_ne r1, x2_ne r1], fun k k1 k2 _ => by rw [x2_off (by omega), x2_off (by omega)]⟩
  unfold f_Reader_wrong
  rw [e5, if_neg (nI_pos (by omega)), if_neg (show ¬ (301 : Int32) ≤ nI i from nI_ge (b := 301) (by omega) (by decide)), if_pos (xI_ok (by omega) (by decide)), cl (by omega), x2_ne (by decide), (h.2.2.2.2.2 i hi).2.1]
theorem tkC.fr {V' : xV} (h : tkC V B n N) (h1 : V' 48 = V 48) (h2 : V' 49 = V 49) (h3 : V' 50 = V 50) : tkC V' B n N := by unfold tkC; rw [h1, h2, h3]; exact h
theorem adv (hq : qk q) (h : CS B n N q wc V i len) : CE B n N q wc V (x2 V 46 5 (V 46 5 + 1)) (i + 1) len [] := by
  have hr := hq.r
  refine ⟨⟨by rw [x2_at, h.1, nI_1], by rw [x2_off (by omega)]; exact h.2.1, by rw [x2_off (by omega)]; exact h.2.2.1, by rw [x2_ne (by omega)]; exact h.2.2.2.1, by rw [x2_ne (by omega)]; exact h.2.2.2.2.1, h.2.2.2.2.2.fr (x2_ne (by omega)) (x2_ne (by omega)) (x2_ne (by omega))⟩, trivial, fun r r1 _ _ => x2_ne r1, fun k hk => x2_off (by omega), fun k hk => by rw [x2_ne (by omega)], fun k hk => by rw [x2_ne (by omega)]⟩
theorem emit_at (hq : qk q) (h : CS B n N q wc V i len) (b : Bool) (hl : b = true → len < 300) (e : Int32) : ∃ V', f_Reader_emitIf (o1 b) e V = some V' ∧ CE B n N q wc V V' i len (if b = true then [e] else []) := by
  have hr := hq.r
  have hw := hq.law
  cases b
  · exact ⟨V, rfl, CE.rf h⟩
  · have hl := hl rfl
    have e1 : (V 46 4).toNatClampNeg = q := by rw [h.2.1, cl (by omega)]
    have e2 : x2 V (q + 1) len e 46 4 = nI q := by rw [x2_ne (by omega)]; exact h.2.1
    have e3 : x2 V (q + 1) len e q 5 = nI len := by rw [x2_ne (by omega)]; exact h.2.2.2.1
    refine ⟨x2 (x2 V (q + 1) len e) q 5 (nI (len + 1)), ?_, ⟨by rw [x2_ne (by omega), x2_ne (by omega)]; exact h.1, by rw [x2_ne (by omega), x2_ne (by omega)]; exact h.2.1, by rw [x2_ne (by omega), x2_ne (by omega)]; exact h.2.2.1, x2_at _ _ _ _, by rw [x2_ne (by omega), x2_ne (by omega)]; exact h.2.2.2.2.1, h.2.2.2.2.2.fr (by rw [x2_ne (by omega), x2_ne (by omega)]) (by rw [x2_ne (by omega), x2_ne (by omega)]) (by rw [x2_ne (by omega), x2_ne (by omega)])⟩, ⟨by rw [x2_ne (by omega), x2_at], trivial⟩, fun r _ r2 r3 => by rw [x2_ne r2, x2_ne r3], fun k hk => by rw [x2_ne (by omega), x2_ne (by omega)], fun k hk => by rw [x2_off (by omega), x2_ne (by omega)], fun k hk => by rw [x2_ne (by omega), x2_off (by omega)]⟩
    unfold f_Reader_emitIf
    rw [if_neg (show ¬ o1 true = 0 by decide), e1, if_pos hw, h.2.2.2.1, if_neg (nI_pos (by omega)), if_pos hw, if_pos hw, if_neg (show ¬ (300 : Int32) ≤ nI len from nI_ge (b := 300) hl (by decide)), if_pos hw, if_pos hw, if_pos (xI_ok hl (by decide)), cl (by omega), e2, cl (by omega), if_pos hw, e3, nI_1]
end CP
/-- the model's reader -/
def oN (V : xV) : Nat → List (Int32 × Int32) → Prop
  | _, [] => True
  | p, c :: l => (V 80 p = c.1 ∧ V 81 p = c.2) ∧ oN V (p + 1) l
theorem oN_app {V : xV} {b : List (Int32 × Int32)} : ∀ {a : List (Int32 × Int32)} {p : Nat}, oN V p (a ++ b) ↔ oN V p a ∧ oN V (p + a.length) b
  | [], p => by show _ ↔ True ∧ oN V (p + 0) b; simp
  | c :: a, p => by
    show (_ ∧ oN V (p + 1) (a ++ b)) ↔ (_ ∧ oN V (p + 1) a) ∧ oN V (p + (a.length + 1)) b
    rw [oN_app, show p + (a.length + 1) = p + 1 + a.length by omega]
    exact ⟨fun ⟨x, y, z⟩ => ⟨⟨x, y⟩, z⟩, fun ⟨⟨x, y⟩, z⟩ => ⟨x, y, z⟩⟩
theorem oN_fr {V V' : xV} : ∀ {l : List (Int32 × Int32)} {p : Nat}, (∀ i, p ≤ i → i < p + l.length → V' 80 i = V 80 i ∧ V' 81 i = V 81 i) → oN V p l → oN V' p l
  | [], _, _, _ => trivial
  | c :: l, p, h, hh => by
    have h0 := h p (Nat.le_refl _) (by show p < p + (l.length + 1); omega)
    exact ⟨⟨h0.1.trans hh.1.1, h0.2.trans hh.1.2⟩, oN_fr (fun i h1 h2 => h i (by omega) (by show i < p + (l.length + 1); omega)) hh.2⟩
def MV (B : Nat → Nat) (n wc : Nat) (W : xV) (i st fr o w m : Nat) : Prop := AT B n W i ∧ W 65 16 = 0 ∧ W 65 25 = nI st ∧ W 65 19 = nI fr ∧ W 65 18 = nI o ∧ W 65 22 = nI w ∧ W 65 30 = nI m ∧ W 65 27 = nI wc
def MF (W W' : xV) (fr w m : Nat) : Prop := (∀ r, r ≠ 65 → r ≠ 74 → r ≠ 75 → r ≠ 76 → r ≠ 77 → r ≠ 80 → r ≠ 81 → W' r = W r) ∧ ((∀ k, ¬ (12 ≤ k ∧ k ≤ 19 ∧ k ≠ 17) → k ≠ 22 → k ≠ 25 → k ≠ 30 → W' 65 k = W 65 k) ∧ ∀ k, k ≤ fr → W' 75 k = W 75 k) ∧ (∀ k, k < fr → W' 74 k = W 74 k) ∧ (∀ k, k < w → W' 76 k = W 76 k ∧ W' 77 k = W 77 k) ∧ ∀ k, k < m → W' 80 k = W 80 k ∧ W' 81 k = W 81 k
def MX (W W' : xV) : Prop := (∀ r, r < 65 ∨ (66 ≤ r ∧ r < 74) → W' r = W r) ∧ ∀ k, k < 12 ∨ k = 35 → W' 65 k = W 65 k
def MR (W W' : xV) (fr w m : Nat) (M : List (Int32 × Int32)) : Prop := oN W' m M ∧ MF W W' fr w m
theorem MF.rf (W : xV) (fr w m : Nat) : MF W W fr w m := ⟨fun _ _ _ _ _ _ _ _ => rfl, ⟨fun _ _ _ _ _ => rfl, fun _ _ => rfl⟩, fun _ _ => rfl, fun _ _ => ⟨rfl, rfl⟩, fun _ _ => ⟨rfl, rfl⟩⟩
theorem MF.tr {W W1 W2 : xV} {fr w m fr' w' m' : Nat} (h1 : MF W W1 fr w m) (h2 : MF W1 W2 fr' w' m') (ha : fr ≤ fr') (hb : w ≤ w') (hc : m ≤ m') : MF W W2 fr w m := ⟨fun r r1 r2 r3 r4 r5 r6 r7 => by rw [h2.1 r r1 r2 r3 r4 r5 r6 r7]; exact h1.1 r r1 r2 r3 r4 r5 r6 r7, ⟨fun k k1 k2 k3 k4 => by rw [h2.2.1.1 k k1 k2 k3 k4]; exact h1.2.1.1 k k1 k2 k3 k4, fun k hk => by rw [h2.2.1.2 k (by omega)]; exact h1.2.1.2 k hk⟩, fun k hk => by rw [h2.2.2.1 k (by omega)]; exact h1.2.2.1 k hk, fun k hk => by rw [(h2.2.2.2.1 k (by omega)).1, (h2.2.2.2.1 k (by omega)).2]; exact h1.2.2.2.1 k hk, fun k hk => by rw [(h2.2.2.2.2 k (by omega)).1, (h2.2.2.2.2 k (by omega)).2]; exact h1.2.2.2.2 k hk⟩
theorem MF.le {W W' : xV} {fr w m fr' w' m' : Nat} (h : MF W W' fr w m) (ha : fr' ≤ fr) (hb : w' ≤ w) (hc : m' ≤ m) : MF W W' fr' w' m' := ⟨h.1, ⟨h.2.1.1, fun k hk => h.2.1.2 k (by omega)⟩, fun k hk => h.2.2.1 k (by omega), fun k hk => h.2.2.2.1 k (by omega), fun k hk => h.2.2.2.2 k (by omega)⟩
theorem MF.x {W W' : xV} {fr w m : Nat} (h : MF W W' fr w m) : MX W W' := ⟨fun r hr => h.1 r (by omega) (by omega) (by omega) (by omega) (by omega) (by omega) (by omega), fun k hk => h.2.1.1 k (by omega) (by omega) (by omega) (by omega)⟩
theorem MX.tr {W W1 W2 : xV} (h1 : MX W W1) (h2 : MX W1 W2) : MX W W2 := ⟨fun r hr => (h2.1 r hr).trans (h1.1 r hr), fun k hk => (h2.2 k hk).trans (h1.2 k hk)⟩
theorem MR.tr {W W1 W2 : xV} {fr w m fr' w' : Nat} {M1 M2 : List (Int32 × Int32)} (h1 : MR W W1 fr w m M1) (h2 : MR W1 W2 fr' w' (m + M1.length) M2) (ha : fr ≤ fr') (hb : w ≤ w') : MR W W2 fr w m (M1 ++ M2) := ⟨oN_app.mpr ⟨oN_fr (fun k _ hk => h2.2.2.2.2.2 k hk) h1.1, h2.1⟩, h1.2.tr h2.2 ha hb (by omega)⟩
theorem MR.fm {W W1 W2 : xV} {fr w m fr' w' m' : Nat} {M : List (Int32 × Int32)} (h1 : MF W W1 fr w m) (h2 : MR W1 W2 fr' w' m M) (ha : fr ≤ fr') (hb : w ≤ w') : MR W W2 fr w m M := ⟨h2.1, h1.tr h2.2 ha hb (Nat.le_refl _)⟩
theorem MF.nf {W W' : xV} (h : nf W W') (fr w m : Nat) : MF W W' fr w m := ⟨fun r r1 _ _ _ _ _ _ => h.row r1, ⟨fun k k1 _ _ _ => h 65 k (by omega), fun k _ => h 75 k (by omega)⟩, fun k _ => h 74 k (by omega), fun k _ => ⟨h 76 k (by omega), h 77 k (by omega)⟩, fun k _ => ⟨h 80 k (by omega), h 81 k (by omega)⟩⟩
theorem MF.s65 {W : xV} {k : Nat} {v : Int32} (hk : (12 ≤ k ∧ k ≤ 19 ∧ k ≠ 17) ∨ k = 22 ∨ k = 25 ∨ k = 30) (fr w m : Nat) : MF W (x2 W 65 k v) fr w m := ⟨fun r r1 _ _ _ _ _ _ => x2_ne r1, ⟨fun j j1 j2 j3 j4 => x2_off (by omega), fun j _ => by rw [x2_ne (by decide)]⟩, fun j _ => by rw [x2_ne (by decide)], fun j _ => ⟨by rw [x2_ne (by decide)], by rw [x2_ne (by decide)]⟩, fun j _ => ⟨by rw [x2_ne (by decide)], by rw [x2_ne (by decide)]⟩⟩
theorem MF.s74 {W : xV} {fr w m k : Nat} {v : Int32} (hk : fr ≤ k) : MF W (x2 W 74 k v) fr w m := ⟨fun r _ r2 _ _ _ _ _ => x2_ne r2, ⟨fun j _ _ _ _ => by rw [x2_ne (by decide)], fun j _ => by rw [x2_ne (by decide)]⟩, fun j hj => x2_off (by omega), fun j _ => ⟨by rw [x2_ne (by decide)], by rw [x2_ne (by decide)]⟩, fun j _ => ⟨by rw [x2_ne (by decide)], by rw [x2_ne (by decide)]⟩⟩
theorem MF.s75 {W : xV} {fr w m k : Nat} {v : Int32} (hk : fr < k) : MF W (x2 W 75 k v) fr w m := ⟨fun r _ _ r3 _ _ _ _ => x2_ne r3, ⟨fun j _ _ _ _ => by rw [x2_ne (by decide)], fun j hj => x2_off (by omega)⟩, fun j hj => by rw [x2_ne (by decide)], fun j _ => ⟨by rw [x2_ne (by decide)], by rw [x2_ne (by decide)]⟩, fun j _ => ⟨by rw [x2_ne (by decide)], by rw [x2_ne (by decide)]⟩⟩
theorem MF.s76 {W : xV} {fr w m k : Nat} {v : Int32} (hk : w ≤ k) : MF W (x2 W 76 k v) fr w m := ⟨fun r _ _ _ r4 _ _ _ => x2_ne r4, ⟨fun j _ _ _ _ => by rw [x2_ne (by decide)], fun j _ => by rw [x2_ne (by decide)]⟩, fun j hj => by rw [x2_ne (by decide)], fun j hj => ⟨x2_off (by omega), by rw [x2_ne (by decide)]⟩, fun j _ => ⟨by rw [x2_ne (by decide)], by rw [x2_ne (by decide)]⟩⟩
theorem MF.s77 {W : xV} {fr w m k : Nat} {v : Int32} (hk : w ≤ k) : MF W (x2 W 77 k v) fr w m := ⟨fun r _ _ _ _ r5 _ _ => x2_ne r5, ⟨fun j _ _ _ _ => by rw [x2_ne (by decide)], fun j _ => by rw [x2_ne (by decide)]⟩, fun j hj => by rw [x2_ne (by decide)], fun j hj => ⟨by rw [x2_ne (by decide)], x2_off (by omega)⟩, fun j _ => ⟨by rw [x2_ne (by decide)], by rw [x2_ne (by decide)]⟩⟩
theorem AT.fr {B : Nat → Nat} {n i : Nat} {W W' : xV} (h : AT B n W i) (h1 : W' 68 = W 68) (h2 : ∀ k, 11 ≤ k → k ≤ 15 → W' 65 k = W 65 k) : AT B n W' i := by
  obtain ⟨⟨a1, a2, a3⟩, b1, b2, b3⟩ := h
  exact ⟨⟨a1, by rw [h2 11 (by omega) (by omega)]; exact a2, by rw [h1]; exact a3⟩, by rw [h2 12 (by omega) (by omega)]; exact b1, by rw [h2 13 (by omega) (by omega)]; exact b2, by rw [h2 14 (by omega) (by omega), h2 15 (by omega) (by omega)]; exact b3⟩

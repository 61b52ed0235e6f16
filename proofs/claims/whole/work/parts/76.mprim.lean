/-! PURE: text, small steps of the model's reader -/
section MP
variable {B : Nat → Nat} {n N wc : Nat} {W : xV} {i st fr o w m : Nat}
theorem MV.at (h : MV B n wc W i st fr o w m) : AT B n W i := h.1
theorem err_m (h : AT B n W i) (h16 : W 65 16 = 0) (f : Int32) : (f_Md_errs f W) 65 16 = f ∧ (f_Md_errs f W) 65 17 = nI (plT B n i) ∧ MX W (f_Md_errs f W) := by
  unfold f_Md_errs
  rw [if_neg (fun z => z h16)]
  refine ⟨by rw [x2_off (by omega), x2_at], by rw [x2_at, x2_off (by omega)]; exact h.2.2.1, fun r hr => by rw [x2_ne (by omega), x2_ne (by omega)], fun k hk => by rw [x2_off (by omega), x2_off (by omega)]⟩
def eMm (W : xV) (m : Nat) (a v : Int32) : xV := x2 (x2 (x2 W 80 m a) 81 m v) 65 30 (nI (m + 1))
theorem emits_m (hm : W 65 30 = nI m) (h4 : m < 400) (a v : Int32) : f_Md_emits a v W = some (eMm W m a v) := by
  have e1 : x2 W 80 m a 65 30 = nI m := by rw [x2_ne (by decide)]; exact hm
  have e2 : x2 (x2 W 80 m a) 81 m v 65 30 = nI m := by rw [x2_ne (by decide)]; exact e1
  unfold f_Md_emits eMm
  rw [hm, if_pos (xI_ok h4 (by decide)), cl (by omega), e1, if_pos (xI_ok h4 (by decide)), cl (by omega), e2, nI_1]
theorem eMm_R (W : xV) (m : Nat) (a v : Int32) (fr w : Nat) : MR W (eMm W m a v) fr w m [(a, v)] := by
  unfold eMm
  refine ⟨⟨⟨by rw [x2_ne (by decide), x2_ne (by decide), x2_at], by rw [x2_ne (by decide), x2_at]⟩, trivial⟩, fun r r1 _ _ _ _ r5 r6 => by rw [x2_ne r1, x2_ne r6, x2_ne r5], ⟨fun k k1 k2 k3 k4 => by rw [x2_off (by omega), x2_ne (by decide), x2_ne (by decide)], fun k _ => by rw [x2_ne (by decide), x2_ne (by decide), x2_ne (by decide)]⟩, fun k _ => by rw [x2_ne (by decide), x2_ne (by decide), x2_ne (by decide)], fun k _ => ⟨by rw [x2_ne (by decide), x2_ne (by decide), x2_ne (by decide)], by rw [x2_ne (by decide), x2_ne (by decide), x2_ne (by decide)]⟩, fun k hk => ⟨by rw [x2_ne (by decide), x2_ne (by decide), x2_off (by omega)], by rw [x2_ne (by decide), x2_off (by omega), x2_ne (by decide)]⟩⟩
theorem eMm_65 (W : xV) (m : Nat) (a v : Int32) {k : Nat} (hk : k ≠ 30) : eMm W m a v 65 k = W 65 k := by unfold eMm; rw [x2_off (by omega), x2_ne (by decide), x2_ne (by decide)]
theorem eMm_30 (W : xV) (m : Nat) (a v : Int32) : eMm W m a v 65 30 = nI (m + 1) := by unfold eMm; rw [x2_at]
theorem eMm_r (W : xV) (m : Nat) (a v : Int32) {r : Nat} (h1 : r ≠ 65) (h2 : r ≠ 80) (h3 : r ≠ 81) : eMm W m a v r = W r := by unfold eMm; rw [x2_ne h1, x2_ne h3, x2_ne h2]
theorem MV.em (h : MV B n wc W i st fr o w m) (a v : Int32) : MV B n wc (eMm W m a v) i st fr o w (m + 1) := by
  obtain ⟨h1, h2, h3, h4, h5, h6, h7, h8⟩ := h
  exact ⟨h1.fr (eMm_r W m a v (by decide) (by decide) (by decide)) (fun k _ _ => eMm_65 W m a v (by omega)), by rw [eMm_65 W m a v (by omega)]; exact h2, by rw [eMm_65 W m a v (by omega)]; exact h3, by rw [eMm_65 W m a v (by omega)]; exact h4, by rw [eMm_65 W m a v (by omega)]; exact h5, by rw [eMm_65 W m a v (by omega)]; exact h6, eMm_30 W m a v, by rw [eMm_65 W m a v (by omega)]; exact h8⟩
theorem MV.next (hN : tkN B n N) (h : MV B n wc W i st fr o w m) (hi : i + 1 < N) : ∃ W', f_Md_next W = some W' ∧ MV B n wc W' (i + 1) st fr o w m ∧ nf W W' := by
  obtain ⟨h1, h2, h3, h4, h5, h6, h7, h8⟩ := h
  obtain ⟨W', k1, k2, k3⟩ := h1.next hN hi
  exact ⟨W', k1, ⟨k2, by rw [k3 65 16 (by omega)]; exact h2, by rw [k3 65 25 (by omega)]; exact h3, by rw [k3 65 19 (by omega)]; exact h4, by rw [k3 65 18 (by omega)]; exact h5, by rw [k3 65 22 (by omega)]; exact h6, by rw [k3 65 30 (by omega)]; exact h7, by rw [k3 65 27 (by omega)]; exact h8⟩, k3⟩
theorem top_m (h : W 65 19 = nI (fr + 1)) (hf : fr < 40) : f_Md_top W = some (W 74 fr) := by
  unfold f_Md_top
  rw [h, nI_pred, if_pos (xI_ok hf (by decide)), cl (by omega)]
theorem MV.sta (h : MV B n wc W i st fr o w m) (st' : Nat) : MV B n wc (x2 W 65 25 (nI st')) i st' fr o w m := by
  obtain ⟨h1, h2, h3, h4, h5, h6, h7, h8⟩ := h
  exact ⟨h1.fr (x2_ne (by decide)) (fun k _ _ => x2_off (by omega)), by rw [x2_off (by omega)]; exact h2, x2_at _ _ _ _, by rw [x2_off (by omega)]; exact h4, by rw [x2_off (by omega)]; exact h5, by rw [x2_off (by omega)]; exact h6, by rw [x2_off (by omega)]; exact h7, by rw [x2_off (by omega)]; exact h8⟩
theorem MV.fo (h : MV B n wc W i st fr o w m) (fr' o' : Nat) : MV B n wc (x2 (x2 W 65 19 (nI fr')) 65 18 (nI o')) i st fr' o' w m := by
  obtain ⟨h1, h2, h3, h4, h5, h6, h7, h8⟩ := h
  exact ⟨h1.fr (by rw [x2_ne (by decide), x2_ne (by decide)]) (fun k _ _ => by rw [x2_off (by omega), x2_off (by omega)]), by rw [x2_off (by omega), x2_off (by omega)]; exact h2, by rw [x2_off (by omega), x2_off (by omega)]; exact h3, by rw [x2_off (by omega), x2_at], x2_at _ _ _ _, by rw [x2_off (by omega), x2_off (by omega)]; exact h6, by rw [x2_off (by omega), x2_off (by omega)]; exact h7, by rw [x2_off (by omega), x2_off (by omega)]; exact h8⟩
theorem opens_m (h : MV B n wc W i st fr o w m) (hf : fr < 40) (a : Int32) : ∃ W', f_Md_opensFrame a W = some W' ∧ MV B n wc W' i st (fr + 1) o w m ∧ W' 74 fr = a ∧ MF W W' fr w m := by
  obtain ⟨h1, h2, h3, h4, h5, h6, h7, h8⟩ := h
  refine ⟨x2 (x2 W 74 fr a) 65 19 (nI (fr + 1)), ?_, ⟨h1.fr (by rw [x2_ne (by decide), x2_ne (by decide)]) (fun k _ _ => by rw [x2_off (by omega), x2_ne (by decide)]), by rw [x2_off (by omega), x2_ne (by decide)]; exact h2, by rw [x2_off (by omega), x2_ne (by decide)]; exact h3, x2_at _ _ _ _, by rw [x2_off (by omega), x2_ne (by decide)]; exact h5, by rw [x2_off (by omega), x2_ne (by decide)]; exact h6, by rw [x2_off (by omega), x2_ne (by decide)]; exact h7, by rw [x2_off (by omega), x2_ne (by decide)]; exact h8⟩, by rw [x2_ne (by decide), x2_at], (MF.s74 (Nat.le_refl _)).tr (MF.s65 (by omega) fr w m) (Nat.le_refl _) (Nat.le_refl _) (Nat.le_refl _)⟩
  unfold f_Md_opensFrame
  rw [h4, if_pos (xI_ok hf (by decide)), cl (by omega), x2_ne (by decide), h4, nI_1]
theorem sign_8 (h : MV B n wc W i st fr 8 w m) (a : Int32) : ∃ W' r, f_Md_opensSign a W = some (r, W') ∧ W' 65 16 = nI 3 ∧ W' 65 17 = nI (plT B n i) ∧ MX W W' := by
  obtain ⟨e1, e2, e3⟩ := err_m h.1 h.2.1 3
  refine ⟨_, 0, ?_, e1, e2, e3⟩
  unfold f_Md_opensSign
  rw [h.2.2.2.2.1, if_neg (fun z => z (by decide))]
theorem sign_m (hN : tkN B n N) (h : MV B n wc W i st fr o w m) (ho : o < 8) (hf : fr < 40) (hi : i + 1 < N) (a : Int32) : ∃ W', f_Md_opensSign a W = some (1, W') ∧ MV B n wc W' (i + 1) st (fr + 1) (o + 1) w m ∧ W' 74 fr = a ∧ MF W W' fr w m := by
  have h' : MV B n wc (x2 W 65 18 (nI (o + 1))) i st fr (o + 1) w m := by
    obtain ⟨h1, h2, h3, h4, h5, h6, h7, h8⟩ := h
    exact ⟨h1.fr (x2_ne (by decide)) (fun k _ _ => x2_off (by omega)), by rw [x2_off (by omega)]; exact h2, by rw [x2_off (by omega)]; exact h3, by rw [x2_off (by omega)]; exact h4, x2_at _ _ _ _, by rw [x2_off (by omega)]; exact h6, by rw [x2_off (by omega)]; exact h7, by rw [x2_off (by omega)]; exact h8⟩
  obtain ⟨W1, a1, a2, a3, a4⟩ := opens_m h' hf a
  obtain ⟨W2, b1, b2, b3⟩ := a2.next hN hi
  refine ⟨W2, ?_, b2, by rw [b3 74 fr (by omega)]; exact a3, (MF.s65 (by omega) fr w m).tr (a4.tr (MF.nf b3 fr w m) (Nat.le_refl _) (Nat.le_refl _) (Nat.le_refl _)) (Nat.le_refl _) (Nat.le_refl _) (Nat.le_refl _)⟩
  unfold f_Md_opensSign
  rw [h.2.2.2.2.1, if_pos (fun z => by have := nI_small (b := 8) (by omega) (by decide) z; omega), nI_1, a1, Option.bind_some, b1, Option.bind_some]
end MP

/-! PURE: by, end, fault, folk -/
theorem pm.set3 {V : xV} {m : Nat} {S : Nat → Nat} (h : pm V m S) (v : Nat) : pm (x2 V m 3 (nI v - 1)) m (su S 3 v) := by
  refine ⟨by rw [x2_at, su_at], fun j hj h3 => ?_⟩
  rw [x2_off (by omega), su_ne h3]; exact h.2 j hj h3
theorem nI_sub1 {t : Nat} (h : t < 2 ^ 30) : (nI t - 1).toInt = (t : Int) - 1 := pk_sub_toInt h (b := 1) (by decide)
theorem op_by {LW : xV → Nat → Prop} (hF : lwF LW) : P_by (Inv LW) := by
  intro a V L hI
  obtain ⟨S, K, hh⟩ := id hI
  obtain ⟨⟨r1, r2, r3, r4, r5, r6⟩, a2, ⟨c1, c2, c3, c4, c5, c6⟩, a4, -⟩ := id hh
  have ht : S 2 ≤ 4 := r1.2.2.1
  have key : ∀ v, v ≤ S 2 → a = nI v - 1 → Inv LW (x2 (x2 V 1 10 a) 66 3 a) L := by
    intro v hv ha
    have e : ∀ k, k ≠ 3 → su S 3 v k = S k := fun k hk => su_ne hk
    refine Inv.roll hF (S' := su S 3 v) hh (fun r _ _ => xoff2 (by omega) (by omega)) ⟨⟨by rw [e 0 (by omega)]; exact r1.1, by rw [e 1 (by omega)]; exact r1.2.1, by rw [e 2 (by omega)]; exact ht, by rw [e 2 (by omega), su_at]; exact hv⟩, r2.fr (fun k _ _ => e k (by omega)), r3.fr (fun k _ _ => e k (by omega)), r4.fr (fun k _ _ => e k (by omega)), r5.fr (fun k _ _ => e k (by omega)), by unfold rT; rw [e 4 (by omega)]; exact r6⟩ ⟨⟨?_, ?_, ?_, ?_⟩, c2.fr (xoff2 (by omega) (by omega)) (xoff2 (by omega) (by omega)) (xoff2 (by omega) (by omega)) (fun k _ _ => e k (by omega)), c3.fr (xoff2 (by omega) (by omega)) (fun k _ _ => e k (by omega)), c4.fr (xoff2 (by omega) (by omega)) (fun k _ _ => e k (by omega)), c5.fr (xoff2 (by omega) (by omega)) (fun k _ _ => e k (by omega)), c6.fr r6 (xoff2 (by omega) (by omega)) ?_ ?_ (e 4 (by omega)) (fun k _ _ => e k (by omega))⟩ (by rw [ha]; exact (a4.fr (x2_ne (by omega))).set3 v) (e 2 (by omega))
    · rw [x2_off (by omega), x2_off (by omega), e 0 (by omega)]; exact c1.1
    · rw [x2_off (by omega), x2_off (by omega), e 1 (by omega)]; exact c1.2.1
    · rw [x2_off (by omega), x2_off (by omega), e 2 (by omega)]; exact c1.2.2.1
    · rw [x2_off (by omega), x2_at, su_at]; exact ha
    · rw [x2_off (by omega), x2_off (by omega)]
    · rw [x2_off (by omega), x2_off (by omega)]
  by_cases h0 : a = -1
  · refine ⟨1, x2 V 1 10 a, x2 (x2 V 1 10 a) 66 3 a, ?_, ?_, key 0 (Nat.zero_le _) (by rw [h0]; decide)⟩
    · unfold f_Ww_by; rw [if_pos h0]
    · unfold f_Md_by; rw [if_pos h0]
  · have e1 : V 1 9 = nI (S 2) := c1.2.2.1
    have e2 : V 66 2 = nI (S 2) := a4.2 2 (by omega) (by omega)
    rcases wi a (nI (S 2)) (nI (S 2) - 1) (S 2) (by omega) rfl (nI_sub1 (by omega)) with ⟨h1, h2⟩ | ⟨j, hj, rfl, h1, h2⟩
    · refine ⟨0, V, V, ?_, ?_, hI⟩
      · unfold f_Ww_by; rw [if_neg h0, e1, h1]; rfl
      · unfold f_Md_by; rw [if_neg h0, e2, h2]; rfl
    · refine ⟨1, x2 V 1 10 (nI j), x2 (x2 V 1 10 (nI j)) 66 3 (nI j), ?_, ?_, key (j + 1) (by omega) (nI_pred j).symm⟩
      · unfold f_Ww_by; rw [if_neg h0, e1, h1]; rfl
      · unfold f_Md_by; rw [if_neg h0, x2_ne (by decide), e2, h2]; rfl
theorem Inv.tape {LW : xV → Nat → Prop} (hF : lwF LW) {V V' : xV} {L L' : xL} (h : Inv LW V L) (hV : ∀ r, r ≠ 17 → r ≠ 18 → r ≠ 65 → r ≠ 68 → V' r = V r) (h4 : ∀ k, k ≠ 3 → V' 65 k = V 65 k) (ht : tp V') : Inv LW V' L' := by
  obtain ⟨S, K, a1, a2, a3, a4, a5, a6, a7, a8, a9, a10, a11⟩ := h
  refine ⟨S, K, a1, a2, a3.fr (fun r _ _ => hV r (by omega) (by omega) (by omega) (by omega)), a4.fr (hV _ (by omega) (by omega) (by omega) (by omega)), a5.fr (fun r _ _ => hV r (by omega) (by omega) (by omega) (by omega)), a6.fr (hV _ (by omega) (by omega) (by omega) (by omega)), a7, ht, a9.fr (fun k _ => by rw [hV _ (by omega) (by omega) (by omega) (by omega)]) (h4 _ (by omega)) (h4 _ (by omega)), a10.fr (by rw [hV _ (by omega) (by omega) (by omega) (by omega)]) (h4 _ (by omega)) (fun r _ _ => hV r (by omega) (by omega) (by omega) (by omega)), hF.1 V V' _ (fun r _ _ => hV r (by omega) (by omega) (by omega) (by omega)) (fun r _ _ => hV r (by omega) (by omega) (by omega) (by omega)) a11⟩
theorem op_end {LW : xV → Nat → Prop} (hF : lwF LW) : P_end (Inv LW) := by
  intro a V L hI
  obtain ⟨S, K, hh⟩ := id hI
  obtain ⟨n, hn, e1, e2, hb⟩ := hh.2.2.2.2.2.2.2.1
  rcases wi a (nI (n + 1)) (nI n) (n + 1) (by omega) rfl (by rw [nI_toInt (by omega)]; omega) with ⟨h1, h2⟩ | ⟨j, hj, rfl, h1, h2⟩
  · refine ⟨-1, V, V, ?_, ?_, hI⟩
    · unfold f_Ww_end
      by_cases g : a < 0
      · rw [if_pos g]
      · rw [if_neg g, if_neg]
        rw [e1]
        unfold f_Ww_within at h1
        rw [if_neg g] at h1
        intro q
        rw [if_neg] at h1
        · exact absurd h1 (by decide)
        · intro q2
          have h5 := Int32.le_iff_toInt_le.mp q2
          have h6 := Int32.le_iff_toInt_le.mp q
          rw [nI_toInt (by omega)] at h5 h6
          omega
    · unfold f_Md_end; rw [e2, h2]; rfl
  · refine ⟨nI j, x2 V 17 1 (nI j), x2 (x2 V 17 1 (nI j)) 65 3 (nI j), ?_, ?_, ?_⟩
    · unfold f_Ww_end; rw [if_neg (nI_pos (by omega)), e1, if_pos (nI_le (by omega) (by omega))]
    · unfold f_Md_end; rw [x2_ne (by decide), e2, h2]; rfl
    · refine hI.tape hF (fun r h1 _ h3 _ => xoff2 h1 h3) (fun k hk => by rw [x2_off (by omega), x2_off (by omega)]) ⟨j, by omega, ?_, ?_, fun i hi => ?_⟩
      · rw [x2_off (by omega), x2_at]
      · rw [x2_at]
      · rw [xoff2 (by omega) (by omega), xoff2 (by omega) (by omega)]; exact hb i (by omega)
theorem op_fault {LW : xV → Nat → Prop} : P_fault (Inv LW) := by
  intro a V L hI
  obtain ⟨S, K, hh⟩ := id hI
  have hf : ft V := hh.2.2.2.2.2.2.2.2.1
  refine ⟨f_Md_fault a V, ?_, rfl, hI⟩
  unfold f_Ww_fault f_Md_fault
  rcases hf with ⟨h1, h2, h3⟩ | ⟨h1, h2, h3⟩
  · rw [h1, h2, h3]
    by_cases q : a = 0 <;> by_cases q1 : a = 1 <;> simp [q, q1]
  · rw [h1, ← h2, ← h3]
    by_cases q : a = 0 <;> by_cases q1 : a = 1 <;> simp [q, q1]

/-! PURE: counts -/
def cw (S : Nat → Nat) : Nat → Nat
  | 0 => 0
  | n + 1 => cw S n + (if S (10 + n) < 5 then 0 else 1)
theorem nI_a0 (n : Nat) : nI n + 0 = nI n := by rw [show (0 : Int32) = nI 0 from rfl, nI_add]; rfl
theorem cw_le (S : Nat → Nat) : ∀ n, cw S n ≤ n
  | 0 => Nat.le_refl _
  | n + 1 => by have := cw_le S n; unfold cw; split <;> omega
theorem lt5 {x : Nat} (h : x < 2 ^ 31) : (nI x < 5) ↔ x < 5 := nI_ltI (b := 5) h (by decide)
theorem wet_c {V : xV} {S : Nat → Nat} (h : pS V 1 S) (hr : rS S) : ∀ (n k f : Nat), k + n = 30 → n < f → g_Rolls_wetDays_4 V f (nI (cw S k)) (nI k) = some (nI (cw S 30))
  | 0, k, f + 1, hk, hf => by
    have e : k = 30 := by omega
    subst e
    show b_Rolls_wetDays_4 _ _ _ _ = _
    unfold b_Rolls_wetDays_4
    rw [if_pos (show (30 : Int32) ≤ nI 30 by decide)]
  | n + 1, k, f + 1, hk, hf => by
    show b_Rolls_wetDays_4 _ _ _ _ = _
    unfold b_Rolls_wetDays_4
    have hs := hr k (by omega)
    have e : V 5 k = nI (S (10 + k)) := h k (by omega)
    rw [if_neg (show ¬ (30 : Int32) ≤ nI k from nI_ge (b := 30) (by omega) (by decide)), if_pos (xI_ok (by omega) (by decide)), cl (by omega), e]
    by_cases q : S (10 + k) < 5
    · rw [if_pos ((lt5 (by omega)).mpr q), nI_1, nI_a0]
      have := wet_c h hr n (k + 1) f (by omega) (by omega)
      unfold cw at this
      rw [if_pos q] at this
      exact this
    · rw [if_neg (fun c => q ((lt5 (by omega)).mp c)), nI_1, nI_1]
      have := wet_c h hr n (k + 1) f (by omega) (by omega)
      unfold cw at this
      rw [if_neg q] at this
      exact this
theorem wet_m {V : xV} {S : Nat → Nat} (h : pm V 66 S) (hr : rS S) : ∀ (n k f : Nat), k + n = 30 → n < f → g_Md_wetDays_4 V f (nI (cw S k)) (nI k) = some (nI (cw S 30))
  | 0, k, f + 1, hk, hf => by
    have e : k = 30 := by omega
    subst e
    show b_Md_wetDays_4 _ _ _ _ = _
    unfold b_Md_wetDays_4
    rw [if_pos (show (30 : Int32) ≤ nI 30 by decide)]
  | n + 1, k, f + 1, hk, hf => by
    show b_Md_wetDays_4 _ _ _ _ = _
    unfold b_Md_wetDays_4
    have hs := hr k (by omega)
    have e : V 66 (10 + k) = nI (S (10 + k)) := h.at (by omega) (by omega)
    rw [if_neg (show ¬ (30 : Int32) ≤ nI k from nI_ge (b := 30) (by omega) (by decide)), show (10 : Int32) + nI k = nI (10 + k) from nI_add 10 k, if_pos (xI_ok (by omega) (by decide)), cl (by omega), e]
    by_cases q : S (10 + k) < 5
    · rw [if_pos ((lt5 (by omega)).mpr q), nI_1, nI_a0]
      have := wet_m h hr n (k + 1) f (by omega) (by omega)
      unfold cw at this
      rw [if_pos q] at this
      exact this
    · rw [if_neg (fun c => q ((lt5 (by omega)).mp c)), nI_1, nI_1]
      have := wet_m h hr n (k + 1) f (by omega) (by omega)
      unfold cw at this
      rw [if_neg q] at this
      exact this
theorem wetDays_c {V : xV} {S : Nat → Nat} (h : pS V 1 S) (hr : rS S) : f_Rolls_wetDays V = some (nI (cw S 30)) := wet_c h hr 30 0 2000 rfl (by decide)
theorem wetDays_m {V : xV} {S : Nat → Nat} (h : pm V 66 S) (hr : rS S) : f_Md_wetDays V = some (nI (cw S 30)) := wet_m h hr 30 0 2000 rfl (by decide)
/-- decrees -/
theorem dec_c {V : xV} {S : Nat → Nat} (h : pD V 1 S) {d p : Nat} (hd : d < 30) (hp : p < 4) : f_Rolls_decreeOf (nI d) (nI p) V = some (nI (S (40 + (4 * d + p)))) := by
  unfold f_Rolls_decreeOf
  rw [cell4, show (120 : Int32) = nI 120 from rfl, within_in (by omega) (by decide), if_neg (by decide), if_pos (xI_ok (by omega) (by decide)), cl (by omega)]
  exact congrArg some (h (4 * d + p) (by omega))
theorem dec_m {V : xV} {S : Nat → Nat} (h : pm V 66 S) {d p : Nat} (hd : d < 30) (hp : p < 4) : f_Md_decreeOf (nI d) (nI p) V = some (nI (S (40 + (4 * d + p)))) := by
  unfold f_Md_decreeOf
  rw [mcell, if_pos (xI_ok (by omega) (by decide)), cl (by omega), h.at (by omega) (by omega)]
def wos (S : Nat → Nat) (d : Nat) : Nat → Nat
  | 0 => 0
  | p + 1 => wos S d p + S (40 + (4 * d + p))
theorem wos_c {V : xV} {S : Nat → Nat} (h : pD V 1 S) {d : Nat} (hd : d < 30) : ∀ (n p f : Nat), p + n = 4 → n < f → g_Rolls_wetDecreesOn_4 V f (nI d) (nI (wos S d p)) (nI p) = some (nI (wos S d 4))
  | 0, p, f + 1, hk, hf => by
    have e : p = 4 := by omega
    subst e
    show b_Rolls_wetDecreesOn_4 _ _ _ _ _ = _
    unfold b_Rolls_wetDecreesOn_4
    rw [if_pos (show (4 : Int32) ≤ nI 4 by decide)]
  | n + 1, p, f + 1, hk, hf => by
    show b_Rolls_wetDecreesOn_4 _ _ _ _ _ = _
    unfold b_Rolls_wetDecreesOn_4
    rw [if_neg (show ¬ (4 : Int32) ≤ nI p from nI_ge (b := 4) (by omega) (by decide)), dec_c h hd (by omega), Option.bind_some, nI_add, nI_1]
    exact wos_c h hd n (p + 1) f (by omega) (by omega)
theorem wetOn_c {V : xV} {S : Nat → Nat} (h : pD V 1 S) {d : Nat} (hd : d < 30) : f_Rolls_wetDecreesOn (nI d) V = some (nI (wos S d 4)) := wos_c h hd 4 0 2000 rfl (by decide)
def cd (S : Nat → Nat) : Nat → Nat
  | 0 => 0
  | n + 1 => cd S n + S (40 + n)
theorem cd_wos (S : Nat → Nat) (d : Nat) : cd S (4 * (d + 1)) = cd S (4 * d) + wos S d 4 := by
  show cd S (4 * d + 1 + 1 + 1 + 1) = _
  simp only [cd, wos]
  rw [show 40 + (4 * d + 1 + 1 + 1) = 40 + (4 * d + 3) by omega, show 40 + (4 * d + 1 + 1) = 40 + (4 * d + 2) by omega, show 4 * d + 0 = 4 * d by omega]
  omega
theorem wd_c {V : xV} {S : Nat → Nat} (h : pD V 1 S) : ∀ (n d f : Nat), d + n = 30 → n < f → g_Rolls_wetDecrees_4 V f (nI (cd S (4 * d))) (nI d) = some (nI (cd S 120))
  | 0, d, f + 1, hk, hf => by
    have e : d = 30 := by omega
    subst e
    show b_Rolls_wetDecrees_4 _ _ _ _ = _
    unfold b_Rolls_wetDecrees_4
    rw [if_pos (show (30 : Int32) ≤ nI 30 by decide)]
  | n + 1, d, f + 1, hk, hf => by
    show b_Rolls_wetDecrees_4 _ _ _ _ = _
    unfold b_Rolls_wetDecrees_4
    rw [if_neg (show ¬ (30 : Int32) ≤ nI d from nI_ge (b := 30) (by omega) (by decide)), wetOn_c h (by omega), Option.bind_some, nI_add, nI_1, ← cd_wos]
    exact wd_c h n (d + 1) f (by omega) (by omega)
theorem wd_m {V : xV} {S : Nat → Nat} (h : pm V 66 S) : ∀ (n k f : Nat), k + n = 120 → n < f → g_Md_wetDecrees_4 V f (nI (cd S k)) (nI k) = some (nI (cd S 120))
  | 0, k, f + 1, hk, hf => by
    have e : k = 120 := by omega
    subst e
    show b_Md_wetDecrees_4 _ _ _ _ = _
    unfold b_Md_wetDecrees_4
    rw [if_pos (show (120 : Int32) ≤ nI 120 by decide)]
  | n + 1, k, f + 1, hk, hf => by
    show b_Md_wetDecrees_4 _ _ _ _ = _
    unfold b_Md_wetDecrees_4
    rw [if_neg (show ¬ (120 : Int32) ≤ nI k from nI_ge (b := 120) (by omega) (by decide)), show (40 : Int32) + nI k = nI (40 + k) from nI_add 40 k, if_pos (xI_ok (by omega) (by decide)), cl (by omega), h.at (by omega) (by omega), nI_add, nI_1]
    exact wd_m h n (k + 1) f (by omega) (by omega)

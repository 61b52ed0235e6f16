/-! THE LAW: its loop over what the pairs of mirrors do (printed by wip/whole/law.py) -/
def M_law : xM := (x, code, 4, ret, 600000, 7302249)
def xbool (v : Int32) : Int32 := if v = 0 then 0 else 1
theorem xbool_ok (v : Int32) : xbool v = 0 ∨ xbool v = 1 := by unfold xbool; split <;> simp
def xZ0 (G0 : xG) (A0 : Array Value) (Z0 : List Frame → Array Value → State → State → Prop) : xG → List Frame → Array Value → State → State → Prop := fun G below args s t => G = G0 ∧ args = A0 → Z0 below A0 s t
section XLaw
variable {G0 : xG} {A0 : Array Value} {M : xM} {R : Room} {Z0 : List Frame → Array Value → State → State → Prop} {sh : xS} {V : xV} {L : xL} {cu su pc : Nat} {ls : List (Nat × Value)} {st : List Value}
theorem x_only (h : ∀ (l : Launch) (p : Program) (e : Env) (s : State) (m : MethodId) (below : List Frame) (meth : Method) (c : Code) (H : Heap) (locs : List Loc) (la : Array Slot), xCx G0 M p s m A0 meth c → s.heap.size + cu ≤ G0.1 + sh.length → xR G0 sh V L H → va_S (xA G0) s.heap H locs → lv_has la M.2.2.1 (xls G0 ls) → W p l e R s m A0 below meth c H locs cu su (xZ0 G0 A0 Z0 G0 below A0 s) (F0 m pc la (st.map (xv G0)))) : X M R (xZ0 G0 A0 Z0) sh V L cu su pc ls st := by
  intro l G p e s m args below meth c H locs la hC hz hR hS hl
  by_cases hG : G = G0 ∧ args = A0
  · obtain ⟨rfl, rfl⟩ := hG
    exact h l p e s m below meth c H locs la hC hz hR hS hl
  · exact fun T hT _ => ⟨T.setTop _, Steps.refl _, fun h => absurd h hG⟩
theorem x_sload {i : Int32} (j : Nat) (hi : i = nI j) (hj : j < G0.2.2.2.2.1 ∧ G0.2.2.2.2.1 ≤ 3072) (hd : decode M.2.1 pc = .ok (.iaload, 1)) (K : X M R (xZ0 G0 A0 Z0) sh V L cu su (pc + 1) ls (.int (G0.2.2.2.2.2 j) :: st)) : X M R (xZ0 G0 A0 Z0) sh V L cu su pc ls (.int i :: .retAddr 0 :: st) := by
  refine x_only fun l p e s m below meth c H locs la hC hz hR hS hl => ?_
  have hk : xK G0 s := hC.2.2.2.2.2.2.2.2
  subst hi
  have h1 := K l G0 p e s m A0 below meth c H locs la hC hz hR hS hl
  refine va_sld hC.1 hC.2.1 hk.2.2.1 (Nat.lt_of_lt_of_le hk.2.2.2.1 hk.2.2.2.2.1) (Nat.not_le.mpr hk.2.2.2.1) hS (vp_in_nI hj.1 (by omega)) hd ?_
  rw [nI_clamp (by omega)]
  exact h1
theorem x_slen (hd : decode M.2.1 pc = .ok (.arraylength, 1)) (K : X M R (xZ0 G0 A0 Z0) sh V L cu su (pc + 1) ls (.int (nI G0.2.2.2.2.1) :: st)) : X M R (xZ0 G0 A0 Z0) sh V L cu su pc ls (.retAddr 0 :: st) := by
  refine x_only fun l p e s m below meth c H locs la hC hz hR hS hl => ?_
  have hk : xK G0 s := hC.2.2.2.2.2.2.2.2
  exact va_slen hC.1 hC.2.1 hk.2.2.1 (Nat.lt_of_lt_of_le hk.2.2.2.1 hk.2.2.2.2.1) (Nat.not_le.mpr hk.2.2.2.1) hS hd (K l G0 p e s m A0 below meth c H locs la hC hz hR hS hl)
theorem x_bool {Z : xG → List Frame → Array Value → State → State → Prop} {v : Int32} {off off2 : Int} (t1 t2 : Nat) (h1 : decode M.2.1 pc = .ok (.ifCond .eq off, 3)) (h2 : decode M.2.1 (pc + 3) = .ok (.iconst 1, 1)) (h3 : decode M.2.1 (pc + 3 + 1) = .ok (.goto off2, 3)) (h4 : decode M.2.1 t1 = .ok (.iconst 0, 1)) (g1 : (pc : Int) + off = (t1 : Int)) (g2 : ((pc + 3 + 1 : Nat) : Int) + off2 = ((t1 + 1 : Nat) : Int) ∧ t2 = t1 + 1) (K : X M R Z sh V L cu su t2 ls (.int (xbool v) :: st)) : X M R Z sh V L cu su pc ls (.int v :: st) := by
  obtain ⟨g2, rfl⟩ := g2
  refine x_if_eq t1 h1 g1 (fun c => ?_) (fun c => ?_)
  · refine x_iconst 0 h4 (by decide) ?_
    rw [show xbool v = 0 from if_pos c] at K
    exact K
  · refine x_iconst 1 h2 (by decide) ?_
    refine x_goto (t1 + 1) h3 g2 ?_
    rw [show xbool v = 1 from if_neg c] at K
    exact K
end XLaw
theorem law_gt {L k : Nat} (hL : L ≤ 3072) (h : L < 6 * k + 6) (hk : k ≤ 512) : nI L - 6 < nI (6 * k) := by
  have e : (6 : Int32) = nI 6 := rfl
  rw [e, Int32.lt_iff_toInt_lt, pk_sub_toInt (by omega) (by omega), nI_toInt (by omega)]
  omega
theorem law_le {L k : Nat} (hL : L ≤ 3072) (hk : k ≤ 512) (h : ¬ nI L - 6 < nI (6 * k)) : 6 * k + 6 ≤ L := by
  rcases Nat.lt_or_ge L (6 * k + 6) with h1 | h1
  · exact absurd (law_gt hL h1 hk) h
  · exact h1
theorem e_Lw_13 : xEV "WarrantWeatherLaw" 13 M_Ww_folk 3 := ⟨⟨xin2 (xch1 1 rfl) rfl, xin2 (xch2 120 rfl) rfl, by decide⟩, xin2 (xch2 117 rfl) rfl, xin2 (xch2 118 rfl) rfl, xin2 (xch2 119 rfl) rfl⟩
theorem e_Lw_17 : xEV "WarrantWeatherLaw" 17 M_Md_folk 3 := ⟨⟨xin2 (xch1 14 rfl) rfl, xin2 (xch5 57 rfl) rfl, by decide⟩, xin2 (xch5 54 rfl) rfl, xin2 (xch5 55 rfl) rfl, xin2 (xch5 56 rfl) rfl⟩
theorem e_Lw_18 : xEV "WarrantWeatherLaw" 18 M_Ww_sky 2 := ⟨⟨xin2 (xch1 1 rfl) rfl, xin2 (xch2 132 rfl) rfl, by decide⟩, xin2 (xch2 129 rfl) rfl, xin2 (xch2 130 rfl) rfl, xin2 (xch2 131 rfl) rfl⟩
theorem e_Lw_22 : xEV "WarrantWeatherLaw" 22 M_Md_sky 2 := ⟨⟨xin2 (xch1 14 rfl) rfl, xin2 (xch5 67 rfl) rfl, by decide⟩, xin2 (xch5 64 rfl) rfl, xin2 (xch5 65 rfl) rfl, xin2 (xch5 66 rfl) rfl⟩
theorem e_Lw_23 : xEV "WarrantWeatherLaw" 23 M_Ww_skies 1 := ⟨⟨xin2 (xch1 1 rfl) rfl, xin2 (xch2 136 rfl) rfl, by decide⟩, xin2 (xch2 133 rfl) rfl, xin2 (xch2 134 rfl) rfl, xin2 (xch2 135 rfl) rfl⟩
theorem e_Lw_27 : xEV "WarrantWeatherLaw" 27 M_Md_skies 1 := ⟨⟨xin2 (xch1 14 rfl) rfl, xin2 (xch5 74 rfl) rfl, by decide⟩, xin2 (xch5 71 rfl) rfl, xin2 (xch5 72 rfl) rfl, xin2 (xch5 73 rfl) rfl⟩
theorem e_Lw_28 : xEV "WarrantWeatherLaw" 28 M_Ww_decree 3 := ⟨⟨xin2 (xch1 1 rfl) rfl, xin2 (xch2 144 rfl) rfl, by decide⟩, xin2 (xch2 141 rfl) rfl, xin2 (xch2 142 rfl) rfl, xin2 (xch2 143 rfl) rfl⟩
theorem e_Lw_32 : xEV "WarrantWeatherLaw" 32 M_Md_decree 3 := ⟨⟨xin2 (xch1 14 rfl) rfl, xin2 (xch5 82 rfl) rfl, by decide⟩, xin2 (xch5 79 rfl) rfl, xin2 (xch5 80 rfl) rfl, xin2 (xch5 81 rfl) rfl⟩
theorem e_Lw_33 : xEV "WarrantWeatherLaw" 33 M_Ww_chance 2 := ⟨⟨xin2 (xch1 1 rfl) rfl, xin2 (xch2 155 rfl) rfl, by decide⟩, xin2 (xch2 152 rfl) rfl, xin2 (xch2 153 rfl) rfl, xin2 (xch2 154 rfl) rfl⟩
theorem e_Lw_36 : xEV "WarrantWeatherLaw" 36 M_Md_chance 2 := ⟨⟨xin2 (xch1 14 rfl) rfl, xin2 (xch5 90 rfl) rfl, by decide⟩, xin2 (xch5 87 rfl) rfl, xin2 (xch5 88 rfl) rfl, xin2 (xch5 89 rfl) rfl⟩
theorem e_Lw_37 : xEV "WarrantWeatherLaw" 37 M_Ww_ruin 1 := ⟨⟨xin2 (xch1 1 rfl) rfl, xin2 (xch2 159 rfl) rfl, by decide⟩, xin2 (xch2 156 rfl) rfl, xin2 (xch2 157 rfl) rfl, xin2 (xch2 158 rfl) rfl⟩
theorem e_Lw_41 : xEV "WarrantWeatherLaw" 41 M_Md_ruin 1 := ⟨⟨xin2 (xch1 14 rfl) rfl, xin2 (xch5 94 rfl) rfl, by decide⟩, xin2 (xch5 91 rfl) rfl, xin2 (xch5 92 rfl) rfl, xin2 (xch5 93 rfl) rfl⟩
theorem e_Lw_42 : xEV "WarrantWeatherLaw" 42 M_Ww_feed 5 := ⟨⟨xin2 (xch1 1 rfl) rfl, xin2 (xch2 163 rfl) rfl, by decide⟩, xin2 (xch2 160 rfl) rfl, xin2 (xch2 161 rfl) rfl, xin2 (xch2 162 rfl) rfl⟩
theorem e_Lw_46 : xEV "WarrantWeatherLaw" 46 M_Md_feed 5 := ⟨⟨xin2 (xch1 14 rfl) rfl, xin2 (xch5 98 rfl) rfl, by decide⟩, xin2 (xch5 95 rfl) rfl, xin2 (xch5 96 rfl) rfl, xin2 (xch5 97 rfl) rfl⟩
theorem e_Lw_47 : xEV "WarrantWeatherLaw" 47 M_Ww_end 1 := ⟨⟨xin2 (xch1 1 rfl) rfl, xin2 (xch2 172 rfl) rfl, by decide⟩, xin2 (xch2 169 rfl) rfl, xin2 (xch2 170 rfl) rfl, xin2 (xch2 171 rfl) rfl⟩
theorem e_Lw_50 : xEV "WarrantWeatherLaw" 50 M_Md_end 1 := ⟨⟨xin2 (xch1 14 rfl) rfl, xin2 (xch5 106 rfl) rfl, by decide⟩, xin2 (xch5 103 rfl) rfl, xin2 (xch5 104 rfl) rfl, xin2 (xch5 105 rfl) rfl⟩
theorem e_Lw_51 : xEV "WarrantWeatherLaw" 51 M_Ww_text 0 := ⟨⟨xin2 (xch1 1 rfl) rfl, xin2 (xch2 176 rfl) rfl, by decide⟩, xin2 (xch2 173 rfl) rfl, xin2 (xch2 174 rfl) rfl, xin2 (xch2 175 rfl) rfl⟩
theorem e_Lw_55 : xEV "WarrantWeatherLaw" 55 M_Md_text 0 := ⟨⟨xin2 (xch1 14 rfl) rfl, xin2 (xch5 110 rfl) rfl, by decide⟩, xin2 (xch5 107 rfl) rfl, xin2 (xch5 108 rfl) rfl, xin2 (xch5 109 rfl) rfl⟩
theorem e_Lw_56 : xEV "WarrantWeatherLaw" 56 M_Ww_fault 1 := ⟨⟨xin2 (xch1 1 rfl) rfl, xin2 (xch3 91 rfl) rfl, by decide⟩, xin2 (xch3 88 rfl) rfl, xin2 (xch3 89 rfl) rfl, xin2 (xch3 90 rfl) rfl⟩
theorem e_Lw_59 : xEV "WarrantWeatherLaw" 59 M_Md_fault 1 := ⟨⟨xin2 (xch1 14 rfl) rfl, xin2 (xch5 225 rfl) rfl, by decide⟩, xin2 (xch5 222 rfl) rfl, xin2 (xch5 223 rfl) rfl, xin2 (xch5 224 rfl) rfl⟩
theorem e_Lw_60 : xEV "WarrantWeatherLaw" 60 M_Ww_by 1 := ⟨⟨xin2 (xch1 1 rfl) rfl, xin2 (xch3 95 rfl) rfl, by decide⟩, xin2 (xch3 92 rfl) rfl, xin2 (xch3 93 rfl) rfl, xin2 (xch3 94 rfl) rfl⟩
theorem e_Lw_63 : xEV "WarrantWeatherLaw" 63 M_Md_by 1 := ⟨⟨xin2 (xch1 14 rfl) rfl, xin2 (xch5 229 rfl) rfl, by decide⟩, xin2 (xch5 226 rfl) rfl, xin2 (xch5 227 rfl) rfl, xin2 (xch5 228 rfl) rfl⟩
theorem e_Lw_64 : xEV "WarrantWeatherLaw" 64 M_Ww_warrant 2 := ⟨⟨xin2 (xch1 1 rfl) rfl, xin2 (xch3 99 rfl) rfl, by decide⟩, xin2 (xch3 96 rfl) rfl, xin2 (xch3 97 rfl) rfl, xin2 (xch3 98 rfl) rfl⟩
theorem e_Lw_68 : xEV "WarrantWeatherLaw" 68 M_Md_warrant 2 := ⟨⟨xin2 (xch1 14 rfl) rfl, xin2 (xch5 233 rfl) rfl, by decide⟩, xin2 (xch5 230 rfl) rfl, xin2 (xch5 231 rfl) rfl, xin2 (xch5 232 rfl) rfl⟩
theorem e_Lw_69 : xEV "WarrantWeatherLaw" 69 M_Ww_letGo 0 := ⟨⟨xin2 (xch1 1 rfl) rfl, xin2 (xch3 168 rfl) rfl, by decide⟩, xin2 (xch3 165 rfl) rfl, xin2 (xch3 166 rfl) rfl, xin2 (xch3 167 rfl) rfl⟩
theorem e_Lw_72 : xEV "WarrantWeatherLaw" 72 M_Md_letGo 0 := ⟨⟨xin2 (xch1 14 rfl) rfl, xin2 (xch6 25 rfl) rfl, by decide⟩, xin2 (xch6 22 rfl) rfl, xin2 (xch6 23 rfl) rfl, xin2 (xch6 24 rfl) rfl⟩
theorem e_Lw_73 : xEV "WarrantWeatherLaw" 73 M_Ww_undo 0 := ⟨⟨xin2 (xch1 1 rfl) rfl, xin2 (xch3 180 rfl) rfl, by decide⟩, xin2 (xch3 177 rfl) rfl, xin2 (xch3 178 rfl) rfl, xin2 (xch3 179 rfl) rfl⟩
theorem e_Lw_76 : xEV "WarrantWeatherLaw" 76 M_Md_undo 0 := ⟨⟨xin2 (xch1 14 rfl) rfl, xin2 (xch6 29 rfl) rfl, by decide⟩, xin2 (xch6 26 rfl) rfl, xin2 (xch6 27 rfl) rfl, xin2 (xch6 28 rfl) rfl⟩
theorem e_Lw_77 : xEV "WarrantWeatherLaw" 77 M_Ww_of 3 := ⟨⟨xin2 (xch1 1 rfl) rfl, xin2 (xch3 188 rfl) rfl, by decide⟩, xin2 (xch3 185 rfl) rfl, xin2 (xch3 186 rfl) rfl, xin2 (xch3 187 rfl) rfl⟩
theorem e_Lw_80 : xEV "WarrantWeatherLaw" 80 M_Md_of 3 := ⟨⟨xin2 (xch1 14 rfl) rfl, xin2 (xch6 33 rfl) rfl, by decide⟩, xin2 (xch6 30 rfl) rfl, xin2 (xch6 31 rfl) rfl, xin2 (xch6 32 rfl) rfl⟩
theorem e_Lw_81 : xEV "WarrantWeatherLaw" 81 M_Ww_on 3 := ⟨⟨xin2 (xch1 1 rfl) rfl, xin2 (xch3 207 rfl) rfl, by decide⟩, xin2 (xch3 204 rfl) rfl, xin2 (xch3 205 rfl) rfl, xin2 (xch3 206 rfl) rfl⟩
theorem e_Lw_84 : xEV "WarrantWeatherLaw" 84 M_Md_on 3 := ⟨⟨xin2 (xch1 14 rfl) rfl, xin2 (xch6 53 rfl) rfl, by decide⟩, xin2 (xch6 50 rfl) rfl, xin2 (xch6 51 rfl) rfl, xin2 (xch6 52 rfl) rfl⟩
theorem e_Lw_85 : xEV "WarrantWeatherLaw" 85 M_Ww_gain 3 := ⟨⟨xin2 (xch1 1 rfl) rfl, xin2 (xch3 232 rfl) rfl, by decide⟩, xin2 (xch3 229 rfl) rfl, xin2 (xch3 230 rfl) rfl, xin2 (xch3 231 rfl) rfl⟩
theorem e_Lw_89 : xEV "WarrantWeatherLaw" 89 M_Md_gain 3 := ⟨⟨xin2 (xch1 14 rfl) rfl, xin2 (xch6 72 rfl) rfl, by decide⟩, xin2 (xch6 69 rfl) rfl, xin2 (xch6 70 rfl) rfl, xin2 (xch6 71 rfl) rfl⟩
theorem e_Lw_90 : xEV "WarrantWeatherLaw" 90 M_Ww_sum 4 := ⟨⟨xin2 (xch1 1 rfl) rfl, xin2 (xch4 2 rfl) rfl, by decide⟩, xin2 (xch3 239 rfl) rfl, xin2 (xch4 0 rfl) rfl, xin2 (xch4 1 rfl) rfl⟩
theorem e_Lw_94 : xEV "WarrantWeatherLaw" 94 M_Md_sum 4 := ⟨⟨xin2 (xch1 14 rfl) rfl, xin2 (xch6 85 rfl) rfl, by decide⟩, xin2 (xch6 82 rfl) rfl, xin2 (xch6 83 rfl) rfl, xin2 (xch6 84 rfl) rfl⟩
theorem e_Lw_95 : xEV "WarrantWeatherLaw" 95 M_Ww_ruined 1 := ⟨⟨xin2 (xch1 1 rfl) rfl, xin2 (xch4 19 rfl) rfl, by decide⟩, xin2 (xch4 16 rfl) rfl, xin2 (xch4 17 rfl) rfl, xin2 (xch4 18 rfl) rfl⟩
theorem e_Lw_98 : xEV "WarrantWeatherLaw" 98 M_Md_ruined 1 := ⟨⟨xin2 (xch1 14 rfl) rfl, xin2 (xch6 98 rfl) rfl, by decide⟩, xin2 (xch6 95 rfl) rfl, xin2 (xch6 96 rfl) rfl, xin2 (xch6 97 rfl) rfl⟩
theorem e_Lw_99 : xEV "WarrantWeatherLaw" 99 M_Ww_led 2 := ⟨⟨xin2 (xch1 1 rfl) rfl, xin2 (xch4 27 rfl) rfl, by decide⟩, xin2 (xch4 24 rfl) rfl, xin2 (xch4 25 rfl) rfl, xin2 (xch4 26 rfl) rfl⟩
theorem e_Lw_102 : xEV "WarrantWeatherLaw" 102 M_Md_led 2 := ⟨⟨xin2 (xch1 14 rfl) rfl, xin2 (xch6 102 rfl) rfl, by decide⟩, xin2 (xch6 99 rfl) rfl, xin2 (xch6 100 rfl) rfl, xin2 (xch6 101 rfl) rfl⟩
theorem e_Lw_103 : xEV "WarrantWeatherLaw" 103 M_Ww_odds 3 := ⟨⟨xin2 (xch1 1 rfl) rfl, xin2 (xch4 35 rfl) rfl, by decide⟩, xin2 (xch4 32 rfl) rfl, xin2 (xch4 33 rfl) rfl, xin2 (xch4 34 rfl) rfl⟩
theorem e_Lw_106 : xEV "WarrantWeatherLaw" 106 M_Md_odds 3 := ⟨⟨xin2 (xch1 14 rfl) rfl, xin2 (xch6 106 rfl) rfl, by decide⟩, xin2 (xch6 103 rfl) rfl, xin2 (xch6 104 rfl) rfl, xin2 (xch6 105 rfl) rfl⟩
theorem e_Lw_107 : xEV "WarrantWeatherLaw" 107 M_Ww_plan 4 := ⟨⟨xin2 (xch1 1 rfl) rfl, xin2 (xch4 46 rfl) rfl, by decide⟩, xin2 (xch4 43 rfl) rfl, xin2 (xch4 44 rfl) rfl, xin2 (xch4 45 rfl) rfl⟩
theorem e_Lw_111 : xEV "WarrantWeatherLaw" 111 M_Md_plan 4 := ⟨⟨xin2 (xch1 14 rfl) rfl, xin2 (xch6 114 rfl) rfl, by decide⟩, xin2 (xch6 111 rfl) rfl, xin2 (xch6 112 rfl) rfl, xin2 (xch6 113 rfl) rfl⟩
theorem e_Lw_112 : xEV "WarrantWeatherLaw" 112 M_Ww_found 2 := ⟨⟨xin2 (xch1 1 rfl) rfl, xin2 (xch4 67 rfl) rfl, by decide⟩, xin2 (xch4 64 rfl) rfl, xin2 (xch4 65 rfl) rfl, xin2 (xch4 66 rfl) rfl⟩
theorem e_Lw_115 : xEV "WarrantWeatherLaw" 115 M_Md_found 2 := ⟨⟨xin2 (xch1 14 rfl) rfl, xin2 (xch6 126 rfl) rfl, by decide⟩, xin2 (xch6 123 rfl) rfl, xin2 (xch6 124 rfl) rfl, xin2 (xch6 125 rfl) rfl⟩
theorem e_Lw_116 : xEV "WarrantWeatherLaw" 116 M_Ww_even 2 := ⟨⟨xin2 (xch1 1 rfl) rfl, xin2 (xch4 77 rfl) rfl, by decide⟩, xin2 (xch4 74 rfl) rfl, xin2 (xch4 75 rfl) rfl, xin2 (xch4 76 rfl) rfl⟩
theorem e_Lw_119 : xEV "WarrantWeatherLaw" 119 M_Md_even 2 := ⟨⟨xin2 (xch1 14 rfl) rfl, xin2 (xch6 134 rfl) rfl, by decide⟩, xin2 (xch6 131 rfl) rfl, xin2 (xch6 132 rfl) rfl, xin2 (xch6 133 rfl) rfl⟩
theorem e_Lw_120 : xEV "WarrantWeatherLaw" 120 M_Ww_flood 1 := ⟨⟨xin2 (xch1 1 rfl) rfl, xin2 (xch4 99 rfl) rfl, by decide⟩, xin2 (xch4 96 rfl) rfl, xin2 (xch4 97 rfl) rfl, xin2 (xch4 98 rfl) rfl⟩
theorem e_Lw_123 : xEV "WarrantWeatherLaw" 123 M_Md_flood 1 := ⟨⟨xin2 (xch1 14 rfl) rfl, xin2 (xch6 142 rfl) rfl, by decide⟩, xin2 (xch6 139 rfl) rfl, xin2 (xch6 140 rfl) rfl, xin2 (xch6 141 rfl) rfl⟩
theorem e_Lw_124 : xEV "WarrantWeatherLaw" 124 M_Ww_reform 1 := ⟨⟨xin2 (xch1 1 rfl) rfl, xin2 (xch4 107 rfl) rfl, by decide⟩, xin2 (xch4 104 rfl) rfl, xin2 (xch4 105 rfl) rfl, xin2 (xch4 106 rfl) rfl⟩
theorem e_Lw_127 : xEV "WarrantWeatherLaw" 127 M_Md_reform 1 := ⟨⟨xin2 (xch1 14 rfl) rfl, xin2 (xch6 146 rfl) rfl, by decide⟩, xin2 (xch6 143 rfl) rfl, xin2 (xch6 144 rfl) rfl, xin2 (xch6 145 rfl) rfl⟩
theorem e_Lw_128 : xEV "WarrantWeatherLaw" 128 M_Ww_sing 2 := ⟨⟨xin2 (xch1 1 rfl) rfl, xin2 (xch4 115 rfl) rfl, by decide⟩, xin2 (xch4 112 rfl) rfl, xin2 (xch4 113 rfl) rfl, xin2 (xch4 114 rfl) rfl⟩
theorem e_Lw_131 : xEV "WarrantWeatherLaw" 131 M_Md_sing 2 := ⟨⟨xin2 (xch1 14 rfl) rfl, xin2 (xch6 150 rfl) rfl, by decide⟩, xin2 (xch6 147 rfl) rfl, xin2 (xch6 148 rfl) rfl, xin2 (xch6 149 rfl) rfl⟩
theorem e_Lw_132 : xEV "WarrantWeatherLaw" 132 M_Ww_heard 2 := ⟨⟨xin2 (xch1 1 rfl) rfl, xin2 (xch4 136 rfl) rfl, by decide⟩, xin2 (xch4 133 rfl) rfl, xin2 (xch4 134 rfl) rfl, xin2 (xch4 135 rfl) rfl⟩
theorem e_Lw_135 : xEV "WarrantWeatherLaw" 135 M_Md_heard 2 := ⟨⟨xin2 (xch1 14 rfl) rfl, xin2 (xch6 168 rfl) rfl, by decide⟩, xin2 (xch6 165 rfl) rfl, xin2 (xch6 166 rfl) rfl, xin2 (xch6 167 rfl) rfl⟩
theorem e_Lw_136 : xEV "WarrantWeatherLaw" 136 M_Ww_image 0 := ⟨⟨xin2 (xch1 1 rfl) rfl, xin2 (xch4 140 rfl) rfl, by decide⟩, xin2 (xch4 137 rfl) rfl, xin2 (xch4 138 rfl) rfl, xin2 (xch4 139 rfl) rfl⟩
theorem e_Lw_139 : xEV "WarrantWeatherLaw" 139 M_Md_image 0 := ⟨⟨xin2 (xch1 14 rfl) rfl, xin2 (xch6 172 rfl) rfl, by decide⟩, xin2 (xch6 169 rfl) rfl, xin2 (xch6 170 rfl) rfl, xin2 (xch6 171 rfl) rfl⟩
theorem e_Lw_140 : xEV "WarrantWeatherLaw" 140 M_Ww_back 0 := ⟨⟨xin2 (xch1 1 rfl) rfl, xin2 (xch4 151 rfl) rfl, by decide⟩, xin2 (xch4 148 rfl) rfl, xin2 (xch4 149 rfl) rfl, xin2 (xch4 150 rfl) rfl⟩
theorem e_Lw_143 : xEV "WarrantWeatherLaw" 143 M_Md_back 0 := ⟨⟨xin2 (xch1 14 rfl) rfl, xin2 (xch6 176 rfl) rfl, by decide⟩, xin2 (xch6 173 rfl) rfl, xin2 (xch6 174 rfl) rfl, xin2 (xch6 175 rfl) rfl⟩
theorem e_Lw_144 : xEV "WarrantWeatherLaw" 144 M_Ww_about 1 := ⟨⟨xin2 (xch1 1 rfl) rfl, xin2 (xch4 155 rfl) rfl, by decide⟩, xin2 (xch4 152 rfl) rfl, xin2 (xch4 153 rfl) rfl, xin2 (xch4 154 rfl) rfl⟩
theorem e_Lw_147 : xEV "WarrantWeatherLaw" 147 M_Md_about 1 := ⟨⟨xin2 (xch1 14 rfl) rfl, xin2 (xch6 180 rfl) rfl, by decide⟩, xin2 (xch6 177 rfl) rfl, xin2 (xch6 178 rfl) rfl, xin2 (xch6 179 rfl) rfl⟩
theorem d_law_0 : decode M_law.2.1 0 = .ok (.new 7, 3) := by decide +kernel
theorem d_law_3 : decode M_law.2.1 3 = .ok (.dup, 1) := by decide +kernel
theorem d_law_4 : decode M_law.2.1 4 = .ok (.invokespecial 9, 3) := by decide +kernel
theorem d_law_7 : decode M_law.2.1 7 = .ok (.astore_n 1, 1) := by decide +kernel
theorem d_law_8 : decode M_law.2.1 8 = .ok (.new 10, 3) := by decide +kernel
theorem d_law_11 : decode M_law.2.1 11 = .ok (.dup, 1) := by decide +kernel
theorem d_law_12 : decode M_law.2.1 12 = .ok (.invokespecial 12, 3) := by decide +kernel
theorem d_law_15 : decode M_law.2.1 15 = .ok (.astore_n 2, 1) := by decide +kernel
theorem d_law_16 : decode M_law.2.1 16 = .ok (.iconst 0, 1) := by decide +kernel
theorem d_law_17 : decode M_law.2.1 17 = .ok (.istore_n 3, 1) := by decide +kernel
theorem d_law_18 : decode M_law.2.1 18 = .ok (.iload_n 3, 1) := by decide +kernel
theorem d_law_19 : decode M_law.2.1 19 = .ok (.aload_n 0, 1) := by decide +kernel
theorem d_law_20 : decode M_law.2.1 20 = .ok (.arraylength, 1) := by decide +kernel
theorem d_law_21 : decode M_law.2.1 21 = .ok (.bipush 6, 2) := by decide +kernel
theorem d_law_23 : decode M_law.2.1 23 = .ok (.isub, 1) := by decide +kernel
theorem d_law_24 : decode M_law.2.1 24 = .ok (.if_icmp .gt 1165, 3) := by decide +kernel
theorem d_law_27 : decode M_law.2.1 27 = .ok (.aload_n 0, 1) := by decide +kernel
theorem d_law_28 : decode M_law.2.1 28 = .ok (.iload_n 3, 1) := by decide +kernel
theorem d_law_29 : decode M_law.2.1 29 = .ok (.iaload, 1) := by decide +kernel
theorem d_law_30 : decode M_law.2.1 30 = .ok (.bipush 31, 2) := by decide +kernel
theorem d_law_32 : decode M_law.2.1 32 = .ok (.iand, 1) := by decide +kernel
theorem d_law_33 : decode M_law.2.1 33 = .ok (.tableswitch 1150 0 30 #[139, 182, 215, 238, 297, 330, 353, 416, 439, 452, 475, 498, 531, 544, 557, 600, 643, 702, 771, 794, 827, 870, 923, 956, 989, 1012, 1035, 1068, 1101, 1114, 1127], 139) := by decide +kernel
theorem d_law_172 : decode M_law.2.1 172 = .ok (.aload_n 1, 1) := by decide +kernel
theorem d_law_173 : decode M_law.2.1 173 = .ok (.aload_n 0, 1) := by decide +kernel
theorem d_law_174 : decode M_law.2.1 174 = .ok (.iload_n 3, 1) := by decide +kernel
theorem d_law_175 : decode M_law.2.1 175 = .ok (.iconst 1, 1) := by decide +kernel
theorem d_law_176 : decode M_law.2.1 176 = .ok (.iadd, 1) := by decide +kernel
theorem d_law_177 : decode M_law.2.1 177 = .ok (.iaload, 1) := by decide +kernel
theorem d_law_178 : decode M_law.2.1 178 = .ok (.aload_n 0, 1) := by decide +kernel
theorem d_law_179 : decode M_law.2.1 179 = .ok (.iload_n 3, 1) := by decide +kernel
theorem d_law_180 : decode M_law.2.1 180 = .ok (.iconst 2, 1) := by decide +kernel
theorem d_law_181 : decode M_law.2.1 181 = .ok (.iadd, 1) := by decide +kernel
theorem d_law_182 : decode M_law.2.1 182 = .ok (.iaload, 1) := by decide +kernel
theorem d_law_183 : decode M_law.2.1 183 = .ok (.aload_n 0, 1) := by decide +kernel
theorem d_law_184 : decode M_law.2.1 184 = .ok (.iload_n 3, 1) := by decide +kernel
theorem d_law_185 : decode M_law.2.1 185 = .ok (.iconst 3, 1) := by decide +kernel
theorem d_law_186 : decode M_law.2.1 186 = .ok (.iadd, 1) := by decide +kernel
theorem d_law_187 : decode M_law.2.1 187 = .ok (.iaload, 1) := by decide +kernel
theorem d_law_188 : decode M_law.2.1 188 = .ok (.invokevirtual 13, 3) := by decide +kernel
theorem d_law_191 : decode M_law.2.1 191 = .ok (.aload_n 2, 1) := by decide +kernel
theorem d_law_192 : decode M_law.2.1 192 = .ok (.aload_n 0, 1) := by decide +kernel
theorem d_law_193 : decode M_law.2.1 193 = .ok (.iload_n 3, 1) := by decide +kernel
theorem d_law_194 : decode M_law.2.1 194 = .ok (.iconst 1, 1) := by decide +kernel
theorem d_law_195 : decode M_law.2.1 195 = .ok (.iadd, 1) := by decide +kernel
theorem d_law_196 : decode M_law.2.1 196 = .ok (.iaload, 1) := by decide +kernel
theorem d_law_197 : decode M_law.2.1 197 = .ok (.aload_n 0, 1) := by decide +kernel
theorem d_law_198 : decode M_law.2.1 198 = .ok (.iload_n 3, 1) := by decide +kernel
theorem d_law_199 : decode M_law.2.1 199 = .ok (.iconst 2, 1) := by decide +kernel
theorem d_law_200 : decode M_law.2.1 200 = .ok (.iadd, 1) := by decide +kernel
theorem d_law_201 : decode M_law.2.1 201 = .ok (.iaload, 1) := by decide +kernel
theorem d_law_202 : decode M_law.2.1 202 = .ok (.aload_n 0, 1) := by decide +kernel
theorem d_law_203 : decode M_law.2.1 203 = .ok (.iload_n 3, 1) := by decide +kernel
theorem d_law_204 : decode M_law.2.1 204 = .ok (.iconst 3, 1) := by decide +kernel
theorem d_law_205 : decode M_law.2.1 205 = .ok (.iadd, 1) := by decide +kernel
theorem d_law_206 : decode M_law.2.1 206 = .ok (.iaload, 1) := by decide +kernel
theorem d_law_207 : decode M_law.2.1 207 = .ok (.invokevirtual 17, 3) := by decide +kernel
theorem d_law_210 : decode M_law.2.1 210 = .ok (.if_icmp .eq 973, 3) := by decide +kernel
theorem d_law_215 : decode M_law.2.1 215 = .ok (.aload_n 1, 1) := by decide +kernel
theorem d_law_216 : decode M_law.2.1 216 = .ok (.aload_n 0, 1) := by decide +kernel
theorem d_law_217 : decode M_law.2.1 217 = .ok (.iload_n 3, 1) := by decide +kernel
theorem d_law_218 : decode M_law.2.1 218 = .ok (.iconst 1, 1) := by decide +kernel
theorem d_law_219 : decode M_law.2.1 219 = .ok (.iadd, 1) := by decide +kernel
theorem d_law_220 : decode M_law.2.1 220 = .ok (.iaload, 1) := by decide +kernel
theorem d_law_221 : decode M_law.2.1 221 = .ok (.aload_n 0, 1) := by decide +kernel
theorem d_law_222 : decode M_law.2.1 222 = .ok (.iload_n 3, 1) := by decide +kernel
theorem d_law_223 : decode M_law.2.1 223 = .ok (.iconst 2, 1) := by decide +kernel
theorem d_law_224 : decode M_law.2.1 224 = .ok (.iadd, 1) := by decide +kernel
theorem d_law_225 : decode M_law.2.1 225 = .ok (.iaload, 1) := by decide +kernel
theorem d_law_226 : decode M_law.2.1 226 = .ok (.invokevirtual 18, 3) := by decide +kernel
theorem d_law_229 : decode M_law.2.1 229 = .ok (.aload_n 2, 1) := by decide +kernel
theorem d_law_230 : decode M_law.2.1 230 = .ok (.aload_n 0, 1) := by decide +kernel
theorem d_law_231 : decode M_law.2.1 231 = .ok (.iload_n 3, 1) := by decide +kernel
theorem d_law_232 : decode M_law.2.1 232 = .ok (.iconst 1, 1) := by decide +kernel
theorem d_law_233 : decode M_law.2.1 233 = .ok (.iadd, 1) := by decide +kernel
theorem d_law_234 : decode M_law.2.1 234 = .ok (.iaload, 1) := by decide +kernel
theorem d_law_235 : decode M_law.2.1 235 = .ok (.aload_n 0, 1) := by decide +kernel
theorem d_law_236 : decode M_law.2.1 236 = .ok (.iload_n 3, 1) := by decide +kernel
theorem d_law_237 : decode M_law.2.1 237 = .ok (.iconst 2, 1) := by decide +kernel
theorem d_law_238 : decode M_law.2.1 238 = .ok (.iadd, 1) := by decide +kernel
theorem d_law_239 : decode M_law.2.1 239 = .ok (.iaload, 1) := by decide +kernel
theorem d_law_240 : decode M_law.2.1 240 = .ok (.invokevirtual 22, 3) := by decide +kernel
theorem d_law_243 : decode M_law.2.1 243 = .ok (.if_icmp .eq 940, 3) := by decide +kernel
theorem d_law_248 : decode M_law.2.1 248 = .ok (.aload_n 1, 1) := by decide +kernel
theorem d_law_249 : decode M_law.2.1 249 = .ok (.aload_n 0, 1) := by decide +kernel
theorem d_law_250 : decode M_law.2.1 250 = .ok (.iload_n 3, 1) := by decide +kernel
theorem d_law_251 : decode M_law.2.1 251 = .ok (.iconst 1, 1) := by decide +kernel
theorem d_law_252 : decode M_law.2.1 252 = .ok (.iadd, 1) := by decide +kernel
theorem d_law_253 : decode M_law.2.1 253 = .ok (.iaload, 1) := by decide +kernel
theorem d_law_254 : decode M_law.2.1 254 = .ok (.invokevirtual 23, 3) := by decide +kernel
theorem d_law_257 : decode M_law.2.1 257 = .ok (.aload_n 2, 1) := by decide +kernel
theorem d_law_258 : decode M_law.2.1 258 = .ok (.aload_n 0, 1) := by decide +kernel
theorem d_law_259 : decode M_law.2.1 259 = .ok (.iload_n 3, 1) := by decide +kernel
theorem d_law_260 : decode M_law.2.1 260 = .ok (.iconst 1, 1) := by decide +kernel
theorem d_law_261 : decode M_law.2.1 261 = .ok (.iadd, 1) := by decide +kernel
theorem d_law_262 : decode M_law.2.1 262 = .ok (.iaload, 1) := by decide +kernel
theorem d_law_263 : decode M_law.2.1 263 = .ok (.invokevirtual 27, 3) := by decide +kernel
theorem d_law_266 : decode M_law.2.1 266 = .ok (.if_icmp .eq 917, 3) := by decide +kernel
theorem d_law_271 : decode M_law.2.1 271 = .ok (.aload_n 1, 1) := by decide +kernel
theorem d_law_272 : decode M_law.2.1 272 = .ok (.aload_n 0, 1) := by decide +kernel
theorem d_law_273 : decode M_law.2.1 273 = .ok (.iload_n 3, 1) := by decide +kernel
theorem d_law_274 : decode M_law.2.1 274 = .ok (.iconst 1, 1) := by decide +kernel
theorem d_law_275 : decode M_law.2.1 275 = .ok (.iadd, 1) := by decide +kernel
theorem d_law_276 : decode M_law.2.1 276 = .ok (.iaload, 1) := by decide +kernel
theorem d_law_277 : decode M_law.2.1 277 = .ok (.aload_n 0, 1) := by decide +kernel
theorem d_law_278 : decode M_law.2.1 278 = .ok (.iload_n 3, 1) := by decide +kernel
theorem d_law_279 : decode M_law.2.1 279 = .ok (.iconst 2, 1) := by decide +kernel
theorem d_law_280 : decode M_law.2.1 280 = .ok (.iadd, 1) := by decide +kernel
theorem d_law_281 : decode M_law.2.1 281 = .ok (.iaload, 1) := by decide +kernel
theorem d_law_282 : decode M_law.2.1 282 = .ok (.aload_n 0, 1) := by decide +kernel
theorem d_law_283 : decode M_law.2.1 283 = .ok (.iload_n 3, 1) := by decide +kernel
theorem d_law_284 : decode M_law.2.1 284 = .ok (.iconst 3, 1) := by decide +kernel
theorem d_law_285 : decode M_law.2.1 285 = .ok (.iadd, 1) := by decide +kernel
theorem d_law_286 : decode M_law.2.1 286 = .ok (.iaload, 1) := by decide +kernel
theorem d_law_287 : decode M_law.2.1 287 = .ok (.ifCond .eq 7, 3) := by decide +kernel
theorem d_law_290 : decode M_law.2.1 290 = .ok (.iconst 1, 1) := by decide +kernel
theorem d_law_291 : decode M_law.2.1 291 = .ok (.goto 4, 3) := by decide +kernel
theorem d_law_294 : decode M_law.2.1 294 = .ok (.iconst 0, 1) := by decide +kernel
theorem d_law_295 : decode M_law.2.1 295 = .ok (.invokevirtual 28, 3) := by decide +kernel
theorem d_law_298 : decode M_law.2.1 298 = .ok (.aload_n 2, 1) := by decide +kernel
theorem d_law_299 : decode M_law.2.1 299 = .ok (.aload_n 0, 1) := by decide +kernel
theorem d_law_300 : decode M_law.2.1 300 = .ok (.iload_n 3, 1) := by decide +kernel
theorem d_law_301 : decode M_law.2.1 301 = .ok (.iconst 1, 1) := by decide +kernel
theorem d_law_302 : decode M_law.2.1 302 = .ok (.iadd, 1) := by decide +kernel
theorem d_law_303 : decode M_law.2.1 303 = .ok (.iaload, 1) := by decide +kernel
theorem d_law_304 : decode M_law.2.1 304 = .ok (.aload_n 0, 1) := by decide +kernel
theorem d_law_305 : decode M_law.2.1 305 = .ok (.iload_n 3, 1) := by decide +kernel
theorem d_law_306 : decode M_law.2.1 306 = .ok (.iconst 2, 1) := by decide +kernel
theorem d_law_307 : decode M_law.2.1 307 = .ok (.iadd, 1) := by decide +kernel
theorem d_law_308 : decode M_law.2.1 308 = .ok (.iaload, 1) := by decide +kernel
theorem d_law_309 : decode M_law.2.1 309 = .ok (.aload_n 0, 1) := by decide +kernel
theorem d_law_310 : decode M_law.2.1 310 = .ok (.iload_n 3, 1) := by decide +kernel
theorem d_law_311 : decode M_law.2.1 311 = .ok (.iconst 3, 1) := by decide +kernel
theorem d_law_312 : decode M_law.2.1 312 = .ok (.iadd, 1) := by decide +kernel
theorem d_law_313 : decode M_law.2.1 313 = .ok (.iaload, 1) := by decide +kernel
theorem d_law_314 : decode M_law.2.1 314 = .ok (.ifCond .eq 7, 3) := by decide +kernel
theorem d_law_317 : decode M_law.2.1 317 = .ok (.iconst 1, 1) := by decide +kernel
theorem d_law_318 : decode M_law.2.1 318 = .ok (.goto 4, 3) := by decide +kernel
theorem d_law_321 : decode M_law.2.1 321 = .ok (.iconst 0, 1) := by decide +kernel
theorem d_law_322 : decode M_law.2.1 322 = .ok (.invokevirtual 32, 3) := by decide +kernel
theorem d_law_325 : decode M_law.2.1 325 = .ok (.if_icmp .eq 858, 3) := by decide +kernel
theorem d_law_330 : decode M_law.2.1 330 = .ok (.aload_n 1, 1) := by decide +kernel
theorem d_law_331 : decode M_law.2.1 331 = .ok (.aload_n 0, 1) := by decide +kernel
theorem d_law_332 : decode M_law.2.1 332 = .ok (.iload_n 3, 1) := by decide +kernel
theorem d_law_333 : decode M_law.2.1 333 = .ok (.iconst 1, 1) := by decide +kernel
theorem d_law_334 : decode M_law.2.1 334 = .ok (.iadd, 1) := by decide +kernel
theorem d_law_335 : decode M_law.2.1 335 = .ok (.iaload, 1) := by decide +kernel
theorem d_law_336 : decode M_law.2.1 336 = .ok (.aload_n 0, 1) := by decide +kernel
theorem d_law_337 : decode M_law.2.1 337 = .ok (.iload_n 3, 1) := by decide +kernel
theorem d_law_338 : decode M_law.2.1 338 = .ok (.iconst 2, 1) := by decide +kernel
theorem d_law_339 : decode M_law.2.1 339 = .ok (.iadd, 1) := by decide +kernel
theorem d_law_340 : decode M_law.2.1 340 = .ok (.iaload, 1) := by decide +kernel
theorem d_law_341 : decode M_law.2.1 341 = .ok (.invokevirtual 33, 3) := by decide +kernel
theorem d_law_344 : decode M_law.2.1 344 = .ok (.aload_n 2, 1) := by decide +kernel
theorem d_law_345 : decode M_law.2.1 345 = .ok (.aload_n 0, 1) := by decide +kernel
theorem d_law_346 : decode M_law.2.1 346 = .ok (.iload_n 3, 1) := by decide +kernel
theorem d_law_347 : decode M_law.2.1 347 = .ok (.iconst 1, 1) := by decide +kernel
theorem d_law_348 : decode M_law.2.1 348 = .ok (.iadd, 1) := by decide +kernel
theorem d_law_349 : decode M_law.2.1 349 = .ok (.iaload, 1) := by decide +kernel
theorem d_law_350 : decode M_law.2.1 350 = .ok (.aload_n 0, 1) := by decide +kernel
theorem d_law_351 : decode M_law.2.1 351 = .ok (.iload_n 3, 1) := by decide +kernel
theorem d_law_352 : decode M_law.2.1 352 = .ok (.iconst 2, 1) := by decide +kernel
theorem d_law_353 : decode M_law.2.1 353 = .ok (.iadd, 1) := by decide +kernel
theorem d_law_354 : decode M_law.2.1 354 = .ok (.iaload, 1) := by decide +kernel
theorem d_law_355 : decode M_law.2.1 355 = .ok (.invokevirtual 36, 3) := by decide +kernel
theorem d_law_358 : decode M_law.2.1 358 = .ok (.if_icmp .eq 825, 3) := by decide +kernel
theorem d_law_363 : decode M_law.2.1 363 = .ok (.aload_n 1, 1) := by decide +kernel
theorem d_law_364 : decode M_law.2.1 364 = .ok (.aload_n 0, 1) := by decide +kernel
theorem d_law_365 : decode M_law.2.1 365 = .ok (.iload_n 3, 1) := by decide +kernel
theorem d_law_366 : decode M_law.2.1 366 = .ok (.iconst 1, 1) := by decide +kernel
theorem d_law_367 : decode M_law.2.1 367 = .ok (.iadd, 1) := by decide +kernel
theorem d_law_368 : decode M_law.2.1 368 = .ok (.iaload, 1) := by decide +kernel
theorem d_law_369 : decode M_law.2.1 369 = .ok (.invokevirtual 37, 3) := by decide +kernel
theorem d_law_372 : decode M_law.2.1 372 = .ok (.aload_n 2, 1) := by decide +kernel
theorem d_law_373 : decode M_law.2.1 373 = .ok (.aload_n 0, 1) := by decide +kernel
theorem d_law_374 : decode M_law.2.1 374 = .ok (.iload_n 3, 1) := by decide +kernel
theorem d_law_375 : decode M_law.2.1 375 = .ok (.iconst 1, 1) := by decide +kernel
theorem d_law_376 : decode M_law.2.1 376 = .ok (.iadd, 1) := by decide +kernel
theorem d_law_377 : decode M_law.2.1 377 = .ok (.iaload, 1) := by decide +kernel
theorem d_law_378 : decode M_law.2.1 378 = .ok (.invokevirtual 41, 3) := by decide +kernel
theorem d_law_381 : decode M_law.2.1 381 = .ok (.if_icmp .eq 802, 3) := by decide +kernel
theorem d_law_386 : decode M_law.2.1 386 = .ok (.aload_n 1, 1) := by decide +kernel
theorem d_law_387 : decode M_law.2.1 387 = .ok (.aload_n 0, 1) := by decide +kernel
theorem d_law_388 : decode M_law.2.1 388 = .ok (.iload_n 3, 1) := by decide +kernel
theorem d_law_389 : decode M_law.2.1 389 = .ok (.iconst 1, 1) := by decide +kernel
theorem d_law_390 : decode M_law.2.1 390 = .ok (.iadd, 1) := by decide +kernel
theorem d_law_391 : decode M_law.2.1 391 = .ok (.iaload, 1) := by decide +kernel
theorem d_law_392 : decode M_law.2.1 392 = .ok (.aload_n 0, 1) := by decide +kernel
theorem d_law_393 : decode M_law.2.1 393 = .ok (.iload_n 3, 1) := by decide +kernel
theorem d_law_394 : decode M_law.2.1 394 = .ok (.iconst 2, 1) := by decide +kernel
theorem d_law_395 : decode M_law.2.1 395 = .ok (.iadd, 1) := by decide +kernel
theorem d_law_396 : decode M_law.2.1 396 = .ok (.iaload, 1) := by decide +kernel
theorem d_law_397 : decode M_law.2.1 397 = .ok (.aload_n 0, 1) := by decide +kernel
theorem d_law_398 : decode M_law.2.1 398 = .ok (.iload_n 3, 1) := by decide +kernel
theorem d_law_399 : decode M_law.2.1 399 = .ok (.iconst 3, 1) := by decide +kernel
theorem d_law_400 : decode M_law.2.1 400 = .ok (.iadd, 1) := by decide +kernel
theorem d_law_401 : decode M_law.2.1 401 = .ok (.iaload, 1) := by decide +kernel
theorem d_law_402 : decode M_law.2.1 402 = .ok (.aload_n 0, 1) := by decide +kernel
theorem d_law_403 : decode M_law.2.1 403 = .ok (.iload_n 3, 1) := by decide +kernel
theorem d_law_404 : decode M_law.2.1 404 = .ok (.iconst 4, 1) := by decide +kernel
theorem d_law_405 : decode M_law.2.1 405 = .ok (.iadd, 1) := by decide +kernel
theorem d_law_406 : decode M_law.2.1 406 = .ok (.iaload, 1) := by decide +kernel
theorem d_law_407 : decode M_law.2.1 407 = .ok (.aload_n 0, 1) := by decide +kernel
theorem d_law_408 : decode M_law.2.1 408 = .ok (.iload_n 3, 1) := by decide +kernel
theorem d_law_409 : decode M_law.2.1 409 = .ok (.iconst 5, 1) := by decide +kernel
theorem d_law_410 : decode M_law.2.1 410 = .ok (.iadd, 1) := by decide +kernel
theorem d_law_411 : decode M_law.2.1 411 = .ok (.iaload, 1) := by decide +kernel
theorem d_law_412 : decode M_law.2.1 412 = .ok (.invokevirtual 42, 3) := by decide +kernel
theorem d_law_415 : decode M_law.2.1 415 = .ok (.aload_n 2, 1) := by decide +kernel
theorem d_law_416 : decode M_law.2.1 416 = .ok (.aload_n 0, 1) := by decide +kernel
theorem d_law_417 : decode M_law.2.1 417 = .ok (.iload_n 3, 1) := by decide +kernel
theorem d_law_418 : decode M_law.2.1 418 = .ok (.iconst 1, 1) := by decide +kernel
theorem d_law_419 : decode M_law.2.1 419 = .ok (.iadd, 1) := by decide +kernel
theorem d_law_420 : decode M_law.2.1 420 = .ok (.iaload, 1) := by decide +kernel
theorem d_law_421 : decode M_law.2.1 421 = .ok (.aload_n 0, 1) := by decide +kernel
theorem d_law_422 : decode M_law.2.1 422 = .ok (.iload_n 3, 1) := by decide +kernel
theorem d_law_423 : decode M_law.2.1 423 = .ok (.iconst 2, 1) := by decide +kernel
theorem d_law_424 : decode M_law.2.1 424 = .ok (.iadd, 1) := by decide +kernel
theorem d_law_425 : decode M_law.2.1 425 = .ok (.iaload, 1) := by decide +kernel
theorem d_law_426 : decode M_law.2.1 426 = .ok (.aload_n 0, 1) := by decide +kernel
theorem d_law_427 : decode M_law.2.1 427 = .ok (.iload_n 3, 1) := by decide +kernel
theorem d_law_428 : decode M_law.2.1 428 = .ok (.iconst 3, 1) := by decide +kernel
theorem d_law_429 : decode M_law.2.1 429 = .ok (.iadd, 1) := by decide +kernel
theorem d_law_430 : decode M_law.2.1 430 = .ok (.iaload, 1) := by decide +kernel
theorem d_law_431 : decode M_law.2.1 431 = .ok (.aload_n 0, 1) := by decide +kernel
theorem d_law_432 : decode M_law.2.1 432 = .ok (.iload_n 3, 1) := by decide +kernel
theorem d_law_433 : decode M_law.2.1 433 = .ok (.iconst 4, 1) := by decide +kernel
theorem d_law_434 : decode M_law.2.1 434 = .ok (.iadd, 1) := by decide +kernel
theorem d_law_435 : decode M_law.2.1 435 = .ok (.iaload, 1) := by decide +kernel
theorem d_law_436 : decode M_law.2.1 436 = .ok (.aload_n 0, 1) := by decide +kernel
theorem d_law_437 : decode M_law.2.1 437 = .ok (.iload_n 3, 1) := by decide +kernel
theorem d_law_438 : decode M_law.2.1 438 = .ok (.iconst 5, 1) := by decide +kernel
theorem d_law_439 : decode M_law.2.1 439 = .ok (.iadd, 1) := by decide +kernel
theorem d_law_440 : decode M_law.2.1 440 = .ok (.iaload, 1) := by decide +kernel
theorem d_law_441 : decode M_law.2.1 441 = .ok (.invokevirtual 46, 3) := by decide +kernel
theorem d_law_444 : decode M_law.2.1 444 = .ok (.if_icmp .eq 739, 3) := by decide +kernel
theorem d_law_449 : decode M_law.2.1 449 = .ok (.aload_n 1, 1) := by decide +kernel
theorem d_law_450 : decode M_law.2.1 450 = .ok (.aload_n 0, 1) := by decide +kernel
theorem d_law_451 : decode M_law.2.1 451 = .ok (.iload_n 3, 1) := by decide +kernel
theorem d_law_452 : decode M_law.2.1 452 = .ok (.iconst 1, 1) := by decide +kernel
theorem d_law_453 : decode M_law.2.1 453 = .ok (.iadd, 1) := by decide +kernel
theorem d_law_454 : decode M_law.2.1 454 = .ok (.iaload, 1) := by decide +kernel
theorem d_law_455 : decode M_law.2.1 455 = .ok (.invokevirtual 47, 3) := by decide +kernel
theorem d_law_458 : decode M_law.2.1 458 = .ok (.aload_n 2, 1) := by decide +kernel
theorem d_law_459 : decode M_law.2.1 459 = .ok (.aload_n 0, 1) := by decide +kernel
theorem d_law_460 : decode M_law.2.1 460 = .ok (.iload_n 3, 1) := by decide +kernel
theorem d_law_461 : decode M_law.2.1 461 = .ok (.iconst 1, 1) := by decide +kernel
theorem d_law_462 : decode M_law.2.1 462 = .ok (.iadd, 1) := by decide +kernel
theorem d_law_463 : decode M_law.2.1 463 = .ok (.iaload, 1) := by decide +kernel
theorem d_law_464 : decode M_law.2.1 464 = .ok (.invokevirtual 50, 3) := by decide +kernel
theorem d_law_467 : decode M_law.2.1 467 = .ok (.if_icmp .eq 716, 3) := by decide +kernel
theorem d_law_472 : decode M_law.2.1 472 = .ok (.aload_n 1, 1) := by decide +kernel
theorem d_law_473 : decode M_law.2.1 473 = .ok (.invokevirtual 51, 3) := by decide +kernel
theorem d_law_476 : decode M_law.2.1 476 = .ok (.aload_n 2, 1) := by decide +kernel
theorem d_law_477 : decode M_law.2.1 477 = .ok (.invokevirtual 55, 3) := by decide +kernel
theorem d_law_480 : decode M_law.2.1 480 = .ok (.if_icmp .eq 703, 3) := by decide +kernel
theorem d_law_485 : decode M_law.2.1 485 = .ok (.aload_n 1, 1) := by decide +kernel
theorem d_law_486 : decode M_law.2.1 486 = .ok (.aload_n 0, 1) := by decide +kernel
theorem d_law_487 : decode M_law.2.1 487 = .ok (.iload_n 3, 1) := by decide +kernel
theorem d_law_488 : decode M_law.2.1 488 = .ok (.iconst 1, 1) := by decide +kernel
theorem d_law_489 : decode M_law.2.1 489 = .ok (.iadd, 1) := by decide +kernel
theorem d_law_490 : decode M_law.2.1 490 = .ok (.iaload, 1) := by decide +kernel
theorem d_law_491 : decode M_law.2.1 491 = .ok (.invokevirtual 56, 3) := by decide +kernel
theorem d_law_494 : decode M_law.2.1 494 = .ok (.aload_n 2, 1) := by decide +kernel
theorem d_law_495 : decode M_law.2.1 495 = .ok (.aload_n 0, 1) := by decide +kernel
theorem d_law_496 : decode M_law.2.1 496 = .ok (.iload_n 3, 1) := by decide +kernel
theorem d_law_497 : decode M_law.2.1 497 = .ok (.iconst 1, 1) := by decide +kernel
theorem d_law_498 : decode M_law.2.1 498 = .ok (.iadd, 1) := by decide +kernel
theorem d_law_499 : decode M_law.2.1 499 = .ok (.iaload, 1) := by decide +kernel
theorem d_law_500 : decode M_law.2.1 500 = .ok (.invokevirtual 59, 3) := by decide +kernel
theorem d_law_503 : decode M_law.2.1 503 = .ok (.if_icmp .eq 680, 3) := by decide +kernel
theorem d_law_508 : decode M_law.2.1 508 = .ok (.aload_n 1, 1) := by decide +kernel
theorem d_law_509 : decode M_law.2.1 509 = .ok (.aload_n 0, 1) := by decide +kernel
theorem d_law_510 : decode M_law.2.1 510 = .ok (.iload_n 3, 1) := by decide +kernel
theorem d_law_511 : decode M_law.2.1 511 = .ok (.iconst 1, 1) := by decide +kernel
theorem d_law_512 : decode M_law.2.1 512 = .ok (.iadd, 1) := by decide +kernel
theorem d_law_513 : decode M_law.2.1 513 = .ok (.iaload, 1) := by decide +kernel
theorem d_law_514 : decode M_law.2.1 514 = .ok (.invokevirtual 60, 3) := by decide +kernel
theorem d_law_517 : decode M_law.2.1 517 = .ok (.aload_n 2, 1) := by decide +kernel
theorem d_law_518 : decode M_law.2.1 518 = .ok (.aload_n 0, 1) := by decide +kernel
theorem d_law_519 : decode M_law.2.1 519 = .ok (.iload_n 3, 1) := by decide +kernel
theorem d_law_520 : decode M_law.2.1 520 = .ok (.iconst 1, 1) := by decide +kernel
theorem d_law_521 : decode M_law.2.1 521 = .ok (.iadd, 1) := by decide +kernel
theorem d_law_522 : decode M_law.2.1 522 = .ok (.iaload, 1) := by decide +kernel
theorem d_law_523 : decode M_law.2.1 523 = .ok (.invokevirtual 63, 3) := by decide +kernel
theorem d_law_526 : decode M_law.2.1 526 = .ok (.if_icmp .eq 657, 3) := by decide +kernel
theorem d_law_531 : decode M_law.2.1 531 = .ok (.aload_n 1, 1) := by decide +kernel
theorem d_law_532 : decode M_law.2.1 532 = .ok (.aload_n 0, 1) := by decide +kernel
theorem d_law_533 : decode M_law.2.1 533 = .ok (.iload_n 3, 1) := by decide +kernel
theorem d_law_534 : decode M_law.2.1 534 = .ok (.iconst 1, 1) := by decide +kernel
theorem d_law_535 : decode M_law.2.1 535 = .ok (.iadd, 1) := by decide +kernel
theorem d_law_536 : decode M_law.2.1 536 = .ok (.iaload, 1) := by decide +kernel
theorem d_law_537 : decode M_law.2.1 537 = .ok (.aload_n 0, 1) := by decide +kernel
theorem d_law_538 : decode M_law.2.1 538 = .ok (.iload_n 3, 1) := by decide +kernel
theorem d_law_539 : decode M_law.2.1 539 = .ok (.iconst 2, 1) := by decide +kernel
theorem d_law_540 : decode M_law.2.1 540 = .ok (.iadd, 1) := by decide +kernel
theorem d_law_541 : decode M_law.2.1 541 = .ok (.iaload, 1) := by decide +kernel
theorem d_law_542 : decode M_law.2.1 542 = .ok (.invokevirtual 64, 3) := by decide +kernel
theorem d_law_545 : decode M_law.2.1 545 = .ok (.aload_n 2, 1) := by decide +kernel
theorem d_law_546 : decode M_law.2.1 546 = .ok (.aload_n 0, 1) := by decide +kernel
theorem d_law_547 : decode M_law.2.1 547 = .ok (.iload_n 3, 1) := by decide +kernel
theorem d_law_548 : decode M_law.2.1 548 = .ok (.iconst 1, 1) := by decide +kernel
theorem d_law_549 : decode M_law.2.1 549 = .ok (.iadd, 1) := by decide +kernel
theorem d_law_550 : decode M_law.2.1 550 = .ok (.iaload, 1) := by decide +kernel
theorem d_law_551 : decode M_law.2.1 551 = .ok (.aload_n 0, 1) := by decide +kernel
theorem d_law_552 : decode M_law.2.1 552 = .ok (.iload_n 3, 1) := by decide +kernel
theorem d_law_553 : decode M_law.2.1 553 = .ok (.iconst 2, 1) := by decide +kernel
theorem d_law_554 : decode M_law.2.1 554 = .ok (.iadd, 1) := by decide +kernel
theorem d_law_555 : decode M_law.2.1 555 = .ok (.iaload, 1) := by decide +kernel
theorem d_law_556 : decode M_law.2.1 556 = .ok (.invokevirtual 68, 3) := by decide +kernel
theorem d_law_559 : decode M_law.2.1 559 = .ok (.if_icmp .eq 624, 3) := by decide +kernel
theorem d_law_564 : decode M_law.2.1 564 = .ok (.aload_n 1, 1) := by decide +kernel
theorem d_law_565 : decode M_law.2.1 565 = .ok (.invokevirtual 69, 3) := by decide +kernel
theorem d_law_568 : decode M_law.2.1 568 = .ok (.aload_n 2, 1) := by decide +kernel
theorem d_law_569 : decode M_law.2.1 569 = .ok (.invokevirtual 72, 3) := by decide +kernel
theorem d_law_572 : decode M_law.2.1 572 = .ok (.if_icmp .eq 611, 3) := by decide +kernel
theorem d_law_577 : decode M_law.2.1 577 = .ok (.aload_n 1, 1) := by decide +kernel
theorem d_law_578 : decode M_law.2.1 578 = .ok (.invokevirtual 73, 3) := by decide +kernel
theorem d_law_581 : decode M_law.2.1 581 = .ok (.aload_n 2, 1) := by decide +kernel
theorem d_law_582 : decode M_law.2.1 582 = .ok (.invokevirtual 76, 3) := by decide +kernel
theorem d_law_585 : decode M_law.2.1 585 = .ok (.if_icmp .eq 598, 3) := by decide +kernel
theorem d_law_590 : decode M_law.2.1 590 = .ok (.aload_n 1, 1) := by decide +kernel
theorem d_law_591 : decode M_law.2.1 591 = .ok (.aload_n 0, 1) := by decide +kernel
theorem d_law_592 : decode M_law.2.1 592 = .ok (.iload_n 3, 1) := by decide +kernel
theorem d_law_593 : decode M_law.2.1 593 = .ok (.iconst 1, 1) := by decide +kernel
theorem d_law_594 : decode M_law.2.1 594 = .ok (.iadd, 1) := by decide +kernel
theorem d_law_595 : decode M_law.2.1 595 = .ok (.iaload, 1) := by decide +kernel
theorem d_law_596 : decode M_law.2.1 596 = .ok (.aload_n 0, 1) := by decide +kernel
theorem d_law_597 : decode M_law.2.1 597 = .ok (.iload_n 3, 1) := by decide +kernel
theorem d_law_598 : decode M_law.2.1 598 = .ok (.iconst 2, 1) := by decide +kernel
theorem d_law_599 : decode M_law.2.1 599 = .ok (.iadd, 1) := by decide +kernel
theorem d_law_600 : decode M_law.2.1 600 = .ok (.iaload, 1) := by decide +kernel
theorem d_law_601 : decode M_law.2.1 601 = .ok (.aload_n 0, 1) := by decide +kernel
theorem d_law_602 : decode M_law.2.1 602 = .ok (.iload_n 3, 1) := by decide +kernel
theorem d_law_603 : decode M_law.2.1 603 = .ok (.iconst 3, 1) := by decide +kernel
theorem d_law_604 : decode M_law.2.1 604 = .ok (.iadd, 1) := by decide +kernel
theorem d_law_605 : decode M_law.2.1 605 = .ok (.iaload, 1) := by decide +kernel
theorem d_law_606 : decode M_law.2.1 606 = .ok (.invokevirtual 77, 3) := by decide +kernel
theorem d_law_609 : decode M_law.2.1 609 = .ok (.aload_n 2, 1) := by decide +kernel
theorem d_law_610 : decode M_law.2.1 610 = .ok (.aload_n 0, 1) := by decide +kernel
theorem d_law_611 : decode M_law.2.1 611 = .ok (.iload_n 3, 1) := by decide +kernel
theorem d_law_612 : decode M_law.2.1 612 = .ok (.iconst 1, 1) := by decide +kernel
theorem d_law_613 : decode M_law.2.1 613 = .ok (.iadd, 1) := by decide +kernel
theorem d_law_614 : decode M_law.2.1 614 = .ok (.iaload, 1) := by decide +kernel
theorem d_law_615 : decode M_law.2.1 615 = .ok (.aload_n 0, 1) := by decide +kernel
theorem d_law_616 : decode M_law.2.1 616 = .ok (.iload_n 3, 1) := by decide +kernel
theorem d_law_617 : decode M_law.2.1 617 = .ok (.iconst 2, 1) := by decide +kernel
theorem d_law_618 : decode M_law.2.1 618 = .ok (.iadd, 1) := by decide +kernel
theorem d_law_619 : decode M_law.2.1 619 = .ok (.iaload, 1) := by decide +kernel
theorem d_law_620 : decode M_law.2.1 620 = .ok (.aload_n 0, 1) := by decide +kernel
theorem d_law_621 : decode M_law.2.1 621 = .ok (.iload_n 3, 1) := by decide +kernel
theorem d_law_622 : decode M_law.2.1 622 = .ok (.iconst 3, 1) := by decide +kernel
theorem d_law_623 : decode M_law.2.1 623 = .ok (.iadd, 1) := by decide +kernel
theorem d_law_624 : decode M_law.2.1 624 = .ok (.iaload, 1) := by decide +kernel
theorem d_law_625 : decode M_law.2.1 625 = .ok (.invokevirtual 80, 3) := by decide +kernel
theorem d_law_628 : decode M_law.2.1 628 = .ok (.if_icmp .eq 555, 3) := by decide +kernel
theorem d_law_633 : decode M_law.2.1 633 = .ok (.aload_n 1, 1) := by decide +kernel
theorem d_law_634 : decode M_law.2.1 634 = .ok (.aload_n 0, 1) := by decide +kernel
theorem d_law_635 : decode M_law.2.1 635 = .ok (.iload_n 3, 1) := by decide +kernel
theorem d_law_636 : decode M_law.2.1 636 = .ok (.iconst 1, 1) := by decide +kernel
theorem d_law_637 : decode M_law.2.1 637 = .ok (.iadd, 1) := by decide +kernel
theorem d_law_638 : decode M_law.2.1 638 = .ok (.iaload, 1) := by decide +kernel
theorem d_law_639 : decode M_law.2.1 639 = .ok (.aload_n 0, 1) := by decide +kernel
theorem d_law_640 : decode M_law.2.1 640 = .ok (.iload_n 3, 1) := by decide +kernel
theorem d_law_641 : decode M_law.2.1 641 = .ok (.iconst 2, 1) := by decide +kernel
theorem d_law_642 : decode M_law.2.1 642 = .ok (.iadd, 1) := by decide +kernel
theorem d_law_643 : decode M_law.2.1 643 = .ok (.iaload, 1) := by decide +kernel
theorem d_law_644 : decode M_law.2.1 644 = .ok (.aload_n 0, 1) := by decide +kernel
theorem d_law_645 : decode M_law.2.1 645 = .ok (.iload_n 3, 1) := by decide +kernel
theorem d_law_646 : decode M_law.2.1 646 = .ok (.iconst 3, 1) := by decide +kernel
theorem d_law_647 : decode M_law.2.1 647 = .ok (.iadd, 1) := by decide +kernel
theorem d_law_648 : decode M_law.2.1 648 = .ok (.iaload, 1) := by decide +kernel
theorem d_law_649 : decode M_law.2.1 649 = .ok (.invokevirtual 81, 3) := by decide +kernel
theorem d_law_652 : decode M_law.2.1 652 = .ok (.aload_n 2, 1) := by decide +kernel
theorem d_law_653 : decode M_law.2.1 653 = .ok (.aload_n 0, 1) := by decide +kernel
theorem d_law_654 : decode M_law.2.1 654 = .ok (.iload_n 3, 1) := by decide +kernel
theorem d_law_655 : decode M_law.2.1 655 = .ok (.iconst 1, 1) := by decide +kernel
theorem d_law_656 : decode M_law.2.1 656 = .ok (.iadd, 1) := by decide +kernel
theorem d_law_657 : decode M_law.2.1 657 = .ok (.iaload, 1) := by decide +kernel
theorem d_law_658 : decode M_law.2.1 658 = .ok (.aload_n 0, 1) := by decide +kernel
theorem d_law_659 : decode M_law.2.1 659 = .ok (.iload_n 3, 1) := by decide +kernel
theorem d_law_660 : decode M_law.2.1 660 = .ok (.iconst 2, 1) := by decide +kernel
theorem d_law_661 : decode M_law.2.1 661 = .ok (.iadd, 1) := by decide +kernel
theorem d_law_662 : decode M_law.2.1 662 = .ok (.iaload, 1) := by decide +kernel
theorem d_law_663 : decode M_law.2.1 663 = .ok (.aload_n 0, 1) := by decide +kernel
theorem d_law_664 : decode M_law.2.1 664 = .ok (.iload_n 3, 1) := by decide +kernel
theorem d_law_665 : decode M_law.2.1 665 = .ok (.iconst 3, 1) := by decide +kernel
theorem d_law_666 : decode M_law.2.1 666 = .ok (.iadd, 1) := by decide +kernel
theorem d_law_667 : decode M_law.2.1 667 = .ok (.iaload, 1) := by decide +kernel
theorem d_law_668 : decode M_law.2.1 668 = .ok (.invokevirtual 84, 3) := by decide +kernel
theorem d_law_671 : decode M_law.2.1 671 = .ok (.if_icmp .eq 512, 3) := by decide +kernel
theorem d_law_676 : decode M_law.2.1 676 = .ok (.aload_n 1, 1) := by decide +kernel
theorem d_law_677 : decode M_law.2.1 677 = .ok (.aload_n 0, 1) := by decide +kernel
theorem d_law_678 : decode M_law.2.1 678 = .ok (.iload_n 3, 1) := by decide +kernel
theorem d_law_679 : decode M_law.2.1 679 = .ok (.iconst 1, 1) := by decide +kernel
theorem d_law_680 : decode M_law.2.1 680 = .ok (.iadd, 1) := by decide +kernel
theorem d_law_681 : decode M_law.2.1 681 = .ok (.iaload, 1) := by decide +kernel
theorem d_law_682 : decode M_law.2.1 682 = .ok (.aload_n 0, 1) := by decide +kernel
theorem d_law_683 : decode M_law.2.1 683 = .ok (.iload_n 3, 1) := by decide +kernel
theorem d_law_684 : decode M_law.2.1 684 = .ok (.iconst 2, 1) := by decide +kernel
theorem d_law_685 : decode M_law.2.1 685 = .ok (.iadd, 1) := by decide +kernel
theorem d_law_686 : decode M_law.2.1 686 = .ok (.iaload, 1) := by decide +kernel
theorem d_law_687 : decode M_law.2.1 687 = .ok (.aload_n 0, 1) := by decide +kernel
theorem d_law_688 : decode M_law.2.1 688 = .ok (.iload_n 3, 1) := by decide +kernel
theorem d_law_689 : decode M_law.2.1 689 = .ok (.iconst 3, 1) := by decide +kernel
theorem d_law_690 : decode M_law.2.1 690 = .ok (.iadd, 1) := by decide +kernel
theorem d_law_691 : decode M_law.2.1 691 = .ok (.iaload, 1) := by decide +kernel
theorem d_law_692 : decode M_law.2.1 692 = .ok (.ifCond .eq 7, 3) := by decide +kernel
theorem d_law_695 : decode M_law.2.1 695 = .ok (.iconst 1, 1) := by decide +kernel
theorem d_law_696 : decode M_law.2.1 696 = .ok (.goto 4, 3) := by decide +kernel
theorem d_law_699 : decode M_law.2.1 699 = .ok (.iconst 0, 1) := by decide +kernel
theorem d_law_700 : decode M_law.2.1 700 = .ok (.invokevirtual 85, 3) := by decide +kernel
theorem d_law_703 : decode M_law.2.1 703 = .ok (.aload_n 2, 1) := by decide +kernel
theorem d_law_704 : decode M_law.2.1 704 = .ok (.aload_n 0, 1) := by decide +kernel
theorem d_law_705 : decode M_law.2.1 705 = .ok (.iload_n 3, 1) := by decide +kernel
theorem d_law_706 : decode M_law.2.1 706 = .ok (.iconst 1, 1) := by decide +kernel
theorem d_law_707 : decode M_law.2.1 707 = .ok (.iadd, 1) := by decide +kernel
theorem d_law_708 : decode M_law.2.1 708 = .ok (.iaload, 1) := by decide +kernel
theorem d_law_709 : decode M_law.2.1 709 = .ok (.aload_n 0, 1) := by decide +kernel
theorem d_law_710 : decode M_law.2.1 710 = .ok (.iload_n 3, 1) := by decide +kernel
theorem d_law_711 : decode M_law.2.1 711 = .ok (.iconst 2, 1) := by decide +kernel
theorem d_law_712 : decode M_law.2.1 712 = .ok (.iadd, 1) := by decide +kernel
theorem d_law_713 : decode M_law.2.1 713 = .ok (.iaload, 1) := by decide +kernel
theorem d_law_714 : decode M_law.2.1 714 = .ok (.aload_n 0, 1) := by decide +kernel
theorem d_law_715 : decode M_law.2.1 715 = .ok (.iload_n 3, 1) := by decide +kernel
theorem d_law_716 : decode M_law.2.1 716 = .ok (.iconst 3, 1) := by decide +kernel
theorem d_law_717 : decode M_law.2.1 717 = .ok (.iadd, 1) := by decide +kernel
theorem d_law_718 : decode M_law.2.1 718 = .ok (.iaload, 1) := by decide +kernel
theorem d_law_719 : decode M_law.2.1 719 = .ok (.ifCond .eq 7, 3) := by decide +kernel
theorem d_law_722 : decode M_law.2.1 722 = .ok (.iconst 1, 1) := by decide +kernel
theorem d_law_723 : decode M_law.2.1 723 = .ok (.goto 4, 3) := by decide +kernel
theorem d_law_726 : decode M_law.2.1 726 = .ok (.iconst 0, 1) := by decide +kernel
theorem d_law_727 : decode M_law.2.1 727 = .ok (.invokevirtual 89, 3) := by decide +kernel
theorem d_law_730 : decode M_law.2.1 730 = .ok (.if_icmp .eq 453, 3) := by decide +kernel
theorem d_law_735 : decode M_law.2.1 735 = .ok (.aload_n 1, 1) := by decide +kernel
theorem d_law_736 : decode M_law.2.1 736 = .ok (.aload_n 0, 1) := by decide +kernel
theorem d_law_737 : decode M_law.2.1 737 = .ok (.iload_n 3, 1) := by decide +kernel
theorem d_law_738 : decode M_law.2.1 738 = .ok (.iconst 1, 1) := by decide +kernel
theorem d_law_739 : decode M_law.2.1 739 = .ok (.iadd, 1) := by decide +kernel
theorem d_law_740 : decode M_law.2.1 740 = .ok (.iaload, 1) := by decide +kernel
theorem d_law_741 : decode M_law.2.1 741 = .ok (.aload_n 0, 1) := by decide +kernel
theorem d_law_742 : decode M_law.2.1 742 = .ok (.iload_n 3, 1) := by decide +kernel
theorem d_law_743 : decode M_law.2.1 743 = .ok (.iconst 2, 1) := by decide +kernel
theorem d_law_744 : decode M_law.2.1 744 = .ok (.iadd, 1) := by decide +kernel
theorem d_law_745 : decode M_law.2.1 745 = .ok (.iaload, 1) := by decide +kernel
theorem d_law_746 : decode M_law.2.1 746 = .ok (.aload_n 0, 1) := by decide +kernel
theorem d_law_747 : decode M_law.2.1 747 = .ok (.iload_n 3, 1) := by decide +kernel
theorem d_law_748 : decode M_law.2.1 748 = .ok (.iconst 3, 1) := by decide +kernel
theorem d_law_749 : decode M_law.2.1 749 = .ok (.iadd, 1) := by decide +kernel
theorem d_law_750 : decode M_law.2.1 750 = .ok (.iaload, 1) := by decide +kernel
theorem d_law_751 : decode M_law.2.1 751 = .ok (.aload_n 0, 1) := by decide +kernel
theorem d_law_752 : decode M_law.2.1 752 = .ok (.iload_n 3, 1) := by decide +kernel
theorem d_law_753 : decode M_law.2.1 753 = .ok (.iconst 4, 1) := by decide +kernel
theorem d_law_754 : decode M_law.2.1 754 = .ok (.iadd, 1) := by decide +kernel
theorem d_law_755 : decode M_law.2.1 755 = .ok (.iaload, 1) := by decide +kernel
theorem d_law_756 : decode M_law.2.1 756 = .ok (.ifCond .eq 7, 3) := by decide +kernel
theorem d_law_759 : decode M_law.2.1 759 = .ok (.iconst 1, 1) := by decide +kernel
theorem d_law_760 : decode M_law.2.1 760 = .ok (.goto 4, 3) := by decide +kernel
theorem d_law_763 : decode M_law.2.1 763 = .ok (.iconst 0, 1) := by decide +kernel
theorem d_law_764 : decode M_law.2.1 764 = .ok (.invokevirtual 90, 3) := by decide +kernel
theorem d_law_767 : decode M_law.2.1 767 = .ok (.aload_n 2, 1) := by decide +kernel
theorem d_law_768 : decode M_law.2.1 768 = .ok (.aload_n 0, 1) := by decide +kernel
theorem d_law_769 : decode M_law.2.1 769 = .ok (.iload_n 3, 1) := by decide +kernel
theorem d_law_770 : decode M_law.2.1 770 = .ok (.iconst 1, 1) := by decide +kernel
theorem d_law_771 : decode M_law.2.1 771 = .ok (.iadd, 1) := by decide +kernel
theorem d_law_772 : decode M_law.2.1 772 = .ok (.iaload, 1) := by decide +kernel
theorem d_law_773 : decode M_law.2.1 773 = .ok (.aload_n 0, 1) := by decide +kernel
theorem d_law_774 : decode M_law.2.1 774 = .ok (.iload_n 3, 1) := by decide +kernel
theorem d_law_775 : decode M_law.2.1 775 = .ok (.iconst 2, 1) := by decide +kernel
theorem d_law_776 : decode M_law.2.1 776 = .ok (.iadd, 1) := by decide +kernel
theorem d_law_777 : decode M_law.2.1 777 = .ok (.iaload, 1) := by decide +kernel
theorem d_law_778 : decode M_law.2.1 778 = .ok (.aload_n 0, 1) := by decide +kernel
theorem d_law_779 : decode M_law.2.1 779 = .ok (.iload_n 3, 1) := by decide +kernel
theorem d_law_780 : decode M_law.2.1 780 = .ok (.iconst 3, 1) := by decide +kernel
theorem d_law_781 : decode M_law.2.1 781 = .ok (.iadd, 1) := by decide +kernel
theorem d_law_782 : decode M_law.2.1 782 = .ok (.iaload, 1) := by decide +kernel
theorem d_law_783 : decode M_law.2.1 783 = .ok (.aload_n 0, 1) := by decide +kernel
theorem d_law_784 : decode M_law.2.1 784 = .ok (.iload_n 3, 1) := by decide +kernel
theorem d_law_785 : decode M_law.2.1 785 = .ok (.iconst 4, 1) := by decide +kernel
theorem d_law_786 : decode M_law.2.1 786 = .ok (.iadd, 1) := by decide +kernel
theorem d_law_787 : decode M_law.2.1 787 = .ok (.iaload, 1) := by decide +kernel
theorem d_law_788 : decode M_law.2.1 788 = .ok (.ifCond .eq 7, 3) := by decide +kernel
theorem d_law_791 : decode M_law.2.1 791 = .ok (.iconst 1, 1) := by decide +kernel
theorem d_law_792 : decode M_law.2.1 792 = .ok (.goto 4, 3) := by decide +kernel
theorem d_law_795 : decode M_law.2.1 795 = .ok (.iconst 0, 1) := by decide +kernel
theorem d_law_796 : decode M_law.2.1 796 = .ok (.invokevirtual 94, 3) := by decide +kernel
theorem d_law_799 : decode M_law.2.1 799 = .ok (.if_icmp .eq 384, 3) := by decide +kernel
theorem d_law_804 : decode M_law.2.1 804 = .ok (.aload_n 1, 1) := by decide +kernel
theorem d_law_805 : decode M_law.2.1 805 = .ok (.aload_n 0, 1) := by decide +kernel
theorem d_law_806 : decode M_law.2.1 806 = .ok (.iload_n 3, 1) := by decide +kernel
theorem d_law_807 : decode M_law.2.1 807 = .ok (.iconst 1, 1) := by decide +kernel
theorem d_law_808 : decode M_law.2.1 808 = .ok (.iadd, 1) := by decide +kernel
theorem d_law_809 : decode M_law.2.1 809 = .ok (.iaload, 1) := by decide +kernel
theorem d_law_810 : decode M_law.2.1 810 = .ok (.invokevirtual 95, 3) := by decide +kernel
theorem d_law_813 : decode M_law.2.1 813 = .ok (.aload_n 2, 1) := by decide +kernel
theorem d_law_814 : decode M_law.2.1 814 = .ok (.aload_n 0, 1) := by decide +kernel
theorem d_law_815 : decode M_law.2.1 815 = .ok (.iload_n 3, 1) := by decide +kernel
theorem d_law_816 : decode M_law.2.1 816 = .ok (.iconst 1, 1) := by decide +kernel
theorem d_law_817 : decode M_law.2.1 817 = .ok (.iadd, 1) := by decide +kernel
theorem d_law_818 : decode M_law.2.1 818 = .ok (.iaload, 1) := by decide +kernel
theorem d_law_819 : decode M_law.2.1 819 = .ok (.invokevirtual 98, 3) := by decide +kernel
theorem d_law_822 : decode M_law.2.1 822 = .ok (.if_icmp .eq 361, 3) := by decide +kernel
theorem d_law_827 : decode M_law.2.1 827 = .ok (.aload_n 1, 1) := by decide +kernel
theorem d_law_828 : decode M_law.2.1 828 = .ok (.aload_n 0, 1) := by decide +kernel
theorem d_law_829 : decode M_law.2.1 829 = .ok (.iload_n 3, 1) := by decide +kernel
theorem d_law_830 : decode M_law.2.1 830 = .ok (.iconst 1, 1) := by decide +kernel
theorem d_law_831 : decode M_law.2.1 831 = .ok (.iadd, 1) := by decide +kernel
theorem d_law_832 : decode M_law.2.1 832 = .ok (.iaload, 1) := by decide +kernel
theorem d_law_833 : decode M_law.2.1 833 = .ok (.aload_n 0, 1) := by decide +kernel
theorem d_law_834 : decode M_law.2.1 834 = .ok (.iload_n 3, 1) := by decide +kernel
theorem d_law_835 : decode M_law.2.1 835 = .ok (.iconst 2, 1) := by decide +kernel
theorem d_law_836 : decode M_law.2.1 836 = .ok (.iadd, 1) := by decide +kernel
theorem d_law_837 : decode M_law.2.1 837 = .ok (.iaload, 1) := by decide +kernel
theorem d_law_838 : decode M_law.2.1 838 = .ok (.invokevirtual 99, 3) := by decide +kernel
theorem d_law_841 : decode M_law.2.1 841 = .ok (.aload_n 2, 1) := by decide +kernel
theorem d_law_842 : decode M_law.2.1 842 = .ok (.aload_n 0, 1) := by decide +kernel
theorem d_law_843 : decode M_law.2.1 843 = .ok (.iload_n 3, 1) := by decide +kernel
theorem d_law_844 : decode M_law.2.1 844 = .ok (.iconst 1, 1) := by decide +kernel
theorem d_law_845 : decode M_law.2.1 845 = .ok (.iadd, 1) := by decide +kernel
theorem d_law_846 : decode M_law.2.1 846 = .ok (.iaload, 1) := by decide +kernel
theorem d_law_847 : decode M_law.2.1 847 = .ok (.aload_n 0, 1) := by decide +kernel
theorem d_law_848 : decode M_law.2.1 848 = .ok (.iload_n 3, 1) := by decide +kernel
theorem d_law_849 : decode M_law.2.1 849 = .ok (.iconst 2, 1) := by decide +kernel
theorem d_law_850 : decode M_law.2.1 850 = .ok (.iadd, 1) := by decide +kernel
theorem d_law_851 : decode M_law.2.1 851 = .ok (.iaload, 1) := by decide +kernel
theorem d_law_852 : decode M_law.2.1 852 = .ok (.invokevirtual 102, 3) := by decide +kernel
theorem d_law_855 : decode M_law.2.1 855 = .ok (.if_icmp .eq 328, 3) := by decide +kernel
theorem d_law_860 : decode M_law.2.1 860 = .ok (.aload_n 1, 1) := by decide +kernel
theorem d_law_861 : decode M_law.2.1 861 = .ok (.aload_n 0, 1) := by decide +kernel
theorem d_law_862 : decode M_law.2.1 862 = .ok (.iload_n 3, 1) := by decide +kernel
theorem d_law_863 : decode M_law.2.1 863 = .ok (.iconst 1, 1) := by decide +kernel
theorem d_law_864 : decode M_law.2.1 864 = .ok (.iadd, 1) := by decide +kernel
theorem d_law_865 : decode M_law.2.1 865 = .ok (.iaload, 1) := by decide +kernel
theorem d_law_866 : decode M_law.2.1 866 = .ok (.aload_n 0, 1) := by decide +kernel
theorem d_law_867 : decode M_law.2.1 867 = .ok (.iload_n 3, 1) := by decide +kernel
theorem d_law_868 : decode M_law.2.1 868 = .ok (.iconst 2, 1) := by decide +kernel
theorem d_law_869 : decode M_law.2.1 869 = .ok (.iadd, 1) := by decide +kernel
theorem d_law_870 : decode M_law.2.1 870 = .ok (.iaload, 1) := by decide +kernel
theorem d_law_871 : decode M_law.2.1 871 = .ok (.aload_n 0, 1) := by decide +kernel
theorem d_law_872 : decode M_law.2.1 872 = .ok (.iload_n 3, 1) := by decide +kernel
theorem d_law_873 : decode M_law.2.1 873 = .ok (.iconst 3, 1) := by decide +kernel
theorem d_law_874 : decode M_law.2.1 874 = .ok (.iadd, 1) := by decide +kernel
theorem d_law_875 : decode M_law.2.1 875 = .ok (.iaload, 1) := by decide +kernel
theorem d_law_876 : decode M_law.2.1 876 = .ok (.invokevirtual 103, 3) := by decide +kernel
theorem d_law_879 : decode M_law.2.1 879 = .ok (.aload_n 2, 1) := by decide +kernel
theorem d_law_880 : decode M_law.2.1 880 = .ok (.aload_n 0, 1) := by decide +kernel
theorem d_law_881 : decode M_law.2.1 881 = .ok (.iload_n 3, 1) := by decide +kernel
theorem d_law_882 : decode M_law.2.1 882 = .ok (.iconst 1, 1) := by decide +kernel
theorem d_law_883 : decode M_law.2.1 883 = .ok (.iadd, 1) := by decide +kernel
theorem d_law_884 : decode M_law.2.1 884 = .ok (.iaload, 1) := by decide +kernel
theorem d_law_885 : decode M_law.2.1 885 = .ok (.aload_n 0, 1) := by decide +kernel
theorem d_law_886 : decode M_law.2.1 886 = .ok (.iload_n 3, 1) := by decide +kernel
theorem d_law_887 : decode M_law.2.1 887 = .ok (.iconst 2, 1) := by decide +kernel
theorem d_law_888 : decode M_law.2.1 888 = .ok (.iadd, 1) := by decide +kernel
theorem d_law_889 : decode M_law.2.1 889 = .ok (.iaload, 1) := by decide +kernel
theorem d_law_890 : decode M_law.2.1 890 = .ok (.aload_n 0, 1) := by decide +kernel
theorem d_law_891 : decode M_law.2.1 891 = .ok (.iload_n 3, 1) := by decide +kernel
theorem d_law_892 : decode M_law.2.1 892 = .ok (.iconst 3, 1) := by decide +kernel
theorem d_law_893 : decode M_law.2.1 893 = .ok (.iadd, 1) := by decide +kernel
theorem d_law_894 : decode M_law.2.1 894 = .ok (.iaload, 1) := by decide +kernel
theorem d_law_895 : decode M_law.2.1 895 = .ok (.invokevirtual 106, 3) := by decide +kernel
theorem d_law_898 : decode M_law.2.1 898 = .ok (.if_icmp .eq 285, 3) := by decide +kernel
theorem d_law_903 : decode M_law.2.1 903 = .ok (.aload_n 1, 1) := by decide +kernel
theorem d_law_904 : decode M_law.2.1 904 = .ok (.aload_n 0, 1) := by decide +kernel
theorem d_law_905 : decode M_law.2.1 905 = .ok (.iload_n 3, 1) := by decide +kernel
theorem d_law_906 : decode M_law.2.1 906 = .ok (.iconst 1, 1) := by decide +kernel
theorem d_law_907 : decode M_law.2.1 907 = .ok (.iadd, 1) := by decide +kernel
theorem d_law_908 : decode M_law.2.1 908 = .ok (.iaload, 1) := by decide +kernel
theorem d_law_909 : decode M_law.2.1 909 = .ok (.aload_n 0, 1) := by decide +kernel
theorem d_law_910 : decode M_law.2.1 910 = .ok (.iload_n 3, 1) := by decide +kernel
theorem d_law_911 : decode M_law.2.1 911 = .ok (.iconst 2, 1) := by decide +kernel
theorem d_law_912 : decode M_law.2.1 912 = .ok (.iadd, 1) := by decide +kernel
theorem d_law_913 : decode M_law.2.1 913 = .ok (.iaload, 1) := by decide +kernel
theorem d_law_914 : decode M_law.2.1 914 = .ok (.aload_n 0, 1) := by decide +kernel
theorem d_law_915 : decode M_law.2.1 915 = .ok (.iload_n 3, 1) := by decide +kernel
theorem d_law_916 : decode M_law.2.1 916 = .ok (.iconst 3, 1) := by decide +kernel
theorem d_law_917 : decode M_law.2.1 917 = .ok (.iadd, 1) := by decide +kernel
theorem d_law_918 : decode M_law.2.1 918 = .ok (.iaload, 1) := by decide +kernel
theorem d_law_919 : decode M_law.2.1 919 = .ok (.aload_n 0, 1) := by decide +kernel
theorem d_law_920 : decode M_law.2.1 920 = .ok (.iload_n 3, 1) := by decide +kernel
theorem d_law_921 : decode M_law.2.1 921 = .ok (.iconst 4, 1) := by decide +kernel
theorem d_law_922 : decode M_law.2.1 922 = .ok (.iadd, 1) := by decide +kernel
theorem d_law_923 : decode M_law.2.1 923 = .ok (.iaload, 1) := by decide +kernel
theorem d_law_924 : decode M_law.2.1 924 = .ok (.invokevirtual 107, 3) := by decide +kernel
theorem d_law_927 : decode M_law.2.1 927 = .ok (.aload_n 2, 1) := by decide +kernel
theorem d_law_928 : decode M_law.2.1 928 = .ok (.aload_n 0, 1) := by decide +kernel
theorem d_law_929 : decode M_law.2.1 929 = .ok (.iload_n 3, 1) := by decide +kernel
theorem d_law_930 : decode M_law.2.1 930 = .ok (.iconst 1, 1) := by decide +kernel
theorem d_law_931 : decode M_law.2.1 931 = .ok (.iadd, 1) := by decide +kernel
theorem d_law_932 : decode M_law.2.1 932 = .ok (.iaload, 1) := by decide +kernel
theorem d_law_933 : decode M_law.2.1 933 = .ok (.aload_n 0, 1) := by decide +kernel
theorem d_law_934 : decode M_law.2.1 934 = .ok (.iload_n 3, 1) := by decide +kernel
theorem d_law_935 : decode M_law.2.1 935 = .ok (.iconst 2, 1) := by decide +kernel
theorem d_law_936 : decode M_law.2.1 936 = .ok (.iadd, 1) := by decide +kernel
theorem d_law_937 : decode M_law.2.1 937 = .ok (.iaload, 1) := by decide +kernel
theorem d_law_938 : decode M_law.2.1 938 = .ok (.aload_n 0, 1) := by decide +kernel
theorem d_law_939 : decode M_law.2.1 939 = .ok (.iload_n 3, 1) := by decide +kernel
theorem d_law_940 : decode M_law.2.1 940 = .ok (.iconst 3, 1) := by decide +kernel
theorem d_law_941 : decode M_law.2.1 941 = .ok (.iadd, 1) := by decide +kernel
theorem d_law_942 : decode M_law.2.1 942 = .ok (.iaload, 1) := by decide +kernel
theorem d_law_943 : decode M_law.2.1 943 = .ok (.aload_n 0, 1) := by decide +kernel
theorem d_law_944 : decode M_law.2.1 944 = .ok (.iload_n 3, 1) := by decide +kernel
theorem d_law_945 : decode M_law.2.1 945 = .ok (.iconst 4, 1) := by decide +kernel
theorem d_law_946 : decode M_law.2.1 946 = .ok (.iadd, 1) := by decide +kernel
theorem d_law_947 : decode M_law.2.1 947 = .ok (.iaload, 1) := by decide +kernel
theorem d_law_948 : decode M_law.2.1 948 = .ok (.invokevirtual 111, 3) := by decide +kernel
theorem d_law_951 : decode M_law.2.1 951 = .ok (.if_icmp .eq 232, 3) := by decide +kernel
theorem d_law_956 : decode M_law.2.1 956 = .ok (.aload_n 1, 1) := by decide +kernel
theorem d_law_957 : decode M_law.2.1 957 = .ok (.aload_n 0, 1) := by decide +kernel
theorem d_law_958 : decode M_law.2.1 958 = .ok (.iload_n 3, 1) := by decide +kernel
theorem d_law_959 : decode M_law.2.1 959 = .ok (.iconst 1, 1) := by decide +kernel
theorem d_law_960 : decode M_law.2.1 960 = .ok (.iadd, 1) := by decide +kernel
theorem d_law_961 : decode M_law.2.1 961 = .ok (.iaload, 1) := by decide +kernel
theorem d_law_962 : decode M_law.2.1 962 = .ok (.aload_n 0, 1) := by decide +kernel
theorem d_law_963 : decode M_law.2.1 963 = .ok (.iload_n 3, 1) := by decide +kernel
theorem d_law_964 : decode M_law.2.1 964 = .ok (.iconst 2, 1) := by decide +kernel
theorem d_law_965 : decode M_law.2.1 965 = .ok (.iadd, 1) := by decide +kernel
theorem d_law_966 : decode M_law.2.1 966 = .ok (.iaload, 1) := by decide +kernel
theorem d_law_967 : decode M_law.2.1 967 = .ok (.invokevirtual 112, 3) := by decide +kernel
theorem d_law_970 : decode M_law.2.1 970 = .ok (.aload_n 2, 1) := by decide +kernel
theorem d_law_971 : decode M_law.2.1 971 = .ok (.aload_n 0, 1) := by decide +kernel
theorem d_law_972 : decode M_law.2.1 972 = .ok (.iload_n 3, 1) := by decide +kernel
theorem d_law_973 : decode M_law.2.1 973 = .ok (.iconst 1, 1) := by decide +kernel
theorem d_law_974 : decode M_law.2.1 974 = .ok (.iadd, 1) := by decide +kernel
theorem d_law_975 : decode M_law.2.1 975 = .ok (.iaload, 1) := by decide +kernel
theorem d_law_976 : decode M_law.2.1 976 = .ok (.aload_n 0, 1) := by decide +kernel
theorem d_law_977 : decode M_law.2.1 977 = .ok (.iload_n 3, 1) := by decide +kernel
theorem d_law_978 : decode M_law.2.1 978 = .ok (.iconst 2, 1) := by decide +kernel
theorem d_law_979 : decode M_law.2.1 979 = .ok (.iadd, 1) := by decide +kernel
theorem d_law_980 : decode M_law.2.1 980 = .ok (.iaload, 1) := by decide +kernel
theorem d_law_981 : decode M_law.2.1 981 = .ok (.invokevirtual 115, 3) := by decide +kernel
theorem d_law_984 : decode M_law.2.1 984 = .ok (.if_icmp .eq 199, 3) := by decide +kernel
theorem d_law_989 : decode M_law.2.1 989 = .ok (.aload_n 1, 1) := by decide +kernel
theorem d_law_990 : decode M_law.2.1 990 = .ok (.aload_n 0, 1) := by decide +kernel
theorem d_law_991 : decode M_law.2.1 991 = .ok (.iload_n 3, 1) := by decide +kernel
theorem d_law_992 : decode M_law.2.1 992 = .ok (.iconst 1, 1) := by decide +kernel
theorem d_law_993 : decode M_law.2.1 993 = .ok (.iadd, 1) := by decide +kernel
theorem d_law_994 : decode M_law.2.1 994 = .ok (.iaload, 1) := by decide +kernel
theorem d_law_995 : decode M_law.2.1 995 = .ok (.aload_n 0, 1) := by decide +kernel
theorem d_law_996 : decode M_law.2.1 996 = .ok (.iload_n 3, 1) := by decide +kernel
theorem d_law_997 : decode M_law.2.1 997 = .ok (.iconst 2, 1) := by decide +kernel
theorem d_law_998 : decode M_law.2.1 998 = .ok (.iadd, 1) := by decide +kernel
theorem d_law_999 : decode M_law.2.1 999 = .ok (.iaload, 1) := by decide +kernel
theorem d_law_1000 : decode M_law.2.1 1000 = .ok (.invokevirtual 116, 3) := by decide +kernel
theorem d_law_1003 : decode M_law.2.1 1003 = .ok (.aload_n 2, 1) := by decide +kernel
theorem d_law_1004 : decode M_law.2.1 1004 = .ok (.aload_n 0, 1) := by decide +kernel
theorem d_law_1005 : decode M_law.2.1 1005 = .ok (.iload_n 3, 1) := by decide +kernel
theorem d_law_1006 : decode M_law.2.1 1006 = .ok (.iconst 1, 1) := by decide +kernel
theorem d_law_1007 : decode M_law.2.1 1007 = .ok (.iadd, 1) := by decide +kernel
theorem d_law_1008 : decode M_law.2.1 1008 = .ok (.iaload, 1) := by decide +kernel
theorem d_law_1009 : decode M_law.2.1 1009 = .ok (.aload_n 0, 1) := by decide +kernel
theorem d_law_1010 : decode M_law.2.1 1010 = .ok (.iload_n 3, 1) := by decide +kernel
theorem d_law_1011 : decode M_law.2.1 1011 = .ok (.iconst 2, 1) := by decide +kernel
theorem d_law_1012 : decode M_law.2.1 1012 = .ok (.iadd, 1) := by decide +kernel
theorem d_law_1013 : decode M_law.2.1 1013 = .ok (.iaload, 1) := by decide +kernel
theorem d_law_1014 : decode M_law.2.1 1014 = .ok (.invokevirtual 119, 3) := by decide +kernel
theorem d_law_1017 : decode M_law.2.1 1017 = .ok (.if_icmp .eq 166, 3) := by decide +kernel
theorem d_law_1022 : decode M_law.2.1 1022 = .ok (.aload_n 1, 1) := by decide +kernel
theorem d_law_1023 : decode M_law.2.1 1023 = .ok (.aload_n 0, 1) := by decide +kernel
theorem d_law_1024 : decode M_law.2.1 1024 = .ok (.iload_n 3, 1) := by decide +kernel
theorem d_law_1025 : decode M_law.2.1 1025 = .ok (.iconst 1, 1) := by decide +kernel
theorem d_law_1026 : decode M_law.2.1 1026 = .ok (.iadd, 1) := by decide +kernel
theorem d_law_1027 : decode M_law.2.1 1027 = .ok (.iaload, 1) := by decide +kernel
theorem d_law_1028 : decode M_law.2.1 1028 = .ok (.invokevirtual 120, 3) := by decide +kernel
theorem d_law_1031 : decode M_law.2.1 1031 = .ok (.aload_n 2, 1) := by decide +kernel
theorem d_law_1032 : decode M_law.2.1 1032 = .ok (.aload_n 0, 1) := by decide +kernel
theorem d_law_1033 : decode M_law.2.1 1033 = .ok (.iload_n 3, 1) := by decide +kernel
theorem d_law_1034 : decode M_law.2.1 1034 = .ok (.iconst 1, 1) := by decide +kernel
theorem d_law_1035 : decode M_law.2.1 1035 = .ok (.iadd, 1) := by decide +kernel
theorem d_law_1036 : decode M_law.2.1 1036 = .ok (.iaload, 1) := by decide +kernel
theorem d_law_1037 : decode M_law.2.1 1037 = .ok (.invokevirtual 123, 3) := by decide +kernel
theorem d_law_1040 : decode M_law.2.1 1040 = .ok (.if_icmp .eq 143, 3) := by decide +kernel
theorem d_law_1045 : decode M_law.2.1 1045 = .ok (.aload_n 1, 1) := by decide +kernel
theorem d_law_1046 : decode M_law.2.1 1046 = .ok (.aload_n 0, 1) := by decide +kernel
theorem d_law_1047 : decode M_law.2.1 1047 = .ok (.iload_n 3, 1) := by decide +kernel
theorem d_law_1048 : decode M_law.2.1 1048 = .ok (.iconst 1, 1) := by decide +kernel
theorem d_law_1049 : decode M_law.2.1 1049 = .ok (.iadd, 1) := by decide +kernel
theorem d_law_1050 : decode M_law.2.1 1050 = .ok (.iaload, 1) := by decide +kernel
theorem d_law_1051 : decode M_law.2.1 1051 = .ok (.invokevirtual 124, 3) := by decide +kernel
theorem d_law_1054 : decode M_law.2.1 1054 = .ok (.aload_n 2, 1) := by decide +kernel
theorem d_law_1055 : decode M_law.2.1 1055 = .ok (.aload_n 0, 1) := by decide +kernel
theorem d_law_1056 : decode M_law.2.1 1056 = .ok (.iload_n 3, 1) := by decide +kernel
theorem d_law_1057 : decode M_law.2.1 1057 = .ok (.iconst 1, 1) := by decide +kernel
theorem d_law_1058 : decode M_law.2.1 1058 = .ok (.iadd, 1) := by decide +kernel
theorem d_law_1059 : decode M_law.2.1 1059 = .ok (.iaload, 1) := by decide +kernel
theorem d_law_1060 : decode M_law.2.1 1060 = .ok (.invokevirtual 127, 3) := by decide +kernel
theorem d_law_1063 : decode M_law.2.1 1063 = .ok (.if_icmp .eq 120, 3) := by decide +kernel
theorem d_law_1068 : decode M_law.2.1 1068 = .ok (.aload_n 1, 1) := by decide +kernel
theorem d_law_1069 : decode M_law.2.1 1069 = .ok (.aload_n 0, 1) := by decide +kernel
theorem d_law_1070 : decode M_law.2.1 1070 = .ok (.iload_n 3, 1) := by decide +kernel
theorem d_law_1071 : decode M_law.2.1 1071 = .ok (.iconst 1, 1) := by decide +kernel
theorem d_law_1072 : decode M_law.2.1 1072 = .ok (.iadd, 1) := by decide +kernel
theorem d_law_1073 : decode M_law.2.1 1073 = .ok (.iaload, 1) := by decide +kernel
theorem d_law_1074 : decode M_law.2.1 1074 = .ok (.aload_n 0, 1) := by decide +kernel
theorem d_law_1075 : decode M_law.2.1 1075 = .ok (.iload_n 3, 1) := by decide +kernel
theorem d_law_1076 : decode M_law.2.1 1076 = .ok (.iconst 2, 1) := by decide +kernel
theorem d_law_1077 : decode M_law.2.1 1077 = .ok (.iadd, 1) := by decide +kernel
theorem d_law_1078 : decode M_law.2.1 1078 = .ok (.iaload, 1) := by decide +kernel
theorem d_law_1079 : decode M_law.2.1 1079 = .ok (.invokevirtual 128, 3) := by decide +kernel
theorem d_law_1082 : decode M_law.2.1 1082 = .ok (.aload_n 2, 1) := by decide +kernel
theorem d_law_1083 : decode M_law.2.1 1083 = .ok (.aload_n 0, 1) := by decide +kernel
theorem d_law_1084 : decode M_law.2.1 1084 = .ok (.iload_n 3, 1) := by decide +kernel
theorem d_law_1085 : decode M_law.2.1 1085 = .ok (.iconst 1, 1) := by decide +kernel
theorem d_law_1086 : decode M_law.2.1 1086 = .ok (.iadd, 1) := by decide +kernel
theorem d_law_1087 : decode M_law.2.1 1087 = .ok (.iaload, 1) := by decide +kernel
theorem d_law_1088 : decode M_law.2.1 1088 = .ok (.aload_n 0, 1) := by decide +kernel
theorem d_law_1089 : decode M_law.2.1 1089 = .ok (.iload_n 3, 1) := by decide +kernel
theorem d_law_1090 : decode M_law.2.1 1090 = .ok (.iconst 2, 1) := by decide +kernel
theorem d_law_1091 : decode M_law.2.1 1091 = .ok (.iadd, 1) := by decide +kernel
theorem d_law_1092 : decode M_law.2.1 1092 = .ok (.iaload, 1) := by decide +kernel
theorem d_law_1093 : decode M_law.2.1 1093 = .ok (.invokevirtual 131, 3) := by decide +kernel
theorem d_law_1096 : decode M_law.2.1 1096 = .ok (.if_icmp .eq 87, 3) := by decide +kernel
theorem d_law_1101 : decode M_law.2.1 1101 = .ok (.aload_n 1, 1) := by decide +kernel
theorem d_law_1102 : decode M_law.2.1 1102 = .ok (.aload_n 0, 1) := by decide +kernel
theorem d_law_1103 : decode M_law.2.1 1103 = .ok (.iload_n 3, 1) := by decide +kernel
theorem d_law_1104 : decode M_law.2.1 1104 = .ok (.iconst 1, 1) := by decide +kernel
theorem d_law_1105 : decode M_law.2.1 1105 = .ok (.iadd, 1) := by decide +kernel
theorem d_law_1106 : decode M_law.2.1 1106 = .ok (.iaload, 1) := by decide +kernel
theorem d_law_1107 : decode M_law.2.1 1107 = .ok (.aload_n 0, 1) := by decide +kernel
theorem d_law_1108 : decode M_law.2.1 1108 = .ok (.iload_n 3, 1) := by decide +kernel
theorem d_law_1109 : decode M_law.2.1 1109 = .ok (.iconst 2, 1) := by decide +kernel
theorem d_law_1110 : decode M_law.2.1 1110 = .ok (.iadd, 1) := by decide +kernel
theorem d_law_1111 : decode M_law.2.1 1111 = .ok (.iaload, 1) := by decide +kernel
theorem d_law_1112 : decode M_law.2.1 1112 = .ok (.invokevirtual 132, 3) := by decide +kernel
theorem d_law_1115 : decode M_law.2.1 1115 = .ok (.aload_n 2, 1) := by decide +kernel
theorem d_law_1116 : decode M_law.2.1 1116 = .ok (.aload_n 0, 1) := by decide +kernel
theorem d_law_1117 : decode M_law.2.1 1117 = .ok (.iload_n 3, 1) := by decide +kernel
theorem d_law_1118 : decode M_law.2.1 1118 = .ok (.iconst 1, 1) := by decide +kernel
theorem d_law_1119 : decode M_law.2.1 1119 = .ok (.iadd, 1) := by decide +kernel
theorem d_law_1120 : decode M_law.2.1 1120 = .ok (.iaload, 1) := by decide +kernel
theorem d_law_1121 : decode M_law.2.1 1121 = .ok (.aload_n 0, 1) := by decide +kernel
theorem d_law_1122 : decode M_law.2.1 1122 = .ok (.iload_n 3, 1) := by decide +kernel
theorem d_law_1123 : decode M_law.2.1 1123 = .ok (.iconst 2, 1) := by decide +kernel
theorem d_law_1124 : decode M_law.2.1 1124 = .ok (.iadd, 1) := by decide +kernel
theorem d_law_1125 : decode M_law.2.1 1125 = .ok (.iaload, 1) := by decide +kernel
theorem d_law_1126 : decode M_law.2.1 1126 = .ok (.invokevirtual 135, 3) := by decide +kernel
theorem d_law_1129 : decode M_law.2.1 1129 = .ok (.if_icmp .eq 54, 3) := by decide +kernel
theorem d_law_1134 : decode M_law.2.1 1134 = .ok (.aload_n 1, 1) := by decide +kernel
theorem d_law_1135 : decode M_law.2.1 1135 = .ok (.invokevirtual 136, 3) := by decide +kernel
theorem d_law_1138 : decode M_law.2.1 1138 = .ok (.aload_n 2, 1) := by decide +kernel
theorem d_law_1139 : decode M_law.2.1 1139 = .ok (.invokevirtual 139, 3) := by decide +kernel
theorem d_law_1142 : decode M_law.2.1 1142 = .ok (.if_icmp .eq 41, 3) := by decide +kernel
theorem d_law_1147 : decode M_law.2.1 1147 = .ok (.aload_n 1, 1) := by decide +kernel
theorem d_law_1148 : decode M_law.2.1 1148 = .ok (.invokevirtual 140, 3) := by decide +kernel
theorem d_law_1151 : decode M_law.2.1 1151 = .ok (.aload_n 2, 1) := by decide +kernel
theorem d_law_1152 : decode M_law.2.1 1152 = .ok (.invokevirtual 143, 3) := by decide +kernel
theorem d_law_1155 : decode M_law.2.1 1155 = .ok (.if_icmp .eq 28, 3) := by decide +kernel
theorem d_law_1160 : decode M_law.2.1 1160 = .ok (.aload_n 1, 1) := by decide +kernel
theorem d_law_1161 : decode M_law.2.1 1161 = .ok (.aload_n 0, 1) := by decide +kernel
theorem d_law_1162 : decode M_law.2.1 1162 = .ok (.iload_n 3, 1) := by decide +kernel
theorem d_law_1163 : decode M_law.2.1 1163 = .ok (.iconst 1, 1) := by decide +kernel
theorem d_law_1164 : decode M_law.2.1 1164 = .ok (.iadd, 1) := by decide +kernel
theorem d_law_1165 : decode M_law.2.1 1165 = .ok (.iaload, 1) := by decide +kernel
theorem d_law_1166 : decode M_law.2.1 1166 = .ok (.invokevirtual 144, 3) := by decide +kernel
theorem d_law_1169 : decode M_law.2.1 1169 = .ok (.aload_n 2, 1) := by decide +kernel
theorem d_law_1170 : decode M_law.2.1 1170 = .ok (.aload_n 0, 1) := by decide +kernel
theorem d_law_1171 : decode M_law.2.1 1171 = .ok (.iload_n 3, 1) := by decide +kernel
theorem d_law_1172 : decode M_law.2.1 1172 = .ok (.iconst 1, 1) := by decide +kernel
theorem d_law_1173 : decode M_law.2.1 1173 = .ok (.iadd, 1) := by decide +kernel
theorem d_law_1174 : decode M_law.2.1 1174 = .ok (.iaload, 1) := by decide +kernel
theorem d_law_1175 : decode M_law.2.1 1175 = .ok (.invokevirtual 147, 3) := by decide +kernel
theorem d_law_1178 : decode M_law.2.1 1178 = .ok (.if_icmp .eq 5, 3) := by decide +kernel
theorem d_law_1183 : decode M_law.2.1 1183 = .ok (.iinc 3 6, 3) := by decide +kernel
theorem d_law_1186 : decode M_law.2.1 1186 = .ok (.goto (-1168), 3) := by decide +kernel
theorem d_law_1189 : decode M_law.2.1 1189 = .ok (.iconst 1, 1) := by decide +kernel
theorem d_law_1190 : decode M_law.2.1 1190 = .ok (.ireturn, 1) := by decide +kernel
def P_folk (Inv : xV → xL → Prop) : Prop := ∀ (a1 a2 a3 : Int32) (V : xV) (L : xL), Inv V L → ∃ (r : Int32) (V1 : xV) (V2 : xV), f_Ww_folk a1 a2 a3 V = some (r, V1) ∧ f_Md_folk a1 a2 a3 V1 = some (r, V2) ∧ Inv V2 L
def P_sky (Inv : xV → xL → Prop) : Prop := ∀ (a1 a2 : Int32) (V : xV) (L : xL), Inv V L → ∃ (r : Int32) (V1 : xV) (V2 : xV), f_Ww_sky a1 a2 V = some (r, V1) ∧ f_Md_sky a1 a2 V1 = some (r, V2) ∧ Inv V2 L
def P_skies (Inv : xV → xL → Prop) : Prop := ∀ (a1 : Int32) (V : xV) (L : xL), Inv V L → ∃ (r : Int32) (V1 : xV) (V2 : xV), f_Ww_skies a1 V = some (r, V1) ∧ f_Md_skies a1 V1 = some (r, V2) ∧ Inv V2 L
def P_decree (Inv : xV → xL → Prop) : Prop := ∀ (a1 a2 a3 : Int32) (V : xV) (L : xL), Inv V L → (a3 = 0 ∨ a3 = 1) → ∃ (r : Int32) (V1 : xV) (V2 : xV), f_Ww_decree a1 a2 a3 V = some (r, V1) ∧ f_Md_decree a1 a2 a3 V1 = some (r, V2) ∧ Inv V2 L
def P_chance (Inv : xV → xL → Prop) : Prop := ∀ (a1 a2 : Int32) (V : xV) (L : xL), Inv V L → ∃ (r : Int32) (V1 : xV) (V2 : xV), f_Ww_chance a1 a2 V = some (r, V1) ∧ f_Md_chance a1 a2 V1 = some (r, V2) ∧ Inv V2 L
def P_ruin (Inv : xV → xL → Prop) : Prop := ∀ (a1 : Int32) (V : xV) (L : xL), Inv V L → ∃ (r : Int32) (V1 : xV) (V2 : xV), f_Ww_ruin a1 V = (r, V1) ∧ f_Md_ruin a1 V1 = (r, V2) ∧ Inv V2 L
def P_feed (Inv : xV → xL → Prop) : Prop := ∀ (a1 a2 a3 a4 a5 : Int32) (V : xV) (L : xL), Inv V L → ∃ (r : Int32) (V1 : xV) (V2 : xV), f_Ww_feed a1 a2 a3 a4 a5 V = some (r, V1) ∧ f_Md_feed a1 a2 a3 a4 a5 V1 = some (r, V2) ∧ Inv V2 L
def P_end (Inv : xV → xL → Prop) : Prop := ∀ (a1 : Int32) (V : xV) (L : xL), Inv V L → ∃ (r : Int32) (V1 : xV) (V2 : xV), f_Ww_end a1 V = (r, V1) ∧ f_Md_end a1 V1 = (r, V2) ∧ Inv V2 L
def P_text (Inv : xV → xL → Prop) : Prop := ∀ (V : xV) (L : xL), Inv V L → ∃ (r : Int32) (V1 : xV) (V2 : xV), f_Ww_text V = some (r, V1) ∧ f_Md_text V1 = some (r, V2) ∧ Inv V2 L
def P_fault (Inv : xV → xL → Prop) : Prop := ∀ (a1 : Int32) (V : xV) (L : xL), Inv V L → ∃ (r : Int32), f_Ww_fault a1 V = r ∧ f_Md_fault a1 V = r ∧ Inv V L
def P_by (Inv : xV → xL → Prop) : Prop := ∀ (a1 : Int32) (V : xV) (L : xL), Inv V L → ∃ (r : Int32) (V1 : xV) (V2 : xV), f_Ww_by a1 V = (r, V1) ∧ f_Md_by a1 V1 = (r, V2) ∧ Inv V2 L
def P_warrant (Inv : xV → xL → Prop) : Prop := ∀ (a1 a2 : Int32) (V : xV) (L : xL), Inv V L → ∃ (r : Int32) (V1 : xV) (V2 : xV) (L2 : xL), f_Ww_warrant a1 a2 V = some (r, V1) ∧ f_Md_warrant a1 a2 V1 L = some (r, V2, L2) ∧ Inv V2 L2
def P_letGo (Inv : xV → xL → Prop) : Prop := ∀ (V : xV) (L : xL), Inv V L → ∃ (r : Int32), f_Ww_letGo V = some r ∧ f_Md_letGo V = some r ∧ Inv V L
def P_undo (Inv : xV → xL → Prop) : Prop := ∀ (V : xV) (L : xL), Inv V L → ∃ (r : Int32) (V1 : xV) (V2 : xV), f_Ww_undo V = some (r, V1) ∧ f_Md_undo V1 = some (r, V2) ∧ Inv V2 L
def P_of (Inv : xV → xL → Prop) : Prop := ∀ (a1 a2 a3 : Int32) (V : xV) (L : xL), Inv V L → ∃ (r : Int32) (V1 : xV) (V2 : xV) (L2 : xL), f_Ww_of a1 a2 a3 V = some (r, V1) ∧ f_Md_of a1 a2 a3 V1 L = some (r, V2, L2) ∧ Inv V2 L2
def P_on (Inv : xV → xL → Prop) : Prop := ∀ (a1 a2 a3 : Int32) (V : xV) (L : xL), Inv V L → ∃ (r : Int32) (V1 : xV) (V2 : xV) (L2 : xL), f_Ww_on a1 a2 a3 V = some (r, V1) ∧ f_Md_on a1 a2 a3 V1 L = some (r, V2, L2) ∧ Inv V2 L2
def P_gain (Inv : xV → xL → Prop) : Prop := ∀ (a1 a2 a3 : Int32) (V : xV) (L : xL), Inv V L → (a3 = 0 ∨ a3 = 1) → ∃ (r : Int32) (V1 : xV) (V2 : xV) (L2 : xL), f_Ww_gain a1 a2 a3 V = some (r, V1) ∧ f_Md_gain a1 a2 a3 V1 L = some (r, V2, L2) ∧ Inv V2 L2
def P_sum (Inv : xV → xL → Prop) : Prop := ∀ (a1 a2 a3 a4 : Int32) (V : xV) (L : xL), Inv V L → (a4 = 0 ∨ a4 = 1) → ∃ (r : Int32) (V1 : xV) (V2 : xV) (L2 : xL), f_Ww_sum a1 a2 a3 a4 V = some (r, V1) ∧ f_Md_sum a1 a2 a3 a4 V1 L = some (r, V2, L2) ∧ Inv V2 L2
def P_ruined (Inv : xV → xL → Prop) : Prop := ∀ (a1 : Int32) (V : xV) (L : xL), Inv V L → ∃ (r : Int32) (V1 : xV) (V2 : xV) (L2 : xL), f_Ww_ruined a1 V = some (r, V1) ∧ f_Md_ruined a1 V1 L = some (r, V2, L2) ∧ Inv V2 L2
def P_led (Inv : xV → xL → Prop) : Prop := ∀ (a1 a2 : Int32) (V : xV) (L : xL), Inv V L → ∃ (r : Int32) (V1 : xV) (V2 : xV) (L2 : xL), f_Ww_led a1 a2 V = some (r, V1) ∧ f_Md_led a1 a2 V1 L = some (r, V2, L2) ∧ Inv V2 L2
def P_odds (Inv : xV → xL → Prop) : Prop := ∀ (a1 a2 a3 : Int32) (V : xV) (L : xL), Inv V L → ∃ (r : Int32) (V1 : xV) (V2 : xV) (L2 : xL), f_Ww_odds a1 a2 a3 V = some (r, V1) ∧ f_Md_odds a1 a2 a3 V1 L = some (r, V2, L2) ∧ Inv V2 L2
def P_plan (Inv : xV → xL → Prop) : Prop := ∀ (a1 a2 a3 a4 : Int32) (V : xV) (L : xL), Inv V L → ∃ (r : Int32) (V1 : xV) (V2 : xV) (L2 : xL), f_Ww_plan a1 a2 a3 a4 V = some (r, V1) ∧ f_Md_plan a1 a2 a3 a4 V1 L = some (r, V2, L2) ∧ Inv V2 L2
def P_found (Inv : xV → xL → Prop) : Prop := ∀ (a1 a2 : Int32) (V : xV) (L : xL), Inv V L → ∃ (r : Int32), f_Ww_found a1 a2 V = some r ∧ f_Md_found a1 a2 V = some r ∧ Inv V L
def P_even (Inv : xV → xL → Prop) : Prop := ∀ (a1 a2 : Int32) (V : xV) (L : xL), Inv V L → ∃ (r : Int32) (V1 : xV) (V2 : xV) (L2 : xL), f_Ww_even a1 a2 V = some (r, V1) ∧ f_Md_even a1 a2 V1 L = some (r, V2, L2) ∧ Inv V2 L2
def P_flood (Inv : xV → xL → Prop) : Prop := ∀ (a1 : Int32) (V : xV) (L : xL), Inv V L → ∃ (r : Int32), f_Ww_flood a1 V = some r ∧ f_Md_flood a1 V = some r ∧ Inv V L
def P_reform (Inv : xV → xL → Prop) : Prop := ∀ (a1 : Int32) (V : xV) (L : xL), Inv V L → ∃ (r : Int32) (V1 : xV) (V2 : xV) (L2 : xL), f_Ww_reform a1 V = some (r, V1) ∧ f_Md_reform a1 V1 L = some (r, V2, L2) ∧ Inv V2 L2
def P_sing (Inv : xV → xL → Prop) : Prop := ∀ (a1 a2 : Int32) (V : xV) (L : xL), Inv V L → ∃ (r : Int32) (V1 : xV) (V2 : xV), f_Ww_sing a1 a2 V = some (r, V1) ∧ f_Md_sing a1 a2 V1 = some (r, V2) ∧ Inv V2 L
def P_heard (Inv : xV → xL → Prop) : Prop := ∀ (a1 a2 : Int32) (V : xV) (L : xL), Inv V L → ∃ (r : Int32) (V1 : xV) (V2 : xV), f_Ww_heard a1 a2 V = some (r, V1) ∧ f_Md_heard a1 a2 V1 = some (r, V2) ∧ Inv V2 L
def P_image (Inv : xV → xL → Prop) : Prop := ∀ (V : xV) (L : xL), Inv V L → ∃ (r : Int32) (V1 : xV) (V2 : xV), f_Ww_image V = (r, V1) ∧ f_Md_image V1 = some (r, V2) ∧ Inv V2 L
def P_back (Inv : xV → xL → Prop) : Prop := ∀ (V : xV) (L : xL), Inv V L → ∃ (r : Int32) (V1 : xV) (V2 : xV), f_Ww_back V = (r, V1) ∧ f_Md_back V1 = some (r, V2) ∧ Inv V2 L
def P_about (Inv : xV → xL → Prop) : Prop := ∀ (a1 : Int32) (V : xV) (L : xL), Inv V L → ∃ (r : Int32), f_Ww_about a1 V = some r ∧ f_Md_about a1 V = some r ∧ Inv V L
def P_all (Inv : xV → xL → Prop) : Prop := P_folk Inv ∧ P_sky Inv ∧ P_skies Inv ∧ P_decree Inv ∧ P_chance Inv ∧ P_ruin Inv ∧ P_feed Inv ∧ P_end Inv ∧ P_text Inv ∧ P_fault Inv ∧ P_by Inv ∧ P_warrant Inv ∧ P_letGo Inv ∧ P_undo Inv ∧ P_of Inv ∧ P_on Inv ∧ P_gain Inv ∧ P_sum Inv ∧ P_ruined Inv ∧ P_led Inv ∧ P_odds Inv ∧ P_plan Inv ∧ P_found Inv ∧ P_even Inv ∧ P_flood Inv ∧ P_reform Inv ∧ P_sing Inv ∧ P_heard Inv ∧ P_image Inv ∧ P_back Inv ∧ P_about Inv
theorem x_lawret {G0 : xG} {b : Nat} {sh : xS} {V : xV} {L : xL} {cu su pc : Nat} {ls : List (Nat × Value)} (hb : sh.length ≤ cu) (hd : decode M_law.2.1 pc = .ok (.ireturn, 1)) (h1 : cu ≤ 600000) (h2 : su ≤ 7302249) : X M_law room_1 (xZ0 G0 #[.ref b] lw_Z) sh V L cu su pc ls [.int 1] := by
  refine x_only fun l p e s m below meth c H locs la hC hz hR hS hl => ?_
  have h : W p l e room_1 s m #[Value.ref b] below meth c H locs cu su (lw_Z below #[Value.ref b] s) (F0 m pc la [.int 1]) := by
    refine va_forget (fun q hq => ?_) ?_
    · have h1 : G0.1 ≤ q.base := hS.2.2 q hq
      omega
    · refine W.widen (k := 600000) (n := 7302249) h1 h2 ?_
      exact lw_ret hC.1 hC.2.1 hC.2.2.1 hC.2.2.2.2.2.2.1 hd
  intro T hT Xs
  obtain ⟨t, a1, b1⟩ := h T hT Xs
  exact ⟨t, a1, fun _ => b1⟩
theorem law_folk {Inv : xV → xL → Prop} {G0 : xG} {b0 : Nat} (h_folk : P_folk Inv) {n k : Nat} (ih : ∀ (k : Nat) (V : xV) (L : xL), k + n = 512 → Inv V L → X M_law room_1 (xZ0 G0 #[.ref b0] lw_Z) SH V L 87 9611 18 [(0, .retAddr 0), (1, .ref 0), (2, .ref 65), (3, .int (nI (6 * k)))] []) (hk : k + (n + 1) = 512) (hlt : 6 * k + 6 ≤ G0.2.2.2.2.1 ∧ G0.2.2.2.2.1 ≤ 3072) (V : xV) (L : xL) (hI : Inv V L) : X M_law room_1 (xZ0 G0 #[.ref b0] lw_Z) SH V L 87 9611 172 [(0, .retAddr 0), (1, .ref 0), (2, .ref 65), (3, .int (nI (6 * k)))] [] := by
  let xs1 := G0.2.2.2.2.2 (6 * k + 1)
  let xs2 := G0.2.2.2.2.2 (6 * k + 2)
  let xs3 := G0.2.2.2.2.2 (6 * k + 3)
  refine x_aload_n 1 d_law_172 rfl rfl ?_
  refine x_aload_nX 0 d_law_173 rfl rfl ?_
  refine x_iload_n 3 d_law_174 rfl rfl ?_
  refine x_iconst 1 d_law_175 (by decide) ?_
  refine x_iadd d_law_176 ?_
  refine x_sload (6 * k + 1) (nI_add _ 1) ⟨by omega, hlt.2⟩ d_law_177 ?_
  refine x_aload_nX 0 d_law_178 rfl rfl ?_
  refine x_iload_n 3 d_law_179 rfl rfl ?_
  refine x_iconst 2 d_law_180 (by decide) ?_
  refine x_iadd d_law_181 ?_
  refine x_sload (6 * k + 2) (nI_add _ 2) ⟨by omega, hlt.2⟩ d_law_182 ?_
  refine x_aload_nX 0 d_law_183 rfl rfl ?_
  refine x_iload_n 3 d_law_184 rfl rfl ?_
  refine x_iconst 3 d_law_185 (by decide) ?_
  refine x_iadd d_law_186 ?_
  refine x_sload (6 * k + 3) (nI_add _ 3) ⟨by omega, hlt.2⟩ d_law_187 ?_
  obtain ⟨r, V1, V2, e1, e2, hI2⟩ := h_folk xs1 xs2 xs3 V L hI
  refine x_callV0 e_Lw_13 sh_0 rfl (as := [.int xs1, .int xs2, .int xs3]) (t_Ww_folk xs1 xs2 xs3 V L _ e1) rfl rfl rfl (Nat.le_of_ble_eq_true rfl) ⟨Nat.le_of_ble_eq_true rfl, Nat.le_of_ble_eq_true rfl⟩ (Nat.le_of_ble_eq_true rfl) (Nat.le_of_ble_eq_true rfl) d_law_188 ?_
  refine x_aload_n 2 d_law_191 rfl rfl ?_
  refine x_aload_nX 0 d_law_192 rfl rfl ?_
  refine x_iload_n 3 d_law_193 rfl rfl ?_
  refine x_iconst 1 d_law_194 (by decide) ?_
  refine x_iadd d_law_195 ?_
  refine x_sload (6 * k + 1) (nI_add _ 1) ⟨by omega, hlt.2⟩ d_law_196 ?_
  refine x_aload_nX 0 d_law_197 rfl rfl ?_
  refine x_iload_n 3 d_law_198 rfl rfl ?_
  refine x_iconst 2 d_law_199 (by decide) ?_
  refine x_iadd d_law_200 ?_
  refine x_sload (6 * k + 2) (nI_add _ 2) ⟨by omega, hlt.2⟩ d_law_201 ?_
  refine x_aload_nX 0 d_law_202 rfl rfl ?_
  refine x_iload_n 3 d_law_203 rfl rfl ?_
  refine x_iconst 3 d_law_204 (by decide) ?_
  refine x_iadd d_law_205 ?_
  refine x_sload (6 * k + 3) (nI_add _ 3) ⟨by omega, hlt.2⟩ d_law_206 ?_
  refine x_callV0 e_Lw_17 sh_65 rfl (as := [.int xs1, .int xs2, .int xs3]) (t_Md_folk xs1 xs2 xs3 V1 L _ e2) rfl rfl rfl (Nat.le_of_ble_eq_true rfl) ⟨Nat.le_of_ble_eq_true rfl, Nat.le_of_ble_eq_true rfl⟩ (Nat.le_of_ble_eq_true rfl) (Nat.le_of_ble_eq_true rfl) d_law_207 ?_
  refine x_icmp_eq 1183 d_law_210 (by decide) (fun _ => ?_) (fun c => absurd rfl c)
  refine x_iinc 3 6 [(3, .int (nI (6 * k) + 6)), (0, .retAddr 0), (1, .ref 0), (2, .ref 65)] d_law_1183 rfl (by decide) (Nat.le_of_ble_eq_true rfl) rfl ?_
  refine x_goto 18 d_law_1186 (by decide) ?_
  have e6 : nI (6 * k) + 6 = nI (6 * (k + 1)) := nI_add (6 * k) 6
  rw [e6]
  refine x_pick [1, 2, 3, 0] rfl ?_
  exact ih (k + 1) V2 L (by omega) hI2
theorem law_sky {Inv : xV → xL → Prop} {G0 : xG} {b0 : Nat} (h_sky : P_sky Inv) {n k : Nat} (ih : ∀ (k : Nat) (V : xV) (L : xL), k + n = 512 → Inv V L → X M_law room_1 (xZ0 G0 #[.ref b0] lw_Z) SH V L 87 9611 18 [(0, .retAddr 0), (1, .ref 0), (2, .ref 65), (3, .int (nI (6 * k)))] []) (hk : k + (n + 1) = 512) (hlt : 6 * k + 6 ≤ G0.2.2.2.2.1 ∧ G0.2.2.2.2.1 ≤ 3072) (V : xV) (L : xL) (hI : Inv V L) : X M_law room_1 (xZ0 G0 #[.ref b0] lw_Z) SH V L 87 9611 215 [(0, .retAddr 0), (1, .ref 0), (2, .ref 65), (3, .int (nI (6 * k)))] [] := by
  let xs1 := G0.2.2.2.2.2 (6 * k + 1)
  let xs2 := G0.2.2.2.2.2 (6 * k + 2)
  refine x_aload_n 1 d_law_215 rfl rfl ?_
  refine x_aload_nX 0 d_law_216 rfl rfl ?_
  refine x_iload_n 3 d_law_217 rfl rfl ?_
  refine x_iconst 1 d_law_218 (by decide) ?_
  refine x_iadd d_law_219 ?_
  refine x_sload (6 * k + 1) (nI_add _ 1) ⟨by omega, hlt.2⟩ d_law_220 ?_
  refine x_aload_nX 0 d_law_221 rfl rfl ?_
  refine x_iload_n 3 d_law_222 rfl rfl ?_
  refine x_iconst 2 d_law_223 (by decide) ?_
  refine x_iadd d_law_224 ?_
  refine x_sload (6 * k + 2) (nI_add _ 2) ⟨by omega, hlt.2⟩ d_law_225 ?_
  obtain ⟨r, V1, V2, e1, e2, hI2⟩ := h_sky xs1 xs2 V L hI
  refine x_callV0 e_Lw_18 sh_0 rfl (as := [.int xs1, .int xs2]) (t_Ww_sky xs1 xs2 V L _ e1) rfl rfl rfl (Nat.le_of_ble_eq_true rfl) ⟨Nat.le_of_ble_eq_true rfl, Nat.le_of_ble_eq_true rfl⟩ (Nat.le_of_ble_eq_true rfl) (Nat.le_of_ble_eq_true rfl) d_law_226 ?_
  refine x_aload_n 2 d_law_229 rfl rfl ?_
  refine x_aload_nX 0 d_law_230 rfl rfl ?_
  refine x_iload_n 3 d_law_231 rfl rfl ?_
  refine x_iconst 1 d_law_232 (by decide) ?_
  refine x_iadd d_law_233 ?_
  refine x_sload (6 * k + 1) (nI_add _ 1) ⟨by omega, hlt.2⟩ d_law_234 ?_
  refine x_aload_nX 0 d_law_235 rfl rfl ?_
  refine x_iload_n 3 d_law_236 rfl rfl ?_
  refine x_iconst 2 d_law_237 (by decide) ?_
  refine x_iadd d_law_238 ?_
  refine x_sload (6 * k + 2) (nI_add _ 2) ⟨by omega, hlt.2⟩ d_law_239 ?_
  refine x_callV0 e_Lw_22 sh_65 rfl (as := [.int xs1, .int xs2]) (t_Md_sky xs1 xs2 V1 L _ e2) rfl rfl rfl (Nat.le_of_ble_eq_true rfl) ⟨Nat.le_of_ble_eq_true rfl, Nat.le_of_ble_eq_true rfl⟩ (Nat.le_of_ble_eq_true rfl) (Nat.le_of_ble_eq_true rfl) d_law_240 ?_
  refine x_icmp_eq 1183 d_law_243 (by decide) (fun _ => ?_) (fun c => absurd rfl c)
  refine x_iinc 3 6 [(3, .int (nI (6 * k) + 6)), (0, .retAddr 0), (1, .ref 0), (2, .ref 65)] d_law_1183 rfl (by decide) (Nat.le_of_ble_eq_true rfl) rfl ?_
  refine x_goto 18 d_law_1186 (by decide) ?_
  have e6 : nI (6 * k) + 6 = nI (6 * (k + 1)) := nI_add (6 * k) 6
  rw [e6]
  refine x_pick [1, 2, 3, 0] rfl ?_
  exact ih (k + 1) V2 L (by omega) hI2
theorem law_skies {Inv : xV → xL → Prop} {G0 : xG} {b0 : Nat} (h_skies : P_skies Inv) {n k : Nat} (ih : ∀ (k : Nat) (V : xV) (L : xL), k + n = 512 → Inv V L → X M_law room_1 (xZ0 G0 #[.ref b0] lw_Z) SH V L 87 9611 18 [(0, .retAddr 0), (1, .ref 0), (2, .ref 65), (3, .int (nI (6 * k)))] []) (hk : k + (n + 1) = 512) (hlt : 6 * k + 6 ≤ G0.2.2.2.2.1 ∧ G0.2.2.2.2.1 ≤ 3072) (V : xV) (L : xL) (hI : Inv V L) : X M_law room_1 (xZ0 G0 #[.ref b0] lw_Z) SH V L 87 9611 248 [(0, .retAddr 0), (1, .ref 0), (2, .ref 65), (3, .int (nI (6 * k)))] [] := by
  let xs1 := G0.2.2.2.2.2 (6 * k + 1)
  refine x_aload_n 1 d_law_248 rfl rfl ?_
  refine x_aload_nX 0 d_law_249 rfl rfl ?_
  refine x_iload_n 3 d_law_250 rfl rfl ?_
  refine x_iconst 1 d_law_251 (by decide) ?_
  refine x_iadd d_law_252 ?_
  refine x_sload (6 * k + 1) (nI_add _ 1) ⟨by omega, hlt.2⟩ d_law_253 ?_
  obtain ⟨r, V1, V2, e1, e2, hI2⟩ := h_skies xs1 V L hI
  refine x_callV0 e_Lw_23 sh_0 rfl (as := [.int xs1]) (t_Ww_skies xs1 V L _ e1) rfl rfl rfl (Nat.le_of_ble_eq_true rfl) ⟨Nat.le_of_ble_eq_true rfl, Nat.le_of_ble_eq_true rfl⟩ (Nat.le_of_ble_eq_true rfl) (Nat.le_of_ble_eq_true rfl) d_law_254 ?_
  refine x_aload_n 2 d_law_257 rfl rfl ?_
  refine x_aload_nX 0 d_law_258 rfl rfl ?_
  refine x_iload_n 3 d_law_259 rfl rfl ?_
  refine x_iconst 1 d_law_260 (by decide) ?_
  refine x_iadd d_law_261 ?_
  refine x_sload (6 * k + 1) (nI_add _ 1) ⟨by omega, hlt.2⟩ d_law_262 ?_
  refine x_callV0 e_Lw_27 sh_65 rfl (as := [.int xs1]) (t_Md_skies xs1 V1 L _ e2) rfl rfl rfl (Nat.le_of_ble_eq_true rfl) ⟨Nat.le_of_ble_eq_true rfl, Nat.le_of_ble_eq_true rfl⟩ (Nat.le_of_ble_eq_true rfl) (Nat.le_of_ble_eq_true rfl) d_law_263 ?_
  refine x_icmp_eq 1183 d_law_266 (by decide) (fun _ => ?_) (fun c => absurd rfl c)
  refine x_iinc 3 6 [(3, .int (nI (6 * k) + 6)), (0, .retAddr 0), (1, .ref 0), (2, .ref 65)] d_law_1183 rfl (by decide) (Nat.le_of_ble_eq_true rfl) rfl ?_
  refine x_goto 18 d_law_1186 (by decide) ?_
  have e6 : nI (6 * k) + 6 = nI (6 * (k + 1)) := nI_add (6 * k) 6
  rw [e6]
  refine x_pick [1, 2, 3, 0] rfl ?_
  exact ih (k + 1) V2 L (by omega) hI2
theorem law_decree {Inv : xV → xL → Prop} {G0 : xG} {b0 : Nat} (h_decree : P_decree Inv) {n k : Nat} (ih : ∀ (k : Nat) (V : xV) (L : xL), k + n = 512 → Inv V L → X M_law room_1 (xZ0 G0 #[.ref b0] lw_Z) SH V L 87 9611 18 [(0, .retAddr 0), (1, .ref 0), (2, .ref 65), (3, .int (nI (6 * k)))] []) (hk : k + (n + 1) = 512) (hlt : 6 * k + 6 ≤ G0.2.2.2.2.1 ∧ G0.2.2.2.2.1 ≤ 3072) (V : xV) (L : xL) (hI : Inv V L) : X M_law room_1 (xZ0 G0 #[.ref b0] lw_Z) SH V L 87 9611 271 [(0, .retAddr 0), (1, .ref 0), (2, .ref 65), (3, .int (nI (6 * k)))] [] := by
  let xs1 := G0.2.2.2.2.2 (6 * k + 1)
  let xs2 := G0.2.2.2.2.2 (6 * k + 2)
  let xs3 := G0.2.2.2.2.2 (6 * k + 3)
  refine x_aload_n 1 d_law_271 rfl rfl ?_
  refine x_aload_nX 0 d_law_272 rfl rfl ?_
  refine x_iload_n 3 d_law_273 rfl rfl ?_
  refine x_iconst 1 d_law_274 (by decide) ?_
  refine x_iadd d_law_275 ?_
  refine x_sload (6 * k + 1) (nI_add _ 1) ⟨by omega, hlt.2⟩ d_law_276 ?_
  refine x_aload_nX 0 d_law_277 rfl rfl ?_
  refine x_iload_n 3 d_law_278 rfl rfl ?_
  refine x_iconst 2 d_law_279 (by decide) ?_
  refine x_iadd d_law_280 ?_
  refine x_sload (6 * k + 2) (nI_add _ 2) ⟨by omega, hlt.2⟩ d_law_281 ?_
  refine x_aload_nX 0 d_law_282 rfl rfl ?_
  refine x_iload_n 3 d_law_283 rfl rfl ?_
  refine x_iconst 3 d_law_284 (by decide) ?_
  refine x_iadd d_law_285 ?_
  refine x_sload (6 * k + 3) (nI_add _ 3) ⟨by omega, hlt.2⟩ d_law_286 ?_
  refine x_bool 294 295 d_law_287 d_law_290 d_law_291 d_law_294 (by decide) (by decide) ?_
  obtain ⟨r, V1, V2, e1, e2, hI2⟩ := h_decree xs1 xs2 (xbool xs3) V L hI (xbool_ok _)
  refine x_callV0 e_Lw_28 sh_0 rfl (as := [.int xs1, .int xs2, .int (xbool xs3)]) (t_Ww_decree xs1 xs2 (xbool xs3) V L _ e1) rfl rfl rfl (Nat.le_of_ble_eq_true rfl) ⟨Nat.le_of_ble_eq_true rfl, Nat.le_of_ble_eq_true rfl⟩ (Nat.le_of_ble_eq_true rfl) (Nat.le_of_ble_eq_true rfl) d_law_295 ?_
  refine x_aload_n 2 d_law_298 rfl rfl ?_
  refine x_aload_nX 0 d_law_299 rfl rfl ?_
  refine x_iload_n 3 d_law_300 rfl rfl ?_
  refine x_iconst 1 d_law_301 (by decide) ?_
  refine x_iadd d_law_302 ?_
  refine x_sload (6 * k + 1) (nI_add _ 1) ⟨by omega, hlt.2⟩ d_law_303 ?_
  refine x_aload_nX 0 d_law_304 rfl rfl ?_
  refine x_iload_n 3 d_law_305 rfl rfl ?_
  refine x_iconst 2 d_law_306 (by decide) ?_
  refine x_iadd d_law_307 ?_
  refine x_sload (6 * k + 2) (nI_add _ 2) ⟨by omega, hlt.2⟩ d_law_308 ?_
  refine x_aload_nX 0 d_law_309 rfl rfl ?_
  refine x_iload_n 3 d_law_310 rfl rfl ?_
  refine x_iconst 3 d_law_311 (by decide) ?_
  refine x_iadd d_law_312 ?_
  refine x_sload (6 * k + 3) (nI_add _ 3) ⟨by omega, hlt.2⟩ d_law_313 ?_
  refine x_bool 321 322 d_law_314 d_law_317 d_law_318 d_law_321 (by decide) (by decide) ?_
  refine x_callV0 e_Lw_32 sh_65 rfl (as := [.int xs1, .int xs2, .int (xbool xs3)]) (t_Md_decree xs1 xs2 (xbool xs3) V1 L _ e2) rfl rfl rfl (Nat.le_of_ble_eq_true rfl) ⟨Nat.le_of_ble_eq_true rfl, Nat.le_of_ble_eq_true rfl⟩ (Nat.le_of_ble_eq_true rfl) (Nat.le_of_ble_eq_true rfl) d_law_322 ?_
  refine x_icmp_eq 1183 d_law_325 (by decide) (fun _ => ?_) (fun c => absurd rfl c)
  refine x_iinc 3 6 [(3, .int (nI (6 * k) + 6)), (0, .retAddr 0), (1, .ref 0), (2, .ref 65)] d_law_1183 rfl (by decide) (Nat.le_of_ble_eq_true rfl) rfl ?_
  refine x_goto 18 d_law_1186 (by decide) ?_
  have e6 : nI (6 * k) + 6 = nI (6 * (k + 1)) := nI_add (6 * k) 6
  rw [e6]
  refine x_pick [1, 2, 3, 0] rfl ?_
  exact ih (k + 1) V2 L (by omega) hI2
theorem law_chance {Inv : xV → xL → Prop} {G0 : xG} {b0 : Nat} (h_chance : P_chance Inv) {n k : Nat} (ih : ∀ (k : Nat) (V : xV) (L : xL), k + n = 512 → Inv V L → X M_law room_1 (xZ0 G0 #[.ref b0] lw_Z) SH V L 87 9611 18 [(0, .retAddr 0), (1, .ref 0), (2, .ref 65), (3, .int (nI (6 * k)))] []) (hk : k + (n + 1) = 512) (hlt : 6 * k + 6 ≤ G0.2.2.2.2.1 ∧ G0.2.2.2.2.1 ≤ 3072) (V : xV) (L : xL) (hI : Inv V L) : X M_law room_1 (xZ0 G0 #[.ref b0] lw_Z) SH V L 87 9611 330 [(0, .retAddr 0), (1, .ref 0), (2, .ref 65), (3, .int (nI (6 * k)))] [] := by
  let xs1 := G0.2.2.2.2.2 (6 * k + 1)
  let xs2 := G0.2.2.2.2.2 (6 * k + 2)
  refine x_aload_n 1 d_law_330 rfl rfl ?_
  refine x_aload_nX 0 d_law_331 rfl rfl ?_
  refine x_iload_n 3 d_law_332 rfl rfl ?_
  refine x_iconst 1 d_law_333 (by decide) ?_
  refine x_iadd d_law_334 ?_
  refine x_sload (6 * k + 1) (nI_add _ 1) ⟨by omega, hlt.2⟩ d_law_335 ?_
  refine x_aload_nX 0 d_law_336 rfl rfl ?_
  refine x_iload_n 3 d_law_337 rfl rfl ?_
  refine x_iconst 2 d_law_338 (by decide) ?_
  refine x_iadd d_law_339 ?_
  refine x_sload (6 * k + 2) (nI_add _ 2) ⟨by omega, hlt.2⟩ d_law_340 ?_
  obtain ⟨r, V1, V2, e1, e2, hI2⟩ := h_chance xs1 xs2 V L hI
  refine x_callV0 e_Lw_33 sh_0 rfl (as := [.int xs1, .int xs2]) (t_Ww_chance xs1 xs2 V L _ e1) rfl rfl rfl (Nat.le_of_ble_eq_true rfl) ⟨Nat.le_of_ble_eq_true rfl, Nat.le_of_ble_eq_true rfl⟩ (Nat.le_of_ble_eq_true rfl) (Nat.le_of_ble_eq_true rfl) d_law_341 ?_
  refine x_aload_n 2 d_law_344 rfl rfl ?_
  refine x_aload_nX 0 d_law_345 rfl rfl ?_
  refine x_iload_n 3 d_law_346 rfl rfl ?_
  refine x_iconst 1 d_law_347 (by decide) ?_
  refine x_iadd d_law_348 ?_
  refine x_sload (6 * k + 1) (nI_add _ 1) ⟨by omega, hlt.2⟩ d_law_349 ?_
  refine x_aload_nX 0 d_law_350 rfl rfl ?_
  refine x_iload_n 3 d_law_351 rfl rfl ?_
  refine x_iconst 2 d_law_352 (by decide) ?_
  refine x_iadd d_law_353 ?_
  refine x_sload (6 * k + 2) (nI_add _ 2) ⟨by omega, hlt.2⟩ d_law_354 ?_
  refine x_callV0 e_Lw_36 sh_65 rfl (as := [.int xs1, .int xs2]) (t_Md_chance xs1 xs2 V1 L _ e2) rfl rfl rfl (Nat.le_of_ble_eq_true rfl) ⟨Nat.le_of_ble_eq_true rfl, Nat.le_of_ble_eq_true rfl⟩ (Nat.le_of_ble_eq_true rfl) (Nat.le_of_ble_eq_true rfl) d_law_355 ?_
  refine x_icmp_eq 1183 d_law_358 (by decide) (fun _ => ?_) (fun c => absurd rfl c)
  refine x_iinc 3 6 [(3, .int (nI (6 * k) + 6)), (0, .retAddr 0), (1, .ref 0), (2, .ref 65)] d_law_1183 rfl (by decide) (Nat.le_of_ble_eq_true rfl) rfl ?_
  refine x_goto 18 d_law_1186 (by decide) ?_
  have e6 : nI (6 * k) + 6 = nI (6 * (k + 1)) := nI_add (6 * k) 6
  rw [e6]
  refine x_pick [1, 2, 3, 0] rfl ?_
  exact ih (k + 1) V2 L (by omega) hI2
theorem law_ruin {Inv : xV → xL → Prop} {G0 : xG} {b0 : Nat} (h_ruin : P_ruin Inv) {n k : Nat} (ih : ∀ (k : Nat) (V : xV) (L : xL), k + n = 512 → Inv V L → X M_law room_1 (xZ0 G0 #[.ref b0] lw_Z) SH V L 87 9611 18 [(0, .retAddr 0), (1, .ref 0), (2, .ref 65), (3, .int (nI (6 * k)))] []) (hk : k + (n + 1) = 512) (hlt : 6 * k + 6 ≤ G0.2.2.2.2.1 ∧ G0.2.2.2.2.1 ≤ 3072) (V : xV) (L : xL) (hI : Inv V L) : X M_law room_1 (xZ0 G0 #[.ref b0] lw_Z) SH V L 87 9611 363 [(0, .retAddr 0), (1, .ref 0), (2, .ref 65), (3, .int (nI (6 * k)))] [] := by
  let xs1 := G0.2.2.2.2.2 (6 * k + 1)
  refine x_aload_n 1 d_law_363 rfl rfl ?_
  refine x_aload_nX 0 d_law_364 rfl rfl ?_
  refine x_iload_n 3 d_law_365 rfl rfl ?_
  refine x_iconst 1 d_law_366 (by decide) ?_
  refine x_iadd d_law_367 ?_
  refine x_sload (6 * k + 1) (nI_add _ 1) ⟨by omega, hlt.2⟩ d_law_368 ?_
  obtain ⟨r, V1, V2, e1, e2, hI2⟩ := h_ruin xs1 V L hI
  refine x_callV0 e_Lw_37 sh_0 rfl (as := [.int xs1]) (t_Ww_ruin xs1 V L _ e1) rfl rfl rfl (Nat.le_of_ble_eq_true rfl) ⟨Nat.le_of_ble_eq_true rfl, Nat.le_of_ble_eq_true rfl⟩ (Nat.le_of_ble_eq_true rfl) (Nat.le_of_ble_eq_true rfl) d_law_369 ?_
  refine x_aload_n 2 d_law_372 rfl rfl ?_
  refine x_aload_nX 0 d_law_373 rfl rfl ?_
  refine x_iload_n 3 d_law_374 rfl rfl ?_
  refine x_iconst 1 d_law_375 (by decide) ?_
  refine x_iadd d_law_376 ?_
  refine x_sload (6 * k + 1) (nI_add _ 1) ⟨by omega, hlt.2⟩ d_law_377 ?_
  refine x_callV0 e_Lw_41 sh_65 rfl (as := [.int xs1]) (t_Md_ruin xs1 V1 L _ e2) rfl rfl rfl (Nat.le_of_ble_eq_true rfl) ⟨Nat.le_of_ble_eq_true rfl, Nat.le_of_ble_eq_true rfl⟩ (Nat.le_of_ble_eq_true rfl) (Nat.le_of_ble_eq_true rfl) d_law_378 ?_
  refine x_icmp_eq 1183 d_law_381 (by decide) (fun _ => ?_) (fun c => absurd rfl c)
  refine x_iinc 3 6 [(3, .int (nI (6 * k) + 6)), (0, .retAddr 0), (1, .ref 0), (2, .ref 65)] d_law_1183 rfl (by decide) (Nat.le_of_ble_eq_true rfl) rfl ?_
  refine x_goto 18 d_law_1186 (by decide) ?_
  have e6 : nI (6 * k) + 6 = nI (6 * (k + 1)) := nI_add (6 * k) 6
  rw [e6]
  refine x_pick [1, 2, 3, 0] rfl ?_
  exact ih (k + 1) V2 L (by omega) hI2
theorem law_feed {Inv : xV → xL → Prop} {G0 : xG} {b0 : Nat} (h_feed : P_feed Inv) {n k : Nat} (ih : ∀ (k : Nat) (V : xV) (L : xL), k + n = 512 → Inv V L → X M_law room_1 (xZ0 G0 #[.ref b0] lw_Z) SH V L 87 9611 18 [(0, .retAddr 0), (1, .ref 0), (2, .ref 65), (3, .int (nI (6 * k)))] []) (hk : k + (n + 1) = 512) (hlt : 6 * k + 6 ≤ G0.2.2.2.2.1 ∧ G0.2.2.2.2.1 ≤ 3072) (V : xV) (L : xL) (hI : Inv V L) : X M_law room_1 (xZ0 G0 #[.ref b0] lw_Z) SH V L 87 9611 386 [(0, .retAddr 0), (1, .ref 0), (2, .ref 65), (3, .int (nI (6 * k)))] [] := by
  let xs1 := G0.2.2.2.2.2 (6 * k + 1)
  let xs2 := G0.2.2.2.2.2 (6 * k + 2)
  let xs3 := G0.2.2.2.2.2 (6 * k + 3)
  let xs4 := G0.2.2.2.2.2 (6 * k + 4)
  let xs5 := G0.2.2.2.2.2 (6 * k + 5)
  refine x_aload_n 1 d_law_386 rfl rfl ?_
  refine x_aload_nX 0 d_law_387 rfl rfl ?_
  refine x_iload_n 3 d_law_388 rfl rfl ?_
  refine x_iconst 1 d_law_389 (by decide) ?_
  refine x_iadd d_law_390 ?_
  refine x_sload (6 * k + 1) (nI_add _ 1) ⟨by omega, hlt.2⟩ d_law_391 ?_
  refine x_aload_nX 0 d_law_392 rfl rfl ?_
  refine x_iload_n 3 d_law_393 rfl rfl ?_
  refine x_iconst 2 d_law_394 (by decide) ?_
  refine x_iadd d_law_395 ?_
  refine x_sload (6 * k + 2) (nI_add _ 2) ⟨by omega, hlt.2⟩ d_law_396 ?_
  refine x_aload_nX 0 d_law_397 rfl rfl ?_
  refine x_iload_n 3 d_law_398 rfl rfl ?_
  refine x_iconst 3 d_law_399 (by decide) ?_
  refine x_iadd d_law_400 ?_
  refine x_sload (6 * k + 3) (nI_add _ 3) ⟨by omega, hlt.2⟩ d_law_401 ?_
  refine x_aload_nX 0 d_law_402 rfl rfl ?_
  refine x_iload_n 3 d_law_403 rfl rfl ?_
  refine x_iconst 4 d_law_404 (by decide) ?_
  refine x_iadd d_law_405 ?_
  refine x_sload (6 * k + 4) (nI_add _ 4) ⟨by omega, hlt.2⟩ d_law_406 ?_
  refine x_aload_nX 0 d_law_407 rfl rfl ?_
  refine x_iload_n 3 d_law_408 rfl rfl ?_
  refine x_iconst 5 d_law_409 (by decide) ?_
  refine x_iadd d_law_410 ?_
  refine x_sload (6 * k + 5) (nI_add _ 5) ⟨by omega, hlt.2⟩ d_law_411 ?_
  obtain ⟨r, V1, V2, e1, e2, hI2⟩ := h_feed xs1 xs2 xs3 xs4 xs5 V L hI
  refine x_callV0 e_Lw_42 sh_0 rfl (as := [.int xs1, .int xs2, .int xs3, .int xs4, .int xs5]) (t_Ww_feed xs1 xs2 xs3 xs4 xs5 V L _ e1) rfl rfl rfl (Nat.le_of_ble_eq_true rfl) ⟨Nat.le_of_ble_eq_true rfl, Nat.le_of_ble_eq_true rfl⟩ (Nat.le_of_ble_eq_true rfl) (Nat.le_of_ble_eq_true rfl) d_law_412 ?_
  refine x_aload_n 2 d_law_415 rfl rfl ?_
  refine x_aload_nX 0 d_law_416 rfl rfl ?_
  refine x_iload_n 3 d_law_417 rfl rfl ?_
  refine x_iconst 1 d_law_418 (by decide) ?_
  refine x_iadd d_law_419 ?_
  refine x_sload (6 * k + 1) (nI_add _ 1) ⟨by omega, hlt.2⟩ d_law_420 ?_
  refine x_aload_nX 0 d_law_421 rfl rfl ?_
  refine x_iload_n 3 d_law_422 rfl rfl ?_
  refine x_iconst 2 d_law_423 (by decide) ?_
  refine x_iadd d_law_424 ?_
  refine x_sload (6 * k + 2) (nI_add _ 2) ⟨by omega, hlt.2⟩ d_law_425 ?_
  refine x_aload_nX 0 d_law_426 rfl rfl ?_
  refine x_iload_n 3 d_law_427 rfl rfl ?_
  refine x_iconst 3 d_law_428 (by decide) ?_
  refine x_iadd d_law_429 ?_
  refine x_sload (6 * k + 3) (nI_add _ 3) ⟨by omega, hlt.2⟩ d_law_430 ?_
  refine x_aload_nX 0 d_law_431 rfl rfl ?_
  refine x_iload_n 3 d_law_432 rfl rfl ?_
  refine x_iconst 4 d_law_433 (by decide) ?_
  refine x_iadd d_law_434 ?_
  refine x_sload (6 * k + 4) (nI_add _ 4) ⟨by omega, hlt.2⟩ d_law_435 ?_
  refine x_aload_nX 0 d_law_436 rfl rfl ?_
  refine x_iload_n 3 d_law_437 rfl rfl ?_
  refine x_iconst 5 d_law_438 (by decide) ?_
  refine x_iadd d_law_439 ?_
  refine x_sload (6 * k + 5) (nI_add _ 5) ⟨by omega, hlt.2⟩ d_law_440 ?_
  refine x_callV0 e_Lw_46 sh_65 rfl (as := [.int xs1, .int xs2, .int xs3, .int xs4, .int xs5]) (t_Md_feed xs1 xs2 xs3 xs4 xs5 V1 L _ e2) rfl rfl rfl (Nat.le_of_ble_eq_true rfl) ⟨Nat.le_of_ble_eq_true rfl, Nat.le_of_ble_eq_true rfl⟩ (Nat.le_of_ble_eq_true rfl) (Nat.le_of_ble_eq_true rfl) d_law_441 ?_
  refine x_icmp_eq 1183 d_law_444 (by decide) (fun _ => ?_) (fun c => absurd rfl c)
  refine x_iinc 3 6 [(3, .int (nI (6 * k) + 6)), (0, .retAddr 0), (1, .ref 0), (2, .ref 65)] d_law_1183 rfl (by decide) (Nat.le_of_ble_eq_true rfl) rfl ?_
  refine x_goto 18 d_law_1186 (by decide) ?_
  have e6 : nI (6 * k) + 6 = nI (6 * (k + 1)) := nI_add (6 * k) 6
  rw [e6]
  refine x_pick [1, 2, 3, 0] rfl ?_
  exact ih (k + 1) V2 L (by omega) hI2
theorem law_end {Inv : xV → xL → Prop} {G0 : xG} {b0 : Nat} (h_end : P_end Inv) {n k : Nat} (ih : ∀ (k : Nat) (V : xV) (L : xL), k + n = 512 → Inv V L → X M_law room_1 (xZ0 G0 #[.ref b0] lw_Z) SH V L 87 9611 18 [(0, .retAddr 0), (1, .ref 0), (2, .ref 65), (3, .int (nI (6 * k)))] []) (hk : k + (n + 1) = 512) (hlt : 6 * k + 6 ≤ G0.2.2.2.2.1 ∧ G0.2.2.2.2.1 ≤ 3072) (V : xV) (L : xL) (hI : Inv V L) : X M_law room_1 (xZ0 G0 #[.ref b0] lw_Z) SH V L 87 9611 449 [(0, .retAddr 0), (1, .ref 0), (2, .ref 65), (3, .int (nI (6 * k)))] [] := by
  let xs1 := G0.2.2.2.2.2 (6 * k + 1)
  refine x_aload_n 1 d_law_449 rfl rfl ?_
  refine x_aload_nX 0 d_law_450 rfl rfl ?_
  refine x_iload_n 3 d_law_451 rfl rfl ?_
  refine x_iconst 1 d_law_452 (by decide) ?_
  refine x_iadd d_law_453 ?_
  refine x_sload (6 * k + 1) (nI_add _ 1) ⟨by omega, hlt.2⟩ d_law_454 ?_
  obtain ⟨r, V1, V2, e1, e2, hI2⟩ := h_end xs1 V L hI
  refine x_callV0 e_Lw_47 sh_0 rfl (as := [.int xs1]) (t_Ww_end xs1 V L _ e1) rfl rfl rfl (Nat.le_of_ble_eq_true rfl) ⟨Nat.le_of_ble_eq_true rfl, Nat.le_of_ble_eq_true rfl⟩ (Nat.le_of_ble_eq_true rfl) (Nat.le_of_ble_eq_true rfl) d_law_455 ?_
  refine x_aload_n 2 d_law_458 rfl rfl ?_
  refine x_aload_nX 0 d_law_459 rfl rfl ?_
  refine x_iload_n 3 d_law_460 rfl rfl ?_
  refine x_iconst 1 d_law_461 (by decide) ?_
  refine x_iadd d_law_462 ?_
  refine x_sload (6 * k + 1) (nI_add _ 1) ⟨by omega, hlt.2⟩ d_law_463 ?_
  refine x_callV0 e_Lw_50 sh_65 rfl (as := [.int xs1]) (t_Md_end xs1 V1 L _ e2) rfl rfl rfl (Nat.le_of_ble_eq_true rfl) ⟨Nat.le_of_ble_eq_true rfl, Nat.le_of_ble_eq_true rfl⟩ (Nat.le_of_ble_eq_true rfl) (Nat.le_of_ble_eq_true rfl) d_law_464 ?_
  refine x_icmp_eq 1183 d_law_467 (by decide) (fun _ => ?_) (fun c => absurd rfl c)
  refine x_iinc 3 6 [(3, .int (nI (6 * k) + 6)), (0, .retAddr 0), (1, .ref 0), (2, .ref 65)] d_law_1183 rfl (by decide) (Nat.le_of_ble_eq_true rfl) rfl ?_
  refine x_goto 18 d_law_1186 (by decide) ?_
  have e6 : nI (6 * k) + 6 = nI (6 * (k + 1)) := nI_add (6 * k) 6
  rw [e6]
  refine x_pick [1, 2, 3, 0] rfl ?_
  exact ih (k + 1) V2 L (by omega) hI2
theorem law_text {Inv : xV → xL → Prop} {G0 : xG} {b0 : Nat} (h_text : P_text Inv) {n k : Nat} (ih : ∀ (k : Nat) (V : xV) (L : xL), k + n = 512 → Inv V L → X M_law room_1 (xZ0 G0 #[.ref b0] lw_Z) SH V L 87 9611 18 [(0, .retAddr 0), (1, .ref 0), (2, .ref 65), (3, .int (nI (6 * k)))] []) (hk : k + (n + 1) = 512) (hlt : 6 * k + 6 ≤ G0.2.2.2.2.1 ∧ G0.2.2.2.2.1 ≤ 3072) (V : xV) (L : xL) (hI : Inv V L) : X M_law room_1 (xZ0 G0 #[.ref b0] lw_Z) SH V L 87 9611 472 [(0, .retAddr 0), (1, .ref 0), (2, .ref 65), (3, .int (nI (6 * k)))] [] := by
  refine x_aload_n 1 d_law_472 rfl rfl ?_
  obtain ⟨r, V1, V2, e1, e2, hI2⟩ := h_text  V L hI
  refine x_callV0 e_Lw_51 sh_0 rfl (as := []) (t_Ww_text V L _ e1) rfl rfl rfl (Nat.le_of_ble_eq_true rfl) ⟨Nat.le_of_ble_eq_true rfl, Nat.le_of_ble_eq_true rfl⟩ (Nat.le_of_ble_eq_true rfl) (Nat.le_of_ble_eq_true rfl) d_law_473 ?_
  refine x_aload_n 2 d_law_476 rfl rfl ?_
  refine x_callV0 e_Lw_55 sh_65 rfl (as := []) (t_Md_text V1 L _ e2) rfl rfl rfl (Nat.le_of_ble_eq_true rfl) ⟨Nat.le_of_ble_eq_true rfl, Nat.le_of_ble_eq_true rfl⟩ (Nat.le_of_ble_eq_true rfl) (Nat.le_of_ble_eq_true rfl) d_law_477 ?_
  refine x_icmp_eq 1183 d_law_480 (by decide) (fun _ => ?_) (fun c => absurd rfl c)
  refine x_iinc 3 6 [(3, .int (nI (6 * k) + 6)), (0, .retAddr 0), (1, .ref 0), (2, .ref 65)] d_law_1183 rfl (by decide) (Nat.le_of_ble_eq_true rfl) rfl ?_
  refine x_goto 18 d_law_1186 (by decide) ?_
  have e6 : nI (6 * k) + 6 = nI (6 * (k + 1)) := nI_add (6 * k) 6
  rw [e6]
  refine x_pick [1, 2, 3, 0] rfl ?_
  exact ih (k + 1) V2 L (by omega) hI2
theorem law_fault {Inv : xV → xL → Prop} {G0 : xG} {b0 : Nat} (h_fault : P_fault Inv) {n k : Nat} (ih : ∀ (k : Nat) (V : xV) (L : xL), k + n = 512 → Inv V L → X M_law room_1 (xZ0 G0 #[.ref b0] lw_Z) SH V L 87 9611 18 [(0, .retAddr 0), (1, .ref 0), (2, .ref 65), (3, .int (nI (6 * k)))] []) (hk : k + (n + 1) = 512) (hlt : 6 * k + 6 ≤ G0.2.2.2.2.1 ∧ G0.2.2.2.2.1 ≤ 3072) (V : xV) (L : xL) (hI : Inv V L) : X M_law room_1 (xZ0 G0 #[.ref b0] lw_Z) SH V L 87 9611 485 [(0, .retAddr 0), (1, .ref 0), (2, .ref 65), (3, .int (nI (6 * k)))] [] := by
  let xs1 := G0.2.2.2.2.2 (6 * k + 1)
  refine x_aload_n 1 d_law_485 rfl rfl ?_
  refine x_aload_nX 0 d_law_486 rfl rfl ?_
  refine x_iload_n 3 d_law_487 rfl rfl ?_
  refine x_iconst 1 d_law_488 (by decide) ?_
  refine x_iadd d_law_489 ?_
  refine x_sload (6 * k + 1) (nI_add _ 1) ⟨by omega, hlt.2⟩ d_law_490 ?_
  obtain ⟨r, e1, e2, hI2⟩ := h_fault xs1 V L hI
  refine x_callV0 e_Lw_56 sh_0 rfl (as := [.int xs1]) (t_Ww_fault xs1 V L _ e1) rfl rfl rfl (Nat.le_of_ble_eq_true rfl) ⟨Nat.le_of_ble_eq_true rfl, Nat.le_of_ble_eq_true rfl⟩ (Nat.le_of_ble_eq_true rfl) (Nat.le_of_ble_eq_true rfl) d_law_491 ?_
  refine x_aload_n 2 d_law_494 rfl rfl ?_
  refine x_aload_nX 0 d_law_495 rfl rfl ?_
  refine x_iload_n 3 d_law_496 rfl rfl ?_
  refine x_iconst 1 d_law_497 (by decide) ?_
  refine x_iadd d_law_498 ?_
  refine x_sload (6 * k + 1) (nI_add _ 1) ⟨by omega, hlt.2⟩ d_law_499 ?_
  refine x_callV0 e_Lw_59 sh_65 rfl (as := [.int xs1]) (t_Md_fault xs1 V L _ e2) rfl rfl rfl (Nat.le_of_ble_eq_true rfl) ⟨Nat.le_of_ble_eq_true rfl, Nat.le_of_ble_eq_true rfl⟩ (Nat.le_of_ble_eq_true rfl) (Nat.le_of_ble_eq_true rfl) d_law_500 ?_
  refine x_icmp_eq 1183 d_law_503 (by decide) (fun _ => ?_) (fun c => absurd rfl c)
  refine x_iinc 3 6 [(3, .int (nI (6 * k) + 6)), (0, .retAddr 0), (1, .ref 0), (2, .ref 65)] d_law_1183 rfl (by decide) (Nat.le_of_ble_eq_true rfl) rfl ?_
  refine x_goto 18 d_law_1186 (by decide) ?_
  have e6 : nI (6 * k) + 6 = nI (6 * (k + 1)) := nI_add (6 * k) 6
  rw [e6]
  refine x_pick [1, 2, 3, 0] rfl ?_
  exact ih (k + 1) V L (by omega) hI2
theorem law_by {Inv : xV → xL → Prop} {G0 : xG} {b0 : Nat} (h_by : P_by Inv) {n k : Nat} (ih : ∀ (k : Nat) (V : xV) (L : xL), k + n = 512 → Inv V L → X M_law room_1 (xZ0 G0 #[.ref b0] lw_Z) SH V L 87 9611 18 [(0, .retAddr 0), (1, .ref 0), (2, .ref 65), (3, .int (nI (6 * k)))] []) (hk : k + (n + 1) = 512) (hlt : 6 * k + 6 ≤ G0.2.2.2.2.1 ∧ G0.2.2.2.2.1 ≤ 3072) (V : xV) (L : xL) (hI : Inv V L) : X M_law room_1 (xZ0 G0 #[.ref b0] lw_Z) SH V L 87 9611 508 [(0, .retAddr 0), (1, .ref 0), (2, .ref 65), (3, .int (nI (6 * k)))] [] := by
  let xs1 := G0.2.2.2.2.2 (6 * k + 1)
  refine x_aload_n 1 d_law_508 rfl rfl ?_
  refine x_aload_nX 0 d_law_509 rfl rfl ?_
  refine x_iload_n 3 d_law_510 rfl rfl ?_
  refine x_iconst 1 d_law_511 (by decide) ?_
  refine x_iadd d_law_512 ?_
  refine x_sload (6 * k + 1) (nI_add _ 1) ⟨by omega, hlt.2⟩ d_law_513 ?_
  obtain ⟨r, V1, V2, e1, e2, hI2⟩ := h_by xs1 V L hI
  refine x_callV0 e_Lw_60 sh_0 rfl (as := [.int xs1]) (t_Ww_by xs1 V L _ e1) rfl rfl rfl (Nat.le_of_ble_eq_true rfl) ⟨Nat.le_of_ble_eq_true rfl, Nat.le_of_ble_eq_true rfl⟩ (Nat.le_of_ble_eq_true rfl) (Nat.le_of_ble_eq_true rfl) d_law_514 ?_
  refine x_aload_n 2 d_law_517 rfl rfl ?_
  refine x_aload_nX 0 d_law_518 rfl rfl ?_
  refine x_iload_n 3 d_law_519 rfl rfl ?_
  refine x_iconst 1 d_law_520 (by decide) ?_
  refine x_iadd d_law_521 ?_
  refine x_sload (6 * k + 1) (nI_add _ 1) ⟨by omega, hlt.2⟩ d_law_522 ?_
  refine x_callV0 e_Lw_63 sh_65 rfl (as := [.int xs1]) (t_Md_by xs1 V1 L _ e2) rfl rfl rfl (Nat.le_of_ble_eq_true rfl) ⟨Nat.le_of_ble_eq_true rfl, Nat.le_of_ble_eq_true rfl⟩ (Nat.le_of_ble_eq_true rfl) (Nat.le_of_ble_eq_true rfl) d_law_523 ?_
  refine x_icmp_eq 1183 d_law_526 (by decide) (fun _ => ?_) (fun c => absurd rfl c)
  refine x_iinc 3 6 [(3, .int (nI (6 * k) + 6)), (0, .retAddr 0), (1, .ref 0), (2, .ref 65)] d_law_1183 rfl (by decide) (Nat.le_of_ble_eq_true rfl) rfl ?_
  refine x_goto 18 d_law_1186 (by decide) ?_
  have e6 : nI (6 * k) + 6 = nI (6 * (k + 1)) := nI_add (6 * k) 6
  rw [e6]
  refine x_pick [1, 2, 3, 0] rfl ?_
  exact ih (k + 1) V2 L (by omega) hI2
theorem law_warrant {Inv : xV → xL → Prop} {G0 : xG} {b0 : Nat} (h_warrant : P_warrant Inv) {n k : Nat} (ih : ∀ (k : Nat) (V : xV) (L : xL), k + n = 512 → Inv V L → X M_law room_1 (xZ0 G0 #[.ref b0] lw_Z) SH V L 87 9611 18 [(0, .retAddr 0), (1, .ref 0), (2, .ref 65), (3, .int (nI (6 * k)))] []) (hk : k + (n + 1) = 512) (hlt : 6 * k + 6 ≤ G0.2.2.2.2.1 ∧ G0.2.2.2.2.1 ≤ 3072) (V : xV) (L : xL) (hI : Inv V L) : X M_law room_1 (xZ0 G0 #[.ref b0] lw_Z) SH V L 87 9611 531 [(0, .retAddr 0), (1, .ref 0), (2, .ref 65), (3, .int (nI (6 * k)))] [] := by
  let xs1 := G0.2.2.2.2.2 (6 * k + 1)
  let xs2 := G0.2.2.2.2.2 (6 * k + 2)
  refine x_aload_n 1 d_law_531 rfl rfl ?_
  refine x_aload_nX 0 d_law_532 rfl rfl ?_
  refine x_iload_n 3 d_law_533 rfl rfl ?_
  refine x_iconst 1 d_law_534 (by decide) ?_
  refine x_iadd d_law_535 ?_
  refine x_sload (6 * k + 1) (nI_add _ 1) ⟨by omega, hlt.2⟩ d_law_536 ?_
  refine x_aload_nX 0 d_law_537 rfl rfl ?_
  refine x_iload_n 3 d_law_538 rfl rfl ?_
  refine x_iconst 2 d_law_539 (by decide) ?_
  refine x_iadd d_law_540 ?_
  refine x_sload (6 * k + 2) (nI_add _ 2) ⟨by omega, hlt.2⟩ d_law_541 ?_
  obtain ⟨r, V1, V2, L2, e1, e2, hI2⟩ := h_warrant xs1 xs2 V L hI
  refine x_callV0 e_Lw_64 sh_0 rfl (as := [.int xs1, .int xs2]) (t_Ww_warrant xs1 xs2 V L _ e1) rfl rfl rfl (Nat.le_of_ble_eq_true rfl) ⟨Nat.le_of_ble_eq_true rfl, Nat.le_of_ble_eq_true rfl⟩ (Nat.le_of_ble_eq_true rfl) (Nat.le_of_ble_eq_true rfl) d_law_542 ?_
  refine x_aload_n 2 d_law_545 rfl rfl ?_
  refine x_aload_nX 0 d_law_546 rfl rfl ?_
  refine x_iload_n 3 d_law_547 rfl rfl ?_
  refine x_iconst 1 d_law_548 (by decide) ?_
  refine x_iadd d_law_549 ?_
  refine x_sload (6 * k + 1) (nI_add _ 1) ⟨by omega, hlt.2⟩ d_law_550 ?_
  refine x_aload_nX 0 d_law_551 rfl rfl ?_
  refine x_iload_n 3 d_law_552 rfl rfl ?_
  refine x_iconst 2 d_law_553 (by decide) ?_
  refine x_iadd d_law_554 ?_
  refine x_sload (6 * k + 2) (nI_add _ 2) ⟨by omega, hlt.2⟩ d_law_555 ?_
  refine x_callV0 e_Lw_68 sh_65 rfl (as := [.int xs1, .int xs2]) (t_Md_warrant xs1 xs2 V1 L _ e2) rfl rfl rfl (Nat.le_of_ble_eq_true rfl) ⟨Nat.le_of_ble_eq_true rfl, Nat.le_of_ble_eq_true rfl⟩ (Nat.le_of_ble_eq_true rfl) (Nat.le_of_ble_eq_true rfl) d_law_556 ?_
  refine x_icmp_eq 1183 d_law_559 (by decide) (fun _ => ?_) (fun c => absurd rfl c)
  refine x_iinc 3 6 [(3, .int (nI (6 * k) + 6)), (0, .retAddr 0), (1, .ref 0), (2, .ref 65)] d_law_1183 rfl (by decide) (Nat.le_of_ble_eq_true rfl) rfl ?_
  refine x_goto 18 d_law_1186 (by decide) ?_
  have e6 : nI (6 * k) + 6 = nI (6 * (k + 1)) := nI_add (6 * k) 6
  rw [e6]
  refine x_pick [1, 2, 3, 0] rfl ?_
  exact ih (k + 1) V2 L2 (by omega) hI2
theorem law_letGo {Inv : xV → xL → Prop} {G0 : xG} {b0 : Nat} (h_letGo : P_letGo Inv) {n k : Nat} (ih : ∀ (k : Nat) (V : xV) (L : xL), k + n = 512 → Inv V L → X M_law room_1 (xZ0 G0 #[.ref b0] lw_Z) SH V L 87 9611 18 [(0, .retAddr 0), (1, .ref 0), (2, .ref 65), (3, .int (nI (6 * k)))] []) (hk : k + (n + 1) = 512) (hlt : 6 * k + 6 ≤ G0.2.2.2.2.1 ∧ G0.2.2.2.2.1 ≤ 3072) (V : xV) (L : xL) (hI : Inv V L) : X M_law room_1 (xZ0 G0 #[.ref b0] lw_Z) SH V L 87 9611 564 [(0, .retAddr 0), (1, .ref 0), (2, .ref 65), (3, .int (nI (6 * k)))] [] := by
  refine x_aload_n 1 d_law_564 rfl rfl ?_
  obtain ⟨r, e1, e2, hI2⟩ := h_letGo  V L hI
  refine x_callV0 e_Lw_69 sh_0 rfl (as := []) (t_Ww_letGo V L _ e1) rfl rfl rfl (Nat.le_of_ble_eq_true rfl) ⟨Nat.le_of_ble_eq_true rfl, Nat.le_of_ble_eq_true rfl⟩ (Nat.le_of_ble_eq_true rfl) (Nat.le_of_ble_eq_true rfl) d_law_565 ?_
  refine x_aload_n 2 d_law_568 rfl rfl ?_
  refine x_callV0 e_Lw_72 sh_65 rfl (as := []) (t_Md_letGo V L _ e2) rfl rfl rfl (Nat.le_of_ble_eq_true rfl) ⟨Nat.le_of_ble_eq_true rfl, Nat.le_of_ble_eq_true rfl⟩ (Nat.le_of_ble_eq_true rfl) (Nat.le_of_ble_eq_true rfl) d_law_569 ?_
  refine x_icmp_eq 1183 d_law_572 (by decide) (fun _ => ?_) (fun c => absurd rfl c)
  refine x_iinc 3 6 [(3, .int (nI (6 * k) + 6)), (0, .retAddr 0), (1, .ref 0), (2, .ref 65)] d_law_1183 rfl (by decide) (Nat.le_of_ble_eq_true rfl) rfl ?_
  refine x_goto 18 d_law_1186 (by decide) ?_
  have e6 : nI (6 * k) + 6 = nI (6 * (k + 1)) := nI_add (6 * k) 6
  rw [e6]
  refine x_pick [1, 2, 3, 0] rfl ?_
  exact ih (k + 1) V L (by omega) hI2
theorem law_undo {Inv : xV → xL → Prop} {G0 : xG} {b0 : Nat} (h_undo : P_undo Inv) {n k : Nat} (ih : ∀ (k : Nat) (V : xV) (L : xL), k + n = 512 → Inv V L → X M_law room_1 (xZ0 G0 #[.ref b0] lw_Z) SH V L 87 9611 18 [(0, .retAddr 0), (1, .ref 0), (2, .ref 65), (3, .int (nI (6 * k)))] []) (hk : k + (n + 1) = 512) (hlt : 6 * k + 6 ≤ G0.2.2.2.2.1 ∧ G0.2.2.2.2.1 ≤ 3072) (V : xV) (L : xL) (hI : Inv V L) : X M_law room_1 (xZ0 G0 #[.ref b0] lw_Z) SH V L 87 9611 577 [(0, .retAddr 0), (1, .ref 0), (2, .ref 65), (3, .int (nI (6 * k)))] [] := by
  refine x_aload_n 1 d_law_577 rfl rfl ?_
  obtain ⟨r, V1, V2, e1, e2, hI2⟩ := h_undo  V L hI
  refine x_callV0 e_Lw_73 sh_0 rfl (as := []) (t_Ww_undo V L _ e1) rfl rfl rfl (Nat.le_of_ble_eq_true rfl) ⟨Nat.le_of_ble_eq_true rfl, Nat.le_of_ble_eq_true rfl⟩ (Nat.le_of_ble_eq_true rfl) (Nat.le_of_ble_eq_true rfl) d_law_578 ?_
  refine x_aload_n 2 d_law_581 rfl rfl ?_
  refine x_callV0 e_Lw_76 sh_65 rfl (as := []) (t_Md_undo V1 L _ e2) rfl rfl rfl (Nat.le_of_ble_eq_true rfl) ⟨Nat.le_of_ble_eq_true rfl, Nat.le_of_ble_eq_true rfl⟩ (Nat.le_of_ble_eq_true rfl) (Nat.le_of_ble_eq_true rfl) d_law_582 ?_
  refine x_icmp_eq 1183 d_law_585 (by decide) (fun _ => ?_) (fun c => absurd rfl c)
  refine x_iinc 3 6 [(3, .int (nI (6 * k) + 6)), (0, .retAddr 0), (1, .ref 0), (2, .ref 65)] d_law_1183 rfl (by decide) (Nat.le_of_ble_eq_true rfl) rfl ?_
  refine x_goto 18 d_law_1186 (by decide) ?_
  have e6 : nI (6 * k) + 6 = nI (6 * (k + 1)) := nI_add (6 * k) 6
  rw [e6]
  refine x_pick [1, 2, 3, 0] rfl ?_
  exact ih (k + 1) V2 L (by omega) hI2
theorem law_of {Inv : xV → xL → Prop} {G0 : xG} {b0 : Nat} (h_of : P_of Inv) {n k : Nat} (ih : ∀ (k : Nat) (V : xV) (L : xL), k + n = 512 → Inv V L → X M_law room_1 (xZ0 G0 #[.ref b0] lw_Z) SH V L 87 9611 18 [(0, .retAddr 0), (1, .ref 0), (2, .ref 65), (3, .int (nI (6 * k)))] []) (hk : k + (n + 1) = 512) (hlt : 6 * k + 6 ≤ G0.2.2.2.2.1 ∧ G0.2.2.2.2.1 ≤ 3072) (V : xV) (L : xL) (hI : Inv V L) : X M_law room_1 (xZ0 G0 #[.ref b0] lw_Z) SH V L 87 9611 590 [(0, .retAddr 0), (1, .ref 0), (2, .ref 65), (3, .int (nI (6 * k)))] [] := by
  let xs1 := G0.2.2.2.2.2 (6 * k + 1)
  let xs2 := G0.2.2.2.2.2 (6 * k + 2)
  let xs3 := G0.2.2.2.2.2 (6 * k + 3)
  refine x_aload_n 1 d_law_590 rfl rfl ?_
  refine x_aload_nX 0 d_law_591 rfl rfl ?_
  refine x_iload_n 3 d_law_592 rfl rfl ?_
  refine x_iconst 1 d_law_593 (by decide) ?_
  refine x_iadd d_law_594 ?_
  refine x_sload (6 * k + 1) (nI_add _ 1) ⟨by omega, hlt.2⟩ d_law_595 ?_
  refine x_aload_nX 0 d_law_596 rfl rfl ?_
  refine x_iload_n 3 d_law_597 rfl rfl ?_
  refine x_iconst 2 d_law_598 (by decide) ?_
  refine x_iadd d_law_599 ?_
  refine x_sload (6 * k + 2) (nI_add _ 2) ⟨by omega, hlt.2⟩ d_law_600 ?_
  refine x_aload_nX 0 d_law_601 rfl rfl ?_
  refine x_iload_n 3 d_law_602 rfl rfl ?_
  refine x_iconst 3 d_law_603 (by decide) ?_
  refine x_iadd d_law_604 ?_
  refine x_sload (6 * k + 3) (nI_add _ 3) ⟨by omega, hlt.2⟩ d_law_605 ?_
  obtain ⟨r, V1, V2, L2, e1, e2, hI2⟩ := h_of xs1 xs2 xs3 V L hI
  refine x_callV0 e_Lw_77 sh_0 rfl (as := [.int xs1, .int xs2, .int xs3]) (t_Ww_of xs1 xs2 xs3 V L _ e1) rfl rfl rfl (Nat.le_of_ble_eq_true rfl) ⟨Nat.le_of_ble_eq_true rfl, Nat.le_of_ble_eq_true rfl⟩ (Nat.le_of_ble_eq_true rfl) (Nat.le_of_ble_eq_true rfl) d_law_606 ?_
  refine x_aload_n 2 d_law_609 rfl rfl ?_
  refine x_aload_nX 0 d_law_610 rfl rfl ?_
  refine x_iload_n 3 d_law_611 rfl rfl ?_
  refine x_iconst 1 d_law_612 (by decide) ?_
  refine x_iadd d_law_613 ?_
  refine x_sload (6 * k + 1) (nI_add _ 1) ⟨by omega, hlt.2⟩ d_law_614 ?_
  refine x_aload_nX 0 d_law_615 rfl rfl ?_
  refine x_iload_n 3 d_law_616 rfl rfl ?_
  refine x_iconst 2 d_law_617 (by decide) ?_
  refine x_iadd d_law_618 ?_
  refine x_sload (6 * k + 2) (nI_add _ 2) ⟨by omega, hlt.2⟩ d_law_619 ?_
  refine x_aload_nX 0 d_law_620 rfl rfl ?_
  refine x_iload_n 3 d_law_621 rfl rfl ?_
  refine x_iconst 3 d_law_622 (by decide) ?_
  refine x_iadd d_law_623 ?_
  refine x_sload (6 * k + 3) (nI_add _ 3) ⟨by omega, hlt.2⟩ d_law_624 ?_
  refine x_callV0 e_Lw_80 sh_65 rfl (as := [.int xs1, .int xs2, .int xs3]) (t_Md_of xs1 xs2 xs3 V1 L _ e2) rfl rfl rfl (Nat.le_of_ble_eq_true rfl) ⟨Nat.le_of_ble_eq_true rfl, Nat.le_of_ble_eq_true rfl⟩ (Nat.le_of_ble_eq_true rfl) (Nat.le_of_ble_eq_true rfl) d_law_625 ?_
  refine x_icmp_eq 1183 d_law_628 (by decide) (fun _ => ?_) (fun c => absurd rfl c)
  refine x_iinc 3 6 [(3, .int (nI (6 * k) + 6)), (0, .retAddr 0), (1, .ref 0), (2, .ref 65)] d_law_1183 rfl (by decide) (Nat.le_of_ble_eq_true rfl) rfl ?_
  refine x_goto 18 d_law_1186 (by decide) ?_
  have e6 : nI (6 * k) + 6 = nI (6 * (k + 1)) := nI_add (6 * k) 6
  rw [e6]
  refine x_pick [1, 2, 3, 0] rfl ?_
  exact ih (k + 1) V2 L2 (by omega) hI2
theorem law_on {Inv : xV → xL → Prop} {G0 : xG} {b0 : Nat} (h_on : P_on Inv) {n k : Nat} (ih : ∀ (k : Nat) (V : xV) (L : xL), k + n = 512 → Inv V L → X M_law room_1 (xZ0 G0 #[.ref b0] lw_Z) SH V L 87 9611 18 [(0, .retAddr 0), (1, .ref 0), (2, .ref 65), (3, .int (nI (6 * k)))] []) (hk : k + (n + 1) = 512) (hlt : 6 * k + 6 ≤ G0.2.2.2.2.1 ∧ G0.2.2.2.2.1 ≤ 3072) (V : xV) (L : xL) (hI : Inv V L) : X M_law room_1 (xZ0 G0 #[.ref b0] lw_Z) SH V L 87 9611 633 [(0, .retAddr 0), (1, .ref 0), (2, .ref 65), (3, .int (nI (6 * k)))] [] := by
  let xs1 := G0.2.2.2.2.2 (6 * k + 1)
  let xs2 := G0.2.2.2.2.2 (6 * k + 2)
  let xs3 := G0.2.2.2.2.2 (6 * k + 3)
  refine x_aload_n 1 d_law_633 rfl rfl ?_
  refine x_aload_nX 0 d_law_634 rfl rfl ?_
  refine x_iload_n 3 d_law_635 rfl rfl ?_
  refine x_iconst 1 d_law_636 (by decide) ?_
  refine x_iadd d_law_637 ?_
  refine x_sload (6 * k + 1) (nI_add _ 1) ⟨by omega, hlt.2⟩ d_law_638 ?_
  refine x_aload_nX 0 d_law_639 rfl rfl ?_
  refine x_iload_n 3 d_law_640 rfl rfl ?_
  refine x_iconst 2 d_law_641 (by decide) ?_
  refine x_iadd d_law_642 ?_
  refine x_sload (6 * k + 2) (nI_add _ 2) ⟨by omega, hlt.2⟩ d_law_643 ?_
  refine x_aload_nX 0 d_law_644 rfl rfl ?_
  refine x_iload_n 3 d_law_645 rfl rfl ?_
  refine x_iconst 3 d_law_646 (by decide) ?_
  refine x_iadd d_law_647 ?_
  refine x_sload (6 * k + 3) (nI_add _ 3) ⟨by omega, hlt.2⟩ d_law_648 ?_
  obtain ⟨r, V1, V2, L2, e1, e2, hI2⟩ := h_on xs1 xs2 xs3 V L hI
  refine x_callV0 e_Lw_81 sh_0 rfl (as := [.int xs1, .int xs2, .int xs3]) (t_Ww_on xs1 xs2 xs3 V L _ e1) rfl rfl rfl (Nat.le_of_ble_eq_true rfl) ⟨Nat.le_of_ble_eq_true rfl, Nat.le_of_ble_eq_true rfl⟩ (Nat.le_of_ble_eq_true rfl) (Nat.le_of_ble_eq_true rfl) d_law_649 ?_
  refine x_aload_n 2 d_law_652 rfl rfl ?_
  refine x_aload_nX 0 d_law_653 rfl rfl ?_
  refine x_iload_n 3 d_law_654 rfl rfl ?_
  refine x_iconst 1 d_law_655 (by decide) ?_
  refine x_iadd d_law_656 ?_
  refine x_sload (6 * k + 1) (nI_add _ 1) ⟨by omega, hlt.2⟩ d_law_657 ?_
  refine x_aload_nX 0 d_law_658 rfl rfl ?_
  refine x_iload_n 3 d_law_659 rfl rfl ?_
  refine x_iconst 2 d_law_660 (by decide) ?_
  refine x_iadd d_law_661 ?_
  refine x_sload (6 * k + 2) (nI_add _ 2) ⟨by omega, hlt.2⟩ d_law_662 ?_
  refine x_aload_nX 0 d_law_663 rfl rfl ?_
  refine x_iload_n 3 d_law_664 rfl rfl ?_
  refine x_iconst 3 d_law_665 (by decide) ?_
  refine x_iadd d_law_666 ?_
  refine x_sload (6 * k + 3) (nI_add _ 3) ⟨by omega, hlt.2⟩ d_law_667 ?_
  refine x_callV0 e_Lw_84 sh_65 rfl (as := [.int xs1, .int xs2, .int xs3]) (t_Md_on xs1 xs2 xs3 V1 L _ e2) rfl rfl rfl (Nat.le_of_ble_eq_true rfl) ⟨Nat.le_of_ble_eq_true rfl, Nat.le_of_ble_eq_true rfl⟩ (Nat.le_of_ble_eq_true rfl) (Nat.le_of_ble_eq_true rfl) d_law_668 ?_
  refine x_icmp_eq 1183 d_law_671 (by decide) (fun _ => ?_) (fun c => absurd rfl c)
  refine x_iinc 3 6 [(3, .int (nI (6 * k) + 6)), (0, .retAddr 0), (1, .ref 0), (2, .ref 65)] d_law_1183 rfl (by decide) (Nat.le_of_ble_eq_true rfl) rfl ?_
  refine x_goto 18 d_law_1186 (by decide) ?_
  have e6 : nI (6 * k) + 6 = nI (6 * (k + 1)) := nI_add (6 * k) 6
  rw [e6]
  refine x_pick [1, 2, 3, 0] rfl ?_
  exact ih (k + 1) V2 L2 (by omega) hI2
theorem law_gain {Inv : xV → xL → Prop} {G0 : xG} {b0 : Nat} (h_gain : P_gain Inv) {n k : Nat} (ih : ∀ (k : Nat) (V : xV) (L : xL), k + n = 512 → Inv V L → X M_law room_1 (xZ0 G0 #[.ref b0] lw_Z) SH V L 87 9611 18 [(0, .retAddr 0), (1, .ref 0), (2, .ref 65), (3, .int (nI (6 * k)))] []) (hk : k + (n + 1) = 512) (hlt : 6 * k + 6 ≤ G0.2.2.2.2.1 ∧ G0.2.2.2.2.1 ≤ 3072) (V : xV) (L : xL) (hI : Inv V L) : X M_law room_1 (xZ0 G0 #[.ref b0] lw_Z) SH V L 87 9611 676 [(0, .retAddr 0), (1, .ref 0), (2, .ref 65), (3, .int (nI (6 * k)))] [] := by
  let xs1 := G0.2.2.2.2.2 (6 * k + 1)
  let xs2 := G0.2.2.2.2.2 (6 * k + 2)
  let xs3 := G0.2.2.2.2.2 (6 * k + 3)
  refine x_aload_n 1 d_law_676 rfl rfl ?_
  refine x_aload_nX 0 d_law_677 rfl rfl ?_
  refine x_iload_n 3 d_law_678 rfl rfl ?_
  refine x_iconst 1 d_law_679 (by decide) ?_
  refine x_iadd d_law_680 ?_
  refine x_sload (6 * k + 1) (nI_add _ 1) ⟨by omega, hlt.2⟩ d_law_681 ?_
  refine x_aload_nX 0 d_law_682 rfl rfl ?_
  refine x_iload_n 3 d_law_683 rfl rfl ?_
  refine x_iconst 2 d_law_684 (by decide) ?_
  refine x_iadd d_law_685 ?_
  refine x_sload (6 * k + 2) (nI_add _ 2) ⟨by omega, hlt.2⟩ d_law_686 ?_
  refine x_aload_nX 0 d_law_687 rfl rfl ?_
  refine x_iload_n 3 d_law_688 rfl rfl ?_
  refine x_iconst 3 d_law_689 (by decide) ?_
  refine x_iadd d_law_690 ?_
  refine x_sload (6 * k + 3) (nI_add _ 3) ⟨by omega, hlt.2⟩ d_law_691 ?_
  refine x_bool 699 700 d_law_692 d_law_695 d_law_696 d_law_699 (by decide) (by decide) ?_
  obtain ⟨r, V1, V2, L2, e1, e2, hI2⟩ := h_gain xs1 xs2 (xbool xs3) V L hI (xbool_ok _)
  refine x_callV0 e_Lw_85 sh_0 rfl (as := [.int xs1, .int xs2, .int (xbool xs3)]) (t_Ww_gain xs1 xs2 (xbool xs3) V L _ e1) rfl rfl rfl (Nat.le_of_ble_eq_true rfl) ⟨Nat.le_of_ble_eq_true rfl, Nat.le_of_ble_eq_true rfl⟩ (Nat.le_of_ble_eq_true rfl) (Nat.le_of_ble_eq_true rfl) d_law_700 ?_
  refine x_aload_n 2 d_law_703 rfl rfl ?_
  refine x_aload_nX 0 d_law_704 rfl rfl ?_
  refine x_iload_n 3 d_law_705 rfl rfl ?_
  refine x_iconst 1 d_law_706 (by decide) ?_
  refine x_iadd d_law_707 ?_
  refine x_sload (6 * k + 1) (nI_add _ 1) ⟨by omega, hlt.2⟩ d_law_708 ?_
  refine x_aload_nX 0 d_law_709 rfl rfl ?_
  refine x_iload_n 3 d_law_710 rfl rfl ?_
  refine x_iconst 2 d_law_711 (by decide) ?_
  refine x_iadd d_law_712 ?_
  refine x_sload (6 * k + 2) (nI_add _ 2) ⟨by omega, hlt.2⟩ d_law_713 ?_
  refine x_aload_nX 0 d_law_714 rfl rfl ?_
  refine x_iload_n 3 d_law_715 rfl rfl ?_
  refine x_iconst 3 d_law_716 (by decide) ?_
  refine x_iadd d_law_717 ?_
  refine x_sload (6 * k + 3) (nI_add _ 3) ⟨by omega, hlt.2⟩ d_law_718 ?_
  refine x_bool 726 727 d_law_719 d_law_722 d_law_723 d_law_726 (by decide) (by decide) ?_
  refine x_callV0 e_Lw_89 sh_65 rfl (as := [.int xs1, .int xs2, .int (xbool xs3)]) (t_Md_gain xs1 xs2 (xbool xs3) V1 L _ e2) rfl rfl rfl (Nat.le_of_ble_eq_true rfl) ⟨Nat.le_of_ble_eq_true rfl, Nat.le_of_ble_eq_true rfl⟩ (Nat.le_of_ble_eq_true rfl) (Nat.le_of_ble_eq_true rfl) d_law_727 ?_
  refine x_icmp_eq 1183 d_law_730 (by decide) (fun _ => ?_) (fun c => absurd rfl c)
  refine x_iinc 3 6 [(3, .int (nI (6 * k) + 6)), (0, .retAddr 0), (1, .ref 0), (2, .ref 65)] d_law_1183 rfl (by decide) (Nat.le_of_ble_eq_true rfl) rfl ?_
  refine x_goto 18 d_law_1186 (by decide) ?_
  have e6 : nI (6 * k) + 6 = nI (6 * (k + 1)) := nI_add (6 * k) 6
  rw [e6]
  refine x_pick [1, 2, 3, 0] rfl ?_
  exact ih (k + 1) V2 L2 (by omega) hI2
theorem law_sum {Inv : xV → xL → Prop} {G0 : xG} {b0 : Nat} (h_sum : P_sum Inv) {n k : Nat} (ih : ∀ (k : Nat) (V : xV) (L : xL), k + n = 512 → Inv V L → X M_law room_1 (xZ0 G0 #[.ref b0] lw_Z) SH V L 87 9611 18 [(0, .retAddr 0), (1, .ref 0), (2, .ref 65), (3, .int (nI (6 * k)))] []) (hk : k + (n + 1) = 512) (hlt : 6 * k + 6 ≤ G0.2.2.2.2.1 ∧ G0.2.2.2.2.1 ≤ 3072) (V : xV) (L : xL) (hI : Inv V L) : X M_law room_1 (xZ0 G0 #[.ref b0] lw_Z) SH V L 87 9611 735 [(0, .retAddr 0), (1, .ref 0), (2, .ref 65), (3, .int (nI (6 * k)))] [] := by
  let xs1 := G0.2.2.2.2.2 (6 * k + 1)
  let xs2 := G0.2.2.2.2.2 (6 * k + 2)
  let xs3 := G0.2.2.2.2.2 (6 * k + 3)
  let xs4 := G0.2.2.2.2.2 (6 * k + 4)
  refine x_aload_n 1 d_law_735 rfl rfl ?_
  refine x_aload_nX 0 d_law_736 rfl rfl ?_
  refine x_iload_n 3 d_law_737 rfl rfl ?_
  refine x_iconst 1 d_law_738 (by decide) ?_
  refine x_iadd d_law_739 ?_
  refine x_sload (6 * k + 1) (nI_add _ 1) ⟨by omega, hlt.2⟩ d_law_740 ?_
  refine x_aload_nX 0 d_law_741 rfl rfl ?_
  refine x_iload_n 3 d_law_742 rfl rfl ?_
  refine x_iconst 2 d_law_743 (by decide) ?_
  refine x_iadd d_law_744 ?_
  refine x_sload (6 * k + 2) (nI_add _ 2) ⟨by omega, hlt.2⟩ d_law_745 ?_
  refine x_aload_nX 0 d_law_746 rfl rfl ?_
  refine x_iload_n 3 d_law_747 rfl rfl ?_
  refine x_iconst 3 d_law_748 (by decide) ?_
  refine x_iadd d_law_749 ?_
  refine x_sload (6 * k + 3) (nI_add _ 3) ⟨by omega, hlt.2⟩ d_law_750 ?_
  refine x_aload_nX 0 d_law_751 rfl rfl ?_
  refine x_iload_n 3 d_law_752 rfl rfl ?_
  refine x_iconst 4 d_law_753 (by decide) ?_
  refine x_iadd d_law_754 ?_
  refine x_sload (6 * k + 4) (nI_add _ 4) ⟨by omega, hlt.2⟩ d_law_755 ?_
  refine x_bool 763 764 d_law_756 d_law_759 d_law_760 d_law_763 (by decide) (by decide) ?_
  obtain ⟨r, V1, V2, L2, e1, e2, hI2⟩ := h_sum xs1 xs2 xs3 (xbool xs4) V L hI (xbool_ok _)
  refine x_callV0 e_Lw_90 sh_0 rfl (as := [.int xs1, .int xs2, .int xs3, .int (xbool xs4)]) (t_Ww_sum xs1 xs2 xs3 (xbool xs4) V L _ e1) rfl rfl rfl (Nat.le_of_ble_eq_true rfl) ⟨Nat.le_of_ble_eq_true rfl, Nat.le_of_ble_eq_true rfl⟩ (Nat.le_of_ble_eq_true rfl) (Nat.le_of_ble_eq_true rfl) d_law_764 ?_
  refine x_aload_n 2 d_law_767 rfl rfl ?_
  refine x_aload_nX 0 d_law_768 rfl rfl ?_
  refine x_iload_n 3 d_law_769 rfl rfl ?_
  refine x_iconst 1 d_law_770 (by decide) ?_
  refine x_iadd d_law_771 ?_
  refine x_sload (6 * k + 1) (nI_add _ 1) ⟨by omega, hlt.2⟩ d_law_772 ?_
  refine x_aload_nX 0 d_law_773 rfl rfl ?_
  refine x_iload_n 3 d_law_774 rfl rfl ?_
  refine x_iconst 2 d_law_775 (by decide) ?_
  refine x_iadd d_law_776 ?_
  refine x_sload (6 * k + 2) (nI_add _ 2) ⟨by omega, hlt.2⟩ d_law_777 ?_
  refine x_aload_nX 0 d_law_778 rfl rfl ?_
  refine x_iload_n 3 d_law_779 rfl rfl ?_
  refine x_iconst 3 d_law_780 (by decide) ?_
  refine x_iadd d_law_781 ?_
  refine x_sload (6 * k + 3) (nI_add _ 3) ⟨by omega, hlt.2⟩ d_law_782 ?_
  refine x_aload_nX 0 d_law_783 rfl rfl ?_
  refine x_iload_n 3 d_law_784 rfl rfl ?_
  refine x_iconst 4 d_law_785 (by decide) ?_
  refine x_iadd d_law_786 ?_
  refine x_sload (6 * k + 4) (nI_add _ 4) ⟨by omega, hlt.2⟩ d_law_787 ?_
  refine x_bool 795 796 d_law_788 d_law_791 d_law_792 d_law_795 (by decide) (by decide) ?_
  refine x_callV0 e_Lw_94 sh_65 rfl (as := [.int xs1, .int xs2, .int xs3, .int (xbool xs4)]) (t_Md_sum xs1 xs2 xs3 (xbool xs4) V1 L _ e2) rfl rfl rfl (Nat.le_of_ble_eq_true rfl) ⟨Nat.le_of_ble_eq_true rfl, Nat.le_of_ble_eq_true rfl⟩ (Nat.le_of_ble_eq_true rfl) (Nat.le_of_ble_eq_true rfl) d_law_796 ?_
  refine x_icmp_eq 1183 d_law_799 (by decide) (fun _ => ?_) (fun c => absurd rfl c)
  refine x_iinc 3 6 [(3, .int (nI (6 * k) + 6)), (0, .retAddr 0), (1, .ref 0), (2, .ref 65)] d_law_1183 rfl (by decide) (Nat.le_of_ble_eq_true rfl) rfl ?_
  refine x_goto 18 d_law_1186 (by decide) ?_
  have e6 : nI (6 * k) + 6 = nI (6 * (k + 1)) := nI_add (6 * k) 6
  rw [e6]
  refine x_pick [1, 2, 3, 0] rfl ?_
  exact ih (k + 1) V2 L2 (by omega) hI2
theorem law_ruined {Inv : xV → xL → Prop} {G0 : xG} {b0 : Nat} (h_ruined : P_ruined Inv) {n k : Nat} (ih : ∀ (k : Nat) (V : xV) (L : xL), k + n = 512 → Inv V L → X M_law room_1 (xZ0 G0 #[.ref b0] lw_Z) SH V L 87 9611 18 [(0, .retAddr 0), (1, .ref 0), (2, .ref 65), (3, .int (nI (6 * k)))] []) (hk : k + (n + 1) = 512) (hlt : 6 * k + 6 ≤ G0.2.2.2.2.1 ∧ G0.2.2.2.2.1 ≤ 3072) (V : xV) (L : xL) (hI : Inv V L) : X M_law room_1 (xZ0 G0 #[.ref b0] lw_Z) SH V L 87 9611 804 [(0, .retAddr 0), (1, .ref 0), (2, .ref 65), (3, .int (nI (6 * k)))] [] := by
  let xs1 := G0.2.2.2.2.2 (6 * k + 1)
  refine x_aload_n 1 d_law_804 rfl rfl ?_
  refine x_aload_nX 0 d_law_805 rfl rfl ?_
  refine x_iload_n 3 d_law_806 rfl rfl ?_
  refine x_iconst 1 d_law_807 (by decide) ?_
  refine x_iadd d_law_808 ?_
  refine x_sload (6 * k + 1) (nI_add _ 1) ⟨by omega, hlt.2⟩ d_law_809 ?_
  obtain ⟨r, V1, V2, L2, e1, e2, hI2⟩ := h_ruined xs1 V L hI
  refine x_callV0 e_Lw_95 sh_0 rfl (as := [.int xs1]) (t_Ww_ruined xs1 V L _ e1) rfl rfl rfl (Nat.le_of_ble_eq_true rfl) ⟨Nat.le_of_ble_eq_true rfl, Nat.le_of_ble_eq_true rfl⟩ (Nat.le_of_ble_eq_true rfl) (Nat.le_of_ble_eq_true rfl) d_law_810 ?_
  refine x_aload_n 2 d_law_813 rfl rfl ?_
  refine x_aload_nX 0 d_law_814 rfl rfl ?_
  refine x_iload_n 3 d_law_815 rfl rfl ?_
  refine x_iconst 1 d_law_816 (by decide) ?_
  refine x_iadd d_law_817 ?_
  refine x_sload (6 * k + 1) (nI_add _ 1) ⟨by omega, hlt.2⟩ d_law_818 ?_
  refine x_callV0 e_Lw_98 sh_65 rfl (as := [.int xs1]) (t_Md_ruined xs1 V1 L _ e2) rfl rfl rfl (Nat.le_of_ble_eq_true rfl) ⟨Nat.le_of_ble_eq_true rfl, Nat.le_of_ble_eq_true rfl⟩ (Nat.le_of_ble_eq_true rfl) (Nat.le_of_ble_eq_true rfl) d_law_819 ?_
  refine x_icmp_eq 1183 d_law_822 (by decide) (fun _ => ?_) (fun c => absurd rfl c)
  refine x_iinc 3 6 [(3, .int (nI (6 * k) + 6)), (0, .retAddr 0), (1, .ref 0), (2, .ref 65)] d_law_1183 rfl (by decide) (Nat.le_of_ble_eq_true rfl) rfl ?_
  refine x_goto 18 d_law_1186 (by decide) ?_
  have e6 : nI (6 * k) + 6 = nI (6 * (k + 1)) := nI_add (6 * k) 6
  rw [e6]
  refine x_pick [1, 2, 3, 0] rfl ?_
  exact ih (k + 1) V2 L2 (by omega) hI2
theorem law_led {Inv : xV → xL → Prop} {G0 : xG} {b0 : Nat} (h_led : P_led Inv) {n k : Nat} (ih : ∀ (k : Nat) (V : xV) (L : xL), k + n = 512 → Inv V L → X M_law room_1 (xZ0 G0 #[.ref b0] lw_Z) SH V L 87 9611 18 [(0, .retAddr 0), (1, .ref 0), (2, .ref 65), (3, .int (nI (6 * k)))] []) (hk : k + (n + 1) = 512) (hlt : 6 * k + 6 ≤ G0.2.2.2.2.1 ∧ G0.2.2.2.2.1 ≤ 3072) (V : xV) (L : xL) (hI : Inv V L) : X M_law room_1 (xZ0 G0 #[.ref b0] lw_Z) SH V L 87 9611 827 [(0, .retAddr 0), (1, .ref 0), (2, .ref 65), (3, .int (nI (6 * k)))] [] := by
  let xs1 := G0.2.2.2.2.2 (6 * k + 1)
  let xs2 := G0.2.2.2.2.2 (6 * k + 2)
  refine x_aload_n 1 d_law_827 rfl rfl ?_
  refine x_aload_nX 0 d_law_828 rfl rfl ?_
  refine x_iload_n 3 d_law_829 rfl rfl ?_
  refine x_iconst 1 d_law_830 (by decide) ?_
  refine x_iadd d_law_831 ?_
  refine x_sload (6 * k + 1) (nI_add _ 1) ⟨by omega, hlt.2⟩ d_law_832 ?_
  refine x_aload_nX 0 d_law_833 rfl rfl ?_
  refine x_iload_n 3 d_law_834 rfl rfl ?_
  refine x_iconst 2 d_law_835 (by decide) ?_
  refine x_iadd d_law_836 ?_
  refine x_sload (6 * k + 2) (nI_add _ 2) ⟨by omega, hlt.2⟩ d_law_837 ?_
  obtain ⟨r, V1, V2, L2, e1, e2, hI2⟩ := h_led xs1 xs2 V L hI
  refine x_callV0 e_Lw_99 sh_0 rfl (as := [.int xs1, .int xs2]) (t_Ww_led xs1 xs2 V L _ e1) rfl rfl rfl (Nat.le_of_ble_eq_true rfl) ⟨Nat.le_of_ble_eq_true rfl, Nat.le_of_ble_eq_true rfl⟩ (Nat.le_of_ble_eq_true rfl) (Nat.le_of_ble_eq_true rfl) d_law_838 ?_
  refine x_aload_n 2 d_law_841 rfl rfl ?_
  refine x_aload_nX 0 d_law_842 rfl rfl ?_
  refine x_iload_n 3 d_law_843 rfl rfl ?_
  refine x_iconst 1 d_law_844 (by decide) ?_
  refine x_iadd d_law_845 ?_
  refine x_sload (6 * k + 1) (nI_add _ 1) ⟨by omega, hlt.2⟩ d_law_846 ?_
  refine x_aload_nX 0 d_law_847 rfl rfl ?_
  refine x_iload_n 3 d_law_848 rfl rfl ?_
  refine x_iconst 2 d_law_849 (by decide) ?_
  refine x_iadd d_law_850 ?_
  refine x_sload (6 * k + 2) (nI_add _ 2) ⟨by omega, hlt.2⟩ d_law_851 ?_
  refine x_callV0 e_Lw_102 sh_65 rfl (as := [.int xs1, .int xs2]) (t_Md_led xs1 xs2 V1 L _ e2) rfl rfl rfl (Nat.le_of_ble_eq_true rfl) ⟨Nat.le_of_ble_eq_true rfl, Nat.le_of_ble_eq_true rfl⟩ (Nat.le_of_ble_eq_true rfl) (Nat.le_of_ble_eq_true rfl) d_law_852 ?_
  refine x_icmp_eq 1183 d_law_855 (by decide) (fun _ => ?_) (fun c => absurd rfl c)
  refine x_iinc 3 6 [(3, .int (nI (6 * k) + 6)), (0, .retAddr 0), (1, .ref 0), (2, .ref 65)] d_law_1183 rfl (by decide) (Nat.le_of_ble_eq_true rfl) rfl ?_
  refine x_goto 18 d_law_1186 (by decide) ?_
  have e6 : nI (6 * k) + 6 = nI (6 * (k + 1)) := nI_add (6 * k) 6
  rw [e6]
  refine x_pick [1, 2, 3, 0] rfl ?_
  exact ih (k + 1) V2 L2 (by omega) hI2
theorem law_odds {Inv : xV → xL → Prop} {G0 : xG} {b0 : Nat} (h_odds : P_odds Inv) {n k : Nat} (ih : ∀ (k : Nat) (V : xV) (L : xL), k + n = 512 → Inv V L → X M_law room_1 (xZ0 G0 #[.ref b0] lw_Z) SH V L 87 9611 18 [(0, .retAddr 0), (1, .ref 0), (2, .ref 65), (3, .int (nI (6 * k)))] []) (hk : k + (n + 1) = 512) (hlt : 6 * k + 6 ≤ G0.2.2.2.2.1 ∧ G0.2.2.2.2.1 ≤ 3072) (V : xV) (L : xL) (hI : Inv V L) : X M_law room_1 (xZ0 G0 #[.ref b0] lw_Z) SH V L 87 9611 860 [(0, .retAddr 0), (1, .ref 0), (2, .ref 65), (3, .int (nI (6 * k)))] [] := by
  let xs1 := G0.2.2.2.2.2 (6 * k + 1)
  let xs2 := G0.2.2.2.2.2 (6 * k + 2)
  let xs3 := G0.2.2.2.2.2 (6 * k + 3)
  refine x_aload_n 1 d_law_860 rfl rfl ?_
  refine x_aload_nX 0 d_law_861 rfl rfl ?_
  refine x_iload_n 3 d_law_862 rfl rfl ?_
  refine x_iconst 1 d_law_863 (by decide) ?_
  refine x_iadd d_law_864 ?_
  refine x_sload (6 * k + 1) (nI_add _ 1) ⟨by omega, hlt.2⟩ d_law_865 ?_
  refine x_aload_nX 0 d_law_866 rfl rfl ?_
  refine x_iload_n 3 d_law_867 rfl rfl ?_
  refine x_iconst 2 d_law_868 (by decide) ?_
  refine x_iadd d_law_869 ?_
  refine x_sload (6 * k + 2) (nI_add _ 2) ⟨by omega, hlt.2⟩ d_law_870 ?_
  refine x_aload_nX 0 d_law_871 rfl rfl ?_
  refine x_iload_n 3 d_law_872 rfl rfl ?_
  refine x_iconst 3 d_law_873 (by decide) ?_
  refine x_iadd d_law_874 ?_
  refine x_sload (6 * k + 3) (nI_add _ 3) ⟨by omega, hlt.2⟩ d_law_875 ?_
  obtain ⟨r, V1, V2, L2, e1, e2, hI2⟩ := h_odds xs1 xs2 xs3 V L hI
  refine x_callV0 e_Lw_103 sh_0 rfl (as := [.int xs1, .int xs2, .int xs3]) (t_Ww_odds xs1 xs2 xs3 V L _ e1) rfl rfl rfl (Nat.le_of_ble_eq_true rfl) ⟨Nat.le_of_ble_eq_true rfl, Nat.le_of_ble_eq_true rfl⟩ (Nat.le_of_ble_eq_true rfl) (Nat.le_of_ble_eq_true rfl) d_law_876 ?_
  refine x_aload_n 2 d_law_879 rfl rfl ?_
  refine x_aload_nX 0 d_law_880 rfl rfl ?_
  refine x_iload_n 3 d_law_881 rfl rfl ?_
  refine x_iconst 1 d_law_882 (by decide) ?_
  refine x_iadd d_law_883 ?_
  refine x_sload (6 * k + 1) (nI_add _ 1) ⟨by omega, hlt.2⟩ d_law_884 ?_
  refine x_aload_nX 0 d_law_885 rfl rfl ?_
  refine x_iload_n 3 d_law_886 rfl rfl ?_
  refine x_iconst 2 d_law_887 (by decide) ?_
  refine x_iadd d_law_888 ?_
  refine x_sload (6 * k + 2) (nI_add _ 2) ⟨by omega, hlt.2⟩ d_law_889 ?_
  refine x_aload_nX 0 d_law_890 rfl rfl ?_
  refine x_iload_n 3 d_law_891 rfl rfl ?_
  refine x_iconst 3 d_law_892 (by decide) ?_
  refine x_iadd d_law_893 ?_
  refine x_sload (6 * k + 3) (nI_add _ 3) ⟨by omega, hlt.2⟩ d_law_894 ?_
  refine x_callV0 e_Lw_106 sh_65 rfl (as := [.int xs1, .int xs2, .int xs3]) (t_Md_odds xs1 xs2 xs3 V1 L _ e2) rfl rfl rfl (Nat.le_of_ble_eq_true rfl) ⟨Nat.le_of_ble_eq_true rfl, Nat.le_of_ble_eq_true rfl⟩ (Nat.le_of_ble_eq_true rfl) (Nat.le_of_ble_eq_true rfl) d_law_895 ?_
  refine x_icmp_eq 1183 d_law_898 (by decide) (fun _ => ?_) (fun c => absurd rfl c)
  refine x_iinc 3 6 [(3, .int (nI (6 * k) + 6)), (0, .retAddr 0), (1, .ref 0), (2, .ref 65)] d_law_1183 rfl (by decide) (Nat.le_of_ble_eq_true rfl) rfl ?_
  refine x_goto 18 d_law_1186 (by decide) ?_
  have e6 : nI (6 * k) + 6 = nI (6 * (k + 1)) := nI_add (6 * k) 6
  rw [e6]
  refine x_pick [1, 2, 3, 0] rfl ?_
  exact ih (k + 1) V2 L2 (by omega) hI2
theorem law_plan {Inv : xV → xL → Prop} {G0 : xG} {b0 : Nat} (h_plan : P_plan Inv) {n k : Nat} (ih : ∀ (k : Nat) (V : xV) (L : xL), k + n = 512 → Inv V L → X M_law room_1 (xZ0 G0 #[.ref b0] lw_Z) SH V L 87 9611 18 [(0, .retAddr 0), (1, .ref 0), (2, .ref 65), (3, .int (nI (6 * k)))] []) (hk : k + (n + 1) = 512) (hlt : 6 * k + 6 ≤ G0.2.2.2.2.1 ∧ G0.2.2.2.2.1 ≤ 3072) (V : xV) (L : xL) (hI : Inv V L) : X M_law room_1 (xZ0 G0 #[.ref b0] lw_Z) SH V L 87 9611 903 [(0, .retAddr 0), (1, .ref 0), (2, .ref 65), (3, .int (nI (6 * k)))] [] := by
  let xs1 := G0.2.2.2.2.2 (6 * k + 1)
  let xs2 := G0.2.2.2.2.2 (6 * k + 2)
  let xs3 := G0.2.2.2.2.2 (6 * k + 3)
  let xs4 := G0.2.2.2.2.2 (6 * k + 4)
  refine x_aload_n 1 d_law_903 rfl rfl ?_
  refine x_aload_nX 0 d_law_904 rfl rfl ?_
  refine x_iload_n 3 d_law_905 rfl rfl ?_
  refine x_iconst 1 d_law_906 (by decide) ?_
  refine x_iadd d_law_907 ?_
  refine x_sload (6 * k + 1) (nI_add _ 1) ⟨by omega, hlt.2⟩ d_law_908 ?_
  refine x_aload_nX 0 d_law_909 rfl rfl ?_
  refine x_iload_n 3 d_law_910 rfl rfl ?_
  refine x_iconst 2 d_law_911 (by decide) ?_
  refine x_iadd d_law_912 ?_
  refine x_sload (6 * k + 2) (nI_add _ 2) ⟨by omega, hlt.2⟩ d_law_913 ?_
  refine x_aload_nX 0 d_law_914 rfl rfl ?_
  refine x_iload_n 3 d_law_915 rfl rfl ?_
  refine x_iconst 3 d_law_916 (by decide) ?_
  refine x_iadd d_law_917 ?_
  refine x_sload (6 * k + 3) (nI_add _ 3) ⟨by omega, hlt.2⟩ d_law_918 ?_
  refine x_aload_nX 0 d_law_919 rfl rfl ?_
  refine x_iload_n 3 d_law_920 rfl rfl ?_
  refine x_iconst 4 d_law_921 (by decide) ?_
  refine x_iadd d_law_922 ?_
  refine x_sload (6 * k + 4) (nI_add _ 4) ⟨by omega, hlt.2⟩ d_law_923 ?_
  obtain ⟨r, V1, V2, L2, e1, e2, hI2⟩ := h_plan xs1 xs2 xs3 xs4 V L hI
  refine x_callV0 e_Lw_107 sh_0 rfl (as := [.int xs1, .int xs2, .int xs3, .int xs4]) (t_Ww_plan xs1 xs2 xs3 xs4 V L _ e1) rfl rfl rfl (Nat.le_of_ble_eq_true rfl) ⟨Nat.le_of_ble_eq_true rfl, Nat.le_of_ble_eq_true rfl⟩ (Nat.le_of_ble_eq_true rfl) (Nat.le_of_ble_eq_true rfl) d_law_924 ?_
  refine x_aload_n 2 d_law_927 rfl rfl ?_
  refine x_aload_nX 0 d_law_928 rfl rfl ?_
  refine x_iload_n 3 d_law_929 rfl rfl ?_
  refine x_iconst 1 d_law_930 (by decide) ?_
  refine x_iadd d_law_931 ?_
  refine x_sload (6 * k + 1) (nI_add _ 1) ⟨by omega, hlt.2⟩ d_law_932 ?_
  refine x_aload_nX 0 d_law_933 rfl rfl ?_
  refine x_iload_n 3 d_law_934 rfl rfl ?_
  refine x_iconst 2 d_law_935 (by decide) ?_
  refine x_iadd d_law_936 ?_
  refine x_sload (6 * k + 2) (nI_add _ 2) ⟨by omega, hlt.2⟩ d_law_937 ?_
  refine x_aload_nX 0 d_law_938 rfl rfl ?_
  refine x_iload_n 3 d_law_939 rfl rfl ?_
  refine x_iconst 3 d_law_940 (by decide) ?_
  refine x_iadd d_law_941 ?_
  refine x_sload (6 * k + 3) (nI_add _ 3) ⟨by omega, hlt.2⟩ d_law_942 ?_
  refine x_aload_nX 0 d_law_943 rfl rfl ?_
  refine x_iload_n 3 d_law_944 rfl rfl ?_
  refine x_iconst 4 d_law_945 (by decide) ?_
  refine x_iadd d_law_946 ?_
  refine x_sload (6 * k + 4) (nI_add _ 4) ⟨by omega, hlt.2⟩ d_law_947 ?_
  refine x_callV0 e_Lw_111 sh_65 rfl (as := [.int xs1, .int xs2, .int xs3, .int xs4]) (t_Md_plan xs1 xs2 xs3 xs4 V1 L _ e2) rfl rfl rfl (Nat.le_of_ble_eq_true rfl) ⟨Nat.le_of_ble_eq_true rfl, Nat.le_of_ble_eq_true rfl⟩ (Nat.le_of_ble_eq_true rfl) (Nat.le_of_ble_eq_true rfl) d_law_948 ?_
  refine x_icmp_eq 1183 d_law_951 (by decide) (fun _ => ?_) (fun c => absurd rfl c)
  refine x_iinc 3 6 [(3, .int (nI (6 * k) + 6)), (0, .retAddr 0), (1, .ref 0), (2, .ref 65)] d_law_1183 rfl (by decide) (Nat.le_of_ble_eq_true rfl) rfl ?_
  refine x_goto 18 d_law_1186 (by decide) ?_
  have e6 : nI (6 * k) + 6 = nI (6 * (k + 1)) := nI_add (6 * k) 6
  rw [e6]
  refine x_pick [1, 2, 3, 0] rfl ?_
  exact ih (k + 1) V2 L2 (by omega) hI2
theorem law_found {Inv : xV → xL → Prop} {G0 : xG} {b0 : Nat} (h_found : P_found Inv) {n k : Nat} (ih : ∀ (k : Nat) (V : xV) (L : xL), k + n = 512 → Inv V L → X M_law room_1 (xZ0 G0 #[.ref b0] lw_Z) SH V L 87 9611 18 [(0, .retAddr 0), (1, .ref 0), (2, .ref 65), (3, .int (nI (6 * k)))] []) (hk : k + (n + 1) = 512) (hlt : 6 * k + 6 ≤ G0.2.2.2.2.1 ∧ G0.2.2.2.2.1 ≤ 3072) (V : xV) (L : xL) (hI : Inv V L) : X M_law room_1 (xZ0 G0 #[.ref b0] lw_Z) SH V L 87 9611 956 [(0, .retAddr 0), (1, .ref 0), (2, .ref 65), (3, .int (nI (6 * k)))] [] := by
  let xs1 := G0.2.2.2.2.2 (6 * k + 1)
  let xs2 := G0.2.2.2.2.2 (6 * k + 2)
  refine x_aload_n 1 d_law_956 rfl rfl ?_
  refine x_aload_nX 0 d_law_957 rfl rfl ?_
  refine x_iload_n 3 d_law_958 rfl rfl ?_
  refine x_iconst 1 d_law_959 (by decide) ?_
  refine x_iadd d_law_960 ?_
  refine x_sload (6 * k + 1) (nI_add _ 1) ⟨by omega, hlt.2⟩ d_law_961 ?_
  refine x_aload_nX 0 d_law_962 rfl rfl ?_
  refine x_iload_n 3 d_law_963 rfl rfl ?_
  refine x_iconst 2 d_law_964 (by decide) ?_
  refine x_iadd d_law_965 ?_
  refine x_sload (6 * k + 2) (nI_add _ 2) ⟨by omega, hlt.2⟩ d_law_966 ?_
  obtain ⟨r, e1, e2, hI2⟩ := h_found xs1 xs2 V L hI
  refine x_callV0 e_Lw_112 sh_0 rfl (as := [.int xs1, .int xs2]) (t_Ww_found xs1 xs2 V L _ e1) rfl rfl rfl (Nat.le_of_ble_eq_true rfl) ⟨Nat.le_of_ble_eq_true rfl, Nat.le_of_ble_eq_true rfl⟩ (Nat.le_of_ble_eq_true rfl) (Nat.le_of_ble_eq_true rfl) d_law_967 ?_
  refine x_aload_n 2 d_law_970 rfl rfl ?_
  refine x_aload_nX 0 d_law_971 rfl rfl ?_
  refine x_iload_n 3 d_law_972 rfl rfl ?_
  refine x_iconst 1 d_law_973 (by decide) ?_
  refine x_iadd d_law_974 ?_
  refine x_sload (6 * k + 1) (nI_add _ 1) ⟨by omega, hlt.2⟩ d_law_975 ?_
  refine x_aload_nX 0 d_law_976 rfl rfl ?_
  refine x_iload_n 3 d_law_977 rfl rfl ?_
  refine x_iconst 2 d_law_978 (by decide) ?_
  refine x_iadd d_law_979 ?_
  refine x_sload (6 * k + 2) (nI_add _ 2) ⟨by omega, hlt.2⟩ d_law_980 ?_
  refine x_callV0 e_Lw_115 sh_65 rfl (as := [.int xs1, .int xs2]) (t_Md_found xs1 xs2 V L _ e2) rfl rfl rfl (Nat.le_of_ble_eq_true rfl) ⟨Nat.le_of_ble_eq_true rfl, Nat.le_of_ble_eq_true rfl⟩ (Nat.le_of_ble_eq_true rfl) (Nat.le_of_ble_eq_true rfl) d_law_981 ?_
  refine x_icmp_eq 1183 d_law_984 (by decide) (fun _ => ?_) (fun c => absurd rfl c)
  refine x_iinc 3 6 [(3, .int (nI (6 * k) + 6)), (0, .retAddr 0), (1, .ref 0), (2, .ref 65)] d_law_1183 rfl (by decide) (Nat.le_of_ble_eq_true rfl) rfl ?_
  refine x_goto 18 d_law_1186 (by decide) ?_
  have e6 : nI (6 * k) + 6 = nI (6 * (k + 1)) := nI_add (6 * k) 6
  rw [e6]
  refine x_pick [1, 2, 3, 0] rfl ?_
  exact ih (k + 1) V L (by omega) hI2
theorem law_even {Inv : xV → xL → Prop} {G0 : xG} {b0 : Nat} (h_even : P_even Inv) {n k : Nat} (ih : ∀ (k : Nat) (V : xV) (L : xL), k + n = 512 → Inv V L → X M_law room_1 (xZ0 G0 #[.ref b0] lw_Z) SH V L 87 9611 18 [(0, .retAddr 0), (1, .ref 0), (2, .ref 65), (3, .int (nI (6 * k)))] []) (hk : k + (n + 1) = 512) (hlt : 6 * k + 6 ≤ G0.2.2.2.2.1 ∧ G0.2.2.2.2.1 ≤ 3072) (V : xV) (L : xL) (hI : Inv V L) : X M_law room_1 (xZ0 G0 #[.ref b0] lw_Z) SH V L 87 9611 989 [(0, .retAddr 0), (1, .ref 0), (2, .ref 65), (3, .int (nI (6 * k)))] [] := by
  let xs1 := G0.2.2.2.2.2 (6 * k + 1)
  let xs2 := G0.2.2.2.2.2 (6 * k + 2)
  refine x_aload_n 1 d_law_989 rfl rfl ?_
  refine x_aload_nX 0 d_law_990 rfl rfl ?_
  refine x_iload_n 3 d_law_991 rfl rfl ?_
  refine x_iconst 1 d_law_992 (by decide) ?_
  refine x_iadd d_law_993 ?_
  refine x_sload (6 * k + 1) (nI_add _ 1) ⟨by omega, hlt.2⟩ d_law_994 ?_
  refine x_aload_nX 0 d_law_995 rfl rfl ?_
  refine x_iload_n 3 d_law_996 rfl rfl ?_
  refine x_iconst 2 d_law_997 (by decide) ?_
  refine x_iadd d_law_998 ?_
  refine x_sload (6 * k + 2) (nI_add _ 2) ⟨by omega, hlt.2⟩ d_law_999 ?_
  obtain ⟨r, V1, V2, L2, e1, e2, hI2⟩ := h_even xs1 xs2 V L hI
  refine x_callV0 e_Lw_116 sh_0 rfl (as := [.int xs1, .int xs2]) (t_Ww_even xs1 xs2 V L _ e1) rfl rfl rfl (Nat.le_of_ble_eq_true rfl) ⟨Nat.le_of_ble_eq_true rfl, Nat.le_of_ble_eq_true rfl⟩ (Nat.le_of_ble_eq_true rfl) (Nat.le_of_ble_eq_true rfl) d_law_1000 ?_
  refine x_aload_n 2 d_law_1003 rfl rfl ?_
  refine x_aload_nX 0 d_law_1004 rfl rfl ?_
  refine x_iload_n 3 d_law_1005 rfl rfl ?_
  refine x_iconst 1 d_law_1006 (by decide) ?_
  refine x_iadd d_law_1007 ?_
  refine x_sload (6 * k + 1) (nI_add _ 1) ⟨by omega, hlt.2⟩ d_law_1008 ?_
  refine x_aload_nX 0 d_law_1009 rfl rfl ?_
  refine x_iload_n 3 d_law_1010 rfl rfl ?_
  refine x_iconst 2 d_law_1011 (by decide) ?_
  refine x_iadd d_law_1012 ?_
  refine x_sload (6 * k + 2) (nI_add _ 2) ⟨by omega, hlt.2⟩ d_law_1013 ?_
  refine x_callV0 e_Lw_119 sh_65 rfl (as := [.int xs1, .int xs2]) (t_Md_even xs1 xs2 V1 L _ e2) rfl rfl rfl (Nat.le_of_ble_eq_true rfl) ⟨Nat.le_of_ble_eq_true rfl, Nat.le_of_ble_eq_true rfl⟩ (Nat.le_of_ble_eq_true rfl) (Nat.le_of_ble_eq_true rfl) d_law_1014 ?_
  refine x_icmp_eq 1183 d_law_1017 (by decide) (fun _ => ?_) (fun c => absurd rfl c)
  refine x_iinc 3 6 [(3, .int (nI (6 * k) + 6)), (0, .retAddr 0), (1, .ref 0), (2, .ref 65)] d_law_1183 rfl (by decide) (Nat.le_of_ble_eq_true rfl) rfl ?_
  refine x_goto 18 d_law_1186 (by decide) ?_
  have e6 : nI (6 * k) + 6 = nI (6 * (k + 1)) := nI_add (6 * k) 6
  rw [e6]
  refine x_pick [1, 2, 3, 0] rfl ?_
  exact ih (k + 1) V2 L2 (by omega) hI2
theorem law_flood {Inv : xV → xL → Prop} {G0 : xG} {b0 : Nat} (h_flood : P_flood Inv) {n k : Nat} (ih : ∀ (k : Nat) (V : xV) (L : xL), k + n = 512 → Inv V L → X M_law room_1 (xZ0 G0 #[.ref b0] lw_Z) SH V L 87 9611 18 [(0, .retAddr 0), (1, .ref 0), (2, .ref 65), (3, .int (nI (6 * k)))] []) (hk : k + (n + 1) = 512) (hlt : 6 * k + 6 ≤ G0.2.2.2.2.1 ∧ G0.2.2.2.2.1 ≤ 3072) (V : xV) (L : xL) (hI : Inv V L) : X M_law room_1 (xZ0 G0 #[.ref b0] lw_Z) SH V L 87 9611 1022 [(0, .retAddr 0), (1, .ref 0), (2, .ref 65), (3, .int (nI (6 * k)))] [] := by
  let xs1 := G0.2.2.2.2.2 (6 * k + 1)
  refine x_aload_n 1 d_law_1022 rfl rfl ?_
  refine x_aload_nX 0 d_law_1023 rfl rfl ?_
  refine x_iload_n 3 d_law_1024 rfl rfl ?_
  refine x_iconst 1 d_law_1025 (by decide) ?_
  refine x_iadd d_law_1026 ?_
  refine x_sload (6 * k + 1) (nI_add _ 1) ⟨by omega, hlt.2⟩ d_law_1027 ?_
  obtain ⟨r, e1, e2, hI2⟩ := h_flood xs1 V L hI
  refine x_callV0 e_Lw_120 sh_0 rfl (as := [.int xs1]) (t_Ww_flood xs1 V L _ e1) rfl rfl rfl (Nat.le_of_ble_eq_true rfl) ⟨Nat.le_of_ble_eq_true rfl, Nat.le_of_ble_eq_true rfl⟩ (Nat.le_of_ble_eq_true rfl) (Nat.le_of_ble_eq_true rfl) d_law_1028 ?_
  refine x_aload_n 2 d_law_1031 rfl rfl ?_
  refine x_aload_nX 0 d_law_1032 rfl rfl ?_
  refine x_iload_n 3 d_law_1033 rfl rfl ?_
  refine x_iconst 1 d_law_1034 (by decide) ?_
  refine x_iadd d_law_1035 ?_
  refine x_sload (6 * k + 1) (nI_add _ 1) ⟨by omega, hlt.2⟩ d_law_1036 ?_
  refine x_callV0 e_Lw_123 sh_65 rfl (as := [.int xs1]) (t_Md_flood xs1 V L _ e2) rfl rfl rfl (Nat.le_of_ble_eq_true rfl) ⟨Nat.le_of_ble_eq_true rfl, Nat.le_of_ble_eq_true rfl⟩ (Nat.le_of_ble_eq_true rfl) (Nat.le_of_ble_eq_true rfl) d_law_1037 ?_
  refine x_icmp_eq 1183 d_law_1040 (by decide) (fun _ => ?_) (fun c => absurd rfl c)
  refine x_iinc 3 6 [(3, .int (nI (6 * k) + 6)), (0, .retAddr 0), (1, .ref 0), (2, .ref 65)] d_law_1183 rfl (by decide) (Nat.le_of_ble_eq_true rfl) rfl ?_
  refine x_goto 18 d_law_1186 (by decide) ?_
  have e6 : nI (6 * k) + 6 = nI (6 * (k + 1)) := nI_add (6 * k) 6
  rw [e6]
  refine x_pick [1, 2, 3, 0] rfl ?_
  exact ih (k + 1) V L (by omega) hI2
theorem law_reform {Inv : xV → xL → Prop} {G0 : xG} {b0 : Nat} (h_reform : P_reform Inv) {n k : Nat} (ih : ∀ (k : Nat) (V : xV) (L : xL), k + n = 512 → Inv V L → X M_law room_1 (xZ0 G0 #[.ref b0] lw_Z) SH V L 87 9611 18 [(0, .retAddr 0), (1, .ref 0), (2, .ref 65), (3, .int (nI (6 * k)))] []) (hk : k + (n + 1) = 512) (hlt : 6 * k + 6 ≤ G0.2.2.2.2.1 ∧ G0.2.2.2.2.1 ≤ 3072) (V : xV) (L : xL) (hI : Inv V L) : X M_law room_1 (xZ0 G0 #[.ref b0] lw_Z) SH V L 87 9611 1045 [(0, .retAddr 0), (1, .ref 0), (2, .ref 65), (3, .int (nI (6 * k)))] [] := by
  let xs1 := G0.2.2.2.2.2 (6 * k + 1)
  refine x_aload_n 1 d_law_1045 rfl rfl ?_
  refine x_aload_nX 0 d_law_1046 rfl rfl ?_
  refine x_iload_n 3 d_law_1047 rfl rfl ?_
  refine x_iconst 1 d_law_1048 (by decide) ?_
  refine x_iadd d_law_1049 ?_
  refine x_sload (6 * k + 1) (nI_add _ 1) ⟨by omega, hlt.2⟩ d_law_1050 ?_
  obtain ⟨r, V1, V2, L2, e1, e2, hI2⟩ := h_reform xs1 V L hI
  refine x_callV0 e_Lw_124 sh_0 rfl (as := [.int xs1]) (t_Ww_reform xs1 V L _ e1) rfl rfl rfl (Nat.le_of_ble_eq_true rfl) ⟨Nat.le_of_ble_eq_true rfl, Nat.le_of_ble_eq_true rfl⟩ (Nat.le_of_ble_eq_true rfl) (Nat.le_of_ble_eq_true rfl) d_law_1051 ?_
  refine x_aload_n 2 d_law_1054 rfl rfl ?_
  refine x_aload_nX 0 d_law_1055 rfl rfl ?_
  refine x_iload_n 3 d_law_1056 rfl rfl ?_
  refine x_iconst 1 d_law_1057 (by decide) ?_
  refine x_iadd d_law_1058 ?_
  refine x_sload (6 * k + 1) (nI_add _ 1) ⟨by omega, hlt.2⟩ d_law_1059 ?_
  refine x_callV0 e_Lw_127 sh_65 rfl (as := [.int xs1]) (t_Md_reform xs1 V1 L _ e2) rfl rfl rfl (Nat.le_of_ble_eq_true rfl) ⟨Nat.le_of_ble_eq_true rfl, Nat.le_of_ble_eq_true rfl⟩ (Nat.le_of_ble_eq_true rfl) (Nat.le_of_ble_eq_true rfl) d_law_1060 ?_
  refine x_icmp_eq 1183 d_law_1063 (by decide) (fun _ => ?_) (fun c => absurd rfl c)
  refine x_iinc 3 6 [(3, .int (nI (6 * k) + 6)), (0, .retAddr 0), (1, .ref 0), (2, .ref 65)] d_law_1183 rfl (by decide) (Nat.le_of_ble_eq_true rfl) rfl ?_
  refine x_goto 18 d_law_1186 (by decide) ?_
  have e6 : nI (6 * k) + 6 = nI (6 * (k + 1)) := nI_add (6 * k) 6
  rw [e6]
  refine x_pick [1, 2, 3, 0] rfl ?_
  exact ih (k + 1) V2 L2 (by omega) hI2
theorem law_sing {Inv : xV → xL → Prop} {G0 : xG} {b0 : Nat} (h_sing : P_sing Inv) {n k : Nat} (ih : ∀ (k : Nat) (V : xV) (L : xL), k + n = 512 → Inv V L → X M_law room_1 (xZ0 G0 #[.ref b0] lw_Z) SH V L 87 9611 18 [(0, .retAddr 0), (1, .ref 0), (2, .ref 65), (3, .int (nI (6 * k)))] []) (hk : k + (n + 1) = 512) (hlt : 6 * k + 6 ≤ G0.2.2.2.2.1 ∧ G0.2.2.2.2.1 ≤ 3072) (V : xV) (L : xL) (hI : Inv V L) : X M_law room_1 (xZ0 G0 #[.ref b0] lw_Z) SH V L 87 9611 1068 [(0, .retAddr 0), (1, .ref 0), (2, .ref 65), (3, .int (nI (6 * k)))] [] := by
  let xs1 := G0.2.2.2.2.2 (6 * k + 1)
  let xs2 := G0.2.2.2.2.2 (6 * k + 2)
  refine x_aload_n 1 d_law_1068 rfl rfl ?_
  refine x_aload_nX 0 d_law_1069 rfl rfl ?_
  refine x_iload_n 3 d_law_1070 rfl rfl ?_
  refine x_iconst 1 d_law_1071 (by decide) ?_
  refine x_iadd d_law_1072 ?_
  refine x_sload (6 * k + 1) (nI_add _ 1) ⟨by omega, hlt.2⟩ d_law_1073 ?_
  refine x_aload_nX 0 d_law_1074 rfl rfl ?_
  refine x_iload_n 3 d_law_1075 rfl rfl ?_
  refine x_iconst 2 d_law_1076 (by decide) ?_
  refine x_iadd d_law_1077 ?_
  refine x_sload (6 * k + 2) (nI_add _ 2) ⟨by omega, hlt.2⟩ d_law_1078 ?_
  obtain ⟨r, V1, V2, e1, e2, hI2⟩ := h_sing xs1 xs2 V L hI
  refine x_callV0 e_Lw_128 sh_0 rfl (as := [.int xs1, .int xs2]) (t_Ww_sing xs1 xs2 V L _ e1) rfl rfl rfl (Nat.le_of_ble_eq_true rfl) ⟨Nat.le_of_ble_eq_true rfl, Nat.le_of_ble_eq_true rfl⟩ (Nat.le_of_ble_eq_true rfl) (Nat.le_of_ble_eq_true rfl) d_law_1079 ?_
  refine x_aload_n 2 d_law_1082 rfl rfl ?_
  refine x_aload_nX 0 d_law_1083 rfl rfl ?_
  refine x_iload_n 3 d_law_1084 rfl rfl ?_
  refine x_iconst 1 d_law_1085 (by decide) ?_
  refine x_iadd d_law_1086 ?_
  refine x_sload (6 * k + 1) (nI_add _ 1) ⟨by omega, hlt.2⟩ d_law_1087 ?_
  refine x_aload_nX 0 d_law_1088 rfl rfl ?_
  refine x_iload_n 3 d_law_1089 rfl rfl ?_
  refine x_iconst 2 d_law_1090 (by decide) ?_
  refine x_iadd d_law_1091 ?_
  refine x_sload (6 * k + 2) (nI_add _ 2) ⟨by omega, hlt.2⟩ d_law_1092 ?_
  refine x_callV0 e_Lw_131 sh_65 rfl (as := [.int xs1, .int xs2]) (t_Md_sing xs1 xs2 V1 L _ e2) rfl rfl rfl (Nat.le_of_ble_eq_true rfl) ⟨Nat.le_of_ble_eq_true rfl, Nat.le_of_ble_eq_true rfl⟩ (Nat.le_of_ble_eq_true rfl) (Nat.le_of_ble_eq_true rfl) d_law_1093 ?_
  refine x_icmp_eq 1183 d_law_1096 (by decide) (fun _ => ?_) (fun c => absurd rfl c)
  refine x_iinc 3 6 [(3, .int (nI (6 * k) + 6)), (0, .retAddr 0), (1, .ref 0), (2, .ref 65)] d_law_1183 rfl (by decide) (Nat.le_of_ble_eq_true rfl) rfl ?_
  refine x_goto 18 d_law_1186 (by decide) ?_
  have e6 : nI (6 * k) + 6 = nI (6 * (k + 1)) := nI_add (6 * k) 6
  rw [e6]
  refine x_pick [1, 2, 3, 0] rfl ?_
  exact ih (k + 1) V2 L (by omega) hI2
theorem law_heard {Inv : xV → xL → Prop} {G0 : xG} {b0 : Nat} (h_heard : P_heard Inv) {n k : Nat} (ih : ∀ (k : Nat) (V : xV) (L : xL), k + n = 512 → Inv V L → X M_law room_1 (xZ0 G0 #[.ref b0] lw_Z) SH V L 87 9611 18 [(0, .retAddr 0), (1, .ref 0), (2, .ref 65), (3, .int (nI (6 * k)))] []) (hk : k + (n + 1) = 512) (hlt : 6 * k + 6 ≤ G0.2.2.2.2.1 ∧ G0.2.2.2.2.1 ≤ 3072) (V : xV) (L : xL) (hI : Inv V L) : X M_law room_1 (xZ0 G0 #[.ref b0] lw_Z) SH V L 87 9611 1101 [(0, .retAddr 0), (1, .ref 0), (2, .ref 65), (3, .int (nI (6 * k)))] [] := by
  let xs1 := G0.2.2.2.2.2 (6 * k + 1)
  let xs2 := G0.2.2.2.2.2 (6 * k + 2)
  refine x_aload_n 1 d_law_1101 rfl rfl ?_
  refine x_aload_nX 0 d_law_1102 rfl rfl ?_
  refine x_iload_n 3 d_law_1103 rfl rfl ?_
  refine x_iconst 1 d_law_1104 (by decide) ?_
  refine x_iadd d_law_1105 ?_
  refine x_sload (6 * k + 1) (nI_add _ 1) ⟨by omega, hlt.2⟩ d_law_1106 ?_
  refine x_aload_nX 0 d_law_1107 rfl rfl ?_
  refine x_iload_n 3 d_law_1108 rfl rfl ?_
  refine x_iconst 2 d_law_1109 (by decide) ?_
  refine x_iadd d_law_1110 ?_
  refine x_sload (6 * k + 2) (nI_add _ 2) ⟨by omega, hlt.2⟩ d_law_1111 ?_
  obtain ⟨r, V1, V2, e1, e2, hI2⟩ := h_heard xs1 xs2 V L hI
  refine x_callV0 e_Lw_132 sh_0 rfl (as := [.int xs1, .int xs2]) (t_Ww_heard xs1 xs2 V L _ e1) rfl rfl rfl (Nat.le_of_ble_eq_true rfl) ⟨Nat.le_of_ble_eq_true rfl, Nat.le_of_ble_eq_true rfl⟩ (Nat.le_of_ble_eq_true rfl) (Nat.le_of_ble_eq_true rfl) d_law_1112 ?_
  refine x_aload_n 2 d_law_1115 rfl rfl ?_
  refine x_aload_nX 0 d_law_1116 rfl rfl ?_
  refine x_iload_n 3 d_law_1117 rfl rfl ?_
  refine x_iconst 1 d_law_1118 (by decide) ?_
  refine x_iadd d_law_1119 ?_
  refine x_sload (6 * k + 1) (nI_add _ 1) ⟨by omega, hlt.2⟩ d_law_1120 ?_
  refine x_aload_nX 0 d_law_1121 rfl rfl ?_
  refine x_iload_n 3 d_law_1122 rfl rfl ?_
  refine x_iconst 2 d_law_1123 (by decide) ?_
  refine x_iadd d_law_1124 ?_
  refine x_sload (6 * k + 2) (nI_add _ 2) ⟨by omega, hlt.2⟩ d_law_1125 ?_
  refine x_callV0 e_Lw_135 sh_65 rfl (as := [.int xs1, .int xs2]) (t_Md_heard xs1 xs2 V1 L _ e2) rfl rfl rfl (Nat.le_of_ble_eq_true rfl) ⟨Nat.le_of_ble_eq_true rfl, Nat.le_of_ble_eq_true rfl⟩ (Nat.le_of_ble_eq_true rfl) (Nat.le_of_ble_eq_true rfl) d_law_1126 ?_
  refine x_icmp_eq 1183 d_law_1129 (by decide) (fun _ => ?_) (fun c => absurd rfl c)
  refine x_iinc 3 6 [(3, .int (nI (6 * k) + 6)), (0, .retAddr 0), (1, .ref 0), (2, .ref 65)] d_law_1183 rfl (by decide) (Nat.le_of_ble_eq_true rfl) rfl ?_
  refine x_goto 18 d_law_1186 (by decide) ?_
  have e6 : nI (6 * k) + 6 = nI (6 * (k + 1)) := nI_add (6 * k) 6
  rw [e6]
  refine x_pick [1, 2, 3, 0] rfl ?_
  exact ih (k + 1) V2 L (by omega) hI2
theorem law_image {Inv : xV → xL → Prop} {G0 : xG} {b0 : Nat} (h_image : P_image Inv) {n k : Nat} (ih : ∀ (k : Nat) (V : xV) (L : xL), k + n = 512 → Inv V L → X M_law room_1 (xZ0 G0 #[.ref b0] lw_Z) SH V L 87 9611 18 [(0, .retAddr 0), (1, .ref 0), (2, .ref 65), (3, .int (nI (6 * k)))] []) (hk : k + (n + 1) = 512) (hlt : 6 * k + 6 ≤ G0.2.2.2.2.1 ∧ G0.2.2.2.2.1 ≤ 3072) (V : xV) (L : xL) (hI : Inv V L) : X M_law room_1 (xZ0 G0 #[.ref b0] lw_Z) SH V L 87 9611 1134 [(0, .retAddr 0), (1, .ref 0), (2, .ref 65), (3, .int (nI (6 * k)))] [] := by
  refine x_aload_n 1 d_law_1134 rfl rfl ?_
  obtain ⟨r, V1, V2, e1, e2, hI2⟩ := h_image  V L hI
  refine x_callV0 e_Lw_136 sh_0 rfl (as := []) (t_Ww_image V L _ e1) rfl rfl rfl (Nat.le_of_ble_eq_true rfl) ⟨Nat.le_of_ble_eq_true rfl, Nat.le_of_ble_eq_true rfl⟩ (Nat.le_of_ble_eq_true rfl) (Nat.le_of_ble_eq_true rfl) d_law_1135 ?_
  refine x_aload_n 2 d_law_1138 rfl rfl ?_
  refine x_callV0 e_Lw_139 sh_65 rfl (as := []) (t_Md_image V1 L _ e2) rfl rfl rfl (Nat.le_of_ble_eq_true rfl) ⟨Nat.le_of_ble_eq_true rfl, Nat.le_of_ble_eq_true rfl⟩ (Nat.le_of_ble_eq_true rfl) (Nat.le_of_ble_eq_true rfl) d_law_1139 ?_
  refine x_icmp_eq 1183 d_law_1142 (by decide) (fun _ => ?_) (fun c => absurd rfl c)
  refine x_iinc 3 6 [(3, .int (nI (6 * k) + 6)), (0, .retAddr 0), (1, .ref 0), (2, .ref 65)] d_law_1183 rfl (by decide) (Nat.le_of_ble_eq_true rfl) rfl ?_
  refine x_goto 18 d_law_1186 (by decide) ?_
  have e6 : nI (6 * k) + 6 = nI (6 * (k + 1)) := nI_add (6 * k) 6
  rw [e6]
  refine x_pick [1, 2, 3, 0] rfl ?_
  exact ih (k + 1) V2 L (by omega) hI2
theorem law_back {Inv : xV → xL → Prop} {G0 : xG} {b0 : Nat} (h_back : P_back Inv) {n k : Nat} (ih : ∀ (k : Nat) (V : xV) (L : xL), k + n = 512 → Inv V L → X M_law room_1 (xZ0 G0 #[.ref b0] lw_Z) SH V L 87 9611 18 [(0, .retAddr 0), (1, .ref 0), (2, .ref 65), (3, .int (nI (6 * k)))] []) (hk : k + (n + 1) = 512) (hlt : 6 * k + 6 ≤ G0.2.2.2.2.1 ∧ G0.2.2.2.2.1 ≤ 3072) (V : xV) (L : xL) (hI : Inv V L) : X M_law room_1 (xZ0 G0 #[.ref b0] lw_Z) SH V L 87 9611 1147 [(0, .retAddr 0), (1, .ref 0), (2, .ref 65), (3, .int (nI (6 * k)))] [] := by
  refine x_aload_n 1 d_law_1147 rfl rfl ?_
  obtain ⟨r, V1, V2, e1, e2, hI2⟩ := h_back  V L hI
  refine x_callV0 e_Lw_140 sh_0 rfl (as := []) (t_Ww_back V L _ e1) rfl rfl rfl (Nat.le_of_ble_eq_true rfl) ⟨Nat.le_of_ble_eq_true rfl, Nat.le_of_ble_eq_true rfl⟩ (Nat.le_of_ble_eq_true rfl) (Nat.le_of_ble_eq_true rfl) d_law_1148 ?_
  refine x_aload_n 2 d_law_1151 rfl rfl ?_
  refine x_callV0 e_Lw_143 sh_65 rfl (as := []) (t_Md_back V1 L _ e2) rfl rfl rfl (Nat.le_of_ble_eq_true rfl) ⟨Nat.le_of_ble_eq_true rfl, Nat.le_of_ble_eq_true rfl⟩ (Nat.le_of_ble_eq_true rfl) (Nat.le_of_ble_eq_true rfl) d_law_1152 ?_
  refine x_icmp_eq 1183 d_law_1155 (by decide) (fun _ => ?_) (fun c => absurd rfl c)
  refine x_iinc 3 6 [(3, .int (nI (6 * k) + 6)), (0, .retAddr 0), (1, .ref 0), (2, .ref 65)] d_law_1183 rfl (by decide) (Nat.le_of_ble_eq_true rfl) rfl ?_
  refine x_goto 18 d_law_1186 (by decide) ?_
  have e6 : nI (6 * k) + 6 = nI (6 * (k + 1)) := nI_add (6 * k) 6
  rw [e6]
  refine x_pick [1, 2, 3, 0] rfl ?_
  exact ih (k + 1) V2 L (by omega) hI2
theorem law_about {Inv : xV → xL → Prop} {G0 : xG} {b0 : Nat} (h_about : P_about Inv) {n k : Nat} (ih : ∀ (k : Nat) (V : xV) (L : xL), k + n = 512 → Inv V L → X M_law room_1 (xZ0 G0 #[.ref b0] lw_Z) SH V L 87 9611 18 [(0, .retAddr 0), (1, .ref 0), (2, .ref 65), (3, .int (nI (6 * k)))] []) (hk : k + (n + 1) = 512) (hlt : 6 * k + 6 ≤ G0.2.2.2.2.1 ∧ G0.2.2.2.2.1 ≤ 3072) (V : xV) (L : xL) (hI : Inv V L) : X M_law room_1 (xZ0 G0 #[.ref b0] lw_Z) SH V L 87 9611 1160 [(0, .retAddr 0), (1, .ref 0), (2, .ref 65), (3, .int (nI (6 * k)))] [] := by
  let xs1 := G0.2.2.2.2.2 (6 * k + 1)
  refine x_aload_n 1 d_law_1160 rfl rfl ?_
  refine x_aload_nX 0 d_law_1161 rfl rfl ?_
  refine x_iload_n 3 d_law_1162 rfl rfl ?_
  refine x_iconst 1 d_law_1163 (by decide) ?_
  refine x_iadd d_law_1164 ?_
  refine x_sload (6 * k + 1) (nI_add _ 1) ⟨by omega, hlt.2⟩ d_law_1165 ?_
  obtain ⟨r, e1, e2, hI2⟩ := h_about xs1 V L hI
  refine x_callV0 e_Lw_144 sh_0 rfl (as := [.int xs1]) (t_Ww_about xs1 V L _ e1) rfl rfl rfl (Nat.le_of_ble_eq_true rfl) ⟨Nat.le_of_ble_eq_true rfl, Nat.le_of_ble_eq_true rfl⟩ (Nat.le_of_ble_eq_true rfl) (Nat.le_of_ble_eq_true rfl) d_law_1166 ?_
  refine x_aload_n 2 d_law_1169 rfl rfl ?_
  refine x_aload_nX 0 d_law_1170 rfl rfl ?_
  refine x_iload_n 3 d_law_1171 rfl rfl ?_
  refine x_iconst 1 d_law_1172 (by decide) ?_
  refine x_iadd d_law_1173 ?_
  refine x_sload (6 * k + 1) (nI_add _ 1) ⟨by omega, hlt.2⟩ d_law_1174 ?_
  refine x_callV0 e_Lw_147 sh_65 rfl (as := [.int xs1]) (t_Md_about xs1 V L _ e2) rfl rfl rfl (Nat.le_of_ble_eq_true rfl) ⟨Nat.le_of_ble_eq_true rfl, Nat.le_of_ble_eq_true rfl⟩ (Nat.le_of_ble_eq_true rfl) (Nat.le_of_ble_eq_true rfl) d_law_1175 ?_
  refine x_icmp_eq 1183 d_law_1178 (by decide) (fun _ => ?_) (fun c => absurd rfl c)
  refine x_iinc 3 6 [(3, .int (nI (6 * k) + 6)), (0, .retAddr 0), (1, .ref 0), (2, .ref 65)] d_law_1183 rfl (by decide) (Nat.le_of_ble_eq_true rfl) rfl ?_
  refine x_goto 18 d_law_1186 (by decide) ?_
  have e6 : nI (6 * k) + 6 = nI (6 * (k + 1)) := nI_add (6 * k) 6
  rw [e6]
  refine x_pick [1, 2, 3, 0] rfl ?_
  exact ih (k + 1) V L (by omega) hI2
theorem law_loop {Inv : xV → xL → Prop} {G0 : xG} {b0 : Nat} (hP : P_all Inv) (hL : G0.2.2.2.2.1 ≤ 3072) : ∀ (n k : Nat) (V : xV) (L : xL), k + n = 512 → Inv V L → X M_law room_1 (xZ0 G0 #[.ref b0] lw_Z) SH V L 87 9611 18 [(0, .retAddr 0), (1, .ref 0), (2, .ref 65), (3, .int (nI (6 * k)))] [] := by
  obtain ⟨h_folk, h_sky, h_skies, h_decree, h_chance, h_ruin, h_feed, h_end, h_text, h_fault, h_by, h_warrant, h_letGo, h_undo, h_of, h_on, h_gain, h_sum, h_ruined, h_led, h_odds, h_plan, h_found, h_even, h_flood, h_reform, h_sing, h_heard, h_image, h_back, h_about⟩ := hP
  intro n
  induction n with
  | zero =>
    intro k V L hk hI
    have hk : k = 512 := by omega
    subst hk
    refine x_iload_n 3 d_law_18 rfl rfl ?_
    refine x_aload_nX 0 d_law_19 rfl rfl ?_
    refine x_slen d_law_20 ?_
    refine x_bipush 6 d_law_21 (by decide) ?_
    refine x_isub d_law_23 ?_
    refine x_icmp_gt 1189 d_law_24 (by decide) (fun c => ?_) (fun c => absurd (law_gt hL (by omega) (by omega)) c)
    refine x_iconst 1 d_law_1189 (by decide) ?_
    exact x_lawret (Nat.le_of_ble_eq_true rfl) d_law_1190 (Nat.le_of_ble_eq_true rfl) (Nat.le_of_ble_eq_true rfl)
  | succ n ih =>
    intro k V L hk hI
    refine x_iload_n 3 d_law_18 rfl rfl ?_
    refine x_aload_nX 0 d_law_19 rfl rfl ?_
    refine x_slen d_law_20 ?_
    refine x_bipush 6 d_law_21 (by decide) ?_
    refine x_isub d_law_23 ?_
    refine x_icmp_gt 1189 d_law_24 (by decide) (fun c => ?_) (fun c => ?_)
    · refine x_iconst 1 d_law_1189 (by decide) ?_
      exact x_lawret (Nat.le_of_ble_eq_true rfl) d_law_1190 (Nat.le_of_ble_eq_true rfl) (Nat.le_of_ble_eq_true rfl)
    · have hlt : 6 * k + 6 ≤ G0.2.2.2.2.1 := law_le hL (by omega) c
      refine x_aload_nX 0 d_law_27 rfl rfl ?_
      refine x_iload_n 3 d_law_28 rfl rfl ?_
      refine x_sload (6 * k) rfl ⟨by omega, hL⟩ d_law_29 ?_
      refine x_bipush 31 d_law_30 (by decide) ?_
      refine x_iand d_law_32 ?_
      generalize hz : G0.2.2.2.2.2 (6 * k) &&& 31 = z
      clear hz
      by_cases c0 : z = 0
      · refine x_tableIn 139 172 d_law_33 (by rw [c0]; decide) (by rw [c0]; decide) (by rw [c0]; rfl) (by decide) ?_
        exact law_folk h_folk ih (by omega) ⟨hlt, hL⟩ V L hI
      by_cases c1 : z = 1
      · refine x_tableIn 182 215 d_law_33 (by rw [c1]; decide) (by rw [c1]; decide) (by rw [c1]; rfl) (by decide) ?_
        exact law_sky h_sky ih (by omega) ⟨hlt, hL⟩ V L hI
      by_cases c2 : z = 2
      · refine x_tableIn 215 248 d_law_33 (by rw [c2]; decide) (by rw [c2]; decide) (by rw [c2]; rfl) (by decide) ?_
        exact law_skies h_skies ih (by omega) ⟨hlt, hL⟩ V L hI
      by_cases c3 : z = 3
      · refine x_tableIn 238 271 d_law_33 (by rw [c3]; decide) (by rw [c3]; decide) (by rw [c3]; rfl) (by decide) ?_
        exact law_decree h_decree ih (by omega) ⟨hlt, hL⟩ V L hI
      by_cases c4 : z = 4
      · refine x_tableIn 297 330 d_law_33 (by rw [c4]; decide) (by rw [c4]; decide) (by rw [c4]; rfl) (by decide) ?_
        exact law_chance h_chance ih (by omega) ⟨hlt, hL⟩ V L hI
      by_cases c5 : z = 5
      · refine x_tableIn 330 363 d_law_33 (by rw [c5]; decide) (by rw [c5]; decide) (by rw [c5]; rfl) (by decide) ?_
        exact law_ruin h_ruin ih (by omega) ⟨hlt, hL⟩ V L hI
      by_cases c6 : z = 6
      · refine x_tableIn 353 386 d_law_33 (by rw [c6]; decide) (by rw [c6]; decide) (by rw [c6]; rfl) (by decide) ?_
        exact law_feed h_feed ih (by omega) ⟨hlt, hL⟩ V L hI
      by_cases c7 : z = 7
      · refine x_tableIn 416 449 d_law_33 (by rw [c7]; decide) (by rw [c7]; decide) (by rw [c7]; rfl) (by decide) ?_
        exact law_end h_end ih (by omega) ⟨hlt, hL⟩ V L hI
      by_cases c8 : z = 8
      · refine x_tableIn 439 472 d_law_33 (by rw [c8]; decide) (by rw [c8]; decide) (by rw [c8]; rfl) (by decide) ?_
        exact law_text h_text ih (by omega) ⟨hlt, hL⟩ V L hI
      by_cases c9 : z = 9
      · refine x_tableIn 452 485 d_law_33 (by rw [c9]; decide) (by rw [c9]; decide) (by rw [c9]; rfl) (by decide) ?_
        exact law_fault h_fault ih (by omega) ⟨hlt, hL⟩ V L hI
      by_cases c10 : z = 10
      · refine x_tableIn 475 508 d_law_33 (by rw [c10]; decide) (by rw [c10]; decide) (by rw [c10]; rfl) (by decide) ?_
        exact law_by h_by ih (by omega) ⟨hlt, hL⟩ V L hI
      by_cases c11 : z = 11
      · refine x_tableIn 498 531 d_law_33 (by rw [c11]; decide) (by rw [c11]; decide) (by rw [c11]; rfl) (by decide) ?_
        exact law_warrant h_warrant ih (by omega) ⟨hlt, hL⟩ V L hI
      by_cases c12 : z = 12
      · refine x_tableIn 531 564 d_law_33 (by rw [c12]; decide) (by rw [c12]; decide) (by rw [c12]; rfl) (by decide) ?_
        exact law_letGo h_letGo ih (by omega) ⟨hlt, hL⟩ V L hI
      by_cases c13 : z = 13
      · refine x_tableIn 544 577 d_law_33 (by rw [c13]; decide) (by rw [c13]; decide) (by rw [c13]; rfl) (by decide) ?_
        exact law_undo h_undo ih (by omega) ⟨hlt, hL⟩ V L hI
      by_cases c14 : z = 14
      · refine x_tableIn 557 590 d_law_33 (by rw [c14]; decide) (by rw [c14]; decide) (by rw [c14]; rfl) (by decide) ?_
        exact law_of h_of ih (by omega) ⟨hlt, hL⟩ V L hI
      by_cases c15 : z = 15
      · refine x_tableIn 600 633 d_law_33 (by rw [c15]; decide) (by rw [c15]; decide) (by rw [c15]; rfl) (by decide) ?_
        exact law_on h_on ih (by omega) ⟨hlt, hL⟩ V L hI
      by_cases c16 : z = 16
      · refine x_tableIn 643 676 d_law_33 (by rw [c16]; decide) (by rw [c16]; decide) (by rw [c16]; rfl) (by decide) ?_
        exact law_gain h_gain ih (by omega) ⟨hlt, hL⟩ V L hI
      by_cases c17 : z = 17
      · refine x_tableIn 702 735 d_law_33 (by rw [c17]; decide) (by rw [c17]; decide) (by rw [c17]; rfl) (by decide) ?_
        exact law_sum h_sum ih (by omega) ⟨hlt, hL⟩ V L hI
      by_cases c18 : z = 18
      · refine x_tableIn 771 804 d_law_33 (by rw [c18]; decide) (by rw [c18]; decide) (by rw [c18]; rfl) (by decide) ?_
        exact law_ruined h_ruined ih (by omega) ⟨hlt, hL⟩ V L hI
      by_cases c19 : z = 19
      · refine x_tableIn 794 827 d_law_33 (by rw [c19]; decide) (by rw [c19]; decide) (by rw [c19]; rfl) (by decide) ?_
        exact law_led h_led ih (by omega) ⟨hlt, hL⟩ V L hI
      by_cases c20 : z = 20
      · refine x_tableIn 827 860 d_law_33 (by rw [c20]; decide) (by rw [c20]; decide) (by rw [c20]; rfl) (by decide) ?_
        exact law_odds h_odds ih (by omega) ⟨hlt, hL⟩ V L hI
      by_cases c21 : z = 21
      · refine x_tableIn 870 903 d_law_33 (by rw [c21]; decide) (by rw [c21]; decide) (by rw [c21]; rfl) (by decide) ?_
        exact law_plan h_plan ih (by omega) ⟨hlt, hL⟩ V L hI
      by_cases c22 : z = 22
      · refine x_tableIn 923 956 d_law_33 (by rw [c22]; decide) (by rw [c22]; decide) (by rw [c22]; rfl) (by decide) ?_
        exact law_found h_found ih (by omega) ⟨hlt, hL⟩ V L hI
      by_cases c23 : z = 23
      · refine x_tableIn 956 989 d_law_33 (by rw [c23]; decide) (by rw [c23]; decide) (by rw [c23]; rfl) (by decide) ?_
        exact law_even h_even ih (by omega) ⟨hlt, hL⟩ V L hI
      by_cases c24 : z = 24
      · refine x_tableIn 989 1022 d_law_33 (by rw [c24]; decide) (by rw [c24]; decide) (by rw [c24]; rfl) (by decide) ?_
        exact law_flood h_flood ih (by omega) ⟨hlt, hL⟩ V L hI
      by_cases c25 : z = 25
      · refine x_tableIn 1012 1045 d_law_33 (by rw [c25]; decide) (by rw [c25]; decide) (by rw [c25]; rfl) (by decide) ?_
        exact law_reform h_reform ih (by omega) ⟨hlt, hL⟩ V L hI
      by_cases c26 : z = 26
      · refine x_tableIn 1035 1068 d_law_33 (by rw [c26]; decide) (by rw [c26]; decide) (by rw [c26]; rfl) (by decide) ?_
        exact law_sing h_sing ih (by omega) ⟨hlt, hL⟩ V L hI
      by_cases c27 : z = 27
      · refine x_tableIn 1068 1101 d_law_33 (by rw [c27]; decide) (by rw [c27]; decide) (by rw [c27]; rfl) (by decide) ?_
        exact law_heard h_heard ih (by omega) ⟨hlt, hL⟩ V L hI
      by_cases c28 : z = 28
      · refine x_tableIn 1101 1134 d_law_33 (by rw [c28]; decide) (by rw [c28]; decide) (by rw [c28]; rfl) (by decide) ?_
        exact law_image h_image ih (by omega) ⟨hlt, hL⟩ V L hI
      by_cases c29 : z = 29
      · refine x_tableIn 1114 1147 d_law_33 (by rw [c29]; decide) (by rw [c29]; decide) (by rw [c29]; rfl) (by decide) ?_
        exact law_back h_back ih (by omega) ⟨hlt, hL⟩ V L hI
      by_cases c30 : z = 30
      · refine x_tableIn 1127 1160 d_law_33 (by rw [c30]; decide) (by rw [c30]; decide) (by rw [c30]; rfl) (by decide) ?_
        exact law_about h_about ih (by omega) ⟨hlt, hL⟩ V L hI
      refine x_tableOut 1183 d_law_33 (by have n0 := lv_neT c0 (a := 0) rfl; have n1 := lv_neT c1 (a := 1) rfl; have n2 := lv_neT c2 (a := 2) rfl; have n3 := lv_neT c3 (a := 3) rfl; have n4 := lv_neT c4 (a := 4) rfl; have n5 := lv_neT c5 (a := 5) rfl; have n6 := lv_neT c6 (a := 6) rfl; have n7 := lv_neT c7 (a := 7) rfl; have n8 := lv_neT c8 (a := 8) rfl; have n9 := lv_neT c9 (a := 9) rfl; have n10 := lv_neT c10 (a := 10) rfl; have n11 := lv_neT c11 (a := 11) rfl; have n12 := lv_neT c12 (a := 12) rfl; have n13 := lv_neT c13 (a := 13) rfl; have n14 := lv_neT c14 (a := 14) rfl; have n15 := lv_neT c15 (a := 15) rfl; have n16 := lv_neT c16 (a := 16) rfl; have n17 := lv_neT c17 (a := 17) rfl; have n18 := lv_neT c18 (a := 18) rfl; have n19 := lv_neT c19 (a := 19) rfl; have n20 := lv_neT c20 (a := 20) rfl; have n21 := lv_neT c21 (a := 21) rfl; have n22 := lv_neT c22 (a := 22) rfl; have n23 := lv_neT c23 (a := 23) rfl; have n24 := lv_neT c24 (a := 24) rfl; have n25 := lv_neT c25 (a := 25) rfl; have n26 := lv_neT c26 (a := 26) rfl; have n27 := lv_neT c27 (a := 27) rfl; have n28 := lv_neT c28 (a := 28) rfl; have n29 := lv_neT c29 (a := 29) rfl; have n30 := lv_neT c30 (a := 30) rfl; omega) (by decide) ?_
      refine x_iinc 3 6 [(3, .int (nI (6 * k) + 6)), (0, .retAddr 0), (1, .ref 0), (2, .ref 65)] d_law_1183 rfl (by decide) (Nat.le_of_ble_eq_true rfl) rfl ?_
      refine x_goto 18 d_law_1186 (by decide) ?_
      have e6 : nI (6 * k) + 6 = nI (6 * (k + 1)) := nI_add (6 * k) 6
      rw [e6]
      refine x_pick [1, 2, 3, 0] rfl ?_
      exact ih (k + 1) V L (by omega) hI

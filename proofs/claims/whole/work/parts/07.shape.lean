/-! THE SHAPE of the heap behind the constructors (printed by wip/whole) -/
def SH : xS := [.inr (11, [4, 12, 20, 49, 22, 54, 60, 63, 66]),
  .inr (6, [5, 6, 7, 8, 9, 10, 11, 0, 0, 0, 0, 0, 0]),
  .inl (.int, 12, fun _ => none),
  .inl (.int, 12, fun _ => none),
  .inl (.int, 12, fun _ => none),
  .inl (.int, 30, fun _ => none),
  .inl (.int, 120, fun _ => none),
  .inl (.int, 10, fun _ => none),
  .inl (.int, 60, fun _ => none),
  .inr (6, [13, 14, 15, 16, 17, 18, 19, 0, 0, 0, 0, 0, 0]),
  .inl (.int, 12, fun _ => none),
  .inl (.int, 12, fun _ => none),
  .inl (.int, 12, fun _ => none),
  .inl (.int, 30, fun _ => none),
  .inl (.int, 120, fun _ => none),
  .inl (.int, 10, fun _ => none),
  .inl (.int, 60, fun _ => none),
  .inr (9, [21, 0]),
  .inl (.int, 300, fun _ => none),
  .inr (7, [4, 23, 28]),
  .inr (3, [24, 25, 26, 27, 0, 0]),
  .inl (.int, 300, fun _ => none),
  .inl (.int, 6, fun _ => none),
  .inl (.int, 6, fun _ => none),
  .inl (.int, 6, fun _ => none),
  .inl (.object "WarrantWeather$Law", 4, fun j => if j < 4 then some (26 + 5 * j) else none),
  .inr (3, [30, 31, 32, 33, 0, 0]),
  .inl (.int, 300, fun _ => none),
  .inl (.int, 6, fun _ => none),
  .inl (.int, 6, fun _ => none),
  .inl (.int, 6, fun _ => none),
  .inr (3, [35, 36, 37, 38, 0, 0]),
  .inl (.int, 300, fun _ => none),
  .inl (.int, 6, fun _ => none),
  .inl (.int, 6, fun _ => none),
  .inl (.int, 6, fun _ => none),
  .inr (3, [40, 41, 42, 43, 0, 0]),
  .inl (.int, 300, fun _ => none),
  .inl (.int, 6, fun _ => none),
  .inl (.int, 6, fun _ => none),
  .inl (.int, 6, fun _ => none),
  .inr (3, [45, 46, 47, 48, 0, 0]),
  .inl (.int, 300, fun _ => none),
  .inl (.int, 6, fun _ => none),
  .inl (.int, 6, fun _ => none),
  .inl (.int, 6, fun _ => none),
  .inr (5, [0, 0, 0, 50, 2, 0, 0]),
  .inr (10, [51, 52, 53, 0]),
  .inl (.int, 301, fun _ => none),
  .inl (.int, 301, fun _ => none),
  .inl (.int, 301, fun _ => none),
  .inr (2, [0, 0, 4, 22, 55, 58, 59, 0, 0, 0]),
  .inr (0, [56, 57]),
  .inl (.int, 40, fun _ => none),
  .inl (.int, 13, fun _ => none),
  .inl (.int, 12, fun _ => none),
  .inl (.int, 12, fun _ => none),
  .inr (4, [0, 0, 4, 54, 61, 62, 0, 0, 0]),
  .inl (.int, 20, fun _ => none),
  .inl (.int, 20, fun _ => none),
  .inr (1, [4, 54, 64, 65]),
  .inl (.int, 8, fun _ => none),
  .inl (.int, 32, fun _ => none),
  .inr (8, [0, 67]),
  .inl (.int, 300, fun _ => none),
  .inr (12, [69, 70, 71, 0, 0, 0, 72, 73, 74, 75, 76, 0, 0, 0, 0, 0, 0, 0, 0, 0, 77, 78, 0, 79, 80, 0, 0, 0, 81, 82, 0, 83, 84, 85, 86, 0, 87, 88, 89]),
  .inl (.int, 270, fun _ => none),
  .inl (.int, 270, fun _ => none),
  .inl (.byte, 300, fun _ => none),
  .inl (.int, 4, fun _ => none),
  .inl (.int, 24, fun _ => none),
  .inl (.int, 24, fun _ => none),
  .inl (.int, 1600, fun _ => none),
  .inl (.int, 1600, fun _ => none),
  .inl (.int, 40, fun _ => none),
  .inl (.int, 41, fun _ => none),
  .inl (.int, 80, fun _ => none),
  .inl (.int, 80, fun _ => none),
  .inl (.int, 6, fun _ => none),
  .inl (.int, 6, fun _ => none),
  .inl (.int, 400, fun _ => none),
  .inl (.int, 400, fun _ => none),
  .inl (.int, 13, fun _ => none),
  .inl (.long, 200, fun _ => none),
  .inl (.int, 20, fun _ => none),
  .inl (.int, 20, fun _ => none),
  .inl (.int, 300, fun _ => none)]
theorem sh_0 : SH[0]? = some (.inr (11, [4, 12, 20, 49, 22, 54, 60, 63, 66])) := rfl
theorem sh_1 : SH[1]? = some (.inr (6, [5, 6, 7, 8, 9, 10, 11, 0, 0, 0, 0, 0, 0])) := rfl
theorem sh_2 : SH[2]? = some (.inl (.int, 12, fun _ => none)) := rfl
theorem sh_3 : SH[3]? = some (.inl (.int, 12, fun _ => none)) := rfl
theorem sh_4 : SH[4]? = some (.inl (.int, 12, fun _ => none)) := rfl
theorem sh_5 : SH[5]? = some (.inl (.int, 30, fun _ => none)) := rfl
theorem sh_6 : SH[6]? = some (.inl (.int, 120, fun _ => none)) := rfl
theorem sh_7 : SH[7]? = some (.inl (.int, 10, fun _ => none)) := rfl
theorem sh_8 : SH[8]? = some (.inl (.int, 60, fun _ => none)) := rfl
theorem sh_9 : SH[9]? = some (.inr (6, [13, 14, 15, 16, 17, 18, 19, 0, 0, 0, 0, 0, 0])) := rfl
theorem sh_10 : SH[10]? = some (.inl (.int, 12, fun _ => none)) := rfl
theorem sh_11 : SH[11]? = some (.inl (.int, 12, fun _ => none)) := rfl
theorem sh_12 : SH[12]? = some (.inl (.int, 12, fun _ => none)) := rfl
theorem sh_13 : SH[13]? = some (.inl (.int, 30, fun _ => none)) := rfl
theorem sh_14 : SH[14]? = some (.inl (.int, 120, fun _ => none)) := rfl
theorem sh_15 : SH[15]? = some (.inl (.int, 10, fun _ => none)) := rfl
theorem sh_16 : SH[16]? = some (.inl (.int, 60, fun _ => none)) := rfl
theorem sh_17 : SH[17]? = some (.inr (9, [21, 0])) := rfl
theorem sh_18 : SH[18]? = some (.inl (.int, 300, fun _ => none)) := rfl
theorem sh_19 : SH[19]? = some (.inr (7, [4, 23, 28])) := rfl
theorem sh_20 : SH[20]? = some (.inr (3, [24, 25, 26, 27, 0, 0])) := rfl
theorem sh_21 : SH[21]? = some (.inl (.int, 300, fun _ => none)) := rfl
theorem sh_22 : SH[22]? = some (.inl (.int, 6, fun _ => none)) := rfl
theorem sh_23 : SH[23]? = some (.inl (.int, 6, fun _ => none)) := rfl
theorem sh_24 : SH[24]? = some (.inl (.int, 6, fun _ => none)) := rfl
theorem sh_25 : SH[25]? = some (.inl (.object "WarrantWeather$Law", 4, fun j => if j < 4 then some (26 + 5 * j) else none)) := rfl
theorem sh_26 : SH[26]? = some (.inr (3, [30, 31, 32, 33, 0, 0])) := rfl
theorem sh_27 : SH[27]? = some (.inl (.int, 300, fun _ => none)) := rfl
theorem sh_28 : SH[28]? = some (.inl (.int, 6, fun _ => none)) := rfl
theorem sh_29 : SH[29]? = some (.inl (.int, 6, fun _ => none)) := rfl
theorem sh_30 : SH[30]? = some (.inl (.int, 6, fun _ => none)) := rfl
theorem sh_31 : SH[31]? = some (.inr (3, [35, 36, 37, 38, 0, 0])) := rfl
theorem sh_32 : SH[32]? = some (.inl (.int, 300, fun _ => none)) := rfl
theorem sh_33 : SH[33]? = some (.inl (.int, 6, fun _ => none)) := rfl
theorem sh_34 : SH[34]? = some (.inl (.int, 6, fun _ => none)) := rfl
theorem sh_35 : SH[35]? = some (.inl (.int, 6, fun _ => none)) := rfl
theorem sh_36 : SH[36]? = some (.inr (3, [40, 41, 42, 43, 0, 0])) := rfl
theorem sh_37 : SH[37]? = some (.inl (.int, 300, fun _ => none)) := rfl
theorem sh_38 : SH[38]? = some (.inl (.int, 6, fun _ => none)) := rfl
theorem sh_39 : SH[39]? = some (.inl (.int, 6, fun _ => none)) := rfl
theorem sh_40 : SH[40]? = some (.inl (.int, 6, fun _ => none)) := rfl
theorem sh_41 : SH[41]? = some (.inr (3, [45, 46, 47, 48, 0, 0])) := rfl
theorem sh_42 : SH[42]? = some (.inl (.int, 300, fun _ => none)) := rfl
theorem sh_43 : SH[43]? = some (.inl (.int, 6, fun _ => none)) := rfl
theorem sh_44 : SH[44]? = some (.inl (.int, 6, fun _ => none)) := rfl
theorem sh_45 : SH[45]? = some (.inl (.int, 6, fun _ => none)) := rfl
theorem sh_46 : SH[46]? = some (.inr (5, [0, 0, 0, 50, 2, 0, 0])) := rfl
theorem sh_47 : SH[47]? = some (.inr (10, [51, 52, 53, 0])) := rfl
theorem sh_48 : SH[48]? = some (.inl (.int, 301, fun _ => none)) := rfl
theorem sh_49 : SH[49]? = some (.inl (.int, 301, fun _ => none)) := rfl
theorem sh_50 : SH[50]? = some (.inl (.int, 301, fun _ => none)) := rfl
theorem sh_51 : SH[51]? = some (.inr (2, [0, 0, 4, 22, 55, 58, 59, 0, 0, 0])) := rfl
theorem sh_52 : SH[52]? = some (.inr (0, [56, 57])) := rfl
theorem sh_53 : SH[53]? = some (.inl (.int, 40, fun _ => none)) := rfl
theorem sh_54 : SH[54]? = some (.inl (.int, 13, fun _ => none)) := rfl
theorem sh_55 : SH[55]? = some (.inl (.int, 12, fun _ => none)) := rfl
theorem sh_56 : SH[56]? = some (.inl (.int, 12, fun _ => none)) := rfl
theorem sh_57 : SH[57]? = some (.inr (4, [0, 0, 4, 54, 61, 62, 0, 0, 0])) := rfl
theorem sh_58 : SH[58]? = some (.inl (.int, 20, fun _ => none)) := rfl
theorem sh_59 : SH[59]? = some (.inl (.int, 20, fun _ => none)) := rfl
theorem sh_60 : SH[60]? = some (.inr (1, [4, 54, 64, 65])) := rfl
theorem sh_61 : SH[61]? = some (.inl (.int, 8, fun _ => none)) := rfl
theorem sh_62 : SH[62]? = some (.inl (.int, 32, fun _ => none)) := rfl
theorem sh_63 : SH[63]? = some (.inr (8, [0, 67])) := rfl
theorem sh_64 : SH[64]? = some (.inl (.int, 300, fun _ => none)) := rfl
theorem sh_65 : SH[65]? = some (.inr (12, [69, 70, 71, 0, 0, 0, 72, 73, 74, 75, 76, 0, 0, 0, 0, 0, 0, 0, 0, 0, 77, 78, 0, 79, 80, 0, 0, 0, 81, 82, 0, 83, 84, 85, 86, 0, 87, 88, 89])) := rfl
theorem sh_66 : SH[66]? = some (.inl (.int, 270, fun _ => none)) := rfl
theorem sh_67 : SH[67]? = some (.inl (.int, 270, fun _ => none)) := rfl
theorem sh_68 : SH[68]? = some (.inl (.byte, 300, fun _ => none)) := rfl
theorem sh_69 : SH[69]? = some (.inl (.int, 4, fun _ => none)) := rfl
theorem sh_70 : SH[70]? = some (.inl (.int, 24, fun _ => none)) := rfl
theorem sh_71 : SH[71]? = some (.inl (.int, 24, fun _ => none)) := rfl
theorem sh_72 : SH[72]? = some (.inl (.int, 1600, fun _ => none)) := rfl
theorem sh_73 : SH[73]? = some (.inl (.int, 1600, fun _ => none)) := rfl
theorem sh_74 : SH[74]? = some (.inl (.int, 40, fun _ => none)) := rfl
theorem sh_75 : SH[75]? = some (.inl (.int, 41, fun _ => none)) := rfl
theorem sh_76 : SH[76]? = some (.inl (.int, 80, fun _ => none)) := rfl
theorem sh_77 : SH[77]? = some (.inl (.int, 80, fun _ => none)) := rfl
theorem sh_78 : SH[78]? = some (.inl (.int, 6, fun _ => none)) := rfl
theorem sh_79 : SH[79]? = some (.inl (.int, 6, fun _ => none)) := rfl
theorem sh_80 : SH[80]? = some (.inl (.int, 400, fun _ => none)) := rfl
theorem sh_81 : SH[81]? = some (.inl (.int, 400, fun _ => none)) := rfl
theorem sh_82 : SH[82]? = some (.inl (.int, 13, fun _ => none)) := rfl
theorem sh_83 : SH[83]? = some (.inl (.long, 200, fun _ => none)) := rfl
theorem sh_84 : SH[84]? = some (.inl (.int, 20, fun _ => none)) := rfl
theorem sh_85 : SH[85]? = some (.inl (.int, 20, fun _ => none)) := rfl
theorem sh_86 : SH[86]? = some (.inl (.int, 300, fun _ => none)) := rfl
/-- the cells that are laws -/
def lawB (q : Nat) : Bool := q == 20 || q == 26 || q == 31 || q == 36 || q == 41
theorem lawB_of {q : Nat} (h : lawB q = true) : q = 20 ∨ q = 26 ∨ q = 31 ∨ q = 36 ∨ q = 41 := by
  simp only [lawB, Bool.or_eq_true, beq_iff_eq] at h
  omega
theorem lawB_lt {q : Nat} (h : lawB q = true) : q < 2 ^ 31 := by have := lawB_of h; omega
theorem sh_law {q : Nat} (h : lawB q = true) : SH[q]? = some (.inr (3, [q + 1 + 3, q + 2 + 3, q + 3 + 3, q + 4 + 3, 0, 0])) := by rcases lawB_of h with rfl | rfl | rfl | rfl | rfl <;> rfl
theorem sh_law1 {q : Nat} (h : lawB q = true) : SH[q + 1]? = some (.inl (.int, 300, fun _ => none)) := by rcases lawB_of h with rfl | rfl | rfl | rfl | rfl <;> rfl
theorem sh_law2 {q : Nat} (h : lawB q = true) : SH[q + 2]? = some (.inl (.int, 6, fun _ => none)) := by rcases lawB_of h with rfl | rfl | rfl | rfl | rfl <;> rfl
theorem sh_law3 {q : Nat} (h : lawB q = true) : SH[q + 3]? = some (.inl (.int, 6, fun _ => none)) := by rcases lawB_of h with rfl | rfl | rfl | rfl | rfl <;> rfl
theorem sh_law4 {q : Nat} (h : lawB q = true) : SH[q + 4]? = some (.inl (.int, 6, fun _ => none)) := by rcases lawB_of h with rfl | rfl | rfl | rfl | rfl <;> rfl
theorem law_lt {i : Int32} (h : xI i 4 = true) : i.toNatClampNeg < 4 := by
  have h1 := of_decide_eq_true h
  show i.toInt.toNat < 4
  omega
theorem law_at {i : Int32} (h : xI i 4 = true) : lawB (26 + 5 * i.toNatClampNeg) = true := by
  have h1 := law_lt h
  generalize i.toNatClampNeg = j at h1 ⊢
  rcases (show j = 0 ∨ j = 1 ∨ j = 2 ∨ j = 3 by omega) with rfl | rfl | rfl | rfl <;> rfl
theorem law_f {i : Int32} (h : xI i 4 = true) : (fun j => if j < 4 then some (26 + 5 * j) else none) i.toNatClampNeg = some (26 + 5 * i.toNatClampNeg) := if_pos (law_lt h)

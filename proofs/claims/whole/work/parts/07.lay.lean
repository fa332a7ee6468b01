def layLX : List Kd := [kOB 10 [(1, 1), (1, 41), (1, 54), (1, 55), (1, 58), (1, 59), (1, 135), (1, 137), (1, 138), (1, 144), (1, 5), (0, 0), (0, 0), (0, 0), (0, 0)], kOB 2 [(0, 0), (1, 2), (1, 3), (1, 4)], kIA 6, kIA 6, kLA 192, kOB 2 [(0, 0), (1, 6), (1, 7), (1, 8)], kIA 6, kIA 6, kLA 192, kOB 2 [(0, 0), (1, 10), (1, 11), (1, 12)], kIA 6, kIA 6, kLA 192, kOB 2 [(0, 0), (1, 14), (1, 15), (1, 16)], kIA 6, kIA 6, kLA 192, kOB 2 [(0, 0), (1, 18), (1, 19), (1, 20)], kIA 6, kIA 6, kLA 192, kOB 2 [(0, 0), (1, 22), (1, 23), (1, 24)], kIA 6, kIA 6, kLA 192, kOB 2 [(0, 0), (1, 26), (1, 27), (1, 28)], kIA 6, kIA 6, kLA 192, kOB 2 [(0, 0), (1, 30), (1, 31), (1, 32)], kIA 6, kIA 6, kLA 192, kOB 2 [(0, 0), (1, 34), (1, 35), (1, 36)], kIA 6, kIA 6, kLA 192, kOB 2 [(0, 0), (1, 38), (1, 39), (1, 40)], kIA 6, kIA 6, kLA 192, kOB 1 [(1, 1), (0, 0), (1, 42), (1, 43), (1, 50), (1, 51), (1, 52), (1, 53)], kIA 6, kRA 3 6 44 1, kIA 4096, kIA 4096, kIA 4096, kIA 4096, kIA 4096, kIA 4096, kIA 4096, kIA 64, kIA 1024, kIA 4096, kOB 4 [(1, 1)], kOB 7 [(1, 1), (1, 56), (1, 57)], kIA 6, kIA 1024, kOB 0 [(1, 1)], kOB 9 [(1, 41), (1, 1), (1, 60), (1, 61), (1, 62), (1, 63), (0, 0), (0, 0), (0, 0), (0, 0)], kRA 4 56 64 1, kRA 4 15 120 1, kIA 14, kIA 14, kLA 64, kLA 64, kLA 64, kLA 64, kLA 64, kLA 64, kLA 64, kLA 64, kLA 64, kLA 64, kLA 64, kLA 64, kLA 64, kLA 64, kLA 64, kLA 64, kLA 64, kLA 64, kLA 64, kLA 64, kLA 64, kLA 64, kLA 64, kLA 64, kLA 64, kLA 64, kLA 64, kLA 64, kLA 64, kLA 64, kLA 64, kLA 64, kLA 64, kLA 64, kLA 64, kLA 64, kLA 64, kLA 64, kLA 64, kLA 64, kLA 64, kLA 64, kLA 64, kLA 64, kLA 64, kLA 64, kLA 64, kLA 64, kLA 64, kLA 64, kLA 64, kLA 64, kLA 64, kLA 64, kLA 64, kLA 64, kLA 64, kLA 64, kLA 64, kLA 64, kLA 64, kLA 64, kLA 64, kLA 64, kLA 64, kLA 64, kLA 64, kLA 64, kLA 64, kLA 64, kLA 64, kOB 3 [(1, 136), (0, 0), (0, 0)], kRA 5 7 13 4, kBA 600, kOB 6 [(1, 9), (0, 0), (0, 0), (1, 140), (0, 0), (0, 0), (1, 139), (0, 0), (0, 0)], kIA 1024, kOB 8 [(1, 141), (1, 142), (1, 143), (1, 137), (0, 0)], kIA 601, kIA 601, kIA 601, kOB 5 [(2, 0), (0, 0), (2, 0), (0, 0)], kBA 600, kBA 600]
def layX (k : Nat) : Kd := layLX.getD k (kIA 0)
def lenX (k : Nat) : Nat := (layX k).2.2.1
theorem lenX_ok {x n : Nat} (h : layX x = kIA n) : layX x = kIA (lenX x) := by unfold lenX; rw [h]
theorem lX_0 : layX 0 = kOB 10 [(1, 1), (1, 41), (1, 54), (1, 55), (1, 58), (1, 59), (1, 135), (1, 137), (1, 138), (1, 144), (1, 5), (0, 0), (0, 0), (0, 0), (0, 0)] := rfl
theorem lX_1 : layX 1 = kOB 2 [(0, 0), (1, 2), (1, 3), (1, 4)] := rfl
theorem lX_2 : layX 2 = kIA 6 := rfl
theorem lX_3 : layX 3 = kIA 6 := rfl
theorem lX_4 : layX 4 = kLA 192 := rfl
theorem lX_5 : layX 5 = kOB 2 [(0, 0), (1, 6), (1, 7), (1, 8)] := rfl
theorem lX_6 : layX 6 = kIA 6 := rfl
theorem lX_7 : layX 7 = kIA 6 := rfl
theorem lX_8 : layX 8 = kLA 192 := rfl
theorem lX_9 : layX 9 = kOB 2 [(0, 0), (1, 10), (1, 11), (1, 12)] := rfl
theorem lX_10 : layX 10 = kIA 6 := rfl
theorem lX_11 : layX 11 = kIA 6 := rfl
theorem lX_12 : layX 12 = kLA 192 := rfl
theorem lX_13 : layX 13 = kOB 2 [(0, 0), (1, 14), (1, 15), (1, 16)] := rfl
theorem lX_14 : layX 14 = kIA 6 := rfl
theorem lX_15 : layX 15 = kIA 6 := rfl
theorem lX_16 : layX 16 = kLA 192 := rfl
theorem lX_17 : layX 17 = kOB 2 [(0, 0), (1, 18), (1, 19), (1, 20)] := rfl
theorem lX_18 : layX 18 = kIA 6 := rfl
theorem lX_19 : layX 19 = kIA 6 := rfl
theorem lX_20 : layX 20 = kLA 192 := rfl
theorem lX_21 : layX 21 = kOB 2 [(0, 0), (1, 22), (1, 23), (1, 24)] := rfl
theorem lX_22 : layX 22 = kIA 6 := rfl
theorem lX_23 : layX 23 = kIA 6 := rfl
theorem lX_24 : layX 24 = kLA 192 := rfl
theorem lX_25 : layX 25 = kOB 2 [(0, 0), (1, 26), (1, 27), (1, 28)] := rfl
theorem lX_26 : layX 26 = kIA 6 := rfl
theorem lX_27 : layX 27 = kIA 6 := rfl
theorem lX_28 : layX 28 = kLA 192 := rfl
theorem lX_29 : layX 29 = kOB 2 [(0, 0), (1, 30), (1, 31), (1, 32)] := rfl
theorem lX_30 : layX 30 = kIA 6 := rfl
theorem lX_31 : layX 31 = kIA 6 := rfl
theorem lX_32 : layX 32 = kLA 192 := rfl
theorem lX_33 : layX 33 = kOB 2 [(0, 0), (1, 34), (1, 35), (1, 36)] := rfl
theorem lX_34 : layX 34 = kIA 6 := rfl
theorem lX_35 : layX 35 = kIA 6 := rfl
theorem lX_36 : layX 36 = kLA 192 := rfl
theorem lX_37 : layX 37 = kOB 2 [(0, 0), (1, 38), (1, 39), (1, 40)] := rfl
theorem lX_38 : layX 38 = kIA 6 := rfl
theorem lX_39 : layX 39 = kIA 6 := rfl
theorem lX_40 : layX 40 = kLA 192 := rfl
theorem lX_41 : layX 41 = kOB 1 [(1, 1), (0, 0), (1, 42), (1, 43), (1, 50), (1, 51), (1, 52), (1, 53)] := rfl
theorem lX_42 : layX 42 = kIA 6 := rfl
theorem lX_43 : layX 43 = kRA 3 6 44 1 := rfl
theorem lX_44 : layX 44 = kIA 4096 := rfl
theorem lX_45 : layX 45 = kIA 4096 := rfl
theorem lX_46 : layX 46 = kIA 4096 := rfl
theorem lX_47 : layX 47 = kIA 4096 := rfl
theorem lX_48 : layX 48 = kIA 4096 := rfl
theorem lX_49 : layX 49 = kIA 4096 := rfl
theorem lX_50 : layX 50 = kIA 4096 := rfl
theorem lX_51 : layX 51 = kIA 64 := rfl
theorem lX_52 : layX 52 = kIA 1024 := rfl
theorem lX_53 : layX 53 = kIA 4096 := rfl
theorem lX_54 : layX 54 = kOB 4 [(1, 1)] := rfl
theorem lX_55 : layX 55 = kOB 7 [(1, 1), (1, 56), (1, 57)] := rfl
theorem lX_56 : layX 56 = kIA 6 := rfl
theorem lX_57 : layX 57 = kIA 1024 := rfl
theorem lX_58 : layX 58 = kOB 0 [(1, 1)] := rfl
theorem lX_59 : layX 59 = kOB 9 [(1, 41), (1, 1), (1, 60), (1, 61), (1, 62), (1, 63), (0, 0), (0, 0), (0, 0), (0, 0)] := rfl
theorem lX_60 : layX 60 = kRA 4 56 64 1 := rfl
theorem lX_61 : layX 61 = kRA 4 15 120 1 := rfl
theorem lX_62 : layX 62 = kIA 14 := rfl
theorem lX_63 : layX 63 = kIA 14 := rfl
theorem lX_64 : layX 64 = kLA 64 := rfl
theorem lX_65 : layX 65 = kLA 64 := rfl
theorem lX_66 : layX 66 = kLA 64 := rfl
theorem lX_67 : layX 67 = kLA 64 := rfl
theorem lX_68 : layX 68 = kLA 64 := rfl
theorem lX_69 : layX 69 = kLA 64 := rfl
theorem lX_70 : layX 70 = kLA 64 := rfl
theorem lX_71 : layX 71 = kLA 64 := rfl
theorem lX_72 : layX 72 = kLA 64 := rfl
theorem lX_73 : layX 73 = kLA 64 := rfl
theorem lX_74 : layX 74 = kLA 64 := rfl
theorem lX_75 : layX 75 = kLA 64 := rfl
theorem lX_76 : layX 76 = kLA 64 := rfl
theorem lX_77 : layX 77 = kLA 64 := rfl
theorem lX_78 : layX 78 = kLA 64 := rfl
theorem lX_79 : layX 79 = kLA 64 := rfl
theorem lX_80 : layX 80 = kLA 64 := rfl
theorem lX_81 : layX 81 = kLA 64 := rfl
theorem lX_82 : layX 82 = kLA 64 := rfl
theorem lX_83 : layX 83 = kLA 64 := rfl
theorem lX_84 : layX 84 = kLA 64 := rfl
theorem lX_85 : layX 85 = kLA 64 := rfl
theorem lX_86 : layX 86 = kLA 64 := rfl
theorem lX_87 : layX 87 = kLA 64 := rfl
theorem lX_88 : layX 88 = kLA 64 := rfl
theorem lX_89 : layX 89 = kLA 64 := rfl
theorem lX_90 : layX 90 = kLA 64 := rfl
theorem lX_91 : layX 91 = kLA 64 := rfl
theorem lX_92 : layX 92 = kLA 64 := rfl
theorem lX_93 : layX 93 = kLA 64 := rfl
theorem lX_94 : layX 94 = kLA 64 := rfl
theorem lX_95 : layX 95 = kLA 64 := rfl
theorem lX_96 : layX 96 = kLA 64 := rfl
theorem lX_97 : layX 97 = kLA 64 := rfl
theorem lX_98 : layX 98 = kLA 64 := rfl
theorem lX_99 : layX 99 = kLA 64 := rfl
theorem lX_100 : layX 100 = kLA 64 := rfl
theorem lX_101 : layX 101 = kLA 64 := rfl
theorem lX_102 : layX 102 = kLA 64 := rfl
theorem lX_103 : layX 103 = kLA 64 := rfl
theorem lX_104 : layX 104 = kLA 64 := rfl
theorem lX_105 : layX 105 = kLA 64 := rfl
theorem lX_106 : layX 106 = kLA 64 := rfl
theorem lX_107 : layX 107 = kLA 64 := rfl
theorem lX_108 : layX 108 = kLA 64 := rfl
theorem lX_109 : layX 109 = kLA 64 := rfl
theorem lX_110 : layX 110 = kLA 64 := rfl
theorem lX_111 : layX 111 = kLA 64 := rfl
theorem lX_112 : layX 112 = kLA 64 := rfl
theorem lX_113 : layX 113 = kLA 64 := rfl
theorem lX_114 : layX 114 = kLA 64 := rfl
theorem lX_115 : layX 115 = kLA 64 := rfl
theorem lX_116 : layX 116 = kLA 64 := rfl
theorem lX_117 : layX 117 = kLA 64 := rfl
theorem lX_118 : layX 118 = kLA 64 := rfl
theorem lX_119 : layX 119 = kLA 64 := rfl
theorem lX_120 : layX 120 = kLA 64 := rfl
theorem lX_121 : layX 121 = kLA 64 := rfl
theorem lX_122 : layX 122 = kLA 64 := rfl
theorem lX_123 : layX 123 = kLA 64 := rfl
theorem lX_124 : layX 124 = kLA 64 := rfl
theorem lX_125 : layX 125 = kLA 64 := rfl
theorem lX_126 : layX 126 = kLA 64 := rfl
theorem lX_127 : layX 127 = kLA 64 := rfl
theorem lX_128 : layX 128 = kLA 64 := rfl
theorem lX_129 : layX 129 = kLA 64 := rfl
theorem lX_130 : layX 130 = kLA 64 := rfl
theorem lX_131 : layX 131 = kLA 64 := rfl
theorem lX_132 : layX 132 = kLA 64 := rfl
theorem lX_133 : layX 133 = kLA 64 := rfl
theorem lX_134 : layX 134 = kLA 64 := rfl
theorem lX_135 : layX 135 = kOB 3 [(1, 136), (0, 0), (0, 0)] := rfl
theorem lX_136 : layX 136 = kRA 5 7 13 4 := rfl
theorem lX_137 : layX 137 = kBA 600 := rfl
theorem lX_138 : layX 138 = kOB 6 [(1, 9), (0, 0), (0, 0), (1, 140), (0, 0), (0, 0), (1, 139), (0, 0), (0, 0)] := rfl
theorem lX_139 : layX 139 = kIA 1024 := rfl
theorem lX_140 : layX 140 = kOB 8 [(1, 141), (1, 142), (1, 143), (1, 137), (0, 0)] := rfl
theorem lX_141 : layX 141 = kIA 601 := rfl
theorem lX_142 : layX 142 = kIA 601 := rfl
theorem lX_143 : layX 143 = kIA 601 := rfl
theorem lX_144 : layX 144 = kOB 5 [(2, 0), (0, 0), (2, 0), (0, 0)] := rfl
theorem lX_145 : layX 145 = kBA 600 := rfl
theorem lX_146 : layX 146 = kBA 600 := rfl
def layLM : List Kd := [kOB 11 [(0, 0), (0, 0), (1, 1), (1, 2), (1, 3), (1, 4), (0, 0), (1, 5), (1, 6), (1, 7), (1, 8), (0, 0), (0, 0), (1, 9), (0, 0), (0, 0), (1, 10), (1, 11), (1, 12), (0, 0), (0, 0), (1, 13), (0, 0), (0, 0), (0, 0), (0, 0), (0, 0), (0, 0), (0, 0), (0, 0), (0, 0), (0, 0), (0, 0), (0, 0), (3, 0), (1, 14)], kIA 6157, kIA 6157, kIA 36942, kIA 6157, kIA 6, kIA 4096, kIA 6, kIA 4096, kIA 6, kIA 6, kIA 14000, kIA 600, kBA 600, kLA 10]
def layM (k : Nat) : Kd := layLM.getD k (kIA 0)
def lenM (k : Nat) : Nat := (layM k).2.2.1
theorem lenM_ok {x n : Nat} (h : layM x = kIA n) : layM x = kIA (lenM x) := by unfold lenM; rw [h]
theorem lM_0 : layM 0 = kOB 11 [(0, 0), (0, 0), (1, 1), (1, 2), (1, 3), (1, 4), (0, 0), (1, 5), (1, 6), (1, 7), (1, 8), (0, 0), (0, 0), (1, 9), (0, 0), (0, 0), (1, 10), (1, 11), (1, 12), (0, 0), (0, 0), (1, 13), (0, 0), (0, 0), (0, 0), (0, 0), (0, 0), (0, 0), (0, 0), (0, 0), (0, 0), (0, 0), (0, 0), (0, 0), (3, 0), (1, 14)] := rfl
theorem lM_1 : layM 1 = kIA 6157 := rfl
theorem lM_2 : layM 2 = kIA 6157 := rfl
theorem lM_3 : layM 3 = kIA 36942 := rfl
theorem lM_4 : layM 4 = kIA 6157 := rfl
theorem lM_5 : layM 5 = kIA 6 := rfl
theorem lM_6 : layM 6 = kIA 4096 := rfl
theorem lM_7 : layM 7 = kIA 6 := rfl
theorem lM_8 : layM 8 = kIA 4096 := rfl
theorem lM_9 : layM 9 = kIA 6 := rfl
theorem lM_10 : layM 10 = kIA 6 := rfl
theorem lM_11 : layM 11 = kIA 14000 := rfl
theorem lM_12 : layM 12 = kIA 600 := rfl
theorem lM_13 : layM 13 = kBA 600 := rfl
theorem lM_14 : layM 14 = kLA 10 := rfl
def isG (g : Nat) : Prop := g ∈ ([1, 5, 9, 13, 17, 21, 25, 29, 33, 37] : List Nat)
theorem isG_1 : isG 1 := by unfold isG; decide
theorem isG_5 : isG 5 := by unfold isG; decide
theorem isG_9 : isG 9 := by unfold isG; decide
theorem isG_13 : isG 13 := by unfold isG; decide
theorem isG_17 : isG 17 := by unfold isG; decide
theorem isG_21 : isG 21 := by unfold isG; decide
theorem isG_25 : isG 25 := by unfold isG; decide
theorem isG_29 : isG 29 := by unfold isG; decide
theorem isG_33 : isG 33 := by unfold isG; decide
theorem isG_37 : isG 37 := by unfold isG; decide
theorem isG_all {p : Nat → Prop} {g : Nat} (hg : isG g) (h1 : p 1) (h5 : p 5) (h9 : p 9) (h13 : p 13) (h17 : p 17) (h21 : p 21) (h25 : p 25) (h29 : p 29) (h33 : p 33) (h37 : p 37) : p g := by
  unfold isG at hg
  simp only [List.mem_cons, List.not_mem_nil, or_false] at hg
  rcases hg with rfl | rfl | rfl | rfl | rfl | rfl | rfl | rfl | rfl | rfl <;> assumption
theorem isG_o {g : Nat} (hg : isG g) : layX g = kOB 2 [(0, 0), (1, g + 1), (1, g + 2), (1, g + 3)] := isG_all (p := fun g => layX g = kOB 2 [(0, 0), (1, g + 1), (1, g + 2), (1, g + 3)]) hg rfl rfl rfl rfl rfl rfl rfl rfl rfl rfl
theorem isG_1' {g : Nat} (hg : isG g) : layX (g + 1) = kIA 6 := isG_all (p := fun g => layX (g + 1) = kIA 6) hg rfl rfl rfl rfl rfl rfl rfl rfl rfl rfl
theorem isG_2' {g : Nat} (hg : isG g) : layX (g + 2) = kIA 6 := isG_all (p := fun g => layX (g + 2) = kIA 6) hg rfl rfl rfl rfl rfl rfl rfl rfl rfl rfl
theorem isG_3' {g : Nat} (hg : isG g) : layX (g + 3) = kLA 192 := isG_all (p := fun g => layX (g + 3) = kLA 192) hg rfl rfl rfl rfl rfl rfl rfl rfl rfl rfl
theorem isG_N {g : Nat} (hg : isG g) : g < 147 := isG_all (p := fun g => g < 147) hg (Nat.le_of_ble_eq_true rfl) (Nat.le_of_ble_eq_true rfl) (Nat.le_of_ble_eq_true rfl) (Nat.le_of_ble_eq_true rfl) (Nat.le_of_ble_eq_true rfl) (Nat.le_of_ble_eq_true rfl) (Nat.le_of_ble_eq_true rfl) (Nat.le_of_ble_eq_true rfl) (Nat.le_of_ble_eq_true rfl) (Nat.le_of_ble_eq_true rfl)
theorem isG_N1 {g : Nat} (hg : isG g) : g + 1 < 147 := isG_all (p := fun g => g + 1 < 147) hg (Nat.le_of_ble_eq_true rfl) (Nat.le_of_ble_eq_true rfl) (Nat.le_of_ble_eq_true rfl) (Nat.le_of_ble_eq_true rfl) (Nat.le_of_ble_eq_true rfl) (Nat.le_of_ble_eq_true rfl) (Nat.le_of_ble_eq_true rfl) (Nat.le_of_ble_eq_true rfl) (Nat.le_of_ble_eq_true rfl) (Nat.le_of_ble_eq_true rfl)
theorem isG_N2 {g : Nat} (hg : isG g) : g + 2 < 147 := isG_all (p := fun g => g + 2 < 147) hg (Nat.le_of_ble_eq_true rfl) (Nat.le_of_ble_eq_true rfl) (Nat.le_of_ble_eq_true rfl) (Nat.le_of_ble_eq_true rfl) (Nat.le_of_ble_eq_true rfl) (Nat.le_of_ble_eq_true rfl) (Nat.le_of_ble_eq_true rfl) (Nat.le_of_ble_eq_true rfl) (Nat.le_of_ble_eq_true rfl) (Nat.le_of_ble_eq_true rfl)
theorem isG_N3 {g : Nat} (hg : isG g) : g + 3 < 147 := isG_all (p := fun g => g + 3 < 147) hg (Nat.le_of_ble_eq_true rfl) (Nat.le_of_ble_eq_true rfl) (Nat.le_of_ble_eq_true rfl) (Nat.le_of_ble_eq_true rfl) (Nat.le_of_ble_eq_true rfl) (Nat.le_of_ble_eq_true rfl) (Nat.le_of_ble_eq_true rfl) (Nat.le_of_ble_eq_true rfl) (Nat.le_of_ble_eq_true rfl) (Nat.le_of_ble_eq_true rfl)
theorem isG_r {j : Nat} (h : j < 7) : isG (13 + j * 4) := by
  unfold isG
  have h2 : j = 0 ∨ j = 1 ∨ j = 2 ∨ j = 3 ∨ j = 4 ∨ j = 5 ∨ j = 6 := by omega
  rcases h2 with rfl | rfl | rfl | rfl | rfl | rfl | rfl <;> decide
def isPB (x : Nat) : Bool := decide (x = 145 ∨ x = 146)
theorem isPB_1 {x : Nat} (h : isPB x = true) : layX x = kBA 600 := by rcases of_decide_eq_true h with rfl | rfl <;> rfl
theorem isPB_2 {x : Nat} (h : isPB x = true) : x < 147 := by rcases of_decide_eq_true h with rfl | rfl <;> decide
theorem lrow_43 {j : Nat} (h : j < 6) : layX (44 + j * 1) = kIA 4096 ∧ 44 + j * 1 < 147 := by
  refine ⟨?_, by omega⟩
  have h2 : j = 0 ∨ j = 1 ∨ j = 2 ∨ j = 3 ∨ j = 4 ∨ j = 5 := by omega
  rcases h2 with rfl | rfl | rfl | rfl | rfl | rfl <;> rfl
theorem lrow_60 {j : Nat} (h : j < 56) : layX (64 + j * 1) = kLA 64 ∧ 64 + j * 1 < 147 := by
  refine ⟨?_, by omega⟩
  have h2 : j = 0 ∨ j = 1 ∨ j = 2 ∨ j = 3 ∨ j = 4 ∨ j = 5 ∨ j = 6 ∨ j = 7 ∨ j = 8 ∨ j = 9 ∨ j = 10 ∨ j = 11 ∨ j = 12 ∨ j = 13 ∨ j = 14 ∨ j = 15 ∨ j = 16 ∨ j = 17 ∨ j = 18 ∨ j = 19 ∨ j = 20 ∨ j = 21 ∨ j = 22 ∨ j = 23 ∨ j = 24 ∨ j = 25 ∨ j = 26 ∨ j = 27 ∨ j = 28 ∨ j = 29 ∨ j = 30 ∨ j = 31 ∨ j = 32 ∨ j = 33 ∨ j = 34 ∨ j = 35 ∨ j = 36 ∨ j = 37 ∨ j = 38 ∨ j = 39 ∨ j = 40 ∨ j = 41 ∨ j = 42 ∨ j = 43 ∨ j = 44 ∨ j = 45 ∨ j = 46 ∨ j = 47 ∨ j = 48 ∨ j = 49 ∨ j = 50 ∨ j = 51 ∨ j = 52 ∨ j = 53 ∨ j = 54 ∨ j = 55 := by omega
  rcases h2 with rfl | rfl | rfl | rfl | rfl | rfl | rfl | rfl | rfl | rfl | rfl | rfl | rfl | rfl | rfl | rfl | rfl | rfl | rfl | rfl | rfl | rfl | rfl | rfl | rfl | rfl | rfl | rfl | rfl | rfl | rfl | rfl | rfl | rfl | rfl | rfl | rfl | rfl | rfl | rfl | rfl | rfl | rfl | rfl | rfl | rfl | rfl | rfl | rfl | rfl | rfl | rfl | rfl | rfl | rfl | rfl <;> rfl
theorem lrow_61 {j : Nat} (h : j < 15) : layX (120 + j * 1) = kLA 64 ∧ 120 + j * 1 < 147 := by
  refine ⟨?_, by omega⟩
  have h2 : j = 0 ∨ j = 1 ∨ j = 2 ∨ j = 3 ∨ j = 4 ∨ j = 5 ∨ j = 6 ∨ j = 7 ∨ j = 8 ∨ j = 9 ∨ j = 10 ∨ j = 11 ∨ j = 12 ∨ j = 13 ∨ j = 14 := by omega
  rcases h2 with rfl | rfl | rfl | rfl | rfl | rfl | rfl | rfl | rfl | rfl | rfl | rfl | rfl | rfl | rfl <;> rfl
theorem ti_0 : Int32.toInt 0 = 0 := by decide +kernel
theorem ti_1 : Int32.toInt 1 = 1 := by decide +kernel
theorem ti_2 : Int32.toInt 2 = 2 := by decide +kernel
theorem ti_3 : Int32.toInt 3 = 3 := by decide +kernel
theorem ti_4 : Int32.toInt 4 = 4 := by decide +kernel
theorem ti_5 : Int32.toInt 5 = 5 := by decide +kernel
theorem ti_6 : Int32.toInt 6 = 6 := by decide +kernel
theorem ti_7 : Int32.toInt 7 = 7 := by decide +kernel
theorem ti_8 : Int32.toInt 8 = 8 := by decide +kernel
theorem ti_9 : Int32.toInt 9 = 9 := by decide +kernel
theorem ti_10 : Int32.toInt 10 = 10 := by decide +kernel
def pJ0_length_8abf5 (g : Nat) (κ : Mem) : Option Int32 := some (Int32.ofNat (lenJS.getD g 0))
def chJS (g i : Nat) : Int32 := (bytJS.getD g []).getD i 0 &&& 255
def pJ0_charAt_5068e (g : Nat) (κ : Mem) (v1 : Int32) : Option Int32 := ckI v1 (lenJS.getD g 0) (some (chJS g v1.toNatClampNeg))

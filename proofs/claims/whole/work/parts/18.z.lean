/-! THE FIXED MEMORY behind the constructors: kinds and references never change but for the two tales. -/
def mk_k (c : Nat) : Nat × Nat := (if c < 89 then (if c < 45 then (if c < 23 then (if c < 12 then (if c < 6 then (if c < 3 then (if c < 2 then (0, 10) else (0, 6)) else (if c < 4 then (0, 9) else (if c < 5 then (1, 700) else (0, 8)))) else (if c < 9 then (if c < 7 then (1, 6) else (if c < 8 then (1, 6) else (1, 10))) else (if c < 10 then (1, 10) else (if c < 11 then (1, 10) else (1, 10))))) else (if c < 17 then (if c < 14 then (if c < 13 then (1, 10) else (1, 10)) else (if c < 15 then (1, 10) else (if c < 16 then (1, 10) else (1, 8)))) else (if c < 20 then (if c < 18 then (1, 8) else (if c < 19 then (0, 7) else (1, 700))) else (if c < 21 then (1, 8) else (if c < 22 then (1, 40) else (1, 80)))))) else (if c < 34 then (if c < 28 then (if c < 25 then (if c < 24 then (0, 8) else (1, 6)) else (if c < 26 then (1, 6) else (if c < 27 then (1, 10) else (1, 10)))) else (if c < 31 then (if c < 29 then (1, 10) else (if c < 30 then (1, 10) else (1, 10))) else (if c < 32 then (1, 10) else (if c < 33 then (1, 10) else (1, 10))))) else (if c < 39 then (if c < 36 then (if c < 35 then (1, 8) else (1, 8)) else (if c < 37 then (0, 7) else (if c < 38 then (1, 700) else (1, 8)))) else (if c < 42 then (if c < 40 then (1, 40) else (if c < 41 then (1, 80) else (0, 4))) else (if c < 43 then (1, 6) else (if c < 44 then (1, 6) else (1, 6))))))) else (if c < 67 then (if c < 56 then (if c < 50 then (if c < 47 then (if c < 46 then (1, 60) else (1, 4)) else (if c < 48 then (1, 4) else (if c < 49 then (0, 4) else (1, 6)))) else (if c < 53 then (if c < 51 then (1, 6) else (if c < 52 then (1, 6) else (1, 60))) else (if c < 54 then (1, 4) else (if c < 55 then (1, 4) else (0, 2))))) else (if c < 61 then (if c < 58 then (if c < 57 then (1, 3160) else (0, 0)) else (if c < 59 then (1, 8) else (if c < 60 then (1, 8) else (2, 8)))) else (if c < 64 then (if c < 62 then (0, 1) else (if c < 63 then (4, 6) else (1, 5))) else (if c < 65 then (1, 5) else (if c < 66 then (0, 4) else (1, 6)))))) else (if c < 78 then (if c < 72 then (if c < 69 then (if c < 68 then (1, 6) else (1, 6)) else (if c < 70 then (1, 60) else (if c < 71 then (1, 4) else (1, 4)))) else (if c < 75 then (if c < 73 then (0, 4) else (if c < 74 then (1, 6) else (1, 6))) else (if c < 76 then (1, 6) else (if c < 77 then (1, 60) else (1, 4))))) else (if c < 83 then (if c < 80 then (if c < 79 then (1, 4) else (0, 4)) else (if c < 81 then (1, 6) else (if c < 82 then (1, 6) else (1, 6)))) else (if c < 86 then (if c < 84 then (1, 60) else (if c < 85 then (1, 4) else (1, 4))) else (if c < 87 then (0, 4) else (if c < 88 then (1, 6) else (1, 6)))))))) else (if c < 133 then (if c < 111 then (if c < 100 then (if c < 94 then (if c < 91 then (if c < 90 then (1, 6) else (1, 60)) else (if c < 92 then (1, 4) else (if c < 93 then (1, 4) else (0, 4)))) else (if c < 97 then (if c < 95 then (1, 6) else (if c < 96 then (1, 6) else (1, 6))) else (if c < 98 then (1, 60) else (if c < 99 then (1, 4) else (1, 4))))) else (if c < 105 then (if c < 102 then (if c < 101 then (0, 4) else (1, 6)) else (if c < 103 then (1, 6) else (if c < 104 then (1, 6) else (1, 60)))) else (if c < 108 then (if c < 106 then (1, 4) else (if c < 107 then (1, 4) else (0, 5))) else (if c < 109 then (5, 6) else (if c < 110 then (1, 21) else (1, 21)))))) else (if c < 122 then (if c < 116 then (if c < 113 then (if c < 112 then (1, 21) else (1, 21)) else (if c < 114 then (1, 21) else (if c < 115 then (1, 21) else (5, 7)))) else (if c < 119 then (if c < 117 then (1, 31) else (if c < 118 then (1, 31) else (1, 31))) else (if c < 120 then (1, 31) else (if c < 121 then (1, 31) else (1, 31))))) else (if c < 127 then (if c < 124 then (if c < 123 then (1, 31) else (1, 6)) else (if c < 125 then (0, 3) else (if c < 126 then (1, 10) else (1, 3)))) else (if c < 130 then (if c < 128 then (1, 6) else (if c < 129 then (1, 6) else (0, 4))) else (if c < 131 then (1, 6) else (if c < 132 then (1, 6) else (1, 6))))))) else (if c < 155 then (if c < 144 then (if c < 138 then (if c < 135 then (if c < 134 then (1, 60) else (1, 4)) else (if c < 136 then (1, 4) else (if c < 137 then (0, 2) else (1, 3160)))) else (if c < 141 then (if c < 139 then (0, 0) else (if c < 140 then (1, 8) else (1, 8))) else (if c < 142 then (2, 8) else (if c < 143 then (0, 11) else (1, 60))))) else (if c < 149 then (if c < 146 then (if c < 145 then (1, 20) else (1, 16)) else (if c < 147 then (1, 6) else (if c < 148 then (1, 6) else (1, 1900)))) else (if c < 152 then (if c < 150 then (1, 700) else (if c < 151 then (1, 3) else (1, 60))) else (if c < 153 then (1, 20) else (if c < 154 then (1, 16) else (1, 6)))))) else (if c < 166 then (if c < 160 then (if c < 157 then (if c < 156 then (1, 6) else (1, 1900)) else (if c < 158 then (1, 950) else (if c < 159 then (2, 9) else (1, 139)))) else (if c < 163 then (if c < 161 then (1, 139) else (if c < 162 then (1, 5560) else (1, 7))) else (if c < 164 then (1, 950) else (if c < 165 then (1, 4) else (1, 4))))) else (if c < 171 then (if c < 168 then (if c < 167 then (1, 5) else (1, 5)) else (if c < 169 then (1, 6) else (if c < 170 then (1, 126) else (1, 217)))) else (if c < 174 then (if c < 172 then (1, 6) else (if c < 173 then (1, 24) else (1, 139))) else (if c < 175 then (1, 5560) else (if c < 176 then (1, 24) else (3, 1)))))))))
def K0 (n c : Nat) : Nat × Nat := if c = 0 then (7, n) else if c < 177 then mk_k c else (99, 0)
def mk_r (c : Nat) : List (Nat × Nat) := (if c < 89 then (if c < 45 then (if c < 23 then (if c < 12 then (if c < 6 then (if c < 3 then (if c < 2 then [(0, 2), (3, 41), (4, 48), (5, 55), (6, 57), (7, 61), (8, 107), (9, 124), (10, 126), (11, 127), (12, 128), (13, 129), (14, 136), (15, 138)] else [(0, 3)]) else (if c < 4 then [(0, 4)] else (if c < 5 then [] else [(5, 6), (6, 7), (7, 8), (8, 9), (9, 10), (10, 11), (11, 12), (12, 13), (13, 14), (14, 15), (15, 16), (16, 17), (17, 18)]))) else (if c < 9 then (if c < 7 then [] else (if c < 8 then [] else [])) else (if c < 10 then [] else (if c < 11 then [] else [])))) else (if c < 17 then (if c < 14 then (if c < 13 then [] else []) else (if c < 15 then [] else (if c < 16 then [] else []))) else (if c < 20 then (if c < 18 then [] else (if c < 19 then [(0, 19), (2, 20), (3, 21), (4, 22)] else [])) else (if c < 21 then [] else (if c < 22 then [] else []))))) else (if c < 34 then (if c < 28 then (if c < 25 then (if c < 24 then [(5, 24), (6, 25), (7, 26), (8, 27), (9, 28), (10, 29), (11, 30), (12, 31), (13, 32), (14, 33), (15, 34), (16, 35), (17, 36)] else []) else (if c < 26 then [] else (if c < 27 then [] else []))) else (if c < 31 then (if c < 29 then [] else (if c < 30 then [] else [])) else (if c < 32 then [] else (if c < 33 then [] else [])))) else (if c < 39 then (if c < 36 then (if c < 35 then [] else []) else (if c < 37 then [(0, 37), (2, 38), (3, 39), (4, 40)] else (if c < 38 then [] else []))) else (if c < 42 then (if c < 40 then [] else (if c < 41 then [] else [(1, 42), (2, 43), (3, 44), (4, 45), (5, 46), (6, 47)])) else (if c < 43 then [] else (if c < 44 then [] else [])))))) else (if c < 67 then (if c < 56 then (if c < 50 then (if c < 47 then (if c < 46 then [] else []) else (if c < 48 then [] else (if c < 49 then [(1, 49), (2, 50), (3, 51), (4, 52), (5, 53), (6, 54)] else []))) else (if c < 53 then (if c < 51 then [] else (if c < 52 then [] else [])) else (if c < 54 then [] else (if c < 55 then [] else [(0, 56)])))) else (if c < 61 then (if c < 58 then (if c < 57 then [] else [(0, 58), (1, 59), (2, 60)]) else (if c < 59 then [] else (if c < 60 then [] else []))) else (if c < 64 then (if c < 62 then [(0, 62), (1, 63), (2, 64)] else (if c < 63 then [(0, 65), (1, 72), (2, 79), (3, 86), (4, 93), (5, 100)] else [])) else (if c < 65 then [] else (if c < 66 then [(1, 66), (2, 67), (3, 68), (4, 69), (5, 70), (6, 71)] else []))))) else (if c < 78 then (if c < 72 then (if c < 69 then (if c < 68 then [] else []) else (if c < 70 then [] else (if c < 71 then [] else []))) else (if c < 75 then (if c < 73 then [(1, 73), (2, 74), (3, 75), (4, 76), (5, 77), (6, 78)] else (if c < 74 then [] else [])) else (if c < 76 then [] else (if c < 77 then [] else [])))) else (if c < 83 then (if c < 80 then (if c < 79 then [] else [(1, 80), (2, 81), (3, 82), (4, 83), (5, 84), (6, 85)]) else (if c < 81 then [] else (if c < 82 then [] else []))) else (if c < 86 then (if c < 84 then [] else (if c < 85 then [] else [])) else (if c < 87 then [(1, 87), (2, 88), (3, 89), (4, 90), (5, 91), (6, 92)] else (if c < 88 then [] else []))))))) else (if c < 133 then (if c < 111 then (if c < 100 then (if c < 94 then (if c < 91 then (if c < 90 then [] else []) else (if c < 92 then [] else (if c < 93 then [] else [(1, 94), (2, 95), (3, 96), (4, 97), (5, 98), (6, 99)]))) else (if c < 97 then (if c < 95 then [] else (if c < 96 then [] else [])) else (if c < 98 then [] else (if c < 99 then [] else [])))) else (if c < 105 then (if c < 102 then (if c < 101 then [(1, 101), (2, 102), (3, 103), (4, 104), (5, 105), (6, 106)] else []) else (if c < 103 then [] else (if c < 104 then [] else []))) else (if c < 108 then (if c < 106 then [] else (if c < 107 then [] else [(0, 108), (1, 115), (2, 123)])) else (if c < 109 then [(0, 109), (1, 110), (2, 111), (3, 112), (4, 113), (5, 114)] else (if c < 110 then [] else []))))) else (if c < 122 then (if c < 116 then (if c < 113 then (if c < 112 then [] else []) else (if c < 114 then [] else (if c < 115 then [] else [(0, 116), (1, 117), (2, 118), (3, 119), (4, 120), (5, 121), (6, 122)]))) else (if c < 119 then (if c < 117 then [] else (if c < 118 then [] else [])) else (if c < 120 then [] else (if c < 121 then [] else [])))) else (if c < 127 then (if c < 124 then (if c < 123 then [] else []) else (if c < 125 then [(0, 125)] else (if c < 126 then [] else []))) else (if c < 130 then (if c < 128 then [] else (if c < 129 then [] else [(1, 130), (2, 131), (3, 132), (4, 133), (5, 134), (6, 135)])) else (if c < 131 then [] else (if c < 132 then [] else [])))))) else (if c < 155 then (if c < 144 then (if c < 138 then (if c < 135 then (if c < 134 then [] else []) else (if c < 136 then [] else (if c < 137 then [(0, 137)] else []))) else (if c < 141 then (if c < 139 then [(0, 139), (1, 140), (2, 141)] else (if c < 140 then [] else [])) else (if c < 142 then [] else (if c < 143 then [(6, 143), (7, 144), (8, 145), (9, 146), (10, 147), (11, 148), (12, 149), (16, 150), (33, 151), (34, 152), (35, 153), (36, 154), (37, 155), (38, 156), (39, 157), (40, 158), (41, 159), (42, 160), (43, 161), (45, 162), (46, 163), (47, 164), (48, 165), (52, 166), (53, 167), (54, 168), (55, 169), (56, 170), (57, 171), (60, 172), (65, 173), (66, 174), (67, 175)] else [])))) else (if c < 149 then (if c < 146 then (if c < 145 then [] else []) else (if c < 147 then [] else (if c < 148 then [] else []))) else (if c < 152 then (if c < 150 then [] else (if c < 151 then [] else [])) else (if c < 153 then [] else (if c < 154 then [] else []))))) else (if c < 166 then (if c < 160 then (if c < 157 then (if c < 156 then [] else []) else (if c < 158 then [] else (if c < 159 then [] else []))) else (if c < 163 then (if c < 161 then [] else (if c < 162 then [] else [])) else (if c < 164 then [] else (if c < 165 then [] else [])))) else (if c < 171 then (if c < 168 then (if c < 167 then [] else []) else (if c < 169 then [] else (if c < 170 then [] else []))) else (if c < 174 then (if c < 172 then [] else (if c < 173 then [] else [])) else (if c < 175 then [] else (if c < 176 then [] else []))))))))
def R0 (sw : Bool) (c k : Nat) : Option Nat := if c = 1 ∧ k = 1 then some (if sw then 23 else 5) else if c = 1 ∧ k = 2 then some (if sw then 5 else 23) else ((mk_r c).find? (fun q => q.1 == k)).map (fun q => q.2)
/-- length of the script, things thrown, which tale counts -/
def mm (e : Nat × Nat × Bool) (F : Nat → Nat → Int32) (l : Nat → Nat → Int64) : am_M := ((176, e.2.1, 28945 + 6 * e.2.1), K0 e.1, F, R0 e.2.2, l)
section MMS
variable {e : Nat × Nat × Bool} {F : Nat → Nat → Int32} {l : Nat → Nat → Int64} {n g : Nat} {sw : Bool}
theorem m_kk (a : Nat) : kk (mm e F l) a = K0 e.1 a := rfl
theorem m_ii (a k : Nat) : ii (mm e F l) a k = F a k := rfl
theorem m_rr (a k : Nat) : rr (mm e F l) a k = R0 e.2.2 a k := rfl
theorem m_jj (a k : Nat) : jj (mm e F l) a k = l a k := rfl
theorem m_si (a k : Nat) (v : Int32) : si (mm e F l) a k v = mm e (am_up F a k v) l := rfl
theorem m_sj (a k : Nat) (v : Int64) : sj (mm e F l) a k v = mm e F (am_up l a k v) := rfl
theorem m_sc (a b sp dp n : Nat) : sc (mm e F l) a b sp dp n = mm e (am_cpy F a b sp dp n) l := rfl
theorem m_gar : am_gar (mm e F l) = mm (e.1, e.2.1 + 1, e.2.2) F l := by
  show ((176, e.2.1 + 1, 28945 + 6 * e.2.1 + 6), _) = ((176, e.2.1 + 1, 28945 + 6 * (e.2.1 + 1)), _)
  rw [show 28945 + 6 * e.2.1 + 6 = 28945 + 6 * (e.2.1 + 1) by omega]
  rfl
theorem k_1 : K0 n 1 = (0, 10) := rfl
theorem k_2 : K0 n 2 = (0, 6) := rfl
theorem k_3 : K0 n 3 = (0, 9) := rfl
theorem k_4 : K0 n 4 = (1, 700) := rfl
theorem k_5 : K0 n 5 = (0, 8) := rfl
theorem k_6 : K0 n 6 = (1, 6) := rfl
theorem k_7 : K0 n 7 = (1, 6) := rfl
theorem k_8 : K0 n 8 = (1, 10) := rfl
theorem k_9 : K0 n 9 = (1, 10) := rfl
theorem k_10 : K0 n 10 = (1, 10) := rfl
theorem k_11 : K0 n 11 = (1, 10) := rfl
theorem k_12 : K0 n 12 = (1, 10) := rfl
theorem k_13 : K0 n 13 = (1, 10) := rfl
theorem k_14 : K0 n 14 = (1, 10) := rfl
theorem k_15 : K0 n 15 = (1, 10) := rfl
theorem k_16 : K0 n 16 = (1, 8) := rfl
theorem k_17 : K0 n 17 = (1, 8) := rfl
theorem k_18 : K0 n 18 = (0, 7) := rfl
theorem k_19 : K0 n 19 = (1, 700) := rfl
theorem k_20 : K0 n 20 = (1, 8) := rfl
theorem k_21 : K0 n 21 = (1, 40) := rfl
theorem k_22 : K0 n 22 = (1, 80) := rfl
theorem k_23 : K0 n 23 = (0, 8) := rfl
theorem k_24 : K0 n 24 = (1, 6) := rfl
theorem k_25 : K0 n 25 = (1, 6) := rfl
theorem k_26 : K0 n 26 = (1, 10) := rfl
theorem k_27 : K0 n 27 = (1, 10) := rfl
theorem k_28 : K0 n 28 = (1, 10) := rfl
theorem k_29 : K0 n 29 = (1, 10) := rfl
theorem k_30 : K0 n 30 = (1, 10) := rfl
theorem k_31 : K0 n 31 = (1, 10) := rfl
theorem k_32 : K0 n 32 = (1, 10) := rfl
theorem k_33 : K0 n 33 = (1, 10) := rfl
theorem k_34 : K0 n 34 = (1, 8) := rfl
theorem k_35 : K0 n 35 = (1, 8) := rfl
theorem k_36 : K0 n 36 = (0, 7) := rfl
theorem k_37 : K0 n 37 = (1, 700) := rfl
theorem k_38 : K0 n 38 = (1, 8) := rfl
theorem k_39 : K0 n 39 = (1, 40) := rfl
theorem k_40 : K0 n 40 = (1, 80) := rfl
theorem k_41 : K0 n 41 = (0, 4) := rfl
theorem k_42 : K0 n 42 = (1, 6) := rfl
theorem k_43 : K0 n 43 = (1, 6) := rfl
theorem k_44 : K0 n 44 = (1, 6) := rfl
theorem k_45 : K0 n 45 = (1, 60) := rfl
theorem k_46 : K0 n 46 = (1, 4) := rfl
theorem k_47 : K0 n 47 = (1, 4) := rfl
theorem k_48 : K0 n 48 = (0, 4) := rfl
theorem k_49 : K0 n 49 = (1, 6) := rfl
theorem k_50 : K0 n 50 = (1, 6) := rfl
theorem k_51 : K0 n 51 = (1, 6) := rfl
theorem k_52 : K0 n 52 = (1, 60) := rfl
theorem k_53 : K0 n 53 = (1, 4) := rfl
theorem k_54 : K0 n 54 = (1, 4) := rfl
theorem k_55 : K0 n 55 = (0, 2) := rfl
theorem k_56 : K0 n 56 = (1, 3160) := rfl
theorem k_57 : K0 n 57 = (0, 0) := rfl
theorem k_58 : K0 n 58 = (1, 8) := rfl
theorem k_59 : K0 n 59 = (1, 8) := rfl
theorem k_60 : K0 n 60 = (2, 8) := rfl
theorem k_61 : K0 n 61 = (0, 1) := rfl
theorem k_62 : K0 n 62 = (4, 6) := rfl
theorem k_63 : K0 n 63 = (1, 5) := rfl
theorem k_64 : K0 n 64 = (1, 5) := rfl
theorem k_65 : K0 n 65 = (0, 4) := rfl
theorem k_66 : K0 n 66 = (1, 6) := rfl
theorem k_67 : K0 n 67 = (1, 6) := rfl
theorem k_68 : K0 n 68 = (1, 6) := rfl
theorem k_69 : K0 n 69 = (1, 60) := rfl
theorem k_70 : K0 n 70 = (1, 4) := rfl
theorem k_71 : K0 n 71 = (1, 4) := rfl
theorem k_72 : K0 n 72 = (0, 4) := rfl
theorem k_73 : K0 n 73 = (1, 6) := rfl
theorem k_74 : K0 n 74 = (1, 6) := rfl
theorem k_75 : K0 n 75 = (1, 6) := rfl
theorem k_76 : K0 n 76 = (1, 60) := rfl
theorem k_77 : K0 n 77 = (1, 4) := rfl
theorem k_78 : K0 n 78 = (1, 4) := rfl
theorem k_79 : K0 n 79 = (0, 4) := rfl
theorem k_80 : K0 n 80 = (1, 6) := rfl
theorem k_81 : K0 n 81 = (1, 6) := rfl
theorem k_82 : K0 n 82 = (1, 6) := rfl
theorem k_83 : K0 n 83 = (1, 60) := rfl
theorem k_84 : K0 n 84 = (1, 4) := rfl
theorem k_85 : K0 n 85 = (1, 4) := rfl
theorem k_86 : K0 n 86 = (0, 4) := rfl
theorem k_87 : K0 n 87 = (1, 6) := rfl
theorem k_88 : K0 n 88 = (1, 6) := rfl
theorem k_89 : K0 n 89 = (1, 6) := rfl
theorem k_90 : K0 n 90 = (1, 60) := rfl
theorem k_91 : K0 n 91 = (1, 4) := rfl
theorem k_92 : K0 n 92 = (1, 4) := rfl
theorem k_93 : K0 n 93 = (0, 4) := rfl
theorem k_94 : K0 n 94 = (1, 6) := rfl
theorem k_95 : K0 n 95 = (1, 6) := rfl
theorem k_96 : K0 n 96 = (1, 6) := rfl
theorem k_97 : K0 n 97 = (1, 60) := rfl
theorem k_98 : K0 n 98 = (1, 4) := rfl
theorem k_99 : K0 n 99 = (1, 4) := rfl
theorem k_100 : K0 n 100 = (0, 4) := rfl
theorem k_101 : K0 n 101 = (1, 6) := rfl
theorem k_102 : K0 n 102 = (1, 6) := rfl
theorem k_103 : K0 n 103 = (1, 6) := rfl
theorem k_104 : K0 n 104 = (1, 60) := rfl
theorem k_105 : K0 n 105 = (1, 4) := rfl
theorem k_106 : K0 n 106 = (1, 4) := rfl
theorem k_107 : K0 n 107 = (0, 5) := rfl
theorem k_108 : K0 n 108 = (5, 6) := rfl
theorem k_109 : K0 n 109 = (1, 21) := rfl
theorem k_110 : K0 n 110 = (1, 21) := rfl
theorem k_111 : K0 n 111 = (1, 21) := rfl
theorem k_112 : K0 n 112 = (1, 21) := rfl
theorem k_113 : K0 n 113 = (1, 21) := rfl
theorem k_114 : K0 n 114 = (1, 21) := rfl
theorem k_115 : K0 n 115 = (5, 7) := rfl
theorem k_116 : K0 n 116 = (1, 31) := rfl
theorem k_117 : K0 n 117 = (1, 31) := rfl
theorem k_118 : K0 n 118 = (1, 31) := rfl
theorem k_119 : K0 n 119 = (1, 31) := rfl
theorem k_120 : K0 n 120 = (1, 31) := rfl
theorem k_121 : K0 n 121 = (1, 31) := rfl
theorem k_122 : K0 n 122 = (1, 31) := rfl
theorem k_123 : K0 n 123 = (1, 6) := rfl
theorem k_124 : K0 n 124 = (0, 3) := rfl
theorem k_125 : K0 n 125 = (1, 10) := rfl
theorem k_126 : K0 n 126 = (1, 3) := rfl
theorem k_127 : K0 n 127 = (1, 6) := rfl
theorem k_128 : K0 n 128 = (1, 6) := rfl
theorem k_129 : K0 n 129 = (0, 4) := rfl
theorem k_130 : K0 n 130 = (1, 6) := rfl
theorem k_131 : K0 n 131 = (1, 6) := rfl
theorem k_132 : K0 n 132 = (1, 6) := rfl
theorem k_133 : K0 n 133 = (1, 60) := rfl
theorem k_134 : K0 n 134 = (1, 4) := rfl
theorem k_135 : K0 n 135 = (1, 4) := rfl
theorem k_136 : K0 n 136 = (0, 2) := rfl
theorem k_137 : K0 n 137 = (1, 3160) := rfl
theorem k_138 : K0 n 138 = (0, 0) := rfl
theorem k_139 : K0 n 139 = (1, 8) := rfl
theorem k_140 : K0 n 140 = (1, 8) := rfl
theorem k_141 : K0 n 141 = (2, 8) := rfl
theorem k_142 : K0 n 142 = (0, 11) := rfl
theorem k_143 : K0 n 143 = (1, 60) := rfl
theorem k_144 : K0 n 144 = (1, 20) := rfl
theorem k_145 : K0 n 145 = (1, 16) := rfl
theorem k_146 : K0 n 146 = (1, 6) := rfl
theorem k_147 : K0 n 147 = (1, 6) := rfl
theorem k_148 : K0 n 148 = (1, 1900) := rfl
theorem k_149 : K0 n 149 = (1, 700) := rfl
theorem k_150 : K0 n 150 = (1, 3) := rfl
theorem k_151 : K0 n 151 = (1, 60) := rfl
theorem k_152 : K0 n 152 = (1, 20) := rfl
theorem k_153 : K0 n 153 = (1, 16) := rfl
theorem k_154 : K0 n 154 = (1, 6) := rfl
theorem k_155 : K0 n 155 = (1, 6) := rfl
theorem k_156 : K0 n 156 = (1, 1900) := rfl
theorem k_157 : K0 n 157 = (1, 950) := rfl
theorem k_158 : K0 n 158 = (2, 9) := rfl
theorem k_159 : K0 n 159 = (1, 139) := rfl
theorem k_160 : K0 n 160 = (1, 139) := rfl
theorem k_161 : K0 n 161 = (1, 5560) := rfl
theorem k_162 : K0 n 162 = (1, 7) := rfl
theorem k_163 : K0 n 163 = (1, 950) := rfl
theorem k_164 : K0 n 164 = (1, 4) := rfl
theorem k_165 : K0 n 165 = (1, 4) := rfl
theorem k_166 : K0 n 166 = (1, 5) := rfl
theorem k_167 : K0 n 167 = (1, 5) := rfl
theorem k_168 : K0 n 168 = (1, 6) := rfl
theorem k_169 : K0 n 169 = (1, 126) := rfl
theorem k_170 : K0 n 170 = (1, 217) := rfl
theorem k_171 : K0 n 171 = (1, 6) := rfl
theorem k_172 : K0 n 172 = (1, 24) := rfl
theorem k_173 : K0 n 173 = (1, 139) := rfl
theorem k_174 : K0 n 174 = (1, 5560) := rfl
theorem k_175 : K0 n 175 = (1, 24) := rfl
theorem k_176 : K0 n 176 = (3, 1) := rfl
theorem k_0 : K0 n 0 = (7, n) := rfl
theorem r_1_0 : R0 sw 1 0 = some 2 := rfl
theorem r_1_3 : R0 sw 1 3 = some 41 := rfl
theorem r_1_4 : R0 sw 1 4 = some 48 := rfl
theorem r_1_5 : R0 sw 1 5 = some 55 := rfl
theorem r_1_6 : R0 sw 1 6 = some 57 := rfl
theorem r_1_7 : R0 sw 1 7 = some 61 := rfl
theorem r_1_8 : R0 sw 1 8 = some 107 := rfl
theorem r_1_9 : R0 sw 1 9 = some 124 := rfl
theorem r_1_10 : R0 sw 1 10 = some 126 := rfl
theorem r_1_11 : R0 sw 1 11 = some 127 := rfl
theorem r_1_12 : R0 sw 1 12 = some 128 := rfl
theorem r_1_13 : R0 sw 1 13 = some 129 := rfl
theorem r_1_14 : R0 sw 1 14 = some 136 := rfl
theorem r_1_15 : R0 sw 1 15 = some 138 := rfl
theorem r_2_0 : R0 sw 2 0 = some 3 := rfl
theorem r_3_0 : R0 sw 3 0 = some 4 := rfl
theorem r_5_5 : R0 sw 5 5 = some 6 := rfl
theorem r_5_6 : R0 sw 5 6 = some 7 := rfl
theorem r_5_7 : R0 sw 5 7 = some 8 := rfl
theorem r_5_8 : R0 sw 5 8 = some 9 := rfl
theorem r_5_9 : R0 sw 5 9 = some 10 := rfl
theorem r_5_10 : R0 sw 5 10 = some 11 := rfl
theorem r_5_11 : R0 sw 5 11 = some 12 := rfl
theorem r_5_12 : R0 sw 5 12 = some 13 := rfl
theorem r_5_13 : R0 sw 5 13 = some 14 := rfl
theorem r_5_14 : R0 sw 5 14 = some 15 := rfl
theorem r_5_15 : R0 sw 5 15 = some 16 := rfl
theorem r_5_16 : R0 sw 5 16 = some 17 := rfl
theorem r_5_17 : R0 sw 5 17 = some 18 := rfl
theorem r_18_0 : R0 sw 18 0 = some 19 := rfl
theorem r_18_2 : R0 sw 18 2 = some 20 := rfl
theorem r_18_3 : R0 sw 18 3 = some 21 := rfl
theorem r_18_4 : R0 sw 18 4 = some 22 := rfl
theorem r_23_5 : R0 sw 23 5 = some 24 := rfl
theorem r_23_6 : R0 sw 23 6 = some 25 := rfl
theorem r_23_7 : R0 sw 23 7 = some 26 := rfl
theorem r_23_8 : R0 sw 23 8 = some 27 := rfl
theorem r_23_9 : R0 sw 23 9 = some 28 := rfl
theorem r_23_10 : R0 sw 23 10 = some 29 := rfl
theorem r_23_11 : R0 sw 23 11 = some 30 := rfl
theorem r_23_12 : R0 sw 23 12 = some 31 := rfl
theorem r_23_13 : R0 sw 23 13 = some 32 := rfl
theorem r_23_14 : R0 sw 23 14 = some 33 := rfl
theorem r_23_15 : R0 sw 23 15 = some 34 := rfl
theorem r_23_16 : R0 sw 23 16 = some 35 := rfl
theorem r_23_17 : R0 sw 23 17 = some 36 := rfl
theorem r_36_0 : R0 sw 36 0 = some 37 := rfl
theorem r_36_2 : R0 sw 36 2 = some 38 := rfl
theorem r_36_3 : R0 sw 36 3 = some 39 := rfl
theorem r_36_4 : R0 sw 36 4 = some 40 := rfl
theorem r_41_1 : R0 sw 41 1 = some 42 := rfl
theorem r_41_2 : R0 sw 41 2 = some 43 := rfl
theorem r_41_3 : R0 sw 41 3 = some 44 := rfl
theorem r_41_4 : R0 sw 41 4 = some 45 := rfl
theorem r_41_5 : R0 sw 41 5 = some 46 := rfl
theorem r_41_6 : R0 sw 41 6 = some 47 := rfl
theorem r_48_1 : R0 sw 48 1 = some 49 := rfl
theorem r_48_2 : R0 sw 48 2 = some 50 := rfl
theorem r_48_3 : R0 sw 48 3 = some 51 := rfl
theorem r_48_4 : R0 sw 48 4 = some 52 := rfl
theorem r_48_5 : R0 sw 48 5 = some 53 := rfl
theorem r_48_6 : R0 sw 48 6 = some 54 := rfl
theorem r_55_0 : R0 sw 55 0 = some 56 := rfl
theorem r_57_0 : R0 sw 57 0 = some 58 := rfl
theorem r_57_1 : R0 sw 57 1 = some 59 := rfl
theorem r_57_2 : R0 sw 57 2 = some 60 := rfl
theorem r_61_0 : R0 sw 61 0 = some 62 := rfl
theorem r_61_1 : R0 sw 61 1 = some 63 := rfl
theorem r_61_2 : R0 sw 61 2 = some 64 := rfl
theorem r_62_0 : R0 sw 62 0 = some 65 := rfl
theorem r_62_1 : R0 sw 62 1 = some 72 := rfl
theorem r_62_2 : R0 sw 62 2 = some 79 := rfl
theorem r_62_3 : R0 sw 62 3 = some 86 := rfl
theorem r_62_4 : R0 sw 62 4 = some 93 := rfl
theorem r_62_5 : R0 sw 62 5 = some 100 := rfl
theorem r_65_1 : R0 sw 65 1 = some 66 := rfl
theorem r_65_2 : R0 sw 65 2 = some 67 := rfl
theorem r_65_3 : R0 sw 65 3 = some 68 := rfl
theorem r_65_4 : R0 sw 65 4 = some 69 := rfl
theorem r_65_5 : R0 sw 65 5 = some 70 := rfl
theorem r_65_6 : R0 sw 65 6 = some 71 := rfl
theorem r_72_1 : R0 sw 72 1 = some 73 := rfl
theorem r_72_2 : R0 sw 72 2 = some 74 := rfl
theorem r_72_3 : R0 sw 72 3 = some 75 := rfl
theorem r_72_4 : R0 sw 72 4 = some 76 := rfl
theorem r_72_5 : R0 sw 72 5 = some 77 := rfl
theorem r_72_6 : R0 sw 72 6 = some 78 := rfl
theorem r_79_1 : R0 sw 79 1 = some 80 := rfl
theorem r_79_2 : R0 sw 79 2 = some 81 := rfl
theorem r_79_3 : R0 sw 79 3 = some 82 := rfl
theorem r_79_4 : R0 sw 79 4 = some 83 := rfl
theorem r_79_5 : R0 sw 79 5 = some 84 := rfl
theorem r_79_6 : R0 sw 79 6 = some 85 := rfl
theorem r_86_1 : R0 sw 86 1 = some 87 := rfl
theorem r_86_2 : R0 sw 86 2 = some 88 := rfl
theorem r_86_3 : R0 sw 86 3 = some 89 := rfl
theorem r_86_4 : R0 sw 86 4 = some 90 := rfl
theorem r_86_5 : R0 sw 86 5 = some 91 := rfl
theorem r_86_6 : R0 sw 86 6 = some 92 := rfl
theorem r_93_1 : R0 sw 93 1 = some 94 := rfl
theorem r_93_2 : R0 sw 93 2 = some 95 := rfl
theorem r_93_3 : R0 sw 93 3 = some 96 := rfl
theorem r_93_4 : R0 sw 93 4 = some 97 := rfl
theorem r_93_5 : R0 sw 93 5 = some 98 := rfl
theorem r_93_6 : R0 sw 93 6 = some 99 := rfl
theorem r_100_1 : R0 sw 100 1 = some 101 := rfl
theorem r_100_2 : R0 sw 100 2 = some 102 := rfl
theorem r_100_3 : R0 sw 100 3 = some 103 := rfl
theorem r_100_4 : R0 sw 100 4 = some 104 := rfl
theorem r_100_5 : R0 sw 100 5 = some 105 := rfl
theorem r_100_6 : R0 sw 100 6 = some 106 := rfl
theorem r_107_0 : R0 sw 107 0 = some 108 := rfl
theorem r_107_1 : R0 sw 107 1 = some 115 := rfl
theorem r_107_2 : R0 sw 107 2 = some 123 := rfl
theorem r_108_0 : R0 sw 108 0 = some 109 := rfl
theorem r_108_1 : R0 sw 108 1 = some 110 := rfl
theorem r_108_2 : R0 sw 108 2 = some 111 := rfl
theorem r_108_3 : R0 sw 108 3 = some 112 := rfl
theorem r_108_4 : R0 sw 108 4 = some 113 := rfl
theorem r_108_5 : R0 sw 108 5 = some 114 := rfl
theorem r_115_0 : R0 sw 115 0 = some 116 := rfl
theorem r_115_1 : R0 sw 115 1 = some 117 := rfl
theorem r_115_2 : R0 sw 115 2 = some 118 := rfl
theorem r_115_3 : R0 sw 115 3 = some 119 := rfl
theorem r_115_4 : R0 sw 115 4 = some 120 := rfl
theorem r_115_5 : R0 sw 115 5 = some 121 := rfl
theorem r_115_6 : R0 sw 115 6 = some 122 := rfl
theorem r_124_0 : R0 sw 124 0 = some 125 := rfl
theorem r_129_1 : R0 sw 129 1 = some 130 := rfl
theorem r_129_2 : R0 sw 129 2 = some 131 := rfl
theorem r_129_3 : R0 sw 129 3 = some 132 := rfl
theorem r_129_4 : R0 sw 129 4 = some 133 := rfl
theorem r_129_5 : R0 sw 129 5 = some 134 := rfl
theorem r_129_6 : R0 sw 129 6 = some 135 := rfl
theorem r_136_0 : R0 sw 136 0 = some 137 := rfl
theorem r_138_0 : R0 sw 138 0 = some 139 := rfl
theorem r_138_1 : R0 sw 138 1 = some 140 := rfl
theorem r_138_2 : R0 sw 138 2 = some 141 := rfl
theorem r_142_6 : R0 sw 142 6 = some 143 := rfl
theorem r_142_7 : R0 sw 142 7 = some 144 := rfl
theorem r_142_8 : R0 sw 142 8 = some 145 := rfl
theorem r_142_9 : R0 sw 142 9 = some 146 := rfl
theorem r_142_10 : R0 sw 142 10 = some 147 := rfl
theorem r_142_11 : R0 sw 142 11 = some 148 := rfl
theorem r_142_12 : R0 sw 142 12 = some 149 := rfl
theorem r_142_16 : R0 sw 142 16 = some 150 := rfl
theorem r_142_33 : R0 sw 142 33 = some 151 := rfl
theorem r_142_34 : R0 sw 142 34 = some 152 := rfl
theorem r_142_35 : R0 sw 142 35 = some 153 := rfl
theorem r_142_36 : R0 sw 142 36 = some 154 := rfl
theorem r_142_37 : R0 sw 142 37 = some 155 := rfl
theorem r_142_38 : R0 sw 142 38 = some 156 := rfl
theorem r_142_39 : R0 sw 142 39 = some 157 := rfl
theorem r_142_40 : R0 sw 142 40 = some 158 := rfl
theorem r_142_41 : R0 sw 142 41 = some 159 := rfl
theorem r_142_42 : R0 sw 142 42 = some 160 := rfl
theorem r_142_43 : R0 sw 142 43 = some 161 := rfl
theorem r_142_45 : R0 sw 142 45 = some 162 := rfl
theorem r_142_46 : R0 sw 142 46 = some 163 := rfl
theorem r_142_47 : R0 sw 142 47 = some 164 := rfl
theorem r_142_48 : R0 sw 142 48 = some 165 := rfl
theorem r_142_52 : R0 sw 142 52 = some 166 := rfl
theorem r_142_53 : R0 sw 142 53 = some 167 := rfl
theorem r_142_54 : R0 sw 142 54 = some 168 := rfl
theorem r_142_55 : R0 sw 142 55 = some 169 := rfl
theorem r_142_56 : R0 sw 142 56 = some 170 := rfl
theorem r_142_57 : R0 sw 142 57 = some 171 := rfl
theorem r_142_60 : R0 sw 142 60 = some 172 := rfl
theorem r_142_65 : R0 sw 142 65 = some 173 := rfl
theorem r_142_66 : R0 sw 142 66 = some 174 := rfl
theorem r_142_67 : R0 sw 142 67 = some 175 := rfl
theorem r_1_1 : R0 sw 1 1 = some (if sw then 23 else 5) := rfl
theorem r_1_2 : R0 sw 1 2 = some (if sw then 5 else 23) := rfl
def isM (a : Nat) : Prop := a = 41 ∨ a = 48 ∨ a = 65 ∨ a = 72 ∨ a = 79 ∨ a = 86 ∨ a = 93 ∨ a = 100 ∨ a = 129
def isT (b : Nat) : Prop := b = 5 ∨ b = 23
def isH (b : Nat) : Prop := b = 55 ∨ b = 136
def isC (b : Nat) : Prop := b = 57 ∨ b = 138
theorem kM0 {a : Nat} (h : isM a) : K0 n a = (0, 4) := by rcases h with rfl | rfl | rfl | rfl | rfl | rfl | rfl | rfl | rfl <;> rfl
theorem kM1 {a : Nat} (h : isM a) : K0 n (a + 1) = (1, 6) := by rcases h with rfl | rfl | rfl | rfl | rfl | rfl | rfl | rfl | rfl <;> rfl
theorem kM2 {a : Nat} (h : isM a) : K0 n (a + 2) = (1, 6) := by rcases h with rfl | rfl | rfl | rfl | rfl | rfl | rfl | rfl | rfl <;> rfl
theorem kM3 {a : Nat} (h : isM a) : K0 n (a + 3) = (1, 6) := by rcases h with rfl | rfl | rfl | rfl | rfl | rfl | rfl | rfl | rfl <;> rfl
theorem kM4 {a : Nat} (h : isM a) : K0 n (a + 4) = (1, 60) := by rcases h with rfl | rfl | rfl | rfl | rfl | rfl | rfl | rfl | rfl <;> rfl
theorem kM5 {a : Nat} (h : isM a) : K0 n (a + 5) = (1, 4) := by rcases h with rfl | rfl | rfl | rfl | rfl | rfl | rfl | rfl | rfl <;> rfl
theorem kM6 {a : Nat} (h : isM a) : K0 n (a + 6) = (1, 4) := by rcases h with rfl | rfl | rfl | rfl | rfl | rfl | rfl | rfl | rfl <;> rfl
theorem rM1 {a : Nat} (h : isM a) : R0 sw a 1 = some (a + 1) := by rcases h with rfl | rfl | rfl | rfl | rfl | rfl | rfl | rfl | rfl <;> rfl
theorem rM2 {a : Nat} (h : isM a) : R0 sw a 2 = some (a + 2) := by rcases h with rfl | rfl | rfl | rfl | rfl | rfl | rfl | rfl | rfl <;> rfl
theorem rM3 {a : Nat} (h : isM a) : R0 sw a 3 = some (a + 3) := by rcases h with rfl | rfl | rfl | rfl | rfl | rfl | rfl | rfl | rfl <;> rfl
theorem rM4 {a : Nat} (h : isM a) : R0 sw a 4 = some (a + 4) := by rcases h with rfl | rfl | rfl | rfl | rfl | rfl | rfl | rfl | rfl <;> rfl
theorem rM5 {a : Nat} (h : isM a) : R0 sw a 5 = some (a + 5) := by rcases h with rfl | rfl | rfl | rfl | rfl | rfl | rfl | rfl | rfl <;> rfl
theorem rM6 {a : Nat} (h : isM a) : R0 sw a 6 = some (a + 6) := by rcases h with rfl | rfl | rfl | rfl | rfl | rfl | rfl | rfl | rfl <;> rfl
theorem kT0 {a : Nat} (h : isT a) : K0 n a = (0, 8) := by rcases h with rfl | rfl <;> rfl
theorem kT1 {a : Nat} (h : isT a) : K0 n (a + 1) = (1, 6) := by rcases h with rfl | rfl <;> rfl
theorem kT2 {a : Nat} (h : isT a) : K0 n (a + 2) = (1, 6) := by rcases h with rfl | rfl <;> rfl
theorem kT3 {a : Nat} (h : isT a) : K0 n (a + 3) = (1, 10) := by rcases h with rfl | rfl <;> rfl
theorem kT4 {a : Nat} (h : isT a) : K0 n (a + 4) = (1, 10) := by rcases h with rfl | rfl <;> rfl
theorem kT5 {a : Nat} (h : isT a) : K0 n (a + 5) = (1, 10) := by rcases h with rfl | rfl <;> rfl
theorem kT6 {a : Nat} (h : isT a) : K0 n (a + 6) = (1, 10) := by rcases h with rfl | rfl <;> rfl
theorem kT7 {a : Nat} (h : isT a) : K0 n (a + 7) = (1, 10) := by rcases h with rfl | rfl <;> rfl
theorem kT8 {a : Nat} (h : isT a) : K0 n (a + 8) = (1, 10) := by rcases h with rfl | rfl <;> rfl
theorem kT9 {a : Nat} (h : isT a) : K0 n (a + 9) = (1, 10) := by rcases h with rfl | rfl <;> rfl
theorem kT10 {a : Nat} (h : isT a) : K0 n (a + 10) = (1, 10) := by rcases h with rfl | rfl <;> rfl
theorem kT11 {a : Nat} (h : isT a) : K0 n (a + 11) = (1, 8) := by rcases h with rfl | rfl <;> rfl
theorem kT12 {a : Nat} (h : isT a) : K0 n (a + 12) = (1, 8) := by rcases h with rfl | rfl <;> rfl
theorem kT13 {a : Nat} (h : isT a) : K0 n (a + 13) = (0, 7) := by rcases h with rfl | rfl <;> rfl
theorem kT14 {a : Nat} (h : isT a) : K0 n (a + 14) = (1, 700) := by rcases h with rfl | rfl <;> rfl
theorem kT15 {a : Nat} (h : isT a) : K0 n (a + 15) = (1, 8) := by rcases h with rfl | rfl <;> rfl
theorem kT16 {a : Nat} (h : isT a) : K0 n (a + 16) = (1, 40) := by rcases h with rfl | rfl <;> rfl
theorem kT17 {a : Nat} (h : isT a) : K0 n (a + 17) = (1, 80) := by rcases h with rfl | rfl <;> rfl
theorem rT5 {a : Nat} (h : isT a) : R0 sw a 5 = some (a + 1) := by rcases h with rfl | rfl <;> rfl
theorem rT6 {a : Nat} (h : isT a) : R0 sw a 6 = some (a + 2) := by rcases h with rfl | rfl <;> rfl
theorem rT7 {a : Nat} (h : isT a) : R0 sw a 7 = some (a + 3) := by rcases h with rfl | rfl <;> rfl
theorem rT8 {a : Nat} (h : isT a) : R0 sw a 8 = some (a + 4) := by rcases h with rfl | rfl <;> rfl
theorem rT9 {a : Nat} (h : isT a) : R0 sw a 9 = some (a + 5) := by rcases h with rfl | rfl <;> rfl
theorem rT10 {a : Nat} (h : isT a) : R0 sw a 10 = some (a + 6) := by rcases h with rfl | rfl <;> rfl
theorem rT11 {a : Nat} (h : isT a) : R0 sw a 11 = some (a + 7) := by rcases h with rfl | rfl <;> rfl
theorem rT12 {a : Nat} (h : isT a) : R0 sw a 12 = some (a + 8) := by rcases h with rfl | rfl <;> rfl
theorem rT13 {a : Nat} (h : isT a) : R0 sw a 13 = some (a + 9) := by rcases h with rfl | rfl <;> rfl
theorem rT14 {a : Nat} (h : isT a) : R0 sw a 14 = some (a + 10) := by rcases h with rfl | rfl <;> rfl
theorem rT15 {a : Nat} (h : isT a) : R0 sw a 15 = some (a + 11) := by rcases h with rfl | rfl <;> rfl
theorem rT16 {a : Nat} (h : isT a) : R0 sw a 16 = some (a + 12) := by rcases h with rfl | rfl <;> rfl
theorem rT17 {a : Nat} (h : isT a) : R0 sw a 17 = some (a + 13) := by rcases h with rfl | rfl <;> rfl
theorem rR0 {a : Nat} (h : isT a) : R0 sw (a + 13) 0 = some (a + 14) := by rcases h with rfl | rfl <;> rfl
theorem rR2 {a : Nat} (h : isT a) : R0 sw (a + 13) 2 = some (a + 15) := by rcases h with rfl | rfl <;> rfl
theorem rR3 {a : Nat} (h : isT a) : R0 sw (a + 13) 3 = some (a + 16) := by rcases h with rfl | rfl <;> rfl
theorem rR4 {a : Nat} (h : isT a) : R0 sw (a + 13) 4 = some (a + 17) := by rcases h with rfl | rfl <;> rfl
theorem kH0 {a : Nat} (h : isH a) : K0 n a = (0, 2) := by rcases h with rfl | rfl <;> rfl
theorem kH1 {a : Nat} (h : isH a) : K0 n (a + 1) = (1, 3160) := by rcases h with rfl | rfl <;> rfl
theorem rH0 {a : Nat} (h : isH a) : R0 sw a 0 = some (a + 1) := by rcases h with rfl | rfl <;> rfl
theorem kC0 {a : Nat} (h : isC a) : K0 n a = (0, 0) := by rcases h with rfl | rfl <;> rfl
theorem kC1 {a : Nat} (h : isC a) : K0 n (a + 1) = (1, 8) := by rcases h with rfl | rfl <;> rfl
theorem kC2 {a : Nat} (h : isC a) : K0 n (a + 2) = (1, 8) := by rcases h with rfl | rfl <;> rfl
theorem kC3 {a : Nat} (h : isC a) : K0 n (a + 3) = (2, 8) := by rcases h with rfl | rfl <;> rfl
theorem rC0 {a : Nat} (h : isC a) : R0 sw a 0 = some (a + 1) := by rcases h with rfl | rfl <;> rfl
theorem rC1 {a : Nat} (h : isC a) : R0 sw a 1 = some (a + 2) := by rcases h with rfl | rfl <;> rfl
theorem rC2 {a : Nat} (h : isC a) : R0 sw a 2 = some (a + 3) := by rcases h with rfl | rfl <;> rfl
theorem isM_b {a : Nat} (h : isM a) : 41 ≤ a ∧ a ≤ 129 := by unfold isM at h; omega
theorem isT_b {a : Nat} (h : isT a) : 5 ≤ a ∧ a ≤ 23 := by unfold isT at h; omega
end MMS
theorem np_0 : am_np 0 = 0 := rfl
theorem ci_0 : am_ci 0 := ⟨by decide, by decide +kernel, by decide +kernel⟩
theorem rt_0 : am_rt 0 = none := by decide +kernel
theorem hh_0 : am_hh 0 = [] := by decide +kernel
theorem pn_0 : plainName (am_y 0).cls = true := by decide +kernel
theorem mL_0 : am_mL 0 = 1 := by decide +kernel
theorem np_1 : am_np 1 = 3 := rfl
theorem cv_1 : am_cv 1 (0, 0) := ⟨by decide, by decide +kernel, rfl, by decide, by decide +kernel⟩
theorem rt_1 : am_rt 1 = none := by decide +kernel
theorem hh_1 : am_hh 1 = [] := by decide +kernel
theorem pn_1 : plainName (am_y 1).cls = true := by decide +kernel
theorem mL_1 : am_mL 1 = 4 := by decide +kernel
theorem np_2 : am_np 2 = 2 := rfl
theorem cv_2 : am_cv 2 (0, 0) := ⟨by decide, by decide +kernel, rfl, by decide, by decide +kernel⟩
theorem rt_2 (x : Int32) : am_rk 2 x = (x = nI 0 ∨ x = nI 1) := by
  rw [am_rk, show am_rt 2 = some .boolean by decide +kernel, nI_0]
  simp
  rfl
theorem hh_2 : am_hh 2 = [] := by decide +kernel
theorem pn_2 : plainName (am_y 2).cls = true := by decide +kernel
theorem mL_2 : am_mL 2 = 4 := by decide +kernel
theorem np_3 : am_np 3 = 1 := rfl
theorem cv_3 : am_cv 3 (0, 0) := ⟨by decide, by decide +kernel, rfl, by decide, by decide +kernel⟩
theorem rt_3 : am_rt 3 = none := by decide +kernel
theorem hh_3 : am_hh 3 = [] := by decide +kernel
theorem pn_3 : plainName (am_y 3).cls = true := by decide +kernel
theorem mL_3 : am_mL 3 = 3 := by decide +kernel
theorem np_4 : am_np 4 = 0 := rfl
theorem ci_4 : am_ci 4 := ⟨by decide, by decide +kernel, by decide +kernel⟩
theorem rt_4 : am_rt 4 = none := by decide +kernel
theorem hh_4 : am_hh 4 = [] := by decide +kernel
theorem pn_4 : plainName (am_y 4).cls = true := by decide +kernel
theorem mL_4 : am_mL 4 = 2 := by decide +kernel
theorem np_5 : am_np 5 = 5 := rfl
theorem cv_5 : am_cv 5 (0, 1) := ⟨by decide, by decide +kernel, rfl, by decide, by decide +kernel⟩
theorem rt_5 (x : Int32) : am_rk 5 x := Or.inl (by decide +kernel)
theorem hh_5 : am_hh 5 = [] := by decide +kernel
theorem pn_5 : plainName (am_y 5).cls = true := by decide +kernel
theorem mL_5 : am_mL 5 = 6 := by decide +kernel
theorem np_6 : am_np 6 = 6 := rfl
theorem cv_6 : am_cv 6 (0, 1) := ⟨by decide, by decide +kernel, rfl, by decide, by decide +kernel⟩
theorem rt_6 : am_rt 6 = none := by decide +kernel
theorem hh_6 : am_hh 6 = [] := by decide +kernel
theorem pn_6 : plainName (am_y 6).cls = true := by decide +kernel
theorem mL_6 : am_mL 6 = 10 := by decide +kernel
theorem np_7 : am_np 7 = 0 := rfl
theorem ci_7 : am_ci 7 := ⟨by decide, by decide +kernel, by decide +kernel⟩
theorem rt_7 : am_rt 7 = none := by decide +kernel
theorem hh_7 : am_hh 7 = [] := by decide +kernel
theorem pn_7 : plainName (am_y 7).cls = true := by decide +kernel
theorem mL_7 : am_mL 7 = 1 := by decide +kernel
theorem np_8 : am_np 8 = 1 := rfl
theorem cv_8 : am_cv 8 (0, 2) := ⟨by decide, by decide +kernel, rfl, by decide, by decide +kernel⟩
theorem rt_8 : am_rt 8 = none := by decide +kernel
theorem hh_8 : am_hh 8 = [] := by decide +kernel
theorem pn_8 : plainName (am_y 8).cls = true := by decide +kernel
theorem mL_8 : am_mL 8 = 2 := by decide +kernel
theorem np_9 : am_np 9 = 1 := rfl
theorem cv_9 : am_cv 9 (0, 2) := ⟨by decide, by decide +kernel, rfl, by decide, by decide +kernel⟩
theorem rt_9 : am_rt 9 = none := by decide +kernel
theorem hh_9 : am_hh 9 = [] := by decide +kernel
theorem pn_9 : plainName (am_y 9).cls = true := by decide +kernel
theorem mL_9 : am_mL 9 = 2 := by decide +kernel
theorem np_10 : am_np 10 = 1 := rfl
theorem cv_10 : am_cv 10 (0, 2) := ⟨by decide, by decide +kernel, rfl, by decide, by decide +kernel⟩
theorem rt_10 : am_rt 10 = none := by decide +kernel
theorem hh_10 : am_hh 10 = [] := by decide +kernel
theorem pn_10 : plainName (am_y 10).cls = true := by decide +kernel
theorem mL_10 : am_mL 10 = 2 := by decide +kernel
theorem np_11 : am_np 11 = 0 := rfl
theorem ci_11 : am_ci 11 := ⟨by decide, by decide +kernel, by decide +kernel⟩
theorem rt_11 : am_rt 11 = none := by decide +kernel
theorem hh_11 : am_hh 11 = [] := by decide +kernel
theorem pn_11 : plainName (am_y 11).cls = true := by decide +kernel
theorem mL_11 : am_mL 11 = 1 := by decide +kernel
theorem np_12 : am_np 12 = 3 := rfl
theorem cv_12 : am_cv 12 (0, 3) := ⟨by decide, by decide +kernel, rfl, by decide, by decide +kernel⟩
theorem rt_12 (x : Int32) : am_rk 12 x := Or.inl (by decide +kernel)
theorem hh_12 : am_hh 12 = [] := by decide +kernel
theorem pn_12 : plainName (am_y 12).cls = true := by decide +kernel
theorem mL_12 : am_mL 12 = 6 := by decide +kernel
theorem np_13 : am_np 13 = 2 := rfl
theorem cv_13 : am_cv 13 (0, 3) := ⟨by decide, by decide +kernel, rfl, by decide, by decide +kernel⟩
theorem rt_13 : am_rt 13 = none := by decide +kernel
theorem hh_13 : am_hh 13 = [] := by decide +kernel
theorem pn_13 : plainName (am_y 13).cls = true := by decide +kernel
theorem mL_13 : am_mL 13 = 5 := by decide +kernel
theorem np_14 : am_np 14 = 2 := rfl
theorem cv_14 : am_cv 14 (0, 3) := ⟨by decide, by decide +kernel, rfl, by decide, by decide +kernel⟩
theorem rt_14 (x : Int32) : am_rk 14 x = (x = nI 0 ∨ x = nI 1) := by
  rw [am_rk, show am_rt 14 = some .boolean by decide +kernel, nI_0]
  simp
  rfl
theorem hh_14 : am_hh 14 = [] := by decide +kernel
theorem pn_14 : plainName (am_y 14).cls = true := by decide +kernel
theorem mL_14 : am_mL 14 = 4 := by decide +kernel
theorem np_15 : am_np 15 = 2 := rfl
theorem cv_15 : am_cv 15 (0, 3) := ⟨by decide, by decide +kernel, rfl, by decide, by decide +kernel⟩
theorem rt_15 (x : Int32) : am_rk 15 x := Or.inl (by decide +kernel)
theorem hh_15 : am_hh 15 = [] := by decide +kernel
theorem pn_15 : plainName (am_y 15).cls = true := by decide +kernel
theorem mL_15 : am_mL 15 = 3 := by decide +kernel
theorem np_16 : am_np 16 = 2 := rfl
theorem cv_16 : am_cv 16 (0, 3) := ⟨by decide, by decide +kernel, rfl, by decide, by decide +kernel⟩
theorem rt_16 (x : Int32) : am_rk 16 x := Or.inl (by decide +kernel)
theorem hh_16 : am_hh 16 = [] := by decide +kernel
theorem pn_16 : plainName (am_y 16).cls = true := by decide +kernel
theorem mL_16 : am_mL 16 = 3 := by decide +kernel
theorem np_17 : am_np 17 = 0 := rfl
theorem ci_17 : am_ci 17 := ⟨by decide, by decide +kernel, by decide +kernel⟩
theorem rt_17 : am_rt 17 = none := by decide +kernel
theorem hh_17 : am_hh 17 = [] := by decide +kernel
theorem pn_17 : plainName (am_y 17).cls = true := by decide +kernel
theorem mL_17 : am_mL 17 = 2 := by decide +kernel
theorem np_18 : am_np 18 = 1 := rfl
theorem cv_18 : am_cv 18 (0, 4) := ⟨by decide, by decide +kernel, rfl, by decide, by decide +kernel⟩
theorem rt_18 : am_rt 18 = none := by decide +kernel
theorem hh_18 : am_hh 18 = [] := by decide +kernel
theorem pn_18 : plainName (am_y 18).cls = true := by decide +kernel
theorem mL_18 : am_mL 18 = 2 := by decide +kernel
theorem np_19 : am_np 19 = 1 := rfl
theorem cv_19 : am_cv 19 (0, 4) := ⟨by decide, by decide +kernel, rfl, by decide, by decide +kernel⟩
theorem rt_19 : am_rt 19 = none := by decide +kernel
theorem hh_19 : am_hh 19 = [] := by decide +kernel
theorem pn_19 : plainName (am_y 19).cls = true := by decide +kernel
theorem mL_19 : am_mL 19 = 2 := by decide +kernel
theorem np_20 : am_np 20 = 2 := rfl
theorem cv_20 : am_cv 20 (0, 4) := ⟨by decide, by decide +kernel, rfl, by decide, by decide +kernel⟩
theorem rt_20 : am_rt 20 = none := by decide +kernel
theorem hh_20 : am_hh 20 = [] := by decide +kernel
theorem pn_20 : plainName (am_y 20).cls = true := by decide +kernel
theorem mL_20 : am_mL 20 = 4 := by decide +kernel
theorem np_21 : am_np 21 = 2 := rfl
theorem cv_21 : am_cv 21 (0, 4) := ⟨by decide, by decide +kernel, rfl, by decide, by decide +kernel⟩
theorem rt_21 : am_rt 21 = none := by decide +kernel
theorem hh_21 : am_hh 21 = [] := by decide +kernel
theorem pn_21 : plainName (am_y 21).cls = true := by decide +kernel
theorem mL_21 : am_mL 21 = 3 := by decide +kernel
theorem np_22 : am_np 22 = 2 := rfl
theorem cv_22 : am_cv 22 (0, 4) := ⟨by decide, by decide +kernel, rfl, by decide, by decide +kernel⟩
theorem rt_22 : am_rt 22 = none := by decide +kernel
theorem hh_22 : am_hh 22 = [] := by decide +kernel
theorem pn_22 : plainName (am_y 22).cls = true := by decide +kernel
theorem mL_22 : am_mL 22 = 3 := by decide +kernel
theorem np_23 : am_np 23 = 2 := rfl
theorem cv_23 : am_cv 23 (0, 4) := ⟨by decide, by decide +kernel, rfl, by decide, by decide +kernel⟩
theorem rt_23 (x : Int32) : am_rk 23 x := Or.inl (by decide +kernel)
theorem hh_23 : am_hh 23 = [] := by decide +kernel
theorem pn_23 : plainName (am_y 23).cls = true := by decide +kernel
theorem mL_23 : am_mL 23 = 4 := by decide +kernel
theorem np_24 : am_np 24 = 3 := rfl
theorem cv_24 : am_cv 24 (0, 4) := ⟨by decide, by decide +kernel, rfl, by decide, by decide +kernel⟩
theorem rt_24 : am_rt 24 = none := by decide +kernel
theorem hh_24 : am_hh 24 = [] := by decide +kernel
theorem pn_24 : plainName (am_y 24).cls = true := by decide +kernel
theorem mL_24 : am_mL 24 = 5 := by decide +kernel
theorem np_25 : am_np 25 = 1 := rfl
theorem cs_25 : am_cs 25 := ⟨by decide, by decide +kernel⟩
theorem rt_25 (x : Int32) : am_rk 25 x = (x = nI 0 ∨ x = nI 1) := by
  rw [am_rk, show am_rt 25 = some .boolean by decide +kernel, nI_0]
  simp
  rfl
theorem hh_25 : am_hh 25 = [] := by decide +kernel
theorem pn_25 : plainName (am_y 25).cls = true := by decide +kernel
theorem mL_25 : am_mL 25 = 1 := by decide +kernel
theorem np_26 : am_np 26 = 1 := rfl
theorem cs_26 : am_cs 26 := ⟨by decide, by decide +kernel⟩
theorem rt_26 (x : Int32) : am_rk 26 x := Or.inl (by decide +kernel)
theorem hh_26 : am_hh 26 = [] := by decide +kernel
theorem pn_26 : plainName (am_y 26).cls = true := by decide +kernel
theorem mL_26 : am_mL 26 = 1 := by decide +kernel
theorem np_27 : am_np 27 = 2 := rfl
theorem cv_27 : am_cv 27 (0, 4) := ⟨by decide, by decide +kernel, rfl, by decide, by decide +kernel⟩
theorem rt_27 (x : Int32) : am_rk 27 x = (x = nI 0 ∨ x = nI 1) := by
  rw [am_rk, show am_rt 27 = some .boolean by decide +kernel, nI_0]
  simp
  rfl
theorem hh_27 : am_hh 27 = [] := by decide +kernel
theorem pn_27 : plainName (am_y 27).cls = true := by decide +kernel
theorem mL_27 : am_mL 27 = 3 := by decide +kernel
theorem np_28 : am_np 28 = 1 := rfl
theorem cv_28 : am_cv 28 (0, 4) := ⟨by decide, by decide +kernel, rfl, by decide, by decide +kernel⟩
theorem rt_28 (x : Int32) : am_rk 28 x := Or.inl (by decide +kernel)
theorem hh_28 : am_hh 28 = [] := by decide +kernel
theorem pn_28 : plainName (am_y 28).cls = true := by decide +kernel
theorem mL_28 : am_mL 28 = 4 := by decide +kernel
theorem np_29 : am_np 29 = 0 := rfl
theorem cv_29 : am_cv 29 (0, 4) := ⟨by decide, by decide +kernel, rfl, by decide, by decide +kernel⟩
theorem rt_29 (x : Int32) : am_rk 29 x := Or.inl (by decide +kernel)
theorem hh_29 : am_hh 29 = [] := by decide +kernel
theorem pn_29 : plainName (am_y 29).cls = true := by decide +kernel
theorem mL_29 : am_mL 29 = 3 := by decide +kernel
theorem np_30 : am_np 30 = 1 := rfl
theorem cv_30 : am_cv 30 (0, 4) := ⟨by decide, by decide +kernel, rfl, by decide, by decide +kernel⟩
theorem rt_30 (x : Int32) : am_rk 30 x := Or.inl (by decide +kernel)
theorem hh_30 : am_hh 30 = [] := by decide +kernel
theorem pn_30 : plainName (am_y 30).cls = true := by decide +kernel
theorem mL_30 : am_mL 30 = 4 := by decide +kernel
theorem np_31 : am_np 31 = 0 := rfl
theorem cv_31 : am_cv 31 (0, 4) := ⟨by decide, by decide +kernel, rfl, by decide, by decide +kernel⟩
theorem rt_31 (x : Int32) : am_rk 31 x := Or.inl (by decide +kernel)
theorem hh_31 : am_hh 31 = [] := by decide +kernel
theorem pn_31 : plainName (am_y 31).cls = true := by decide +kernel
theorem mL_31 : am_mL 31 = 3 := by decide +kernel
theorem np_32 : am_np 32 = 2 := rfl
theorem cv_32 : am_cv 32 (0, 4) := ⟨by decide, by decide +kernel, rfl, by decide, by decide +kernel⟩
theorem rt_32 (x : Int32) : am_rk 32 x = (x = nI 0 ∨ x = nI 1) := by
  rw [am_rk, show am_rt 32 = some .boolean by decide +kernel, nI_0]
  simp
  rfl
theorem hh_32 : am_hh 32 = [] := by decide +kernel
theorem pn_32 : plainName (am_y 32).cls = true := by decide +kernel
theorem mL_32 : am_mL 32 = 4 := by decide +kernel
theorem np_33 : am_np 33 = 2 := rfl
theorem cv_33 : am_cv 33 (0, 4) := ⟨by decide, by decide +kernel, rfl, by decide, by decide +kernel⟩
theorem rt_33 : am_rt 33 = none := by decide +kernel
theorem hh_33 : am_hh 33 = [] := by decide +kernel
theorem pn_33 : plainName (am_y 33).cls = true := by decide +kernel
theorem mL_33 : am_mL 33 = 3 := by decide +kernel
theorem np_34 : am_np 34 = 2 := rfl
theorem cv_34 : am_cv 34 (0, 4) := ⟨by decide, by decide +kernel, rfl, by decide, by decide +kernel⟩
theorem rt_34 : am_rt 34 = none := by decide +kernel
theorem hh_34 : am_hh 34 = [] := by decide +kernel
theorem pn_34 : plainName (am_y 34).cls = true := by decide +kernel
theorem mL_34 : am_mL 34 = 4 := by decide +kernel
theorem np_35 : am_np 35 = 2 := rfl
theorem cv_35 : am_cv 35 (0, 4) := ⟨by decide, by decide +kernel, rfl, by decide, by decide +kernel⟩
theorem rt_35 (x : Int32) : am_rk 35 x := Or.inl (by decide +kernel)
theorem hh_35 : am_hh 35 = [] := by decide +kernel
theorem pn_35 : plainName (am_y 35).cls = true := by decide +kernel
theorem mL_35 : am_mL 35 = 6 := by decide +kernel
theorem np_36 : am_np 36 = 1 := rfl
theorem cv_36 : am_cv 36 (0, 4) := ⟨by decide, by decide +kernel, rfl, by decide, by decide +kernel⟩
theorem rt_36 (x : Int32) : am_rk 36 x := Or.inl (by decide +kernel)
theorem hh_36 : am_hh 36 = [] := by decide +kernel
theorem pn_36 : plainName (am_y 36).cls = true := by decide +kernel
theorem mL_36 : am_mL 36 = 3 := by decide +kernel
theorem np_37 : am_np 37 = 2 := rfl
theorem cv_37 : am_cv 37 (0, 4) := ⟨by decide, by decide +kernel, rfl, by decide, by decide +kernel⟩
theorem rt_37 : am_rt 37 = none := by decide +kernel
theorem hh_37 : am_hh 37 = [] := by decide +kernel
theorem pn_37 : plainName (am_y 37).cls = true := by decide +kernel
theorem mL_37 : am_mL 37 = 6 := by decide +kernel
theorem np_38 : am_np 38 = 1 := rfl
theorem cv_38 : am_cv 38 (0, 4) := ⟨by decide, by decide +kernel, rfl, by decide, by decide +kernel⟩
theorem rt_38 : am_rt 38 = none := by decide +kernel
theorem hh_38 : am_hh 38 = [] := by decide +kernel
theorem pn_38 : plainName (am_y 38).cls = true := by decide +kernel
theorem mL_38 : am_mL 38 = 4 := by decide +kernel
theorem np_39 : am_np 39 = 2 := rfl
theorem cv_39 : am_cv 39 (0, 4) := ⟨by decide, by decide +kernel, rfl, by decide, by decide +kernel⟩
theorem rt_39 : am_rt 39 = none := by decide +kernel
theorem hh_39 : am_hh 39 = [] := by decide +kernel
theorem pn_39 : plainName (am_y 39).cls = true := by decide +kernel
theorem mL_39 : am_mL 39 = 4 := by decide +kernel
theorem np_40 : am_np 40 = 4 := rfl
theorem cv_40 : am_cv 40 (0, 4) := ⟨by decide, by decide +kernel, rfl, by decide, by decide +kernel⟩
theorem rt_40 : am_rt 40 = none := by decide +kernel
theorem hh_40 : am_hh 40 = [] := by decide +kernel
theorem pn_40 : plainName (am_y 40).cls = true := by decide +kernel
theorem mL_40 : am_mL 40 = 10 := by decide +kernel
theorem np_41 : am_np 41 = 1 := rfl
theorem cv_41 : am_cv 41 (0, 4) := ⟨by decide, by decide +kernel, rfl, by decide, by decide +kernel⟩
theorem rt_41 (x : Int32) : am_rk 41 x := Or.inl (by decide +kernel)
theorem hh_41 : am_hh 41 = [] := by decide +kernel
theorem pn_41 : plainName (am_y 41).cls = true := by decide +kernel
theorem mL_41 : am_mL 41 = 4 := by decide +kernel
theorem np_42 : am_np 42 = 1 := rfl
theorem cv_42 : am_cv 42 (0, 4) := ⟨by decide, by decide +kernel, rfl, by decide, by decide +kernel⟩
theorem rt_42 (x : Int32) : am_rk 42 x := Or.inl (by decide +kernel)
theorem hh_42 : am_hh 42 = [] := by decide +kernel
theorem pn_42 : plainName (am_y 42).cls = true := by decide +kernel
theorem mL_42 : am_mL 42 = 4 := by decide +kernel
theorem np_43 : am_np 43 = 3 := rfl
theorem cv_43 : am_cv 43 (0, 4) := ⟨by decide, by decide +kernel, rfl, by decide, by decide +kernel⟩
theorem rt_43 : am_rt 43 = none := by decide +kernel
theorem hh_43 : am_hh 43 = [] := by decide +kernel
theorem pn_43 : plainName (am_y 43).cls = true := by decide +kernel
theorem mL_43 : am_mL 43 = 4 := by decide +kernel
theorem np_44 : am_np 44 = 0 := rfl
theorem ci_44 : am_ci 44 := ⟨by decide, by decide +kernel, by decide +kernel⟩
theorem rt_44 : am_rt 44 = none := by decide +kernel
theorem hh_44 : am_hh 44 = [] := by decide +kernel
theorem pn_44 : plainName (am_y 44).cls = true := by decide +kernel
theorem mL_44 : am_mL 44 = 1 := by decide +kernel
theorem np_45 : am_np 45 = 2 := rfl
theorem cv_45 : am_cv 45 (0, 5) := ⟨by decide, by decide +kernel, rfl, by decide, by decide +kernel⟩
theorem rt_45 (x : Int32) : am_rk 45 x := Or.inl (by decide +kernel)
theorem hh_45 : am_hh 45 = [] := by decide +kernel
theorem pn_45 : plainName (am_y 45).cls = true := by decide +kernel
theorem mL_45 : am_mL 45 = 5 := by decide +kernel
theorem np_46 : am_np 46 = 2 := rfl
theorem cv_46 : am_cv 46 (0, 5) := ⟨by decide, by decide +kernel, rfl, by decide, by decide +kernel⟩
theorem rt_46 (x : Int32) : am_rk 46 x := Or.inl (by decide +kernel)
theorem hh_46 : am_hh 46 = [] := by decide +kernel
theorem pn_46 : plainName (am_y 46).cls = true := by decide +kernel
theorem mL_46 : am_mL 46 = 5 := by decide +kernel
theorem np_47 : am_np 47 = 3 := rfl
theorem cv_47 : am_cv 47 (0, 5) := ⟨by decide, by decide +kernel, rfl, by decide, by decide +kernel⟩
theorem rt_47 (x : Int32) : am_rk 47 x := Or.inl (by decide +kernel)
theorem hh_47 : am_hh 47 = [] := by decide +kernel
theorem pn_47 : plainName (am_y 47).cls = true := by decide +kernel
theorem mL_47 : am_mL 47 = 5 := by decide +kernel
theorem np_48 : am_np 48 = 2 := rfl
theorem cv_48 : am_cv 48 (0, 5) := ⟨by decide, by decide +kernel, rfl, by decide, by decide +kernel⟩
theorem rt_48 : am_rt 48 = none := by decide +kernel
theorem hh_48 : am_hh 48 = [] := by decide +kernel
theorem pn_48 : plainName (am_y 48).cls = true := by decide +kernel
theorem mL_48 : am_mL 48 = 6 := by decide +kernel
theorem np_49 : am_np 49 = 0 := rfl
theorem ci_49 : am_ci 49 := ⟨by decide, by decide +kernel, by decide +kernel⟩
theorem rt_49 : am_rt 49 = none := by decide +kernel
theorem hh_49 : am_hh 49 = [] := by decide +kernel
theorem pn_49 : plainName (am_y 49).cls = true := by decide +kernel
theorem mL_49 : am_mL 49 = 1 := by decide +kernel
theorem np_50 : am_np 50 = 2 := rfl
theorem cv_50 : am_cv 50 (0, 6) := ⟨by decide, by decide +kernel, rfl, by decide, by decide +kernel⟩
theorem rt_50 (x : Int32) : am_rk 50 x := Or.inl (by decide +kernel)
theorem hh_50 : am_hh 50 = [] := by decide +kernel
theorem pn_50 : plainName (am_y 50).cls = true := by decide +kernel
theorem mL_50 : am_mL 50 = 4 := by decide +kernel
theorem np_51 : am_np 51 = 1 := rfl
theorem cv_51 : am_cv 51 (0, 6) := ⟨by decide, by decide +kernel, rfl, by decide, by decide +kernel⟩
theorem rt_51 : am_rt 51 = none := by decide +kernel
theorem hh_51 : am_hh 51 = [] := by decide +kernel
theorem pn_51 : plainName (am_y 51).cls = true := by decide +kernel
theorem mL_51 : am_mL 51 = 3 := by decide +kernel
theorem np_52 : am_np 52 = 1 := rfl
theorem cv_52 : am_cv 52 (0, 6) := ⟨by decide, by decide +kernel, rfl, by decide, by decide +kernel⟩
theorem rt_52 : am_rt 52 = none := by decide +kernel
theorem hh_52 : am_hh 52 = [] := by decide +kernel
theorem pn_52 : plainName (am_y 52).cls = true := by decide +kernel
theorem mL_52 : am_mL 52 = 5 := by decide +kernel
theorem np_53 : am_np 53 = 1 := rfl
theorem cv_53 : am_cv 53 (0, 6) := ⟨by decide, by decide +kernel, rfl, by decide, by decide +kernel⟩
theorem rt_53 : am_rt 53 = none := by decide +kernel
theorem hh_53 : am_hh 53 = [] := by decide +kernel
theorem pn_53 : plainName (am_y 53).cls = true := by decide +kernel
theorem mL_53 : am_mL 53 = 4 := by decide +kernel
theorem np_54 : am_np 54 = 1 := rfl
theorem cv_54 : am_cv 54 (0, 6) := ⟨by decide, by decide +kernel, rfl, by decide, by decide +kernel⟩
theorem rt_54 : am_rt 54 = none := by decide +kernel
theorem hh_54 : am_hh 54 = [] := by decide +kernel
theorem pn_54 : plainName (am_y 54).cls = true := by decide +kernel
theorem mL_54 : am_mL 54 = 5 := by decide +kernel
theorem np_55 : am_np 55 = 1 := rfl
theorem cv_55 : am_cv 55 (0, 6) := ⟨by decide, by decide +kernel, rfl, by decide, by decide +kernel⟩
theorem rt_55 : am_rt 55 = none := by decide +kernel
theorem hh_55 : am_hh 55 = [] := by decide +kernel
theorem pn_55 : plainName (am_y 55).cls = true := by decide +kernel
theorem mL_55 : am_mL 55 = 3 := by decide +kernel
theorem np_56 : am_np 56 = 1 := rfl
theorem cv_56 : am_cv 56 (0, 6) := ⟨by decide, by decide +kernel, rfl, by decide, by decide +kernel⟩
theorem rt_56 : am_rt 56 = none := by decide +kernel
theorem hh_56 : am_hh 56 = [] := by decide +kernel
theorem pn_56 : plainName (am_y 56).cls = true := by decide +kernel
theorem mL_56 : am_mL 56 = 2 := by decide +kernel
theorem np_57 : am_np 57 = 1 := rfl
theorem cv_57 : am_cv 57 (0, 6) := ⟨by decide, by decide +kernel, rfl, by decide, by decide +kernel⟩
theorem rt_57 : am_rt 57 = none := by decide +kernel
theorem hh_57 : am_hh 57 = [] := by decide +kernel
theorem pn_57 : plainName (am_y 57).cls = true := by decide +kernel
theorem mL_57 : am_mL 57 = 2 := by decide +kernel
theorem np_58 : am_np 58 = 1 := rfl
theorem cv_58 : am_cv 58 (0, 6) := ⟨by decide, by decide +kernel, rfl, by decide, by decide +kernel⟩
theorem rt_58 : am_rt 58 = none := by decide +kernel
theorem hh_58 : am_hh 58 = [] := by decide +kernel
theorem pn_58 : plainName (am_y 58).cls = true := by decide +kernel
theorem mL_58 : am_mL 58 = 3 := by decide +kernel
theorem np_59 : am_np 59 = 1 := rfl
theorem cv_59 : am_cv 59 (0, 6) := ⟨by decide, by decide +kernel, rfl, by decide, by decide +kernel⟩
theorem rt_59 : am_rt 59 = none := by decide +kernel
theorem hh_59 : am_hh 59 = [] := by decide +kernel
theorem pn_59 : plainName (am_y 59).cls = true := by decide +kernel
theorem mL_59 : am_mL 59 = 5 := by decide +kernel
theorem np_60 : am_np 60 = 1 := rfl
theorem cv_60 : am_cv 60 (0, 6) := ⟨by decide, by decide +kernel, rfl, by decide, by decide +kernel⟩
theorem rt_60 : am_rt 60 = none := by decide +kernel
theorem hh_60 : am_hh 60 = [] := by decide +kernel
theorem pn_60 : plainName (am_y 60).cls = true := by decide +kernel
theorem mL_60 : am_mL 60 = 2 := by decide +kernel
theorem np_61 : am_np 61 = 1 := rfl
theorem cv_61 : am_cv 61 (0, 6) := ⟨by decide, by decide +kernel, rfl, by decide, by decide +kernel⟩
theorem rt_61 : am_rt 61 = none := by decide +kernel
theorem hh_61 : am_hh 61 = [] := by decide +kernel
theorem pn_61 : plainName (am_y 61).cls = true := by decide +kernel
theorem mL_61 : am_mL 61 = 2 := by decide +kernel
theorem np_62 : am_np 62 = 2 := rfl
theorem cv_62 : am_cv 62 (0, 6) := ⟨by decide, by decide +kernel, rfl, by decide, by decide +kernel⟩
theorem rt_62 (x : Int32) : am_rk 62 x := Or.inl (by decide +kernel)
theorem hh_62 : am_hh 62 = [] := by decide +kernel
theorem pn_62 : plainName (am_y 62).cls = true := by decide +kernel
theorem mL_62 : am_mL 62 = 4 := by decide +kernel
theorem np_63 : am_np 63 = 2 := rfl
theorem cv_63 : am_cv 63 (0, 6) := ⟨by decide, by decide +kernel, rfl, by decide, by decide +kernel⟩
theorem rt_63 (x : Int32) : am_rk 63 x := Or.inl (by decide +kernel)
theorem hh_63 : am_hh 63 = [] := by decide +kernel
theorem pn_63 : plainName (am_y 63).cls = true := by decide +kernel
theorem mL_63 : am_mL 63 = 4 := by decide +kernel
theorem np_64 : am_np 64 = 1 := rfl
theorem cs_64 : am_cs 64 := ⟨by decide, by decide +kernel⟩
theorem rt_64 (x : Int32) : am_rk 64 x := Or.inl (by decide +kernel)
theorem hh_64 : am_hh 64 = [] := by decide +kernel
theorem pn_64 : plainName (am_y 64).cls = true := by decide +kernel
theorem mL_64 : am_mL 64 = 1 := by decide +kernel
theorem np_65 : am_np 65 = 0 := rfl
theorem cv_65 : am_cv 65 (0, 6) := ⟨by decide, by decide +kernel, rfl, by decide, by decide +kernel⟩
theorem rt_65 : am_rt 65 = none := by decide +kernel
theorem hh_65 : am_hh 65 = [] := by decide +kernel
theorem pn_65 : plainName (am_y 65).cls = true := by decide +kernel
theorem mL_65 : am_mL 65 = 1 := by decide +kernel
theorem np_66 : am_np 66 = 1 := rfl
theorem cv_66 : am_cv 66 (0, 6) := ⟨by decide, by decide +kernel, rfl, by decide, by decide +kernel⟩
theorem rt_66 : am_rt 66 = none := by decide +kernel
theorem hh_66 : am_hh 66 = [] := by decide +kernel
theorem pn_66 : plainName (am_y 66).cls = true := by decide +kernel
theorem mL_66 : am_mL 66 = 2 := by decide +kernel
theorem np_67 : am_np 67 = 2 := rfl
theorem cv_67 : am_cv 67 (0, 6) := ⟨by decide, by decide +kernel, rfl, by decide, by decide +kernel⟩
theorem rt_67 : am_rt 67 = none := by decide +kernel
theorem hh_67 : am_hh 67 = [] := by decide +kernel
theorem pn_67 : plainName (am_y 67).cls = true := by decide +kernel
theorem mL_67 : am_mL 67 = 3 := by decide +kernel
theorem np_68 : am_np 68 = 0 := rfl
theorem ci_68 : am_ci 68 := ⟨by decide, by decide +kernel, by decide +kernel⟩
theorem rt_68 : am_rt 68 = none := by decide +kernel
theorem hh_68 : am_hh 68 = [] := by decide +kernel
theorem pn_68 : plainName (am_y 68).cls = true := by decide +kernel
theorem mL_68 : am_mL 68 = 1 := by decide +kernel
theorem np_69 : am_np 69 = 1 := rfl
theorem cs_69 : am_cs 69 := ⟨by decide, by decide +kernel⟩
theorem rt_69 (x : Int32) : am_rk 69 x := Or.inl (by decide +kernel)
theorem hh_69 : am_hh 69 = [] := by decide +kernel
theorem pn_69 : plainName (am_y 69).cls = true := by decide +kernel
theorem mL_69 : am_mL 69 = 1 := by decide +kernel
theorem np_70 : am_np 70 = 1 := rfl
theorem cs_70 : am_cs 70 := ⟨by decide, by decide +kernel⟩
theorem rt_70 (x : Int32) : am_rk 70 x := Or.inl (by decide +kernel)
theorem hh_70 : am_hh 70 = [] := by decide +kernel
theorem pn_70 : plainName (am_y 70).cls = true := by decide +kernel
theorem mL_70 : am_mL 70 = 1 := by decide +kernel
theorem np_71 : am_np 71 = 1 := rfl
theorem cs_71 : am_cs 71 := ⟨by decide, by decide +kernel⟩
theorem rt_71 (x : Int32) : am_rk 71 x := Or.inl (by decide +kernel)
theorem hh_71 : am_hh 71 = [] := by decide +kernel
theorem pn_71 : plainName (am_y 71).cls = true := by decide +kernel
theorem mL_71 : am_mL 71 = 1 := by decide +kernel
theorem np_72 : am_np 72 = 0 := rfl
theorem cv_72 : am_cv 72 (0, 7) := ⟨by decide, by decide +kernel, rfl, by decide, by decide +kernel⟩
theorem rt_72 : am_rt 72 = none := by decide +kernel
theorem hh_72 : am_hh 72 = [] := by decide +kernel
theorem pn_72 : plainName (am_y 72).cls = true := by decide +kernel
theorem mL_72 : am_mL 72 = 1 := by decide +kernel
theorem np_73 : am_np 73 = 1 := rfl
theorem cv_73 : am_cv 73 (0, 7) := ⟨by decide, by decide +kernel, rfl, by decide, by decide +kernel⟩
theorem rt_73 : am_rt 73 = none := by decide +kernel
theorem hh_73 : am_hh 73 = [] := by decide +kernel
theorem pn_73 : plainName (am_y 73).cls = true := by decide +kernel
theorem mL_73 : am_mL 73 = 2 := by decide +kernel
theorem np_74 : am_np 74 = 1 := rfl
theorem cv_74 : am_cv 74 (0, 7) := ⟨by decide, by decide +kernel, rfl, by decide, by decide +kernel⟩
theorem rt_74 : am_rt 74 = none := by decide +kernel
theorem hh_74 : am_hh 74 = [] := by decide +kernel
theorem pn_74 : plainName (am_y 74).cls = true := by decide +kernel
theorem mL_74 : am_mL 74 = 2 := by decide +kernel
theorem np_75 : am_np 75 = 0 := rfl
theorem cv_75 : am_cv 75 (0, 7) := ⟨by decide, by decide +kernel, rfl, by decide, by decide +kernel⟩
theorem rt_75 (x : Int32) : am_rk 75 x := Or.inl (by decide +kernel)
theorem hh_75 : am_hh 75 = [] := by decide +kernel
theorem pn_75 : plainName (am_y 75).cls = true := by decide +kernel
theorem mL_75 : am_mL 75 = 1 := by decide +kernel
theorem np_76 : am_np 76 = 1 := rfl
theorem cv_76 : am_cv 76 (0, 7) := ⟨by decide, by decide +kernel, rfl, by decide, by decide +kernel⟩
theorem rt_76 : am_rt 76 = none := by decide +kernel
theorem hh_76 : am_hh 76 = [] := by decide +kernel
theorem pn_76 : plainName (am_y 76).cls = true := by decide +kernel
theorem mL_76 : am_mL 76 = 3 := by decide +kernel
theorem np_77 : am_np 77 = 0 := rfl
theorem cv_77 : am_cv 77 (0, 7) := ⟨by decide, by decide +kernel, rfl, by decide, by decide +kernel⟩
theorem rt_77 : am_rt 77 = none := by decide +kernel
theorem hh_77 : am_hh 77 = [] := by decide +kernel
theorem pn_77 : plainName (am_y 77).cls = true := by decide +kernel
theorem mL_77 : am_mL 77 = 1 := by decide +kernel
theorem np_78 : am_np 78 = 2 := rfl
theorem cv_78 : am_cv 78 (0, 7) := ⟨by decide, by decide +kernel, rfl, by decide, by decide +kernel⟩
theorem rt_78 : am_rt 78 = none := by decide +kernel
theorem hh_78 : am_hh 78 = [] := by decide +kernel
theorem pn_78 : plainName (am_y 78).cls = true := by decide +kernel
theorem mL_78 : am_mL 78 = 3 := by decide +kernel
theorem np_79 : am_np 79 = 0 := rfl
theorem cv_79 : am_cv 79 (0, 7) := ⟨by decide, by decide +kernel, rfl, by decide, by decide +kernel⟩
theorem rt_79 (x : Int32) : am_rk 79 x := Or.inl (by decide +kernel)
theorem hh_79 : am_hh 79 = [] := by decide +kernel
theorem pn_79 : plainName (am_y 79).cls = true := by decide +kernel
theorem mL_79 : am_mL 79 = 4 := by decide +kernel
theorem np_80 : am_np 80 = 3 := rfl
theorem cs_80 : am_cs 80 := ⟨by decide, by decide +kernel⟩
theorem rt_80 (x : Int32) : am_rk 80 x := Or.inl (by decide +kernel)
theorem hh_80 : am_hh 80 = [] := by decide +kernel
theorem pn_80 : plainName (am_y 80).cls = true := by decide +kernel
theorem mL_80 : am_mL 80 = 3 := by decide +kernel
theorem np_81 : am_np 81 = 0 := rfl
theorem ci_81 : am_ci 81 := ⟨by decide, by decide +kernel, by decide +kernel⟩
theorem rt_81 : am_rt 81 = none := by decide +kernel
theorem hh_81 : am_hh 81 = [] := by decide +kernel
theorem pn_81 : plainName (am_y 81).cls = true := by decide +kernel
theorem mL_81 : am_mL 81 = 1 := by decide +kernel
theorem np_82 : am_np 82 = 0 := rfl
theorem cv_82 : am_cv 82 (0, 8) := ⟨by decide, by decide +kernel, rfl, by decide, by decide +kernel⟩
theorem rt_82 : am_rt 82 = none := by decide +kernel
theorem hh_82 : am_hh 82 = [] := by decide +kernel
theorem pn_82 : plainName (am_y 82).cls = true := by decide +kernel
theorem mL_82 : am_mL 82 = 1 := by decide +kernel
theorem np_83 : am_np 83 = 0 := rfl
theorem cv_83 : am_cv 83 (0, 8) := ⟨by decide, by decide +kernel, rfl, by decide, by decide +kernel⟩
theorem rt_83 (x : Int32) : am_rk 83 x := Or.inl (by decide +kernel)
theorem hh_83 : am_hh 83 = [] := by decide +kernel
theorem pn_83 : plainName (am_y 83).cls = true := by decide +kernel
theorem mL_83 : am_mL 83 = 1 := by decide +kernel
theorem np_84 : am_np 84 = 1 := rfl
theorem cv_84 : am_cv 84 (0, 8) := ⟨by decide, by decide +kernel, rfl, by decide, by decide +kernel⟩
theorem rt_84 (x : Int32) : am_rk 84 x := Or.inl (by decide +kernel)
theorem hh_84 : am_hh 84 = [] := by decide +kernel
theorem pn_84 : plainName (am_y 84).cls = true := by decide +kernel
theorem mL_84 : am_mL 84 = 4 := by decide +kernel
theorem np_85 : am_np 85 = 1 := rfl
theorem cv_85 : am_cv 85 (0, 8) := ⟨by decide, by decide +kernel, rfl, by decide, by decide +kernel⟩
theorem rt_85 (x : Int32) : am_rk 85 x = (x = nI 0 ∨ x = nI 1) := by
  rw [am_rk, show am_rt 85 = some .boolean by decide +kernel, nI_0]
  simp
  rfl
theorem hh_85 : am_hh 85 = [] := by decide +kernel
theorem pn_85 : plainName (am_y 85).cls = true := by decide +kernel
theorem mL_85 : am_mL 85 = 3 := by decide +kernel
theorem np_86 : am_np 86 = 1 := rfl
theorem cv_86 : am_cv 86 (0, 8) := ⟨by decide, by decide +kernel, rfl, by decide, by decide +kernel⟩
theorem rt_86 (x : Int32) : am_rk 86 x := Or.inl (by decide +kernel)
theorem hh_86 : am_hh 86 = [] := by decide +kernel
theorem pn_86 : plainName (am_y 86).cls = true := by decide +kernel
theorem mL_86 : am_mL 86 = 5 := by decide +kernel
theorem np_87 : am_np 87 = 1 := rfl
theorem cv_87 : am_cv 87 (0, 8) := ⟨by decide, by decide +kernel, rfl, by decide, by decide +kernel⟩
theorem rt_87 (x : Int32) : am_rk 87 x := Or.inl (by decide +kernel)
theorem hh_87 : am_hh 87 = [] := by decide +kernel
theorem pn_87 : plainName (am_y 87).cls = true := by decide +kernel
theorem mL_87 : am_mL 87 = 4 := by decide +kernel
theorem np_88 : am_np 88 = 2 := rfl
theorem cv_88 : am_cv 88 (0, 8) := ⟨by decide, by decide +kernel, rfl, by decide, by decide +kernel⟩
theorem rt_88 : am_rt 88 = none := by decide +kernel
theorem hh_88 : am_hh 88 = [] := by decide +kernel
theorem pn_88 : plainName (am_y 88).cls = true := by decide +kernel
theorem mL_88 : am_mL 88 = 7 := by decide +kernel
theorem np_89 : am_np 89 = 2 := rfl
theorem cv_89 : am_cv 89 (0, 8) := ⟨by decide, by decide +kernel, rfl, by decide, by decide +kernel⟩
theorem rt_89 (x : Int32) : am_rk 89 x = (x = nI 0 ∨ x = nI 1) := by
  rw [am_rk, show am_rt 89 = some .boolean by decide +kernel, nI_0]
  simp
  rfl
theorem hh_89 : am_hh 89 = [] := by decide +kernel
theorem pn_89 : plainName (am_y 89).cls = true := by decide +kernel
theorem mL_89 : am_mL 89 = 4 := by decide +kernel
theorem np_90 : am_np 90 = 0 := rfl
theorem ci_90 : am_ci 90 := ⟨by decide, by decide +kernel, by decide +kernel⟩
theorem rt_90 : am_rt 90 = none := by decide +kernel
theorem hh_90 : am_hh 90 = [] := by decide +kernel
theorem pn_90 : plainName (am_y 90).cls = true := by decide +kernel
theorem mL_90 : am_mL 90 = 1 := by decide +kernel
theorem np_91 : am_np 91 = 1 := rfl
theorem cv_91 : am_cv 91 (0, 9) := ⟨by decide, by decide +kernel, rfl, by decide, by decide +kernel⟩
theorem rt_91 (x : Int32) : am_rk 91 x = (x = nI 0 ∨ x = nI 1) := by
  rw [am_rk, show am_rt 91 = some .boolean by decide +kernel, nI_0]
  simp
  rfl
theorem hh_91 : am_hh 91 = [] := by decide +kernel
theorem pn_91 : plainName (am_y 91).cls = true := by decide +kernel
theorem mL_91 : am_mL 91 = 2 := by decide +kernel
theorem np_92 : am_np 92 = 1 := rfl
theorem cv_92 : am_cv 92 (0, 9) := ⟨by decide, by decide +kernel, rfl, by decide, by decide +kernel⟩
theorem rt_92 : am_rt 92 = none := by decide +kernel
theorem hh_92 : am_hh 92 = [] := by decide +kernel
theorem pn_92 : plainName (am_y 92).cls = true := by decide +kernel
theorem mL_92 : am_mL 92 = 3 := by decide +kernel
theorem np_93 : am_np 93 = 1 := rfl
theorem cv_93 : am_cv 93 (0, 9) := ⟨by decide, by decide +kernel, rfl, by decide, by decide +kernel⟩
theorem rt_93 : am_rt 93 = none := by decide +kernel
theorem hh_93 : am_hh 93 = [] := by decide +kernel
theorem pn_93 : plainName (am_y 93).cls = true := by decide +kernel
theorem mL_93 : am_mL 93 = 2 := by decide +kernel
theorem np_94 : am_np 94 = 0 := rfl
theorem cv_94 : am_cv 94 (0, 9) := ⟨by decide, by decide +kernel, rfl, by decide, by decide +kernel⟩
theorem rt_94 : am_rt 94 = none := by decide +kernel
theorem hh_94 : am_hh 94 = [] := by decide +kernel
theorem pn_94 : plainName (am_y 94).cls = true := by decide +kernel
theorem mL_94 : am_mL 94 = 3 := by decide +kernel
theorem np_95 : am_np 95 = 1 := rfl
theorem cv_95 : am_cv 95 (0, 9) := ⟨by decide, by decide +kernel, rfl, by decide, by decide +kernel⟩
theorem rt_95 : am_rt 95 = none := by decide +kernel
theorem hh_95 : am_hh 95 = [] := by decide +kernel
theorem pn_95 : plainName (am_y 95).cls = true := by decide +kernel
theorem mL_95 : am_mL 95 = 3 := by decide +kernel
theorem np_96 : am_np 96 = 1 := rfl
theorem cv_96 : am_cv 96 (0, 9) := ⟨by decide, by decide +kernel, rfl, by decide, by decide +kernel⟩
theorem rt_96 (x : Int32) : am_rk 96 x = (x = nI 0 ∨ x = nI 1) := by
  rw [am_rk, show am_rt 96 = some .boolean by decide +kernel, nI_0]
  simp
  rfl
theorem hh_96 : am_hh 96 = [] := by decide +kernel
theorem pn_96 : plainName (am_y 96).cls = true := by decide +kernel
theorem mL_96 : am_mL 96 = 3 := by decide +kernel
theorem np_97 : am_np 97 = 1 := rfl
theorem cv_97 : am_cv 97 (0, 9) := ⟨by decide, by decide +kernel, rfl, by decide, by decide +kernel⟩
theorem rt_97 (x : Int32) : am_rk 97 x = (x = nI 0 ∨ x = nI 1) := by
  rw [am_rk, show am_rt 97 = some .boolean by decide +kernel, nI_0]
  simp
  rfl
theorem hh_97 : am_hh 97 = [] := by decide +kernel
theorem pn_97 : plainName (am_y 97).cls = true := by decide +kernel
theorem mL_97 : am_mL 97 = 2 := by decide +kernel
theorem np_98 : am_np 98 = 1 := rfl
theorem cv_98 : am_cv 98 (0, 9) := ⟨by decide, by decide +kernel, rfl, by decide, by decide +kernel⟩
theorem rt_98 (x : Int32) : am_rk 98 x := Or.inl (by decide +kernel)
theorem hh_98 : am_hh 98 = [] := by decide +kernel
theorem pn_98 : plainName (am_y 98).cls = true := by decide +kernel
theorem mL_98 : am_mL 98 = 2 := by decide +kernel
theorem np_99 : am_np 99 = 1 := rfl
theorem cs_99 : am_cs 99 := ⟨by decide, by decide +kernel⟩
theorem rt_99 (x : Int32) : am_rk 99 x = (x = nI 0 ∨ x = nI 1) := by
  rw [am_rk, show am_rt 99 = some .boolean by decide +kernel, nI_0]
  simp
  rfl
theorem hh_99 : am_hh 99 = [] := by decide +kernel
theorem pn_99 : plainName (am_y 99).cls = true := by decide +kernel
theorem mL_99 : am_mL 99 = 1 := by decide +kernel
theorem np_100 : am_np 100 = 1 := rfl
theorem cs_100 : am_cs 100 := ⟨by decide, by decide +kernel⟩
theorem rt_100 (x : Int32) : am_rk 100 x = (x = nI 0 ∨ x = nI 1) := by
  rw [am_rk, show am_rt 100 = some .boolean by decide +kernel, nI_0]
  simp
  rfl
theorem hh_100 : am_hh 100 = [] := by decide +kernel
theorem pn_100 : plainName (am_y 100).cls = true := by decide +kernel
theorem mL_100 : am_mL 100 = 1 := by decide +kernel
theorem np_101 : am_np 101 = 1 := rfl
theorem cs_101 : am_cs 101 := ⟨by decide, by decide +kernel⟩
theorem rt_101 (x : Int32) : am_rk 101 x = (x = nI 0 ∨ x = nI 1) := by
  rw [am_rk, show am_rt 101 = some .boolean by decide +kernel, nI_0]
  simp
  rfl
theorem hh_101 : am_hh 101 = [] := by decide +kernel
theorem pn_101 : plainName (am_y 101).cls = true := by decide +kernel
theorem mL_101 : am_mL 101 = 1 := by decide +kernel
theorem np_102 : am_np 102 = 1 := rfl
theorem cs_102 : am_cs 102 := ⟨by decide, by decide +kernel⟩
theorem rt_102 (x : Int32) : am_rk 102 x = (x = nI 0 ∨ x = nI 1) := by
  rw [am_rk, show am_rt 102 = some .boolean by decide +kernel, nI_0]
  simp
  rfl
theorem hh_102 : am_hh 102 = [] := by decide +kernel
theorem pn_102 : plainName (am_y 102).cls = true := by decide +kernel
theorem mL_102 : am_mL 102 = 1 := by decide +kernel
theorem np_103 : am_np 103 = 0 := rfl
theorem ci_103 : am_ci 103 := ⟨by decide, by decide +kernel, by decide +kernel⟩
theorem rt_103 : am_rt 103 = none := by decide +kernel
theorem hh_103 : am_hh 103 = [] := by decide +kernel
theorem pn_103 : plainName (am_y 103).cls = true := by decide +kernel
theorem mL_103 : am_mL 103 = 1 := by decide +kernel
theorem np_104 : am_np 104 = 5 := rfl
theorem cv_104 : am_cv 104 (0, 10) := ⟨by decide, by decide +kernel, rfl, by decide, by decide +kernel⟩
theorem rt_104 (x : Int32) : am_rk 104 x := Or.inl (by decide +kernel)
theorem hh_104 : am_hh 104 = [] := by decide +kernel
theorem pn_104 : plainName (am_y 104).cls = true := by decide +kernel
theorem mL_104 : am_mL 104 = 7 := by decide +kernel
theorem np_105 : am_np 105 = 1 := rfl
theorem cv_105 : am_cv 105 (0, 10) := ⟨by decide, by decide +kernel, rfl, by decide, by decide +kernel⟩
theorem rt_105 (x : Int32) : am_rk 105 x := Or.inl (by decide +kernel)
theorem hh_105 : am_hh 105 = [] := by decide +kernel
theorem pn_105 : plainName (am_y 105).cls = true := by decide +kernel
theorem mL_105 : am_mL 105 = 4 := by decide +kernel
theorem np_106 : am_np 106 = 0 := rfl
theorem cv_106 : am_cv 106 (0, 10) := ⟨by decide, by decide +kernel, rfl, by decide, by decide +kernel⟩
theorem rt_106 (x : Int32) : am_rk 106 x := Or.inl (by decide +kernel)
theorem hh_106 : am_hh 106 = [] := by decide +kernel
theorem pn_106 : plainName (am_y 106).cls = true := by decide +kernel
theorem mL_106 : am_mL 106 = 1 := by decide +kernel
theorem np_107 : am_np 107 = 1 := rfl
theorem cv_107 : am_cv 107 (0, 10) := ⟨by decide, by decide +kernel, rfl, by decide, by decide +kernel⟩
theorem rt_107 (x : Int32) : am_rk 107 x := Or.inl (by decide +kernel)
theorem hh_107 : am_hh 107 = [] := by decide +kernel
theorem pn_107 : plainName (am_y 107).cls = true := by decide +kernel
theorem mL_107 : am_mL 107 = 2 := by decide +kernel
theorem np_108 : am_np 108 = 2 := rfl
theorem cv_108 : am_cv 108 (0, 10) := ⟨by decide, by decide +kernel, rfl, by decide, by decide +kernel⟩
theorem rt_108 (x : Int32) : am_rk 108 x := Or.inl (by decide +kernel)
theorem hh_108 : am_hh 108 = [] := by decide +kernel
theorem pn_108 : plainName (am_y 108).cls = true := by decide +kernel
theorem mL_108 : am_mL 108 = 3 := by decide +kernel
theorem np_109 : am_np 109 = 2 := rfl
theorem cv_109 : am_cv 109 (0, 10) := ⟨by decide, by decide +kernel, rfl, by decide, by decide +kernel⟩
theorem rt_109 (x : Int32) : am_rk 109 x := Or.inl (by decide +kernel)
theorem hh_109 : am_hh 109 = [] := by decide +kernel
theorem pn_109 : plainName (am_y 109).cls = true := by decide +kernel
theorem mL_109 : am_mL 109 = 3 := by decide +kernel
theorem np_110 : am_np 110 = 2 := rfl
theorem cv_110 : am_cv 110 (0, 10) := ⟨by decide, by decide +kernel, rfl, by decide, by decide +kernel⟩
theorem rt_110 (x : Int32) : am_rk 110 x := Or.inl (by decide +kernel)
theorem hh_110 : am_hh 110 = [] := by decide +kernel
theorem pn_110 : plainName (am_y 110).cls = true := by decide +kernel
theorem mL_110 : am_mL 110 = 3 := by decide +kernel
theorem np_111 : am_np 111 = 2 := rfl
theorem cv_111 : am_cv 111 (0, 10) := ⟨by decide, by decide +kernel, rfl, by decide, by decide +kernel⟩
theorem rt_111 (x : Int32) : am_rk 111 x := Or.inl (by decide +kernel)
theorem hh_111 : am_hh 111 = [] := by decide +kernel
theorem pn_111 : plainName (am_y 111).cls = true := by decide +kernel
theorem mL_111 : am_mL 111 = 4 := by decide +kernel
theorem np_112 : am_np 112 = 2 := rfl
theorem cv_112 : am_cv 112 (0, 10) := ⟨by decide, by decide +kernel, rfl, by decide, by decide +kernel⟩
theorem rt_112 (x : Int32) : am_rk 112 x := Or.inl (by decide +kernel)
theorem hh_112 : am_hh 112 = [] := by decide +kernel
theorem pn_112 : plainName (am_y 112).cls = true := by decide +kernel
theorem mL_112 : am_mL 112 = 4 := by decide +kernel
theorem np_113 : am_np 113 = 3 := rfl
theorem cv_113 : am_cv 113 (0, 10) := ⟨by decide, by decide +kernel, rfl, by decide, by decide +kernel⟩
theorem rt_113 (x : Int32) : am_rk 113 x = (x = nI 0 ∨ x = nI 1) := by
  rw [am_rk, show am_rt 113 = some .boolean by decide +kernel, nI_0]
  simp
  rfl
theorem hh_113 : am_hh 113 = [] := by decide +kernel
theorem pn_113 : plainName (am_y 113).cls = true := by decide +kernel
theorem mL_113 : am_mL 113 = 4 := by decide +kernel
theorem np_114 : am_np 114 = 1 := rfl
theorem cv_114 : am_cv 114 (0, 10) := ⟨by decide, by decide +kernel, rfl, by decide, by decide +kernel⟩
theorem rt_114 (x : Int32) : am_rk 114 x := Or.inl (by decide +kernel)
theorem hh_114 : am_hh 114 = [] := by decide +kernel
theorem pn_114 : plainName (am_y 114).cls = true := by decide +kernel
theorem mL_114 : am_mL 114 = 4 := by decide +kernel
theorem np_115 : am_np 115 = 0 := rfl
theorem cv_115 : am_cv 115 (0, 10) := ⟨by decide, by decide +kernel, rfl, by decide, by decide +kernel⟩
theorem rt_115 (x : Int32) : am_rk 115 x := Or.inl (by decide +kernel)
theorem hh_115 : am_hh 115 = [] := by decide +kernel
theorem pn_115 : plainName (am_y 115).cls = true := by decide +kernel
theorem mL_115 : am_mL 115 = 1 := by decide +kernel
theorem np_116 : am_np 116 = 2 := rfl
theorem cv_116 : am_cv 116 (0, 10) := ⟨by decide, by decide +kernel, rfl, by decide, by decide +kernel⟩
theorem rt_116 (x : Int32) : am_rk 116 x := Or.inl (by decide +kernel)
theorem hh_116 : am_hh 116 = [] := by decide +kernel
theorem pn_116 : plainName (am_y 116).cls = true := by decide +kernel
theorem mL_116 : am_mL 116 = 3 := by decide +kernel
theorem np_117 : am_np 117 = 2 := rfl
theorem cv_117 : am_cv 117 (0, 10) := ⟨by decide, by decide +kernel, rfl, by decide, by decide +kernel⟩
theorem rt_117 (x : Int32) : am_rk 117 x := Or.inl (by decide +kernel)
theorem hh_117 : am_hh 117 = [] := by decide +kernel
theorem pn_117 : plainName (am_y 117).cls = true := by decide +kernel
theorem mL_117 : am_mL 117 = 6 := by decide +kernel
theorem np_118 : am_np 118 = 3 := rfl
theorem cv_118 : am_cv 118 (0, 10) := ⟨by decide, by decide +kernel, rfl, by decide, by decide +kernel⟩
theorem rt_118 (x : Int32) : am_rk 118 x := Or.inl (by decide +kernel)
theorem hh_118 : am_hh 118 = [] := by decide +kernel
theorem pn_118 : plainName (am_y 118).cls = true := by decide +kernel
theorem mL_118 : am_mL 118 = 5 := by decide +kernel
theorem np_119 : am_np 119 = 3 := rfl
theorem cv_119 : am_cv 119 (0, 10) := ⟨by decide, by decide +kernel, rfl, by decide, by decide +kernel⟩
theorem rt_119 (x : Int32) : am_rk 119 x := Or.inl (by decide +kernel)
theorem hh_119 : am_hh 119 = [] := by decide +kernel
theorem pn_119 : plainName (am_y 119).cls = true := by decide +kernel
theorem mL_119 : am_mL 119 = 4 := by decide +kernel
theorem np_120 : am_np 120 = 1 := rfl
theorem cv_120 : am_cv 120 (0, 10) := ⟨by decide, by decide +kernel, rfl, by decide, by decide +kernel⟩
theorem rt_120 (x : Int32) : am_rk 120 x := Or.inl (by decide +kernel)
theorem hh_120 : am_hh 120 = [] := by decide +kernel
theorem pn_120 : plainName (am_y 120).cls = true := by decide +kernel
theorem mL_120 : am_mL 120 = 2 := by decide +kernel
theorem np_121 : am_np 121 = 3 := rfl
theorem cv_121 : am_cv 121 (0, 10) := ⟨by decide, by decide +kernel, rfl, by decide, by decide +kernel⟩
theorem rt_121 (x : Int32) : am_rk 121 x := Or.inl (by decide +kernel)
theorem hh_121 : am_hh 121 = [] := by decide +kernel
theorem pn_121 : plainName (am_y 121).cls = true := by decide +kernel
theorem mL_121 : am_mL 121 = 7 := by decide +kernel
theorem np_122 : am_np 122 = 2 := rfl
theorem cv_122 : am_cv 122 (0, 10) := ⟨by decide, by decide +kernel, rfl, by decide, by decide +kernel⟩
theorem rt_122 (x : Int32) : am_rk 122 x := Or.inl (by decide +kernel)
theorem hh_122 : am_hh 122 = [] := by decide +kernel
theorem pn_122 : plainName (am_y 122).cls = true := by decide +kernel
theorem mL_122 : am_mL 122 = 5 := by decide +kernel
theorem np_123 : am_np 123 = 1 := rfl
theorem cv_123 : am_cv 123 (0, 10) := ⟨by decide, by decide +kernel, rfl, by decide, by decide +kernel⟩
theorem rt_123 (x : Int32) : am_rk 123 x := Or.inl (by decide +kernel)
theorem hh_123 : am_hh 123 = [] := by decide +kernel
theorem pn_123 : plainName (am_y 123).cls = true := by decide +kernel
theorem mL_123 : am_mL 123 = 2 := by decide +kernel
theorem np_124 : am_np 124 = 2 := rfl
theorem cv_124 : am_cv 124 (0, 10) := ⟨by decide, by decide +kernel, rfl, by decide, by decide +kernel⟩
theorem rt_124 (x : Int32) : am_rk 124 x := Or.inl (by decide +kernel)
theorem hh_124 : am_hh 124 = [] := by decide +kernel
theorem pn_124 : plainName (am_y 124).cls = true := by decide +kernel
theorem mL_124 : am_mL 124 = 3 := by decide +kernel
theorem np_125 : am_np 125 = 1 := rfl
theorem cv_125 : am_cv 125 (0, 10) := ⟨by decide, by decide +kernel, rfl, by decide, by decide +kernel⟩
theorem rt_125 (x : Int32) : am_rk 125 x := Or.inl (by decide +kernel)
theorem hh_125 : am_hh 125 = [] := by decide +kernel
theorem pn_125 : plainName (am_y 125).cls = true := by decide +kernel
theorem mL_125 : am_mL 125 = 8 := by decide +kernel
theorem np_126 : am_np 126 = 1 := rfl
theorem cv_126 : am_cv 126 (0, 10) := ⟨by decide, by decide +kernel, rfl, by decide, by decide +kernel⟩
theorem rt_126 (x : Int32) : am_rk 126 x := Or.inl (by decide +kernel)
theorem hh_126 : am_hh 126 = [] := by decide +kernel
theorem pn_126 : plainName (am_y 126).cls = true := by decide +kernel
theorem mL_126 : am_mL 126 = 5 := by decide +kernel
theorem np_127 : am_np 127 = 1 := rfl
theorem cv_127 : am_cv 127 (0, 10) := ⟨by decide, by decide +kernel, rfl, by decide, by decide +kernel⟩
theorem rt_127 (x : Int32) : am_rk 127 x = (x = nI 0 ∨ x = nI 1) := by
  rw [am_rk, show am_rt 127 = some .boolean by decide +kernel, nI_0]
  simp
  rfl
theorem hh_127 : am_hh 127 = [] := by decide +kernel
theorem pn_127 : plainName (am_y 127).cls = true := by decide +kernel
theorem mL_127 : am_mL 127 = 2 := by decide +kernel
theorem np_128 : am_np 128 = 1 := rfl
theorem cv_128 : am_cv 128 (0, 10) := ⟨by decide, by decide +kernel, rfl, by decide, by decide +kernel⟩
theorem rt_128 (x : Int32) : am_rk 128 x := Or.inl (by decide +kernel)
theorem hh_128 : am_hh 128 = [] := by decide +kernel
theorem pn_128 : plainName (am_y 128).cls = true := by decide +kernel
theorem mL_128 : am_mL 128 = 2 := by decide +kernel
theorem np_129 : am_np 129 = 1 := rfl
theorem cv_129 : am_cv 129 (0, 10) := ⟨by decide, by decide +kernel, rfl, by decide, by decide +kernel⟩
theorem rt_129 (x : Int32) : am_rk 129 x := Or.inl (by decide +kernel)
theorem hh_129 : am_hh 129 = [] := by decide +kernel
theorem pn_129 : plainName (am_y 129).cls = true := by decide +kernel
theorem mL_129 : am_mL 129 = 6 := by decide +kernel
theorem np_130 : am_np 130 = 3 := rfl
theorem cv_130 : am_cv 130 (0, 10) := ⟨by decide, by decide +kernel, rfl, by decide, by decide +kernel⟩
theorem rt_130 (x : Int32) : am_rk 130 x := Or.inl (by decide +kernel)
theorem hh_130 : am_hh 130 = [] := by decide +kernel
theorem pn_130 : plainName (am_y 130).cls = true := by decide +kernel
theorem mL_130 : am_mL 130 = 4 := by decide +kernel
theorem np_131 : am_np 131 = 0 := rfl
theorem cv_131 : am_cv 131 (0, 10) := ⟨by decide, by decide +kernel, rfl, by decide, by decide +kernel⟩
theorem rt_131 : am_rt 131 = none := by decide +kernel
theorem hh_131 : am_hh 131 = [] := by decide +kernel
theorem pn_131 : plainName (am_y 131).cls = true := by decide +kernel
theorem mL_131 : am_mL 131 = 1 := by decide +kernel
theorem np_132 : am_np 132 = 2 := rfl
theorem cv_132 : am_cv 132 (0, 10) := ⟨by decide, by decide +kernel, rfl, by decide, by decide +kernel⟩
theorem rt_132 (x : Int32) : am_rk 132 x := Or.inl (by decide +kernel)
theorem hh_132 : am_hh 132 = [] := by decide +kernel
theorem pn_132 : plainName (am_y 132).cls = true := by decide +kernel
theorem mL_132 : am_mL 132 = 4 := by decide +kernel
theorem np_133 : am_np 133 = 0 := rfl
theorem cv_133 : am_cv 133 (0, 10) := ⟨by decide, by decide +kernel, rfl, by decide, by decide +kernel⟩
theorem rt_133 (x : Int32) : am_rk 133 x := Or.inl (by decide +kernel)
theorem hh_133 : am_hh 133 = [] := by decide +kernel
theorem pn_133 : plainName (am_y 133).cls = true := by decide +kernel
theorem mL_133 : am_mL 133 = 3 := by decide +kernel
theorem np_134 : am_np 134 = 1 := rfl
theorem cv_134 : am_cv 134 (0, 10) := ⟨by decide, by decide +kernel, rfl, by decide, by decide +kernel⟩
theorem rt_134 (x : Int32) : am_rk 134 x := Or.inl (by decide +kernel)
theorem hh_134 : am_hh 134 = [] := by decide +kernel
theorem pn_134 : plainName (am_y 134).cls = true := by decide +kernel
theorem mL_134 : am_mL 134 = 2 := by decide +kernel
theorem np_135 : am_np 135 = 1 := rfl
theorem cv_135 : am_cv 135 (0, 10) := ⟨by decide, by decide +kernel, rfl, by decide, by decide +kernel⟩
theorem rt_135 (x : Int32) : am_rk 135 x := Or.inl (by decide +kernel)
theorem hh_135 : am_hh 135 = [] := by decide +kernel
theorem pn_135 : plainName (am_y 135).cls = true := by decide +kernel
theorem mL_135 : am_mL 135 = 3 := by decide +kernel
theorem np_136 : am_np 136 = 3 := rfl
theorem cv_136 : am_cv 136 (0, 10) := ⟨by decide, by decide +kernel, rfl, by decide, by decide +kernel⟩
theorem rt_136 (x : Int32) : am_rk 136 x := Or.inl (by decide +kernel)
theorem hh_136 : am_hh 136 = [] := by decide +kernel
theorem pn_136 : plainName (am_y 136).cls = true := by decide +kernel
theorem mL_136 : am_mL 136 = 5 := by decide +kernel
theorem np_137 : am_np 137 = 1 := rfl
theorem cv_137 : am_cv 137 (0, 10) := ⟨by decide, by decide +kernel, rfl, by decide, by decide +kernel⟩
theorem rt_137 (x : Int32) : am_rk 137 x := Or.inl (by decide +kernel)
theorem hh_137 : am_hh 137 = [] := by decide +kernel
theorem pn_137 : plainName (am_y 137).cls = true := by decide +kernel
theorem mL_137 : am_mL 137 = 3 := by decide +kernel
theorem np_138 : am_np 138 = 2 := rfl
theorem cv_138 : am_cv 138 (0, 10) := ⟨by decide, by decide +kernel, rfl, by decide, by decide +kernel⟩
theorem rt_138 (x : Int32) : am_rk 138 x := Or.inl (by decide +kernel)
theorem hh_138 : am_hh 138 = [] := by decide +kernel
theorem pn_138 : plainName (am_y 138).cls = true := by decide +kernel
theorem mL_138 : am_mL 138 = 4 := by decide +kernel
theorem np_139 : am_np 139 = 1 := rfl
theorem cv_139 : am_cv 139 (0, 10) := ⟨by decide, by decide +kernel, rfl, by decide, by decide +kernel⟩
theorem rt_139 (x : Int32) : am_rk 139 x := Or.inl (by decide +kernel)
theorem hh_139 : am_hh 139 = [] := by decide +kernel
theorem pn_139 : plainName (am_y 139).cls = true := by decide +kernel
theorem mL_139 : am_mL 139 = 4 := by decide +kernel
theorem np_140 : am_np 140 = 0 := rfl
theorem cv_140 : am_cv 140 (0, 10) := ⟨by decide, by decide +kernel, rfl, by decide, by decide +kernel⟩
theorem rt_140 : am_rt 140 = none := by decide +kernel
theorem hh_140 : am_hh 140 = [] := by decide +kernel
theorem pn_140 : plainName (am_y 140).cls = true := by decide +kernel
theorem mL_140 : am_mL 140 = 1 := by decide +kernel
theorem np_141 : am_np 141 = 0 := rfl
theorem cv_141 : am_cv 141 (0, 10) := ⟨by decide, by decide +kernel, rfl, by decide, by decide +kernel⟩
theorem rt_141 (x : Int32) : am_rk 141 x = (x = nI 0 ∨ x = nI 1) := by
  rw [am_rk, show am_rt 141 = some .boolean by decide +kernel, nI_0]
  simp
  rfl
theorem hh_141 : am_hh 141 = [] := by decide +kernel
theorem pn_141 : plainName (am_y 141).cls = true := by decide +kernel
theorem mL_141 : am_mL 141 = 1 := by decide +kernel
theorem np_142 : am_np 142 = 1 := rfl
theorem cv_142 : am_cv 142 (0, 10) := ⟨by decide, by decide +kernel, rfl, by decide, by decide +kernel⟩
theorem rt_142 : am_rt 142 = none := by decide +kernel
theorem hh_142 : am_hh 142 = [] := by decide +kernel
theorem pn_142 : plainName (am_y 142).cls = true := by decide +kernel
theorem mL_142 : am_mL 142 = 2 := by decide +kernel
theorem np_143 : am_np 143 = 1 := rfl
theorem cv_143 : am_cv 143 (0, 10) := ⟨by decide, by decide +kernel, rfl, by decide, by decide +kernel⟩
theorem rt_143 : am_rt 143 = none := by decide +kernel
theorem hh_143 : am_hh 143 = [] := by decide +kernel
theorem pn_143 : plainName (am_y 143).cls = true := by decide +kernel
theorem mL_143 : am_mL 143 = 2 := by decide +kernel
theorem np_144 : am_np 144 = 3 := rfl
theorem cs_144 : am_cs 144 := ⟨by decide, by decide +kernel⟩
theorem rt_144 : am_rt 144 = none := by decide +kernel
theorem hh_144 : am_hh 144 = [] := by decide +kernel
theorem pn_144 : plainName (am_y 144).cls = true := by decide +kernel
theorem mL_144 : am_mL 144 = 3 := by decide +kernel
theorem np_145 : am_np 145 = 2 := rfl
theorem cs_145 : am_cs 145 := ⟨by decide, by decide +kernel⟩
theorem rt_145 (x : Int32) : am_rk 145 x = (x = nI 0 ∨ x = nI 1) := by
  rw [am_rk, show am_rt 145 = some .boolean by decide +kernel, nI_0]
  simp
  rfl
theorem hh_145 : am_hh 145 = [] := by decide +kernel
theorem pn_145 : plainName (am_y 145).cls = true := by decide +kernel
theorem mL_145 : am_mL 145 = 2 := by decide +kernel
theorem np_146 : am_np 146 = 2 := rfl
theorem cv_146 : am_cv 146 (0, 10) := ⟨by decide, by decide +kernel, rfl, by decide, by decide +kernel⟩
theorem rt_146 : am_rt 146 = none := by decide +kernel
theorem hh_146 : am_hh 146 = [] := by decide +kernel
theorem pn_146 : plainName (am_y 146).cls = true := by decide +kernel
theorem mL_146 : am_mL 146 = 4 := by decide +kernel
theorem np_147 : am_np 147 = 3 := rfl
theorem cv_147 : am_cv 147 (0, 10) := ⟨by decide, by decide +kernel, rfl, by decide, by decide +kernel⟩
theorem rt_147 (x : Int32) : am_rk 147 x := Or.inl (by decide +kernel)
theorem hh_147 : am_hh 147 = [] := by decide +kernel
theorem pn_147 : plainName (am_y 147).cls = true := by decide +kernel
theorem mL_147 : am_mL 147 = 6 := by decide +kernel
theorem np_148 : am_np 148 = 1 := rfl
theorem cv_148 : am_cv 148 (0, 10) := ⟨by decide, by decide +kernel, rfl, by decide, by decide +kernel⟩
theorem rt_148 (x : Int32) : am_rk 148 x := Or.inl (by decide +kernel)
theorem hh_148 : am_hh 148 = [] := by decide +kernel
theorem pn_148 : plainName (am_y 148).cls = true := by decide +kernel
theorem mL_148 : am_mL 148 = 4 := by decide +kernel
theorem np_149 : am_np 149 = 0 := rfl
theorem cv_149 : am_cv 149 (0, 10) := ⟨by decide, by decide +kernel, rfl, by decide, by decide +kernel⟩
theorem rt_149 (x : Int32) : am_rk 149 x := Or.inl (by decide +kernel)
theorem hh_149 : am_hh 149 = [] := by decide +kernel
theorem pn_149 : plainName (am_y 149).cls = true := by decide +kernel
theorem mL_149 : am_mL 149 = 3 := by decide +kernel
theorem np_150 : am_np 150 = 0 := rfl
theorem cv_150 : am_cv 150 (0, 10) := ⟨by decide, by decide +kernel, rfl, by decide, by decide +kernel⟩
theorem rt_150 (x : Int32) : am_rk 150 x := Or.inl (by decide +kernel)
theorem hh_150 : am_hh 150 = [] := by decide +kernel
theorem pn_150 : plainName (am_y 150).cls = true := by decide +kernel
theorem mL_150 : am_mL 150 = 3 := by decide +kernel
theorem np_151 : am_np 151 = 2 := rfl
theorem cv_151 : am_cv 151 (0, 10) := ⟨by decide, by decide +kernel, rfl, by decide, by decide +kernel⟩
theorem rt_151 (x : Int32) : am_rk 151 x := Or.inl (by decide +kernel)
theorem hh_151 : am_hh 151 = [] := by decide +kernel
theorem pn_151 : plainName (am_y 151).cls = true := by decide +kernel
theorem mL_151 : am_mL 151 = 5 := by decide +kernel
theorem np_152 : am_np 152 = 1 := rfl
theorem cv_152 : am_cv 152 (0, 10) := ⟨by decide, by decide +kernel, rfl, by decide, by decide +kernel⟩
theorem rt_152 (x : Int32) : am_rk 152 x := Or.inl (by decide +kernel)
theorem hh_152 : am_hh 152 = [] := by decide +kernel
theorem pn_152 : plainName (am_y 152).cls = true := by decide +kernel
theorem mL_152 : am_mL 152 = 4 := by decide +kernel
theorem np_153 : am_np 153 = 2 := rfl
theorem cv_153 : am_cv 153 (0, 10) := ⟨by decide, by decide +kernel, rfl, by decide, by decide +kernel⟩
theorem rt_153 (x : Int32) : am_rk 153 x := Or.inl (by decide +kernel)
theorem hh_153 : am_hh 153 = [] := by decide +kernel
theorem pn_153 : plainName (am_y 153).cls = true := by decide +kernel
theorem mL_153 : am_mL 153 = 7 := by decide +kernel
theorem np_154 : am_np 154 = 1 := rfl
theorem cs_154 : am_cs 154 := ⟨by decide, by decide +kernel⟩
theorem rt_154 (x : Int32) : am_rk 154 x := Or.inl (by decide +kernel)
theorem hh_154 : am_hh 154 = [] := by decide +kernel
theorem pn_154 : plainName (am_y 154).cls = true := by decide +kernel
theorem mL_154 : am_mL 154 = 1 := by decide +kernel
theorem np_155 : am_np 155 = 2 := rfl
theorem cs_155 : am_cs 155 := ⟨by decide, by decide +kernel⟩
theorem rt_155 (x : Int32) : am_rk 155 x := Or.inl (by decide +kernel)
theorem hh_155 : am_hh 155 = [] := by decide +kernel
theorem pn_155 : plainName (am_y 155).cls = true := by decide +kernel
theorem mL_155 : am_mL 155 = 2 := by decide +kernel
theorem np_156 : am_np 156 = 0 := rfl
theorem ci_156 : am_ci 156 := ⟨by decide, by decide +kernel, by decide +kernel⟩
theorem rt_156 : am_rt 156 = none := by decide +kernel
theorem hh_156 : am_hh 156 = [] := by decide +kernel
theorem pn_156 : plainName (am_y 156).cls = true := by decide +kernel
theorem mL_156 : am_mL 156 = 1 := by decide +kernel
theorem np_157 : am_np 157 = 0 := rfl
theorem cv_157 : am_cv 157 (0, 11) := ⟨by decide, by decide +kernel, rfl, by decide, by decide +kernel⟩
theorem rt_157 (x : Int32) : am_rk 157 x := Or.inl (by decide +kernel)
theorem hh_157 : am_hh 157 = [] := by decide +kernel
theorem pn_157 : plainName (am_y 157).cls = true := by decide +kernel
theorem mL_157 : am_mL 157 = 1 := by decide +kernel
theorem np_158 : am_np 158 = 2 := rfl
theorem cv_158 : am_cv 158 (0, 11) := ⟨by decide, by decide +kernel, rfl, by decide, by decide +kernel⟩
theorem rt_158 (x : Int32) : am_rk 158 x = (x = nI 0 ∨ x = nI 1) := by
  rw [am_rk, show am_rt 158 = some .boolean by decide +kernel, nI_0]
  simp
  rfl
theorem hh_158 : am_hh 158 = [] := by decide +kernel
theorem pn_158 : plainName (am_y 158).cls = true := by decide +kernel
theorem mL_158 : am_mL 158 = 3 := by decide +kernel
theorem np_159 : am_np 159 = 3 := rfl
theorem cs_159 : am_cs 159 := ⟨by decide, by decide +kernel⟩
theorem rt_159 (x : Int32) : am_rk 159 x = (x = nI 0 ∨ x = nI 1) := by
  rw [am_rk, show am_rt 159 = some .boolean by decide +kernel, nI_0]
  simp
  rfl
theorem hh_159 : am_hh 159 = [] := by decide +kernel
theorem pn_159 : plainName (am_y 159).cls = true := by decide +kernel
theorem mL_159 : am_mL 159 = 3 := by decide +kernel
theorem np_160 : am_np 160 = 2 := rfl
theorem cv_160 : am_cv 160 (0, 11) := ⟨by decide, by decide +kernel, rfl, by decide, by decide +kernel⟩
theorem rt_160 : am_rt 160 = none := by decide +kernel
theorem hh_160 : am_hh 160 = [] := by decide +kernel
theorem pn_160 : plainName (am_y 160).cls = true := by decide +kernel
theorem mL_160 : am_mL 160 = 4 := by decide +kernel
theorem np_161 : am_np 161 = 1 := rfl
theorem cs_161 : am_cs 161 := ⟨by decide, by decide +kernel⟩
theorem rt_161 (x : Int32) : am_rk 161 x := Or.inl (by decide +kernel)
theorem hh_161 : am_hh 161 = [] := by decide +kernel
theorem pn_161 : plainName (am_y 161).cls = true := by decide +kernel
theorem mL_161 : am_mL 161 = 3 := by decide +kernel
theorem np_162 : am_np 162 = 5 := rfl
theorem cv_162 : am_cv 162 (0, 11) := ⟨by decide, by decide +kernel, rfl, by decide, by decide +kernel⟩
theorem rt_162 (x : Int32) : am_rk 162 x := Or.inl (by decide +kernel)
theorem hh_162 : am_hh 162 = [] := by decide +kernel
theorem pn_162 : plainName (am_y 162).cls = true := by decide +kernel
theorem mL_162 : am_mL 162 = 6 := by decide +kernel
theorem np_163 : am_np 163 = 1 := rfl
theorem cv_163 : am_cv 163 (0, 11) := ⟨by decide, by decide +kernel, rfl, by decide, by decide +kernel⟩
theorem rt_163 : am_rt 163 = none := by decide +kernel
theorem hh_163 : am_hh 163 = [] := by decide +kernel
theorem pn_163 : plainName (am_y 163).cls = true := by decide +kernel
theorem mL_163 : am_mL 163 = 3 := by decide +kernel
theorem np_164 : am_np 164 = 1 := rfl
theorem cv_164 : am_cv 164 (0, 11) := ⟨by decide, by decide +kernel, rfl, by decide, by decide +kernel⟩
theorem rt_164 (x : Int32) : am_rk 164 x := Or.inl (by decide +kernel)
theorem hh_164 : am_hh 164 = [] := by decide +kernel
theorem pn_164 : plainName (am_y 164).cls = true := by decide +kernel
theorem mL_164 : am_mL 164 = 2 := by decide +kernel
theorem np_165 : am_np 165 = 1 := rfl
theorem cs_165 : am_cs 165 := ⟨by decide, by decide +kernel⟩
theorem rt_165 (x : Int32) : am_rk 165 x = (x = nI 0 ∨ x = nI 1) := by
  rw [am_rk, show am_rt 165 = some .boolean by decide +kernel, nI_0]
  simp
  rfl
theorem hh_165 : am_hh 165 = [] := by decide +kernel
theorem pn_165 : plainName (am_y 165).cls = true := by decide +kernel
theorem mL_165 : am_mL 165 = 1 := by decide +kernel
theorem np_166 : am_np 166 = 1 := rfl
theorem cs_166 : am_cs 166 := ⟨by decide, by decide +kernel⟩
theorem rt_166 (x : Int32) : am_rk 166 x = (x = nI 0 ∨ x = nI 1) := by
  rw [am_rk, show am_rt 166 = some .boolean by decide +kernel, nI_0]
  simp
  rfl
theorem hh_166 : am_hh 166 = [] := by decide +kernel
theorem pn_166 : plainName (am_y 166).cls = true := by decide +kernel
theorem mL_166 : am_mL 166 = 1 := by decide +kernel
theorem np_167 : am_np 167 = 0 := rfl
theorem cv_167 : am_cv 167 (0, 11) := ⟨by decide, by decide +kernel, rfl, by decide, by decide +kernel⟩
theorem rt_167 : am_rt 167 = none := by decide +kernel
theorem hh_167 : am_hh 167 = [] := by decide +kernel
theorem pn_167 : plainName (am_y 167).cls = true := by decide +kernel
theorem mL_167 : am_mL 167 = 2 := by decide +kernel
theorem np_168 : am_np 168 = 6 := rfl
theorem cs_168 : am_cs 168 := ⟨by decide, by decide +kernel⟩
theorem rt_168 : am_rt 168 = some .long := by decide +kernel
theorem hh_168 : am_hh 168 = [] := by decide +kernel
theorem pn_168 : plainName (am_y 168).cls = true := by decide +kernel
theorem mL_168 : am_mL 168 = 8 := by decide +kernel
theorem np_169 : am_np 169 = 1 := rfl
theorem cs_169 : am_cs 169 := ⟨by decide, by decide +kernel⟩
theorem rt_169 : am_rt 169 = some .long := by decide +kernel
theorem hh_169 : am_hh 169 = [] := by decide +kernel
theorem pn_169 : plainName (am_y 169).cls = true := by decide +kernel
theorem mL_169 : am_mL 169 = 1 := by decide +kernel
theorem np_170 : am_np 170 = 0 := rfl
theorem cv_170 : am_cv 170 (0, 11) := ⟨by decide, by decide +kernel, rfl, by decide, by decide +kernel⟩
theorem rt_170 (x : Int32) : am_rk 170 x := Or.inl (by decide +kernel)
theorem hh_170 : am_hh 170 = [] := by decide +kernel
theorem pn_170 : plainName (am_y 170).cls = true := by decide +kernel
theorem mL_170 : am_mL 170 = 2 := by decide +kernel
theorem np_171 : am_np 171 = 1 := rfl
theorem cv_171 : am_cv 171 (0, 11) := ⟨by decide, by decide +kernel, rfl, by decide, by decide +kernel⟩
theorem rt_171 : am_rt 171 = none := by decide +kernel
theorem hh_171 : am_hh 171 = [] := by decide +kernel
theorem pn_171 : plainName (am_y 171).cls = true := by decide +kernel
theorem mL_171 : am_mL 171 = 2 := by decide +kernel
theorem np_172 : am_np 172 = 0 := rfl
theorem cv_172 : am_cv 172 (0, 11) := ⟨by decide, by decide +kernel, rfl, by decide, by decide +kernel⟩
theorem rt_172 (x : Int32) : am_rk 172 x = (x = nI 0 ∨ x = nI 1) := by
  rw [am_rk, show am_rt 172 = some .boolean by decide +kernel, nI_0]
  simp
  rfl
theorem hh_172 : am_hh 172 = [] := by decide +kernel
theorem pn_172 : plainName (am_y 172).cls = true := by decide +kernel
theorem mL_172 : am_mL 172 = 1 := by decide +kernel
theorem np_173 : am_np 173 = 1 := rfl
theorem cv_173 : am_cv 173 (0, 11) := ⟨by decide, by decide +kernel, rfl, by decide, by decide +kernel⟩
theorem rt_173 (x : Int32) : am_rk 173 x = (x = nI 0 ∨ x = nI 1) := by
  rw [am_rk, show am_rt 173 = some .boolean by decide +kernel, nI_0]
  simp
  rfl
theorem hh_173 : am_hh 173 = [] := by decide +kernel
theorem pn_173 : plainName (am_y 173).cls = true := by decide +kernel
theorem mL_173 : am_mL 173 = 2 := by decide +kernel
theorem np_174 : am_np 174 = 1 := rfl
theorem cv_174 : am_cv 174 (0, 11) := ⟨by decide, by decide +kernel, rfl, by decide, by decide +kernel⟩
theorem rt_174 : am_rt 174 = none := by decide +kernel
theorem hh_174 : am_hh 174 = [] := by decide +kernel
theorem pn_174 : plainName (am_y 174).cls = true := by decide +kernel
theorem mL_174 : am_mL 174 = 2 := by decide +kernel
theorem np_175 : am_np 175 = 2 := rfl
theorem cv_175 : am_cv 175 (0, 11) := ⟨by decide, by decide +kernel, rfl, by decide, by decide +kernel⟩
theorem rt_175 (x : Int32) : am_rk 175 x := Or.inl (by decide +kernel)
theorem hh_175 : am_hh 175 = [] := by decide +kernel
theorem pn_175 : plainName (am_y 175).cls = true := by decide +kernel
theorem mL_175 : am_mL 175 = 4 := by decide +kernel
theorem np_176 : am_np 176 = 0 := rfl
theorem cv_176 : am_cv 176 (0, 11) := ⟨by decide, by decide +kernel, rfl, by decide, by decide +kernel⟩
theorem rt_176 (x : Int32) : am_rk 176 x := Or.inl (by decide +kernel)
theorem hh_176 : am_hh 176 = [] := by decide +kernel
theorem pn_176 : plainName (am_y 176).cls = true := by decide +kernel
theorem mL_176 : am_mL 176 = 1 := by decide +kernel
theorem np_177 : am_np 177 = 1 := rfl
theorem cv_177 : am_cv 177 (0, 11) := ⟨by decide, by decide +kernel, rfl, by decide, by decide +kernel⟩
theorem rt_177 : am_rt 177 = none := by decide +kernel
theorem hh_177 : am_hh 177 = [] := by decide +kernel
theorem pn_177 : plainName (am_y 177).cls = true := by decide +kernel
theorem mL_177 : am_mL 177 = 2 := by decide +kernel
theorem np_178 : am_np 178 = 1 := rfl
theorem cs_178 : am_cs 178 := ⟨by decide, by decide +kernel⟩
theorem rt_178 (x : Int32) : am_rk 178 x = (x = nI 0 ∨ x = nI 1) := by
  rw [am_rk, show am_rt 178 = some .boolean by decide +kernel, nI_0]
  simp
  rfl
theorem hh_178 : am_hh 178 = [] := by decide +kernel
theorem pn_178 : plainName (am_y 178).cls = true := by decide +kernel
theorem mL_178 : am_mL 178 = 1 := by decide +kernel
theorem np_179 : am_np 179 = 1 := rfl
theorem cs_179 : am_cs 179 := ⟨by decide, by decide +kernel⟩
theorem rt_179 (x : Int32) : am_rk 179 x := Or.inl (by decide +kernel)
theorem hh_179 : am_hh 179 = [] := by decide +kernel
theorem pn_179 : plainName (am_y 179).cls = true := by decide +kernel
theorem mL_179 : am_mL 179 = 1 := by decide +kernel
theorem np_180 : am_np 180 = 1 := rfl
theorem cv_180 : am_cv 180 (0, 11) := ⟨by decide, by decide +kernel, rfl, by decide, by decide +kernel⟩
theorem rt_180 : am_rt 180 = none := by decide +kernel
theorem hh_180 : am_hh 180 = [] := by decide +kernel
theorem pn_180 : plainName (am_y 180).cls = true := by decide +kernel
theorem mL_180 : am_mL 180 = 2 := by decide +kernel
theorem np_181 : am_np 181 = 1 := rfl
theorem cv_181 : am_cv 181 (0, 11) := ⟨by decide, by decide +kernel, rfl, by decide, by decide +kernel⟩
theorem rt_181 : am_rt 181 = none := by decide +kernel
theorem hh_181 : am_hh 181 = [] := by decide +kernel
theorem pn_181 : plainName (am_y 181).cls = true := by decide +kernel
theorem mL_181 : am_mL 181 = 2 := by decide +kernel
theorem np_182 : am_np 182 = 0 := rfl
theorem cv_182 : am_cv 182 (0, 11) := ⟨by decide, by decide +kernel, rfl, by decide, by decide +kernel⟩
theorem rt_182 : am_rt 182 = none := by decide +kernel
theorem hh_182 : am_hh 182 = [] := by decide +kernel
theorem pn_182 : plainName (am_y 182).cls = true := by decide +kernel
theorem mL_182 : am_mL 182 = 2 := by decide +kernel
theorem np_183 : am_np 183 = 0 := rfl
theorem cv_183 : am_cv 183 (0, 11) := ⟨by decide, by decide +kernel, rfl, by decide, by decide +kernel⟩
theorem rt_183 : am_rt 183 = none := by decide +kernel
theorem hh_183 : am_hh 183 = [] := by decide +kernel
theorem pn_183 : plainName (am_y 183).cls = true := by decide +kernel
theorem mL_183 : am_mL 183 = 1 := by decide +kernel
theorem np_184 : am_np 184 = 1 := rfl
theorem cv_184 : am_cv 184 (0, 11) := ⟨by decide, by decide +kernel, rfl, by decide, by decide +kernel⟩
theorem rt_184 : am_rt 184 = none := by decide +kernel
theorem hh_184 : am_hh 184 = [] := by decide +kernel
theorem pn_184 : plainName (am_y 184).cls = true := by decide +kernel
theorem mL_184 : am_mL 184 = 5 := by decide +kernel
theorem np_185 : am_np 185 = 0 := rfl
theorem cv_185 : am_cv 185 (0, 11) := ⟨by decide, by decide +kernel, rfl, by decide, by decide +kernel⟩
theorem rt_185 (x : Int32) : am_rk 185 x = (x = nI 0 ∨ x = nI 1) := by
  rw [am_rk, show am_rt 185 = some .boolean by decide +kernel, nI_0]
  simp
  rfl
theorem hh_185 : am_hh 185 = [] := by decide +kernel
theorem pn_185 : plainName (am_y 185).cls = true := by decide +kernel
theorem mL_185 : am_mL 185 = 2 := by decide +kernel
theorem np_186 : am_np 186 = 0 := rfl
theorem cv_186 : am_cv 186 (0, 11) := ⟨by decide, by decide +kernel, rfl, by decide, by decide +kernel⟩
theorem rt_186 : am_rt 186 = none := by decide +kernel
theorem hh_186 : am_hh 186 = [] := by decide +kernel
theorem pn_186 : plainName (am_y 186).cls = true := by decide +kernel
theorem mL_186 : am_mL 186 = 1 := by decide +kernel
theorem np_187 : am_np 187 = 0 := rfl
theorem cv_187 : am_cv 187 (0, 11) := ⟨by decide, by decide +kernel, rfl, by decide, by decide +kernel⟩
theorem rt_187 : am_rt 187 = none := by decide +kernel
theorem hh_187 : am_hh 187 = [] := by decide +kernel
theorem pn_187 : plainName (am_y 187).cls = true := by decide +kernel
theorem mL_187 : am_mL 187 = 3 := by decide +kernel
theorem np_188 : am_np 188 = 0 := rfl
theorem cv_188 : am_cv 188 (0, 11) := ⟨by decide, by decide +kernel, rfl, by decide, by decide +kernel⟩
theorem rt_188 : am_rt 188 = none := by decide +kernel
theorem hh_188 : am_hh 188 = [] := by decide +kernel
theorem pn_188 : plainName (am_y 188).cls = true := by decide +kernel
theorem mL_188 : am_mL 188 = 4 := by decide +kernel
theorem np_189 : am_np 189 = 0 := rfl
theorem cv_189 : am_cv 189 (0, 11) := ⟨by decide, by decide +kernel, rfl, by decide, by decide +kernel⟩
theorem rt_189 : am_rt 189 = none := by decide +kernel
theorem hh_189 : am_hh 189 = [] := by decide +kernel
theorem pn_189 : plainName (am_y 189).cls = true := by decide +kernel
theorem mL_189 : am_mL 189 = 5 := by decide +kernel
theorem np_190 : am_np 190 = 0 := rfl
theorem cv_190 : am_cv 190 (0, 11) := ⟨by decide, by decide +kernel, rfl, by decide, by decide +kernel⟩
theorem rt_190 : am_rt 190 = none := by decide +kernel
theorem hh_190 : am_hh 190 = [] := by decide +kernel
theorem pn_190 : plainName (am_y 190).cls = true := by decide +kernel
theorem mL_190 : am_mL 190 = 2 := by decide +kernel
theorem np_191 : am_np 191 = 0 := rfl
theorem cv_191 : am_cv 191 (0, 11) := ⟨by decide, by decide +kernel, rfl, by decide, by decide +kernel⟩
theorem rt_191 : am_rt 191 = none := by decide +kernel
theorem hh_191 : am_hh 191 = [] := by decide +kernel
theorem pn_191 : plainName (am_y 191).cls = true := by decide +kernel
theorem mL_191 : am_mL 191 = 2 := by decide +kernel
theorem np_192 : am_np 192 = 1 := rfl
theorem cv_192 : am_cv 192 (0, 11) := ⟨by decide, by decide +kernel, rfl, by decide, by decide +kernel⟩
theorem rt_192 (x : Int32) : am_rk 192 x := Or.inl (by decide +kernel)
theorem hh_192 : am_hh 192 = [] := by decide +kernel
theorem pn_192 : plainName (am_y 192).cls = true := by decide +kernel
theorem mL_192 : am_mL 192 = 2 := by decide +kernel
theorem np_193 : am_np 193 = 0 := rfl
theorem cv_193 : am_cv 193 (0, 11) := ⟨by decide, by decide +kernel, rfl, by decide, by decide +kernel⟩
theorem rt_193 (x : Int32) : am_rk 193 x := Or.inl (by decide +kernel)
theorem hh_193 : am_hh 193 = [] := by decide +kernel
theorem pn_193 : plainName (am_y 193).cls = true := by decide +kernel
theorem mL_193 : am_mL 193 = 1 := by decide +kernel
theorem np_194 : am_np 194 = 0 := rfl
theorem cv_194 : am_cv 194 (0, 11) := ⟨by decide, by decide +kernel, rfl, by decide, by decide +kernel⟩
theorem rt_194 : am_rt 194 = none := by decide +kernel
theorem hh_194 : am_hh 194 = [] := by decide +kernel
theorem pn_194 : plainName (am_y 194).cls = true := by decide +kernel
theorem mL_194 : am_mL 194 = 2 := by decide +kernel
theorem np_195 : am_np 195 = 0 := rfl
theorem cv_195 : am_cv 195 (0, 11) := ⟨by decide, by decide +kernel, rfl, by decide, by decide +kernel⟩
theorem rt_195 : am_rt 195 = none := by decide +kernel
theorem hh_195 : am_hh 195 = [] := by decide +kernel
theorem pn_195 : plainName (am_y 195).cls = true := by decide +kernel
theorem mL_195 : am_mL 195 = 2 := by decide +kernel
theorem np_196 : am_np 196 = 1 := rfl
theorem cv_196 : am_cv 196 (0, 11) := ⟨by decide, by decide +kernel, rfl, by decide, by decide +kernel⟩
theorem rt_196 (x : Int32) : am_rk 196 x := Or.inl (by decide +kernel)
theorem hh_196 : am_hh 196 = [] := by decide +kernel
theorem pn_196 : plainName (am_y 196).cls = true := by decide +kernel
theorem mL_196 : am_mL 196 = 2 := by decide +kernel
theorem np_197 : am_np 197 = 0 := rfl
theorem cv_197 : am_cv 197 (0, 11) := ⟨by decide, by decide +kernel, rfl, by decide, by decide +kernel⟩
theorem rt_197 (x : Int32) : am_rk 197 x := Or.inl (by decide +kernel)
theorem hh_197 : am_hh 197 = [] := by decide +kernel
theorem pn_197 : plainName (am_y 197).cls = true := by decide +kernel
theorem mL_197 : am_mL 197 = 2 := by decide +kernel
theorem np_198 : am_np 198 = 1 := rfl
theorem cv_198 : am_cv 198 (0, 11) := ⟨by decide, by decide +kernel, rfl, by decide, by decide +kernel⟩
theorem rt_198 (x : Int32) : am_rk 198 x := Or.inl (by decide +kernel)
theorem hh_198 : am_hh 198 = [] := by decide +kernel
theorem pn_198 : plainName (am_y 198).cls = true := by decide +kernel
theorem mL_198 : am_mL 198 = 4 := by decide +kernel
theorem np_199 : am_np 199 = 3 := rfl
theorem cs_199 : am_cs 199 := ⟨by decide, by decide +kernel⟩
theorem rt_199 (x : Int32) : am_rk 199 x = (x = nI 0 ∨ x = nI 1) := by
  rw [am_rk, show am_rt 199 = some .boolean by decide +kernel, nI_0]
  simp
  rfl
theorem hh_199 : am_hh 199 = [] := by decide +kernel
theorem pn_199 : plainName (am_y 199).cls = true := by decide +kernel
theorem mL_199 : am_mL 199 = 3 := by decide +kernel
theorem np_200 : am_np 200 = 2 := rfl
theorem cv_200 : am_cv 200 (0, 11) := ⟨by decide, by decide +kernel, rfl, by decide, by decide +kernel⟩
theorem rt_200 (x : Int32) : am_rk 200 x := Or.inl (by decide +kernel)
theorem hh_200 : am_hh 200 = [] := by decide +kernel
theorem pn_200 : plainName (am_y 200).cls = true := by decide +kernel
theorem mL_200 : am_mL 200 = 5 := by decide +kernel
theorem np_201 : am_np 201 = 2 := rfl
theorem cv_201 : am_cv 201 (0, 11) := ⟨by decide, by decide +kernel, rfl, by decide, by decide +kernel⟩
theorem rt_201 (x : Int32) : am_rk 201 x := Or.inl (by decide +kernel)
theorem hh_201 : am_hh 201 = [] := by decide +kernel
theorem pn_201 : plainName (am_y 201).cls = true := by decide +kernel
theorem mL_201 : am_mL 201 = 5 := by decide +kernel
theorem np_202 : am_np 202 = 1 := rfl
theorem cv_202 : am_cv 202 (0, 11) := ⟨by decide, by decide +kernel, rfl, by decide, by decide +kernel⟩
theorem rt_202 (x : Int32) : am_rk 202 x := Or.inl (by decide +kernel)
theorem hh_202 : am_hh 202 = [] := by decide +kernel
theorem pn_202 : plainName (am_y 202).cls = true := by decide +kernel
theorem mL_202 : am_mL 202 = 4 := by decide +kernel
theorem np_203 : am_np 203 = 1 := rfl
theorem cv_203 : am_cv 203 (0, 11) := ⟨by decide, by decide +kernel, rfl, by decide, by decide +kernel⟩
theorem rt_203 (x : Int32) : am_rk 203 x := Or.inl (by decide +kernel)
theorem hh_203 : am_hh 203 = [] := by decide +kernel
theorem pn_203 : plainName (am_y 203).cls = true := by decide +kernel
theorem mL_203 : am_mL 203 = 2 := by decide +kernel
theorem np_204 : am_np 204 = 1 := rfl
theorem cv_204 : am_cv 204 (0, 11) := ⟨by decide, by decide +kernel, rfl, by decide, by decide +kernel⟩
theorem rt_204 (x : Int32) : am_rk 204 x = (x = nI 0 ∨ x = nI 1) := by
  rw [am_rk, show am_rt 204 = some .boolean by decide +kernel, nI_0]
  simp
  rfl
theorem hh_204 : am_hh 204 = [] := by decide +kernel
theorem pn_204 : plainName (am_y 204).cls = true := by decide +kernel
theorem mL_204 : am_mL 204 = 2 := by decide +kernel
theorem np_205 : am_np 205 = 1 := rfl
theorem cv_205 : am_cv 205 (0, 11) := ⟨by decide, by decide +kernel, rfl, by decide, by decide +kernel⟩
theorem rt_205 (x : Int32) : am_rk 205 x = (x = nI 0 ∨ x = nI 1) := by
  rw [am_rk, show am_rt 205 = some .boolean by decide +kernel, nI_0]
  simp
  rfl
theorem hh_205 : am_hh 205 = [] := by decide +kernel
theorem pn_205 : plainName (am_y 205).cls = true := by decide +kernel
theorem mL_205 : am_mL 205 = 2 := by decide +kernel
theorem np_206 : am_np 206 = 2 := rfl
theorem cv_206 : am_cv 206 (0, 11) := ⟨by decide, by decide +kernel, rfl, by decide, by decide +kernel⟩
theorem rt_206 (x : Int32) : am_rk 206 x = (x = nI 0 ∨ x = nI 1) := by
  rw [am_rk, show am_rt 206 = some .boolean by decide +kernel, nI_0]
  simp
  rfl
theorem hh_206 : am_hh 206 = [] := by decide +kernel
theorem pn_206 : plainName (am_y 206).cls = true := by decide +kernel
theorem mL_206 : am_mL 206 = 3 := by decide +kernel
theorem np_207 : am_np 207 = 2 := rfl
theorem cv_207 : am_cv 207 (0, 11) := ⟨by decide, by decide +kernel, rfl, by decide, by decide +kernel⟩
theorem rt_207 (x : Int32) : am_rk 207 x := Or.inl (by decide +kernel)
theorem hh_207 : am_hh 207 = [] := by decide +kernel
theorem pn_207 : plainName (am_y 207).cls = true := by decide +kernel
theorem mL_207 : am_mL 207 = 3 := by decide +kernel
theorem np_208 : am_np 208 = 2 := rfl
theorem cv_208 : am_cv 208 (0, 11) := ⟨by decide, by decide +kernel, rfl, by decide, by decide +kernel⟩
theorem rt_208 (x : Int32) : am_rk 208 x := Or.inl (by decide +kernel)
theorem hh_208 : am_hh 208 = [] := by decide +kernel
theorem pn_208 : plainName (am_y 208).cls = true := by decide +kernel
theorem mL_208 : am_mL 208 = 3 := by decide +kernel
theorem np_209 : am_np 209 = 2 := rfl
theorem cv_209 : am_cv 209 (0, 11) := ⟨by decide, by decide +kernel, rfl, by decide, by decide +kernel⟩
theorem rt_209 (x : Int32) : am_rk 209 x := Or.inl (by decide +kernel)
theorem hh_209 : am_hh 209 = [] := by decide +kernel
theorem pn_209 : plainName (am_y 209).cls = true := by decide +kernel
theorem mL_209 : am_mL 209 = 4 := by decide +kernel
theorem np_210 : am_np 210 = 3 := rfl
theorem cs_210 : am_cs 210 := ⟨by decide, by decide +kernel⟩
theorem rt_210 (x : Int32) : am_rk 210 x := Or.inl (by decide +kernel)
theorem hh_210 : am_hh 210 = [] := by decide +kernel
theorem pn_210 : plainName (am_y 210).cls = true := by decide +kernel
theorem mL_210 : am_mL 210 = 3 := by decide +kernel
theorem np_211 : am_np 211 = 0 := rfl
theorem cv_211 : am_cv 211 (0, 11) := ⟨by decide, by decide +kernel, rfl, by decide, by decide +kernel⟩
theorem rt_211 (x : Int32) : am_rk 211 x := Or.inl (by decide +kernel)
theorem hh_211 : am_hh 211 = [] := by decide +kernel
theorem pn_211 : plainName (am_y 211).cls = true := by decide +kernel
theorem mL_211 : am_mL 211 = 4 := by decide +kernel
theorem np_212 : am_np 212 = 6 := rfl
theorem cv_212 : am_cv 212 (0, 11) := ⟨by decide, by decide +kernel, rfl, by decide, by decide +kernel⟩
theorem rt_212 (x : Int32) : am_rk 212 x := Or.inl (by decide +kernel)
theorem hh_212 : am_hh 212 = [] := by decide +kernel
theorem pn_212 : plainName (am_y 212).cls = true := by decide +kernel
theorem mL_212 : am_mL 212 = 8 := by decide +kernel
theorem np_213 : am_np 213 = 4 := rfl
theorem cv_213 : am_cv 213 (0, 11) := ⟨by decide, by decide +kernel, rfl, by decide, by decide +kernel⟩
theorem rt_213 : am_rt 213 = none := by decide +kernel
theorem hh_213 : am_hh 213 = [] := by decide +kernel
theorem pn_213 : plainName (am_y 213).cls = true := by decide +kernel
theorem mL_213 : am_mL 213 = 8 := by decide +kernel
theorem np_214 : am_np 214 = 2 := rfl
theorem cv_214 : am_cv 214 (0, 11) := ⟨by decide, by decide +kernel, rfl, by decide, by decide +kernel⟩
theorem rt_214 (x : Int32) : am_rk 214 x := Or.inl (by decide +kernel)
theorem hh_214 : am_hh 214 = [] := by decide +kernel
theorem pn_214 : plainName (am_y 214).cls = true := by decide +kernel
theorem mL_214 : am_mL 214 = 5 := by decide +kernel
theorem np_215 : am_np 215 = 1 := rfl
theorem cv_215 : am_cv 215 (0, 11) := ⟨by decide, by decide +kernel, rfl, by decide, by decide +kernel⟩
theorem rt_215 : am_rt 215 = none := by decide +kernel
theorem hh_215 : am_hh 215 = [] := by decide +kernel
theorem pn_215 : plainName (am_y 215).cls = true := by decide +kernel
theorem mL_215 : am_mL 215 = 5 := by decide +kernel
theorem np_216 : am_np 216 = 1 := rfl
theorem cv_216 : am_cv 216 (0, 11) := ⟨by decide, by decide +kernel, rfl, by decide, by decide +kernel⟩
theorem rt_216 (x : Int32) : am_rk 216 x := Or.inl (by decide +kernel)
theorem hh_216 : am_hh 216 = [] := by decide +kernel
theorem pn_216 : plainName (am_y 216).cls = true := by decide +kernel
theorem mL_216 : am_mL 216 = 4 := by decide +kernel
theorem np_217 : am_np 217 = 3 := rfl
theorem cv_217 : am_cv 217 (0, 11) := ⟨by decide, by decide +kernel, rfl, by decide, by decide +kernel⟩
theorem rt_217 : am_rt 217 = none := by decide +kernel
theorem hh_217 : am_hh 217 = [] := by decide +kernel
theorem pn_217 : plainName (am_y 217).cls = true := by decide +kernel
theorem mL_217 : am_mL 217 = 4 := by decide +kernel
theorem np_218 : am_np 218 = 3 := rfl
theorem cv_218 : am_cv 218 (0, 11) := ⟨by decide, by decide +kernel, rfl, by decide, by decide +kernel⟩
theorem rt_218 : am_rt 218 = none := by decide +kernel
theorem hh_218 : am_hh 218 = [] := by decide +kernel
theorem pn_218 : plainName (am_y 218).cls = true := by decide +kernel
theorem mL_218 : am_mL 218 = 4 := by decide +kernel
theorem np_219 : am_np 219 = 2 := rfl
theorem cv_219 : am_cv 219 (0, 11) := ⟨by decide, by decide +kernel, rfl, by decide, by decide +kernel⟩
theorem rt_219 (x : Int32) : am_rk 219 x := Or.inl (by decide +kernel)
theorem hh_219 : am_hh 219 = [] := by decide +kernel
theorem pn_219 : plainName (am_y 219).cls = true := by decide +kernel
theorem mL_219 : am_mL 219 = 4 := by decide +kernel
theorem np_220 : am_np 220 = 2 := rfl
theorem cv_220 : am_cv 220 (0, 11) := ⟨by decide, by decide +kernel, rfl, by decide, by decide +kernel⟩
theorem rt_220 (x : Int32) : am_rk 220 x := Or.inl (by decide +kernel)
theorem hh_220 : am_hh 220 = [] := by decide +kernel
theorem pn_220 : plainName (am_y 220).cls = true := by decide +kernel
theorem mL_220 : am_mL 220 = 4 := by decide +kernel
theorem np_221 : am_np 221 = 3 := rfl
theorem cv_221 : am_cv 221 (0, 11) := ⟨by decide, by decide +kernel, rfl, by decide, by decide +kernel⟩
theorem rt_221 (x : Int32) : am_rk 221 x = (x = nI 0 ∨ x = nI 1) := by
  rw [am_rk, show am_rt 221 = some .boolean by decide +kernel, nI_0]
  simp
  rfl
theorem hh_221 : am_hh 221 = [] := by decide +kernel
theorem pn_221 : plainName (am_y 221).cls = true := by decide +kernel
theorem mL_221 : am_mL 221 = 4 := by decide +kernel
theorem np_222 : am_np 222 = 1 := rfl
theorem cv_222 : am_cv 222 (0, 11) := ⟨by decide, by decide +kernel, rfl, by decide, by decide +kernel⟩
theorem rt_222 (x : Int32) : am_rk 222 x := Or.inl (by decide +kernel)
theorem hh_222 : am_hh 222 = [] := by decide +kernel
theorem pn_222 : plainName (am_y 222).cls = true := by decide +kernel
theorem mL_222 : am_mL 222 = 4 := by decide +kernel
theorem np_223 : am_np 223 = 3 := rfl
theorem cv_223 : am_cv 223 (0, 11) := ⟨by decide, by decide +kernel, rfl, by decide, by decide +kernel⟩
theorem rt_223 (x : Int32) : am_rk 223 x = (x = nI 0 ∨ x = nI 1) := by
  rw [am_rk, show am_rt 223 = some .boolean by decide +kernel, nI_0]
  simp
  rfl
theorem hh_223 : am_hh 223 = [] := by decide +kernel
theorem pn_223 : plainName (am_y 223).cls = true := by decide +kernel
theorem mL_223 : am_mL 223 = 4 := by decide +kernel
theorem np_224 : am_np 224 = 0 := rfl
theorem cv_224 : am_cv 224 (0, 11) := ⟨by decide, by decide +kernel, rfl, by decide, by decide +kernel⟩
theorem rt_224 : am_rt 224 = none := by decide +kernel
theorem hh_224 : am_hh 224 = [] := by decide +kernel
theorem pn_224 : plainName (am_y 224).cls = true := by decide +kernel
theorem mL_224 : am_mL 224 = 1 := by decide +kernel
theorem np_225 : am_np 225 = 2 := rfl
theorem cv_225 : am_cv 225 (0, 11) := ⟨by decide, by decide +kernel, rfl, by decide, by decide +kernel⟩
theorem rt_225 (x : Int32) : am_rk 225 x := Or.inl (by decide +kernel)
theorem hh_225 : am_hh 225 = [] := by decide +kernel
theorem pn_225 : plainName (am_y 225).cls = true := by decide +kernel
theorem mL_225 : am_mL 225 = 4 := by decide +kernel
theorem np_226 : am_np 226 = 1 := rfl
theorem cv_226 : am_cv 226 (0, 11) := ⟨by decide, by decide +kernel, rfl, by decide, by decide +kernel⟩
theorem rt_226 (x : Int32) : am_rk 226 x := Or.inl (by decide +kernel)
theorem hh_226 : am_hh 226 = [] := by decide +kernel
theorem pn_226 : plainName (am_y 226).cls = true := by decide +kernel
theorem mL_226 : am_mL 226 = 4 := by decide +kernel
theorem np_227 : am_np 227 = 2 := rfl
theorem cv_227 : am_cv 227 (0, 11) := ⟨by decide, by decide +kernel, rfl, by decide, by decide +kernel⟩
theorem rt_227 (x : Int32) : am_rk 227 x := Or.inl (by decide +kernel)
theorem hh_227 : am_hh 227 = [] := by decide +kernel
theorem pn_227 : plainName (am_y 227).cls = true := by decide +kernel
theorem mL_227 : am_mL 227 = 8 := by decide +kernel
theorem np_228 : am_np 228 = 1 := rfl
theorem cv_228 : am_cv 228 (0, 11) := ⟨by decide, by decide +kernel, rfl, by decide, by decide +kernel⟩
theorem rt_228 (x : Int32) : am_rk 228 x := Or.inl (by decide +kernel)
theorem hh_228 : am_hh 228 = [] := by decide +kernel
theorem pn_228 : plainName (am_y 228).cls = true := by decide +kernel
theorem mL_228 : am_mL 228 = 2 := by decide +kernel
theorem np_229 : am_np 229 = 2 := rfl
theorem cv_229 : am_cv 229 (0, 11) := ⟨by decide, by decide +kernel, rfl, by decide, by decide +kernel⟩
theorem rt_229 (x : Int32) : am_rk 229 x := Or.inl (by decide +kernel)
theorem hh_229 : am_hh 229 = [] := by decide +kernel
theorem pn_229 : plainName (am_y 229).cls = true := by decide +kernel
theorem mL_229 : am_mL 229 = 4 := by decide +kernel
theorem np_230 : am_np 230 = 2 := rfl
theorem cv_230 : am_cv 230 (0, 11) := ⟨by decide, by decide +kernel, rfl, by decide, by decide +kernel⟩
theorem rt_230 (x : Int32) : am_rk 230 x := Or.inl (by decide +kernel)
theorem hh_230 : am_hh 230 = [] := by decide +kernel
theorem pn_230 : plainName (am_y 230).cls = true := by decide +kernel
theorem mL_230 : am_mL 230 = 5 := by decide +kernel
theorem np_231 : am_np 231 = 1 := rfl
theorem cv_231 : am_cv 231 (0, 11) := ⟨by decide, by decide +kernel, rfl, by decide, by decide +kernel⟩
theorem rt_231 (x : Int32) : am_rk 231 x := Or.inl (by decide +kernel)
theorem hh_231 : am_hh 231 = [] := by decide +kernel
theorem pn_231 : plainName (am_y 231).cls = true := by decide +kernel
theorem mL_231 : am_mL 231 = 4 := by decide +kernel
theorem np_232 : am_np 232 = 1 := rfl
theorem cv_232 : am_cv 232 (0, 11) := ⟨by decide, by decide +kernel, rfl, by decide, by decide +kernel⟩
theorem rt_232 (x : Int32) : am_rk 232 x := Or.inl (by decide +kernel)
theorem hh_232 : am_hh 232 = [] := by decide +kernel
theorem pn_232 : plainName (am_y 232).cls = true := by decide +kernel
theorem mL_232 : am_mL 232 = 3 := by decide +kernel
theorem np_233 : am_np 233 = 3 := rfl
theorem cv_233 : am_cv 233 (0, 11) := ⟨by decide, by decide +kernel, rfl, by decide, by decide +kernel⟩
theorem rt_233 (x : Int32) : am_rk 233 x := Or.inl (by decide +kernel)
theorem hh_233 : am_hh 233 = [] := by decide +kernel
theorem pn_233 : plainName (am_y 233).cls = true := by decide +kernel
theorem mL_233 : am_mL 233 = 5 := by decide +kernel
theorem np_234 : am_np 234 = 3 := rfl
theorem cv_234 : am_cv 234 (0, 11) := ⟨by decide, by decide +kernel, rfl, by decide, by decide +kernel⟩
theorem rt_234 (x : Int32) : am_rk 234 x := Or.inl (by decide +kernel)
theorem hh_234 : am_hh 234 = [] := by decide +kernel
theorem pn_234 : plainName (am_y 234).cls = true := by decide +kernel
theorem mL_234 : am_mL 234 = 5 := by decide +kernel
theorem np_235 : am_np 235 = 3 := rfl
theorem cv_235 : am_cv 235 (0, 11) := ⟨by decide, by decide +kernel, rfl, by decide, by decide +kernel⟩
theorem rt_235 (x : Int32) : am_rk 235 x := Or.inl (by decide +kernel)
theorem hh_235 : am_hh 235 = [] := by decide +kernel
theorem pn_235 : plainName (am_y 235).cls = true := by decide +kernel
theorem mL_235 : am_mL 235 = 10 := by decide +kernel
theorem np_236 : am_np 236 = 1 := rfl
theorem cv_236 : am_cv 236 (0, 11) := ⟨by decide, by decide +kernel, rfl, by decide, by decide +kernel⟩
theorem rt_236 (x : Int32) : am_rk 236 x := Or.inl (by decide +kernel)
theorem hh_236 : am_hh 236 = [] := by decide +kernel
theorem pn_236 : plainName (am_y 236).cls = true := by decide +kernel
theorem mL_236 : am_mL 236 = 2 := by decide +kernel
theorem np_237 : am_np 237 = 3 := rfl
theorem cv_237 : am_cv 237 (0, 11) := ⟨by decide, by decide +kernel, rfl, by decide, by decide +kernel⟩
theorem rt_237 (x : Int32) : am_rk 237 x := Or.inl (by decide +kernel)
theorem hh_237 : am_hh 237 = [] := by decide +kernel
theorem pn_237 : plainName (am_y 237).cls = true := by decide +kernel
theorem mL_237 : am_mL 237 = 8 := by decide +kernel
theorem np_238 : am_np 238 = 1 := rfl
theorem cv_238 : am_cv 238 (0, 11) := ⟨by decide, by decide +kernel, rfl, by decide, by decide +kernel⟩
theorem rt_238 (x : Int32) : am_rk 238 x := Or.inl (by decide +kernel)
theorem hh_238 : am_hh 238 = [] := by decide +kernel
theorem pn_238 : plainName (am_y 238).cls = true := by decide +kernel
theorem mL_238 : am_mL 238 = 4 := by decide +kernel
theorem np_239 : am_np 239 = 2 := rfl
theorem cv_239 : am_cv 239 (0, 11) := ⟨by decide, by decide +kernel, rfl, by decide, by decide +kernel⟩
theorem rt_239 (x : Int32) : am_rk 239 x := Or.inl (by decide +kernel)
theorem hh_239 : am_hh 239 = [] := by decide +kernel
theorem pn_239 : plainName (am_y 239).cls = true := by decide +kernel
theorem mL_239 : am_mL 239 = 8 := by decide +kernel
theorem np_240 : am_np 240 = 1 := rfl
theorem cv_240 : am_cv 240 (0, 11) := ⟨by decide, by decide +kernel, rfl, by decide, by decide +kernel⟩
theorem rt_240 (x : Int32) : am_rk 240 x := Or.inl (by decide +kernel)
theorem hh_240 : am_hh 240 = [] := by decide +kernel
theorem pn_240 : plainName (am_y 240).cls = true := by decide +kernel
theorem mL_240 : am_mL 240 = 2 := by decide +kernel
theorem np_241 : am_np 241 = 1 := rfl
theorem cv_241 : am_cv 241 (0, 11) := ⟨by decide, by decide +kernel, rfl, by decide, by decide +kernel⟩
theorem rt_241 (x : Int32) : am_rk 241 x := Or.inl (by decide +kernel)
theorem hh_241 : am_hh 241 = [] := by decide +kernel
theorem pn_241 : plainName (am_y 241).cls = true := by decide +kernel
theorem mL_241 : am_mL 241 = 6 := by decide +kernel
theorem np_242 : am_np 242 = 2 := rfl
theorem cv_242 : am_cv 242 (0, 11) := ⟨by decide, by decide +kernel, rfl, by decide, by decide +kernel⟩
theorem rt_242 (x : Int32) : am_rk 242 x := Or.inl (by decide +kernel)
theorem hh_242 : am_hh 242 = [] := by decide +kernel
theorem pn_242 : plainName (am_y 242).cls = true := by decide +kernel
theorem mL_242 : am_mL 242 = 5 := by decide +kernel
theorem np_243 : am_np 243 = 2 := rfl
theorem cv_243 : am_cv 243 (0, 11) := ⟨by decide, by decide +kernel, rfl, by decide, by decide +kernel⟩
theorem rt_243 (x : Int32) : am_rk 243 x := Or.inl (by decide +kernel)
theorem hh_243 : am_hh 243 = [] := by decide +kernel
theorem pn_243 : plainName (am_y 243).cls = true := by decide +kernel
theorem mL_243 : am_mL 243 = 3 := by decide +kernel
theorem np_244 : am_np 244 = 1 := rfl
theorem cv_244 : am_cv 244 (0, 11) := ⟨by decide, by decide +kernel, rfl, by decide, by decide +kernel⟩
theorem rt_244 (x : Int32) : am_rk 244 x := Or.inl (by decide +kernel)
theorem hh_244 : am_hh 244 = [] := by decide +kernel
theorem pn_244 : plainName (am_y 244).cls = true := by decide +kernel
theorem mL_244 : am_mL 244 = 10 := by decide +kernel
theorem np_245 : am_np 245 = 1 := rfl
theorem cv_245 : am_cv 245 (0, 11) := ⟨by decide, by decide +kernel, rfl, by decide, by decide +kernel⟩
theorem rt_245 (x : Int32) : am_rk 245 x := Or.inl (by decide +kernel)
theorem hh_245 : am_hh 245 = [] := by decide +kernel
theorem pn_245 : plainName (am_y 245).cls = true := by decide +kernel
theorem mL_245 : am_mL 245 = 5 := by decide +kernel
theorem np_246 : am_np 246 = 2 := rfl
theorem cv_246 : am_cv 246 (0, 11) := ⟨by decide, by decide +kernel, rfl, by decide, by decide +kernel⟩
theorem rt_246 (x : Int32) : am_rk 246 x = (x = nI 0 ∨ x = nI 1) := by
  rw [am_rk, show am_rt 246 = some .boolean by decide +kernel, nI_0]
  simp
  rfl
theorem hh_246 : am_hh 246 = [] := by decide +kernel
theorem pn_246 : plainName (am_y 246).cls = true := by decide +kernel
theorem mL_246 : am_mL 246 = 7 := by decide +kernel
theorem np_247 : am_np 247 = 2 := rfl
theorem cv_247 : am_cv 247 (0, 11) := ⟨by decide, by decide +kernel, rfl, by decide, by decide +kernel⟩
theorem rt_247 (x : Int32) : am_rk 247 x := Or.inl (by decide +kernel)
theorem hh_247 : am_hh 247 = [] := by decide +kernel
theorem pn_247 : plainName (am_y 247).cls = true := by decide +kernel
theorem mL_247 : am_mL 247 = 5 := by decide +kernel
theorem np_248 : am_np 248 = 1 := rfl
theorem cv_248 : am_cv 248 (0, 11) := ⟨by decide, by decide +kernel, rfl, by decide, by decide +kernel⟩
theorem rt_248 (x : Int32) : am_rk 248 x = (x = nI 0 ∨ x = nI 1) := by
  rw [am_rk, show am_rt 248 = some .boolean by decide +kernel, nI_0]
  simp
  rfl
theorem hh_248 : am_hh 248 = [] := by decide +kernel
theorem pn_248 : plainName (am_y 248).cls = true := by decide +kernel
theorem mL_248 : am_mL 248 = 2 := by decide +kernel
theorem np_249 : am_np 249 = 1 := rfl
theorem cv_249 : am_cv 249 (0, 11) := ⟨by decide, by decide +kernel, rfl, by decide, by decide +kernel⟩
theorem rt_249 (x : Int32) : am_rk 249 x := Or.inl (by decide +kernel)
theorem hh_249 : am_hh 249 = [] := by decide +kernel
theorem pn_249 : plainName (am_y 249).cls = true := by decide +kernel
theorem mL_249 : am_mL 249 = 2 := by decide +kernel
theorem np_250 : am_np 250 = 1 := rfl
theorem cv_250 : am_cv 250 (0, 11) := ⟨by decide, by decide +kernel, rfl, by decide, by decide +kernel⟩
theorem rt_250 (x : Int32) : am_rk 250 x := Or.inl (by decide +kernel)
theorem hh_250 : am_hh 250 = [] := by decide +kernel
theorem pn_250 : plainName (am_y 250).cls = true := by decide +kernel
theorem mL_250 : am_mL 250 = 6 := by decide +kernel
theorem np_251 : am_np 251 = 3 := rfl
theorem cv_251 : am_cv 251 (0, 11) := ⟨by decide, by decide +kernel, rfl, by decide, by decide +kernel⟩
theorem rt_251 (x : Int32) : am_rk 251 x := Or.inl (by decide +kernel)
theorem hh_251 : am_hh 251 = [] := by decide +kernel
theorem pn_251 : plainName (am_y 251).cls = true := by decide +kernel
theorem mL_251 : am_mL 251 = 4 := by decide +kernel
theorem np_252 : am_np 252 = 0 := rfl
theorem cv_252 : am_cv 252 (0, 11) := ⟨by decide, by decide +kernel, rfl, by decide, by decide +kernel⟩
theorem rt_252 : am_rt 252 = none := by decide +kernel
theorem hh_252 : am_hh 252 = [] := by decide +kernel
theorem pn_252 : plainName (am_y 252).cls = true := by decide +kernel
theorem mL_252 : am_mL 252 = 1 := by decide +kernel
theorem np_253 : am_np 253 = 2 := rfl
theorem cv_253 : am_cv 253 (0, 11) := ⟨by decide, by decide +kernel, rfl, by decide, by decide +kernel⟩
theorem rt_253 (x : Int32) : am_rk 253 x = (x = nI 0 ∨ x = nI 1) := by
  rw [am_rk, show am_rt 253 = some .boolean by decide +kernel, nI_0]
  simp
  rfl
theorem hh_253 : am_hh 253 = [] := by decide +kernel
theorem pn_253 : plainName (am_y 253).cls = true := by decide +kernel
theorem mL_253 : am_mL 253 = 5 := by decide +kernel
theorem np_254 : am_np 254 = 2 := rfl
theorem cv_254 : am_cv 254 (0, 11) := ⟨by decide, by decide +kernel, rfl, by decide, by decide +kernel⟩
theorem rt_254 (x : Int32) : am_rk 254 x := Or.inl (by decide +kernel)
theorem hh_254 : am_hh 254 = [] := by decide +kernel
theorem pn_254 : plainName (am_y 254).cls = true := by decide +kernel
theorem mL_254 : am_mL 254 = 6 := by decide +kernel
theorem np_255 : am_np 255 = 2 := rfl
theorem cv_255 : am_cv 255 (0, 11) := ⟨by decide, by decide +kernel, rfl, by decide, by decide +kernel⟩
theorem rt_255 (x : Int32) : am_rk 255 x := Or.inl (by decide +kernel)
theorem hh_255 : am_hh 255 = [] := by decide +kernel
theorem pn_255 : plainName (am_y 255).cls = true := by decide +kernel
theorem mL_255 : am_mL 255 = 3 := by decide +kernel
theorem np_256 : am_np 256 = 0 := rfl
theorem cv_256 : am_cv 256 (0, 11) := ⟨by decide, by decide +kernel, rfl, by decide, by decide +kernel⟩
theorem rt_256 (x : Int32) : am_rk 256 x := Or.inl (by decide +kernel)
theorem hh_256 : am_hh 256 = [] := by decide +kernel
theorem pn_256 : plainName (am_y 256).cls = true := by decide +kernel
theorem mL_256 : am_mL 256 = 3 := by decide +kernel
theorem np_257 : am_np 257 = 2 := rfl
theorem cv_257 : am_cv 257 (0, 11) := ⟨by decide, by decide +kernel, rfl, by decide, by decide +kernel⟩
theorem rt_257 (x : Int32) : am_rk 257 x := Or.inl (by decide +kernel)
theorem hh_257 : am_hh 257 = [] := by decide +kernel
theorem pn_257 : plainName (am_y 257).cls = true := by decide +kernel
theorem mL_257 : am_mL 257 = 4 := by decide +kernel
theorem np_258 : am_np 258 = 1 := rfl
theorem cv_258 : am_cv 258 (0, 11) := ⟨by decide, by decide +kernel, rfl, by decide, by decide +kernel⟩
theorem rt_258 (x : Int32) : am_rk 258 x := Or.inl (by decide +kernel)
theorem hh_258 : am_hh 258 = [] := by decide +kernel
theorem pn_258 : plainName (am_y 258).cls = true := by decide +kernel
theorem mL_258 : am_mL 258 = 4 := by decide +kernel
theorem np_259 : am_np 259 = 3 := rfl
theorem cv_259 : am_cv 259 (0, 11) := ⟨by decide, by decide +kernel, rfl, by decide, by decide +kernel⟩
theorem rt_259 (x : Int32) : am_rk 259 x := Or.inl (by decide +kernel)
theorem hh_259 : am_hh 259 = [] := by decide +kernel
theorem pn_259 : plainName (am_y 259).cls = true := by decide +kernel
theorem mL_259 : am_mL 259 = 5 := by decide +kernel
theorem np_260 : am_np 260 = 1 := rfl
theorem cv_260 : am_cv 260 (0, 11) := ⟨by decide, by decide +kernel, rfl, by decide, by decide +kernel⟩
theorem rt_260 (x : Int32) : am_rk 260 x := Or.inl (by decide +kernel)
theorem hh_260 : am_hh 260 = [] := by decide +kernel
theorem pn_260 : plainName (am_y 260).cls = true := by decide +kernel
theorem mL_260 : am_mL 260 = 8 := by decide +kernel
theorem np_261 : am_np 261 = 1 := rfl
theorem cv_261 : am_cv 261 (0, 11) := ⟨by decide, by decide +kernel, rfl, by decide, by decide +kernel⟩
theorem rt_261 (x : Int32) : am_rk 261 x := Or.inl (by decide +kernel)
theorem hh_261 : am_hh 261 = [] := by decide +kernel
theorem pn_261 : plainName (am_y 261).cls = true := by decide +kernel
theorem mL_261 : am_mL 261 = 3 := by decide +kernel
theorem np_262 : am_np 262 = 1 := rfl
theorem cv_262 : am_cv 262 (0, 11) := ⟨by decide, by decide +kernel, rfl, by decide, by decide +kernel⟩
theorem rt_262 (x : Int32) : am_rk 262 x := Or.inl (by decide +kernel)
theorem hh_262 : am_hh 262 = [] := by decide +kernel
theorem pn_262 : plainName (am_y 262).cls = true := by decide +kernel
theorem mL_262 : am_mL 262 = 2 := by decide +kernel
theorem np_263 : am_np 263 = 3 := rfl
theorem cv_263 : am_cv 263 (0, 11) := ⟨by decide, by decide +kernel, rfl, by decide, by decide +kernel⟩
theorem rt_263 : am_rt 263 = none := by decide +kernel
theorem hh_263 : am_hh 263 = [] := by decide +kernel
theorem pn_263 : plainName (am_y 263).cls = true := by decide +kernel
theorem mL_263 : am_mL 263 = 5 := by decide +kernel
theorem np_264 : am_np 264 = 3 := rfl
theorem cv_264 : am_cv 264 (0, 11) := ⟨by decide, by decide +kernel, rfl, by decide, by decide +kernel⟩
theorem rt_264 (x : Int32) : am_rk 264 x := Or.inl (by decide +kernel)
theorem hh_264 : am_hh 264 = [] := by decide +kernel
theorem pn_264 : plainName (am_y 264).cls = true := by decide +kernel
theorem mL_264 : am_mL 264 = 8 := by decide +kernel
theorem np_265 : am_np 265 = 0 := rfl
theorem cv_265 : am_cv 265 (0, 11) := ⟨by decide, by decide +kernel, rfl, by decide, by decide +kernel⟩
theorem rt_265 : am_rt 265 = none := by decide +kernel
theorem hh_265 : am_hh 265 = [] := by decide +kernel
theorem pn_265 : plainName (am_y 265).cls = true := by decide +kernel
theorem mL_265 : am_mL 265 = 1 := by decide +kernel
theorem np_266 : am_np 266 = 0 := rfl
theorem cv_266 : am_cv 266 (0, 11) := ⟨by decide, by decide +kernel, rfl, by decide, by decide +kernel⟩
theorem rt_266 (x : Int32) : am_rk 266 x = (x = nI 0 ∨ x = nI 1) := by
  rw [am_rk, show am_rt 266 = some .boolean by decide +kernel, nI_0]
  simp
  rfl
theorem hh_266 : am_hh 266 = [] := by decide +kernel
theorem pn_266 : plainName (am_y 266).cls = true := by decide +kernel
theorem mL_266 : am_mL 266 = 1 := by decide +kernel
theorem np_267 : am_np 267 = 1 := rfl
theorem cs_267 : am_cs 267 := ⟨by decide, by decide +kernel⟩
theorem rt_267 (x : Int32) : am_rk 267 x := Or.inl (by decide +kernel)
theorem hh_267 : am_hh 267 = [] := by decide +kernel
theorem pn_267 : plainName (am_y 267).cls = true := by decide +kernel
theorem mL_267 : am_mL 267 = 2 := by decide +kernel
theorem np_268 : am_np 268 = 1 := rfl
theorem cs_268 : am_cs 268 := ⟨by decide, by decide +kernel⟩
theorem rt_268 (x : Int32) : am_rk 268 x := Or.inl (by decide +kernel)
theorem hh_268 : am_hh 268 = [] := by decide +kernel
theorem pn_268 : plainName (am_y 268).cls = true := by decide +kernel
theorem mL_268 : am_mL 268 = 1 := by decide +kernel
theorem np_269 : am_np 269 = 2 := rfl
theorem rt_269 (x : Int32) : am_rk 269 x := Or.inl (by decide +kernel)
theorem hh_269 : am_hh 269 = [] := by decide +kernel
theorem mL_269 : am_mL 269 = 2 := by decide +kernel
theorem np_270 : am_np 270 = 2 := rfl
theorem rt_270 (x : Int32) : am_rk 270 x := Or.inl (by decide +kernel)
theorem hh_270 : am_hh 270 = [] := by decide +kernel
theorem mL_270 : am_mL 270 = 2 := by decide +kernel
theorem np_271 : am_np 271 = 2 := rfl
theorem cs_271 : am_cs 271 := ⟨by decide, by decide +kernel⟩
theorem rt_271 : am_rt 271 = none := by decide +kernel
theorem hh_271 : am_hh 271 = [] := by decide +kernel
theorem pn_271 : plainName (am_y 271).cls = true := by decide +kernel
theorem mL_271 : am_mL 271 = 4 := by decide +kernel
theorem np_272 : am_np 272 = 3 := rfl
theorem cs_272 : am_cs 272 := ⟨by decide, by decide +kernel⟩
theorem rt_272 (x : Int32) : am_rk 272 x := Or.inl (by decide +kernel)
theorem pn_272 : plainName (am_y 272).cls = true := by decide +kernel
theorem mL_272 : am_mL 272 = 4 := by decide +kernel
theorem np_273 : am_np 273 = 3 := rfl
theorem cs_273 : am_cs 273 := ⟨by decide, by decide +kernel⟩
theorem rt_273 (x : Int32) : am_rk 273 x := Or.inl (by decide +kernel)
theorem pn_273 : plainName (am_y 273).cls = true := by decide +kernel
theorem mL_273 : am_mL 273 = 4 := by decide +kernel
theorem np_274 : am_np 274 = 4 := rfl
theorem cs_274 : am_cs 274 := ⟨by decide, by decide +kernel⟩
theorem rt_274 (x : Int32) : am_rk 274 x := Or.inl (by decide +kernel)
theorem pn_274 : plainName (am_y 274).cls = true := by decide +kernel
theorem mL_274 : am_mL 274 = 5 := by decide +kernel
theorem np_275 : am_np 275 = 4 := rfl
theorem cs_275 : am_cs 275 := ⟨by decide, by decide +kernel⟩
theorem rt_275 (x : Int32) : am_rk 275 x := Or.inl (by decide +kernel)
theorem pn_275 : plainName (am_y 275).cls = true := by decide +kernel
theorem mL_275 : am_mL 275 = 5 := by decide +kernel
theorem np_276 : am_np 276 = 4 := rfl
theorem cs_276 : am_cs 276 := ⟨by decide, by decide +kernel⟩
theorem rt_276 (x : Int32) : am_rk 276 x := Or.inl (by decide +kernel)
theorem pn_276 : plainName (am_y 276).cls = true := by decide +kernel
theorem mL_276 : am_mL 276 = 5 := by decide +kernel
theorem np_277 : am_np 277 = 4 := rfl
theorem cs_277 : am_cs 277 := ⟨by decide, by decide +kernel⟩
theorem rt_277 (x : Int32) : am_rk 277 x := Or.inl (by decide +kernel)
theorem pn_277 : plainName (am_y 277).cls = true := by decide +kernel
theorem mL_277 : am_mL 277 = 5 := by decide +kernel
theorem np_278 : am_np 278 = 4 := rfl
theorem cs_278 : am_cs 278 := ⟨by decide, by decide +kernel⟩
theorem rt_278 (x : Int32) : am_rk 278 x := Or.inl (by decide +kernel)
theorem pn_278 : plainName (am_y 278).cls = true := by decide +kernel
theorem mL_278 : am_mL 278 = 5 := by decide +kernel
theorem np_279 : am_np 279 = 5 := rfl
theorem cs_279 : am_cs 279 := ⟨by decide, by decide +kernel⟩
theorem rt_279 (x : Int32) : am_rk 279 x := Or.inl (by decide +kernel)
theorem pn_279 : plainName (am_y 279).cls = true := by decide +kernel
theorem mL_279 : am_mL 279 = 6 := by decide +kernel
theorem np_280 : am_np 280 = 4 := rfl
theorem cs_280 : am_cs 280 := ⟨by decide, by decide +kernel⟩
theorem rt_280 (x : Int32) : am_rk 280 x := Or.inl (by decide +kernel)
theorem pn_280 : plainName (am_y 280).cls = true := by decide +kernel
theorem mL_280 : am_mL 280 = 5 := by decide +kernel
theorem np_281 : am_np 281 = 4 := rfl
theorem cs_281 : am_cs 281 := ⟨by decide, by decide +kernel⟩
theorem rt_281 (x : Int32) : am_rk 281 x := Or.inl (by decide +kernel)
theorem pn_281 : plainName (am_y 281).cls = true := by decide +kernel
theorem mL_281 : am_mL 281 = 5 := by decide +kernel
theorem np_282 : am_np 282 = 5 := rfl
theorem cs_282 : am_cs 282 := ⟨by decide, by decide +kernel⟩
theorem rt_282 (x : Int32) : am_rk 282 x := Or.inl (by decide +kernel)
theorem pn_282 : plainName (am_y 282).cls = true := by decide +kernel
theorem mL_282 : am_mL 282 = 6 := by decide +kernel
theorem np_283 : am_np 283 = 5 := rfl
theorem cs_283 : am_cs 283 := ⟨by decide, by decide +kernel⟩
theorem rt_283 (x : Int32) : am_rk 283 x := Or.inl (by decide +kernel)
theorem pn_283 : plainName (am_y 283).cls = true := by decide +kernel
theorem mL_283 : am_mL 283 = 6 := by decide +kernel
theorem np_284 : am_np 284 = 3 := rfl
theorem cs_284 : am_cs 284 := ⟨by decide, by decide +kernel⟩
theorem rt_284 (x : Int32) : am_rk 284 x := Or.inl (by decide +kernel)
theorem pn_284 : plainName (am_y 284).cls = true := by decide +kernel
theorem mL_284 : am_mL 284 = 4 := by decide +kernel
theorem np_285 : am_np 285 = 5 := rfl
theorem cs_285 : am_cs 285 := ⟨by decide, by decide +kernel⟩
theorem rt_285 (x : Int32) : am_rk 285 x := Or.inl (by decide +kernel)
theorem pn_285 : plainName (am_y 285).cls = true := by decide +kernel
theorem mL_285 : am_mL 285 = 6 := by decide +kernel
theorem np_286 : am_np 286 = 4 := rfl
theorem cs_286 : am_cs 286 := ⟨by decide, by decide +kernel⟩
theorem rt_286 (x : Int32) : am_rk 286 x := Or.inl (by decide +kernel)
theorem pn_286 : plainName (am_y 286).cls = true := by decide +kernel
theorem mL_286 : am_mL 286 = 5 := by decide +kernel
theorem np_287 : am_np 287 = 3 := rfl
theorem cs_287 : am_cs 287 := ⟨by decide, by decide +kernel⟩
theorem rt_287 (x : Int32) : am_rk 287 x := Or.inl (by decide +kernel)
theorem pn_287 : plainName (am_y 287).cls = true := by decide +kernel
theorem mL_287 : am_mL 287 = 4 := by decide +kernel
theorem np_288 : am_np 288 = 4 := rfl
theorem cs_288 : am_cs 288 := ⟨by decide, by decide +kernel⟩
theorem rt_288 (x : Int32) : am_rk 288 x := Or.inl (by decide +kernel)
theorem pn_288 : plainName (am_y 288).cls = true := by decide +kernel
theorem mL_288 : am_mL 288 = 5 := by decide +kernel
theorem np_289 : am_np 289 = 3 := rfl
theorem cs_289 : am_cs 289 := ⟨by decide, by decide +kernel⟩
theorem rt_289 (x : Int32) : am_rk 289 x := Or.inl (by decide +kernel)
theorem pn_289 : plainName (am_y 289).cls = true := by decide +kernel
theorem mL_289 : am_mL 289 = 4 := by decide +kernel
theorem np_290 : am_np 290 = 3 := rfl
theorem cs_290 : am_cs 290 := ⟨by decide, by decide +kernel⟩
theorem rt_290 (x : Int32) : am_rk 290 x := Or.inl (by decide +kernel)
theorem pn_290 : plainName (am_y 290).cls = true := by decide +kernel
theorem mL_290 : am_mL 290 = 4 := by decide +kernel
theorem np_291 : am_np 291 = 3 := rfl
theorem cs_291 : am_cs 291 := ⟨by decide, by decide +kernel⟩
theorem rt_291 (x : Int32) : am_rk 291 x := Or.inl (by decide +kernel)
theorem pn_291 : plainName (am_y 291).cls = true := by decide +kernel
theorem mL_291 : am_mL 291 = 4 := by decide +kernel
theorem np_292 : am_np 292 = 3 := rfl
theorem cs_292 : am_cs 292 := ⟨by decide, by decide +kernel⟩
theorem rt_292 (x : Int32) : am_rk 292 x := Or.inl (by decide +kernel)
theorem pn_292 : plainName (am_y 292).cls = true := by decide +kernel
theorem mL_292 : am_mL 292 = 4 := by decide +kernel
theorem np_293 : am_np 293 = 3 := rfl
theorem cs_293 : am_cs 293 := ⟨by decide, by decide +kernel⟩
theorem rt_293 (x : Int32) : am_rk 293 x := Or.inl (by decide +kernel)
theorem pn_293 : plainName (am_y 293).cls = true := by decide +kernel
theorem mL_293 : am_mL 293 = 4 := by decide +kernel
theorem np_294 : am_np 294 = 5 := rfl
theorem cs_294 : am_cs 294 := ⟨by decide, by decide +kernel⟩
theorem rt_294 (x : Int32) : am_rk 294 x := Or.inl (by decide +kernel)
theorem pn_294 : plainName (am_y 294).cls = true := by decide +kernel
theorem mL_294 : am_mL 294 = 6 := by decide +kernel
theorem np_295 : am_np 295 = 4 := rfl
theorem cs_295 : am_cs 295 := ⟨by decide, by decide +kernel⟩
theorem rt_295 (x : Int32) : am_rk 295 x := Or.inl (by decide +kernel)
theorem pn_295 : plainName (am_y 295).cls = true := by decide +kernel
theorem mL_295 : am_mL 295 = 5 := by decide +kernel
theorem np_296 : am_np 296 = 3 := rfl
theorem cs_296 : am_cs 296 := ⟨by decide, by decide +kernel⟩
theorem rt_296 (x : Int32) : am_rk 296 x := Or.inl (by decide +kernel)
theorem pn_296 : plainName (am_y 296).cls = true := by decide +kernel
theorem mL_296 : am_mL 296 = 4 := by decide +kernel
theorem np_297 : am_np 297 = 3 := rfl
theorem cs_297 : am_cs 297 := ⟨by decide, by decide +kernel⟩
theorem rt_297 (x : Int32) : am_rk 297 x := Or.inl (by decide +kernel)
theorem pn_297 : plainName (am_y 297).cls = true := by decide +kernel
theorem mL_297 : am_mL 297 = 4 := by decide +kernel
theorem np_298 : am_np 298 = 5 := rfl
theorem cs_298 : am_cs 298 := ⟨by decide, by decide +kernel⟩
theorem rt_298 (x : Int32) : am_rk 298 x := Or.inl (by decide +kernel)
theorem pn_298 : plainName (am_y 298).cls = true := by decide +kernel
theorem mL_298 : am_mL 298 = 6 := by decide +kernel
theorem np_299 : am_np 299 = 3 := rfl
theorem cs_299 : am_cs 299 := ⟨by decide, by decide +kernel⟩
theorem rt_299 (x : Int32) : am_rk 299 x := Or.inl (by decide +kernel)
theorem pn_299 : plainName (am_y 299).cls = true := by decide +kernel
theorem mL_299 : am_mL 299 = 4 := by decide +kernel
theorem np_300 : am_np 300 = 4 := rfl
theorem cs_300 : am_cs 300 := ⟨by decide, by decide +kernel⟩
theorem rt_300 (x : Int32) : am_rk 300 x := Or.inl (by decide +kernel)
theorem pn_300 : plainName (am_y 300).cls = true := by decide +kernel
theorem mL_300 : am_mL 300 = 5 := by decide +kernel
theorem np_301 : am_np 301 = 3 := rfl
theorem cs_301 : am_cs 301 := ⟨by decide, by decide +kernel⟩
theorem rt_301 (x : Int32) : am_rk 301 x := Or.inl (by decide +kernel)
theorem pn_301 : plainName (am_y 301).cls = true := by decide +kernel
theorem mL_301 : am_mL 301 = 4 := by decide +kernel
theorem np_302 : am_np 302 = 1 := rfl
theorem rt_302 (x : Int32) : am_rk 302 x = (x = nI 0 ∨ x = nI 1) := by
  rw [am_rk, show am_rt 302 = some .boolean by decide +kernel, nI_0]
  simp
  rfl
theorem hh_302 : am_hh 302 = [] := by decide +kernel
theorem pn_302 : plainName (am_y 302).cls = true := by decide +kernel

/-! printed: the heap behind both constructors: its layout, its references -/
def zLAY : List (Nat × Nat) := [(0, 11), (2, 1600), (0, 10), (1, 40), (1, 24), (1, 24), (1, 6), (0, 2), (1, 270), (1, 30), (0, 2), (1, 270), (1, 30), (0, 10), (1, 40), (1, 24), (1, 24), (1, 6), (0, 2), (1, 270), (1, 30), (0, 2), (1, 270), (1, 30), (0, 9), (0, 7), (2, 0), (4, 4), (4, 10), (4, 6), (0, 4), (1, 24), (1, 6), (1, 60), (1, 6), (0, 4), (1, 24), (1, 6), (1, 60), (1, 6), (5, 3), (0, 0), (1, 40), (1, 40), (1, 40), (1, 40), (1, 160), (0, 8), (1, 60), (1, 10), (1, 10), (1, 6), (0, 6), (1, 2500), (1, 6250), (1, 625), (0, 6), (1, 2500), (1, 6250), (1, 625), (0, 5), (4, 625), (1, 625), (1, 625), (0, 1), (1, 1024), (1, 1024), (1, 1024), (0, 3), (1, 30), (1, 30), (1, 30), (1, 30), (1, 30), (1, 10), (1, 10), (0, 4), (1, 24), (1, 6), (1, 60), (1, 6), (0, 4), (1, 24), (1, 6), (1, 60), (1, 6), (0, 4), (1, 24), (1, 6), (1, 60), (1, 6), (0, 12), (1, 1600), (4, 20), (1, 640), (1, 640), (1, 2), (1, 640), (1, 640), (1, 2), (1, 160), (1, 64), (1, 6), (1, 40), (1, 24), (1, 24), (1, 6), (1, 40), (1, 24), (1, 24), (1, 6), (1, 96), (1, 4), (1, 60), (1, 10), (1, 10), (1, 3840), (1, 16), (1, 1024), (1, 1024), (1, 1024), (1, 96), (4, 625), (3, 625), (1, 10), (1, 10), (1, 30), (1, 30), (1, 30), (1, 30), (1, 30), (1, 100), (3, 3), (1, 288)]
set_option maxRecDepth 10000 in
theorem zlay : zLAY[0]? = some (0, 11) ∧ zLAY[1]? = some (2, 1600) ∧ zLAY[2]? = some (0, 10) ∧ zLAY[3]? = some (1, 40) ∧ zLAY[4]? = some (1, 24) ∧ zLAY[5]? = some (1, 24) ∧ zLAY[6]? = some (1, 6) ∧ zLAY[7]? = some (0, 2) ∧ zLAY[8]? = some (1, 270) ∧ zLAY[9]? = some (1, 30) ∧ zLAY[10]? = some (0, 2) ∧ zLAY[11]? = some (1, 270) ∧ zLAY[12]? = some (1, 30) ∧ zLAY[13]? = some (0, 10) ∧ zLAY[14]? = some (1, 40) ∧ zLAY[15]? = some (1, 24) ∧ zLAY[16]? = some (1, 24) ∧ zLAY[17]? = some (1, 6) ∧ zLAY[18]? = some (0, 2) ∧ zLAY[19]? = some (1, 270) ∧ zLAY[20]? = some (1, 30) ∧ zLAY[21]? = some (0, 2) ∧ zLAY[22]? = some (1, 270) ∧ zLAY[23]? = some (1, 30) ∧ zLAY[24]? = some (0, 9) ∧ zLAY[25]? = some (0, 7) ∧ zLAY[26]? = some (2, 0) ∧ zLAY[27]? = some (4, 4) ∧ zLAY[28]? = some (4, 10) ∧ zLAY[29]? = some (4, 6) ∧ zLAY[30]? = some (0, 4) ∧ zLAY[31]? = some (1, 24) ∧ zLAY[32]? = some (1, 6) ∧ zLAY[33]? = some (1, 60) ∧ zLAY[34]? = some (1, 6) ∧ zLAY[35]? = some (0, 4) ∧ zLAY[36]? = some (1, 24) ∧ zLAY[37]? = some (1, 6) ∧ zLAY[38]? = some (1, 60) ∧ zLAY[39]? = some (1, 6) ∧ zLAY[40]? = some (5, 3) ∧ zLAY[41]? = some (0, 0) ∧ zLAY[42]? = some (1, 40) ∧ zLAY[43]? = some (1, 40) ∧ zLAY[44]? = some (1, 40) ∧ zLAY[45]? = some (1, 40) ∧ zLAY[46]? = some (1, 160) ∧ zLAY[47]? = some (0, 8) ∧ zLAY[48]? = some (1, 60) ∧ zLAY[49]? = some (1, 10) ∧ zLAY[50]? = some (1, 10) ∧ zLAY[51]? = some (1, 6) ∧ zLAY[52]? = some (0, 6) ∧ zLAY[53]? = some (1, 2500) ∧ zLAY[54]? = some (1, 6250) ∧ zLAY[55]? = some (1, 625) ∧ zLAY[56]? = some (0, 6) ∧ zLAY[57]? = some (1, 2500) ∧ zLAY[58]? = some (1, 6250) ∧ zLAY[59]? = some (1, 625) ∧ zLAY[60]? = some (0, 5) ∧ zLAY[61]? = some (4, 625) ∧ zLAY[62]? = some (1, 625) ∧ zLAY[63]? = some (1, 625) ∧ zLAY[64]? = some (0, 1) ∧ zLAY[65]? = some (1, 1024) ∧ zLAY[66]? = some (1, 1024) ∧ zLAY[67]? = some (1, 1024) ∧ zLAY[68]? = some (0, 3) ∧ zLAY[69]? = some (1, 30) ∧ zLAY[70]? = some (1, 30) ∧ zLAY[71]? = some (1, 30) ∧ zLAY[72]? = some (1, 30) ∧ zLAY[73]? = some (1, 30) ∧ zLAY[74]? = some (1, 10) ∧ zLAY[75]? = some (1, 10) ∧ zLAY[76]? = some (0, 4) ∧ zLAY[77]? = some (1, 24) ∧ zLAY[78]? = some (1, 6) ∧ zLAY[79]? = some (1, 60) ∧ zLAY[80]? = some (1, 6) ∧ zLAY[81]? = some (0, 4) ∧ zLAY[82]? = some (1, 24) ∧ zLAY[83]? = some (1, 6) ∧ zLAY[84]? = some (1, 60) ∧ zLAY[85]? = some (1, 6) ∧ zLAY[86]? = some (0, 4) ∧ zLAY[87]? = some (1, 24) ∧ zLAY[88]? = some (1, 6) ∧ zLAY[89]? = some (1, 60) ∧ zLAY[90]? = some (1, 6) ∧ zLAY[91]? = some (0, 12) ∧ zLAY[92]? = some (1, 1600) ∧ zLAY[93]? = some (4, 20) ∧ zLAY[94]? = some (1, 640) ∧ zLAY[95]? = some (1, 640) ∧ zLAY[96]? = some (1, 2) ∧ zLAY[97]? = some (1, 640) ∧ zLAY[98]? = some (1, 640) ∧ zLAY[99]? = some (1, 2) ∧ zLAY[100]? = some (1, 160) ∧ zLAY[101]? = some (1, 64) ∧ zLAY[102]? = some (1, 6) ∧ zLAY[103]? = some (1, 40) ∧ zLAY[104]? = some (1, 24) ∧ zLAY[105]? = some (1, 24) ∧ zLAY[106]? = some (1, 6) ∧ zLAY[107]? = some (1, 40) ∧ zLAY[108]? = some (1, 24) ∧ zLAY[109]? = some (1, 24) ∧ zLAY[110]? = some (1, 6) ∧ zLAY[111]? = some (1, 96) ∧ zLAY[112]? = some (1, 4) ∧ zLAY[113]? = some (1, 60) ∧ zLAY[114]? = some (1, 10) ∧ zLAY[115]? = some (1, 10) ∧ zLAY[116]? = some (1, 3840) ∧ zLAY[117]? = some (1, 16) ∧ zLAY[118]? = some (1, 1024) ∧ zLAY[119]? = some (1, 1024) ∧ zLAY[120]? = some (1, 1024) ∧ zLAY[121]? = some (1, 96) ∧ zLAY[122]? = some (4, 625) ∧ zLAY[123]? = some (3, 625) ∧ zLAY[124]? = some (1, 10) ∧ zLAY[125]? = some (1, 10) ∧ zLAY[126]? = some (1, 30) ∧ zLAY[127]? = some (1, 30) ∧ zLAY[128]? = some (1, 30) ∧ zLAY[129]? = some (1, 30) ∧ zLAY[130]? = some (1, 30) ∧ zLAY[131]? = some (1, 100) ∧ zLAY[132]? = some (3, 3) ∧ zLAY[133]? = some (1, 288) := by
  refine ⟨?_, ?_, ?_, ?_, ?_, ?_, ?_, ?_, ?_, ?_, ?_, ?_, ?_, ?_, ?_, ?_, ?_, ?_, ?_, ?_, ?_, ?_, ?_, ?_, ?_, ?_, ?_, ?_, ?_, ?_, ?_, ?_, ?_, ?_, ?_, ?_, ?_, ?_, ?_, ?_, ?_, ?_, ?_, ?_, ?_, ?_, ?_, ?_, ?_, ?_, ?_, ?_, ?_, ?_, ?_, ?_, ?_, ?_, ?_, ?_, ?_, ?_, ?_, ?_, ?_, ?_, ?_, ?_, ?_, ?_, ?_, ?_, ?_, ?_, ?_, ?_, ?_, ?_, ?_, ?_, ?_, ?_, ?_, ?_, ?_, ?_, ?_, ?_, ?_, ?_, ?_, ?_, ?_, ?_, ?_, ?_, ?_, ?_, ?_, ?_, ?_, ?_, ?_, ?_, ?_, ?_, ?_, ?_, ?_, ?_, ?_, ?_, ?_, ?_, ?_, ?_, ?_, ?_, ?_, ?_, ?_, ?_, ?_, ?_, ?_, ?_, ?_, ?_, ?_, ?_, ?_, ?_, ?_, ?_⟩ <;> rfl
/-- the references that never change -/
def zP0 (a k : Nat) : Option Nat := match a, k with
  | 0, 0 => some 1
  | 0, 4 => some 24
  | 0, 5 => some 30
  | 0, 6 => some 35
  | 0, 7 => some 40
  | 0, 8 => some 41
  | 0, 9 => some 47
  | 0, 10 => some 52
  | 0, 11 => some 56
  | 0, 12 => some 60
  | 0, 13 => some 64
  | 0, 14 => some 68
  | 0, 15 => some 74
  | 0, 17 => some 75
  | 2, 7 => some 3
  | 2, 8 => some 4
  | 2, 9 => some 5
  | 2, 10 => some 6
  | 2, 11 => some 7
  | 2, 12 => some 10
  | 7, 0 => some 8
  | 7, 1 => some 9
  | 10, 0 => some 11
  | 10, 1 => some 12
  | 13, 7 => some 14
  | 13, 8 => some 15
  | 13, 9 => some 16
  | 13, 10 => some 17
  | 13, 11 => some 18
  | 13, 12 => some 21
  | 18, 0 => some 19
  | 18, 1 => some 20
  | 21, 0 => some 22
  | 21, 1 => some 23
  | 24, 2 => some 25
  | 24, 3 => some 27
  | 24, 4 => some 28
  | 24, 5 => some 29
  | 30, 0 => some 31
  | 30, 1 => some 32
  | 30, 2 => some 33
  | 30, 6 => some 34
  | 35, 0 => some 36
  | 35, 1 => some 37
  | 35, 2 => some 38
  | 35, 6 => some 39
  | 40, 0 => some 76
  | 40, 1 => some 81
  | 40, 2 => some 86
  | 41, 3 => some 42
  | 41, 4 => some 43
  | 41, 5 => some 44
  | 41, 6 => some 45
  | 41, 7 => some 46
  | 47, 3 => some 48
  | 47, 4 => some 49
  | 47, 5 => some 50
  | 47, 6 => some 51
  | 52, 5 => some 53
  | 52, 6 => some 54
  | 52, 7 => some 55
  | 56, 5 => some 57
  | 56, 6 => some 58
  | 56, 7 => some 59
  | 60, 0 => some 61
  | 60, 1 => some 62
  | 60, 2 => some 63
  | 64, 0 => some 65
  | 64, 1 => some 66
  | 64, 2 => some 67
  | 68, 2 => some 69
  | 68, 3 => some 70
  | 68, 4 => some 71
  | 68, 5 => some 72
  | 68, 6 => some 73
  | 76, 0 => some 77
  | 76, 1 => some 78
  | 76, 2 => some 79
  | 76, 6 => some 80
  | 81, 0 => some 82
  | 81, 1 => some 83
  | 81, 2 => some 84
  | 81, 6 => some 85
  | 86, 0 => some 87
  | 86, 1 => some 88
  | 86, 2 => some 89
  | 86, 6 => some 90
  | 91, 0 => some 92
  | 91, 10 => some 93
  | 91, 11 => some 94
  | 91, 12 => some 95
  | 91, 13 => some 96
  | 91, 14 => some 97
  | 91, 15 => some 98
  | 91, 16 => some 99
  | 91, 17 => some 100
  | 91, 18 => some 101
  | 91, 25 => some 102
  | 91, 26 => some 103
  | 91, 27 => some 104
  | 91, 28 => some 105
  | 91, 29 => some 106
  | 91, 30 => some 107
  | 91, 31 => some 108
  | 91, 32 => some 109
  | 91, 33 => some 110
  | 91, 49 => some 111
  | 91, 50 => some 112
  | 91, 51 => some 113
  | 91, 52 => some 114
  | 91, 53 => some 115
  | 91, 55 => some 116
  | 91, 58 => some 117
  | 91, 60 => some 118
  | 91, 61 => some 119
  | 91, 62 => some 120
  | 91, 63 => some 121
  | 91, 64 => some 122
  | 91, 65 => some 123
  | 91, 70 => some 124
  | 91, 72 => some 125
  | 91, 73 => some 126
  | 91, 74 => some 127
  | 91, 75 => some 128
  | 91, 76 => some 129
  | 91, 77 => some 130
  | 91, 80 => some 131
  | 91, 81 => some 132
  | 91, 82 => some 133
  | _, _ => none
/-- told, spare, teller.into, teller.formula, shelves.told, scanner.text -/
def zPt (t u i f s x : Nat) : Nat → Nat → Option Nat := fun a k =>
  if a = 0 ∧ k = 2 then some t else if a = 0 ∧ k = 3 then some u else if a = 24 ∧ k = 6 then some i else if a = 24 ∧ k = 7 then some f else if a = 47 ∧ k = 0 then some s else if a = 25 ∧ k = 4 then some x else zP0 a k
set_option maxRecDepth 10000 in
theorem zptr (t u i f s x : Nat) : zPt t u i f s x 0 0 = some 1 ∧ zPt t u i f s x 0 2 = some t ∧ zPt t u i f s x 0 3 = some u ∧ zPt t u i f s x 0 4 = some 24 ∧ zPt t u i f s x 0 5 = some 30 ∧ zPt t u i f s x 0 6 = some 35 ∧ zPt t u i f s x 0 7 = some 40 ∧ zPt t u i f s x 0 8 = some 41 ∧ zPt t u i f s x 0 9 = some 47 ∧ zPt t u i f s x 0 10 = some 52 ∧ zPt t u i f s x 0 11 = some 56 ∧ zPt t u i f s x 0 12 = some 60 ∧ zPt t u i f s x 0 13 = some 64 ∧ zPt t u i f s x 0 14 = some 68 ∧ zPt t u i f s x 0 15 = some 74 ∧ zPt t u i f s x 0 17 = some 75 ∧ zPt t u i f s x 2 7 = some 3 ∧ zPt t u i f s x 2 8 = some 4 ∧ zPt t u i f s x 2 9 = some 5 ∧ zPt t u i f s x 2 10 = some 6 ∧ zPt t u i f s x 2 11 = some 7 ∧ zPt t u i f s x 2 12 = some 10 ∧ zPt t u i f s x 7 0 = some 8 ∧ zPt t u i f s x 7 1 = some 9 ∧ zPt t u i f s x 10 0 = some 11 ∧ zPt t u i f s x 10 1 = some 12 ∧ zPt t u i f s x 13 7 = some 14 ∧ zPt t u i f s x 13 8 = some 15 ∧ zPt t u i f s x 13 9 = some 16 ∧ zPt t u i f s x 13 10 = some 17 ∧ zPt t u i f s x 13 11 = some 18 ∧ zPt t u i f s x 13 12 = some 21 ∧ zPt t u i f s x 18 0 = some 19 ∧ zPt t u i f s x 18 1 = some 20 ∧ zPt t u i f s x 21 0 = some 22 ∧ zPt t u i f s x 21 1 = some 23 ∧ zPt t u i f s x 24 2 = some 25 ∧ zPt t u i f s x 24 3 = some 27 ∧ zPt t u i f s x 24 4 = some 28 ∧ zPt t u i f s x 24 5 = some 29 ∧ zPt t u i f s x 24 6 = some i ∧ zPt t u i f s x 24 7 = some f ∧ zPt t u i f s x 25 4 = some x ∧ zPt t u i f s x 30 0 = some 31 ∧ zPt t u i f s x 30 1 = some 32 ∧ zPt t u i f s x 30 2 = some 33 ∧ zPt t u i f s x 30 6 = some 34 ∧ zPt t u i f s x 35 0 = some 36 ∧ zPt t u i f s x 35 1 = some 37 ∧ zPt t u i f s x 35 2 = some 38 ∧ zPt t u i f s x 35 6 = some 39 ∧ zPt t u i f s x 40 0 = some 76 ∧ zPt t u i f s x 40 1 = some 81 ∧ zPt t u i f s x 40 2 = some 86 ∧ zPt t u i f s x 41 3 = some 42 ∧ zPt t u i f s x 41 4 = some 43 ∧ zPt t u i f s x 41 5 = some 44 ∧ zPt t u i f s x 41 6 = some 45 ∧ zPt t u i f s x 41 7 = some 46 ∧ zPt t u i f s x 47 0 = some s ∧ zPt t u i f s x 47 3 = some 48 ∧ zPt t u i f s x 47 4 = some 49 ∧ zPt t u i f s x 47 5 = some 50 ∧ zPt t u i f s x 47 6 = some 51 ∧ zPt t u i f s x 52 5 = some 53 ∧ zPt t u i f s x 52 6 = some 54 ∧ zPt t u i f s x 52 7 = some 55 ∧ zPt t u i f s x 56 5 = some 57 ∧ zPt t u i f s x 56 6 = some 58 ∧ zPt t u i f s x 56 7 = some 59 ∧ zPt t u i f s x 60 0 = some 61 ∧ zPt t u i f s x 60 1 = some 62 ∧ zPt t u i f s x 60 2 = some 63 ∧ zPt t u i f s x 64 0 = some 65 ∧ zPt t u i f s x 64 1 = some 66 ∧ zPt t u i f s x 64 2 = some 67 ∧ zPt t u i f s x 68 2 = some 69 ∧ zPt t u i f s x 68 3 = some 70 ∧ zPt t u i f s x 68 4 = some 71 ∧ zPt t u i f s x 68 5 = some 72 ∧ zPt t u i f s x 68 6 = some 73 ∧ zPt t u i f s x 76 0 = some 77 ∧ zPt t u i f s x 76 1 = some 78 ∧ zPt t u i f s x 76 2 = some 79 ∧ zPt t u i f s x 76 6 = some 80 ∧ zPt t u i f s x 81 0 = some 82 ∧ zPt t u i f s x 81 1 = some 83 ∧ zPt t u i f s x 81 2 = some 84 ∧ zPt t u i f s x 81 6 = some 85 ∧ zPt t u i f s x 86 0 = some 87 ∧ zPt t u i f s x 86 1 = some 88 ∧ zPt t u i f s x 86 2 = some 89 ∧ zPt t u i f s x 86 6 = some 90 ∧ zPt t u i f s x 91 0 = some 92 ∧ zPt t u i f s x 91 10 = some 93 ∧ zPt t u i f s x 91 11 = some 94 ∧ zPt t u i f s x 91 12 = some 95 ∧ zPt t u i f s x 91 13 = some 96 ∧ zPt t u i f s x 91 14 = some 97 ∧ zPt t u i f s x 91 15 = some 98 ∧ zPt t u i f s x 91 16 = some 99 ∧ zPt t u i f s x 91 17 = some 100 ∧ zPt t u i f s x 91 18 = some 101 ∧ zPt t u i f s x 91 25 = some 102 ∧ zPt t u i f s x 91 26 = some 103 ∧ zPt t u i f s x 91 27 = some 104 ∧ zPt t u i f s x 91 28 = some 105 ∧ zPt t u i f s x 91 29 = some 106 ∧ zPt t u i f s x 91 30 = some 107 ∧ zPt t u i f s x 91 31 = some 108 ∧ zPt t u i f s x 91 32 = some 109 ∧ zPt t u i f s x 91 33 = some 110 ∧ zPt t u i f s x 91 49 = some 111 ∧ zPt t u i f s x 91 50 = some 112 ∧ zPt t u i f s x 91 51 = some 113 ∧ zPt t u i f s x 91 52 = some 114 ∧ zPt t u i f s x 91 53 = some 115 ∧ zPt t u i f s x 91 55 = some 116 ∧ zPt t u i f s x 91 58 = some 117 ∧ zPt t u i f s x 91 60 = some 118 ∧ zPt t u i f s x 91 61 = some 119 ∧ zPt t u i f s x 91 62 = some 120 ∧ zPt t u i f s x 91 63 = some 121 ∧ zPt t u i f s x 91 64 = some 122 ∧ zPt t u i f s x 91 65 = some 123 ∧ zPt t u i f s x 91 70 = some 124 ∧ zPt t u i f s x 91 72 = some 125 ∧ zPt t u i f s x 91 73 = some 126 ∧ zPt t u i f s x 91 74 = some 127 ∧ zPt t u i f s x 91 75 = some 128 ∧ zPt t u i f s x 91 76 = some 129 ∧ zPt t u i f s x 91 77 = some 130 ∧ zPt t u i f s x 91 80 = some 131 ∧ zPt t u i f s x 91 81 = some 132 ∧ zPt t u i f s x 91 82 = some 133 := by
  refine ⟨?_, ?_, ?_, ?_, ?_, ?_, ?_, ?_, ?_, ?_, ?_, ?_, ?_, ?_, ?_, ?_, ?_, ?_, ?_, ?_, ?_, ?_, ?_, ?_, ?_, ?_, ?_, ?_, ?_, ?_, ?_, ?_, ?_, ?_, ?_, ?_, ?_, ?_, ?_, ?_, ?_, ?_, ?_, ?_, ?_, ?_, ?_, ?_, ?_, ?_, ?_, ?_, ?_, ?_, ?_, ?_, ?_, ?_, ?_, ?_, ?_, ?_, ?_, ?_, ?_, ?_, ?_, ?_, ?_, ?_, ?_, ?_, ?_, ?_, ?_, ?_, ?_, ?_, ?_, ?_, ?_, ?_, ?_, ?_, ?_, ?_, ?_, ?_, ?_, ?_, ?_, ?_, ?_, ?_, ?_, ?_, ?_, ?_, ?_, ?_, ?_, ?_, ?_, ?_, ?_, ?_, ?_, ?_, ?_, ?_, ?_, ?_, ?_, ?_, ?_, ?_, ?_, ?_, ?_, ?_, ?_, ?_, ?_, ?_, ?_, ?_, ?_, ?_, ?_, ?_, ?_, ?_, ?_, ?_, ?_⟩ <;> rfl
theorem zput_t (t u i f s x y : Nat) : zup (zPt t u i f s x) 0 2 (some y) = zPt y u i f s x := by
  funext a k
  unfold zup zro va_up zPt
  by_cases ha : a = 0
  · subst ha
    simp only [if_true]
    by_cases hk : k = 2
    · subst hk; simp
    · simp [hk]
  · simp [ha]
theorem zput_u (t u i f s x y : Nat) : zup (zPt t u i f s x) 0 3 (some y) = zPt t y i f s x := by
  funext a k
  unfold zup zro va_up zPt
  by_cases ha : a = 0
  · subst ha
    simp only [if_true]
    by_cases hk : k = 3
    · subst hk; simp
    · simp [hk]
  · simp [ha]
theorem zput_i (t u i f s x y : Nat) : zup (zPt t u i f s x) 24 6 (some y) = zPt t u y f s x := by
  funext a k
  unfold zup zro va_up zPt
  by_cases ha : a = 24
  · subst ha
    simp only [if_true]
    by_cases hk : k = 6
    · subst hk; simp
    · simp [hk]
  · simp [ha]
theorem zput_f (t u i f s x y : Nat) : zup (zPt t u i f s x) 24 7 (some y) = zPt t u i y s x := by
  funext a k
  unfold zup zro va_up zPt
  by_cases ha : a = 24
  · subst ha
    simp only [if_true]
    by_cases hk : k = 7
    · subst hk; simp
    · simp [hk]
  · simp [ha]
theorem zput_s (t u i f s x y : Nat) : zup (zPt t u i f s x) 47 0 (some y) = zPt t u i f y x := by
  funext a k
  unfold zup zro va_up zPt
  by_cases ha : a = 47
  · subst ha
    simp only [if_true]
    by_cases hk : k = 0
    · subst hk; simp
    · simp [hk]
  · simp [ha]
theorem zput_x (t u i f s x y : Nat) : zup (zPt t u i f s x) 25 4 (some y) = zPt t u i f s y := by
  funext a k
  unfold zup zro va_up zPt
  by_cases ha : a = 25
  · subst ha
    simp only [if_true]
    by_cases hk : k = 4
    · subst hk; simp
    · simp [hk]
  · simp [ha]
/-- a state with this layout -/
def zs (I : Nat → Nat → Int32) (J : Nat → Nat → Int64) (P : Nat → Nat → Option Nat) : zSt := (zLAY, I, J, P)
theorem zs_1 (I : Nat → Nat → Int32) (J : Nat → Nat → Int64) (P : Nat → Nat → Option Nat) : (zs I J P).1 = zLAY := rfl
theorem zs_I (I : Nat → Nat → Int32) (J : Nat → Nat → Int64) (P : Nat → Nat → Option Nat) : (zs I J P).2.1 = I := rfl
theorem zs_J (I : Nat → Nat → Int32) (J : Nat → Nat → Int64) (P : Nat → Nat → Option Nat) : (zs I J P).2.2.1 = J := rfl
theorem zs_P (I : Nat → Nat → Int32) (J : Nat → Nat → Int64) (P : Nat → Nat → Option Nat) : (zs I J P).2.2.2 = P := rfl
theorem zs_2 (I : Nat → Nat → Int32) (J : Nat → Nat → Int64) (P : Nat → Nat → Option Nat) : (zs I J P).2.2 = (J, P) := rfl
section ZS
variable {I : Nat → Nat → Int32} {J : Nat → Nat → Int64} {P : Nat → Nat → Option Nat} {c a k n kd v2 : Nat} {i v : Int32} {w : Int64}
theorem zs_gI (h : zLAY[a]? = some (0, c)) : zgI (zs I J P) c a k = some (I a k) := by simp [zgI, zs, h]
theorem zs_gJ (h : zLAY[a]? = some (0, c)) : zgJ (zs I J P) c a k = some (J a k) := by simp [zgJ, zs, h]
theorem zs_gP (h : zLAY[a]? = some (0, c)) : zgP (zs I J P) c a k = P a k := by simp [zgP, zs, h]
theorem zs_sI (h : zLAY[a]? = some (0, c)) : zsI (zs I J P) c a k v = some (zs (zup I a k v) J P) := by simp [zsI, zs, h]
theorem zs_sJ (h : zLAY[a]? = some (0, c)) : zsJ (zs I J P) c a k w = some (zs I (zup J a k w) P) := by simp [zsJ, zs, h]
theorem zs_sP (h : zLAY[a]? = some (0, c)) : zsP (zs I J P) c a k v2 = some (zs I J (zup P a k (some v2))) := by simp [zsP, zs, h]
theorem zs_ok (h : zLAY[a]? = some (kd, n)) : zok (zs I J P) kd a i = zin i n := by simp [zok, zs, h]
theorem zs_aI (h : zLAY[a]? = some (kd, n)) (hi : zin i n = true) : zaI (zs I J P) kd a i = some (I a i.toNatClampNeg) := by simp [zaI, zs_ok h, hi]; rfl
theorem zs_aJ (h : zLAY[a]? = some (4, n)) (hi : zin i n = true) : zaJ (zs I J P) a i = some (J a i.toNatClampNeg) := by simp [zaJ, zs_ok h, hi]; rfl
theorem zs_aP (h : zLAY[a]? = some (5, n)) (hi : zin i n = true) : zaP (zs I J P) a i = P a i.toNatClampNeg := by simp [zaP, zs_ok h, hi]; rfl
theorem zs_wI (h : zLAY[a]? = some (kd, n)) (hi : zin i n = true) : zwI (zs I J P) kd a i v = some (zs (zup I a i.toNatClampNeg (znar kd v)) J P) := by simp [zwI, zs_ok h, hi]; rfl
theorem zs_wJ (h : zLAY[a]? = some (4, n)) (hi : zin i n = true) : zwJ (zs I J P) a i w = some (zs I (zup J a i.toNatClampNeg w) P) := by simp [zwJ, zs_ok h, hi]; rfl
theorem zs_len (h : zLAY[a]? = some (kd, n)) : zlen (zs I J P) kd a = some (Int32.ofNat n) := by simp [zlen, zs, h]
theorem zs_g {α : Type} {x : Option α} (h : zLAY[a]? = some (0, c)) : zg (zs I J P) c a x = x := by simp [zg, zs, h]
end ZS
theorem zin_nI {k n : Nat} (h : k < n) (hn : n < 2 ^ 31) : zin (nI k) n = true := by
  unfold zin
  exact decide_eq_true (vp_in_nI h hn)
theorem zin_iff {x : Int32} {n : Nat} : zin x n = true ↔ 0 ≤ x.toInt ∧ x.toInt < n := by
  rw [← vp_in_iff]
  exact ⟨zin_vp, fun h => decide_eq_true h⟩
theorem zl_0 : zLAY[0]? = some (0, 11) := rfl
theorem zl_1 : zLAY[1]? = some (2, 1600) := rfl
theorem zl_2 : zLAY[2]? = some (0, 10) := rfl
theorem zl_3 : zLAY[3]? = some (1, 40) := rfl
theorem zl_4 : zLAY[4]? = some (1, 24) := rfl
theorem zl_5 : zLAY[5]? = some (1, 24) := rfl
theorem zl_6 : zLAY[6]? = some (1, 6) := rfl
theorem zl_7 : zLAY[7]? = some (0, 2) := rfl
theorem zl_8 : zLAY[8]? = some (1, 270) := rfl
theorem zl_9 : zLAY[9]? = some (1, 30) := rfl
theorem zl_10 : zLAY[10]? = some (0, 2) := rfl
theorem zl_11 : zLAY[11]? = some (1, 270) := rfl
theorem zl_12 : zLAY[12]? = some (1, 30) := rfl
theorem zl_13 : zLAY[13]? = some (0, 10) := rfl
theorem zl_14 : zLAY[14]? = some (1, 40) := rfl
theorem zl_15 : zLAY[15]? = some (1, 24) := rfl
theorem zl_16 : zLAY[16]? = some (1, 24) := rfl
theorem zl_17 : zLAY[17]? = some (1, 6) := rfl
theorem zl_18 : zLAY[18]? = some (0, 2) := rfl
theorem zl_19 : zLAY[19]? = some (1, 270) := rfl
theorem zl_20 : zLAY[20]? = some (1, 30) := rfl
theorem zl_21 : zLAY[21]? = some (0, 2) := rfl
theorem zl_22 : zLAY[22]? = some (1, 270) := rfl
theorem zl_23 : zLAY[23]? = some (1, 30) := rfl
theorem zl_24 : zLAY[24]? = some (0, 9) := rfl
theorem zl_25 : zLAY[25]? = some (0, 7) := rfl
theorem zl_26 : zLAY[26]? = some (2, 0) := rfl
theorem zl_27 : zLAY[27]? = some (4, 4) := rfl
theorem zl_28 : zLAY[28]? = some (4, 10) := rfl
theorem zl_29 : zLAY[29]? = some (4, 6) := rfl
theorem zl_30 : zLAY[30]? = some (0, 4) := rfl
theorem zl_31 : zLAY[31]? = some (1, 24) := rfl
theorem zl_32 : zLAY[32]? = some (1, 6) := rfl
theorem zl_33 : zLAY[33]? = some (1, 60) := rfl
theorem zl_34 : zLAY[34]? = some (1, 6) := rfl
theorem zl_35 : zLAY[35]? = some (0, 4) := rfl
theorem zl_36 : zLAY[36]? = some (1, 24) := rfl
theorem zl_37 : zLAY[37]? = some (1, 6) := rfl
theorem zl_38 : zLAY[38]? = some (1, 60) := rfl
theorem zl_39 : zLAY[39]? = some (1, 6) := rfl
theorem zl_40 : zLAY[40]? = some (5, 3) := rfl
theorem zl_41 : zLAY[41]? = some (0, 0) := rfl
theorem zl_42 : zLAY[42]? = some (1, 40) := rfl
theorem zl_43 : zLAY[43]? = some (1, 40) := rfl
theorem zl_44 : zLAY[44]? = some (1, 40) := rfl
theorem zl_45 : zLAY[45]? = some (1, 40) := rfl
theorem zl_46 : zLAY[46]? = some (1, 160) := rfl
theorem zl_47 : zLAY[47]? = some (0, 8) := rfl
theorem zl_48 : zLAY[48]? = some (1, 60) := rfl
theorem zl_49 : zLAY[49]? = some (1, 10) := rfl
theorem zl_50 : zLAY[50]? = some (1, 10) := rfl
theorem zl_51 : zLAY[51]? = some (1, 6) := rfl
theorem zl_52 : zLAY[52]? = some (0, 6) := rfl
theorem zl_53 : zLAY[53]? = some (1, 2500) := rfl
theorem zl_54 : zLAY[54]? = some (1, 6250) := rfl
theorem zl_55 : zLAY[55]? = some (1, 625) := rfl
theorem zl_56 : zLAY[56]? = some (0, 6) := rfl
theorem zl_57 : zLAY[57]? = some (1, 2500) := rfl
theorem zl_58 : zLAY[58]? = some (1, 6250) := rfl
theorem zl_59 : zLAY[59]? = some (1, 625) := rfl
theorem zl_60 : zLAY[60]? = some (0, 5) := rfl
theorem zl_61 : zLAY[61]? = some (4, 625) := rfl
theorem zl_62 : zLAY[62]? = some (1, 625) := rfl
theorem zl_63 : zLAY[63]? = some (1, 625) := rfl
theorem zl_64 : zLAY[64]? = some (0, 1) := rfl
theorem zl_65 : zLAY[65]? = some (1, 1024) := rfl
theorem zl_66 : zLAY[66]? = some (1, 1024) := rfl
theorem zl_67 : zLAY[67]? = some (1, 1024) := rfl
theorem zl_68 : zLAY[68]? = some (0, 3) := rfl
theorem zl_69 : zLAY[69]? = some (1, 30) := rfl
theorem zl_70 : zLAY[70]? = some (1, 30) := rfl
theorem zl_71 : zLAY[71]? = some (1, 30) := rfl
theorem zl_72 : zLAY[72]? = some (1, 30) := rfl
theorem zl_73 : zLAY[73]? = some (1, 30) := rfl
theorem zl_74 : zLAY[74]? = some (1, 10) := rfl
theorem zl_75 : zLAY[75]? = some (1, 10) := rfl
theorem zl_76 : zLAY[76]? = some (0, 4) := rfl
theorem zl_77 : zLAY[77]? = some (1, 24) := rfl
theorem zl_78 : zLAY[78]? = some (1, 6) := rfl
theorem zl_79 : zLAY[79]? = some (1, 60) := rfl
theorem zl_80 : zLAY[80]? = some (1, 6) := rfl
theorem zl_81 : zLAY[81]? = some (0, 4) := rfl
theorem zl_82 : zLAY[82]? = some (1, 24) := rfl
theorem zl_83 : zLAY[83]? = some (1, 6) := rfl
theorem zl_84 : zLAY[84]? = some (1, 60) := rfl
theorem zl_85 : zLAY[85]? = some (1, 6) := rfl
theorem zl_86 : zLAY[86]? = some (0, 4) := rfl
theorem zl_87 : zLAY[87]? = some (1, 24) := rfl
theorem zl_88 : zLAY[88]? = some (1, 6) := rfl
theorem zl_89 : zLAY[89]? = some (1, 60) := rfl
theorem zl_90 : zLAY[90]? = some (1, 6) := rfl
theorem zl_91 : zLAY[91]? = some (0, 12) := rfl
theorem zl_92 : zLAY[92]? = some (1, 1600) := rfl
theorem zl_93 : zLAY[93]? = some (4, 20) := rfl
theorem zl_94 : zLAY[94]? = some (1, 640) := rfl
theorem zl_95 : zLAY[95]? = some (1, 640) := rfl
theorem zl_96 : zLAY[96]? = some (1, 2) := rfl
theorem zl_97 : zLAY[97]? = some (1, 640) := rfl
theorem zl_98 : zLAY[98]? = some (1, 640) := rfl
theorem zl_99 : zLAY[99]? = some (1, 2) := rfl
theorem zl_100 : zLAY[100]? = some (1, 160) := rfl
theorem zl_101 : zLAY[101]? = some (1, 64) := rfl
theorem zl_102 : zLAY[102]? = some (1, 6) := rfl
theorem zl_103 : zLAY[103]? = some (1, 40) := rfl
theorem zl_104 : zLAY[104]? = some (1, 24) := rfl
theorem zl_105 : zLAY[105]? = some (1, 24) := rfl
theorem zl_106 : zLAY[106]? = some (1, 6) := rfl
theorem zl_107 : zLAY[107]? = some (1, 40) := rfl
theorem zl_108 : zLAY[108]? = some (1, 24) := rfl
theorem zl_109 : zLAY[109]? = some (1, 24) := rfl
theorem zl_110 : zLAY[110]? = some (1, 6) := rfl
theorem zl_111 : zLAY[111]? = some (1, 96) := rfl
theorem zl_112 : zLAY[112]? = some (1, 4) := rfl
theorem zl_113 : zLAY[113]? = some (1, 60) := rfl
theorem zl_114 : zLAY[114]? = some (1, 10) := rfl
theorem zl_115 : zLAY[115]? = some (1, 10) := rfl
theorem zl_116 : zLAY[116]? = some (1, 3840) := rfl
theorem zl_117 : zLAY[117]? = some (1, 16) := rfl
theorem zl_118 : zLAY[118]? = some (1, 1024) := rfl
theorem zl_119 : zLAY[119]? = some (1, 1024) := rfl
theorem zl_120 : zLAY[120]? = some (1, 1024) := rfl
theorem zl_121 : zLAY[121]? = some (1, 96) := rfl
theorem zl_122 : zLAY[122]? = some (4, 625) := rfl
theorem zl_123 : zLAY[123]? = some (3, 625) := rfl
theorem zl_124 : zLAY[124]? = some (1, 10) := rfl
theorem zl_125 : zLAY[125]? = some (1, 10) := rfl
theorem zl_126 : zLAY[126]? = some (1, 30) := rfl
theorem zl_127 : zLAY[127]? = some (1, 30) := rfl
theorem zl_128 : zLAY[128]? = some (1, 30) := rfl
theorem zl_129 : zLAY[129]? = some (1, 30) := rfl
theorem zl_130 : zLAY[130]? = some (1, 30) := rfl
theorem zl_131 : zLAY[131]? = some (1, 100) := rfl
theorem zl_132 : zLAY[132]? = some (3, 3) := rfl
theorem zl_133 : zLAY[133]? = some (1, 288) := rfl
theorem zp_0_0 (t u i f s x : Nat) : zPt t u i f s x 0 0 = some 1 := rfl
theorem zp_0_2 (t u i f s x : Nat) : zPt t u i f s x 0 2 = some t := rfl
theorem zp_0_3 (t u i f s x : Nat) : zPt t u i f s x 0 3 = some u := rfl
theorem zp_0_4 (t u i f s x : Nat) : zPt t u i f s x 0 4 = some 24 := rfl
theorem zp_0_5 (t u i f s x : Nat) : zPt t u i f s x 0 5 = some 30 := rfl
theorem zp_0_6 (t u i f s x : Nat) : zPt t u i f s x 0 6 = some 35 := rfl
theorem zp_0_7 (t u i f s x : Nat) : zPt t u i f s x 0 7 = some 40 := rfl
theorem zp_0_8 (t u i f s x : Nat) : zPt t u i f s x 0 8 = some 41 := rfl
theorem zp_0_9 (t u i f s x : Nat) : zPt t u i f s x 0 9 = some 47 := rfl
theorem zp_0_10 (t u i f s x : Nat) : zPt t u i f s x 0 10 = some 52 := rfl
theorem zp_0_11 (t u i f s x : Nat) : zPt t u i f s x 0 11 = some 56 := rfl
theorem zp_0_12 (t u i f s x : Nat) : zPt t u i f s x 0 12 = some 60 := rfl
theorem zp_0_13 (t u i f s x : Nat) : zPt t u i f s x 0 13 = some 64 := rfl
theorem zp_0_14 (t u i f s x : Nat) : zPt t u i f s x 0 14 = some 68 := rfl
theorem zp_0_15 (t u i f s x : Nat) : zPt t u i f s x 0 15 = some 74 := rfl
theorem zp_0_17 (t u i f s x : Nat) : zPt t u i f s x 0 17 = some 75 := rfl
theorem zp_2_7 (t u i f s x : Nat) : zPt t u i f s x 2 7 = some 3 := rfl
theorem zp_2_8 (t u i f s x : Nat) : zPt t u i f s x 2 8 = some 4 := rfl
theorem zp_2_9 (t u i f s x : Nat) : zPt t u i f s x 2 9 = some 5 := rfl
theorem zp_2_10 (t u i f s x : Nat) : zPt t u i f s x 2 10 = some 6 := rfl
theorem zp_2_11 (t u i f s x : Nat) : zPt t u i f s x 2 11 = some 7 := rfl
theorem zp_2_12 (t u i f s x : Nat) : zPt t u i f s x 2 12 = some 10 := rfl
theorem zp_7_0 (t u i f s x : Nat) : zPt t u i f s x 7 0 = some 8 := rfl
theorem zp_7_1 (t u i f s x : Nat) : zPt t u i f s x 7 1 = some 9 := rfl
theorem zp_10_0 (t u i f s x : Nat) : zPt t u i f s x 10 0 = some 11 := rfl
theorem zp_10_1 (t u i f s x : Nat) : zPt t u i f s x 10 1 = some 12 := rfl
theorem zp_13_7 (t u i f s x : Nat) : zPt t u i f s x 13 7 = some 14 := rfl
theorem zp_13_8 (t u i f s x : Nat) : zPt t u i f s x 13 8 = some 15 := rfl
theorem zp_13_9 (t u i f s x : Nat) : zPt t u i f s x 13 9 = some 16 := rfl
theorem zp_13_10 (t u i f s x : Nat) : zPt t u i f s x 13 10 = some 17 := rfl
theorem zp_13_11 (t u i f s x : Nat) : zPt t u i f s x 13 11 = some 18 := rfl
theorem zp_13_12 (t u i f s x : Nat) : zPt t u i f s x 13 12 = some 21 := rfl
theorem zp_18_0 (t u i f s x : Nat) : zPt t u i f s x 18 0 = some 19 := rfl
theorem zp_18_1 (t u i f s x : Nat) : zPt t u i f s x 18 1 = some 20 := rfl
theorem zp_21_0 (t u i f s x : Nat) : zPt t u i f s x 21 0 = some 22 := rfl
theorem zp_21_1 (t u i f s x : Nat) : zPt t u i f s x 21 1 = some 23 := rfl
theorem zp_24_2 (t u i f s x : Nat) : zPt t u i f s x 24 2 = some 25 := rfl
theorem zp_24_3 (t u i f s x : Nat) : zPt t u i f s x 24 3 = some 27 := rfl
theorem zp_24_4 (t u i f s x : Nat) : zPt t u i f s x 24 4 = some 28 := rfl
theorem zp_24_5 (t u i f s x : Nat) : zPt t u i f s x 24 5 = some 29 := rfl
theorem zp_24_6 (t u i f s x : Nat) : zPt t u i f s x 24 6 = some i := rfl
theorem zp_24_7 (t u i f s x : Nat) : zPt t u i f s x 24 7 = some f := rfl
theorem zp_25_4 (t u i f s x : Nat) : zPt t u i f s x 25 4 = some x := rfl
theorem zp_30_0 (t u i f s x : Nat) : zPt t u i f s x 30 0 = some 31 := rfl
theorem zp_30_1 (t u i f s x : Nat) : zPt t u i f s x 30 1 = some 32 := rfl
theorem zp_30_2 (t u i f s x : Nat) : zPt t u i f s x 30 2 = some 33 := rfl
theorem zp_30_6 (t u i f s x : Nat) : zPt t u i f s x 30 6 = some 34 := rfl
theorem zp_35_0 (t u i f s x : Nat) : zPt t u i f s x 35 0 = some 36 := rfl
theorem zp_35_1 (t u i f s x : Nat) : zPt t u i f s x 35 1 = some 37 := rfl
theorem zp_35_2 (t u i f s x : Nat) : zPt t u i f s x 35 2 = some 38 := rfl
theorem zp_35_6 (t u i f s x : Nat) : zPt t u i f s x 35 6 = some 39 := rfl
theorem zp_40_0 (t u i f s x : Nat) : zPt t u i f s x 40 0 = some 76 := rfl
theorem zp_40_1 (t u i f s x : Nat) : zPt t u i f s x 40 1 = some 81 := rfl
theorem zp_40_2 (t u i f s x : Nat) : zPt t u i f s x 40 2 = some 86 := rfl
theorem zp_41_3 (t u i f s x : Nat) : zPt t u i f s x 41 3 = some 42 := rfl
theorem zp_41_4 (t u i f s x : Nat) : zPt t u i f s x 41 4 = some 43 := rfl
theorem zp_41_5 (t u i f s x : Nat) : zPt t u i f s x 41 5 = some 44 := rfl
theorem zp_41_6 (t u i f s x : Nat) : zPt t u i f s x 41 6 = some 45 := rfl
theorem zp_41_7 (t u i f s x : Nat) : zPt t u i f s x 41 7 = some 46 := rfl
theorem zp_47_0 (t u i f s x : Nat) : zPt t u i f s x 47 0 = some s := rfl
theorem zp_47_3 (t u i f s x : Nat) : zPt t u i f s x 47 3 = some 48 := rfl
theorem zp_47_4 (t u i f s x : Nat) : zPt t u i f s x 47 4 = some 49 := rfl
theorem zp_47_5 (t u i f s x : Nat) : zPt t u i f s x 47 5 = some 50 := rfl
theorem zp_47_6 (t u i f s x : Nat) : zPt t u i f s x 47 6 = some 51 := rfl
theorem zp_52_5 (t u i f s x : Nat) : zPt t u i f s x 52 5 = some 53 := rfl
theorem zp_52_6 (t u i f s x : Nat) : zPt t u i f s x 52 6 = some 54 := rfl
theorem zp_52_7 (t u i f s x : Nat) : zPt t u i f s x 52 7 = some 55 := rfl
theorem zp_56_5 (t u i f s x : Nat) : zPt t u i f s x 56 5 = some 57 := rfl
theorem zp_56_6 (t u i f s x : Nat) : zPt t u i f s x 56 6 = some 58 := rfl
theorem zp_56_7 (t u i f s x : Nat) : zPt t u i f s x 56 7 = some 59 := rfl
theorem zp_60_0 (t u i f s x : Nat) : zPt t u i f s x 60 0 = some 61 := rfl
theorem zp_60_1 (t u i f s x : Nat) : zPt t u i f s x 60 1 = some 62 := rfl
theorem zp_60_2 (t u i f s x : Nat) : zPt t u i f s x 60 2 = some 63 := rfl
theorem zp_64_0 (t u i f s x : Nat) : zPt t u i f s x 64 0 = some 65 := rfl
theorem zp_64_1 (t u i f s x : Nat) : zPt t u i f s x 64 1 = some 66 := rfl
theorem zp_64_2 (t u i f s x : Nat) : zPt t u i f s x 64 2 = some 67 := rfl
theorem zp_68_2 (t u i f s x : Nat) : zPt t u i f s x 68 2 = some 69 := rfl
theorem zp_68_3 (t u i f s x : Nat) : zPt t u i f s x 68 3 = some 70 := rfl
theorem zp_68_4 (t u i f s x : Nat) : zPt t u i f s x 68 4 = some 71 := rfl
theorem zp_68_5 (t u i f s x : Nat) : zPt t u i f s x 68 5 = some 72 := rfl
theorem zp_68_6 (t u i f s x : Nat) : zPt t u i f s x 68 6 = some 73 := rfl
theorem zp_76_0 (t u i f s x : Nat) : zPt t u i f s x 76 0 = some 77 := rfl
theorem zp_76_1 (t u i f s x : Nat) : zPt t u i f s x 76 1 = some 78 := rfl
theorem zp_76_2 (t u i f s x : Nat) : zPt t u i f s x 76 2 = some 79 := rfl
theorem zp_76_6 (t u i f s x : Nat) : zPt t u i f s x 76 6 = some 80 := rfl
theorem zp_81_0 (t u i f s x : Nat) : zPt t u i f s x 81 0 = some 82 := rfl
theorem zp_81_1 (t u i f s x : Nat) : zPt t u i f s x 81 1 = some 83 := rfl
theorem zp_81_2 (t u i f s x : Nat) : zPt t u i f s x 81 2 = some 84 := rfl
theorem zp_81_6 (t u i f s x : Nat) : zPt t u i f s x 81 6 = some 85 := rfl
theorem zp_86_0 (t u i f s x : Nat) : zPt t u i f s x 86 0 = some 87 := rfl
theorem zp_86_1 (t u i f s x : Nat) : zPt t u i f s x 86 1 = some 88 := rfl
theorem zp_86_2 (t u i f s x : Nat) : zPt t u i f s x 86 2 = some 89 := rfl
theorem zp_86_6 (t u i f s x : Nat) : zPt t u i f s x 86 6 = some 90 := rfl
theorem zp_91_0 (t u i f s x : Nat) : zPt t u i f s x 91 0 = some 92 := rfl
theorem zp_91_10 (t u i f s x : Nat) : zPt t u i f s x 91 10 = some 93 := rfl
theorem zp_91_11 (t u i f s x : Nat) : zPt t u i f s x 91 11 = some 94 := rfl
theorem zp_91_12 (t u i f s x : Nat) : zPt t u i f s x 91 12 = some 95 := rfl
theorem zp_91_13 (t u i f s x : Nat) : zPt t u i f s x 91 13 = some 96 := rfl
theorem zp_91_14 (t u i f s x : Nat) : zPt t u i f s x 91 14 = some 97 := rfl
theorem zp_91_15 (t u i f s x : Nat) : zPt t u i f s x 91 15 = some 98 := rfl
theorem zp_91_16 (t u i f s x : Nat) : zPt t u i f s x 91 16 = some 99 := rfl
theorem zp_91_17 (t u i f s x : Nat) : zPt t u i f s x 91 17 = some 100 := rfl
theorem zp_91_18 (t u i f s x : Nat) : zPt t u i f s x 91 18 = some 101 := rfl
theorem zp_91_25 (t u i f s x : Nat) : zPt t u i f s x 91 25 = some 102 := rfl
theorem zp_91_26 (t u i f s x : Nat) : zPt t u i f s x 91 26 = some 103 := rfl
theorem zp_91_27 (t u i f s x : Nat) : zPt t u i f s x 91 27 = some 104 := rfl
theorem zp_91_28 (t u i f s x : Nat) : zPt t u i f s x 91 28 = some 105 := rfl
theorem zp_91_29 (t u i f s x : Nat) : zPt t u i f s x 91 29 = some 106 := rfl
theorem zp_91_30 (t u i f s x : Nat) : zPt t u i f s x 91 30 = some 107 := rfl
theorem zp_91_31 (t u i f s x : Nat) : zPt t u i f s x 91 31 = some 108 := rfl
theorem zp_91_32 (t u i f s x : Nat) : zPt t u i f s x 91 32 = some 109 := rfl
theorem zp_91_33 (t u i f s x : Nat) : zPt t u i f s x 91 33 = some 110 := rfl
theorem zp_91_49 (t u i f s x : Nat) : zPt t u i f s x 91 49 = some 111 := rfl
theorem zp_91_50 (t u i f s x : Nat) : zPt t u i f s x 91 50 = some 112 := rfl
theorem zp_91_51 (t u i f s x : Nat) : zPt t u i f s x 91 51 = some 113 := rfl
theorem zp_91_52 (t u i f s x : Nat) : zPt t u i f s x 91 52 = some 114 := rfl
theorem zp_91_53 (t u i f s x : Nat) : zPt t u i f s x 91 53 = some 115 := rfl
theorem zp_91_55 (t u i f s x : Nat) : zPt t u i f s x 91 55 = some 116 := rfl
theorem zp_91_58 (t u i f s x : Nat) : zPt t u i f s x 91 58 = some 117 := rfl
theorem zp_91_60 (t u i f s x : Nat) : zPt t u i f s x 91 60 = some 118 := rfl
theorem zp_91_61 (t u i f s x : Nat) : zPt t u i f s x 91 61 = some 119 := rfl
theorem zp_91_62 (t u i f s x : Nat) : zPt t u i f s x 91 62 = some 120 := rfl
theorem zp_91_63 (t u i f s x : Nat) : zPt t u i f s x 91 63 = some 121 := rfl
theorem zp_91_64 (t u i f s x : Nat) : zPt t u i f s x 91 64 = some 122 := rfl
theorem zp_91_65 (t u i f s x : Nat) : zPt t u i f s x 91 65 = some 123 := rfl
theorem zp_91_70 (t u i f s x : Nat) : zPt t u i f s x 91 70 = some 124 := rfl
theorem zp_91_72 (t u i f s x : Nat) : zPt t u i f s x 91 72 = some 125 := rfl
theorem zp_91_73 (t u i f s x : Nat) : zPt t u i f s x 91 73 = some 126 := rfl
theorem zp_91_74 (t u i f s x : Nat) : zPt t u i f s x 91 74 = some 127 := rfl
theorem zp_91_75 (t u i f s x : Nat) : zPt t u i f s x 91 75 = some 128 := rfl
theorem zp_91_76 (t u i f s x : Nat) : zPt t u i f s x 91 76 = some 129 := rfl
theorem zp_91_77 (t u i f s x : Nat) : zPt t u i f s x 91 77 = some 130 := rfl
theorem zp_91_80 (t u i f s x : Nat) : zPt t u i f s x 91 80 = some 131 := rfl
theorem zp_91_81 (t u i f s x : Nat) : zPt t u i f s x 91 81 = some 132 := rfl
theorem zp_91_82 (t u i f s x : Nat) : zPt t u i f s x 91 82 = some 133 := rfl

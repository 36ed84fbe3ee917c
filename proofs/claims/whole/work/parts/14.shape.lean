/-! ===== the shapes of the two worlds ===== -/
def ShA : List ShC := [.inr (.inr (11, [.inl 1, .inl 26, .inl 29, .inl 34, .inl 236, .inl 287, .inl 289, .inl 304, .inl 327, .inl 340, .inl 345, .inr 0])), .inr (.inr (8, [.inl 2, .inl 11, .inr 0, .inr 0, .inr 0])), .inr (.inr (3, [.inr 0, .inl 3, .inl 5, .inl 7, .inl 9])), .inr (.inr (5, [.inl 4])), .inl (0, 20), .inr (.inr (5, [.inl 6])), .inl (0, 20), .inr (.inr (5, [.inl 8])), .inl (0, 20), .inr (.inr (5, [.inl 10])), .inl (0, 640), .inr (.inr (7, [.inl 12, .inl 14, .inl 16, .inl 18, .inl 20, .inl 22, .inl 24])), .inr (.inr (5, [.inl 13])), .inl (0, 12), .inr (.inr (5, [.inl 15])), .inl (0, 12), .inr (.inr (5, [.inl 17])), .inl (0, 12), .inr (.inr (5, [.inl 19])), .inl (0, 12), .inr (.inr (5, [.inl 21])), .inl (0, 12), .inr (.inr (5, [.inl 23])), .inl (0, 24), .inr (.inr (5, [.inl 25])), .inl (0, 192), .inr (.inr (1, [.inr 0, .inl 27])), .inr (.inr (5, [.inl 28])), .inl (0, 72), .inr (.inr (6, [.inl 30, .inl 32, .inr 0])), .inr (.inr (5, [.inl 31])), .inl (0, 2), .inr (.inr (5, [.inl 33])), .inl (0, 2), .inr (.inr (2, [.inr 0, .inr 0, .inl 35])), .inr (.inl [36, 61, 86, 111, 136, 161, 186, 211]), .inr (.inr (8, [.inl 37, .inl 46, .inr 0, .inr 0, .inr 0])), .inr (.inr (3, [.inr 0, .inl 38, .inl 40, .inl 42, .inl 44])), .inr (.inr (5, [.inl 39])), .inl (0, 20), .inr (.inr (5, [.inl 41])), .inl (0, 20), .inr (.inr (5, [.inl 43])), .inl (0, 20), .inr (.inr (5, [.inl 45])), .inl (0, 640), .inr (.inr (7, [.inl 47, .inl 49, .inl 51, .inl 53, .inl 55, .inl 57, .inl 59])), .inr (.inr (5, [.inl 48])), .inl (0, 12), .inr (.inr (5, [.inl 50])), .inl (0, 12), .inr (.inr (5, [.inl 52])), .inl (0, 12), .inr (.inr (5, [.inl 54])), .inl (0, 12), .inr (.inr (5, [.inl 56])), .inl (0, 12), .inr (.inr (5, [.inl 58])), .inl (0, 24), .inr (.inr (5, [.inl 60])), .inl (0, 192), .inr (.inr (8, [.inl 62, .inl 71, .inr 0, .inr 0, .inr 0])), .inr (.inr (3, [.inr 0, .inl 63, .inl 65, .inl 67, .inl 69])), .inr (.inr (5, [.inl 64])), .inl (0, 20), .inr (.inr (5, [.inl 66])), .inl (0, 20), .inr (.inr (5, [.inl 68])), .inl (0, 20), .inr (.inr (5, [.inl 70])), .inl (0, 640), .inr (.inr (7, [.inl 72, .inl 74, .inl 76, .inl 78, .inl 80, .inl 82, .inl 84])), .inr (.inr (5, [.inl 73])), .inl (0, 12), .inr (.inr (5, [.inl 75])), .inl (0, 12), .inr (.inr (5, [.inl 77])), .inl (0, 12), .inr (.inr (5, [.inl 79])), .inl (0, 12), .inr (.inr (5, [.inl 81])), .inl (0, 12), .inr (.inr (5, [.inl 83])), .inl (0, 24), .inr (.inr (5, [.inl 85])), .inl (0, 192), .inr (.inr (8, [.inl 87, .inl 96, .inr 0, .inr 0, .inr 0])), .inr (.inr (3, [.inr 0, .inl 88, .inl 90, .inl 92, .inl 94])), .inr (.inr (5, [.inl 89])), .inl (0, 20), .inr (.inr (5, [.inl 91])), .inl (0, 20), .inr (.inr (5, [.inl 93])), .inl (0, 20), .inr (.inr (5, [.inl 95])), .inl (0, 640), .inr (.inr (7, [.inl 97, .inl 99, .inl 101, .inl 103, .inl 105, .inl 107, .inl 109])), .inr (.inr (5, [.inl 98])), .inl (0, 12), .inr (.inr (5, [.inl 100])), .inl (0, 12), .inr (.inr (5, [.inl 102])), .inl (0, 12), .inr (.inr (5, [.inl 104])), .inl (0, 12), .inr (.inr (5, [.inl 106])), .inl (0, 12), .inr (.inr (5, [.inl 108])), .inl (0, 24), .inr (.inr (5, [.inl 110])), .inl (0, 192), .inr (.inr (8, [.inl 112, .inl 121, .inr 0, .inr 0, .inr 0])), .inr (.inr (3, [.inr 0, .inl 113, .inl 115, .inl 117, .inl 119])), .inr (.inr (5, [.inl 114])), .inl (0, 20), .inr (.inr (5, [.inl 116])), .inl (0, 20), .inr (.inr (5, [.inl 118])), .inl (0, 20), .inr (.inr (5, [.inl 120])), .inl (0, 640), .inr (.inr (7, [.inl 122, .inl 124, .inl 126, .inl 128, .inl 130, .inl 132, .inl 134])), .inr (.inr (5, [.inl 123])), .inl (0, 12), .inr (.inr (5, [.inl 125])), .inl (0, 12), .inr (.inr (5, [.inl 127])), .inl (0, 12), .inr (.inr (5, [.inl 129])), .inl (0, 12), .inr (.inr (5, [.inl 131])), .inl (0, 12), .inr (.inr (5, [.inl 133])), .inl (0, 24), .inr (.inr (5, [.inl 135])), .inl (0, 192), .inr (.inr (8, [.inl 137, .inl 146, .inr 0, .inr 0, .inr 0])), .inr (.inr (3, [.inr 0, .inl 138, .inl 140, .inl 142, .inl 144])), .inr (.inr (5, [.inl 139])), .inl (0, 20), .inr (.inr (5, [.inl 141])), .inl (0, 20), .inr (.inr (5, [.inl 143])), .inl (0, 20), .inr (.inr (5, [.inl 145])), .inl (0, 640), .inr (.inr (7, [.inl 147, .inl 149, .inl 151, .inl 153, .inl 155, .inl 157, .inl 159])), .inr (.inr (5, [.inl 148])), .inl (0, 12), .inr (.inr (5, [.inl 150])), .inl (0, 12), .inr (.inr (5, [.inl 152])), .inl (0, 12), .inr (.inr (5, [.inl 154])), .inl (0, 12), .inr (.inr (5, [.inl 156])), .inl (0, 12), .inr (.inr (5, [.inl 158])), .inl (0, 24), .inr (.inr (5, [.inl 160])), .inl (0, 192), .inr (.inr (8, [.inl 162, .inl 171, .inr 0, .inr 0, .inr 0])), .inr (.inr (3, [.inr 0, .inl 163, .inl 165, .inl 167, .inl 169])), .inr (.inr (5, [.inl 164])), .inl (0, 20), .inr (.inr (5, [.inl 166])), .inl (0, 20), .inr (.inr (5, [.inl 168])), .inl (0, 20), .inr (.inr (5, [.inl 170])), .inl (0, 640), .inr (.inr (7, [.inl 172, .inl 174, .inl 176, .inl 178, .inl 180, .inl 182, .inl 184])), .inr (.inr (5, [.inl 173])), .inl (0, 12), .inr (.inr (5, [.inl 175])), .inl (0, 12), .inr (.inr (5, [.inl 177])), .inl (0, 12), .inr (.inr (5, [.inl 179])), .inl (0, 12), .inr (.inr (5, [.inl 181])), .inl (0, 12), .inr (.inr (5, [.inl 183])), .inl (0, 24), .inr (.inr (5, [.inl 185])), .inl (0, 192), .inr (.inr (8, [.inl 187, .inl 196, .inr 0, .inr 0, .inr 0])), .inr (.inr (3, [.inr 0, .inl 188, .inl 190, .inl 192, .inl 194])), .inr (.inr (5, [.inl 189])), .inl (0, 20), .inr (.inr (5, [.inl 191])), .inl (0, 20), .inr (.inr (5, [.inl 193])), .inl (0, 20), .inr (.inr (5, [.inl 195])), .inl (0, 640), .inr (.inr (7, [.inl 197, .inl 199, .inl 201, .inl 203, .inl 205, .inl 207, .inl 209])), .inr (.inr (5, [.inl 198])), .inl (0, 12), .inr (.inr (5, [.inl 200])), .inl (0, 12), .inr (.inr (5, [.inl 202])), .inl (0, 12), .inr (.inr (5, [.inl 204])), .inl (0, 12), .inr (.inr (5, [.inl 206])), .inl (0, 12), .inr (.inr (5, [.inl 208])), .inl (0, 24), .inr (.inr (5, [.inl 210])), .inl (0, 192), .inr (.inr (8, [.inl 212, .inl 221, .inr 0, .inr 0, .inr 0])), .inr (.inr (3, [.inr 0, .inl 213, .inl 215, .inl 217, .inl 219])), .inr (.inr (5, [.inl 214])), .inl (0, 20), .inr (.inr (5, [.inl 216])), .inl (0, 20), .inr (.inr (5, [.inl 218])), .inl (0, 20), .inr (.inr (5, [.inl 220])), .inl (0, 640), .inr (.inr (7, [.inl 222, .inl 224, .inl 226, .inl 228, .inl 230, .inl 232, .inl 234])), .inr (.inr (5, [.inl 223])), .inl (0, 12), .inr (.inr (5, [.inl 225])), .inl (0, 12), .inr (.inr (5, [.inl 227])), .inl (0, 12), .inr (.inr (5, [.inl 229])), .inl (0, 12), .inr (.inr (5, [.inl 231])), .inl (0, 12), .inr (.inr (5, [.inl 233])), .inl (0, 24), .inr (.inr (5, [.inl 235])), .inl (0, 192), .inr (.inl [237, 262]), .inr (.inr (8, [.inl 238, .inl 247, .inr 0, .inr 0, .inr 0])), .inr (.inr (3, [.inr 0, .inl 239, .inl 241, .inl 243, .inl 245])), .inr (.inr (5, [.inl 240])), .inl (0, 20), .inr (.inr (5, [.inl 242])), .inl (0, 20), .inr (.inr (5, [.inl 244])), .inl (0, 20), .inr (.inr (5, [.inl 246])), .inl (0, 640), .inr (.inr (7, [.inl 248, .inl 250, .inl 252, .inl 254, .inl 256, .inl 258, .inl 260])), .inr (.inr (5, [.inl 249])), .inl (0, 12), .inr (.inr (5, [.inl 251])), .inl (0, 12), .inr (.inr (5, [.inl 253])), .inl (0, 12), .inr (.inr (5, [.inl 255])), .inl (0, 12), .inr (.inr (5, [.inl 257])), .inl (0, 12), .inr (.inr (5, [.inl 259])), .inl (0, 24), .inr (.inr (5, [.inl 261])), .inl (0, 192), .inr (.inr (8, [.inl 263, .inl 272, .inr 0, .inr 0, .inr 0])), .inr (.inr (3, [.inr 0, .inl 264, .inl 266, .inl 268, .inl 270])), .inr (.inr (5, [.inl 265])), .inl (0, 20), .inr (.inr (5, [.inl 267])), .inl (0, 20), .inr (.inr (5, [.inl 269])), .inl (0, 20), .inr (.inr (5, [.inl 271])), .inl (0, 640), .inr (.inr (7, [.inl 273, .inl 275, .inl 277, .inl 279, .inl 281, .inl 283, .inl 285])), .inr (.inr (5, [.inl 274])), .inl (0, 12), .inr (.inr (5, [.inl 276])), .inl (0, 12), .inr (.inr (5, [.inl 278])), .inl (0, 12), .inr (.inr (5, [.inl 280])), .inl (0, 12), .inr (.inr (5, [.inl 282])), .inl (0, 12), .inr (.inr (5, [.inl 284])), .inl (0, 24), .inr (.inr (5, [.inl 286])), .inl (0, 192), .inr (.inr (5, [.inl 288])), .inl (0, 2), .inr (.inr (9, [.inr 0, .inl 290, .inl 292, .inl 294, .inl 296, .inl 298, .inl 300, .inl 302, .inr 0, .inr 0])), .inr (.inr (5, [.inl 291])), .inl (0, 640), .inr (.inr (5, [.inl 293])), .inl (0, 640), .inr (.inr (5, [.inl 295])), .inl (0, 640), .inr (.inr (5, [.inl 297])), .inl (0, 640), .inr (.inr (5, [.inl 299])), .inl (0, 21), .inr (.inr (5, [.inl 301])), .inl (0, 20), .inr (.inr (5, [.inl 303])), .inl (0, 32), .inr (.inr (0, [.inl 305, .inl 307, .inl 309, .inl 311, .inl 313, .inl 315, .inl 317, .inl 319, .inl 321, .inl 323, .inl 325, .inr 0, .inr 0, .inr 0])), .inr (.inr (5, [.inl 306])), .inl (0, 640), .inr (.inr (5, [.inl 308])), .inl (0, 640), .inr (.inr (5, [.inl 310])), .inl (0, 640), .inr (.inr (5, [.inl 312])), .inl (0, 640), .inr (.inr (5, [.inl 314])), .inl (0, 640), .inr (.inr (5, [.inl 316])), .inl (0, 640), .inr (.inr (5, [.inl 318])), .inl (0, 640), .inr (.inr (5, [.inl 320])), .inl (0, 640), .inr (.inr (5, [.inl 322])), .inl (0, 21), .inr (.inr (5, [.inl 324])), .inl (0, 252), .inr (.inr (5, [.inl 326])), .inl (0, 12), .inr (.inr (4, [.inl 328, .inl 330, .inl 332, .inl 334, .inl 336, .inl 338])), .inr (.inr (5, [.inl 329])), .inl (0, 20), .inr (.inr (5, [.inl 331])), .inl (0, 20), .inr (.inr (5, [.inl 333])), .inl (0, 20), .inr (.inr (5, [.inl 335])), .inl (0, 20), .inr (.inr (5, [.inl 337])), .inl (0, 20), .inr (.inr (5, [.inl 339])), .inl (0, 20), .inr (.inr (10, [.inr 0, .inl 341, .inl 343])), .inr (.inr (5, [.inl 342])), .inl (0, 640), .inr (.inr (5, [.inl 344])), .inl (0, 640), .inr (.inr (5, [.inl 346])), .inl (0, 20)]
def ShB : List ShC := [.inr (.inr (12, [.inl 1, .inr 0, .inl 2, .inl 3, .inr 0, .inl 4, .inl 5, .inl 6, .inl 7, .inl 8, .inl 9, .inl 10, .inr 0, .inl 11, .inl 12, .inl 13, .inl 14, .inl 15, .inr 0, .inr 0, .inr 0, .inl 16, .inr 0, .inr 0, .inr 0, .inr 0, .inr 0, .inr 0, .inr 0, .inr 0, .inl 17, .inl 18, .inr 0, .inr 0, .inr 0, .inr 0, .inr 0, .inr 0, .inl 19, .inl 20, .inr 1])), .inl (0, 10780), .inl (1, 2), .inl (0, 72), .inl (0, 641), .inl (0, 641), .inl (0, 641), .inl (0, 641), .inl (0, 641), .inl (0, 641), .inl (0, 641), .inl (0, 21), .inl (1, 20), .inl (0, 21), .inl (0, 252), .inl (0, 12), .inl (0, 20), .inl (0, 2), .inl (0, 2), .inl (0, 17), .inl (0, 37)]
def ringA : List Nat := [36, 61, 86, 111, 136, 161, 186, 211]
def imgsA : List Nat := [237, 262]
def lnA (k : Nat) : Nat := match ShA[k]? with
  | some (.inl (_, n)) => n
  | _ => 0
theorem sA0 {w : Wd} (h : shp w = ShA) : (shp w)[0]? = some (.inr (.inr (11, [.inl 1, .inl 26, .inl 29, .inl 34, .inl 236, .inl 287, .inl 289, .inl 304, .inl 327, .inl 340, .inl 345, .inr 0]))) := by rw [h]; decide +kernel
theorem sA1 {w : Wd} (h : shp w = ShA) : (shp w)[1]? = some (.inr (.inr (8, [.inl 2, .inl 11, .inr 0, .inr 0, .inr 0]))) := by rw [h]; decide +kernel
theorem sA2 {w : Wd} (h : shp w = ShA) : (shp w)[2]? = some (.inr (.inr (3, [.inr 0, .inl 3, .inl 5, .inl 7, .inl 9]))) := by rw [h]; decide +kernel
theorem sA3 {w : Wd} (h : shp w = ShA) : (shp w)[3]? = some (.inr (.inr (5, [.inl 4]))) := by rw [h]; decide +kernel
theorem sA4 {w : Wd} (h : shp w = ShA) : (shp w)[4]? = some (.inl (0, lnA 4)) := by rw [h]; decide +kernel
theorem sA5 {w : Wd} (h : shp w = ShA) : (shp w)[5]? = some (.inr (.inr (5, [.inl 6]))) := by rw [h]; decide +kernel
theorem sA6 {w : Wd} (h : shp w = ShA) : (shp w)[6]? = some (.inl (0, lnA 6)) := by rw [h]; decide +kernel
theorem sA7 {w : Wd} (h : shp w = ShA) : (shp w)[7]? = some (.inr (.inr (5, [.inl 8]))) := by rw [h]; decide +kernel
theorem sA8 {w : Wd} (h : shp w = ShA) : (shp w)[8]? = some (.inl (0, lnA 8)) := by rw [h]; decide +kernel
theorem sA9 {w : Wd} (h : shp w = ShA) : (shp w)[9]? = some (.inr (.inr (5, [.inl 10]))) := by rw [h]; decide +kernel
theorem sA10 {w : Wd} (h : shp w = ShA) : (shp w)[10]? = some (.inl (0, lnA 10)) := by rw [h]; decide +kernel
theorem sA11 {w : Wd} (h : shp w = ShA) : (shp w)[11]? = some (.inr (.inr (7, [.inl 12, .inl 14, .inl 16, .inl 18, .inl 20, .inl 22, .inl 24]))) := by rw [h]; decide +kernel
theorem sA12 {w : Wd} (h : shp w = ShA) : (shp w)[12]? = some (.inr (.inr (5, [.inl 13]))) := by rw [h]; decide +kernel
theorem sA13 {w : Wd} (h : shp w = ShA) : (shp w)[13]? = some (.inl (0, lnA 13)) := by rw [h]; decide +kernel
theorem sA14 {w : Wd} (h : shp w = ShA) : (shp w)[14]? = some (.inr (.inr (5, [.inl 15]))) := by rw [h]; decide +kernel
theorem sA15 {w : Wd} (h : shp w = ShA) : (shp w)[15]? = some (.inl (0, lnA 15)) := by rw [h]; decide +kernel
theorem sA16 {w : Wd} (h : shp w = ShA) : (shp w)[16]? = some (.inr (.inr (5, [.inl 17]))) := by rw [h]; decide +kernel
theorem sA17 {w : Wd} (h : shp w = ShA) : (shp w)[17]? = some (.inl (0, lnA 17)) := by rw [h]; decide +kernel
theorem sA18 {w : Wd} (h : shp w = ShA) : (shp w)[18]? = some (.inr (.inr (5, [.inl 19]))) := by rw [h]; decide +kernel
theorem sA19 {w : Wd} (h : shp w = ShA) : (shp w)[19]? = some (.inl (0, lnA 19)) := by rw [h]; decide +kernel
theorem sA20 {w : Wd} (h : shp w = ShA) : (shp w)[20]? = some (.inr (.inr (5, [.inl 21]))) := by rw [h]; decide +kernel
theorem sA21 {w : Wd} (h : shp w = ShA) : (shp w)[21]? = some (.inl (0, lnA 21)) := by rw [h]; decide +kernel
theorem sA22 {w : Wd} (h : shp w = ShA) : (shp w)[22]? = some (.inr (.inr (5, [.inl 23]))) := by rw [h]; decide +kernel
theorem sA23 {w : Wd} (h : shp w = ShA) : (shp w)[23]? = some (.inl (0, lnA 23)) := by rw [h]; decide +kernel
theorem sA24 {w : Wd} (h : shp w = ShA) : (shp w)[24]? = some (.inr (.inr (5, [.inl 25]))) := by rw [h]; decide +kernel
theorem sA25 {w : Wd} (h : shp w = ShA) : (shp w)[25]? = some (.inl (0, lnA 25)) := by rw [h]; decide +kernel
theorem sA26 {w : Wd} (h : shp w = ShA) : (shp w)[26]? = some (.inr (.inr (1, [.inr 0, .inl 27]))) := by rw [h]; decide +kernel
theorem sA27 {w : Wd} (h : shp w = ShA) : (shp w)[27]? = some (.inr (.inr (5, [.inl 28]))) := by rw [h]; decide +kernel
theorem sA28 {w : Wd} (h : shp w = ShA) : (shp w)[28]? = some (.inl (0, lnA 28)) := by rw [h]; decide +kernel
theorem sA29 {w : Wd} (h : shp w = ShA) : (shp w)[29]? = some (.inr (.inr (6, [.inl 30, .inl 32, .inr 0]))) := by rw [h]; decide +kernel
theorem sA30 {w : Wd} (h : shp w = ShA) : (shp w)[30]? = some (.inr (.inr (5, [.inl 31]))) := by rw [h]; decide +kernel
theorem sA31 {w : Wd} (h : shp w = ShA) : (shp w)[31]? = some (.inl (0, lnA 31)) := by rw [h]; decide +kernel
theorem sA32 {w : Wd} (h : shp w = ShA) : (shp w)[32]? = some (.inr (.inr (5, [.inl 33]))) := by rw [h]; decide +kernel
theorem sA33 {w : Wd} (h : shp w = ShA) : (shp w)[33]? = some (.inl (0, lnA 33)) := by rw [h]; decide +kernel
theorem sA34 {w : Wd} (h : shp w = ShA) : (shp w)[34]? = some (.inr (.inr (2, [.inr 0, .inr 0, .inl 35]))) := by rw [h]; decide +kernel
theorem sA35 {w : Wd} (h : shp w = ShA) : (shp w)[35]? = some (.inr (.inl ringA)) := by rw [h]; decide +kernel
theorem sA36 {w : Wd} (h : shp w = ShA) : (shp w)[36]? = some (.inr (.inr (8, [.inl 37, .inl 46, .inr 0, .inr 0, .inr 0]))) := by rw [h]; decide +kernel
theorem sA37 {w : Wd} (h : shp w = ShA) : (shp w)[37]? = some (.inr (.inr (3, [.inr 0, .inl 38, .inl 40, .inl 42, .inl 44]))) := by rw [h]; decide +kernel
theorem sA38 {w : Wd} (h : shp w = ShA) : (shp w)[38]? = some (.inr (.inr (5, [.inl 39]))) := by rw [h]; decide +kernel
theorem sA39 {w : Wd} (h : shp w = ShA) : (shp w)[39]? = some (.inl (0, lnA 39)) := by rw [h]; decide +kernel
theorem sA40 {w : Wd} (h : shp w = ShA) : (shp w)[40]? = some (.inr (.inr (5, [.inl 41]))) := by rw [h]; decide +kernel
theorem sA41 {w : Wd} (h : shp w = ShA) : (shp w)[41]? = some (.inl (0, lnA 41)) := by rw [h]; decide +kernel
theorem sA42 {w : Wd} (h : shp w = ShA) : (shp w)[42]? = some (.inr (.inr (5, [.inl 43]))) := by rw [h]; decide +kernel
theorem sA43 {w : Wd} (h : shp w = ShA) : (shp w)[43]? = some (.inl (0, lnA 43)) := by rw [h]; decide +kernel
theorem sA44 {w : Wd} (h : shp w = ShA) : (shp w)[44]? = some (.inr (.inr (5, [.inl 45]))) := by rw [h]; decide +kernel
theorem sA45 {w : Wd} (h : shp w = ShA) : (shp w)[45]? = some (.inl (0, lnA 45)) := by rw [h]; decide +kernel
theorem sA46 {w : Wd} (h : shp w = ShA) : (shp w)[46]? = some (.inr (.inr (7, [.inl 47, .inl 49, .inl 51, .inl 53, .inl 55, .inl 57, .inl 59]))) := by rw [h]; decide +kernel
theorem sA47 {w : Wd} (h : shp w = ShA) : (shp w)[47]? = some (.inr (.inr (5, [.inl 48]))) := by rw [h]; decide +kernel
theorem sA48 {w : Wd} (h : shp w = ShA) : (shp w)[48]? = some (.inl (0, lnA 48)) := by rw [h]; decide +kernel
theorem sA49 {w : Wd} (h : shp w = ShA) : (shp w)[49]? = some (.inr (.inr (5, [.inl 50]))) := by rw [h]; decide +kernel
theorem sA50 {w : Wd} (h : shp w = ShA) : (shp w)[50]? = some (.inl (0, lnA 50)) := by rw [h]; decide +kernel
theorem sA51 {w : Wd} (h : shp w = ShA) : (shp w)[51]? = some (.inr (.inr (5, [.inl 52]))) := by rw [h]; decide +kernel
theorem sA52 {w : Wd} (h : shp w = ShA) : (shp w)[52]? = some (.inl (0, lnA 52)) := by rw [h]; decide +kernel
theorem sA53 {w : Wd} (h : shp w = ShA) : (shp w)[53]? = some (.inr (.inr (5, [.inl 54]))) := by rw [h]; decide +kernel
theorem sA54 {w : Wd} (h : shp w = ShA) : (shp w)[54]? = some (.inl (0, lnA 54)) := by rw [h]; decide +kernel
theorem sA55 {w : Wd} (h : shp w = ShA) : (shp w)[55]? = some (.inr (.inr (5, [.inl 56]))) := by rw [h]; decide +kernel
theorem sA56 {w : Wd} (h : shp w = ShA) : (shp w)[56]? = some (.inl (0, lnA 56)) := by rw [h]; decide +kernel
theorem sA57 {w : Wd} (h : shp w = ShA) : (shp w)[57]? = some (.inr (.inr (5, [.inl 58]))) := by rw [h]; decide +kernel
theorem sA58 {w : Wd} (h : shp w = ShA) : (shp w)[58]? = some (.inl (0, lnA 58)) := by rw [h]; decide +kernel
theorem sA59 {w : Wd} (h : shp w = ShA) : (shp w)[59]? = some (.inr (.inr (5, [.inl 60]))) := by rw [h]; decide +kernel
theorem sA60 {w : Wd} (h : shp w = ShA) : (shp w)[60]? = some (.inl (0, lnA 60)) := by rw [h]; decide +kernel
theorem sA61 {w : Wd} (h : shp w = ShA) : (shp w)[61]? = some (.inr (.inr (8, [.inl 62, .inl 71, .inr 0, .inr 0, .inr 0]))) := by rw [h]; decide +kernel
theorem sA62 {w : Wd} (h : shp w = ShA) : (shp w)[62]? = some (.inr (.inr (3, [.inr 0, .inl 63, .inl 65, .inl 67, .inl 69]))) := by rw [h]; decide +kernel
theorem sA63 {w : Wd} (h : shp w = ShA) : (shp w)[63]? = some (.inr (.inr (5, [.inl 64]))) := by rw [h]; decide +kernel
theorem sA64 {w : Wd} (h : shp w = ShA) : (shp w)[64]? = some (.inl (0, lnA 64)) := by rw [h]; decide +kernel
theorem sA65 {w : Wd} (h : shp w = ShA) : (shp w)[65]? = some (.inr (.inr (5, [.inl 66]))) := by rw [h]; decide +kernel
theorem sA66 {w : Wd} (h : shp w = ShA) : (shp w)[66]? = some (.inl (0, lnA 66)) := by rw [h]; decide +kernel
theorem sA67 {w : Wd} (h : shp w = ShA) : (shp w)[67]? = some (.inr (.inr (5, [.inl 68]))) := by rw [h]; decide +kernel
theorem sA68 {w : Wd} (h : shp w = ShA) : (shp w)[68]? = some (.inl (0, lnA 68)) := by rw [h]; decide +kernel
theorem sA69 {w : Wd} (h : shp w = ShA) : (shp w)[69]? = some (.inr (.inr (5, [.inl 70]))) := by rw [h]; decide +kernel
theorem sA70 {w : Wd} (h : shp w = ShA) : (shp w)[70]? = some (.inl (0, lnA 70)) := by rw [h]; decide +kernel
theorem sA71 {w : Wd} (h : shp w = ShA) : (shp w)[71]? = some (.inr (.inr (7, [.inl 72, .inl 74, .inl 76, .inl 78, .inl 80, .inl 82, .inl 84]))) := by rw [h]; decide +kernel
theorem sA72 {w : Wd} (h : shp w = ShA) : (shp w)[72]? = some (.inr (.inr (5, [.inl 73]))) := by rw [h]; decide +kernel
theorem sA73 {w : Wd} (h : shp w = ShA) : (shp w)[73]? = some (.inl (0, lnA 73)) := by rw [h]; decide +kernel
theorem sA74 {w : Wd} (h : shp w = ShA) : (shp w)[74]? = some (.inr (.inr (5, [.inl 75]))) := by rw [h]; decide +kernel
theorem sA75 {w : Wd} (h : shp w = ShA) : (shp w)[75]? = some (.inl (0, lnA 75)) := by rw [h]; decide +kernel
theorem sA76 {w : Wd} (h : shp w = ShA) : (shp w)[76]? = some (.inr (.inr (5, [.inl 77]))) := by rw [h]; decide +kernel
theorem sA77 {w : Wd} (h : shp w = ShA) : (shp w)[77]? = some (.inl (0, lnA 77)) := by rw [h]; decide +kernel
theorem sA78 {w : Wd} (h : shp w = ShA) : (shp w)[78]? = some (.inr (.inr (5, [.inl 79]))) := by rw [h]; decide +kernel
theorem sA79 {w : Wd} (h : shp w = ShA) : (shp w)[79]? = some (.inl (0, lnA 79)) := by rw [h]; decide +kernel
theorem sA80 {w : Wd} (h : shp w = ShA) : (shp w)[80]? = some (.inr (.inr (5, [.inl 81]))) := by rw [h]; decide +kernel
theorem sA81 {w : Wd} (h : shp w = ShA) : (shp w)[81]? = some (.inl (0, lnA 81)) := by rw [h]; decide +kernel
theorem sA82 {w : Wd} (h : shp w = ShA) : (shp w)[82]? = some (.inr (.inr (5, [.inl 83]))) := by rw [h]; decide +kernel
theorem sA83 {w : Wd} (h : shp w = ShA) : (shp w)[83]? = some (.inl (0, lnA 83)) := by rw [h]; decide +kernel
theorem sA84 {w : Wd} (h : shp w = ShA) : (shp w)[84]? = some (.inr (.inr (5, [.inl 85]))) := by rw [h]; decide +kernel
theorem sA85 {w : Wd} (h : shp w = ShA) : (shp w)[85]? = some (.inl (0, lnA 85)) := by rw [h]; decide +kernel
theorem sA86 {w : Wd} (h : shp w = ShA) : (shp w)[86]? = some (.inr (.inr (8, [.inl 87, .inl 96, .inr 0, .inr 0, .inr 0]))) := by rw [h]; decide +kernel
theorem sA87 {w : Wd} (h : shp w = ShA) : (shp w)[87]? = some (.inr (.inr (3, [.inr 0, .inl 88, .inl 90, .inl 92, .inl 94]))) := by rw [h]; decide +kernel
theorem sA88 {w : Wd} (h : shp w = ShA) : (shp w)[88]? = some (.inr (.inr (5, [.inl 89]))) := by rw [h]; decide +kernel
theorem sA89 {w : Wd} (h : shp w = ShA) : (shp w)[89]? = some (.inl (0, lnA 89)) := by rw [h]; decide +kernel
theorem sA90 {w : Wd} (h : shp w = ShA) : (shp w)[90]? = some (.inr (.inr (5, [.inl 91]))) := by rw [h]; decide +kernel
theorem sA91 {w : Wd} (h : shp w = ShA) : (shp w)[91]? = some (.inl (0, lnA 91)) := by rw [h]; decide +kernel
theorem sA92 {w : Wd} (h : shp w = ShA) : (shp w)[92]? = some (.inr (.inr (5, [.inl 93]))) := by rw [h]; decide +kernel
theorem sA93 {w : Wd} (h : shp w = ShA) : (shp w)[93]? = some (.inl (0, lnA 93)) := by rw [h]; decide +kernel
theorem sA94 {w : Wd} (h : shp w = ShA) : (shp w)[94]? = some (.inr (.inr (5, [.inl 95]))) := by rw [h]; decide +kernel
theorem sA95 {w : Wd} (h : shp w = ShA) : (shp w)[95]? = some (.inl (0, lnA 95)) := by rw [h]; decide +kernel
theorem sA96 {w : Wd} (h : shp w = ShA) : (shp w)[96]? = some (.inr (.inr (7, [.inl 97, .inl 99, .inl 101, .inl 103, .inl 105, .inl 107, .inl 109]))) := by rw [h]; decide +kernel
theorem sA97 {w : Wd} (h : shp w = ShA) : (shp w)[97]? = some (.inr (.inr (5, [.inl 98]))) := by rw [h]; decide +kernel
theorem sA98 {w : Wd} (h : shp w = ShA) : (shp w)[98]? = some (.inl (0, lnA 98)) := by rw [h]; decide +kernel
theorem sA99 {w : Wd} (h : shp w = ShA) : (shp w)[99]? = some (.inr (.inr (5, [.inl 100]))) := by rw [h]; decide +kernel
theorem sA100 {w : Wd} (h : shp w = ShA) : (shp w)[100]? = some (.inl (0, lnA 100)) := by rw [h]; decide +kernel
theorem sA101 {w : Wd} (h : shp w = ShA) : (shp w)[101]? = some (.inr (.inr (5, [.inl 102]))) := by rw [h]; decide +kernel
theorem sA102 {w : Wd} (h : shp w = ShA) : (shp w)[102]? = some (.inl (0, lnA 102)) := by rw [h]; decide +kernel
theorem sA103 {w : Wd} (h : shp w = ShA) : (shp w)[103]? = some (.inr (.inr (5, [.inl 104]))) := by rw [h]; decide +kernel
theorem sA104 {w : Wd} (h : shp w = ShA) : (shp w)[104]? = some (.inl (0, lnA 104)) := by rw [h]; decide +kernel
theorem sA105 {w : Wd} (h : shp w = ShA) : (shp w)[105]? = some (.inr (.inr (5, [.inl 106]))) := by rw [h]; decide +kernel
theorem sA106 {w : Wd} (h : shp w = ShA) : (shp w)[106]? = some (.inl (0, lnA 106)) := by rw [h]; decide +kernel
theorem sA107 {w : Wd} (h : shp w = ShA) : (shp w)[107]? = some (.inr (.inr (5, [.inl 108]))) := by rw [h]; decide +kernel
theorem sA108 {w : Wd} (h : shp w = ShA) : (shp w)[108]? = some (.inl (0, lnA 108)) := by rw [h]; decide +kernel
theorem sA109 {w : Wd} (h : shp w = ShA) : (shp w)[109]? = some (.inr (.inr (5, [.inl 110]))) := by rw [h]; decide +kernel
theorem sA110 {w : Wd} (h : shp w = ShA) : (shp w)[110]? = some (.inl (0, lnA 110)) := by rw [h]; decide +kernel
theorem sA111 {w : Wd} (h : shp w = ShA) : (shp w)[111]? = some (.inr (.inr (8, [.inl 112, .inl 121, .inr 0, .inr 0, .inr 0]))) := by rw [h]; decide +kernel
theorem sA112 {w : Wd} (h : shp w = ShA) : (shp w)[112]? = some (.inr (.inr (3, [.inr 0, .inl 113, .inl 115, .inl 117, .inl 119]))) := by rw [h]; decide +kernel
theorem sA113 {w : Wd} (h : shp w = ShA) : (shp w)[113]? = some (.inr (.inr (5, [.inl 114]))) := by rw [h]; decide +kernel
theorem sA114 {w : Wd} (h : shp w = ShA) : (shp w)[114]? = some (.inl (0, lnA 114)) := by rw [h]; decide +kernel
theorem sA115 {w : Wd} (h : shp w = ShA) : (shp w)[115]? = some (.inr (.inr (5, [.inl 116]))) := by rw [h]; decide +kernel
theorem sA116 {w : Wd} (h : shp w = ShA) : (shp w)[116]? = some (.inl (0, lnA 116)) := by rw [h]; decide +kernel
theorem sA117 {w : Wd} (h : shp w = ShA) : (shp w)[117]? = some (.inr (.inr (5, [.inl 118]))) := by rw [h]; decide +kernel
theorem sA118 {w : Wd} (h : shp w = ShA) : (shp w)[118]? = some (.inl (0, lnA 118)) := by rw [h]; decide +kernel
theorem sA119 {w : Wd} (h : shp w = ShA) : (shp w)[119]? = some (.inr (.inr (5, [.inl 120]))) := by rw [h]; decide +kernel
theorem sA120 {w : Wd} (h : shp w = ShA) : (shp w)[120]? = some (.inl (0, lnA 120)) := by rw [h]; decide +kernel
theorem sA121 {w : Wd} (h : shp w = ShA) : (shp w)[121]? = some (.inr (.inr (7, [.inl 122, .inl 124, .inl 126, .inl 128, .inl 130, .inl 132, .inl 134]))) := by rw [h]; decide +kernel
theorem sA122 {w : Wd} (h : shp w = ShA) : (shp w)[122]? = some (.inr (.inr (5, [.inl 123]))) := by rw [h]; decide +kernel
theorem sA123 {w : Wd} (h : shp w = ShA) : (shp w)[123]? = some (.inl (0, lnA 123)) := by rw [h]; decide +kernel
theorem sA124 {w : Wd} (h : shp w = ShA) : (shp w)[124]? = some (.inr (.inr (5, [.inl 125]))) := by rw [h]; decide +kernel
theorem sA125 {w : Wd} (h : shp w = ShA) : (shp w)[125]? = some (.inl (0, lnA 125)) := by rw [h]; decide +kernel
theorem sA126 {w : Wd} (h : shp w = ShA) : (shp w)[126]? = some (.inr (.inr (5, [.inl 127]))) := by rw [h]; decide +kernel
theorem sA127 {w : Wd} (h : shp w = ShA) : (shp w)[127]? = some (.inl (0, lnA 127)) := by rw [h]; decide +kernel
theorem sA128 {w : Wd} (h : shp w = ShA) : (shp w)[128]? = some (.inr (.inr (5, [.inl 129]))) := by rw [h]; decide +kernel
theorem sA129 {w : Wd} (h : shp w = ShA) : (shp w)[129]? = some (.inl (0, lnA 129)) := by rw [h]; decide +kernel
theorem sA130 {w : Wd} (h : shp w = ShA) : (shp w)[130]? = some (.inr (.inr (5, [.inl 131]))) := by rw [h]; decide +kernel
theorem sA131 {w : Wd} (h : shp w = ShA) : (shp w)[131]? = some (.inl (0, lnA 131)) := by rw [h]; decide +kernel
theorem sA132 {w : Wd} (h : shp w = ShA) : (shp w)[132]? = some (.inr (.inr (5, [.inl 133]))) := by rw [h]; decide +kernel
theorem sA133 {w : Wd} (h : shp w = ShA) : (shp w)[133]? = some (.inl (0, lnA 133)) := by rw [h]; decide +kernel
theorem sA134 {w : Wd} (h : shp w = ShA) : (shp w)[134]? = some (.inr (.inr (5, [.inl 135]))) := by rw [h]; decide +kernel
theorem sA135 {w : Wd} (h : shp w = ShA) : (shp w)[135]? = some (.inl (0, lnA 135)) := by rw [h]; decide +kernel
theorem sA136 {w : Wd} (h : shp w = ShA) : (shp w)[136]? = some (.inr (.inr (8, [.inl 137, .inl 146, .inr 0, .inr 0, .inr 0]))) := by rw [h]; decide +kernel
theorem sA137 {w : Wd} (h : shp w = ShA) : (shp w)[137]? = some (.inr (.inr (3, [.inr 0, .inl 138, .inl 140, .inl 142, .inl 144]))) := by rw [h]; decide +kernel
theorem sA138 {w : Wd} (h : shp w = ShA) : (shp w)[138]? = some (.inr (.inr (5, [.inl 139]))) := by rw [h]; decide +kernel
theorem sA139 {w : Wd} (h : shp w = ShA) : (shp w)[139]? = some (.inl (0, lnA 139)) := by rw [h]; decide +kernel
theorem sA140 {w : Wd} (h : shp w = ShA) : (shp w)[140]? = some (.inr (.inr (5, [.inl 141]))) := by rw [h]; decide +kernel
theorem sA141 {w : Wd} (h : shp w = ShA) : (shp w)[141]? = some (.inl (0, lnA 141)) := by rw [h]; decide +kernel
theorem sA142 {w : Wd} (h : shp w = ShA) : (shp w)[142]? = some (.inr (.inr (5, [.inl 143]))) := by rw [h]; decide +kernel
theorem sA143 {w : Wd} (h : shp w = ShA) : (shp w)[143]? = some (.inl (0, lnA 143)) := by rw [h]; decide +kernel
theorem sA144 {w : Wd} (h : shp w = ShA) : (shp w)[144]? = some (.inr (.inr (5, [.inl 145]))) := by rw [h]; decide +kernel
theorem sA145 {w : Wd} (h : shp w = ShA) : (shp w)[145]? = some (.inl (0, lnA 145)) := by rw [h]; decide +kernel
theorem sA146 {w : Wd} (h : shp w = ShA) : (shp w)[146]? = some (.inr (.inr (7, [.inl 147, .inl 149, .inl 151, .inl 153, .inl 155, .inl 157, .inl 159]))) := by rw [h]; decide +kernel
theorem sA147 {w : Wd} (h : shp w = ShA) : (shp w)[147]? = some (.inr (.inr (5, [.inl 148]))) := by rw [h]; decide +kernel
theorem sA148 {w : Wd} (h : shp w = ShA) : (shp w)[148]? = some (.inl (0, lnA 148)) := by rw [h]; decide +kernel
theorem sA149 {w : Wd} (h : shp w = ShA) : (shp w)[149]? = some (.inr (.inr (5, [.inl 150]))) := by rw [h]; decide +kernel
theorem sA150 {w : Wd} (h : shp w = ShA) : (shp w)[150]? = some (.inl (0, lnA 150)) := by rw [h]; decide +kernel
theorem sA151 {w : Wd} (h : shp w = ShA) : (shp w)[151]? = some (.inr (.inr (5, [.inl 152]))) := by rw [h]; decide +kernel
theorem sA152 {w : Wd} (h : shp w = ShA) : (shp w)[152]? = some (.inl (0, lnA 152)) := by rw [h]; decide +kernel
theorem sA153 {w : Wd} (h : shp w = ShA) : (shp w)[153]? = some (.inr (.inr (5, [.inl 154]))) := by rw [h]; decide +kernel
theorem sA154 {w : Wd} (h : shp w = ShA) : (shp w)[154]? = some (.inl (0, lnA 154)) := by rw [h]; decide +kernel
theorem sA155 {w : Wd} (h : shp w = ShA) : (shp w)[155]? = some (.inr (.inr (5, [.inl 156]))) := by rw [h]; decide +kernel
theorem sA156 {w : Wd} (h : shp w = ShA) : (shp w)[156]? = some (.inl (0, lnA 156)) := by rw [h]; decide +kernel
theorem sA157 {w : Wd} (h : shp w = ShA) : (shp w)[157]? = some (.inr (.inr (5, [.inl 158]))) := by rw [h]; decide +kernel
theorem sA158 {w : Wd} (h : shp w = ShA) : (shp w)[158]? = some (.inl (0, lnA 158)) := by rw [h]; decide +kernel
theorem sA159 {w : Wd} (h : shp w = ShA) : (shp w)[159]? = some (.inr (.inr (5, [.inl 160]))) := by rw [h]; decide +kernel
theorem sA160 {w : Wd} (h : shp w = ShA) : (shp w)[160]? = some (.inl (0, lnA 160)) := by rw [h]; decide +kernel
theorem sA161 {w : Wd} (h : shp w = ShA) : (shp w)[161]? = some (.inr (.inr (8, [.inl 162, .inl 171, .inr 0, .inr 0, .inr 0]))) := by rw [h]; decide +kernel
theorem sA162 {w : Wd} (h : shp w = ShA) : (shp w)[162]? = some (.inr (.inr (3, [.inr 0, .inl 163, .inl 165, .inl 167, .inl 169]))) := by rw [h]; decide +kernel
theorem sA163 {w : Wd} (h : shp w = ShA) : (shp w)[163]? = some (.inr (.inr (5, [.inl 164]))) := by rw [h]; decide +kernel
theorem sA164 {w : Wd} (h : shp w = ShA) : (shp w)[164]? = some (.inl (0, lnA 164)) := by rw [h]; decide +kernel
theorem sA165 {w : Wd} (h : shp w = ShA) : (shp w)[165]? = some (.inr (.inr (5, [.inl 166]))) := by rw [h]; decide +kernel
theorem sA166 {w : Wd} (h : shp w = ShA) : (shp w)[166]? = some (.inl (0, lnA 166)) := by rw [h]; decide +kernel
theorem sA167 {w : Wd} (h : shp w = ShA) : (shp w)[167]? = some (.inr (.inr (5, [.inl 168]))) := by rw [h]; decide +kernel
theorem sA168 {w : Wd} (h : shp w = ShA) : (shp w)[168]? = some (.inl (0, lnA 168)) := by rw [h]; decide +kernel
theorem sA169 {w : Wd} (h : shp w = ShA) : (shp w)[169]? = some (.inr (.inr (5, [.inl 170]))) := by rw [h]; decide +kernel
theorem sA170 {w : Wd} (h : shp w = ShA) : (shp w)[170]? = some (.inl (0, lnA 170)) := by rw [h]; decide +kernel
theorem sA171 {w : Wd} (h : shp w = ShA) : (shp w)[171]? = some (.inr (.inr (7, [.inl 172, .inl 174, .inl 176, .inl 178, .inl 180, .inl 182, .inl 184]))) := by rw [h]; decide +kernel
theorem sA172 {w : Wd} (h : shp w = ShA) : (shp w)[172]? = some (.inr (.inr (5, [.inl 173]))) := by rw [h]; decide +kernel
theorem sA173 {w : Wd} (h : shp w = ShA) : (shp w)[173]? = some (.inl (0, lnA 173)) := by rw [h]; decide +kernel
theorem sA174 {w : Wd} (h : shp w = ShA) : (shp w)[174]? = some (.inr (.inr (5, [.inl 175]))) := by rw [h]; decide +kernel
theorem sA175 {w : Wd} (h : shp w = ShA) : (shp w)[175]? = some (.inl (0, lnA 175)) := by rw [h]; decide +kernel
theorem sA176 {w : Wd} (h : shp w = ShA) : (shp w)[176]? = some (.inr (.inr (5, [.inl 177]))) := by rw [h]; decide +kernel
theorem sA177 {w : Wd} (h : shp w = ShA) : (shp w)[177]? = some (.inl (0, lnA 177)) := by rw [h]; decide +kernel
theorem sA178 {w : Wd} (h : shp w = ShA) : (shp w)[178]? = some (.inr (.inr (5, [.inl 179]))) := by rw [h]; decide +kernel
theorem sA179 {w : Wd} (h : shp w = ShA) : (shp w)[179]? = some (.inl (0, lnA 179)) := by rw [h]; decide +kernel
theorem sA180 {w : Wd} (h : shp w = ShA) : (shp w)[180]? = some (.inr (.inr (5, [.inl 181]))) := by rw [h]; decide +kernel
theorem sA181 {w : Wd} (h : shp w = ShA) : (shp w)[181]? = some (.inl (0, lnA 181)) := by rw [h]; decide +kernel
theorem sA182 {w : Wd} (h : shp w = ShA) : (shp w)[182]? = some (.inr (.inr (5, [.inl 183]))) := by rw [h]; decide +kernel
theorem sA183 {w : Wd} (h : shp w = ShA) : (shp w)[183]? = some (.inl (0, lnA 183)) := by rw [h]; decide +kernel
theorem sA184 {w : Wd} (h : shp w = ShA) : (shp w)[184]? = some (.inr (.inr (5, [.inl 185]))) := by rw [h]; decide +kernel
theorem sA185 {w : Wd} (h : shp w = ShA) : (shp w)[185]? = some (.inl (0, lnA 185)) := by rw [h]; decide +kernel
theorem sA186 {w : Wd} (h : shp w = ShA) : (shp w)[186]? = some (.inr (.inr (8, [.inl 187, .inl 196, .inr 0, .inr 0, .inr 0]))) := by rw [h]; decide +kernel
theorem sA187 {w : Wd} (h : shp w = ShA) : (shp w)[187]? = some (.inr (.inr (3, [.inr 0, .inl 188, .inl 190, .inl 192, .inl 194]))) := by rw [h]; decide +kernel
theorem sA188 {w : Wd} (h : shp w = ShA) : (shp w)[188]? = some (.inr (.inr (5, [.inl 189]))) := by rw [h]; decide +kernel
theorem sA189 {w : Wd} (h : shp w = ShA) : (shp w)[189]? = some (.inl (0, lnA 189)) := by rw [h]; decide +kernel
theorem sA190 {w : Wd} (h : shp w = ShA) : (shp w)[190]? = some (.inr (.inr (5, [.inl 191]))) := by rw [h]; decide +kernel
theorem sA191 {w : Wd} (h : shp w = ShA) : (shp w)[191]? = some (.inl (0, lnA 191)) := by rw [h]; decide +kernel
theorem sA192 {w : Wd} (h : shp w = ShA) : (shp w)[192]? = some (.inr (.inr (5, [.inl 193]))) := by rw [h]; decide +kernel
theorem sA193 {w : Wd} (h : shp w = ShA) : (shp w)[193]? = some (.inl (0, lnA 193)) := by rw [h]; decide +kernel
theorem sA194 {w : Wd} (h : shp w = ShA) : (shp w)[194]? = some (.inr (.inr (5, [.inl 195]))) := by rw [h]; decide +kernel
theorem sA195 {w : Wd} (h : shp w = ShA) : (shp w)[195]? = some (.inl (0, lnA 195)) := by rw [h]; decide +kernel
theorem sA196 {w : Wd} (h : shp w = ShA) : (shp w)[196]? = some (.inr (.inr (7, [.inl 197, .inl 199, .inl 201, .inl 203, .inl 205, .inl 207, .inl 209]))) := by rw [h]; decide +kernel
theorem sA197 {w : Wd} (h : shp w = ShA) : (shp w)[197]? = some (.inr (.inr (5, [.inl 198]))) := by rw [h]; decide +kernel
theorem sA198 {w : Wd} (h : shp w = ShA) : (shp w)[198]? = some (.inl (0, lnA 198)) := by rw [h]; decide +kernel
theorem sA199 {w : Wd} (h : shp w = ShA) : (shp w)[199]? = some (.inr (.inr (5, [.inl 200]))) := by rw [h]; decide +kernel
theorem sA200 {w : Wd} (h : shp w = ShA) : (shp w)[200]? = some (.inl (0, lnA 200)) := by rw [h]; decide +kernel
theorem sA201 {w : Wd} (h : shp w = ShA) : (shp w)[201]? = some (.inr (.inr (5, [.inl 202]))) := by rw [h]; decide +kernel
theorem sA202 {w : Wd} (h : shp w = ShA) : (shp w)[202]? = some (.inl (0, lnA 202)) := by rw [h]; decide +kernel
theorem sA203 {w : Wd} (h : shp w = ShA) : (shp w)[203]? = some (.inr (.inr (5, [.inl 204]))) := by rw [h]; decide +kernel
theorem sA204 {w : Wd} (h : shp w = ShA) : (shp w)[204]? = some (.inl (0, lnA 204)) := by rw [h]; decide +kernel
theorem sA205 {w : Wd} (h : shp w = ShA) : (shp w)[205]? = some (.inr (.inr (5, [.inl 206]))) := by rw [h]; decide +kernel
theorem sA206 {w : Wd} (h : shp w = ShA) : (shp w)[206]? = some (.inl (0, lnA 206)) := by rw [h]; decide +kernel
theorem sA207 {w : Wd} (h : shp w = ShA) : (shp w)[207]? = some (.inr (.inr (5, [.inl 208]))) := by rw [h]; decide +kernel
theorem sA208 {w : Wd} (h : shp w = ShA) : (shp w)[208]? = some (.inl (0, lnA 208)) := by rw [h]; decide +kernel
theorem sA209 {w : Wd} (h : shp w = ShA) : (shp w)[209]? = some (.inr (.inr (5, [.inl 210]))) := by rw [h]; decide +kernel
theorem sA210 {w : Wd} (h : shp w = ShA) : (shp w)[210]? = some (.inl (0, lnA 210)) := by rw [h]; decide +kernel
theorem sA211 {w : Wd} (h : shp w = ShA) : (shp w)[211]? = some (.inr (.inr (8, [.inl 212, .inl 221, .inr 0, .inr 0, .inr 0]))) := by rw [h]; decide +kernel
theorem sA212 {w : Wd} (h : shp w = ShA) : (shp w)[212]? = some (.inr (.inr (3, [.inr 0, .inl 213, .inl 215, .inl 217, .inl 219]))) := by rw [h]; decide +kernel
theorem sA213 {w : Wd} (h : shp w = ShA) : (shp w)[213]? = some (.inr (.inr (5, [.inl 214]))) := by rw [h]; decide +kernel
theorem sA214 {w : Wd} (h : shp w = ShA) : (shp w)[214]? = some (.inl (0, lnA 214)) := by rw [h]; decide +kernel
theorem sA215 {w : Wd} (h : shp w = ShA) : (shp w)[215]? = some (.inr (.inr (5, [.inl 216]))) := by rw [h]; decide +kernel
theorem sA216 {w : Wd} (h : shp w = ShA) : (shp w)[216]? = some (.inl (0, lnA 216)) := by rw [h]; decide +kernel
theorem sA217 {w : Wd} (h : shp w = ShA) : (shp w)[217]? = some (.inr (.inr (5, [.inl 218]))) := by rw [h]; decide +kernel
theorem sA218 {w : Wd} (h : shp w = ShA) : (shp w)[218]? = some (.inl (0, lnA 218)) := by rw [h]; decide +kernel
theorem sA219 {w : Wd} (h : shp w = ShA) : (shp w)[219]? = some (.inr (.inr (5, [.inl 220]))) := by rw [h]; decide +kernel
theorem sA220 {w : Wd} (h : shp w = ShA) : (shp w)[220]? = some (.inl (0, lnA 220)) := by rw [h]; decide +kernel
theorem sA221 {w : Wd} (h : shp w = ShA) : (shp w)[221]? = some (.inr (.inr (7, [.inl 222, .inl 224, .inl 226, .inl 228, .inl 230, .inl 232, .inl 234]))) := by rw [h]; decide +kernel
theorem sA222 {w : Wd} (h : shp w = ShA) : (shp w)[222]? = some (.inr (.inr (5, [.inl 223]))) := by rw [h]; decide +kernel
theorem sA223 {w : Wd} (h : shp w = ShA) : (shp w)[223]? = some (.inl (0, lnA 223)) := by rw [h]; decide +kernel
theorem sA224 {w : Wd} (h : shp w = ShA) : (shp w)[224]? = some (.inr (.inr (5, [.inl 225]))) := by rw [h]; decide +kernel
theorem sA225 {w : Wd} (h : shp w = ShA) : (shp w)[225]? = some (.inl (0, lnA 225)) := by rw [h]; decide +kernel
theorem sA226 {w : Wd} (h : shp w = ShA) : (shp w)[226]? = some (.inr (.inr (5, [.inl 227]))) := by rw [h]; decide +kernel
theorem sA227 {w : Wd} (h : shp w = ShA) : (shp w)[227]? = some (.inl (0, lnA 227)) := by rw [h]; decide +kernel
theorem sA228 {w : Wd} (h : shp w = ShA) : (shp w)[228]? = some (.inr (.inr (5, [.inl 229]))) := by rw [h]; decide +kernel
theorem sA229 {w : Wd} (h : shp w = ShA) : (shp w)[229]? = some (.inl (0, lnA 229)) := by rw [h]; decide +kernel
theorem sA230 {w : Wd} (h : shp w = ShA) : (shp w)[230]? = some (.inr (.inr (5, [.inl 231]))) := by rw [h]; decide +kernel
theorem sA231 {w : Wd} (h : shp w = ShA) : (shp w)[231]? = some (.inl (0, lnA 231)) := by rw [h]; decide +kernel
theorem sA232 {w : Wd} (h : shp w = ShA) : (shp w)[232]? = some (.inr (.inr (5, [.inl 233]))) := by rw [h]; decide +kernel
theorem sA233 {w : Wd} (h : shp w = ShA) : (shp w)[233]? = some (.inl (0, lnA 233)) := by rw [h]; decide +kernel
theorem sA234 {w : Wd} (h : shp w = ShA) : (shp w)[234]? = some (.inr (.inr (5, [.inl 235]))) := by rw [h]; decide +kernel
theorem sA235 {w : Wd} (h : shp w = ShA) : (shp w)[235]? = some (.inl (0, lnA 235)) := by rw [h]; decide +kernel
theorem sA236 {w : Wd} (h : shp w = ShA) : (shp w)[236]? = some (.inr (.inl imgsA)) := by rw [h]; decide +kernel
theorem sA237 {w : Wd} (h : shp w = ShA) : (shp w)[237]? = some (.inr (.inr (8, [.inl 238, .inl 247, .inr 0, .inr 0, .inr 0]))) := by rw [h]; decide +kernel
theorem sA238 {w : Wd} (h : shp w = ShA) : (shp w)[238]? = some (.inr (.inr (3, [.inr 0, .inl 239, .inl 241, .inl 243, .inl 245]))) := by rw [h]; decide +kernel
theorem sA239 {w : Wd} (h : shp w = ShA) : (shp w)[239]? = some (.inr (.inr (5, [.inl 240]))) := by rw [h]; decide +kernel
theorem sA240 {w : Wd} (h : shp w = ShA) : (shp w)[240]? = some (.inl (0, lnA 240)) := by rw [h]; decide +kernel
theorem sA241 {w : Wd} (h : shp w = ShA) : (shp w)[241]? = some (.inr (.inr (5, [.inl 242]))) := by rw [h]; decide +kernel
theorem sA242 {w : Wd} (h : shp w = ShA) : (shp w)[242]? = some (.inl (0, lnA 242)) := by rw [h]; decide +kernel
theorem sA243 {w : Wd} (h : shp w = ShA) : (shp w)[243]? = some (.inr (.inr (5, [.inl 244]))) := by rw [h]; decide +kernel
theorem sA244 {w : Wd} (h : shp w = ShA) : (shp w)[244]? = some (.inl (0, lnA 244)) := by rw [h]; decide +kernel
theorem sA245 {w : Wd} (h : shp w = ShA) : (shp w)[245]? = some (.inr (.inr (5, [.inl 246]))) := by rw [h]; decide +kernel
theorem sA246 {w : Wd} (h : shp w = ShA) : (shp w)[246]? = some (.inl (0, lnA 246)) := by rw [h]; decide +kernel
theorem sA247 {w : Wd} (h : shp w = ShA) : (shp w)[247]? = some (.inr (.inr (7, [.inl 248, .inl 250, .inl 252, .inl 254, .inl 256, .inl 258, .inl 260]))) := by rw [h]; decide +kernel
theorem sA248 {w : Wd} (h : shp w = ShA) : (shp w)[248]? = some (.inr (.inr (5, [.inl 249]))) := by rw [h]; decide +kernel
theorem sA249 {w : Wd} (h : shp w = ShA) : (shp w)[249]? = some (.inl (0, lnA 249)) := by rw [h]; decide +kernel
theorem sA250 {w : Wd} (h : shp w = ShA) : (shp w)[250]? = some (.inr (.inr (5, [.inl 251]))) := by rw [h]; decide +kernel
theorem sA251 {w : Wd} (h : shp w = ShA) : (shp w)[251]? = some (.inl (0, lnA 251)) := by rw [h]; decide +kernel
theorem sA252 {w : Wd} (h : shp w = ShA) : (shp w)[252]? = some (.inr (.inr (5, [.inl 253]))) := by rw [h]; decide +kernel
theorem sA253 {w : Wd} (h : shp w = ShA) : (shp w)[253]? = some (.inl (0, lnA 253)) := by rw [h]; decide +kernel
theorem sA254 {w : Wd} (h : shp w = ShA) : (shp w)[254]? = some (.inr (.inr (5, [.inl 255]))) := by rw [h]; decide +kernel
theorem sA255 {w : Wd} (h : shp w = ShA) : (shp w)[255]? = some (.inl (0, lnA 255)) := by rw [h]; decide +kernel
theorem sA256 {w : Wd} (h : shp w = ShA) : (shp w)[256]? = some (.inr (.inr (5, [.inl 257]))) := by rw [h]; decide +kernel
theorem sA257 {w : Wd} (h : shp w = ShA) : (shp w)[257]? = some (.inl (0, lnA 257)) := by rw [h]; decide +kernel
theorem sA258 {w : Wd} (h : shp w = ShA) : (shp w)[258]? = some (.inr (.inr (5, [.inl 259]))) := by rw [h]; decide +kernel
theorem sA259 {w : Wd} (h : shp w = ShA) : (shp w)[259]? = some (.inl (0, lnA 259)) := by rw [h]; decide +kernel
theorem sA260 {w : Wd} (h : shp w = ShA) : (shp w)[260]? = some (.inr (.inr (5, [.inl 261]))) := by rw [h]; decide +kernel
theorem sA261 {w : Wd} (h : shp w = ShA) : (shp w)[261]? = some (.inl (0, lnA 261)) := by rw [h]; decide +kernel
theorem sA262 {w : Wd} (h : shp w = ShA) : (shp w)[262]? = some (.inr (.inr (8, [.inl 263, .inl 272, .inr 0, .inr 0, .inr 0]))) := by rw [h]; decide +kernel
theorem sA263 {w : Wd} (h : shp w = ShA) : (shp w)[263]? = some (.inr (.inr (3, [.inr 0, .inl 264, .inl 266, .inl 268, .inl 270]))) := by rw [h]; decide +kernel
theorem sA264 {w : Wd} (h : shp w = ShA) : (shp w)[264]? = some (.inr (.inr (5, [.inl 265]))) := by rw [h]; decide +kernel
theorem sA265 {w : Wd} (h : shp w = ShA) : (shp w)[265]? = some (.inl (0, lnA 265)) := by rw [h]; decide +kernel
theorem sA266 {w : Wd} (h : shp w = ShA) : (shp w)[266]? = some (.inr (.inr (5, [.inl 267]))) := by rw [h]; decide +kernel
theorem sA267 {w : Wd} (h : shp w = ShA) : (shp w)[267]? = some (.inl (0, lnA 267)) := by rw [h]; decide +kernel
theorem sA268 {w : Wd} (h : shp w = ShA) : (shp w)[268]? = some (.inr (.inr (5, [.inl 269]))) := by rw [h]; decide +kernel
theorem sA269 {w : Wd} (h : shp w = ShA) : (shp w)[269]? = some (.inl (0, lnA 269)) := by rw [h]; decide +kernel
theorem sA270 {w : Wd} (h : shp w = ShA) : (shp w)[270]? = some (.inr (.inr (5, [.inl 271]))) := by rw [h]; decide +kernel
theorem sA271 {w : Wd} (h : shp w = ShA) : (shp w)[271]? = some (.inl (0, lnA 271)) := by rw [h]; decide +kernel
theorem sA272 {w : Wd} (h : shp w = ShA) : (shp w)[272]? = some (.inr (.inr (7, [.inl 273, .inl 275, .inl 277, .inl 279, .inl 281, .inl 283, .inl 285]))) := by rw [h]; decide +kernel
theorem sA273 {w : Wd} (h : shp w = ShA) : (shp w)[273]? = some (.inr (.inr (5, [.inl 274]))) := by rw [h]; decide +kernel
theorem sA274 {w : Wd} (h : shp w = ShA) : (shp w)[274]? = some (.inl (0, lnA 274)) := by rw [h]; decide +kernel
theorem sA275 {w : Wd} (h : shp w = ShA) : (shp w)[275]? = some (.inr (.inr (5, [.inl 276]))) := by rw [h]; decide +kernel
theorem sA276 {w : Wd} (h : shp w = ShA) : (shp w)[276]? = some (.inl (0, lnA 276)) := by rw [h]; decide +kernel
theorem sA277 {w : Wd} (h : shp w = ShA) : (shp w)[277]? = some (.inr (.inr (5, [.inl 278]))) := by rw [h]; decide +kernel
theorem sA278 {w : Wd} (h : shp w = ShA) : (shp w)[278]? = some (.inl (0, lnA 278)) := by rw [h]; decide +kernel
theorem sA279 {w : Wd} (h : shp w = ShA) : (shp w)[279]? = some (.inr (.inr (5, [.inl 280]))) := by rw [h]; decide +kernel
theorem sA280 {w : Wd} (h : shp w = ShA) : (shp w)[280]? = some (.inl (0, lnA 280)) := by rw [h]; decide +kernel
theorem sA281 {w : Wd} (h : shp w = ShA) : (shp w)[281]? = some (.inr (.inr (5, [.inl 282]))) := by rw [h]; decide +kernel
theorem sA282 {w : Wd} (h : shp w = ShA) : (shp w)[282]? = some (.inl (0, lnA 282)) := by rw [h]; decide +kernel
theorem sA283 {w : Wd} (h : shp w = ShA) : (shp w)[283]? = some (.inr (.inr (5, [.inl 284]))) := by rw [h]; decide +kernel
theorem sA284 {w : Wd} (h : shp w = ShA) : (shp w)[284]? = some (.inl (0, lnA 284)) := by rw [h]; decide +kernel
theorem sA285 {w : Wd} (h : shp w = ShA) : (shp w)[285]? = some (.inr (.inr (5, [.inl 286]))) := by rw [h]; decide +kernel
theorem sA286 {w : Wd} (h : shp w = ShA) : (shp w)[286]? = some (.inl (0, lnA 286)) := by rw [h]; decide +kernel
theorem sA287 {w : Wd} (h : shp w = ShA) : (shp w)[287]? = some (.inr (.inr (5, [.inl 288]))) := by rw [h]; decide +kernel
theorem sA288 {w : Wd} (h : shp w = ShA) : (shp w)[288]? = some (.inl (0, lnA 288)) := by rw [h]; decide +kernel
theorem sA289 {w : Wd} (h : shp w = ShA) : (shp w)[289]? = some (.inr (.inr (9, [.inr 0, .inl 290, .inl 292, .inl 294, .inl 296, .inl 298, .inl 300, .inl 302, .inr 0, .inr 0]))) := by rw [h]; decide +kernel
theorem sA290 {w : Wd} (h : shp w = ShA) : (shp w)[290]? = some (.inr (.inr (5, [.inl 291]))) := by rw [h]; decide +kernel
theorem sA291 {w : Wd} (h : shp w = ShA) : (shp w)[291]? = some (.inl (0, lnA 291)) := by rw [h]; decide +kernel
theorem sA292 {w : Wd} (h : shp w = ShA) : (shp w)[292]? = some (.inr (.inr (5, [.inl 293]))) := by rw [h]; decide +kernel
theorem sA293 {w : Wd} (h : shp w = ShA) : (shp w)[293]? = some (.inl (0, lnA 293)) := by rw [h]; decide +kernel
theorem sA294 {w : Wd} (h : shp w = ShA) : (shp w)[294]? = some (.inr (.inr (5, [.inl 295]))) := by rw [h]; decide +kernel
theorem sA295 {w : Wd} (h : shp w = ShA) : (shp w)[295]? = some (.inl (0, lnA 295)) := by rw [h]; decide +kernel
theorem sA296 {w : Wd} (h : shp w = ShA) : (shp w)[296]? = some (.inr (.inr (5, [.inl 297]))) := by rw [h]; decide +kernel
theorem sA297 {w : Wd} (h : shp w = ShA) : (shp w)[297]? = some (.inl (0, lnA 297)) := by rw [h]; decide +kernel
theorem sA298 {w : Wd} (h : shp w = ShA) : (shp w)[298]? = some (.inr (.inr (5, [.inl 299]))) := by rw [h]; decide +kernel
theorem sA299 {w : Wd} (h : shp w = ShA) : (shp w)[299]? = some (.inl (0, lnA 299)) := by rw [h]; decide +kernel
theorem sA300 {w : Wd} (h : shp w = ShA) : (shp w)[300]? = some (.inr (.inr (5, [.inl 301]))) := by rw [h]; decide +kernel
theorem sA301 {w : Wd} (h : shp w = ShA) : (shp w)[301]? = some (.inl (0, lnA 301)) := by rw [h]; decide +kernel
theorem sA302 {w : Wd} (h : shp w = ShA) : (shp w)[302]? = some (.inr (.inr (5, [.inl 303]))) := by rw [h]; decide +kernel
theorem sA303 {w : Wd} (h : shp w = ShA) : (shp w)[303]? = some (.inl (0, lnA 303)) := by rw [h]; decide +kernel
theorem sA304 {w : Wd} (h : shp w = ShA) : (shp w)[304]? = some (.inr (.inr (0, [.inl 305, .inl 307, .inl 309, .inl 311, .inl 313, .inl 315, .inl 317, .inl 319, .inl 321, .inl 323, .inl 325, .inr 0, .inr 0, .inr 0]))) := by rw [h]; decide +kernel
theorem sA305 {w : Wd} (h : shp w = ShA) : (shp w)[305]? = some (.inr (.inr (5, [.inl 306]))) := by rw [h]; decide +kernel
theorem sA306 {w : Wd} (h : shp w = ShA) : (shp w)[306]? = some (.inl (0, lnA 306)) := by rw [h]; decide +kernel
theorem sA307 {w : Wd} (h : shp w = ShA) : (shp w)[307]? = some (.inr (.inr (5, [.inl 308]))) := by rw [h]; decide +kernel
theorem sA308 {w : Wd} (h : shp w = ShA) : (shp w)[308]? = some (.inl (0, lnA 308)) := by rw [h]; decide +kernel
theorem sA309 {w : Wd} (h : shp w = ShA) : (shp w)[309]? = some (.inr (.inr (5, [.inl 310]))) := by rw [h]; decide +kernel
theorem sA310 {w : Wd} (h : shp w = ShA) : (shp w)[310]? = some (.inl (0, lnA 310)) := by rw [h]; decide +kernel
theorem sA311 {w : Wd} (h : shp w = ShA) : (shp w)[311]? = some (.inr (.inr (5, [.inl 312]))) := by rw [h]; decide +kernel
theorem sA312 {w : Wd} (h : shp w = ShA) : (shp w)[312]? = some (.inl (0, lnA 312)) := by rw [h]; decide +kernel
theorem sA313 {w : Wd} (h : shp w = ShA) : (shp w)[313]? = some (.inr (.inr (5, [.inl 314]))) := by rw [h]; decide +kernel
theorem sA314 {w : Wd} (h : shp w = ShA) : (shp w)[314]? = some (.inl (0, lnA 314)) := by rw [h]; decide +kernel
theorem sA315 {w : Wd} (h : shp w = ShA) : (shp w)[315]? = some (.inr (.inr (5, [.inl 316]))) := by rw [h]; decide +kernel
theorem sA316 {w : Wd} (h : shp w = ShA) : (shp w)[316]? = some (.inl (0, lnA 316)) := by rw [h]; decide +kernel
theorem sA317 {w : Wd} (h : shp w = ShA) : (shp w)[317]? = some (.inr (.inr (5, [.inl 318]))) := by rw [h]; decide +kernel
theorem sA318 {w : Wd} (h : shp w = ShA) : (shp w)[318]? = some (.inl (0, lnA 318)) := by rw [h]; decide +kernel
theorem sA319 {w : Wd} (h : shp w = ShA) : (shp w)[319]? = some (.inr (.inr (5, [.inl 320]))) := by rw [h]; decide +kernel
theorem sA320 {w : Wd} (h : shp w = ShA) : (shp w)[320]? = some (.inl (0, lnA 320)) := by rw [h]; decide +kernel
theorem sA321 {w : Wd} (h : shp w = ShA) : (shp w)[321]? = some (.inr (.inr (5, [.inl 322]))) := by rw [h]; decide +kernel
theorem sA322 {w : Wd} (h : shp w = ShA) : (shp w)[322]? = some (.inl (0, lnA 322)) := by rw [h]; decide +kernel
theorem sA323 {w : Wd} (h : shp w = ShA) : (shp w)[323]? = some (.inr (.inr (5, [.inl 324]))) := by rw [h]; decide +kernel
theorem sA324 {w : Wd} (h : shp w = ShA) : (shp w)[324]? = some (.inl (0, lnA 324)) := by rw [h]; decide +kernel
theorem sA325 {w : Wd} (h : shp w = ShA) : (shp w)[325]? = some (.inr (.inr (5, [.inl 326]))) := by rw [h]; decide +kernel
theorem sA326 {w : Wd} (h : shp w = ShA) : (shp w)[326]? = some (.inl (0, lnA 326)) := by rw [h]; decide +kernel
theorem sA327 {w : Wd} (h : shp w = ShA) : (shp w)[327]? = some (.inr (.inr (4, [.inl 328, .inl 330, .inl 332, .inl 334, .inl 336, .inl 338]))) := by rw [h]; decide +kernel
theorem sA328 {w : Wd} (h : shp w = ShA) : (shp w)[328]? = some (.inr (.inr (5, [.inl 329]))) := by rw [h]; decide +kernel
theorem sA329 {w : Wd} (h : shp w = ShA) : (shp w)[329]? = some (.inl (0, lnA 329)) := by rw [h]; decide +kernel
theorem sA330 {w : Wd} (h : shp w = ShA) : (shp w)[330]? = some (.inr (.inr (5, [.inl 331]))) := by rw [h]; decide +kernel
theorem sA331 {w : Wd} (h : shp w = ShA) : (shp w)[331]? = some (.inl (0, lnA 331)) := by rw [h]; decide +kernel
theorem sA332 {w : Wd} (h : shp w = ShA) : (shp w)[332]? = some (.inr (.inr (5, [.inl 333]))) := by rw [h]; decide +kernel
theorem sA333 {w : Wd} (h : shp w = ShA) : (shp w)[333]? = some (.inl (0, lnA 333)) := by rw [h]; decide +kernel
theorem sA334 {w : Wd} (h : shp w = ShA) : (shp w)[334]? = some (.inr (.inr (5, [.inl 335]))) := by rw [h]; decide +kernel
theorem sA335 {w : Wd} (h : shp w = ShA) : (shp w)[335]? = some (.inl (0, lnA 335)) := by rw [h]; decide +kernel
theorem sA336 {w : Wd} (h : shp w = ShA) : (shp w)[336]? = some (.inr (.inr (5, [.inl 337]))) := by rw [h]; decide +kernel
theorem sA337 {w : Wd} (h : shp w = ShA) : (shp w)[337]? = some (.inl (0, lnA 337)) := by rw [h]; decide +kernel
theorem sA338 {w : Wd} (h : shp w = ShA) : (shp w)[338]? = some (.inr (.inr (5, [.inl 339]))) := by rw [h]; decide +kernel
theorem sA339 {w : Wd} (h : shp w = ShA) : (shp w)[339]? = some (.inl (0, lnA 339)) := by rw [h]; decide +kernel
theorem sA340 {w : Wd} (h : shp w = ShA) : (shp w)[340]? = some (.inr (.inr (10, [.inr 0, .inl 341, .inl 343]))) := by rw [h]; decide +kernel
theorem sA341 {w : Wd} (h : shp w = ShA) : (shp w)[341]? = some (.inr (.inr (5, [.inl 342]))) := by rw [h]; decide +kernel
theorem sA342 {w : Wd} (h : shp w = ShA) : (shp w)[342]? = some (.inl (0, lnA 342)) := by rw [h]; decide +kernel
theorem sA343 {w : Wd} (h : shp w = ShA) : (shp w)[343]? = some (.inr (.inr (5, [.inl 344]))) := by rw [h]; decide +kernel
theorem sA344 {w : Wd} (h : shp w = ShA) : (shp w)[344]? = some (.inl (0, lnA 344)) := by rw [h]; decide +kernel
theorem sA345 {w : Wd} (h : shp w = ShA) : (shp w)[345]? = some (.inr (.inr (5, [.inl 346]))) := by rw [h]; decide +kernel
theorem sA346 {w : Wd} (h : shp w = ShA) : (shp w)[346]? = some (.inl (0, lnA 346)) := by rw [h]; decide +kernel
theorem sB0 {w : Wd} (h : shp w = ShB) : (shp w)[0]? = some (.inr (.inr (12, [.inl 1, .inr 0, .inl 2, .inl 3, .inr 0, .inl 4, .inl 5, .inl 6, .inl 7, .inl 8, .inl 9, .inl 10, .inr 0, .inl 11, .inl 12, .inl 13, .inl 14, .inl 15, .inr 0, .inr 0, .inr 0, .inl 16, .inr 0, .inr 0, .inr 0, .inr 0, .inr 0, .inr 0, .inr 0, .inr 0, .inl 17, .inl 18, .inr 0, .inr 0, .inr 0, .inr 0, .inr 0, .inr 0, .inl 19, .inl 20, .inr 1]))) := by rw [h]; decide +kernel
theorem sB1 {w : Wd} (h : shp w = ShB) : (shp w)[1]? = some (.inl (0, 10780)) := by rw [h]; decide +kernel
theorem sB2 {w : Wd} (h : shp w = ShB) : (shp w)[2]? = some (.inl (1, 2)) := by rw [h]; decide +kernel
theorem sB3 {w : Wd} (h : shp w = ShB) : (shp w)[3]? = some (.inl (0, 72)) := by rw [h]; decide +kernel
theorem sB4 {w : Wd} (h : shp w = ShB) : (shp w)[4]? = some (.inl (0, 641)) := by rw [h]; decide +kernel
theorem sB5 {w : Wd} (h : shp w = ShB) : (shp w)[5]? = some (.inl (0, 641)) := by rw [h]; decide +kernel
theorem sB6 {w : Wd} (h : shp w = ShB) : (shp w)[6]? = some (.inl (0, 641)) := by rw [h]; decide +kernel
theorem sB7 {w : Wd} (h : shp w = ShB) : (shp w)[7]? = some (.inl (0, 641)) := by rw [h]; decide +kernel
theorem sB8 {w : Wd} (h : shp w = ShB) : (shp w)[8]? = some (.inl (0, 641)) := by rw [h]; decide +kernel
theorem sB9 {w : Wd} (h : shp w = ShB) : (shp w)[9]? = some (.inl (0, 641)) := by rw [h]; decide +kernel
theorem sB10 {w : Wd} (h : shp w = ShB) : (shp w)[10]? = some (.inl (0, 641)) := by rw [h]; decide +kernel
theorem sB11 {w : Wd} (h : shp w = ShB) : (shp w)[11]? = some (.inl (0, 21)) := by rw [h]; decide +kernel
theorem sB12 {w : Wd} (h : shp w = ShB) : (shp w)[12]? = some (.inl (1, 20)) := by rw [h]; decide +kernel
theorem sB13 {w : Wd} (h : shp w = ShB) : (shp w)[13]? = some (.inl (0, 21)) := by rw [h]; decide +kernel
theorem sB14 {w : Wd} (h : shp w = ShB) : (shp w)[14]? = some (.inl (0, 252)) := by rw [h]; decide +kernel
theorem sB15 {w : Wd} (h : shp w = ShB) : (shp w)[15]? = some (.inl (0, 12)) := by rw [h]; decide +kernel
theorem sB16 {w : Wd} (h : shp w = ShB) : (shp w)[16]? = some (.inl (0, 20)) := by rw [h]; decide +kernel
theorem sB17 {w : Wd} (h : shp w = ShB) : (shp w)[17]? = some (.inl (0, 2)) := by rw [h]; decide +kernel
theorem sB18 {w : Wd} (h : shp w = ShB) : (shp w)[18]? = some (.inl (0, 2)) := by rw [h]; decide +kernel
theorem sB19 {w : Wd} (h : shp w = ShB) : (shp w)[19]? = some (.inl (0, 17)) := by rw [h]; decide +kernel
theorem sB20 {w : Wd} (h : shp w = ShB) : (shp w)[20]? = some (.inl (0, 37)) := by rw [h]; decide +kernel
abbrev isRow (o : Nat) : Prop := ShA[o]? = some (.inr (.inr (5, [.inl (o + 1)]))) ∧ ShA[o + 1]? = some (.inl (0, lnA (o + 1)))
abbrev isLin (o : Nat) : Prop := ShA[o]? = some (.inr (.inr (3, [.inr 0, .inl (o + 1), .inl (o + 3), .inl (o + 5), .inl (o + 7)]))) ∧ isRow (o + 1) ∧ isRow (o + 3) ∧ isRow (o + 5) ∧ isRow (o + 7)
theorem isLin_Row1 {o : Nat} (h : isLin o) : isRow (o + 1) := h.2.1
theorem ssh_Lin1 {w : Wd} {o : Nat} (hW : shp w = ShA) (h : isLin o) : (shp w)[o + 1]? = some (.inr (.inr (5, [.inl (o + 1 + 1)]))) := by rw [hW]; exact (isLin_Row1 h).1
theorem isLin_Row3 {o : Nat} (h : isLin o) : isRow (o + 3) := h.2.2.1
theorem ssh_Lin3 {w : Wd} {o : Nat} (hW : shp w = ShA) (h : isLin o) : (shp w)[o + 3]? = some (.inr (.inr (5, [.inl (o + 3 + 1)]))) := by rw [hW]; exact (isLin_Row3 h).1
theorem isLin_Row5 {o : Nat} (h : isLin o) : isRow (o + 5) := h.2.2.2.1
theorem ssh_Lin5 {w : Wd} {o : Nat} (hW : shp w = ShA) (h : isLin o) : (shp w)[o + 5]? = some (.inr (.inr (5, [.inl (o + 5 + 1)]))) := by rw [hW]; exact (isLin_Row5 h).1
theorem isLin_Row7 {o : Nat} (h : isLin o) : isRow (o + 7) := h.2.2.2.2
theorem ssh_Lin7 {w : Wd} {o : Nat} (hW : shp w = ShA) (h : isLin o) : (shp w)[o + 7]? = some (.inr (.inr (5, [.inl (o + 7 + 1)]))) := by rw [hW]; exact (isLin_Row7 h).1
theorem ssh_Lin0 {w : Wd} {o : Nat} (hW : shp w = ShA) (h : isLin o) : (shp w)[o]? = some (.inr (.inr (3, [.inr 0, .inl (o + 1), .inl (o + 3), .inl (o + 5), .inl (o + 7)]))) := by rw [hW]; exact h.1
abbrev isRul (o : Nat) : Prop := ShA[o]? = some (.inr (.inr (7, [.inl (o + 1), .inl (o + 3), .inl (o + 5), .inl (o + 7), .inl (o + 9), .inl (o + 11), .inl (o + 13)]))) ∧ isRow (o + 1) ∧ isRow (o + 3) ∧ isRow (o + 5) ∧ isRow (o + 7) ∧ isRow (o + 9) ∧ isRow (o + 11) ∧ isRow (o + 13)
theorem isRul_Row1 {o : Nat} (h : isRul o) : isRow (o + 1) := h.2.1
theorem ssh_Rul1 {w : Wd} {o : Nat} (hW : shp w = ShA) (h : isRul o) : (shp w)[o + 1]? = some (.inr (.inr (5, [.inl (o + 1 + 1)]))) := by rw [hW]; exact (isRul_Row1 h).1
theorem isRul_Row3 {o : Nat} (h : isRul o) : isRow (o + 3) := h.2.2.1
theorem ssh_Rul3 {w : Wd} {o : Nat} (hW : shp w = ShA) (h : isRul o) : (shp w)[o + 3]? = some (.inr (.inr (5, [.inl (o + 3 + 1)]))) := by rw [hW]; exact (isRul_Row3 h).1
theorem isRul_Row5 {o : Nat} (h : isRul o) : isRow (o + 5) := h.2.2.2.1
theorem ssh_Rul5 {w : Wd} {o : Nat} (hW : shp w = ShA) (h : isRul o) : (shp w)[o + 5]? = some (.inr (.inr (5, [.inl (o + 5 + 1)]))) := by rw [hW]; exact (isRul_Row5 h).1
theorem isRul_Row7 {o : Nat} (h : isRul o) : isRow (o + 7) := h.2.2.2.2.1
theorem ssh_Rul7 {w : Wd} {o : Nat} (hW : shp w = ShA) (h : isRul o) : (shp w)[o + 7]? = some (.inr (.inr (5, [.inl (o + 7 + 1)]))) := by rw [hW]; exact (isRul_Row7 h).1
theorem isRul_Row9 {o : Nat} (h : isRul o) : isRow (o + 9) := h.2.2.2.2.2.1
theorem ssh_Rul9 {w : Wd} {o : Nat} (hW : shp w = ShA) (h : isRul o) : (shp w)[o + 9]? = some (.inr (.inr (5, [.inl (o + 9 + 1)]))) := by rw [hW]; exact (isRul_Row9 h).1
theorem isRul_Row11 {o : Nat} (h : isRul o) : isRow (o + 11) := h.2.2.2.2.2.2.1
theorem ssh_Rul11 {w : Wd} {o : Nat} (hW : shp w = ShA) (h : isRul o) : (shp w)[o + 11]? = some (.inr (.inr (5, [.inl (o + 11 + 1)]))) := by rw [hW]; exact (isRul_Row11 h).1
theorem isRul_Row13 {o : Nat} (h : isRul o) : isRow (o + 13) := h.2.2.2.2.2.2.2
theorem ssh_Rul13 {w : Wd} {o : Nat} (hW : shp w = ShA) (h : isRul o) : (shp w)[o + 13]? = some (.inr (.inr (5, [.inl (o + 13 + 1)]))) := by rw [hW]; exact (isRul_Row13 h).1
theorem ssh_Rul0 {w : Wd} {o : Nat} (hW : shp w = ShA) (h : isRul o) : (shp w)[o]? = some (.inr (.inr (7, [.inl (o + 1), .inl (o + 3), .inl (o + 5), .inl (o + 7), .inl (o + 9), .inl (o + 11), .inl (o + 13)]))) := by rw [hW]; exact h.1
theorem ssh_Row0 {w : Wd} {o : Nat} (hW : shp w = ShA) (h : isRow o) : (shp w)[o]? = some (.inr (.inr (5, [.inl (o + 1)]))) := by rw [hW]; exact h.1
theorem ssh_Row1 {w : Wd} {o : Nat} (hW : shp w = ShA) (h : isRow o) : (shp w)[o + 1]? = some (.inl (0, lnA (o + 1))) := by rw [hW]; exact h.2
abbrev isSta (o : Nat) : Prop := ShA[o]? = some (.inr (.inr (8, [.inl (o + 1), .inl (o + 10), .inr 0, .inr 0, .inr 0]))) ∧ isLin (o + 1) ∧ isRul (o + 10)
theorem isSta_Lin1 {o : Nat} (h : isSta o) : isLin (o + 1) := h.2.1
theorem isSta_Rul10 {o : Nat} (h : isSta o) : isRul (o + 10) := h.2.2
theorem ssh_Sta0 {w : Wd} {o : Nat} (hW : shp w = ShA) (h : isSta o) : (shp w)[o]? = some (.inr (.inr (8, [.inl (o + 1), .inl (o + 10), .inr 0, .inr 0, .inr 0]))) := by rw [hW]; exact h.1
theorem ssh_Sta1 {w : Wd} {o : Nat} (hW : shp w = ShA) (h : isSta o) : (shp w)[o + 1]? = some (.inr (.inr (3, [.inr 0, .inl (o + 1 + 1), .inl (o + 1 + 3), .inl (o + 1 + 5), .inl (o + 1 + 7)]))) := by rw [hW]; exact h.2.1.1
theorem ssh_Sta10 {w : Wd} {o : Nat} (hW : shp w = ShA) (h : isSta o) : (shp w)[o + 10]? = some (.inr (.inr (7, [.inl (o + 10 + 1), .inl (o + 10 + 3), .inl (o + 10 + 5), .inl (o + 10 + 7), .inl (o + 10 + 9), .inl (o + 10 + 11), .inl (o + 10 + 13)]))) := by rw [hW]; exact h.2.2.1
theorem iRow3 : isRow 3 := ⟨by decide +kernel, by decide +kernel⟩
theorem iRow5 : isRow 5 := ⟨by decide +kernel, by decide +kernel⟩
theorem iRow7 : isRow 7 := ⟨by decide +kernel, by decide +kernel⟩
theorem iRow9 : isRow 9 := ⟨by decide +kernel, by decide +kernel⟩
theorem iRow12 : isRow 12 := ⟨by decide +kernel, by decide +kernel⟩
theorem iRow14 : isRow 14 := ⟨by decide +kernel, by decide +kernel⟩
theorem iRow16 : isRow 16 := ⟨by decide +kernel, by decide +kernel⟩
theorem iRow18 : isRow 18 := ⟨by decide +kernel, by decide +kernel⟩
theorem iRow20 : isRow 20 := ⟨by decide +kernel, by decide +kernel⟩
theorem iRow22 : isRow 22 := ⟨by decide +kernel, by decide +kernel⟩
theorem iRow24 : isRow 24 := ⟨by decide +kernel, by decide +kernel⟩
theorem iRow27 : isRow 27 := ⟨by decide +kernel, by decide +kernel⟩
theorem iRow30 : isRow 30 := ⟨by decide +kernel, by decide +kernel⟩
theorem iRow32 : isRow 32 := ⟨by decide +kernel, by decide +kernel⟩
theorem iRow287 : isRow 287 := ⟨by decide +kernel, by decide +kernel⟩
theorem iRow290 : isRow 290 := ⟨by decide +kernel, by decide +kernel⟩
theorem iRow292 : isRow 292 := ⟨by decide +kernel, by decide +kernel⟩
theorem iRow294 : isRow 294 := ⟨by decide +kernel, by decide +kernel⟩
theorem iRow296 : isRow 296 := ⟨by decide +kernel, by decide +kernel⟩
theorem iRow298 : isRow 298 := ⟨by decide +kernel, by decide +kernel⟩
theorem iRow300 : isRow 300 := ⟨by decide +kernel, by decide +kernel⟩
theorem iRow302 : isRow 302 := ⟨by decide +kernel, by decide +kernel⟩
theorem iRow305 : isRow 305 := ⟨by decide +kernel, by decide +kernel⟩
theorem iRow307 : isRow 307 := ⟨by decide +kernel, by decide +kernel⟩
theorem iRow309 : isRow 309 := ⟨by decide +kernel, by decide +kernel⟩
theorem iRow311 : isRow 311 := ⟨by decide +kernel, by decide +kernel⟩
theorem iRow313 : isRow 313 := ⟨by decide +kernel, by decide +kernel⟩
theorem iRow315 : isRow 315 := ⟨by decide +kernel, by decide +kernel⟩
theorem iRow317 : isRow 317 := ⟨by decide +kernel, by decide +kernel⟩
theorem iRow319 : isRow 319 := ⟨by decide +kernel, by decide +kernel⟩
theorem iRow321 : isRow 321 := ⟨by decide +kernel, by decide +kernel⟩
theorem iRow323 : isRow 323 := ⟨by decide +kernel, by decide +kernel⟩
theorem iRow325 : isRow 325 := ⟨by decide +kernel, by decide +kernel⟩
theorem iRow328 : isRow 328 := ⟨by decide +kernel, by decide +kernel⟩
theorem iRow330 : isRow 330 := ⟨by decide +kernel, by decide +kernel⟩
theorem iRow332 : isRow 332 := ⟨by decide +kernel, by decide +kernel⟩
theorem iRow334 : isRow 334 := ⟨by decide +kernel, by decide +kernel⟩
theorem iRow336 : isRow 336 := ⟨by decide +kernel, by decide +kernel⟩
theorem iRow338 : isRow 338 := ⟨by decide +kernel, by decide +kernel⟩
theorem iRow341 : isRow 341 := ⟨by decide +kernel, by decide +kernel⟩
theorem iRow343 : isRow 343 := ⟨by decide +kernel, by decide +kernel⟩
theorem iRow345 : isRow 345 := ⟨by decide +kernel, by decide +kernel⟩
theorem iSta1 : isSta 1 := ⟨by decide +kernel, ⟨by decide +kernel, ⟨by decide +kernel, by decide +kernel⟩, ⟨by decide +kernel, by decide +kernel⟩, ⟨by decide +kernel, by decide +kernel⟩, ⟨by decide +kernel, by decide +kernel⟩⟩, ⟨by decide +kernel, ⟨by decide +kernel, by decide +kernel⟩, ⟨by decide +kernel, by decide +kernel⟩, ⟨by decide +kernel, by decide +kernel⟩, ⟨by decide +kernel, by decide +kernel⟩, ⟨by decide +kernel, by decide +kernel⟩, ⟨by decide +kernel, by decide +kernel⟩, ⟨by decide +kernel, by decide +kernel⟩⟩⟩
theorem iSta36 : isSta 36 := ⟨by decide +kernel, ⟨by decide +kernel, ⟨by decide +kernel, by decide +kernel⟩, ⟨by decide +kernel, by decide +kernel⟩, ⟨by decide +kernel, by decide +kernel⟩, ⟨by decide +kernel, by decide +kernel⟩⟩, ⟨by decide +kernel, ⟨by decide +kernel, by decide +kernel⟩, ⟨by decide +kernel, by decide +kernel⟩, ⟨by decide +kernel, by decide +kernel⟩, ⟨by decide +kernel, by decide +kernel⟩, ⟨by decide +kernel, by decide +kernel⟩, ⟨by decide +kernel, by decide +kernel⟩, ⟨by decide +kernel, by decide +kernel⟩⟩⟩
theorem iSta61 : isSta 61 := ⟨by decide +kernel, ⟨by decide +kernel, ⟨by decide +kernel, by decide +kernel⟩, ⟨by decide +kernel, by decide +kernel⟩, ⟨by decide +kernel, by decide +kernel⟩, ⟨by decide +kernel, by decide +kernel⟩⟩, ⟨by decide +kernel, ⟨by decide +kernel, by decide +kernel⟩, ⟨by decide +kernel, by decide +kernel⟩, ⟨by decide +kernel, by decide +kernel⟩, ⟨by decide +kernel, by decide +kernel⟩, ⟨by decide +kernel, by decide +kernel⟩, ⟨by decide +kernel, by decide +kernel⟩, ⟨by decide +kernel, by decide +kernel⟩⟩⟩
theorem iSta86 : isSta 86 := ⟨by decide +kernel, ⟨by decide +kernel, ⟨by decide +kernel, by decide +kernel⟩, ⟨by decide +kernel, by decide +kernel⟩, ⟨by decide +kernel, by decide +kernel⟩, ⟨by decide +kernel, by decide +kernel⟩⟩, ⟨by decide +kernel, ⟨by decide +kernel, by decide +kernel⟩, ⟨by decide +kernel, by decide +kernel⟩, ⟨by decide +kernel, by decide +kernel⟩, ⟨by decide +kernel, by decide +kernel⟩, ⟨by decide +kernel, by decide +kernel⟩, ⟨by decide +kernel, by decide +kernel⟩, ⟨by decide +kernel, by decide +kernel⟩⟩⟩
theorem iSta111 : isSta 111 := ⟨by decide +kernel, ⟨by decide +kernel, ⟨by decide +kernel, by decide +kernel⟩, ⟨by decide +kernel, by decide +kernel⟩, ⟨by decide +kernel, by decide +kernel⟩, ⟨by decide +kernel, by decide +kernel⟩⟩, ⟨by decide +kernel, ⟨by decide +kernel, by decide +kernel⟩, ⟨by decide +kernel, by decide +kernel⟩, ⟨by decide +kernel, by decide +kernel⟩, ⟨by decide +kernel, by decide +kernel⟩, ⟨by decide +kernel, by decide +kernel⟩, ⟨by decide +kernel, by decide +kernel⟩, ⟨by decide +kernel, by decide +kernel⟩⟩⟩
theorem iSta136 : isSta 136 := ⟨by decide +kernel, ⟨by decide +kernel, ⟨by decide +kernel, by decide +kernel⟩, ⟨by decide +kernel, by decide +kernel⟩, ⟨by decide +kernel, by decide +kernel⟩, ⟨by decide +kernel, by decide +kernel⟩⟩, ⟨by decide +kernel, ⟨by decide +kernel, by decide +kernel⟩, ⟨by decide +kernel, by decide +kernel⟩, ⟨by decide +kernel, by decide +kernel⟩, ⟨by decide +kernel, by decide +kernel⟩, ⟨by decide +kernel, by decide +kernel⟩, ⟨by decide +kernel, by decide +kernel⟩, ⟨by decide +kernel, by decide +kernel⟩⟩⟩
theorem iSta161 : isSta 161 := ⟨by decide +kernel, ⟨by decide +kernel, ⟨by decide +kernel, by decide +kernel⟩, ⟨by decide +kernel, by decide +kernel⟩, ⟨by decide +kernel, by decide +kernel⟩, ⟨by decide +kernel, by decide +kernel⟩⟩, ⟨by decide +kernel, ⟨by decide +kernel, by decide +kernel⟩, ⟨by decide +kernel, by decide +kernel⟩, ⟨by decide +kernel, by decide +kernel⟩, ⟨by decide +kernel, by decide +kernel⟩, ⟨by decide +kernel, by decide +kernel⟩, ⟨by decide +kernel, by decide +kernel⟩, ⟨by decide +kernel, by decide +kernel⟩⟩⟩
theorem iSta186 : isSta 186 := ⟨by decide +kernel, ⟨by decide +kernel, ⟨by decide +kernel, by decide +kernel⟩, ⟨by decide +kernel, by decide +kernel⟩, ⟨by decide +kernel, by decide +kernel⟩, ⟨by decide +kernel, by decide +kernel⟩⟩, ⟨by decide +kernel, ⟨by decide +kernel, by decide +kernel⟩, ⟨by decide +kernel, by decide +kernel⟩, ⟨by decide +kernel, by decide +kernel⟩, ⟨by decide +kernel, by decide +kernel⟩, ⟨by decide +kernel, by decide +kernel⟩, ⟨by decide +kernel, by decide +kernel⟩, ⟨by decide +kernel, by decide +kernel⟩⟩⟩
theorem iSta211 : isSta 211 := ⟨by decide +kernel, ⟨by decide +kernel, ⟨by decide +kernel, by decide +kernel⟩, ⟨by decide +kernel, by decide +kernel⟩, ⟨by decide +kernel, by decide +kernel⟩, ⟨by decide +kernel, by decide +kernel⟩⟩, ⟨by decide +kernel, ⟨by decide +kernel, by decide +kernel⟩, ⟨by decide +kernel, by decide +kernel⟩, ⟨by decide +kernel, by decide +kernel⟩, ⟨by decide +kernel, by decide +kernel⟩, ⟨by decide +kernel, by decide +kernel⟩, ⟨by decide +kernel, by decide +kernel⟩, ⟨by decide +kernel, by decide +kernel⟩⟩⟩
theorem iSta237 : isSta 237 := ⟨by decide +kernel, ⟨by decide +kernel, ⟨by decide +kernel, by decide +kernel⟩, ⟨by decide +kernel, by decide +kernel⟩, ⟨by decide +kernel, by decide +kernel⟩, ⟨by decide +kernel, by decide +kernel⟩⟩, ⟨by decide +kernel, ⟨by decide +kernel, by decide +kernel⟩, ⟨by decide +kernel, by decide +kernel⟩, ⟨by decide +kernel, by decide +kernel⟩, ⟨by decide +kernel, by decide +kernel⟩, ⟨by decide +kernel, by decide +kernel⟩, ⟨by decide +kernel, by decide +kernel⟩, ⟨by decide +kernel, by decide +kernel⟩⟩⟩
theorem iSta262 : isSta 262 := ⟨by decide +kernel, ⟨by decide +kernel, ⟨by decide +kernel, by decide +kernel⟩, ⟨by decide +kernel, by decide +kernel⟩, ⟨by decide +kernel, by decide +kernel⟩, ⟨by decide +kernel, by decide +kernel⟩⟩, ⟨by decide +kernel, ⟨by decide +kernel, by decide +kernel⟩, ⟨by decide +kernel, by decide +kernel⟩, ⟨by decide +kernel, by decide +kernel⟩, ⟨by decide +kernel, by decide +kernel⟩, ⟨by decide +kernel, by decide +kernel⟩, ⟨by decide +kernel, by decide +kernel⟩, ⟨by decide +kernel, by decide +kernel⟩⟩⟩
theorem iLin2 : isLin 2 := iSta1.2.1
theorem iRul11 : isRul 11 := iSta1.2.2
theorem mmmax2 : Cond.static Lib.Math.max.name ∈ WL := WL_in (tb1 (List.mem_of_getElem? (i := 48) rfl)) rfl
theorem mmmax4 : Cond.code Lib.Math.max.name Lib.Math.max.code 2 (some .int) ∈ WL := WL_in (tb1 (List.mem_of_getElem? (i := 49) rfl)) rfl
theorem mmmin2 : Cond.static Lib.Math.min.name ∈ WL := WL_in (tb2 (List.mem_of_getElem? (i := 238) rfl)) rfl
theorem mmmin4 : Cond.code Lib.Math.min.name Lib.Math.min.code 2 (some .int) ∈ WL := WL_in (tb2 (List.mem_of_getElem? (i := 239) rfl)) rfl
theorem mm3 : Cond.initialized "java/lang/Math" ∈ WL := WL_in (tb1 (List.mem_of_getElem? (i := 5) rfl)) rfl
theorem acw2 : Cond.native arraycopyName ∈ WL := WL_in (tb3 (List.mem_of_getElem? (i := 2) rfl)) rfl
theorem acw3 : Cond.static arraycopyName ∈ WL := WL_in (tb3 (List.mem_of_getElem? (i := 1) rfl)) rfl
theorem acw4 : Cond.initialized "java/lang/System" ∈ WL := WL_in (tb1 (List.mem_of_getElem? (i := 15) rfl)) rfl
theorem mlMX5_9 : Cond.methodLink RX5 9 Lib.Math.max.name ∈ WL := WL_in (tb1 (List.mem_of_getElem? (i := 47) rfl)) rfl
theorem mlMX5_21 : Cond.methodLink RX5 21 Lib.Math.min.name ∈ WL := WL_in (tb2 (List.mem_of_getElem? (i := 237) rfl)) rfl
theorem mlNX5_24 : Cond.methodLink RX5 24 arraycopyName ∈ WL := WL_in (tb3 (List.mem_of_getElem? (i := 0) rfl)) rfl
theorem mlMX9_92 : Cond.methodLink RX9 92 Lib.Math.max.name ∈ WL := WL_in (tb3 (List.mem_of_getElem? (i := 104) rfl)) rfl
theorem mlMX0_132 : Cond.methodLink RX0 132 Lib.Math.max.name ∈ WL := WL_in (tb3 (List.mem_of_getElem? (i := 137) rfl)) rfl
theorem mlMX11_317 : Cond.methodLink RX11 317 Lib.Math.min.name ∈ WL := WL_in (tb3 (List.mem_of_getElem? (i := 191) rfl)) rfl
theorem mlMX4_75 : Cond.methodLink RX4 75 Lib.Math.min.name ∈ WL := WL_in (tb3 (List.mem_of_getElem? (i := 192) rfl)) rfl
theorem mlMX4_81 : Cond.methodLink RX4 81 Lib.Math.max.name ∈ WL := WL_in (tb3 (List.mem_of_getElem? (i := 193) rfl)) rfl
theorem mlMX6_44 : Cond.methodLink RX6 44 Lib.Math.max.name ∈ WL := WL_in (tb4 (List.mem_of_getElem? (i := 57) rfl)) rfl

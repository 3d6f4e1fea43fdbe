set_option maxRecDepth 100000 in
theorem aR39 : aRowsB aCls aP aSts aStrs aM39.nm aM39.by aM39.cd [[], [], [(2, 58)], [], [], [(2, 62)], [], [], [(2, 74)], [], [], [(2, 79)], []] = true := by decide +kernel
set_option maxRecDepth 100000 in
theorem aR40 : aRowsB aCls aP aSts aStrs aM40.nm aM40.by aM40.cd [[], [], [(1, 107)], [], [], [(1, 108)], [], [], [], [], [], [], [], [], [], [], [], [], [], [], [], [], [], [], [], [(2, 198), (2, 199), (1, 3)], [], [], [], [], [], [(2, 201), (2, 203), (0, 1)], [], [], [], [(2, 216), (2, 217), (1, 3)], [], [], [], [], [], [(2, 219), (2, 221), (0, 4)], [], [], [], [], [(2, 230), (2, 231), (2, 232)], [], [], [], [], [(2, 212), (2, 214), (0, 3)], [], [], [], [], [], [], [], [], [], [], [], [], [], [(3, 47), (3, 48), (1, 3)], [], [], [], [], [], [], [], [], []] = true := by decide +kernel
set_option maxRecDepth 100000 in
theorem aR41 : aRowsB aCls aP aSts aStrs aM41.nm aM41.by aM41.cd [[], [], [], [], [], [], [], [], [], []] = true := by decide +kernel
set_option maxRecDepth 100000 in
theorem aR42 : aRowsB aCls aP aSts aStrs aM42.nm aM42.by aM42.cd [[], [], [], [], [], [], [], [], [(2, 205), (2, 206), (1, 16)], [], [], [], [], [], [], [], [(2, 198), (2, 199), (1, 3)], [], [], [], [], [], [(1, 97), (1, 98), (1, 3)], [], [], [], [], [(1, 107)], [], [], [], [(1, 103)], [], [(1, 107)], [], [], [], [], [], [(2, 208), (2, 210), (0, 2)], [], [(2, 212), (2, 214), (0, 3)], [], []] = true := by decide +kernel
set_option maxRecDepth 100000 in
theorem aR43 : aRowsB aCls aP aSts aStrs aM43.nm aM43.by aM43.cd [[], [], [], [], [], [], []] = true := by decide +kernel
set_option maxRecDepth 100000 in
theorem aR44 : aRowsB aCls aP aSts aStrs aM44.nm aM44.by aM44.cd [[], [], [], [], [(1, 106)], [], [], [], [(1, 106)], [], [], [], [], [], [(1, 46)], [], [], [], [], [], [], []] = true := by decide +kernel
set_option maxRecDepth 100000 in
theorem aR45 : aRowsB aCls aP aSts aStrs aM45.nm aM45.by aM45.cd [[], [(1, 107)], [], [], [], [(1, 101)], [], [(1, 107)], [], [], [], [(1, 102)], [], [(1, 107)], [], [], [], [], [(1, 107)], [], [], [(1, 107)], []] = true := by decide +kernel
set_option maxRecDepth 100000 in
theorem aR46 : aRowsB aCls aP aSts aStrs aM46.nm aM46.by aM46.cd [[], [], [], [], [], [], [], [], [], []] = true := by decide +kernel
set_option maxRecDepth 100000 in
theorem aR47 : aRowsB aCls aP aSts aStrs aM47.nm aM47.by aM47.cd [[], [], [], [], [], [], [(2, 205), (2, 206), (1, 16)], [(2, 223), (2, 224), (1, 3)], [], [], [], [], [], [(2, 226), (2, 227), (1, 3)], [], [], [], [], [], [], [], [], [], [], [], [], [], [], [], [], [], [], [(2, 216), (2, 217), (1, 3)], [], [], [], [], [], [], [], [], [], [], [], [(2, 205), (2, 206), (1, 16)], [(2, 223), (2, 224), (1, 3)], [], [], [], [], [], [(2, 226), (2, 227), (1, 3)], [], [], [], [], [], [], [(1, 107)], [], [], [], [(1, 104)], [], [(1, 107)], [], [], [], [(1, 105)], [], [(1, 107)], [], [], [], [], [], [(2, 212), (2, 214), (0, 3)], [], []] = true := by decide +kernel
set_option maxRecDepth 100000 in
theorem aR48 : aRowsB aCls aP aSts aStrs aM48.nm aM48.by aM48.cd [[], [], [], [], [], [], [], [], [(2, 216), (2, 217), (1, 3)], [], [], [], [], []] = true := by decide +kernel
set_option maxRecDepth 100000 in
theorem aR49 : aRowsB aCls aP aSts aStrs aM49.nm aM49.by aM49.cd [[], [], [], [], [], [], [], [], [], [], [], [], [], [], [], [], [], [], [], [], []] = true := by decide +kernel
set_option maxRecDepth 100000 in
theorem aR50 : aRowsB aCls aP aSts aStrs aM50.nm aM50.by aM50.cd [[], [], [], [(2, 234), (2, 235), (2, 236)], []] = true := by decide +kernel
set_option maxRecDepth 100000 in
theorem aR51 : aRowsB aCls aP aSts aStrs aM51.nm aM51.by aM51.cd [[], [(1, 63), (1, 64), (1, 65)], [], [], [(7, 103)], [], [], [], [(2, 238), (1, 50), (1, 51)], [(2, 239), (3, 0), (1, 5)], [], [], [(7, 103)], [], [], [], [(2, 238), (1, 50), (1, 51)], [(3, 12), (3, 13), (1, 7)], []] = true := by decide +kernel
set_option maxRecDepth 100000 in
theorem aR52 : aRowsB aCls aP aSts aStrs aM52.nm aM52.by aM52.cd [[], [(3, 2), (3, 3), (1, 5)], [], [], [], [], [], [(3, 5), (3, 6), (1, 16)], [], [], [], [], [(3, 8), (2, 206), (1, 16)], [], [], [], [], [], [], [], [], [], [], [(3, 9), (3, 10), (1, 5)], []] = true := by decide +kernel
set_option maxRecDepth 100000 in
theorem aR53 : aRowsB aCls aP aSts aStrs aM53.nm aM53.by aM53.cd [[], [], [], [], [], [], [], [], []] = true := by decide +kernel
set_option maxRecDepth 100000 in
theorem aR54 : aRowsB aCls aP aSts aStrs aM54.nm aM54.by aM54.cd [[], [], [], [], [], [], []] = true := by decide +kernel
set_option maxRecDepth 100000 in
theorem aR55 : aRowsB aCls aP aSts aStrs aM55.nm aM55.by aM55.cd [[], [], [], [], [], [], [], [], [], [], [], [], [], [], [], [], [], [], []] = true := by decide +kernel
set_option maxRecDepth 100000 in
theorem aR56 : aRowsB aCls aP aSts aStrs aM56.nm aM56.by aM56.cd [[], [], [(3, 15), (3, 6), (1, 16)], [], [], [], [], [], [], [(3, 16), (2, 206), (1, 16)], [], [], [], [], [], [], [], [(3, 17)], [], [], [], [], [], [(3, 18), (3, 19), (1, 7)], [], [], [], [], [], [(3, 33), (3, 34), (1, 7)], []] = true := by decide +kernel
set_option maxRecDepth 100000 in
theorem aR57 : aRowsB aCls aP aSts aStrs aM57.nm aM57.by aM57.cd [[], [], [], [(3, 21), (3, 22), (1, 7)], [], [], [], [], [(3, 30), (3, 31), (1, 7)], []] = true := by decide +kernel
set_option maxRecDepth 100000 in
theorem aR58 : aRowsB aCls aP aSts aStrs aM58.nm aM58.by aM58.cd [[], [], [], [(1, 84), (1, 85), (1, 7)], [(3, 24), (3, 25), (1, 4)], []] = true := by decide +kernel
set_option maxRecDepth 100000 in
theorem aR59 : aRowsB aCls aP aSts aStrs aM59.nm aM59.by aM59.cd [[], [], [], [(1, 73)], [(3, 27), (3, 28), (1, 6)], [], []] = true := by decide +kernel
set_option maxRecDepth 100000 in
theorem aR60 : aRowsB aCls aP aSts aStrs aM60.nm aM60.by aM60.cd [[], [], [], [], [], [], [], [], [], [], [], [], [], [], []] = true := by decide +kernel
set_option maxRecDepth 100000 in
theorem aR61 : aRowsB aCls aP aSts aStrs aM61.nm aM61.by aM61.cd [[], [], [], [], [], [], [], [(1, 88), (1, 89), (1, 7)], [], [], [], [], [], [], [], []] = true := by decide +kernel
set_option maxRecDepth 100000 in
theorem aR62 : aRowsB aCls aP aSts aStrs aM62.nm aM62.by aM62.cd [[], [(3, 36), (3, 37), (1, 17)], [], [], [(3, 39), (3, 40), (1, 17)], [], [], [(3, 43), (3, 44), (1, 17)], [], [], [], [], [(3, 21), (3, 22), (1, 7)], [], [], [], [], [], [], [], [], [], [(1, 88), (1, 89), (1, 7)], [], [], [], [], [], [], [(1, 88), (1, 89), (1, 7)], [], [], [], [], [], [], [], []] = true := by decide +kernel
set_option maxRecDepth 100000 in
theorem aR63 : aRowsB aCls aP aSts aStrs aM63.nm aM63.by aM63.cd [[], [], [], [], [], [], [], [], [], [], []] = true := by decide +kernel
set_option maxRecDepth 100000 in
theorem aR64 : aRowsB aCls aP aSts aStrs aM64.nm aM64.by aM64.cd [[], [], [], [(3, 42)], [], [], []] = true := by decide +kernel
set_option maxRecDepth 100000 in
theorem aR65 : aRowsB aCls aP aSts aStrs aM65.nm aM65.by aM65.cd [[], [], [], [(3, 46)], [], [], []] = true := by decide +kernel
set_option maxRecDepth 100000 in
theorem aR66 : aRowsB aCls aP aSts aStrs aM66.nm aM66.by aM66.cd [[], [], [], [], [], [], [(2, 198), (2, 199), (1, 3)], [], [], [], [], [(2, 198), (2, 199), (1, 3)], [], [], [(2, 216), (2, 217), (1, 3)], [], [], [], [], [(2, 216), (2, 217), (1, 3)], [], [], [], [], []] = true := by decide +kernel
set_option maxRecDepth 100000 in
theorem aR67 : aRowsB aCls aP aSts aStrs aM67.nm aM67.by aM67.cd [[], [], [(1, 152)], [(3, 54), (3, 55), (1, 21)], [], [], [(1, 18), (3, 76), (3, 85), (3, 89), (3, 92), (3, 94), (3, 77), (3, 78), (1, 32), (1, 33), (3, 79), (3, 84), (3, 90), (3, 110), (3, 66), (3, 111), (3, 68), (3, 112), (3, 70), (3, 80), (3, 82), (3, 72), (3, 106), (3, 107), (3, 109), (3, 72), (3, 97), (3, 98), (3, 99), (3, 100), (3, 58), (3, 100), (3, 101), (3, 102), (3, 103), (3, 60), (3, 103), (3, 104), (3, 105), (3, 106), (3, 62), (3, 96), (3, 55), (3, 56), (3, 63), (3, 64), (3, 65), (3, 67), (3, 69), (3, 71), (3, 75), (3, 74), (3, 73)], []] = true := by decide +kernel
set_option maxRecDepth 100000 in
theorem aR68 : aRowsB aCls aP aSts aStrs aM68.nm aM68.by aM68.cd [[], [], [], [], [], [], [], [], [], [], [(3, 125), (3, 127), (0, 8)], [], [], [], [], [(3, 133), (3, 135), (0, 9)], [], [], [], [], [], [], [], [], [(3, 171)], [], [], [], [], [], []] = true := by decide +kernel
set_option maxRecDepth 100000 in
theorem aR69 : aRowsB aCls aP aSts aStrs aM69.nm aM69.by aM69.cd [[], [(1, 144)], [], [(1, 151)], [(3, 129), (3, 130), (3, 131)], []] = true := by decide +kernel
set_option maxRecDepth 100000 in
theorem aR70 : aRowsB aCls aP aSts aStrs aM70.nm aM70.by aM70.cd [[], [], [], [], [(1, 107)], [], [], [(1, 101)], [], [], [], [], []] = true := by decide +kernel
set_option maxRecDepth 100000 in
theorem aR71 : aRowsB aCls aP aSts aStrs aM71.nm aM71.by aM71.cd [[(3, 137), (3, 138), (1, 22)], [], [], [(3, 125), (3, 127), (0, 8)], [(3, 139), (3, 140), (3, 141)], [], [], [], [(1, 147)], [(2, 77)], [(3, 153)], [], [(3, 146)], [], [], [], [(1, 151)], [], [], [(1, 151)], [], [], [(3, 212), (3, 214), (0, 10)], [], [], [], [(1, 151)], [], [], [(1, 151)], [], [], [], [(4, 29), (4, 31), (0, 17)], [], [], [], [(1, 151)], [], [], [(1, 151)], [], [(4, 33), (4, 35), (0, 18)], [], [], [], [(4, 40), (4, 42), (0, 19)], [], [], [], [], [(4, 16), (4, 18), (0, 15)], [], [], [(4, 44), (4, 46), (0, 20)], [], [], [(4, 16), (4, 18), (0, 15)], [], [], [(1, 147)], [(2, 77)], [(3, 156)], [], [(3, 146)], [], [], [], [(3, 146)], [], [], [], [(3, 146)], [], [], [], [], [], [], [], [(4, 52), (4, 54), (0, 22)], [(3, 160)], [], [(3, 146)], [], [], [], [(3, 125), (3, 127), (0, 8)], [], [], [], [], [(1, 151)], [], [], [(1, 151)], [], [], [(3, 163)], [], [], [], [], [], [(4, 52), (4, 54), (0, 22)], [(3, 167)], [], []] = true := by decide +kernel
set_option maxRecDepth 100000 in
theorem aR72 : aRowsB aCls aP aSts aStrs aM72.nm aM72.by aM72.cd [[], [(3, 142), (1, 32), (1, 33)], [], [], [(3, 147)], [], [], [(3, 157)], [], [], [(3, 161)], [], [], [(3, 164)], [], [], [(3, 168)], [], [], [(3, 172)], [], [], [(3, 174)], [], [], [(3, 177)], [], [], [(3, 179)], [], [], [(3, 183)], [], [], [(3, 143)], []] = true := by decide +kernel
set_option maxRecDepth 100000 in
theorem aR73 : aRowsB aCls aP aSts aStrs aM73.nm aM73.by aM73.cd [[], [], [(3, 216), (3, 218), (0, 11)], [], [], [], [], [], [], [(3, 125), (3, 127), (0, 8)], [], [], [], [(3, 125), (3, 127), (0, 8)], [], [], [], [(3, 125), (3, 127), (0, 8)], [], [], [], [], [], [], [], [], [(1, 151)], [], [], [(1, 151)], [], [], [(3, 216), (3, 218), (0, 11)], [], [(1, 147)], [], [], [], [(3, 232), (3, 233), (3, 234)], [], [], []] = true := by decide +kernel
set_option maxRecDepth 100000 in
theorem aR74 : aRowsB aCls aP aSts aStrs aM74.nm aM74.by aM74.cd [[], [], [(3, 220), (3, 222), (0, 12)], [], [], [], [], [], [], [(3, 125), (3, 127), (0, 8)], [], [], [], [(3, 125), (3, 127), (0, 8)], [], [], [], [(3, 125), (3, 127), (0, 8)], [], [], [], [], [], [], [], [], [(1, 151)], [], [], [(1, 151)], [], [], [(3, 220), (3, 222), (0, 12)], [], [(1, 147)], [], [], [], [(3, 232), (3, 233), (3, 234)], [], [], []] = true := by decide +kernel
set_option maxRecDepth 100000 in
theorem aR75 : aRowsB aCls aP aSts aStrs aM75.nm aM75.by aM75.cd [[], [(3, 125), (3, 127), (0, 8)], [], [], [], [], [], [], [], [], [], [], [(1, 151)], [], [], [(1, 151)], [], [(3, 125), (3, 127), (0, 8)], [], [], [(1, 147)], [], [], [(1, 144)], [], [(1, 151)], [(3, 224), (3, 225), (3, 226)], [], [(1, 144)], [], [(1, 151)], [(3, 228), (3, 229), (3, 230)], [(3, 232), (3, 233), (3, 234)], [], [], [(1, 151)], [], [], [(1, 151)], [], [], [(1, 147)], [], [(3, 236), (3, 238), (0, 13)], [], [], [], [], [], [(4, 8), (4, 10), (0, 14)], [], [(3, 232), (3, 233), (3, 234)], [], [], [(1, 151)], [], [], [(1, 151)], [], [], [], [], [], [(4, 16), (4, 18), (0, 15)], [], [], [(1, 151)], [], [], [(1, 151)], [], [], [], [], [(3, 212), (3, 214), (0, 10)], [], [], [(4, 25), (4, 27), (0, 16)], [], [], [(4, 16), (4, 18), (0, 15)], [], [], [], [(1, 147)], [], [], [], [(3, 232), (3, 233), (3, 234)], []] = true := by decide +kernel
set_option maxRecDepth 100000 in
theorem aR76 : aRowsB aCls aP aSts aStrs aM76.nm aM76.by aM76.cd [[], [], [], [], [(1, 107)], [], [], [(1, 104)], [], [], [], [], []] = true := by decide +kernel
set_option maxRecDepth 100000 in
theorem aR77 : aRowsB aCls aP aSts aStrs aM77.nm aM77.by aM77.cd [[], [], [], [], [(1, 107)], [], [], [(1, 105)], [], [], [], [], []] = true := by decide +kernel

set_option maxRecDepth 100000 in
theorem aR0 : aRowsB aCls aP aSts aStrs aM0.nm aM0.by aM0.cd [[], [(1, 31), (1, 32), (1, 33)], [], [], [(1, 126)], [(2, 99)], [], [], [(2, 100)], [], [(1, 34), (1, 35), (1, 2)], [], [(1, 36), (1, 37), (1, 38)], [(2, 101)], [], [(1, 173), (1, 174), (1, 9)], [], [(1, 175), (1, 176), (1, 177)], [(2, 102)], [], [(1, 183), (1, 184), (1, 10)], [], [(1, 185), (1, 186), (1, 187)], [(2, 103)], [], [(2, 33), (2, 34), (1, 13)], [], [(2, 35), (2, 36), (2, 37)], [(2, 104)], [], [(2, 52), (2, 53), (1, 14)], [], [(2, 54), (2, 55), (2, 56)], [(2, 105)], [], [(2, 52), (2, 53), (1, 14)], [], [(2, 54), (2, 55), (2, 56)], [(2, 106)], []] = true := by decide +kernel
set_option maxRecDepth 100000 in
theorem aR1 : aRowsB aCls aP aSts aStrs aM1.nm aM1.by aM1.cd [[], [(1, 39), (1, 32), (1, 33)], [], [(1, 40), (1, 41), (1, 3)], [], [(1, 42), (1, 43), (1, 44)], [(1, 144)], [], [(1, 130), (1, 131), (1, 8)], [], [], [(1, 132), (1, 133), (1, 134)], [(1, 145)], [], [(1, 130), (1, 131), (1, 8)], [], [], [(1, 132), (1, 133), (1, 134)], [(1, 146)], [], [], [(1, 147)], [], [], [(1, 148)], [], [], [(1, 149)], [], [], [(1, 150)], [], [], [(1, 151)], [], [], [(1, 152)], []] = true := by decide +kernel
set_option maxRecDepth 100000 in
theorem aR2 : aRowsB aCls aP aSts aStrs aM2.nm aM2.by aM2.cd [[], [(1, 45), (1, 32), (1, 33)], [], [], [(1, 127)], [(1, 101)], [], [], [(1, 127)], [(1, 102)], [], [], [(1, 128)], [(1, 103)], [], [], [(1, 127)], [(1, 104)], [], [], [(1, 127)], [(1, 105)], [], [(1, 46)], [], [(1, 128)], [(1, 106)], [], [], [(1, 107)], [], [], [(1, 108)], [], [], [], [], [], [], [], [], [(1, 49), (1, 50), (1, 51)], [], [], [], [(1, 106)], [], [], [], [], [(1, 59), (1, 60), (1, 61)], [], [], [], [(1, 106)], [], [], [], [], [], [], [], [], [], [], [(1, 59), (1, 60), (1, 61)], [(1, 97), (1, 98), (1, 3)], [], [], [], []] = true := by decide +kernel
set_option maxRecDepth 100000 in
theorem aR3 : aRowsB aCls aP aSts aStrs aM3.nm aM3.by aM3.cd [[], [(7, 103)], [], [], [(1, 53), (1, 54), (1, 55)], [], []] = true := by decide +kernel
set_option maxRecDepth 100000 in
theorem aR4 : aRowsB aCls aP aSts aStrs aM4.nm aM4.by aM4.cd [[(1, 57)], [], [], [(7, 104)], [], [], []] = true := by decide +kernel
set_option maxRecDepth 100000 in
theorem aR5 : aRowsB aCls aP aSts aStrs aM5.nm aM5.by aM5.cd [[], [(1, 63), (1, 64), (1, 65)], [], [], [(7, 103)], [], [(1, 67), (1, 68), (1, 5)], [], [], [(7, 103)], [], [(1, 78), (1, 79), (1, 7)], []] = true := by decide +kernel
set_option maxRecDepth 100000 in
theorem aR6 : aRowsB aCls aP aSts aStrs aM6.nm aM6.by aM6.cd [[(1, 57)], [], [], [(7, 104)], [], [], [], [], []] = true := by decide +kernel
set_option maxRecDepth 100000 in
theorem aR7 : aRowsB aCls aP aSts aStrs aM7.nm aM7.by aM7.cd [[], [], [], [(1, 70), (1, 71), (1, 4)], [], [], [], [], [], [], []] = true := by decide +kernel
set_option maxRecDepth 100000 in
theorem aR8 : aRowsB aCls aP aSts aStrs aM8.nm aM8.by aM8.cd [[], [], [(1, 73)], [(1, 75), (1, 76), (1, 6)], [], []] = true := by decide +kernel
set_option maxRecDepth 100000 in
theorem aR9 : aRowsB aCls aP aSts aStrs aM9.nm aM9.by aM9.cd [[], [], [], [], [], [], [], [], [], [], []] = true := by decide +kernel
set_option maxRecDepth 100000 in
theorem aR10 : aRowsB aCls aP aSts aStrs aM10.nm aM10.by aM10.cd [[], [], [(1, 81), (1, 82), (1, 7)], [], [], [(1, 88), (1, 89), (1, 7)], []] = true := by decide +kernel
set_option maxRecDepth 100000 in
theorem aR11 : aRowsB aCls aP aSts aStrs aM11.nm aM11.by aM11.cd [[], [], [(1, 84), (1, 85), (1, 7)], [(1, 87), (1, 71), (1, 4)], []] = true := by decide +kernel
set_option maxRecDepth 100000 in
theorem aR12 : aRowsB aCls aP aSts aStrs aM12.nm aM12.by aM12.cd [[], [], [], [], []] = true := by decide +kernel
set_option maxRecDepth 100000 in
theorem aR13 : aRowsB aCls aP aSts aStrs aM13.nm aM13.by aM13.cd [[(1, 91)], [], [], [], [], [], [(1, 84), (1, 85), (1, 7)], [], [], [], [], [], [], [], [], [], [], [], [], [], [(1, 93)], [], [], [], [], [], [], [(1, 95)], [], [], [], []] = true := by decide +kernel
set_option maxRecDepth 100000 in
theorem aR14 : aRowsB aCls aP aSts aStrs aM14.nm aM14.by aM14.cd [[(1, 100)], [], [], [], [], [], [], [], [], [], []] = true := by decide +kernel
set_option maxRecDepth 100000 in
theorem aR15 : aRowsB aCls aP aSts aStrs aM15.nm aM15.by aM15.cd [[], [(1, 135), (1, 32), (1, 33)], [], [], [(1, 137)], [], [], [(1, 128)], [(1, 136)], []] = true := by decide +kernel
set_option maxRecDepth 100000 in
theorem aR16 : aRowsB aCls aP aSts aStrs aM16.nm aM16.by aM16.cd [[], [(1, 178), (1, 32), (1, 33)], [], [], [(1, 179)], []] = true := by decide +kernel
set_option maxRecDepth 100000 in
theorem aR17 : aRowsB aCls aP aSts aStrs aM17.nm aM17.by aM17.cd [[], [(1, 188), (1, 32), (1, 33)], [], [], [(1, 211)], [(1, 239)], [], [], [(2, 0)], [], [], [(1, 211)], [(2, 1)], [], [], [(2, 3)], [], [], [(1, 211)], [(2, 4)], [], [], [(1, 127)], [(2, 5)], [], [], [(1, 127)], [(2, 6)], [], [(1, 189), (1, 190), (1, 11)], [], [(1, 191), (1, 192), (1, 193)], [(2, 7)], [], [], [(2, 9)], [], [], [(2, 10)], []] = true := by decide +kernel
set_option maxRecDepth 100000 in
theorem aR18 : aRowsB aCls aP aSts aStrs aM18.nm aM18.by aM18.cd [[], [(1, 194), (1, 32), (1, 33)], [], [(1, 195), (1, 196), (1, 12)], [], [(1, 197), (1, 198), (1, 199)], [(1, 214)], [], [(1, 212)], [(1, 216)], [], [(1, 213)], [(1, 218)], [], [], [(1, 220)], [], [], [(1, 222)], [], [], [(1, 224)], []] = true := by decide +kernel
set_option maxRecDepth 100000 in
theorem aR19 : aRowsB aCls aP aSts aStrs aM19.nm aM19.by aM19.cd [[], [(1, 200), (1, 32), (1, 33)], [], [], [(1, 127)], [(1, 201)], [], [], [(1, 127)], [(1, 202)], [], [], [(1, 203)], []] = true := by decide +kernel
set_option maxRecDepth 100000 in
theorem aR20 : aRowsB aCls aP aSts aStrs aM20.nm aM20.by aM20.cd [[], [(2, 38), (1, 32), (1, 33)], [], [], [(2, 39)], [], [], [(2, 40)], [], [], [(2, 41)], [], [], [(2, 42)], []] = true := by decide +kernel
set_option maxRecDepth 100000 in
theorem aR21 : aRowsB aCls aP aSts aStrs aM21.nm aM21.by aM21.cd [[], [(2, 57), (1, 32), (1, 33)], [], [], [(2, 58)], [], [], [(2, 62)], [], [], [(1, 127)], [(2, 65)], [], [], [(1, 127)], [(2, 68)], [], [], [(1, 127)], [(2, 71)], [], [], [(2, 74)], [], [], [(1, 127)], [(2, 78)], [], [], [(2, 79)], []] = true := by decide +kernel
set_option maxRecDepth 100000 in
theorem aR22 : aRowsB aCls aP aSts aStrs aM22.nm aM22.by aM22.cd [[], [], [], [], [], [], [], [(2, 100)], [], [], [], [], [], [], [], [], [], [], [], [], [], [(2, 128), (2, 129), (1, 1)], [(2, 131), (2, 132), (1, 1)], [], [], [], [], [], [], [], [], [], [], [], [], [(2, 99)], [], [(2, 100)], [], [], [(2, 128), (2, 129), (1, 1)], [], [], [], [], [(2, 100)], [], [], [(2, 100)], [], [], [], []] = true := by decide +kernel
set_option maxRecDepth 100000 in
theorem aR23 : aRowsB aCls aP aSts aStrs aM23.nm aM23.by aM23.cd [[], [], [], [], [], [], [], []] = true := by decide +kernel
set_option maxRecDepth 100000 in
theorem aR24 : aRowsB aCls aP aSts aStrs aM24.nm aM24.by aM24.cd [[], [], [], [], [], [], [], [], [], [], [], [], []] = true := by decide +kernel
set_option maxRecDepth 100000 in
theorem aR25 : aRowsB aCls aP aSts aStrs aM25.nm aM25.by aM25.cd [[], [], [(2, 100)], []] = true := by decide +kernel
set_option maxRecDepth 100000 in
theorem aR26 : aRowsB aCls aP aSts aStrs aM26.nm aM26.by aM26.cd [[], [(2, 101)], [(1, 153)], []] = true := by decide +kernel
set_option maxRecDepth 100000 in
theorem aR27 : aRowsB aCls aP aSts aStrs aM27.nm aM27.by aM27.cd [[], [(2, 105)], [(2, 81)], []] = true := by decide +kernel
set_option maxRecDepth 100000 in
theorem aR28 : aRowsB aCls aP aSts aStrs aM28.nm aM28.by aM28.cd [[], [(2, 103)], [(2, 8)], [(1, 215)], [], [], [(2, 150), (2, 151), (2, 152)], []] = true := by decide +kernel
set_option maxRecDepth 100000 in
theorem aR29 : aRowsB aCls aP aSts aStrs aM29.nm aM29.by aM29.cd [[], [], [(2, 154), (2, 155), (1, 12)], [], [], [(1, 201)], [], [], [], [], [], [], [], [], []] = true := by decide +kernel
set_option maxRecDepth 100000 in
theorem aR30 : aRowsB aCls aP aSts aStrs aM30.nm aM30.by aM30.cd [[], [], [], [], [], [], [], [], [], [], [], [], [], []] = true := by decide +kernel
set_option maxRecDepth 100000 in
theorem aR31 : aRowsB aCls aP aSts aStrs aM31.nm aM31.by aM31.cd [[], [(2, 103)], [(2, 8)], [(1, 217)], []] = true := by decide +kernel
set_option maxRecDepth 100000 in
theorem aR32 : aRowsB aCls aP aSts aStrs aM32.nm aM32.by aM32.cd [[], [(2, 103)], [(2, 8)], [(1, 219)], []] = true := by decide +kernel
set_option maxRecDepth 100000 in
theorem aR33 : aRowsB aCls aP aSts aStrs aM33.nm aM33.by aM33.cd [[], [(2, 103)], [(2, 8)], [(1, 221)], []] = true := by decide +kernel
set_option maxRecDepth 100000 in
theorem aR34 : aRowsB aCls aP aSts aStrs aM34.nm aM34.by aM34.cd [[], [], [], [(2, 174), (2, 175), (2, 176)], [], [], [], [], [], [], [], [], [], [], []] = true := by decide +kernel
set_option maxRecDepth 100000 in
theorem aR35 : aRowsB aCls aP aSts aStrs aM35.nm aM35.by aM35.cd [[], [(2, 101)], [], [(2, 99)], [], [(2, 100)], [], [(2, 106)], [(2, 178), (2, 179), (2, 180)], [], [(2, 102)], [], [(2, 106)], [(4, 56), (4, 57), (4, 58)], [], [(2, 106)], [(2, 81)], [], [], [(4, 97), (4, 98), (1, 23)], [], [], [(1, 18), (3, 76), (3, 85), (3, 89), (3, 92), (3, 94), (3, 77), (3, 78), (1, 32), (1, 33), (3, 79), (3, 84), (3, 90), (3, 110), (3, 66), (3, 111), (3, 68), (3, 112), (3, 70), (3, 80), (3, 82), (3, 72), (3, 106), (3, 107), (3, 109), (3, 72), (4, 108), (4, 109), (4, 110), (3, 100), (3, 58), (3, 100), (3, 101), (3, 102), (3, 103), (3, 60), (3, 103), (3, 104), (3, 105), (3, 106), (3, 62), (4, 107), (4, 98), (4, 99), (4, 100), (3, 87), (4, 101), (4, 102), (4, 103), (4, 104), (3, 75), (3, 74), (4, 105)], [], [], [(2, 105)], [], [], [], [(2, 106)], [(2, 105)], [], [], [(2, 106)], [], [(2, 103)], [(4, 113), (4, 114), (4, 115)], [], [(2, 105)], [(2, 81)], []] = true := by decide +kernel
set_option maxRecDepth 100000 in
theorem aR36 : aRowsB aCls aP aSts aStrs aM36.nm aM36.by aM36.cd [[], [], [(2, 182), (2, 184), (0, 0)], [], [(1, 144)], [], [], [(2, 194), (2, 195), (2, 196)], [], [], [], [], [], [], [(3, 50), (3, 52), (0, 5)], [], [], [], [], [(3, 121), (3, 123), (0, 7)], [(2, 61)], [], [(2, 64)], [], [], [], [], [], [], [(3, 173)], [(4, 48), (4, 50), (0, 21)], [(3, 181)], [], [(3, 181)], [], [], [(3, 181)], [(3, 148)], [], [(3, 148)], [], [], [], [(3, 178)], [(3, 50), (3, 52), (0, 5)], [], [(3, 176)], [], [], []] = true := by decide +kernel
set_option maxRecDepth 100000 in
theorem aR37 : aRowsB aCls aP aSts aStrs aM37.nm aM37.by aM37.cd [[], [], [(1, 152)], [], [], [(1, 151)], [], [(1, 145)], [(2, 186), (2, 187), (2, 188)], [], [(1, 146)], [(2, 186), (2, 187), (2, 188)], [], [], [(1, 148)], [], [], [(1, 149)], [], [], [(1, 150)], [], [(2, 190), (2, 191), (2, 192)], [], [], [(1, 147)], []] = true := by decide +kernel
set_option maxRecDepth 100000 in
theorem aR38 : aRowsB aCls aP aSts aStrs aM38.nm aM38.by aM38.cd [[], [], [(1, 137)], []] = true := by decide +kernel

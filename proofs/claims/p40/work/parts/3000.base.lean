/-! ===== the world of fixed cells: a memory M gives each place of each cell an Int32; what a cell is, the table esh says ===== -/
/-- a method: owner, name, code, locals, result -/
abbrev eK : Type := String × MethodName × ByteArray × Nat × Option FieldType
abbrev kOwn (K : eK) : String := K.1
abbrev kY (K : eK) : MethodName := K.2.1
abbrev kCode (K : eK) : ByteArray := K.2.2.1
abbrev kMax (K : eK) : Nat := K.2.2.2.1
abbrev kRet (K : eK) : Option FieldType := K.2.2.2.2
def eKn : List String := ["BOARD", "BY", "TILE", "PUT", "AT", "TURNED", "TAKE", "FIT", "WHEN", "ROUND", "PLACED", "MATCHES", "POINTS", "RINGS", "FREE", "WAYS", "OF", "ON", "FITS", "NOT", "AND", "OR", "MIN", "MAX", "OPEN", "CLOSE", "OPEN_TEST", "CLOSE_TEST", "SEMICOLON", "COMMA", "PLUS", "MINUS", "TIMES", "OVER", "LESS", "MORE", "EQUAL", "AT_MOST", "AT_LEAST", "NUMBER", "NAME", "END", "WRONG", "NEGATE"]
def eOrd : List Int32 := [0, 1, 2, 3, 4, 5, 6, 7, 8, 9, 10, 11, 12, 13, 14, 15, 16, 17, 18, 19, 20, 21, 22, 23, 24, 25, 26, 27, 28, 29, 30, 31, 32, 33, 34, 35, 36, 37, 38, 39, 40, 41, 42, 43]
def eKtx : List (List Int32) := [[98, 111, 97, 114, 100], [98, 121], [116, 105, 108, 101], [112, 117, 116], [97, 116], [116, 117, 114, 110, 101, 100], [116, 97, 107, 101], [102, 105, 116], [119, 104, 101, 110], [114, 111, 117, 110, 100], [112, 108, 97, 99, 101, 100], [109, 97, 116, 99, 104, 101, 115], [112, 111, 105, 110, 116, 115], [114, 105, 110, 103, 115], [102, 114, 101, 101], [119, 97, 121, 115], [111, 102], [111, 110], [102, 105, 116, 115], [110, 111, 116], [97, 110, 100], [111, 114], [109, 105, 110], [109, 97, 120], [40], [41], [91], [93], [59], [44], [43], [45], [42], [47], [60], [62], [61], [60, 61], [62, 61], [], [], [], [], []]
def eWtx : List (List Int32) := [[98, 111, 97, 114, 100], [98, 121], [116, 105, 108, 101], [112, 117, 116], [97, 116], [116, 117, 114, 110, 101, 100], [116, 97, 107, 101], [102, 105, 116], [119, 104, 101, 110], [114, 111, 117, 110, 100], [112, 108, 97, 99, 101, 100], [109, 97, 116, 99, 104, 101, 115], [112, 111, 105, 110, 116, 115], [114, 105, 110, 103, 115], [102, 114, 101, 101], [119, 97, 121, 115], [111, 102], [111, 110], [102, 105, 116, 115], [110, 111, 116], [97, 110, 100], [111, 114], [109, 105, 110], [109, 97, 120]]
def eCol (j : Nat) : Int32 := ([1, 0, -1, -1, 0, 1] : List Int32).getD j 0
def eRow (j : Nat) : Int32 := ([0, 1, 1, 0, -1, -1] : List Int32).getD j 0
def eSw (j : Nat) : Int32 := ([17, 0, 18, 19, 0, 0, 20, 21, 0, 6, 7, 8, 9, 10, 11, 12, 0, 3, 4, 1, 32, 33, 15, 16, 14, 0, 2, 0, 0, 0, 24, 13, 25, 26, 27, 28, 29, 30, 31, 5, 22, 0, 0, 23] : List Int32).getD j 0
/-! the statics: what nobody writes -/
/-! the tables' words at any state -/
/-- the texts that the class throws with: where they are loaded -/
def eMsg : List (String × Nat × String × Nat) := [("RingDomino", 74, "the tape would be longer than 2000 bytes", 1600), ("RingDomino", 88, "not a length up to that of the tape", 1601), ("RingDomino", 285, "no such cell", 1602), ("RingDomino", 295, "no tile lies there", 1603), ("RingDomino", 293, "an edge or a turn is 0 to 5", 1604), ("RingDomino", 291, "no such tile", 1605), ("RingDomino", 297, "the tile lies nowhere", 1606), ("RingDomino", 209, "the tile lies somewhere, or does not fit there so", 1607), ("RingDomino", 299, "the tile has no way", 1608), ("RingDomino", 301, "rounds are 1 to 20", 1609)]

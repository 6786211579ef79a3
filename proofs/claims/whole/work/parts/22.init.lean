/-- the row of cells behind the constructors -/
def Dfin : List CD := [.inr (10, [.inr (.inr (some 1)), .inl 0, .inr (.inr (some 2)), .inl 0, .inr (.inr (some 6)), .inr (.inr (some 41)), .inr (.inr (some 42)), .inr (.inr (some 58)), .inr (.inr (some 62)), .inr (.inr (some 67)), .inr (.inr (some 141)), .inr (.inr (some 145)), .inr (.inr (some 148)), .inl (-1), .inr (.inr (some 157)), .inl 0, .inr (.inr (some 158)), .inr (.inr (some 159))]), .inl (1, 940, []), .inr (7, [.inr (.inr (some 3)), .inr (.inr (some 4)), .inr (.inr (some 5)), .inl 0, .inl 0, .inl 0, .inl 0]), .inl (0, 941, []), .inl (0, 941, []), .inl (0, 941, []), .inr (8, [.inl 0, .inr (.inr (some 7)), .inr (.inr (some 23)), .inr (.inr (some 32)), .inr (.inr (some 36))]), .inr (0, [.inl 0, .inl 0, .inl 0, .inl 0, .inl 0, .inl 0, .inl 0, .inl 0, .inl 0, .inl 0, .inr (.inr (some 8)), .inr (.inr (some 18)), .inr (.inr (some 19)), .inr (.inr (some 20)), .inr (.inr (some 21)), .inr (.inr (some 22))]), .inr (1, [.inl 0, .inl 0, .inr (.inr (some 9)), .inr (.inr (some 10)), .inr (.inr (some 11)), .inr (.inr (some 12)), .inr (.inr (some 13)), .inr (.inr (some 14)), .inr (.inr (some 15)), .inr (.inr (some 16)), .inr (.inr (some 17))]), .inl (0, 8, []), .inl (0, 8, []), .inl (0, 8, []), .inl (0, 8, []), .inl (0, 8, []), .inl (0, 8, []), .inl (0, 8, []), .inl (0, 8, []), .inl (0, 8, []), .inl (0, 100, []), .inl (0, 100, []), .inl (0, 12, []), .inl (0, 48, []), .inl (0, 48, []), .inr (6, [.inl 0, .inl 0, .inl 0, .inl 0, .inl (-1), .inl 0, .inr (.inr (some 24)), .inr (.inr (some 25)), .inr (.inr (some 26)), .inr (.inr (some 27)), .inr (.inr (some 28)), .inr (.inr (some 29)), .inr (.inr (some 30)), .inr (.inr (some 31))]), .inl (0, 8, []), .inl (0, 8, []), .inl (0, 8, []), .inl (0, 8, []), .inl (0, 8, []), .inl (0, 8, []), .inl (0, 8, []), .inl (0, 100, []), .inr (3, [.inl 0, .inr (.inr (some 33)), .inr (.inr (some 34)), .inr (.inr (some 35))]), .inl (0, 30, []), .inl (0, 30, []), .inl (0, 30, []), .inr (5, [.inl 0, .inl 0, .inr (.inr (some 37)), .inr (.inr (some 38)), .inr (.inr (some 39)), .inr (.inr (some 40))]), .inl (0, 40, []), .inl (0, 40, []), .inl (0, 40, []), .inl (0, 20, []), .inl (5, 2, [.inr (.inr (some 160)), .inr (.inr (some 195))]), .inr (0, [.inl 0, .inl 0, .inl 0, .inl 0, .inl 0, .inl 0, .inl 0, .inl 0, .inl 0, .inl 0, .inr (.inr (some 43)), .inr (.inr (some 53)), .inr (.inr (some 54)), .inr (.inr (some 55)), .inr (.inr (some 56)), .inr (.inr (some 57))]), .inr (1, [.inl 0, .inl 0, .inr (.inr (some 44)), .inr (.inr (some 45)), .inr (.inr (some 46)), .inr (.inr (some 47)), .inr (.inr (some 48)), .inr (.inr (some 49)), .inr (.inr (some 50)), .inr (.inr (some 51)), .inr (.inr (some 52))]), .inl (0, 8, []), .inl (0, 8, []), .inl (0, 8, []), .inl (0, 8, []), .inl (0, 8, []), .inl (0, 8, []), .inl (0, 8, []), .inl (0, 8, []), .inl (0, 8, []), .inl (0, 100, []), .inl (0, 100, []), .inl (0, 12, []), .inl (0, 48, []), .inl (0, 48, []), .inr (3, [.inl 0, .inr (.inr (some 59)), .inr (.inr (some 60)), .inr (.inr (some 61))]), .inl (0, 30, []), .inl (0, 30, []), .inl (0, 30, []), .inr (5, [.inl 0, .inl 0, .inr (.inr (some 63)), .inr (.inr (some 64)), .inr (.inr (some 65)), .inr (.inr (some 66))]), .inl (0, 40, []), .inl (0, 40, []), .inl (0, 40, []), .inl (0, 20, []), .inr (2, [.inr (.inr (some 68)), .inl 0, .inl 0]), .inl (4, 8, [.inr (.inr (some 69)), .inr (.inr (some 78)), .inr (.inr (some 87)), .inr (.inr (some 96)), .inr (.inr (some 105)), .inr (.inr (some 114)), .inr (.inr (some 123)), .inr (.inr (some 132))]), .inr (6, [.inl 0, .inl 0, .inl 0, .inl 0, .inl (-1), .inl 0, .inr (.inr (some 70)), .inr (.inr (some 71)), .inr (.inr (some 72)), .inr (.inr (some 73)), .inr (.inr (some 74)), .inr (.inr (some 75)), .inr (.inr (some 76)), .inr (.inr (some 77))]), .inl (0, 8, []), .inl (0, 8, []), .inl (0, 8, []), .inl (0, 8, []), .inl (0, 8, []), .inl (0, 8, []), .inl (0, 8, []), .inl (0, 100, []), .inr (6, [.inl 0, .inl 0, .inl 0, .inl 0, .inl (-1), .inl 0, .inr (.inr (some 79)), .inr (.inr (some 80)), .inr (.inr (some 81)), .inr (.inr (some 82)), .inr (.inr (some 83)), .inr (.inr (some 84)), .inr (.inr (some 85)), .inr (.inr (some 86))]), .inl (0, 8, []), .inl (0, 8, []), .inl (0, 8, []), .inl (0, 8, []), .inl (0, 8, []), .inl (0, 8, []), .inl (0, 8, []), .inl (0, 100, []), .inr (6, [.inl 0, .inl 0, .inl 0, .inl 0, .inl (-1), .inl 0, .inr (.inr (some 88)), .inr (.inr (some 89)), .inr (.inr (some 90)), .inr (.inr (some 91)), .inr (.inr (some 92)), .inr (.inr (some 93)), .inr (.inr (some 94)), .inr (.inr (some 95))]), .inl (0, 8, []), .inl (0, 8, []), .inl (0, 8, []), .inl (0, 8, []), .inl (0, 8, []), .inl (0, 8, []), .inl (0, 8, []), .inl (0, 100, []), .inr (6, [.inl 0, .inl 0, .inl 0, .inl 0, .inl (-1), .inl 0, .inr (.inr (some 97)), .inr (.inr (some 98)), .inr (.inr (some 99)), .inr (.inr (some 100)), .inr (.inr (some 101)), .inr (.inr (some 102)), .inr (.inr (some 103)), .inr (.inr (some 104))]), .inl (0, 8, []), .inl (0, 8, []), .inl (0, 8, []), .inl (0, 8, []), .inl (0, 8, []), .inl (0, 8, []), .inl (0, 8, []), .inl (0, 100, []), .inr (6, [.inl 0, .inl 0, .inl 0, .inl 0, .inl (-1), .inl 0, .inr (.inr (some 106)), .inr (.inr (some 107)), .inr (.inr (some 108)), .inr (.inr (some 109)), .inr (.inr (some 110)), .inr (.inr (some 111)), .inr (.inr (some 112)), .inr (.inr (some 113))]), .inl (0, 8, []), .inl (0, 8, []), .inl (0, 8, []), .inl (0, 8, []), .inl (0, 8, []), .inl (0, 8, []), .inl (0, 8, []), .inl (0, 100, []), .inr (6, [.inl 0, .inl 0, .inl 0, .inl 0, .inl (-1), .inl 0, .inr (.inr (some 115)), .inr (.inr (some 116)), .inr (.inr (some 117)), .inr (.inr (some 118)), .inr (.inr (some 119)), .inr (.inr (some 120)), .inr (.inr (some 121)), .inr (.inr (some 122))]), .inl (0, 8, []), .inl (0, 8, []), .inl (0, 8, []), .inl (0, 8, []), .inl (0, 8, []), .inl (0, 8, []), .inl (0, 8, []), .inl (0, 100, []), .inr (6, [.inl 0, .inl 0, .inl 0, .inl 0, .inl (-1), .inl 0, .inr (.inr (some 124)), .inr (.inr (some 125)), .inr (.inr (some 126)), .inr (.inr (some 127)), .inr (.inr (some 128)), .inr (.inr (some 129)), .inr (.inr (some 130)), .inr (.inr (some 131))]), .inl (0, 8, []), .inl (0, 8, []), .inl (0, 8, []), .inl (0, 8, []), .inl (0, 8, []), .inl (0, 8, []), .inl (0, 8, []), .inl (0, 100, []), .inr (6, [.inl 0, .inl 0, .inl 0, .inl 0, .inl (-1), .inl 0, .inr (.inr (some 133)), .inr (.inr (some 134)), .inr (.inr (some 135)), .inr (.inr (some 136)), .inr (.inr (some 137)), .inr (.inr (some 138)), .inr (.inr (some 139)), .inr (.inr (some 140))]), .inl (0, 8, []), .inl (0, 8, []), .inl (0, 8, []), .inl (0, 8, []), .inl (0, 8, []), .inl (0, 8, []), .inl (0, 8, []), .inl (0, 100, []), .inr (9, [.inr (.inr (some 142)), .inr (.inr (some 143)), .inr (.inr (some 144)), .inl 0]), .inl (0, 8, []), .inl (0, 8, []), .inl (0, 8, []), .inr (4, [.inl 0, .inl 0, .inr (.inr (some 146)), .inr (.inr (some 147))]), .inl (0, 256, []), .inl (0, 2048, []), .inr (6, [.inl 0, .inl 0, .inl 0, .inl 0, .inl (-1), .inl 0, .inr (.inr (some 149)), .inr (.inr (some 150)), .inr (.inr (some 151)), .inr (.inr (some 152)), .inr (.inr (some 153)), .inr (.inr (some 154)), .inr (.inr (some 155)), .inr (.inr (some 156))]), .inl (0, 8, []), .inl (0, 8, []), .inl (0, 8, []), .inl (0, 8, []), .inl (0, 8, []), .inl (0, 8, []), .inl (0, 8, []), .inl (0, 100, []), .inl (0, 384, []), .inl (0, 48, []), .inl (0, 5, [.inl (-1), .inl (-1), .inl (-1), .inl (-1), .inl (-1)]), .inr (8, [.inl 0, .inr (.inr (some 161)), .inr (.inr (some 177)), .inr (.inr (some 186)), .inr (.inr (some 190))]), .inr (0, [.inl 0, .inl 0, .inl 0, .inl 0, .inl 0, .inl 0, .inl 0, .inl 0, .inl 0, .inl 0, .inr (.inr (some 162)), .inr (.inr (some 172)), .inr (.inr (some 173)), .inr (.inr (some 174)), .inr (.inr (some 175)), .inr (.inr (some 176))]), .inr (1, [.inl 0, .inl 0, .inr (.inr (some 163)), .inr (.inr (some 164)), .inr (.inr (some 165)), .inr (.inr (some 166)), .inr (.inr (some 167)), .inr (.inr (some 168)), .inr (.inr (some 169)), .inr (.inr (some 170)), .inr (.inr (some 171))]), .inl (0, 8, []), .inl (0, 8, []), .inl (0, 8, []), .inl (0, 8, []), .inl (0, 8, []), .inl (0, 8, []), .inl (0, 8, []), .inl (0, 8, []), .inl (0, 8, []), .inl (0, 100, []), .inl (0, 100, []), .inl (0, 12, []), .inl (0, 48, []), .inl (0, 48, []), .inr (6, [.inl 0, .inl 0, .inl 0, .inl 0, .inl (-1), .inl 0, .inr (.inr (some 178)), .inr (.inr (some 179)), .inr (.inr (some 180)), .inr (.inr (some 181)), .inr (.inr (some 182)), .inr (.inr (some 183)), .inr (.inr (some 184)), .inr (.inr (some 185))]), .inl (0, 8, []), .inl (0, 8, []), .inl (0, 8, []), .inl (0, 8, []), .inl (0, 8, []), .inl (0, 8, []), .inl (0, 8, []), .inl (0, 100, []), .inr (3, [.inl 0, .inr (.inr (some 187)), .inr (.inr (some 188)), .inr (.inr (some 189))]), .inl (0, 30, []), .inl (0, 30, []), .inl (0, 30, []), .inr (5, [.inl 0, .inl 0, .inr (.inr (some 191)), .inr (.inr (some 192)), .inr (.inr (some 193)), .inr (.inr (some 194))]), .inl (0, 40, []), .inl (0, 40, []), .inl (0, 40, []), .inl (0, 20, []), .inr (8, [.inl 0, .inr (.inr (some 196)), .inr (.inr (some 212)), .inr (.inr (some 221)), .inr (.inr (some 225))]), .inr (0, [.inl 0, .inl 0, .inl 0, .inl 0, .inl 0, .inl 0, .inl 0, .inl 0, .inl 0, .inl 0, .inr (.inr (some 197)), .inr (.inr (some 207)), .inr (.inr (some 208)), .inr (.inr (some 209)), .inr (.inr (some 210)), .inr (.inr (some 211))]), .inr (1, [.inl 0, .inl 0, .inr (.inr (some 198)), .inr (.inr (some 199)), .inr (.inr (some 200)), .inr (.inr (some 201)), .inr (.inr (some 202)), .inr (.inr (some 203)), .inr (.inr (some 204)), .inr (.inr (some 205)), .inr (.inr (some 206))]), .inl (0, 8, []), .inl (0, 8, []), .inl (0, 8, []), .inl (0, 8, []), .inl (0, 8, []), .inl (0, 8, []), .inl (0, 8, []), .inl (0, 8, []), .inl (0, 8, []), .inl (0, 100, []), .inl (0, 100, []), .inl (0, 12, []), .inl (0, 48, []), .inl (0, 48, []), .inr (6, [.inl 0, .inl 0, .inl 0, .inl 0, .inl (-1), .inl 0, .inr (.inr (some 213)), .inr (.inr (some 214)), .inr (.inr (some 215)), .inr (.inr (some 216)), .inr (.inr (some 217)), .inr (.inr (some 218)), .inr (.inr (some 219)), .inr (.inr (some 220))]), .inl (0, 8, []), .inl (0, 8, []), .inl (0, 8, []), .inl (0, 8, []), .inl (0, 8, []), .inl (0, 8, []), .inl (0, 8, []), .inl (0, 100, []), .inr (3, [.inl 0, .inr (.inr (some 222)), .inr (.inr (some 223)), .inr (.inr (some 224))]), .inl (0, 30, []), .inl (0, 30, []), .inl (0, 30, []), .inr (5, [.inl 0, .inl 0, .inr (.inr (some 226)), .inr (.inr (some 227)), .inr (.inr (some 228)), .inr (.inr (some 229))]), .inl (0, 40, []), .inl (0, 40, []), .inl (0, 40, []), .inl (0, 20, []), .inr (11, [.inl 0, .inr (.inr (some 231)), .inl 0, .inl 0, .inl 0, .inl 0, .inr (.inr (some 232)), .inr (.inr (some 233)), .inr (.inr (some 234)), .inr (.inr (some 235)), .inr (.inr (some 236)), .inl 0, .inl 0, .inl 0, .inl 0, .inl 0, .inl 0, .inr (.inl 0), .inl 0, .inl 0, .inl 0, .inl 0, .inl 0, .inl 0, .inl 0, .inl 0, .inl 0, .inl 0, .inl 0, .inr (.inr (some 237)), .inr (.inr (some 238)), .inr (.inr (some 239)), .inr (.inr (some 240)), .inl 0, .inl 0, .inl 0, .inr (.inr (some 241)), .inr (.inr (some 242)), .inl 0, .inl 0, .inl 0, .inr (.inr (some 243)), .inr (.inr (some 244)), .inl 0, .inr (.inr (some 245)), .inl 0, .inl 0, .inl 0, .inl 0, .inl 0, .inr (.inr (some 246)), .inr (.inr (some 247)), .inr (.inr (some 248)), .inr (.inr (some 249))]), .inl (1, 940, []), .inl (0, 845, []), .inl (0, 371, []), .inl (0, 135, []), .inl (3, 16, []), .inl (3, 24, [.inr (.inl 2036429412), .inr (.inl 478745093490), .inr (.inl 1986096741), .inr (.inl 1953654117), .inr (.inl 439788397413), .inr (.inl 1701078137), .inr (.inl 1735750516), .inr (.inl 1885430644), .inr (.inl 1886154612), .inr (.inl 7501166), .inr (.inl 7562612), .inr (.inl 1717922924), .inr (.inl 7301484), .inr (.inl 482905517684), .inr (.inl 1651273591), .inr (.inl 28530), .inr (.inl 6385252), .inr (.inl 7237492), .inr (.inl 439720568179), .inr (.inl 1735355492), .inr (.inl 483006772069), .inr (.inl 495874302827), .inr (.inl 6580594), .inr (.inl 482854658917)]), .inl (0, 8, []), .inl (0, 8, []), .inl (0, 172, []), .inl (0, 1376, []), .inl (0, 2048, []), .inl (0, 384, []), .inl (0, 5, []), .inl (0, 172, []), .inl (0, 45, []), .inl (2, 45, []), .inl (0, 1690, []), .inl (3, 16, []), .inl (2, 2, []), .inl (3, 1, [])]
def ordT : List (List (List Nat)) := [[[0, 1, 41, 157, 158, 159]], [[2, 3, 4, 5]], [[6], [160], [195]], [[7, 18, 19, 20, 21, 22, 8, 9, 10, 11, 12, 13, 14, 15, 16, 17], [161, 172, 173, 174, 175, 176, 162, 163, 164, 165, 166, 167, 168, 169, 170, 171], [196, 207, 208, 209, 210, 211, 197, 198, 199, 200, 201, 202, 203, 204, 205, 206], [42, 53, 54, 55, 56, 57, 43, 44, 45, 46, 47, 48, 49, 50, 51, 52]], [[23, 24, 25, 26, 27, 28, 29, 30, 31], [177, 178, 179, 180, 181, 182, 183, 184, 185], [212, 213, 214, 215, 216, 217, 218, 219, 220], [148, 149, 150, 151, 152, 153, 154, 155, 156], [69, 70, 71, 72, 73, 74, 75, 76, 77], [78, 79, 80, 81, 82, 83, 84, 85, 86], [87, 88, 89, 90, 91, 92, 93, 94, 95], [96, 97, 98, 99, 100, 101, 102, 103, 104], [105, 106, 107, 108, 109, 110, 111, 112, 113], [114, 115, 116, 117, 118, 119, 120, 121, 122], [123, 124, 125, 126, 127, 128, 129, 130, 131], [132, 133, 134, 135, 136, 137, 138, 139, 140]], [[32, 33, 34, 35], [186, 187, 188, 189], [221, 222, 223, 224], [58, 59, 60, 61]], [[36, 37, 38, 39, 40], [190, 191, 192, 193, 194], [225, 226, 227, 228, 229], [62, 63, 64, 65, 66]], [[67, 68]], [[141, 142, 143, 144]], [[145, 146, 147]], [[230, 231, 232, 233, 234, 235, 236, 237, 238, 239, 240, 241, 242, 243, 244, 245, 246, 247, 248, 249]], [[250]]]
def invT : List (Nat × Nat × Nat) := [(0, 0, 0), (0, 0, 1), (1, 0, 0), (1, 0, 1), (1, 0, 2), (1, 0, 3), (2, 0, 0), (3, 0, 0), (3, 0, 6), (3, 0, 7), (3, 0, 8), (3, 0, 9), (3, 0, 10), (3, 0, 11), (3, 0, 12), (3, 0, 13), (3, 0, 14), (3, 0, 15), (3, 0, 1), (3, 0, 2), (3, 0, 3), (3, 0, 4), (3, 0, 5), (4, 0, 0), (4, 0, 1), (4, 0, 2), (4, 0, 3), (4, 0, 4), (4, 0, 5), (4, 0, 6), (4, 0, 7), (4, 0, 8), (5, 0, 0), (5, 0, 1), (5, 0, 2), (5, 0, 3), (6, 0, 0), (6, 0, 1), (6, 0, 2), (6, 0, 3), (6, 0, 4), (0, 0, 2), (3, 3, 0), (3, 3, 6), (3, 3, 7), (3, 3, 8), (3, 3, 9), (3, 3, 10), (3, 3, 11), (3, 3, 12), (3, 3, 13), (3, 3, 14), (3, 3, 15), (3, 3, 1), (3, 3, 2), (3, 3, 3), (3, 3, 4), (3, 3, 5), (5, 3, 0), (5, 3, 1), (5, 3, 2), (5, 3, 3), (6, 3, 0), (6, 3, 1), (6, 3, 2), (6, 3, 3), (6, 3, 4), (7, 0, 0), (7, 0, 1), (4, 4, 0), (4, 4, 1), (4, 4, 2), (4, 4, 3), (4, 4, 4), (4, 4, 5), (4, 4, 6), (4, 4, 7), (4, 4, 8), (4, 5, 0), (4, 5, 1), (4, 5, 2), (4, 5, 3), (4, 5, 4), (4, 5, 5), (4, 5, 6), (4, 5, 7), (4, 5, 8), (4, 6, 0), (4, 6, 1), (4, 6, 2), (4, 6, 3), (4, 6, 4), (4, 6, 5), (4, 6, 6), (4, 6, 7), (4, 6, 8), (4, 7, 0), (4, 7, 1), (4, 7, 2), (4, 7, 3), (4, 7, 4), (4, 7, 5), (4, 7, 6), (4, 7, 7), (4, 7, 8), (4, 8, 0), (4, 8, 1), (4, 8, 2), (4, 8, 3), (4, 8, 4), (4, 8, 5), (4, 8, 6), (4, 8, 7), (4, 8, 8), (4, 9, 0), (4, 9, 1), (4, 9, 2), (4, 9, 3), (4, 9, 4), (4, 9, 5), (4, 9, 6), (4, 9, 7), (4, 9, 8), (4, 10, 0), (4, 10, 1), (4, 10, 2), (4, 10, 3), (4, 10, 4), (4, 10, 5), (4, 10, 6), (4, 10, 7), (4, 10, 8), (4, 11, 0), (4, 11, 1), (4, 11, 2), (4, 11, 3), (4, 11, 4), (4, 11, 5), (4, 11, 6), (4, 11, 7), (4, 11, 8), (8, 0, 0), (8, 0, 1), (8, 0, 2), (8, 0, 3), (9, 0, 0), (9, 0, 1), (9, 0, 2), (4, 3, 0), (4, 3, 1), (4, 3, 2), (4, 3, 3), (4, 3, 4), (4, 3, 5), (4, 3, 6), (4, 3, 7), (4, 3, 8), (0, 0, 3), (0, 0, 4), (0, 0, 5), (2, 1, 0), (3, 1, 0), (3, 1, 6), (3, 1, 7), (3, 1, 8), (3, 1, 9), (3, 1, 10), (3, 1, 11), (3, 1, 12), (3, 1, 13), (3, 1, 14), (3, 1, 15), (3, 1, 1), (3, 1, 2), (3, 1, 3), (3, 1, 4), (3, 1, 5), (4, 1, 0), (4, 1, 1), (4, 1, 2), (4, 1, 3), (4, 1, 4), (4, 1, 5), (4, 1, 6), (4, 1, 7), (4, 1, 8), (5, 1, 0), (5, 1, 1), (5, 1, 2), (5, 1, 3), (6, 1, 0), (6, 1, 1), (6, 1, 2), (6, 1, 3), (6, 1, 4), (2, 2, 0), (3, 2, 0), (3, 2, 6), (3, 2, 7), (3, 2, 8), (3, 2, 9), (3, 2, 10), (3, 2, 11), (3, 2, 12), (3, 2, 13), (3, 2, 14), (3, 2, 15), (3, 2, 1), (3, 2, 2), (3, 2, 3), (3, 2, 4), (3, 2, 5), (4, 2, 0), (4, 2, 1), (4, 2, 2), (4, 2, 3), (4, 2, 4), (4, 2, 5), (4, 2, 6), (4, 2, 7), (4, 2, 8), (5, 2, 0), (5, 2, 1), (5, 2, 2), (5, 2, 3), (6, 2, 0), (6, 2, 1), (6, 2, 2), (6, 2, 3), (6, 2, 4), (10, 0, 0), (10, 0, 1), (10, 0, 2), (10, 0, 3), (10, 0, 4), (10, 0, 5), (10, 0, 6), (10, 0, 7), (10, 0, 8), (10, 0, 9), (10, 0, 10), (10, 0, 11), (10, 0, 12), (10, 0, 13), (10, 0, 14), (10, 0, 15), (10, 0, 16), (10, 0, 17), (10, 0, 18), (10, 0, 19), (11, 0, 0)]
def resW : List Int64 := [2036429412, 478745093490, 1986096741, 1953654117, 439788397413, 1701078137, 1735750516, 1885430644, 1886154612, 7501166, 7562612, 1717922924, 7301484, 482905517684, 1651273591, 28530, 6385252, 7237492, 439720568179, 1735355492, 483006772069, 495874302827, 6580594, 482854658917]
def ordC (k i j : Nat) : Nat := ((ordT.getD k []).getD i []).getD j 0
/-- the memory at the start -/
def C0m : CM := (fun k _ j x => if k = 4 ∧ j = 0 ∧ x = 4 then -1 else if k = 0 ∧ j = 0 ∧ x = 13 then -1 else if k = 0 ∧ j = 5 then -1 else 0, fun k i _ => if k = 2 then i else 3)
def X0m : XM := (fun _ _ => 0, fun j x => if j = 6 then resW.getD x 0 else 0)
/-- both constructors, and the law's row -/
def f_init : Option (Int32 × List CD) := dnw [] 10 (fun D q => dcal (f_X10_init q D) (fun D => dnw D 11 (fun D q => dcal (f_X11_init q D) (fun D => dna D 3 1 (fun D _ => rt 0 D)))))
def vlA (k i j x : Nat) : VV := match tc k j x with
  | 0 => .inl (vI (C0m, X0m) k i j x)
  | 1 => .inr (.inl (vL (C0m, X0m) k j x))
  | _ => .inr (.inr (some (ordC (rf C0m.2 i k j x).1 (rf C0m.2 i k j x).2.1 (rf C0m.2 i k j x).2.2)))
def okC (k i j : Nat) : Bool := match Dfin[ordC k i j]?, ck k j with
  | some (.inl (t', len', pre)), .inl (t, len) => decide (t' = t) && decide (len' = len) && (List.range len).all (fun x => decide (vlA k i j x = pre.getD x (dft t)))
  | some (.inr (ci', fs)), .inr ci => decide (ci' = ci) && decide (ci < 12) && (List.range (nC ci)).all (fun x => decide (vlA k i j x = fs.getD x (.inl 0)))
  | _, _ => false
def okK (k : Nat) : Bool := (List.range (cntK k)).all (fun i => (List.range (prtK k)).all (fun j => okC k i j && decide (invT[ordC k i j]? = some (k, i, j))))
def eqL : List VV → List VV → Bool
  | [], [] => true
  | a :: r, b :: q => decide (a = b) && eqL r q
  | _, _ => false
theorem eqL_ok : ∀ {a b : List VV}, eqL a b = true → a = b
  | [], [], _ => rfl
  | a :: r, b :: q, h => by
    simp only [eqL, Bool.and_eq_true, decide_eq_true_eq] at h
    rw [h.1, eqL_ok h.2]
  | [], _ :: _, h => by simp [eqL] at h
  | _ :: _, [], h => by simp [eqL] at h
def eqC : CD → CD → Bool
  | .inl (t, n, p), .inl (t', n', p') => decide (t = t') && decide (n = n') && eqL p p'
  | .inr (c, p), .inr (c', p') => decide (c = c') && eqL p p'
  | _, _ => false
theorem eqC_ok {a b : CD} (h : eqC a b = true) : a = b := by
  match a, b, h with
  | .inl (t, n, p), .inl (t', n', p'), h =>
    simp only [eqC, Bool.and_eq_true, decide_eq_true_eq] at h
    rw [h.1.1, h.1.2, eqL_ok h.2]
  | .inr (c, p), .inr (c', p'), h =>
    simp only [eqC, Bool.and_eq_true, decide_eq_true_eq] at h
    rw [h.1, eqL_ok h.2]
  | .inl _, .inr _, h => simp [eqC] at h
  | .inr _, .inl _, h => simp [eqC] at h
def eqD : List CD → List CD → Bool
  | [], [] => true
  | a :: r, b :: q => eqC a b && eqD r q
  | _, _ => false
theorem eqD_ok : ∀ {a b : List CD}, eqD a b = true → a = b
  | [], [], _ => rfl
  | a :: r, b :: q, h => by
    simp only [eqD, Bool.and_eq_true] at h
    rw [eqC_ok h.1, eqD_ok h.2]
  | [], _ :: _, h => by simp [eqD] at h
  | _ :: _, [], h => by simp [eqD] at h
def f_initB : Bool := match f_init with
  | some q => eqD q.2 Dfin
  | none => false
theorem f_init_ok : f_initB = true := by decide +kernel
theorem Dfin_eq : ∃ v, f_init = some (v, Dfin) := by
  have h := f_init_ok
  unfold f_initB at h
  split at h
  · rename_i q hq
    exact ⟨q.1, by rw [hq, ← eqD_ok h]⟩
  · cases h
theorem arrV_cong {cA : ClassId} {n : Nat} {f g : Nat → Value} (h : ∀ x, x < n → f x = g x) : arrV cA n f = arrV cA n g := by
  unfold arrV
  congr 1
  apply congrArg
  funext z
  exact h z.val z.isLt
theorem okK_0 : okK 0 = true := by decide +kernel
theorem okK_1 : okK 1 = true := by decide +kernel
theorem okK_2 : okK 2 = true := by decide +kernel
theorem okK_3 : okK 3 = true := by decide +kernel
theorem okK_4 : okK 4 = true := by decide +kernel
theorem okK_5 : okK 5 = true := by decide +kernel
theorem okK_6 : okK 6 = true := by decide +kernel
theorem okK_7 : okK 7 = true := by decide +kernel
theorem okK_8 : okK 8 = true := by decide +kernel
theorem okK_9 : okK 9 = true := by decide +kernel
theorem okK_10 : okK 10 = true := by decide +kernel
theorem okK_11 : okK 11 = true := by decide +kernel
theorem okK_all {k i j : Nat} (h : vd k i j) : okC k i j = true ∧ invT[ordC k i j]? = some (k, i, j) := by
  have hk : okK k = true := by
    match k with
    | 0 => exact okK_0
    | 1 => exact okK_1
    | 2 => exact okK_2
    | 3 => exact okK_3
    | 4 => exact okK_4
    | 5 => exact okK_5
    | 6 => exact okK_6
    | 7 => exact okK_7
    | 8 => exact okK_8
    | 9 => exact okK_9
    | 10 => exact okK_10
    | 11 => exact okK_11
    | n + 12 => have := h.1; simp [cntK] at this
  unfold okK at hk
  have h1 := List.all_eq_true.mp hk i (List.mem_range.mpr h.1)
  have h2 := List.all_eq_true.mp h1 j (List.mem_range.mpr h.2)
  simp only [Bool.and_eq_true, decide_eq_true_eq] at h2
  exact h2
theorem gok_of {G : GX} (hg : ∀ k i j, gA G k i j = gS G + ordC k i j) : GOK G := by
  refine ⟨fun k i j k' i' j' h h' e => ?_, fun k i j _ => by rw [hg]; exact Nat.le_add_right _ _⟩
  rw [hg, hg] at e
  have e : ordC k i j = ordC k' i' j' := by omega
  have h1 := (okK_all h).2
  rw [e, (okK_all h').2] at h1
  have := Option.some.inj h1
  simp only [Prod.mk.injEq] at this
  exact ⟨this.1.symm, this.2.1.symm, this.2.2.symm⟩
theorem vl_A {G : GX} (hg : ∀ k i j, gA G k i j = gS G + ordC k i j) (k i j x : Nat) : vl G (C0m, X0m) k i j x = vvV (gS G) (vlA k i j x) := by
  unfold vl vlA vr
  generalize tc k j x = z
  match z with
  | 0 => rfl
  | 1 => rfl
  | n + 2 =>
    rw [hg]
    rfl
theorem nC_of {ci : Nat} {r : vw_C} (h : vwCl[ci]? = some r) : nC ci = r.2.2 := by
  match ci, h with
  | 0, h => cases h; rfl
  | 1, h => cases h; rfl
  | 2, h => cases h; rfl
  | 3, h => cases h; rfl
  | 4, h => cases h; rfl
  | 5, h => cases h; rfl
  | 6, h => cases h; rfl
  | 7, h => cases h; rfl
  | 8, h => cases h; rfl
  | 9, h => cases h; rfl
  | 10, h => cases h; rfl
  | 11, h => cases h; rfl
  | n + 12, h => simp at h
theorem hold_init {G : GX} {H : Heap} (hg : ∀ k i j, gA G k i j = gS G + ordC k i j) (h : HD G Dfin H) : Hold G (C0m, X0m) H := by
  intro k i j hv
  have hok := (okK_all hv).1
  unfold okC at hok
  split at hok
  · rename_i t' len' pre t len hD hc
    simp only [Bool.and_eq_true, decide_eq_true_eq] at hok
    obtain ⟨⟨rfl, rfl⟩, h3⟩ := hok
    have h0 := h.2 _ _ hD
    unfold celO
    rw [hc]
    show H[gA G k i j]? = some (arrV (G.2.1 t') len' (vl G (C0m, X0m) k i j))
    rw [hg]
    have h0 : H[gS G + ordC k i j]? = some (arrV (G.2.1 t') len' (fun x => vvV (gS G) (pre.getD x (dft t')))) := h0
    rw [h0]
    refine congrArg some (arrV_cong (fun z hz => ?_))
    have h4 := List.all_eq_true.mp h3 z (List.mem_range.mpr hz)
    rw [vl_A hg, of_decide_eq_true h4]
  · rename_i ci' fs ci hD hc
    simp only [Bool.and_eq_true, decide_eq_true_eq] at hok
    obtain ⟨⟨rfl, hlt⟩, h3⟩ := hok
    obtain ⟨r, hr, h0⟩ := h.2 _ _ hD
    unfold celO
    rw [hc]
    refine ⟨r, hr, ?_⟩
    rw [hg]
    refine h0.to (fun x hx => ?_)
    have h4 := List.all_eq_true.mp h3 x (List.mem_range.mpr (by rw [nC_of hr]; exact hx))
    rw [vl_A hg, of_decide_eq_true h4]
  · cases hok

theorem ggX0_build_X6_colourStep : GoodIn wsX0_build wsX6_colourStep := goodIn_r _ [12, 13, 14, 15, 16] (by decide +kernel) (by decide +kernel)
set_option maxRecDepth 20000 in
theorem gX0_build_X6_colourStep : GoodIn wsX0_build (va_wsS RX0 522 yX6_colourStep wsX6_colourStep) := goodIn_app (goodIn_of _ (by decide +kernel)) ggX0_build_X6_colourStep
set_option maxRecDepth 20000 in
theorem ggX0_build_X9_sides : GoodIn wsX0_build wsX9_sides := goodIn_r _ [21, 22, 23, 24, 20, 25, 26, 27, 28, 29, 30, 31, 32, 33, 34, 358, 359, 360, 361, 362, 363, 364, 365, 366, 367, 368, 369, 370, 371, 372, 373, 374, 375, 376, 377, 378, 379, 380, 381, 382, 383, 384, 385, 386, 387, 388, 389, 390, 391, 392, 393, 394, 395] (by decide +kernel) (by decide +kernel)
set_option maxRecDepth 20000 in
theorem gX0_build_X9_sides : GoodIn wsX0_build (wsV RX0 353 RX9 yX9_sides wsX9_sides) := goodIn_app (goodIn_of _ (by decide +kernel)) ggX0_build_X9_sides
set_option maxRecDepth 20000 in
theorem ggX0_build_X6_fillColours : GoodIn wsX0_build wsX6_fillColours := goodIn_r _ [297, 195, 193, 41, 42, 43, 44, 194, 228, 39, 56, 48, 204, 205, 20, 206, 290, 291, 292, 11, 293, 229, 230, 231, 232, 198, 197, 233, 234, 59, 235, 211, 212, 213, 49, 50, 51, 236, 237, 238, 239, 40, 240, 241, 242, 243, 358, 359, 360, 361, 362, 363, 364, 365, 366, 367, 368, 369, 370, 371, 372, 373, 374, 375, 376, 377, 396, 397, 398, 399, 400, 401, 402, 403, 404, 405, 406, 407, 408, 409, 378, 379, 380, 381, 382, 383, 384, 385, 386, 387, 388, 389, 390, 391, 392, 393, 394, 395] (by decide +kernel) (by decide +kernel)
set_option maxRecDepth 20000 in
theorem gX0_build_X6_fillColours : GoodIn wsX0_build (wsV RX0 551 RX6 yX6_fillColours wsX6_fillColours) := goodIn_app (goodIn_of _ (by decide +kernel)) ggX0_build_X6_fillColours
set_option maxRecDepth 20000 in
theorem ggX0_build_X0_maySkip : GoodIn wsX0_build wsX0_maySkip := goodIn_r _ [301, 1, 2, 302, 303, 304, 305, 306, 307, 308, 309, 310, 311, 20, 312, 313, 314, 22, 23, 24, 25, 26, 27, 28, 29, 315, 316, 317, 318, 319, 320, 321, 322, 323, 324, 252, 118, 119, 253, 121, 122, 325, 326, 327, 328, 329, 330, 331, 332, 333, 334, 335, 336, 337, 338, 339, 340, 341, 342, 343, 344, 345, 346, 347, 348, 349, 350, 351, 352, 353, 354, 355, 356, 357, 358, 359, 360, 361, 362, 363, 364, 365, 366, 367, 368, 369, 370, 371, 372, 373, 374, 375, 376, 377, 414, 415, 416, 417, 378, 379, 380, 381, 382, 383, 384, 385, 386, 387, 388, 389, 390, 391, 392, 393, 394, 395] (by decide +kernel) (by decide +kernel)
set_option maxRecDepth 20000 in
theorem gX0_build_X0_maySkip : GoodIn wsX0_build (wsV RX0 554 RX0 yX0_maySkip wsX0_maySkip) := goodIn_app (goodIn_of _ (by decide +kernel)) ggX0_build_X0_maySkip
theorem ggX0_build_X6_measureColours : GoodIn wsX0_build wsX6_measureColours := goodIn_r _ [289, 39, 48, 193, 194, 195, 196, 199, 49, 50, 11, 51, 200, 201, 202, 203, 40, 204, 205, 20, 206, 207, 208, 209, 210, 198, 197, 211, 212, 213, 214, 215, 216, 217, 218, 219, 290, 291, 292, 293, 358, 359, 360, 361, 362, 363, 364, 365, 366, 367, 368, 369, 370, 371, 372, 373, 374, 375, 376, 377, 378, 379, 380, 381, 382, 383, 384, 385, 386, 387, 388, 389, 390, 391, 392, 393, 394, 395, 396, 397, 398, 399, 400, 401, 402, 403, 404, 405, 406, 407, 408, 409] (by decide +kernel) (by decide +kernel)
set_option maxRecDepth 20000 in
theorem gX0_build_X6_measureColours : GoodIn wsX0_build (wsV RX0 547 RX6 yX6_measureColours wsX6_measureColours) := goodIn_app (goodIn_of _ (by decide +kernel)) ggX0_build_X6_measureColours
set_option maxRecDepth 20000 in
theorem ggX0_build_X0_buildPieces : GoodIn wsX0_build wsX0_buildPieces := goodIn_r _ [248, 1, 2, 4, 7, 5, 249, 250, 20, 251, 252, 118, 119, 253, 121, 122, 254, 255, 256, 11, 257, 39, 71, 40, 117, 120, 45, 46, 47, 48, 258, 259, 260, 261, 56, 262, 263, 264, 265, 266, 267, 268, 269, 270, 271, 272, 273, 274, 275, 276, 277, 278, 279, 280, 281, 195, 196, 200, 201, 202, 203, 194, 204, 205, 206, 207, 208, 209, 210, 198, 197, 199, 211, 212, 213, 214, 215, 216, 217, 218, 219, 282, 283, 284, 285, 229, 230, 231, 232, 228, 233, 234, 59, 235, 236, 237, 238, 239, 240, 241, 242, 243, 337, 338, 339, 340, 341, 342, 343, 344, 345, 346, 347, 348, 349, 350, 351, 352, 353, 354, 355, 356, 357, 358, 359, 360, 361, 362, 363, 364, 365, 366, 367, 368, 369, 370, 371, 372, 373, 374, 375, 376, 377, 396, 397, 398, 399, 400, 401, 402, 403, 404, 405, 406, 407, 408, 409, 378, 379, 380, 381, 382, 383, 384, 385, 386, 387, 388, 389, 390, 391, 392, 393, 394, 395] (by decide +kernel) (by decide +kernel)
set_option maxRecDepth 20000 in
theorem gX0_build_X0_buildPieces : GoodIn wsX0_build (wsV RX0 543 RX0 yX0_buildPieces wsX0_buildPieces) := goodIn_app (goodIn_of _ (by decide +kernel)) ggX0_build_X0_buildPieces
set_option maxRecDepth 20000 in
theorem ggX0_build_X6_predictSixteen : GoodIn wsX0_build wsX6_predictSixteen := goodIn_r _ [188, 39, 56, 48, 40, 71, 45, 46, 11, 47, 72, 73, 74, 75, 76, 77, 78, 79, 84, 85, 86, 87, 358, 359, 360, 361, 362, 363, 364, 365, 366, 367, 368, 369, 370, 371, 372, 373, 374, 375, 376, 377, 378, 379, 380, 381, 382, 383, 384, 385, 386, 387, 388, 389, 390, 391, 392, 393, 394, 395, 396, 397, 398, 399, 400, 401, 402, 403, 404, 405, 406, 407, 408, 409] (by decide +kernel) (by decide +kernel)
set_option maxRecDepth 20000 in
theorem gX0_build_X6_predictSixteen : GoodIn wsX0_build (wsV RX0 448 RX6 yX6_predictSixteen wsX6_predictSixteen) := goodIn_app (goodIn_of _ (by decide +kernel)) ggX0_build_X6_predictSixteen
set_option maxRecDepth 20000 in
theorem ggX0_build_X6_measureSixteen : GoodIn wsX0_build wsX6_measureSixteen := goodIn_r _ [192, 39, 48, 193, 194, 195, 196, 197, 198, 199, 117, 118, 20, 119, 120, 121, 122, 45, 46, 11, 47, 200, 201, 202, 203, 40, 204, 205, 206, 207, 208, 209, 210, 211, 212, 213, 214, 215, 216, 217, 218, 219, 220, 221, 222, 223, 358, 359, 360, 361, 362, 363, 364, 365, 366, 367, 368, 369, 370, 371, 372, 373, 374, 375, 376, 377, 378, 379, 380, 381, 382, 383, 384, 385, 386, 387, 388, 389, 390, 391, 392, 393, 394, 395, 396, 397, 398, 399, 400, 401, 402, 403, 404, 405, 406, 407, 408, 409] (by decide +kernel) (by decide +kernel)
set_option maxRecDepth 20000 in
theorem gX0_build_X6_measureSixteen : GoodIn wsX0_build (wsV RX0 535 RX6 yX6_measureSixteen wsX6_measureSixteen) := goodIn_app (goodIn_of _ (by decide +kernel)) ggX0_build_X6_measureSixteen
set_option maxRecDepth 20000 in
theorem ggX0_build_X6_fillSixteen : GoodIn wsX0_build wsX6_fillSixteen := goodIn_r _ [227, 193, 197, 198, 195, 194, 228, 39, 56, 48, 204, 205, 20, 206, 220, 221, 222, 11, 223, 117, 118, 119, 120, 121, 122, 229, 230, 231, 232, 233, 234, 59, 235, 211, 212, 213, 45, 46, 47, 236, 237, 238, 239, 40, 240, 241, 242, 243, 396, 397, 398, 399, 400, 401, 402, 403, 404, 405, 406, 407, 408, 409, 358, 359, 360, 361, 362, 363, 364, 365, 366, 367, 368, 369, 370, 371, 372, 373, 374, 375, 376, 377, 378, 379, 380, 381, 382, 383, 384, 385, 386, 387, 388, 389, 390, 391, 392, 393, 394, 395] (by decide +kernel) (by decide +kernel)
set_option maxRecDepth 20000 in
theorem gX0_build_X6_fillSixteen : GoodIn wsX0_build (wsV RX0 539 RX6 yX6_fillSixteen wsX6_fillSixteen) := goodIn_app (goodIn_of _ (by decide +kernel)) ggX0_build_X6_fillSixteen
set_option maxRecDepth 20000 in
theorem ggX0_build_X6_predictByLists : GoodIn wsX0_build wsX6_predictByLists := goodIn_r _ [91, 39, 92, 93, 94, 95, 96, 97, 98, 99, 100, 101, 102, 103, 104, 11, 105, 106, 107, 108, 109, 110, 111, 112, 113, 48, 114, 115, 116, 117, 118, 20, 119, 120, 121, 122, 123, 124, 125, 126, 127, 128, 129, 130, 131, 56, 132, 133, 134, 135, 136, 137, 138, 139, 140, 141, 142, 143, 144, 145, 146, 147, 148, 149, 150, 151, 152, 153, 154, 155, 156, 157, 158, 159, 160, 161, 162, 163, 164, 165, 166, 167, 168, 169, 170, 171, 172, 173, 174, 175, 176, 177, 178, 179, 180, 181, 182, 40, 183, 15, 184, 358, 359, 360, 361, 362, 363, 364, 365, 366, 367, 368, 369, 370, 371, 372, 373, 374, 375, 376, 377, 378, 379, 380, 381, 382, 383, 384, 385, 386, 387, 388, 389, 390, 391, 392, 393, 394, 395, 396, 397, 398, 399, 400, 401, 402, 403, 404, 405, 406, 407, 408, 409, 414, 415, 416, 417] (by decide +kernel) (by decide +kernel)
set_option maxRecDepth 20000 in
theorem gX0_build_X6_predictByLists : GoodIn wsX0_build (wsV RX0 498 RX6 yX6_predictByLists wsX6_predictByLists) := goodIn_app (goodIn_of _ (by decide +kernel)) ggX0_build_X6_predictByLists
set_option maxRecDepth 20000 in
theorem ggX0_build_X6_predictColours_ : GoodIn wsX0_build wsX6_predictColours_ := goodIn_r _ [70, 39, 56, 48, 40, 71, 49, 50, 11, 51, 72, 73, 74, 75, 76, 77, 78, 79, 80, 81, 82, 83, 84, 85, 86, 87, 358, 359, 360, 361, 362, 363, 364, 365, 366, 367, 368, 369, 370, 371, 372, 373, 374, 375, 376, 377, 378, 379, 380, 381, 382, 383, 384, 385, 386, 387, 388, 389, 390, 391, 392, 393, 394, 395, 396, 397, 398, 399, 400, 401, 402, 403, 404, 405, 406, 407, 408, 409] (by decide +kernel) (by decide +kernel)
set_option maxRecDepth 20000 in
theorem gX0_build_X6_predictColours_ : GoodIn wsX0_build (wsV RX0 515 RX6 yX6_predictColours_ wsX6_predictColours_) := goodIn_app (goodIn_of _ (by decide +kernel)) ggX0_build_X6_predictColours_
set_option maxRecDepth 20000 in
theorem ggX0_build_X6_takeRaw : GoodIn wsX0_build wsX6_takeRaw := goodIn_r _ [38, 39, 40, 41, 42, 43, 44, 45, 46, 11, 47, 48, 49, 50, 51, 358, 359, 360, 361, 362, 363, 364, 365, 366, 367, 368, 369, 370, 371, 372, 373, 374, 375, 376, 377, 396, 397, 398, 399, 400, 401, 402, 403, 404, 405, 406, 407, 408, 409, 378, 379, 380, 381, 382, 383, 384, 385, 386, 387, 388, 389, 390, 391, 392, 393, 394, 395] (by decide +kernel) (by decide +kernel)
set_option maxRecDepth 20000 in
theorem gX0_build_X6_takeRaw : GoodIn wsX0_build (wsV RX0 525 RX6 yX6_takeRaw wsX6_takeRaw) := goodIn_app (goodIn_of _ (by decide +kernel)) ggX0_build_X6_takeRaw
set_option maxRecDepth 20000 in
theorem ggX0_build_X6_fillRaw : GoodIn wsX0_build wsX6_fillRaw := goodIn_r _ [55, 40, 39, 56, 41, 42, 43, 44, 45, 46, 11, 47, 48, 49, 50, 51, 396, 397, 398, 399, 400, 401, 402, 403, 404, 405, 406, 407, 408, 409, 358, 359, 360, 361, 362, 363, 364, 365, 366, 367, 368, 369, 370, 371, 372, 373, 374, 375, 376, 377, 378, 379, 380, 381, 382, 383, 384, 385, 386, 387, 388, 389, 390, 391, 392, 393, 394, 395] (by decide +kernel) (by decide +kernel)
set_option maxRecDepth 20000 in
theorem gX0_build_X6_fillRaw : GoodIn wsX0_build (wsV RX0 529 RX6 yX6_fillRaw wsX6_fillRaw) := goodIn_app (goodIn_of _ (by decide +kernel)) ggX0_build_X6_fillRaw
set_option maxRecDepth 20000 in
theorem ggX0_build_J7_fill_fda19 : GoodIn wsX0_build wsJ7_fill_fda19 := goodIn_r _ [60, 61, 62, 59, 63, 64, 65, 66, 410, 411, 412, 413] (by decide +kernel) (by decide +kernel)
set_option maxRecDepth 20000 in
theorem gX0_build_J7_fill_fda19 : GoodIn wsX0_build (va_wsS RX0 362 yJ7_fill_fda19 wsJ7_fill_fda19) := goodIn_app (goodIn_of _ (by decide +kernel)) ggX0_build_J7_fill_fda19
set_option maxRecDepth 20000 in
theorem dX0_build_0 : decode cX0_build 0 = .ok (.bipush 8, 2) := by decide +kernel
theorem dX0_build_2 : decode cX0_build 2 = .ok (.iload_n 1, 1) := by decide +kernel
theorem dX0_build_3 : decode cX0_build 3 = .ok (.imul, 1) := by decide +kernel
theorem dX0_build_4 : decode cX0_build 4 = .ok (.istore_n 3, 1) := by decide +kernel
theorem dX0_build_5 : decode cX0_build 5 = .ok (.aload_n 0, 1) := by decide +kernel
theorem dX0_build_6 : decode cX0_build 6 = .ok (.getfield 36, 3) := by decide +kernel
theorem dX0_build_9 : decode cX0_build 9 = .ok (.getfield 216, 3) := by decide +kernel
theorem dX0_build_12 : decode cX0_build 12 = .ok (.iload_n 3, 1) := by decide +kernel
theorem dX0_build_13 : decode cX0_build 13 = .ok (.iconst 0, 1) := by decide +kernel
theorem dX0_build_14 : decode cX0_build 14 = .ok (.iadd, 1) := by decide +kernel
theorem dX0_build_15 : decode cX0_build 15 = .ok (.iaload, 1) := by decide +kernel
theorem dX0_build_16 : decode cX0_build 16 = .ok (.istore 4, 2) := by decide +kernel
theorem dX0_build_18 : decode cX0_build 18 = .ok (.iload_n 2, 1) := by decide +kernel
theorem dX0_build_19 : decode cX0_build 19 = .ok (.aload_n 0, 1) := by decide +kernel
theorem dX0_build_20 : decode cX0_build 20 = .ok (.getfield 36, 3) := by decide +kernel
theorem dX0_build_23 : decode cX0_build 23 = .ok (.getfield 85, 3) := by decide +kernel
theorem dX0_build_26 : decode cX0_build 26 = .ok (.bipush 8, 2) := by decide +kernel
theorem dX0_build_28 : decode cX0_build 28 = .ok (.iaload, 1) := by decide +kernel
theorem dX0_build_29 : decode cX0_build 29 = .ok (.invokestatic 522, 3) := by decide +kernel
theorem dX0_build_32 : decode cX0_build 32 = .ok (.istore 5, 2) := by decide +kernel
theorem dX0_build_34 : decode cX0_build 34 = .ok (.iload 4, 2) := by decide +kernel
theorem dX0_build_36 : decode cX0_build 36 = .ok (.iconst 3, 1) := by decide +kernel
theorem dX0_build_37 : decode cX0_build 37 = .ok (.if_icmp .eq 7, 3) := by decide +kernel
theorem dX0_build_40 : decode cX0_build 40 = .ok (.iconst 1, 1) := by decide +kernel
theorem dX0_build_41 : decode cX0_build 41 = .ok (.goto 4, 3) := by decide +kernel
theorem dX0_build_44 : decode cX0_build 44 = .ok (.iconst 0, 1) := by decide +kernel
theorem dX0_build_45 : decode cX0_build 45 = .ok (.istore 6, 2) := by decide +kernel
theorem dX0_build_47 : decode cX0_build 47 = .ok (.iload 6, 2) := by decide +kernel
theorem dX0_build_49 : decode cX0_build 49 = .ok (.ifCond .ne 21, 3) := by decide +kernel
theorem dX0_build_52 : decode cX0_build 52 = .ok (.aload_n 0, 1) := by decide +kernel
theorem dX0_build_53 : decode cX0_build 53 = .ok (.getfield 36, 3) := by decide +kernel
theorem dX0_build_56 : decode cX0_build 56 = .ok (.getfield 216, 3) := by decide +kernel
theorem dX0_build_59 : decode cX0_build 59 = .ok (.iload_n 3, 1) := by decide +kernel
theorem dX0_build_60 : decode cX0_build 60 = .ok (.iconst 1, 1) := by decide +kernel
theorem dX0_build_61 : decode cX0_build 61 = .ok (.iadd, 1) := by decide +kernel
theorem dX0_build_62 : decode cX0_build 62 = .ok (.iaload, 1) := by decide +kernel
theorem dX0_build_63 : decode cX0_build 63 = .ok (.ifCond .ge 7, 3) := by decide +kernel
theorem dX0_build_66 : decode cX0_build 66 = .ok (.iconst 1, 1) := by decide +kernel
theorem dX0_build_67 : decode cX0_build 67 = .ok (.goto 4, 3) := by decide +kernel
theorem dX0_build_70 : decode cX0_build 70 = .ok (.iconst 0, 1) := by decide +kernel
theorem dX0_build_71 : decode cX0_build 71 = .ok (.istore 7, 2) := by decide +kernel
theorem dX0_build_73 : decode cX0_build 73 = .ok (.aload_n 0, 1) := by decide +kernel
theorem dX0_build_74 : decode cX0_build 74 = .ok (.getfield 36, 3) := by decide +kernel
theorem dX0_build_77 : decode cX0_build 77 = .ok (.iload_n 1, 1) := by decide +kernel
theorem dX0_build_78 : decode cX0_build 78 = .ok (.invokevirtual 353, 3) := by decide +kernel
theorem dX0_build_81 : decode cX0_build 81 = .ok (.istore 8, 2) := by decide +kernel
theorem dX0_build_83 : decode cX0_build 83 = .ok (.iload 4, 2) := by decide +kernel
theorem dX0_build_85 : decode cX0_build 85 = .ok (.iconst 2, 1) := by decide +kernel
theorem dX0_build_86 : decode cX0_build 86 = .ok (.if_icmp .ne 55, 3) := by decide +kernel
theorem dX0_build_89 : decode cX0_build 89 = .ok (.aload_n 0, 1) := by decide +kernel
theorem dX0_build_90 : decode cX0_build 90 = .ok (.getfield 43, 3) := by decide +kernel
theorem dX0_build_93 : decode cX0_build 93 = .ok (.aload_n 0, 1) := by decide +kernel
theorem dX0_build_94 : decode cX0_build 94 = .ok (.getfield 36, 3) := by decide +kernel
theorem dX0_build_97 : decode cX0_build 97 = .ok (.aload_n 0, 1) := by decide +kernel
theorem dX0_build_98 : decode cX0_build 98 = .ok (.getfield 69, 3) := by decide +kernel
theorem dX0_build_101 : decode cX0_build 101 = .ok (.iload_n 1, 1) := by decide +kernel
theorem dX0_build_102 : decode cX0_build 102 = .ok (.invokevirtual 525, 3) := by decide +kernel
theorem dX0_build_105 : decode cX0_build 105 = .ok (.aload_n 0, 1) := by decide +kernel
theorem dX0_build_106 : decode cX0_build 106 = .ok (.getfield 43, 3) := by decide +kernel
theorem dX0_build_109 : decode cX0_build 109 = .ok (.aload_n 0, 1) := by decide +kernel
theorem dX0_build_110 : decode cX0_build 110 = .ok (.getfield 36, 3) := by decide +kernel
theorem dX0_build_113 : decode cX0_build 113 = .ok (.iload_n 1, 1) := by decide +kernel
theorem dX0_build_114 : decode cX0_build 114 = .ok (.invokevirtual 529, 3) := by decide +kernel
theorem dX0_build_117 : decode cX0_build 117 = .ok (.aload_n 0, 1) := by decide +kernel
theorem dX0_build_118 : decode cX0_build 118 = .ok (.getfield 36, 3) := by decide +kernel
theorem dX0_build_121 : decode cX0_build 121 = .ok (.getfield 532, 3) := by decide +kernel
theorem dX0_build_124 : decode cX0_build 124 = .ok (.bipush 24, 2) := by decide +kernel
theorem dX0_build_126 : decode cX0_build 126 = .ok (.iload_n 1, 1) := by decide +kernel
theorem dX0_build_127 : decode cX0_build 127 = .ok (.imul, 1) := by decide +kernel
theorem dX0_build_128 : decode cX0_build 128 = .ok (.bipush 24, 2) := by decide +kernel
theorem dX0_build_130 : decode cX0_build 130 = .ok (.iload_n 1, 1) := by decide +kernel
theorem dX0_build_131 : decode cX0_build 131 = .ok (.imul, 1) := by decide +kernel
theorem dX0_build_132 : decode cX0_build 132 = .ok (.bipush 24, 2) := by decide +kernel
theorem dX0_build_134 : decode cX0_build 134 = .ok (.iadd, 1) := by decide +kernel
theorem dX0_build_135 : decode cX0_build 135 = .ok (.bipush 16, 2) := by decide +kernel
theorem dX0_build_137 : decode cX0_build 137 = .ok (.invokestatic 362, 3) := by decide +kernel
theorem dX0_build_140 : decode cX0_build 140 = .ok (.return_, 1) := by decide +kernel
theorem dX0_build_141 : decode cX0_build 141 = .ok (.iload 6, 2) := by decide +kernel
theorem dX0_build_143 : decode cX0_build 143 = .ok (.ifCond .eq 31, 3) := by decide +kernel
theorem dX0_build_146 : decode cX0_build 146 = .ok (.aload_n 0, 1) := by decide +kernel
theorem dX0_build_147 : decode cX0_build 147 = .ok (.getfield 43, 3) := by decide +kernel
theorem dX0_build_150 : decode cX0_build 150 = .ok (.aload_n 0, 1) := by decide +kernel
theorem dX0_build_151 : decode cX0_build 151 = .ok (.getfield 36, 3) := by decide +kernel
theorem dX0_build_154 : decode cX0_build 154 = .ok (.iload_n 1, 1) := by decide +kernel
theorem dX0_build_155 : decode cX0_build 155 = .ok (.aload_n 0, 1) := by decide +kernel
theorem dX0_build_156 : decode cX0_build 156 = .ok (.getfield 36, 3) := by decide +kernel
theorem dX0_build_159 : decode cX0_build 159 = .ok (.getfield 216, 3) := by decide +kernel
theorem dX0_build_162 : decode cX0_build 162 = .ok (.iload_n 3, 1) := by decide +kernel
theorem dX0_build_163 : decode cX0_build 163 = .ok (.iconst 5, 1) := by decide +kernel
theorem dX0_build_164 : decode cX0_build 164 = .ok (.iadd, 1) := by decide +kernel
theorem dX0_build_165 : decode cX0_build 165 = .ok (.iaload, 1) := by decide +kernel
theorem dX0_build_166 : decode cX0_build 166 = .ok (.iload 8, 2) := by decide +kernel
theorem dX0_build_168 : decode cX0_build 168 = .ok (.invokevirtual 515, 3) := by decide +kernel
theorem dX0_build_171 : decode cX0_build 171 = .ok (.goto 15, 3) := by decide +kernel
theorem dX0_build_174 : decode cX0_build 174 = .ok (.aload_n 0, 1) := by decide +kernel
theorem dX0_build_175 : decode cX0_build 175 = .ok (.getfield 43, 3) := by decide +kernel
theorem dX0_build_178 : decode cX0_build 178 = .ok (.aload_n 0, 1) := by decide +kernel
theorem dX0_build_179 : decode cX0_build 179 = .ok (.getfield 36, 3) := by decide +kernel
theorem dX0_build_182 : decode cX0_build 182 = .ok (.iload_n 1, 1) := by decide +kernel
theorem dX0_build_183 : decode cX0_build 183 = .ok (.invokevirtual 498, 3) := by decide +kernel
theorem dX0_build_186 : decode cX0_build 186 = .ok (.iload 4, 2) := by decide +kernel
theorem dX0_build_188 : decode cX0_build 188 = .ok (.iconst 1, 1) := by decide +kernel
theorem dX0_build_189 : decode cX0_build 189 = .ok (.if_icmp .ne 84, 3) := by decide +kernel
theorem dX0_build_192 : decode cX0_build 192 = .ok (.aload_n 0, 1) := by decide +kernel
theorem dX0_build_193 : decode cX0_build 193 = .ok (.getfield 43, 3) := by decide +kernel
theorem dX0_build_196 : decode cX0_build 196 = .ok (.aload_n 0, 1) := by decide +kernel
theorem dX0_build_197 : decode cX0_build 197 = .ok (.getfield 36, 3) := by decide +kernel
theorem dX0_build_200 : decode cX0_build 200 = .ok (.iload_n 1, 1) := by decide +kernel
theorem dX0_build_201 : decode cX0_build 201 = .ok (.aload_n 0, 1) := by decide +kernel
theorem dX0_build_202 : decode cX0_build 202 = .ok (.getfield 36, 3) := by decide +kernel
theorem dX0_build_205 : decode cX0_build 205 = .ok (.getfield 356, 3) := by decide +kernel
theorem dX0_build_208 : decode cX0_build 208 = .ok (.bipush 16, 2) := by decide +kernel
theorem dX0_build_210 : decode cX0_build 210 = .ok (.iload_n 1, 1) := by decide +kernel
theorem dX0_build_211 : decode cX0_build 211 = .ok (.imul, 1) := by decide +kernel
theorem dX0_build_212 : decode cX0_build 212 = .ok (.iaload, 1) := by decide +kernel
theorem dX0_build_213 : decode cX0_build 213 = .ok (.iload 8, 2) := by decide +kernel
theorem dX0_build_215 : decode cX0_build 215 = .ok (.invokevirtual 448, 3) := by decide +kernel
theorem dX0_build_218 : decode cX0_build 218 = .ok (.aload_n 0, 1) := by decide +kernel
theorem dX0_build_219 : decode cX0_build 219 = .ok (.getfield 36, 3) := by decide +kernel
theorem dX0_build_222 : decode cX0_build 222 = .ok (.getfield 216, 3) := by decide +kernel
theorem dX0_build_225 : decode cX0_build 225 = .ok (.iload_n 3, 1) := by decide +kernel
theorem dX0_build_226 : decode cX0_build 226 = .ok (.iconst 3, 1) := by decide +kernel
theorem dX0_build_227 : decode cX0_build 227 = .ok (.iadd, 1) := by decide +kernel
theorem dX0_build_228 : decode cX0_build 228 = .ok (.aload_n 0, 1) := by decide +kernel
theorem dX0_build_229 : decode cX0_build 229 = .ok (.getfield 43, 3) := by decide +kernel
theorem dX0_build_232 : decode cX0_build 232 = .ok (.aload_n 0, 1) := by decide +kernel
theorem dX0_build_233 : decode cX0_build 233 = .ok (.getfield 36, 3) := by decide +kernel
theorem dX0_build_236 : decode cX0_build 236 = .ok (.aload_n 0, 1) := by decide +kernel
theorem dX0_build_237 : decode cX0_build 237 = .ok (.getfield 69, 3) := by decide +kernel
theorem dX0_build_240 : decode cX0_build 240 = .ok (.iconst 0, 1) := by decide +kernel
theorem dX0_build_241 : decode cX0_build 241 = .ok (.aaload, 1) := by decide +kernel
theorem dX0_build_242 : decode cX0_build 242 = .ok (.iload_n 1, 1) := by decide +kernel
theorem dX0_build_243 : decode cX0_build 243 = .ok (.iload_n 2, 1) := by decide +kernel
theorem dX0_build_244 : decode cX0_build 244 = .ok (.invokevirtual 535, 3) := by decide +kernel
theorem dX0_build_247 : decode cX0_build 247 = .ok (.ifCond .eq 8, 3) := by decide +kernel
theorem dX0_build_250 : decode cX0_build 250 = .ok (.bipush 15, 2) := by decide +kernel
theorem dX0_build_252 : decode cX0_build 252 = .ok (.goto 4, 3) := by decide +kernel
theorem dX0_build_255 : decode cX0_build 255 = .ok (.iconst 0, 1) := by decide +kernel
theorem dX0_build_256 : decode cX0_build 256 = .ok (.iastore, 1) := by decide +kernel
theorem dX0_build_257 : decode cX0_build 257 = .ok (.aload_n 0, 1) := by decide +kernel
theorem dX0_build_258 : decode cX0_build 258 = .ok (.getfield 43, 3) := by decide +kernel
theorem dX0_build_261 : decode cX0_build 261 = .ok (.aload_n 0, 1) := by decide +kernel
theorem dX0_build_262 : decode cX0_build 262 = .ok (.getfield 36, 3) := by decide +kernel
theorem dX0_build_265 : decode cX0_build 265 = .ok (.iload_n 1, 1) := by decide +kernel
theorem dX0_build_266 : decode cX0_build 266 = .ok (.iload_n 2, 1) := by decide +kernel
theorem dX0_build_267 : decode cX0_build 267 = .ok (.invokevirtual 539, 3) := by decide +kernel
theorem dX0_build_270 : decode cX0_build 270 = .ok (.goto 13, 3) := by decide +kernel
theorem dX0_build_273 : decode cX0_build 273 = .ok (.aload_n 0, 1) := by decide +kernel
theorem dX0_build_274 : decode cX0_build 274 = .ok (.iload_n 1, 1) := by decide +kernel
theorem dX0_build_275 : decode cX0_build 275 = .ok (.iload_n 2, 1) := by decide +kernel
theorem dX0_build_276 : decode cX0_build 276 = .ok (.iload 8, 2) := by decide +kernel
theorem dX0_build_278 : decode cX0_build 278 = .ok (.iload 7, 2) := by decide +kernel
theorem dX0_build_280 : decode cX0_build 280 = .ok (.invokevirtual 543, 3) := by decide +kernel
theorem dX0_build_283 : decode cX0_build 283 = .ok (.iload 7, 2) := by decide +kernel
theorem dX0_build_285 : decode cX0_build 285 = .ok (.ifCond .ne 34, 3) := by decide +kernel
theorem dX0_build_288 : decode cX0_build 288 = .ok (.aload_n 0, 1) := by decide +kernel
theorem dX0_build_289 : decode cX0_build 289 = .ok (.getfield 36, 3) := by decide +kernel
theorem dX0_build_292 : decode cX0_build 292 = .ok (.getfield 216, 3) := by decide +kernel
theorem dX0_build_295 : decode cX0_build 295 = .ok (.iload_n 3, 1) := by decide +kernel
theorem dX0_build_296 : decode cX0_build 296 = .ok (.iconst 4, 1) := by decide +kernel
theorem dX0_build_297 : decode cX0_build 297 = .ok (.iadd, 1) := by decide +kernel
theorem dX0_build_298 : decode cX0_build 298 = .ok (.aload_n 0, 1) := by decide +kernel
theorem dX0_build_299 : decode cX0_build 299 = .ok (.getfield 43, 3) := by decide +kernel
theorem dX0_build_302 : decode cX0_build 302 = .ok (.aload_n 0, 1) := by decide +kernel
theorem dX0_build_303 : decode cX0_build 303 = .ok (.getfield 36, 3) := by decide +kernel
theorem dX0_build_306 : decode cX0_build 306 = .ok (.aload_n 0, 1) := by decide +kernel
theorem dX0_build_307 : decode cX0_build 307 = .ok (.getfield 69, 3) := by decide +kernel
theorem dX0_build_310 : decode cX0_build 310 = .ok (.iload_n 1, 1) := by decide +kernel
theorem dX0_build_311 : decode cX0_build 311 = .ok (.iload 5, 2) := by decide +kernel
theorem dX0_build_313 : decode cX0_build 313 = .ok (.iload 6, 2) := by decide +kernel
theorem dX0_build_315 : decode cX0_build 315 = .ok (.invokevirtual 547, 3) := by decide +kernel
theorem dX0_build_318 : decode cX0_build 318 = .ok (.iastore, 1) := by decide +kernel
theorem dX0_build_319 : decode cX0_build 319 = .ok (.aload_n 0, 1) := by decide +kernel
theorem dX0_build_320 : decode cX0_build 320 = .ok (.getfield 43, 3) := by decide +kernel
theorem dX0_build_323 : decode cX0_build 323 = .ok (.aload_n 0, 1) := by decide +kernel
theorem dX0_build_324 : decode cX0_build 324 = .ok (.getfield 36, 3) := by decide +kernel
theorem dX0_build_327 : decode cX0_build 327 = .ok (.iload_n 1, 1) := by decide +kernel
theorem dX0_build_328 : decode cX0_build 328 = .ok (.iload 5, 2) := by decide +kernel
theorem dX0_build_330 : decode cX0_build 330 = .ok (.invokevirtual 551, 3) := by decide +kernel
theorem dX0_build_333 : decode cX0_build 333 = .ok (.aload_n 0, 1) := by decide +kernel
theorem dX0_build_334 : decode cX0_build 334 = .ok (.getfield 23, 3) := by decide +kernel
theorem dX0_build_337 : decode cX0_build 337 = .ok (.bipush 8, 2) := by decide +kernel
theorem dX0_build_339 : decode cX0_build 339 = .ok (.iaload, 1) := by decide +kernel
theorem dX0_build_340 : decode cX0_build 340 = .ok (.ifCond .ne 23, 3) := by decide +kernel
theorem dX0_build_343 : decode cX0_build 343 = .ok (.aload_n 0, 1) := by decide +kernel
theorem dX0_build_344 : decode cX0_build 344 = .ok (.iload_n 1, 1) := by decide +kernel
theorem dX0_build_345 : decode cX0_build 345 = .ok (.invokevirtual 554, 3) := by decide +kernel
theorem dX0_build_348 : decode cX0_build 348 = .ok (.ifCond .eq 15, 3) := by decide +kernel
theorem dX0_build_351 : decode cX0_build 351 = .ok (.aload_n 0, 1) := by decide +kernel
theorem dX0_build_352 : decode cX0_build 352 = .ok (.getfield 36, 3) := by decide +kernel
theorem dX0_build_355 : decode cX0_build 355 = .ok (.getfield 216, 3) := by decide +kernel
theorem dX0_build_358 : decode cX0_build 358 = .ok (.iload_n 3, 1) := by decide +kernel
theorem dX0_build_359 : decode cX0_build 359 = .ok (.iconst 1, 1) := by decide +kernel
theorem dX0_build_360 : decode cX0_build 360 = .ok (.iadd, 1) := by decide +kernel
theorem dX0_build_361 : decode cX0_build 361 = .ok (.iconst (-1), 1) := by decide +kernel
theorem dX0_build_362 : decode cX0_build 362 = .ok (.iastore, 1) := by decide +kernel
theorem dX0_build_363 : decode cX0_build 363 = .ok (.return_, 1) := by decide +kernel
def FX0_build (G : GG) (M : DD) (a : Nat) (p0 : Int32) (p1 : Int32) : Option (DD) :=
  ltt ((((8 : Int32)) * p0)) fun x1 =>
  dr G 9 ((M.2 a 3)) fun b2 =>
  ltt ((x1 + ((0 : Int32)))) fun x3 =>
  dr G 13 ((M.2 b2 6)) fun b4 =>
  chk (¬ (x3 < 0 ∨ G.2.2 b4 ≤ x3.toNatClampNeg)) <|
  ltt (M.1 b4 x3.toNatClampNeg) fun x5 =>
  dr G 13 ((M.2 b2 2)) fun b6 =>
  chk (¬ (((8 : Int32)) < 0 ∨ G.2.2 b6 ≤ ((8 : Int32)).toNatClampNeg)) <|
  ltt (M.1 b6 ((8 : Int32)).toNatClampNeg) fun x7 =>
  bnd (FX6_colourStep G M p1 x7) fun y8 =>
  bnd (if x5 = ((3 : Int32)) then (some ((0 : Int32))) else
  (some ((1 : Int32)))) fun (y9 : Int32) =>
  bnd (if y9 = ((0 : Int32)) then (dr G 9 ((y8.1.2 a 3)) fun b75 =>
  ltt ((x1 + ((1 : Int32)))) fun x76 =>
  dr G 13 ((y8.1.2 b75 6)) fun b77 =>
  chk (¬ (x76 < 0 ∨ G.2.2 b77 ≤ x76.toNatClampNeg)) <|
  ltt (y8.1.1 b77 x76.toNatClampNeg) fun x78 =>
  bnd (if ((0 : Int32)) ≤ x78 then (some ((0 : Int32))) else
  (some ((1 : Int32)))) fun (y79 : Int32) =>
  some (y79)) else
  (some ((0 : Int32)))) fun (y10 : Int32) =>
  dr G 9 ((y8.1.2 a 3)) fun b11 =>
  bnd (FX9_sides G y8.1 b11 p0) fun y12 =>
  if x5 = ((2 : Int32)) then (dr G 6 ((y12.1.2 a 4)) fun b65 =>
  bnd (FX6_takeRaw G y12.1 b65 ((y12.1.2 a 3)) ((y12.1.2 a 9)) p0) fun y66 =>
  dr G 6 ((y66.2 a 4)) fun b67 =>
  bnd (FX6_fillRaw G y66 b67 ((y66.2 a 3)) p0) fun y68 =>
  dr G 9 ((y68.2 a 3)) fun b69 =>
  ltt ((((24 : Int32)) * p0)) fun x70 =>
  ltt ((((24 : Int32)) * p0)) fun x71 =>
  ltt ((x71 + ((24 : Int32)))) fun x72 =>
  bnd (FJ7_fill_fda19 G y68 ((y68.2 b69 8)) x70 x72 ((16 : Int32))) fun y73 =>
  some y73) else
  (bnd (if y9 = ((0 : Int32)) then (dr G 6 ((y12.1.2 a 4)) fun b57 =>
  bnd (FX6_predictByLists G y12.1 b57 ((y12.1.2 a 3)) p0) fun y58 =>
  some (y58)) else
  (dr G 9 ((y12.1.2 a 3)) fun b59 =>
  ltt ((x1 + ((5 : Int32)))) fun x60 =>
  dr G 13 ((y12.1.2 b59 6)) fun b61 =>
  chk (¬ (x60 < 0 ∨ G.2.2 b61 ≤ x60.toNatClampNeg)) <|
  ltt (y12.1.1 b61 x60.toNatClampNeg) fun x62 =>
  dr G 6 ((y12.1.2 a 4)) fun b63 =>
  bnd (FX6_predictColours_ G y12.1 b63 (some b59) p0 x62 y12.2) fun y64 =>
  some (y64))) fun (y14 : DD) =>
  bnd (if x5 = ((1 : Int32)) then (dr G 9 ((y14.2 a 3)) fun b39 =>
  ltt ((((16 : Int32)) * p0)) fun x40 =>
  dr G 13 ((y14.2 b39 7)) fun b41 =>
  chk (¬ (x40 < 0 ∨ G.2.2 b41 ≤ x40.toNatClampNeg)) <|
  ltt (y14.1 b41 x40.toNatClampNeg) fun x42 =>
  dr G 6 ((y14.2 a 4)) fun b43 =>
  bnd (FX6_predictSixteen G y14 b43 (some b39) p0 x42 y12.2) fun y44 =>
  dr G 9 ((y44.2 a 3)) fun b45 =>
  ltt ((x1 + ((3 : Int32)))) fun x46 =>
  dr G 15 ((y44.2 a 9)) fun b47 =>
  chk (¬ (((0 : Int32)) < 0 ∨ G.2.2 b47 ≤ ((0 : Int32)).toNatClampNeg)) <|
  dr G 6 ((y44.2 a 4)) fun b48 =>
  bnd (FX6_measureSixteen G y44 b48 ((y44.2 a 3)) ((y44.2 b47 ((0 : Int32)).toNatClampNeg)) p0 p1) fun y49 =>
  bnd (if y49.2 = ((0 : Int32)) then (some ((0 : Int32))) else
  (some ((15 : Int32)))) fun (y50 : Int32) =>
  dr G 13 ((y44.2 b45 6)) fun b51 =>
  chk (¬ (x46 < 0 ∨ G.2.2 b51 ≤ x46.toNatClampNeg)) <|
  ltt (uI y49.1 b51 x46.toNatClampNeg y50) fun M52 =>
  dr G 6 ((M52.2 a 4)) fun b53 =>
  bnd (FX6_fillSixteen G M52 b53 ((M52.2 a 3)) p0 p1) fun y54 =>
  some (y54)) else
  (bnd (FX0_buildPieces G y14 a p0 p1 y12.2 y10) fun y38 =>
  some (y38))) fun (y15 : DD) =>
  bnd (if y10 = ((0 : Int32)) then (dr G 9 ((y15.2 a 3)) fun b31 =>
  ltt ((x1 + ((4 : Int32)))) fun x32 =>
  dr G 6 ((y15.2 a 4)) fun b33 =>
  bnd (FX6_measureColours G y15 b33 ((y15.2 a 3)) ((y15.2 a 9)) p0 y8.2 y9) fun y34 =>
  dr G 13 ((y15.2 b31 6)) fun b35 =>
  chk (¬ (x32 < 0 ∨ G.2.2 b35 ≤ x32.toNatClampNeg)) <|
  ltt (uI y34.1 b35 x32.toNatClampNeg y34.2) fun M36 =>
  some (M36)) else
  (some (y15))) fun (y16 : DD) =>
  dr G 6 ((y16.2 a 4)) fun b17 =>
  bnd (FX6_fillColours G y16 b17 ((y16.2 a 3)) p0 y8.2) fun y18 =>
  dr G 13 ((y18.2 a 1)) fun b19 =>
  chk (¬ (((8 : Int32)) < 0 ∨ G.2.2 b19 ≤ ((8 : Int32)).toNatClampNeg)) <|
  ltt (y18.1 b19 ((8 : Int32)).toNatClampNeg) fun x20 =>
  bnd (if x20 = ((0 : Int32)) then (bnd (FX0_maySkip G y18 a p0) fun y23 =>
  bnd (if y23.2 = ((0 : Int32)) then (some (y23.1)) else
  (dr G 9 ((y23.1.2 a 3)) fun b26 =>
  ltt ((x1 + ((1 : Int32)))) fun x27 =>
  dr G 13 ((y23.1.2 b26 6)) fun b28 =>
  chk (¬ (x27 < 0 ∨ G.2.2 b28 ≤ x27.toNatClampNeg)) <|
  ltt (uI y23.1 b28 x27.toNatClampNeg ((-1 : Int32))) fun M29 =>
  some (M29))) fun (y24 : DD) =>
  some (y24)) else
  (some (y18))) fun (y21 : DD) =>
  some y21)
set_option maxHeartbeats 4000000 in
set_option maxRecDepth 100000 in
theorem kX0_build (l : Launch) (D : va_G) (ct : CT) (ad : Nat → Nat) (Z : Nat → Nat) (G : GG) (M : DD) (sz : Nat) (a : Nat) (p0 : Int32) (p1 : Int32) (y : DD) (hc : a < G.1) (hk : G.2.1 a = 0) (hF : FX0_build G M a p0 p1 = some y) : Met l yX0_build wsX0_build ({ frames := 5, cells := 0, slots := 0, locals := 140 }) (va_Pc [.ref (ad a), .int p0, .int p1] (kB D ct ad Z G M sz)) (va_Qv (fun (_ : Unit) => True) (fun _ t => kE D ct ad G (wA ad G sz) y t) (wA ad G sz)) 0 0 (wA ad G sz) := by
  refine Met.ofW (cc := cX0_build) (maxL := 9) (ret := none) (by decide) rfl ?_
  intro p e s m args below meth c s₁ B hml hv
  obtain ⟨rfl, hsz, hP, hK, hD0, hZ, hN⟩ := hv
  have hx := B.exec
  have hb := B.bytes
  have hr := B.returns
  have hts := atoms_spec (ws := wsX0_build) B.pre
  have hown : s.vm.findClass RX0 = some m.cls := findClass_of_methodNamed B.named
  have hlocks := B.notSynchronized
  subst hsz
  have hD := wD_self (sz := s.heap.size) hD0
  have hA9 : ∀ q, s.heap.size ≤ q → wA ad G s.heap.size q := fun q h => Or.inr h
  generalize hAe : wA ad G s.heap.size = A at hD hA9 hZ ⊢
  have hS : va_S A s.heap s.heap [] := va_S.rf
  have hl := lv_entry ([.ref (ad a), .int p0, .int p1]) (n := 9) (Nat.le_of_ble_eq_true rfl)
  rw [lg_entry_eq]
  generalize (lg_sl ([.ref (ad a), .int p0, .int p1]) ++ List.replicate (9 - (lg_sl ([.ref (ad a), .int p0, .int p1])).length) Slot.unset).toArray = ls at hl ⊢
  have hl : lv_has ls 9 [(0, .ref (ad a)), (1, .int p0), (2, .int p1)] := hl
  unfold FX0_build at hF
  refine lv_bipush (v := (8 : Int32)) hx hb dX0_build_0 (by decide) ?_
  refine lv_iload_n hx hb dX0_build_2 rfl (lv_at hl 1 rfl) ?_
  refine lv_imul hx hb dX0_build_3 ?_
  obtain ⟨x1, ex1, hF⟩ := ltt_some hF
  refine lv_topi (fun zx1 ezx1 => ?_)
  obtain rfl : x1 = zx1 := ex1.trans ezx1.symm
  refine lv_istore_n (lv' := [(3, .int x1), (0, .ref (ad a)), (1, .int p0), (2, .int p1)]) hx hb dX0_build_4 rfl hl (by decide) rfl (fun ls hl => ?_)
  refine lv_aload_n hx hb dX0_build_5 rfl (lv_at hl 1 rfl) ?_
  refine va_get (D := D) (ci := 0) (v := va_re ad (M.2 a 3)) (C := RX0) (T := TX0) (N := 21) hx hb hts (by decide +kernel) hown hK hP a (wld_o ct ad G M hc hk (by decide)) rfl 3 (by decide) (hts (.fieldLink RX0 36 "VideoSuite$Coder" "work" "LVideoSuite$Work;") (by decide +kernel)) (fun _ h9 => h9) rfl dX0_build_6 ?_
  obtain ⟨b2, ho2, hc2, hk2, hF⟩ := dr_some hF
  refine W_st (st' := [.ref (ad b2)]) (by rw [va_some ho2]) ?_
  refine va_get (D := D) (ci := 9) (v := va_re ad (M.2 b2 6)) (C := RX9) (T := TX9) (N := 20) hx hb hts (by decide +kernel) hown hK hP b2 (wld_o ct ad G M hc2 hk2 (by decide)) rfl 6 (by decide) (hts (.fieldLink RX0 216 "VideoSuite$Work" "info" "[I") (by decide +kernel)) (fun _ h9 => h9) rfl dX0_build_9 ?_
  refine lv_iload_n hx hb dX0_build_12 rfl (lv_at hl 0 rfl) ?_
  refine lv_iconst (v := (0 : Int32)) hx hb dX0_build_13 (by decide) ?_
  refine lv_iadd hx hb dX0_build_14 ?_
  obtain ⟨x3, ex3, hF⟩ := ltt_some hF
  refine lv_topi (fun zx3 ezx3 => ?_)
  obtain rfl : x3 = zx3 := ex3.trans ezx3.symm
  obtain ⟨b4, ho4, hc4, hk4, hF⟩ := dr_some hF
  refine W_st (st' := [.int x3, .ref (ad b4)]) (by rw [va_some ho4]) ?_
  obtain ⟨hvc, hF⟩ := chk_some hF
  refine va_iald hx hb hK hP b4 1 (wld_i ct ad G M hc4 hk4) rfl hvc dX0_build_15 ?_
  obtain ⟨x5, ex5, hF⟩ := ltt_some hF
  refine lv_topi (fun zx5 ezx5 => ?_)
  obtain rfl : x5 = zx5 := ex5.trans ezx5.symm
  refine lv_istore (lv' := [(4, .int x5), (3, .int x1), (0, .ref (ad a)), (1, .int p0), (2, .int p1)]) hx hb dX0_build_16 hl (by decide) rfl (fun ls hl => ?_)
  refine lv_iload_n hx hb dX0_build_18 rfl (lv_at hl 4 rfl) ?_
  refine lv_aload_n hx hb dX0_build_19 rfl (lv_at hl 2 rfl) ?_
  refine va_get (D := D) (ci := 0) (v := va_re ad (M.2 a 3)) (C := RX0) (T := TX0) (N := 21) hx hb hts (by decide +kernel) hown hK hP a (wld_o ct ad G M hc hk (by decide)) rfl 3 (by decide) (hts (.fieldLink RX0 36 "VideoSuite$Coder" "work" "LVideoSuite$Work;") (by decide +kernel)) (fun _ h9 => h9) rfl dX0_build_20 ?_
  refine W_st (st' := [.ref (ad b2), .int p1]) (by rw [va_some ho2]) ?_
  refine va_get (D := D) (ci := 9) (v := va_re ad (M.2 b2 2)) (C := RX9) (T := TX9) (N := 20) hx hb hts (by decide +kernel) hown hK hP b2 (wld_o ct ad G M hc2 hk2 (by decide)) rfl 2 (by decide) (hts (.fieldLink RX0 85 "VideoSuite$Work" "par" "[I") (by decide +kernel)) (fun _ h9 => h9) rfl dX0_build_23 ?_
  refine lv_bipush (v := (8 : Int32)) hx hb dX0_build_26 (by decide) ?_
  obtain ⟨b6, ho6, hc6, hk6, hF⟩ := dr_some hF
  refine W_st (st' := [.int (8 : Int32), .ref (ad b6), .int p1]) (by rw [va_some ho6]) ?_
  obtain ⟨hvc, hF⟩ := chk_some hF
  refine va_iald hx hb hK hP b6 1 (wld_i ct ad G M hc6 hk6) rfl hvc dX0_build_28 ?_
  obtain ⟨x7, ex7, hF⟩ := ltt_some hF
  refine lv_topi (fun zx7 ezx7 => ?_)
  obtain rfl : x7 = zx7 := ex7.trans ezx7.symm
  obtain ⟨y8, hy8, hF⟩ := bnd_some hF
  have hf9 := wA_in hD hA9 hS
  refine va_calli (va_runS (As := [.int p1, .int x7]) (rest := []) ⟨hx, hb, hml, hown, hts⟩ (kX6_colourStep l D ct ad Z G M s.heap.size p1 x7 y8 hy8) (va_cwS 2 hts gX0_build_X6_colourStep rfl rfl rfl (by decide +kernel) ⟨Nat.le_of_ble_eq_true rfl, Nat.le_of_ble_eq_true rfl⟩) ⟨fun a U g mk q => by obtain ⟨q0, q1, qP, qK, qD, qZ, qN⟩ := q; exact ⟨q0, q1, qP, va_K.moved (u := U) (U := U.calling g mk a) (Vm.Alike.refl U.vm) qK, qD, sF.moved (u := U) (U := U.calling g mk a) (Vm.Alike.refl U.vm) qZ, nF.same rfl qN⟩, fun U hU hW => ⟨rfl, by rw [hU], by rw [hU]; exact hP, va_K.moved hW.alike hK, hD.weaken (fun _ _ _ _ => trivial), by rw [hU]; exact ((hZ.kept hS.2.1).narrow hf9).moved hW.alike, hN.warm hW⟩⟩ rfl rfl hl.1 rfl (lv_room (Nat.le_of_ble_eq_true rfl)) dX0_build_29 ⟨(Nat.zero_le _), (Nat.zero_le _)⟩) hS (fun q _ h => hf9 q h) hf9 (fun r u t H locs ht hvm hw hB hz1 hk1 hS => ?_)
  obtain ⟨hP, hK9, hD9⟩ := hB
  rw [ht] at hP
  try dsimp only at hw
  subst hw
  have hD := hD9.weaken (fun _ q _ h => hf9 q.1 h)
  refine lv_istore (lv' := [(5, .int y8.2), (4, .int x5), (3, .int x1), (0, .ref (ad a)), (1, .int p0), (2, .int p1)]) hx hb dX0_build_32 hl (by decide) rfl (fun ls hl => ?_)
  refine lv_iload hx hb dX0_build_34 (lv_at hl 1 rfl) ?_
  refine lv_iconst (v := (3 : Int32)) hx hb dX0_build_36 (by decide) ?_
  obtain ⟨y9, hy9, hF⟩ := bnd_some hF
  have J9 : ∀ (H : Heap) (locs : List Loc) (ls : Array Slot), va_P D classes (wld ct ad G y8.1) H → va_D A (wld ct ad G y8.1) → va_S A s.heap H locs → lv_has ls 9 [(5, .int y8.2), (4, .int x5), (3, .int x1), (0, .ref (ad a)), (1, .int p0), (2, .int p1)] → W p l e (headSpec wsX0_build ({ frames := 5, cells := 0, slots := 0, locals := 140 })).room s m ([.ref (ad a), .int p0, .int p1] : List Value).toArray below meth c H locs 0 0 (MQ below (va_Qv (fun (_ : Unit) => True) (fun _ t => kE D ct ad G A y t) A) ([.ref (ad a), .int p0, .int p1] : List Value).toArray s 0 0 A) (F0 m 45 ls [.int y9]) := by
    intro H locs ls hP hD hS hl
    refine lv_istore (lv' := [(6, .int y9), (5, .int y8.2), (4, .int x5), (3, .int x1), (0, .ref (ad a)), (1, .int p0), (2, .int p1)]) hx hb dX0_build_45 hl (by decide) rfl (fun ls hl => ?_)
    refine lv_iload hx hb dX0_build_47 (lv_at hl 0 rfl) ?_
    obtain ⟨y10, hy10, hF⟩ := bnd_some hF
    have J10 : ∀ (H : Heap) (locs : List Loc) (ls : Array Slot), va_P D classes (wld ct ad G y8.1) H → va_D A (wld ct ad G y8.1) → va_S A s.heap H locs → lv_has ls 9 [(6, .int y9), (5, .int y8.2), (4, .int x5), (3, .int x1), (0, .ref (ad a)), (1, .int p0), (2, .int p1)] → W p l e (headSpec wsX0_build ({ frames := 5, cells := 0, slots := 0, locals := 140 })).room s m ([.ref (ad a), .int p0, .int p1] : List Value).toArray below meth c H locs 0 0 (MQ below (va_Qv (fun (_ : Unit) => True) (fun _ t => kE D ct ad G A y t) A) ([.ref (ad a), .int p0, .int p1] : List Value).toArray s 0 0 A) (F0 m 71 ls [.int y10]) := by
      intro H locs ls hP hD hS hl
      refine lv_istore (lv' := [(7, .int y10), (6, .int y9), (5, .int y8.2), (4, .int x5), (3, .int x1), (0, .ref (ad a)), (1, .int p0), (2, .int p1)]) hx hb dX0_build_71 hl (by decide) rfl (fun ls hl => ?_)
      refine lv_aload_n hx hb dX0_build_73 rfl (lv_at hl 5 rfl) ?_
      refine va_get (D := D) (ci := 0) (v := va_re ad (y8.1.2 a 3)) (C := RX0) (T := TX0) (N := 21) hx hb hts (by decide +kernel) hown hK hP a (wld_o ct ad G y8.1 hc hk (by decide)) rfl 3 (by decide) (hts (.fieldLink RX0 36 "VideoSuite$Coder" "work" "LVideoSuite$Work;") (by decide +kernel)) (fun _ h9 => h9) rfl dX0_build_74 ?_
      refine lv_iload_n hx hb dX0_build_77 rfl (lv_at hl 6 rfl) ?_
      obtain ⟨b11, ho11, hc11, hk11, hF⟩ := dr_some hF
      refine W_st (st' := [.int p0, .ref (ad b11)]) (by rw [va_some ho11]) ?_
      obtain ⟨y12, hy12, hF⟩ := bnd_some hF
      have hf9 := wA_in hD hA9 hS
      refine va_calli (va_runV (As := [.int p0]) (rest := []) ⟨hx, hb, hml, hown, hts⟩ (kX9_sides l D ct ad Z G y8.1 H.size b11 p0 y12 hc11 hk11 hy12) (cwV 1 hts gX0_build_X9_sides rfl rfl rfl (by decide +kernel) ⟨Nat.le_of_ble_eq_true rfl, Nat.le_of_ble_eq_true rfl⟩) ⟨fun a U g mk q => by obtain ⟨q0, q1, qP, qK, qD, qZ, qN⟩ := q; exact ⟨q0, q1, qP, va_K.moved (u := U) (U := U.calling g mk a) (Vm.Alike.refl U.vm) qK, qD, sF.moved (u := U) (U := U.calling g mk a) (Vm.Alike.refl U.vm) qZ, nF.same rfl qN⟩, va_recv hK hP (ci := 9) (q0 := b11) rfl (wld_o ct ad G y8.1 hc11 hk11 (by decide)), fun U hU hW => ⟨rfl, by rw [hU], by rw [hU]; exact hP, va_K.moved hW.alike hK, hD.weaken (fun _ _ _ _ => trivial), by rw [hU]; exact ((hZ.kept hS.2.1).narrow hf9).moved hW.alike, hN.warm hW⟩⟩ rfl rfl hl.1 rfl (lv_room (Nat.le_of_ble_eq_true rfl)) dX0_build_78 ⟨(Nat.zero_le _), (Nat.zero_le _)⟩) hS (fun q _ h => hf9 q h) hf9 (fun r u t H locs ht hvm hw hB hz1 hk1 hS => ?_)
      obtain ⟨hP, hK9, hD9⟩ := hB
      rw [ht] at hP
      try dsimp only at hw
      subst hw
      have hD := hD9.weaken (fun _ q _ h => hf9 q.1 h)
      refine lv_istore (lv' := [(8, .int y12.2), (7, .int y10), (6, .int y9), (5, .int y8.2), (4, .int x5), (3, .int x1), (0, .ref (ad a)), (1, .int p0), (2, .int p1)]) hx hb dX0_build_81 hl (by decide) rfl (fun ls hl => ?_)
      refine lv_iload hx hb dX0_build_83 (lv_at hl 4 rfl) ?_
      refine lv_iconst (v := (2 : Int32)) hx hb dX0_build_85 (by decide) ?_
      refine lv_icmp_ne (tgt := 141) hx hb dX0_build_86 (by decide) (fun c13 => ?_) (fun c13 => ?_)
      · rw [if_neg c13] at hF
        refine lv_iload hx hb dX0_build_141 (lv_at hl 2 rfl) ?_
        obtain ⟨y14, hy14, hF⟩ := bnd_some hF
        have J14 : ∀ (H : Heap) (locs : List Loc) (ls : Array Slot), va_P D classes (wld ct ad G y14) H → va_D A (wld ct ad G y14) → va_S A s.heap H locs → lv_has ls 9 [(8, .int y12.2), (7, .int y10), (6, .int y9), (5, .int y8.2), (4, .int x5), (3, .int x1), (0, .ref (ad a)), (1, .int p0), (2, .int p1)] → W p l e (headSpec wsX0_build ({ frames := 5, cells := 0, slots := 0, locals := 140 })).room s m ([.ref (ad a), .int p0, .int p1] : List Value).toArray below meth c H locs 0 0 (MQ below (va_Qv (fun (_ : Unit) => True) (fun _ t => kE D ct ad G A y t) A) ([.ref (ad a), .int p0, .int p1] : List Value).toArray s 0 0 A) (F0 m 186 ls []) := by
          intro H locs ls hP hD hS hl
          refine lv_iload hx hb dX0_build_186 (lv_at hl 4 rfl) ?_
          refine lv_iconst (v := (1 : Int32)) hx hb dX0_build_188 (by decide) ?_
          obtain ⟨y15, hy15, hF⟩ := bnd_some hF
          have J15 : ∀ (H : Heap) (locs : List Loc) (ls : Array Slot), va_P D classes (wld ct ad G y15) H → va_D A (wld ct ad G y15) → va_S A s.heap H locs → lv_has ls 9 [(8, .int y12.2), (7, .int y10), (6, .int y9), (5, .int y8.2), (4, .int x5), (3, .int x1), (0, .ref (ad a)), (1, .int p0), (2, .int p1)] → W p l e (headSpec wsX0_build ({ frames := 5, cells := 0, slots := 0, locals := 140 })).room s m ([.ref (ad a), .int p0, .int p1] : List Value).toArray below meth c H locs 0 0 (MQ below (va_Qv (fun (_ : Unit) => True) (fun _ t => kE D ct ad G A y t) A) ([.ref (ad a), .int p0, .int p1] : List Value).toArray s 0 0 A) (F0 m 283 ls []) := by
            intro H locs ls hP hD hS hl
            refine lv_iload hx hb dX0_build_283 (lv_at hl 1 rfl) ?_
            obtain ⟨y16, hy16, hF⟩ := bnd_some hF
            have J16 : ∀ (H : Heap) (locs : List Loc) (ls : Array Slot), va_P D classes (wld ct ad G y16) H → va_D A (wld ct ad G y16) → va_S A s.heap H locs → lv_has ls 9 [(8, .int y12.2), (7, .int y10), (6, .int y9), (5, .int y8.2), (4, .int x5), (3, .int x1), (0, .ref (ad a)), (1, .int p0), (2, .int p1)] → W p l e (headSpec wsX0_build ({ frames := 5, cells := 0, slots := 0, locals := 140 })).room s m ([.ref (ad a), .int p0, .int p1] : List Value).toArray below meth c H locs 0 0 (MQ below (va_Qv (fun (_ : Unit) => True) (fun _ t => kE D ct ad G A y t) A) ([.ref (ad a), .int p0, .int p1] : List Value).toArray s 0 0 A) (F0 m 319 ls []) := by
              intro H locs ls hP hD hS hl
              refine lv_aload_n hx hb dX0_build_319 rfl (lv_at hl 6 rfl) ?_
              refine va_get (D := D) (ci := 0) (v := va_re ad (y16.2 a 4)) (C := RX0) (T := TX0) (N := 21) hx hb hts (by decide +kernel) hown hK hP a (wld_o ct ad G y16 hc hk (by decide)) rfl 4 (by decide) (hts (.fieldLink RX0 43 "VideoSuite$Coder" "samples" "LVideoSuite$Samples;") (by decide +kernel)) (fun _ h9 => h9) rfl dX0_build_320 ?_
              refine lv_aload_n hx hb dX0_build_323 rfl (lv_at hl 6 rfl) ?_
              refine va_get (D := D) (ci := 0) (v := va_re ad (y16.2 a 3)) (C := RX0) (T := TX0) (N := 21) hx hb hts (by decide +kernel) hown hK hP a (wld_o ct ad G y16 hc hk (by decide)) rfl 3 (by decide) (hts (.fieldLink RX0 36 "VideoSuite$Coder" "work" "LVideoSuite$Work;") (by decide +kernel)) (fun _ h9 => h9) rfl dX0_build_324 ?_
              refine lv_iload_n hx hb dX0_build_327 rfl (lv_at hl 7 rfl) ?_
              refine lv_iload hx hb dX0_build_328 (lv_at hl 3 rfl) ?_
              obtain ⟨b17, ho17, hc17, hk17, hF⟩ := dr_some hF
              refine W_st (st' := [.int y8.2, .int p0, va_re ad (y16.2 a 3), .ref (ad b17)]) (by rw [va_some ho17]) ?_
              obtain ⟨y18, hy18, hF⟩ := bnd_some hF
              have hf9 := wA_in hD hA9 hS
              refine va_callv (va_runV (As := [va_re ad (y16.2 a 3), .int p0, .int y8.2]) (rest := []) ⟨hx, hb, hml, hown, hts⟩ (kX6_fillColours l D ct ad Z G y16 H.size b17 ((y16.2 a 3)) p0 y8.2 y18 hc17 hk17 hy18) (cwV 3 hts gX0_build_X6_fillColours rfl rfl rfl (by decide +kernel) ⟨Nat.le_of_ble_eq_true rfl, Nat.le_of_ble_eq_true rfl⟩) ⟨fun a U g mk q => by obtain ⟨q0, q1, qP, qK, qD, qZ, qN⟩ := q; exact ⟨q0, q1, qP, va_K.moved (u := U) (U := U.calling g mk a) (Vm.Alike.refl U.vm) qK, qD, sF.moved (u := U) (U := U.calling g mk a) (Vm.Alike.refl U.vm) qZ, nF.same rfl qN⟩, va_recv hK hP (ci := 6) (q0 := b17) rfl (wld_o ct ad G y16 hc17 hk17 (by decide)), fun U hU hW => ⟨rfl, by rw [hU], by rw [hU]; exact hP, va_K.moved hW.alike hK, hD.weaken (fun _ _ _ _ => trivial), by rw [hU]; exact ((hZ.kept hS.2.1).narrow hf9).moved hW.alike, hN.warm hW⟩⟩ rfl rfl hl.1 rfl (lv_room (Nat.le_of_ble_eq_true rfl)) dX0_build_330 ⟨(Nat.zero_le _), (Nat.zero_le _)⟩) hS (fun q _ h => hf9 q h) hf9 (fun u t H locs ht hvm hw hB hz1 hk1 hS => ?_)
              obtain ⟨hP, hK9, hD9⟩ := hB
              rw [ht] at hP
              have hD := hD9.weaken (fun _ q _ h => hf9 q.1 h)
              refine lv_aload_n hx hb dX0_build_333 rfl (lv_at hl 6 rfl) ?_
              refine va_get (D := D) (ci := 0) (v := va_re ad (y18.2 a 1)) (C := RX0) (T := TX0) (N := 21) hx hb hts (by decide +kernel) hown hK hP a (wld_o ct ad G y18 hc hk (by decide)) rfl 1 (by decide) (hts (.fieldLink RX0 23 "VideoSuite$Coder" "now" "[I") (by decide +kernel)) (fun _ h9 => h9) rfl dX0_build_334 ?_
              refine lv_bipush (v := (8 : Int32)) hx hb dX0_build_337 (by decide) ?_
              obtain ⟨b19, ho19, hc19, hk19, hF⟩ := dr_some hF
              refine W_st (st' := [.int (8 : Int32), .ref (ad b19)]) (by rw [va_some ho19]) ?_
              obtain ⟨hvc, hF⟩ := chk_some hF
              refine va_iald hx hb hK hP b19 1 (wld_i ct ad G y18 hc19 hk19) rfl hvc dX0_build_339 ?_
              obtain ⟨x20, ex20, hF⟩ := ltt_some hF
              refine lv_topi (fun zx20 ezx20 => ?_)
              obtain rfl : x20 = zx20 := ex20.trans ezx20.symm
              obtain ⟨y21, hy21, hF⟩ := bnd_some hF
              have J21 : ∀ (H : Heap) (locs : List Loc) (ls : Array Slot), va_P D classes (wld ct ad G y21) H → va_D A (wld ct ad G y21) → va_S A s.heap H locs → lv_has ls 9 [(8, .int y12.2), (7, .int y10), (6, .int y9), (5, .int y8.2), (4, .int x5), (3, .int x1), (0, .ref (ad a)), (1, .int p0), (2, .int p1)] → W p l e (headSpec wsX0_build ({ frames := 5, cells := 0, slots := 0, locals := 140 })).room s m ([.ref (ad a), .int p0, .int p1] : List Value).toArray below meth c H locs 0 0 (MQ below (va_Qv (fun (_ : Unit) => True) (fun _ t => kE D ct ad G A y t) A) ([.ref (ad a), .int p0, .int p1] : List Value).toArray s 0 0 A) (F0 m 363 ls []) := by
                intro H locs ls hP hD hS hl
                obtain rfl := Option.some.inj hF
                exact W.vret hx hb hr (fun t ht hW => ⟨⟨(), rfl, trivial, ⟨by rw [ht]; exact hP, va_K.moved hW.alike hK, hD⟩⟩, hS.F ht⟩) hS.2.2 dX0_build_363
              clear hF
              have hF := hy21
              clear hy21
              refine lv_if_ne (tgt := 363) hx hb dX0_build_340 (by decide) (fun c22 => ?_) (fun c22 => ?_)
              · rw [if_neg c22] at hF
                obtain rfl := Option.some.inj hF
                exact J21 _ _ _ hP hD hS (lv_sub hl [0, 1, 2, 3, 4, 5, 6, 7, 8] rfl)
              · rw [if_pos c22] at hF
                refine lv_aload_n hx hb dX0_build_343 rfl (lv_at hl 6 rfl) ?_
                refine lv_iload_n hx hb dX0_build_344 rfl (lv_at hl 7 rfl) ?_
                obtain ⟨y23, hy23, hF⟩ := bnd_some hF
                have hf9 := wA_in hD hA9 hS
                refine va_calli (va_runV (As := [.int p0]) (rest := []) ⟨hx, hb, hml, hown, hts⟩ (kX0_maySkip l D ct ad Z G y18 H.size a p0 y23 hc hk hy23) (cwV 1 hts gX0_build_X0_maySkip rfl rfl rfl (by decide +kernel) ⟨Nat.le_of_ble_eq_true rfl, Nat.le_of_ble_eq_true rfl⟩) ⟨fun a U g mk q => by obtain ⟨q0, q1, qP, qK, qD, qZ, qN⟩ := q; exact ⟨q0, q1, qP, va_K.moved (u := U) (U := U.calling g mk a) (Vm.Alike.refl U.vm) qK, qD, sF.moved (u := U) (U := U.calling g mk a) (Vm.Alike.refl U.vm) qZ, nF.same rfl qN⟩, va_recv hK hP (ci := 0) (q0 := a) rfl (wld_o ct ad G y18 hc hk (by decide)), fun U hU hW => ⟨rfl, by rw [hU], by rw [hU]; exact hP, va_K.moved hW.alike hK, hD.weaken (fun _ _ _ _ => trivial), by rw [hU]; exact ((hZ.kept hS.2.1).narrow hf9).moved hW.alike, hN.warm hW⟩⟩ rfl rfl hl.1 rfl (lv_room (Nat.le_of_ble_eq_true rfl)) dX0_build_345 ⟨(Nat.zero_le _), (Nat.zero_le _)⟩) hS (fun q _ h => hf9 q h) hf9 (fun r u t H locs ht hvm hw hB hz1 hk1 hS => ?_)
                obtain ⟨hP, hK9, hD9⟩ := hB
                rw [ht] at hP
                try dsimp only at hw
                subst hw
                have hD := hD9.weaken (fun _ q _ h => hf9 q.1 h)
                obtain ⟨y24, hy24, hF⟩ := bnd_some hF
                have J24 : ∀ (H : Heap) (locs : List Loc) (ls : Array Slot), va_P D classes (wld ct ad G y24) H → va_D A (wld ct ad G y24) → va_S A s.heap H locs → lv_has ls 9 [(8, .int y12.2), (7, .int y10), (6, .int y9), (5, .int y8.2), (4, .int x5), (3, .int x1), (0, .ref (ad a)), (1, .int p0), (2, .int p1)] → W p l e (headSpec wsX0_build ({ frames := 5, cells := 0, slots := 0, locals := 140 })).room s m ([.ref (ad a), .int p0, .int p1] : List Value).toArray below meth c H locs 0 0 (MQ below (va_Qv (fun (_ : Unit) => True) (fun _ t => kE D ct ad G A y t) A) ([.ref (ad a), .int p0, .int p1] : List Value).toArray s 0 0 A) (F0 m 363 ls []) := by
                  intro H locs ls hP hD hS hl
                  obtain rfl := Option.some.inj hF
                  exact J21 _ _ _ hP hD hS (lv_sub hl [0, 1, 2, 3, 4, 5, 6, 7, 8] rfl)
                clear hF
                have hF := hy24
                clear hy24
                refine lv_if_eq (tgt := 363) hx hb dX0_build_348 (by decide) (fun c25 => ?_) (fun c25 => ?_)
                · rw [if_pos c25] at hF
                  obtain rfl := Option.some.inj hF
                  exact J24 _ _ _ hP hD hS (lv_sub hl [0, 1, 2, 3, 4, 5, 6, 7, 8] rfl)
                · rw [if_neg c25] at hF
                  refine lv_aload_n hx hb dX0_build_351 rfl (lv_at hl 6 rfl) ?_
                  refine va_get (D := D) (ci := 0) (v := va_re ad (y23.1.2 a 3)) (C := RX0) (T := TX0) (N := 21) hx hb hts (by decide +kernel) hown hK hP a (wld_o ct ad G y23.1 hc hk (by decide)) rfl 3 (by decide) (hts (.fieldLink RX0 36 "VideoSuite$Coder" "work" "LVideoSuite$Work;") (by decide +kernel)) (fun _ h9 => h9) rfl dX0_build_352 ?_
                  obtain ⟨b26, ho26, hc26, hk26, hF⟩ := dr_some hF
                  refine W_st (st' := [.ref (ad b26)]) (by rw [va_some ho26]) ?_
                  refine va_get (D := D) (ci := 9) (v := va_re ad (y23.1.2 b26 6)) (C := RX9) (T := TX9) (N := 20) hx hb hts (by decide +kernel) hown hK hP b26 (wld_o ct ad G y23.1 hc26 hk26 (by decide)) rfl 6 (by decide) (hts (.fieldLink RX0 216 "VideoSuite$Work" "info" "[I") (by decide +kernel)) (fun _ h9 => h9) rfl dX0_build_355 ?_
                  refine lv_iload_n hx hb dX0_build_358 rfl (lv_at hl 5 rfl) ?_
                  refine lv_iconst (v := (1 : Int32)) hx hb dX0_build_359 (by decide) ?_
                  refine lv_iadd hx hb dX0_build_360 ?_
                  obtain ⟨x27, ex27, hF⟩ := ltt_some hF
                  refine lv_topi (fun zx27 ezx27 => ?_)
                  obtain rfl : x27 = zx27 := ex27.trans ezx27.symm
                  refine lv_iconst (v := (-1 : Int32)) hx hb dX0_build_361 (by decide) ?_
                  obtain ⟨b28, ho28, hc28, hk28, hF⟩ := dr_some hF
                  refine W_st (st' := [.int (-1 : Int32), .int x27, .ref (ad b28)]) (by rw [va_some ho28]) ?_
                  obtain ⟨hvc, hF⟩ := chk_some hF
                  refine va_iast hx hb hK hP hD hS b28 1 (wld_i ct ad G y23.1 hc28 hk28) rfl hvc dX0_build_362 (fun H locs hP hD hS => ?_)
                  obtain ⟨M29, eM29, hF⟩ := ltt_some hF
                  rw [set_i ct ad G y23.1 hc28 hk28, ← eM29] at hP hD
                  obtain rfl := Option.some.inj hF
                  exact J24 _ _ _ hP hD hS (lv_sub hl [0, 1, 2, 3, 4, 5, 6, 7, 8] rfl)
            clear hF
            have hF := hy16
            clear hy16
            refine lv_if_ne (tgt := 319) hx hb dX0_build_285 (by decide) (fun c30 => ?_) (fun c30 => ?_)
            · rw [if_neg c30] at hF
              obtain rfl := Option.some.inj hF
              exact J16 _ _ _ hP hD hS (lv_sub hl [0, 1, 2, 3, 4, 5, 6, 7, 8] rfl)
            · rw [if_pos c30] at hF
              refine lv_aload_n hx hb dX0_build_288 rfl (lv_at hl 6 rfl) ?_
              refine va_get (D := D) (ci := 0) (v := va_re ad (y15.2 a 3)) (C := RX0) (T := TX0) (N := 21) hx hb hts (by decide +kernel) hown hK hP a (wld_o ct ad G y15 hc hk (by decide)) rfl 3 (by decide) (hts (.fieldLink RX0 36 "VideoSuite$Coder" "work" "LVideoSuite$Work;") (by decide +kernel)) (fun _ h9 => h9) rfl dX0_build_289 ?_
              obtain ⟨b31, ho31, hc31, hk31, hF⟩ := dr_some hF
              refine W_st (st' := [.ref (ad b31)]) (by rw [va_some ho31]) ?_
              refine va_get (D := D) (ci := 9) (v := va_re ad (y15.2 b31 6)) (C := RX9) (T := TX9) (N := 20) hx hb hts (by decide +kernel) hown hK hP b31 (wld_o ct ad G y15 hc31 hk31 (by decide)) rfl 6 (by decide) (hts (.fieldLink RX0 216 "VideoSuite$Work" "info" "[I") (by decide +kernel)) (fun _ h9 => h9) rfl dX0_build_292 ?_
              refine lv_iload_n hx hb dX0_build_295 rfl (lv_at hl 5 rfl) ?_
              refine lv_iconst (v := (4 : Int32)) hx hb dX0_build_296 (by decide) ?_
              refine lv_iadd hx hb dX0_build_297 ?_
              obtain ⟨x32, ex32, hF⟩ := ltt_some hF
              refine lv_topi (fun zx32 ezx32 => ?_)
              obtain rfl : x32 = zx32 := ex32.trans ezx32.symm
              refine lv_aload_n hx hb dX0_build_298 rfl (lv_at hl 6 rfl) ?_
              refine va_get (D := D) (ci := 0) (v := va_re ad (y15.2 a 4)) (C := RX0) (T := TX0) (N := 21) hx hb hts (by decide +kernel) hown hK hP a (wld_o ct ad G y15 hc hk (by decide)) rfl 4 (by decide) (hts (.fieldLink RX0 43 "VideoSuite$Coder" "samples" "LVideoSuite$Samples;") (by decide +kernel)) (fun _ h9 => h9) rfl dX0_build_299 ?_
              refine lv_aload_n hx hb dX0_build_302 rfl (lv_at hl 6 rfl) ?_
              refine va_get (D := D) (ci := 0) (v := va_re ad (y15.2 a 3)) (C := RX0) (T := TX0) (N := 21) hx hb hts (by decide +kernel) hown hK hP a (wld_o ct ad G y15 hc hk (by decide)) rfl 3 (by decide) (hts (.fieldLink RX0 36 "VideoSuite$Coder" "work" "LVideoSuite$Work;") (by decide +kernel)) (fun _ h9 => h9) rfl dX0_build_303 ?_
              refine lv_aload_n hx hb dX0_build_306 rfl (lv_at hl 6 rfl) ?_
              refine va_get (D := D) (ci := 0) (v := va_re ad (y15.2 a 9)) (C := RX0) (T := TX0) (N := 21) hx hb hts (by decide +kernel) hown hK hP a (wld_o ct ad G y15 hc hk (by decide)) rfl 9 (by decide) (hts (.fieldLink RX0 69 "VideoSuite$Coder" "source" "[[I") (by decide +kernel)) (fun _ h9 => h9) rfl dX0_build_307 ?_
              refine lv_iload_n hx hb dX0_build_310 rfl (lv_at hl 7 rfl) ?_
              refine lv_iload hx hb dX0_build_311 (lv_at hl 3 rfl) ?_
              refine lv_iload hx hb dX0_build_313 (lv_at hl 2 rfl) ?_
              obtain ⟨b33, ho33, hc33, hk33, hF⟩ := dr_some hF
              refine W_st (st' := [.int y9, .int y8.2, .int p0, va_re ad (y15.2 a 9), va_re ad (y15.2 a 3), .ref (ad b33), .int x32, va_re ad (y15.2 b31 6)]) (by rw [va_some ho33]) ?_
              obtain ⟨y34, hy34, hF⟩ := bnd_some hF
              have hf9 := wA_in hD hA9 hS
              refine va_calli (va_runV (As := [va_re ad (y15.2 a 3), va_re ad (y15.2 a 9), .int p0, .int y8.2, .int y9]) (rest := [.int x32, va_re ad (y15.2 b31 6)]) ⟨hx, hb, hml, hown, hts⟩ (kX6_measureColours l D ct ad Z G y15 H.size b33 ((y15.2 a 3)) ((y15.2 a 9)) p0 y8.2 y9 y34 hc33 hk33 hy34) (cwV 5 hts gX0_build_X6_measureColours rfl rfl rfl (by decide +kernel) ⟨Nat.le_of_ble_eq_true rfl, Nat.le_of_ble_eq_true rfl⟩) ⟨fun a U g mk q => by obtain ⟨q0, q1, qP, qK, qD, qZ, qN⟩ := q; exact ⟨q0, q1, qP, va_K.moved (u := U) (U := U.calling g mk a) (Vm.Alike.refl U.vm) qK, qD, sF.moved (u := U) (U := U.calling g mk a) (Vm.Alike.refl U.vm) qZ, nF.same rfl qN⟩, va_recv hK hP (ci := 6) (q0 := b33) rfl (wld_o ct ad G y15 hc33 hk33 (by decide)), fun U hU hW => ⟨rfl, by rw [hU], by rw [hU]; exact hP, va_K.moved hW.alike hK, hD.weaken (fun _ _ _ _ => trivial), by rw [hU]; exact ((hZ.kept hS.2.1).narrow hf9).moved hW.alike, hN.warm hW⟩⟩ rfl rfl hl.1 rfl (lv_room (by simp only [List.map, va_re_cat]; exact Nat.le_of_ble_eq_true rfl)) dX0_build_315 ⟨(Nat.zero_le _), (Nat.zero_le _)⟩) hS (fun q _ h => hf9 q h) hf9 (fun r u t H locs ht hvm hw hB hz1 hk1 hS => ?_)
              obtain ⟨hP, hK9, hD9⟩ := hB
              rw [ht] at hP
              try dsimp only at hw
              subst hw
              have hD := hD9.weaken (fun _ q _ h => hf9 q.1 h)
              obtain ⟨b35, ho35, hc35, hk35, hF⟩ := dr_some hF
              refine W_st (st' := [.int y34.2, .int x32, .ref (ad b35)]) (by rw [va_some ho35]) ?_
              obtain ⟨hvc, hF⟩ := chk_some hF
              refine va_iast hx hb hK hP hD hS b35 1 (wld_i ct ad G y34.1 hc35 hk35) rfl hvc dX0_build_318 (fun H locs hP hD hS => ?_)
              obtain ⟨M36, eM36, hF⟩ := ltt_some hF
              rw [set_i ct ad G y34.1 hc35 hk35, ← eM36] at hP hD
              obtain rfl := Option.some.inj hF
              exact J16 _ _ _ hP hD hS (lv_sub hl [0, 1, 2, 3, 4, 5, 6, 7, 8] rfl)
          clear hF
          have hF := hy15
          clear hy15
          refine lv_icmp_ne (tgt := 273) hx hb dX0_build_189 (by decide) (fun c37 => ?_) (fun c37 => ?_)
          · rw [if_neg c37] at hF
            refine lv_aload_n hx hb dX0_build_273 rfl (lv_at hl 6 rfl) ?_
            refine lv_iload_n hx hb dX0_build_274 rfl (lv_at hl 7 rfl) ?_
            refine lv_iload_n hx hb dX0_build_275 rfl (lv_at hl 8 rfl) ?_
            refine lv_iload hx hb dX0_build_276 (lv_at hl 0 rfl) ?_
            refine lv_iload hx hb dX0_build_278 (lv_at hl 1 rfl) ?_
            obtain ⟨y38, hy38, hF⟩ := bnd_some hF
            have hf9 := wA_in hD hA9 hS
            refine va_callv (va_runV (As := [.int p0, .int p1, .int y12.2, .int y10]) (rest := []) ⟨hx, hb, hml, hown, hts⟩ (kX0_buildPieces l D ct ad Z G y14 H.size a p0 p1 y12.2 y10 y38 hc hk hy38) (cwV 4 hts gX0_build_X0_buildPieces rfl rfl rfl (by decide +kernel) ⟨Nat.le_of_ble_eq_true rfl, Nat.le_of_ble_eq_true rfl⟩) ⟨fun a U g mk q => by obtain ⟨q0, q1, qP, qK, qD, qZ, qN⟩ := q; exact ⟨q0, q1, qP, va_K.moved (u := U) (U := U.calling g mk a) (Vm.Alike.refl U.vm) qK, qD, sF.moved (u := U) (U := U.calling g mk a) (Vm.Alike.refl U.vm) qZ, nF.same rfl qN⟩, va_recv hK hP (ci := 0) (q0 := a) rfl (wld_o ct ad G y14 hc hk (by decide)), fun U hU hW => ⟨rfl, by rw [hU], by rw [hU]; exact hP, va_K.moved hW.alike hK, hD.weaken (fun _ _ _ _ => trivial), by rw [hU]; exact ((hZ.kept hS.2.1).narrow hf9).moved hW.alike, hN.warm hW⟩⟩ rfl rfl hl.1 rfl (lv_room (Nat.le_of_ble_eq_true rfl)) dX0_build_280 ⟨(Nat.zero_le _), (Nat.zero_le _)⟩) hS (fun q _ h => hf9 q h) hf9 (fun u t H locs ht hvm hw hB hz1 hk1 hS => ?_)
            obtain ⟨hP, hK9, hD9⟩ := hB
            rw [ht] at hP
            have hD := hD9.weaken (fun _ q _ h => hf9 q.1 h)
            obtain rfl := Option.some.inj hF
            exact J15 _ _ _ hP hD hS (lv_sub hl [0, 1, 2, 3, 4, 5, 6, 7, 8] rfl)
          · rw [if_pos c37] at hF
            refine lv_aload_n hx hb dX0_build_192 rfl (lv_at hl 6 rfl) ?_
            refine va_get (D := D) (ci := 0) (v := va_re ad (y14.2 a 4)) (C := RX0) (T := TX0) (N := 21) hx hb hts (by decide +kernel) hown hK hP a (wld_o ct ad G y14 hc hk (by decide)) rfl 4 (by decide) (hts (.fieldLink RX0 43 "VideoSuite$Coder" "samples" "LVideoSuite$Samples;") (by decide +kernel)) (fun _ h9 => h9) rfl dX0_build_193 ?_
            refine lv_aload_n hx hb dX0_build_196 rfl (lv_at hl 6 rfl) ?_
            refine va_get (D := D) (ci := 0) (v := va_re ad (y14.2 a 3)) (C := RX0) (T := TX0) (N := 21) hx hb hts (by decide +kernel) hown hK hP a (wld_o ct ad G y14 hc hk (by decide)) rfl 3 (by decide) (hts (.fieldLink RX0 36 "VideoSuite$Coder" "work" "LVideoSuite$Work;") (by decide +kernel)) (fun _ h9 => h9) rfl dX0_build_197 ?_
            refine lv_iload_n hx hb dX0_build_200 rfl (lv_at hl 7 rfl) ?_
            refine lv_aload_n hx hb dX0_build_201 rfl (lv_at hl 6 rfl) ?_
            refine va_get (D := D) (ci := 0) (v := va_re ad (y14.2 a 3)) (C := RX0) (T := TX0) (N := 21) hx hb hts (by decide +kernel) hown hK hP a (wld_o ct ad G y14 hc hk (by decide)) rfl 3 (by decide) (hts (.fieldLink RX0 36 "VideoSuite$Coder" "work" "LVideoSuite$Work;") (by decide +kernel)) (fun _ h9 => h9) rfl dX0_build_202 ?_
            obtain ⟨b39, ho39, hc39, hk39, hF⟩ := dr_some hF
            refine W_st (st' := [.ref (ad b39), .int p0, .ref (ad b39), va_re ad (y14.2 a 4)]) (by rw [va_some ho39]) ?_
            refine va_get (D := D) (ci := 9) (v := va_re ad (y14.2 b39 7)) (C := RX9) (T := TX9) (N := 20) hx hb hts (by decide +kernel) hown hK hP b39 (wld_o ct ad G y14 hc39 hk39 (by decide)) rfl 7 (by decide) (hts (.fieldLink RX0 356 "VideoSuite$Work" "mode" "[I") (by decide +kernel)) (fun _ h9 => h9) rfl dX0_build_205 ?_
            refine lv_bipush (v := (16 : Int32)) hx hb dX0_build_208 (by decide) ?_
            refine lv_iload_n hx hb dX0_build_210 rfl (lv_at hl 7 rfl) ?_
            refine lv_imul hx hb dX0_build_211 ?_
            obtain ⟨x40, ex40, hF⟩ := ltt_some hF
            refine lv_topi (fun zx40 ezx40 => ?_)
            obtain rfl : x40 = zx40 := ex40.trans ezx40.symm
            obtain ⟨b41, ho41, hc41, hk41, hF⟩ := dr_some hF
            refine W_st (st' := [.int x40, .ref (ad b41), .int p0, .ref (ad b39), va_re ad (y14.2 a 4)]) (by rw [va_some ho41]) ?_
            obtain ⟨hvc, hF⟩ := chk_some hF
            refine va_iald hx hb hK hP b41 1 (wld_i ct ad G y14 hc41 hk41) rfl hvc dX0_build_212 ?_
            obtain ⟨x42, ex42, hF⟩ := ltt_some hF
            refine lv_topi (fun zx42 ezx42 => ?_)
            obtain rfl : x42 = zx42 := ex42.trans ezx42.symm
            refine lv_iload hx hb dX0_build_213 (lv_at hl 0 rfl) ?_
            obtain ⟨b43, ho43, hc43, hk43, hF⟩ := dr_some hF
            refine W_st (st' := [.int y12.2, .int x42, .int p0, .ref (ad b39), .ref (ad b43)]) (by rw [va_some ho43]) ?_
            obtain ⟨y44, hy44, hF⟩ := bnd_some hF
            have hf9 := wA_in hD hA9 hS
            refine va_callv (va_runV (As := [.ref (ad b39), .int p0, .int x42, .int y12.2]) (rest := []) ⟨hx, hb, hml, hown, hts⟩ (kX6_predictSixteen l D ct ad Z G y14 H.size b43 (some b39) p0 x42 y12.2 y44 hc43 hk43 hy44) (cwV 4 hts gX0_build_X6_predictSixteen rfl rfl rfl (by decide +kernel) ⟨Nat.le_of_ble_eq_true rfl, Nat.le_of_ble_eq_true rfl⟩) ⟨fun a U g mk q => by obtain ⟨q0, q1, qP, qK, qD, qZ, qN⟩ := q; exact ⟨q0, q1, qP, va_K.moved (u := U) (U := U.calling g mk a) (Vm.Alike.refl U.vm) qK, qD, sF.moved (u := U) (U := U.calling g mk a) (Vm.Alike.refl U.vm) qZ, nF.same rfl qN⟩, va_recv hK hP (ci := 6) (q0 := b43) rfl (wld_o ct ad G y14 hc43 hk43 (by decide)), fun U hU hW => ⟨rfl, by rw [hU], by rw [hU]; exact hP, va_K.moved hW.alike hK, hD.weaken (fun _ _ _ _ => trivial), by rw [hU]; exact ((hZ.kept hS.2.1).narrow hf9).moved hW.alike, hN.warm hW⟩⟩ rfl rfl hl.1 rfl (lv_room (Nat.le_of_ble_eq_true rfl)) dX0_build_215 ⟨(Nat.zero_le _), (Nat.zero_le _)⟩) hS (fun q _ h => hf9 q h) hf9 (fun u t H locs ht hvm hw hB hz1 hk1 hS => ?_)
            obtain ⟨hP, hK9, hD9⟩ := hB
            rw [ht] at hP
            have hD := hD9.weaken (fun _ q _ h => hf9 q.1 h)
            refine lv_aload_n hx hb dX0_build_218 rfl (lv_at hl 6 rfl) ?_
            refine va_get (D := D) (ci := 0) (v := va_re ad (y44.2 a 3)) (C := RX0) (T := TX0) (N := 21) hx hb hts (by decide +kernel) hown hK hP a (wld_o ct ad G y44 hc hk (by decide)) rfl 3 (by decide) (hts (.fieldLink RX0 36 "VideoSuite$Coder" "work" "LVideoSuite$Work;") (by decide +kernel)) (fun _ h9 => h9) rfl dX0_build_219 ?_
            obtain ⟨b45, ho45, hc45, hk45, hF⟩ := dr_some hF
            refine W_st (st' := [.ref (ad b45)]) (by rw [va_some ho45]) ?_
            refine va_get (D := D) (ci := 9) (v := va_re ad (y44.2 b45 6)) (C := RX9) (T := TX9) (N := 20) hx hb hts (by decide +kernel) hown hK hP b45 (wld_o ct ad G y44 hc45 hk45 (by decide)) rfl 6 (by decide) (hts (.fieldLink RX0 216 "VideoSuite$Work" "info" "[I") (by decide +kernel)) (fun _ h9 => h9) rfl dX0_build_222 ?_
            refine lv_iload_n hx hb dX0_build_225 rfl (lv_at hl 5 rfl) ?_
            refine lv_iconst (v := (3 : Int32)) hx hb dX0_build_226 (by decide) ?_
            refine lv_iadd hx hb dX0_build_227 ?_
            obtain ⟨x46, ex46, hF⟩ := ltt_some hF
            refine lv_topi (fun zx46 ezx46 => ?_)
            obtain rfl : x46 = zx46 := ex46.trans ezx46.symm
            refine lv_aload_n hx hb dX0_build_228 rfl (lv_at hl 6 rfl) ?_
            refine va_get (D := D) (ci := 0) (v := va_re ad (y44.2 a 4)) (C := RX0) (T := TX0) (N := 21) hx hb hts (by decide +kernel) hown hK hP a (wld_o ct ad G y44 hc hk (by decide)) rfl 4 (by decide) (hts (.fieldLink RX0 43 "VideoSuite$Coder" "samples" "LVideoSuite$Samples;") (by decide +kernel)) (fun _ h9 => h9) rfl dX0_build_229 ?_
            refine lv_aload_n hx hb dX0_build_232 rfl (lv_at hl 6 rfl) ?_
            refine va_get (D := D) (ci := 0) (v := va_re ad (y44.2 a 3)) (C := RX0) (T := TX0) (N := 21) hx hb hts (by decide +kernel) hown hK hP a (wld_o ct ad G y44 hc hk (by decide)) rfl 3 (by decide) (hts (.fieldLink RX0 36 "VideoSuite$Coder" "work" "LVideoSuite$Work;") (by decide +kernel)) (fun _ h9 => h9) rfl dX0_build_233 ?_
            refine lv_aload_n hx hb dX0_build_236 rfl (lv_at hl 6 rfl) ?_
            refine va_get (D := D) (ci := 0) (v := va_re ad (y44.2 a 9)) (C := RX0) (T := TX0) (N := 21) hx hb hts (by decide +kernel) hown hK hP a (wld_o ct ad G y44 hc hk (by decide)) rfl 9 (by decide) (hts (.fieldLink RX0 69 "VideoSuite$Coder" "source" "[[I") (by decide +kernel)) (fun _ h9 => h9) rfl dX0_build_237 ?_
            refine lv_iconst (v := (0 : Int32)) hx hb dX0_build_240 (by decide) ?_
            obtain ⟨b47, ho47, hc47, hk47, hF⟩ := dr_some hF
            refine W_st (st' := [.int (0 : Int32), .ref (ad b47), va_re ad (y44.2 a 3), va_re ad (y44.2 a 4), .int x46, va_re ad (y44.2 b45 6)]) (by rw [va_some ho47]) ?_
            obtain ⟨hvc, hF⟩ := chk_some hF
            refine ld_g hx hb hK hP hc47 hk47 hvc dX0_build_241 ?_
            refine lv_iload_n hx hb dX0_build_242 rfl (lv_at hl 7 rfl) ?_
            refine lv_iload_n hx hb dX0_build_243 rfl (lv_at hl 8 rfl) ?_
            obtain ⟨b48, ho48, hc48, hk48, hF⟩ := dr_some hF
            refine W_st (st' := [.int p1, .int p0, va_re ad (y44.2 b47 ((0 : Int32)).toNatClampNeg), va_re ad (y44.2 a 3), .ref (ad b48), .int x46, va_re ad (y44.2 b45 6)]) (by rw [va_some ho48]) ?_
            obtain ⟨y49, hy49, hF⟩ := bnd_some hF
            have hf9 := wA_in hD hA9 hS
            refine va_calli (va_runV (As := [va_re ad (y44.2 a 3), va_re ad (y44.2 b47 ((0 : Int32)).toNatClampNeg), .int p0, .int p1]) (rest := [.int x46, va_re ad (y44.2 b45 6)]) ⟨hx, hb, hml, hown, hts⟩ (kX6_measureSixteen l D ct ad Z G y44 H.size b48 ((y44.2 a 3)) ((y44.2 b47 ((0 : Int32)).toNatClampNeg)) p0 p1 y49 hc48 hk48 hy49) (cwV 4 hts gX0_build_X6_measureSixteen rfl rfl rfl (by decide +kernel) ⟨Nat.le_of_ble_eq_true rfl, Nat.le_of_ble_eq_true rfl⟩) ⟨fun a U g mk q => by obtain ⟨q0, q1, qP, qK, qD, qZ, qN⟩ := q; exact ⟨q0, q1, qP, va_K.moved (u := U) (U := U.calling g mk a) (Vm.Alike.refl U.vm) qK, qD, sF.moved (u := U) (U := U.calling g mk a) (Vm.Alike.refl U.vm) qZ, nF.same rfl qN⟩, va_recv hK hP (ci := 6) (q0 := b48) rfl (wld_o ct ad G y44 hc48 hk48 (by decide)), fun U hU hW => ⟨rfl, by rw [hU], by rw [hU]; exact hP, va_K.moved hW.alike hK, hD.weaken (fun _ _ _ _ => trivial), by rw [hU]; exact ((hZ.kept hS.2.1).narrow hf9).moved hW.alike, hN.warm hW⟩⟩ rfl rfl hl.1 rfl (lv_room (by simp only [List.map, va_re_cat]; exact Nat.le_of_ble_eq_true rfl)) dX0_build_244 ⟨(Nat.zero_le _), (Nat.zero_le _)⟩) hS (fun q _ h => hf9 q h) hf9 (fun r u t H locs ht hvm hw hB hz1 hk1 hS => ?_)
            obtain ⟨hP, hK9, hD9⟩ := hB
            rw [ht] at hP
            try dsimp only at hw
            subst hw
            have hD := hD9.weaken (fun _ q _ h => hf9 q.1 h)
            obtain ⟨y50, hy50, hF⟩ := bnd_some hF
            have J50 : ∀ (H : Heap) (locs : List Loc) (ls : Array Slot), va_P D classes (wld ct ad G y49.1) H → va_D A (wld ct ad G y49.1) → va_S A s.heap H locs → lv_has ls 9 [(8, .int y12.2), (7, .int y10), (6, .int y9), (5, .int y8.2), (4, .int x5), (3, .int x1), (0, .ref (ad a)), (1, .int p0), (2, .int p1)] → W p l e (headSpec wsX0_build ({ frames := 5, cells := 0, slots := 0, locals := 140 })).room s m ([.ref (ad a), .int p0, .int p1] : List Value).toArray below meth c H locs 0 0 (MQ below (va_Qv (fun (_ : Unit) => True) (fun _ t => kE D ct ad G A y t) A) ([.ref (ad a), .int p0, .int p1] : List Value).toArray s 0 0 A) (F0 m 256 ls [.int y50, .int x46, va_re ad (y44.2 b45 6)]) := by
              intro H locs ls hP hD hS hl
              obtain ⟨b51, ho51, hc51, hk51, hF⟩ := dr_some hF
              refine W_st (st' := [.int y50, .int x46, .ref (ad b51)]) (by rw [va_some ho51]) ?_
              obtain ⟨hvc, hF⟩ := chk_some hF
              refine va_iast hx hb hK hP hD hS b51 1 (wld_i ct ad G y49.1 hc51 hk51) rfl hvc dX0_build_256 (fun H locs hP hD hS => ?_)
              obtain ⟨M52, eM52, hF⟩ := ltt_some hF
              rw [set_i ct ad G y49.1 hc51 hk51, ← eM52] at hP hD
              refine lv_aload_n hx hb dX0_build_257 rfl (lv_at hl 6 rfl) ?_
              refine va_get (D := D) (ci := 0) (v := va_re ad (M52.2 a 4)) (C := RX0) (T := TX0) (N := 21) hx hb hts (by decide +kernel) hown hK hP a (wld_o ct ad G M52 hc hk (by decide)) rfl 4 (by decide) (hts (.fieldLink RX0 43 "VideoSuite$Coder" "samples" "LVideoSuite$Samples;") (by decide +kernel)) (fun _ h9 => h9) rfl dX0_build_258 ?_
              refine lv_aload_n hx hb dX0_build_261 rfl (lv_at hl 6 rfl) ?_
              refine va_get (D := D) (ci := 0) (v := va_re ad (M52.2 a 3)) (C := RX0) (T := TX0) (N := 21) hx hb hts (by decide +kernel) hown hK hP a (wld_o ct ad G M52 hc hk (by decide)) rfl 3 (by decide) (hts (.fieldLink RX0 36 "VideoSuite$Coder" "work" "LVideoSuite$Work;") (by decide +kernel)) (fun _ h9 => h9) rfl dX0_build_262 ?_
              refine lv_iload_n hx hb dX0_build_265 rfl (lv_at hl 7 rfl) ?_
              refine lv_iload_n hx hb dX0_build_266 rfl (lv_at hl 8 rfl) ?_
              obtain ⟨b53, ho53, hc53, hk53, hF⟩ := dr_some hF
              refine W_st (st' := [.int p1, .int p0, va_re ad (M52.2 a 3), .ref (ad b53)]) (by rw [va_some ho53]) ?_
              obtain ⟨y54, hy54, hF⟩ := bnd_some hF
              have hf9 := wA_in hD hA9 hS
              refine va_callv (va_runV (As := [va_re ad (M52.2 a 3), .int p0, .int p1]) (rest := []) ⟨hx, hb, hml, hown, hts⟩ (kX6_fillSixteen l D ct ad Z G M52 H.size b53 ((M52.2 a 3)) p0 p1 y54 hc53 hk53 hy54) (cwV 3 hts gX0_build_X6_fillSixteen rfl rfl rfl (by decide +kernel) ⟨Nat.le_of_ble_eq_true rfl, Nat.le_of_ble_eq_true rfl⟩) ⟨fun a U g mk q => by obtain ⟨q0, q1, qP, qK, qD, qZ, qN⟩ := q; exact ⟨q0, q1, qP, va_K.moved (u := U) (U := U.calling g mk a) (Vm.Alike.refl U.vm) qK, qD, sF.moved (u := U) (U := U.calling g mk a) (Vm.Alike.refl U.vm) qZ, nF.same rfl qN⟩, va_recv hK hP (ci := 6) (q0 := b53) rfl (wld_o ct ad G M52 hc53 hk53 (by decide)), fun U hU hW => ⟨rfl, by rw [hU], by rw [hU]; exact hP, va_K.moved hW.alike hK, hD.weaken (fun _ _ _ _ => trivial), by rw [hU]; exact ((hZ.kept hS.2.1).narrow hf9).moved hW.alike, hN.warm hW⟩⟩ rfl rfl hl.1 rfl (lv_room (Nat.le_of_ble_eq_true rfl)) dX0_build_267 ⟨(Nat.zero_le _), (Nat.zero_le _)⟩) hS (fun q _ h => hf9 q h) hf9 (fun u t H locs ht hvm hw hB hz1 hk1 hS => ?_)
              obtain ⟨hP, hK9, hD9⟩ := hB
              rw [ht] at hP
              have hD := hD9.weaken (fun _ q _ h => hf9 q.1 h)
              refine lv_goto (tgt := 283) hx hb dX0_build_270 (by decide) ?_
              obtain rfl := Option.some.inj hF
              exact J15 _ _ _ hP hD hS (lv_sub hl [0, 1, 2, 3, 4, 5, 6, 7, 8] rfl)
            clear hF
            have hF := hy50
            clear hy50
            refine lv_if_eq (tgt := 255) hx hb dX0_build_247 (by decide) (fun c55 => ?_) (fun c55 => ?_)
            · rw [if_pos c55] at hF
              refine lv_iconst (v := (0 : Int32)) hx hb dX0_build_255 (by decide) ?_
              obtain rfl := Option.some.inj hF
              exact J50 _ _ _ hP hD hS (lv_sub hl [0, 1, 2, 3, 4, 5, 6, 7, 8] rfl)
            · rw [if_neg c55] at hF
              refine lv_bipush (v := (15 : Int32)) hx hb dX0_build_250 (by decide) ?_
              refine lv_goto (tgt := 256) hx hb dX0_build_252 (by decide) ?_
              obtain rfl := Option.some.inj hF
              exact J50 _ _ _ hP hD hS (lv_sub hl [0, 1, 2, 3, 4, 5, 6, 7, 8] rfl)
        clear hF
        have hF := hy14
        clear hy14
        refine lv_if_eq (tgt := 174) hx hb dX0_build_143 (by decide) (fun c56 => ?_) (fun c56 => ?_)
        · rw [if_pos c56] at hF
          refine lv_aload_n hx hb dX0_build_174 rfl (lv_at hl 6 rfl) ?_
          refine va_get (D := D) (ci := 0) (v := va_re ad (y12.1.2 a 4)) (C := RX0) (T := TX0) (N := 21) hx hb hts (by decide +kernel) hown hK hP a (wld_o ct ad G y12.1 hc hk (by decide)) rfl 4 (by decide) (hts (.fieldLink RX0 43 "VideoSuite$Coder" "samples" "LVideoSuite$Samples;") (by decide +kernel)) (fun _ h9 => h9) rfl dX0_build_175 ?_
          refine lv_aload_n hx hb dX0_build_178 rfl (lv_at hl 6 rfl) ?_
          refine va_get (D := D) (ci := 0) (v := va_re ad (y12.1.2 a 3)) (C := RX0) (T := TX0) (N := 21) hx hb hts (by decide +kernel) hown hK hP a (wld_o ct ad G y12.1 hc hk (by decide)) rfl 3 (by decide) (hts (.fieldLink RX0 36 "VideoSuite$Coder" "work" "LVideoSuite$Work;") (by decide +kernel)) (fun _ h9 => h9) rfl dX0_build_179 ?_
          refine lv_iload_n hx hb dX0_build_182 rfl (lv_at hl 7 rfl) ?_
          obtain ⟨b57, ho57, hc57, hk57, hF⟩ := dr_some hF
          refine W_st (st' := [.int p0, va_re ad (y12.1.2 a 3), .ref (ad b57)]) (by rw [va_some ho57]) ?_
          obtain ⟨y58, hy58, hF⟩ := bnd_some hF
          have hf9 := wA_in hD hA9 hS
          refine va_callv (va_runV (As := [va_re ad (y12.1.2 a 3), .int p0]) (rest := []) ⟨hx, hb, hml, hown, hts⟩ (kX6_predictByLists l D ct ad Z G y12.1 H.size b57 ((y12.1.2 a 3)) p0 y58 hc57 hk57 hy58) (cwV 2 hts gX0_build_X6_predictByLists rfl rfl rfl (by decide +kernel) ⟨Nat.le_of_ble_eq_true rfl, Nat.le_of_ble_eq_true rfl⟩) ⟨fun a U g mk q => by obtain ⟨q0, q1, qP, qK, qD, qZ, qN⟩ := q; exact ⟨q0, q1, qP, va_K.moved (u := U) (U := U.calling g mk a) (Vm.Alike.refl U.vm) qK, qD, sF.moved (u := U) (U := U.calling g mk a) (Vm.Alike.refl U.vm) qZ, nF.same rfl qN⟩, va_recv hK hP (ci := 6) (q0 := b57) rfl (wld_o ct ad G y12.1 hc57 hk57 (by decide)), fun U hU hW => ⟨rfl, by rw [hU], by rw [hU]; exact hP, va_K.moved hW.alike hK, hD.weaken (fun _ _ _ _ => trivial), by rw [hU]; exact ((hZ.kept hS.2.1).narrow hf9).moved hW.alike, hN.warm hW⟩⟩ rfl rfl hl.1 rfl (lv_room (Nat.le_of_ble_eq_true rfl)) dX0_build_183 ⟨(Nat.zero_le _), (Nat.zero_le _)⟩) hS (fun q _ h => hf9 q h) hf9 (fun u t H locs ht hvm hw hB hz1 hk1 hS => ?_)
          obtain ⟨hP, hK9, hD9⟩ := hB
          rw [ht] at hP
          have hD := hD9.weaken (fun _ q _ h => hf9 q.1 h)
          obtain rfl := Option.some.inj hF
          exact J14 _ _ _ hP hD hS (lv_sub hl [0, 1, 2, 3, 4, 5, 6, 7, 8] rfl)
        · rw [if_neg c56] at hF
          refine lv_aload_n hx hb dX0_build_146 rfl (lv_at hl 6 rfl) ?_
          refine va_get (D := D) (ci := 0) (v := va_re ad (y12.1.2 a 4)) (C := RX0) (T := TX0) (N := 21) hx hb hts (by decide +kernel) hown hK hP a (wld_o ct ad G y12.1 hc hk (by decide)) rfl 4 (by decide) (hts (.fieldLink RX0 43 "VideoSuite$Coder" "samples" "LVideoSuite$Samples;") (by decide +kernel)) (fun _ h9 => h9) rfl dX0_build_147 ?_
          refine lv_aload_n hx hb dX0_build_150 rfl (lv_at hl 6 rfl) ?_
          refine va_get (D := D) (ci := 0) (v := va_re ad (y12.1.2 a 3)) (C := RX0) (T := TX0) (N := 21) hx hb hts (by decide +kernel) hown hK hP a (wld_o ct ad G y12.1 hc hk (by decide)) rfl 3 (by decide) (hts (.fieldLink RX0 36 "VideoSuite$Coder" "work" "LVideoSuite$Work;") (by decide +kernel)) (fun _ h9 => h9) rfl dX0_build_151 ?_
          refine lv_iload_n hx hb dX0_build_154 rfl (lv_at hl 7 rfl) ?_
          refine lv_aload_n hx hb dX0_build_155 rfl (lv_at hl 6 rfl) ?_
          refine va_get (D := D) (ci := 0) (v := va_re ad (y12.1.2 a 3)) (C := RX0) (T := TX0) (N := 21) hx hb hts (by decide +kernel) hown hK hP a (wld_o ct ad G y12.1 hc hk (by decide)) rfl 3 (by decide) (hts (.fieldLink RX0 36 "VideoSuite$Coder" "work" "LVideoSuite$Work;") (by decide +kernel)) (fun _ h9 => h9) rfl dX0_build_156 ?_
          obtain ⟨b59, ho59, hc59, hk59, hF⟩ := dr_some hF
          refine W_st (st' := [.ref (ad b59), .int p0, .ref (ad b59), va_re ad (y12.1.2 a 4)]) (by rw [va_some ho59]) ?_
          refine va_get (D := D) (ci := 9) (v := va_re ad (y12.1.2 b59 6)) (C := RX9) (T := TX9) (N := 20) hx hb hts (by decide +kernel) hown hK hP b59 (wld_o ct ad G y12.1 hc59 hk59 (by decide)) rfl 6 (by decide) (hts (.fieldLink RX0 216 "VideoSuite$Work" "info" "[I") (by decide +kernel)) (fun _ h9 => h9) rfl dX0_build_159 ?_
          refine lv_iload_n hx hb dX0_build_162 rfl (lv_at hl 5 rfl) ?_
          refine lv_iconst (v := (5 : Int32)) hx hb dX0_build_163 (by decide) ?_
          refine lv_iadd hx hb dX0_build_164 ?_
          obtain ⟨x60, ex60, hF⟩ := ltt_some hF
          refine lv_topi (fun zx60 ezx60 => ?_)
          obtain rfl : x60 = zx60 := ex60.trans ezx60.symm
          obtain ⟨b61, ho61, hc61, hk61, hF⟩ := dr_some hF
          refine W_st (st' := [.int x60, .ref (ad b61), .int p0, .ref (ad b59), va_re ad (y12.1.2 a 4)]) (by rw [va_some ho61]) ?_
          obtain ⟨hvc, hF⟩ := chk_some hF
          refine va_iald hx hb hK hP b61 1 (wld_i ct ad G y12.1 hc61 hk61) rfl hvc dX0_build_165 ?_
          obtain ⟨x62, ex62, hF⟩ := ltt_some hF
          refine lv_topi (fun zx62 ezx62 => ?_)
          obtain rfl : x62 = zx62 := ex62.trans ezx62.symm
          refine lv_iload hx hb dX0_build_166 (lv_at hl 0 rfl) ?_
          obtain ⟨b63, ho63, hc63, hk63, hF⟩ := dr_some hF
          refine W_st (st' := [.int y12.2, .int x62, .int p0, .ref (ad b59), .ref (ad b63)]) (by rw [va_some ho63]) ?_
          obtain ⟨y64, hy64, hF⟩ := bnd_some hF
          have hf9 := wA_in hD hA9 hS
          refine va_callv (va_runV (As := [.ref (ad b59), .int p0, .int x62, .int y12.2]) (rest := []) ⟨hx, hb, hml, hown, hts⟩ (kX6_predictColours_ l D ct ad Z G y12.1 H.size b63 (some b59) p0 x62 y12.2 y64 hc63 hk63 hy64) (cwV 4 hts gX0_build_X6_predictColours_ rfl rfl rfl (by decide +kernel) ⟨Nat.le_of_ble_eq_true rfl, Nat.le_of_ble_eq_true rfl⟩) ⟨fun a U g mk q => by obtain ⟨q0, q1, qP, qK, qD, qZ, qN⟩ := q; exact ⟨q0, q1, qP, va_K.moved (u := U) (U := U.calling g mk a) (Vm.Alike.refl U.vm) qK, qD, sF.moved (u := U) (U := U.calling g mk a) (Vm.Alike.refl U.vm) qZ, nF.same rfl qN⟩, va_recv hK hP (ci := 6) (q0 := b63) rfl (wld_o ct ad G y12.1 hc63 hk63 (by decide)), fun U hU hW => ⟨rfl, by rw [hU], by rw [hU]; exact hP, va_K.moved hW.alike hK, hD.weaken (fun _ _ _ _ => trivial), by rw [hU]; exact ((hZ.kept hS.2.1).narrow hf9).moved hW.alike, hN.warm hW⟩⟩ rfl rfl hl.1 rfl (lv_room (Nat.le_of_ble_eq_true rfl)) dX0_build_168 ⟨(Nat.zero_le _), (Nat.zero_le _)⟩) hS (fun q _ h => hf9 q h) hf9 (fun u t H locs ht hvm hw hB hz1 hk1 hS => ?_)
          obtain ⟨hP, hK9, hD9⟩ := hB
          rw [ht] at hP
          have hD := hD9.weaken (fun _ q _ h => hf9 q.1 h)
          refine lv_goto (tgt := 186) hx hb dX0_build_171 (by decide) ?_
          obtain rfl := Option.some.inj hF
          exact J14 _ _ _ hP hD hS (lv_sub hl [0, 1, 2, 3, 4, 5, 6, 7, 8] rfl)
      · rw [if_pos c13] at hF
        refine lv_aload_n hx hb dX0_build_89 rfl (lv_at hl 6 rfl) ?_
        refine va_get (D := D) (ci := 0) (v := va_re ad (y12.1.2 a 4)) (C := RX0) (T := TX0) (N := 21) hx hb hts (by decide +kernel) hown hK hP a (wld_o ct ad G y12.1 hc hk (by decide)) rfl 4 (by decide) (hts (.fieldLink RX0 43 "VideoSuite$Coder" "samples" "LVideoSuite$Samples;") (by decide +kernel)) (fun _ h9 => h9) rfl dX0_build_90 ?_
        refine lv_aload_n hx hb dX0_build_93 rfl (lv_at hl 6 rfl) ?_
        refine va_get (D := D) (ci := 0) (v := va_re ad (y12.1.2 a 3)) (C := RX0) (T := TX0) (N := 21) hx hb hts (by decide +kernel) hown hK hP a (wld_o ct ad G y12.1 hc hk (by decide)) rfl 3 (by decide) (hts (.fieldLink RX0 36 "VideoSuite$Coder" "work" "LVideoSuite$Work;") (by decide +kernel)) (fun _ h9 => h9) rfl dX0_build_94 ?_
        refine lv_aload_n hx hb dX0_build_97 rfl (lv_at hl 6 rfl) ?_
        refine va_get (D := D) (ci := 0) (v := va_re ad (y12.1.2 a 9)) (C := RX0) (T := TX0) (N := 21) hx hb hts (by decide +kernel) hown hK hP a (wld_o ct ad G y12.1 hc hk (by decide)) rfl 9 (by decide) (hts (.fieldLink RX0 69 "VideoSuite$Coder" "source" "[[I") (by decide +kernel)) (fun _ h9 => h9) rfl dX0_build_98 ?_
        refine lv_iload_n hx hb dX0_build_101 rfl (lv_at hl 7 rfl) ?_
        obtain ⟨b65, ho65, hc65, hk65, hF⟩ := dr_some hF
        refine W_st (st' := [.int p0, va_re ad (y12.1.2 a 9), va_re ad (y12.1.2 a 3), .ref (ad b65)]) (by rw [va_some ho65]) ?_
        obtain ⟨y66, hy66, hF⟩ := bnd_some hF
        have hf9 := wA_in hD hA9 hS
        refine va_callv (va_runV (As := [va_re ad (y12.1.2 a 3), va_re ad (y12.1.2 a 9), .int p0]) (rest := []) ⟨hx, hb, hml, hown, hts⟩ (kX6_takeRaw l D ct ad Z G y12.1 H.size b65 ((y12.1.2 a 3)) ((y12.1.2 a 9)) p0 y66 hc65 hk65 hy66) (cwV 3 hts gX0_build_X6_takeRaw rfl rfl rfl (by decide +kernel) ⟨Nat.le_of_ble_eq_true rfl, Nat.le_of_ble_eq_true rfl⟩) ⟨fun a U g mk q => by obtain ⟨q0, q1, qP, qK, qD, qZ, qN⟩ := q; exact ⟨q0, q1, qP, va_K.moved (u := U) (U := U.calling g mk a) (Vm.Alike.refl U.vm) qK, qD, sF.moved (u := U) (U := U.calling g mk a) (Vm.Alike.refl U.vm) qZ, nF.same rfl qN⟩, va_recv hK hP (ci := 6) (q0 := b65) rfl (wld_o ct ad G y12.1 hc65 hk65 (by decide)), fun U hU hW => ⟨rfl, by rw [hU], by rw [hU]; exact hP, va_K.moved hW.alike hK, hD.weaken (fun _ _ _ _ => trivial), by rw [hU]; exact ((hZ.kept hS.2.1).narrow hf9).moved hW.alike, hN.warm hW⟩⟩ rfl rfl hl.1 rfl (lv_room (Nat.le_of_ble_eq_true rfl)) dX0_build_102 ⟨(Nat.zero_le _), (Nat.zero_le _)⟩) hS (fun q _ h => hf9 q h) hf9 (fun u t H locs ht hvm hw hB hz1 hk1 hS => ?_)
        obtain ⟨hP, hK9, hD9⟩ := hB
        rw [ht] at hP
        have hD := hD9.weaken (fun _ q _ h => hf9 q.1 h)
        refine lv_aload_n hx hb dX0_build_105 rfl (lv_at hl 6 rfl) ?_
        refine va_get (D := D) (ci := 0) (v := va_re ad (y66.2 a 4)) (C := RX0) (T := TX0) (N := 21) hx hb hts (by decide +kernel) hown hK hP a (wld_o ct ad G y66 hc hk (by decide)) rfl 4 (by decide) (hts (.fieldLink RX0 43 "VideoSuite$Coder" "samples" "LVideoSuite$Samples;") (by decide +kernel)) (fun _ h9 => h9) rfl dX0_build_106 ?_
        refine lv_aload_n hx hb dX0_build_109 rfl (lv_at hl 6 rfl) ?_
        refine va_get (D := D) (ci := 0) (v := va_re ad (y66.2 a 3)) (C := RX0) (T := TX0) (N := 21) hx hb hts (by decide +kernel) hown hK hP a (wld_o ct ad G y66 hc hk (by decide)) rfl 3 (by decide) (hts (.fieldLink RX0 36 "VideoSuite$Coder" "work" "LVideoSuite$Work;") (by decide +kernel)) (fun _ h9 => h9) rfl dX0_build_110 ?_
        refine lv_iload_n hx hb dX0_build_113 rfl (lv_at hl 7 rfl) ?_
        obtain ⟨b67, ho67, hc67, hk67, hF⟩ := dr_some hF
        refine W_st (st' := [.int p0, va_re ad (y66.2 a 3), .ref (ad b67)]) (by rw [va_some ho67]) ?_
        obtain ⟨y68, hy68, hF⟩ := bnd_some hF
        have hf9 := wA_in hD hA9 hS
        refine va_callv (va_runV (As := [va_re ad (y66.2 a 3), .int p0]) (rest := []) ⟨hx, hb, hml, hown, hts⟩ (kX6_fillRaw l D ct ad Z G y66 H.size b67 ((y66.2 a 3)) p0 y68 hc67 hk67 hy68) (cwV 2 hts gX0_build_X6_fillRaw rfl rfl rfl (by decide +kernel) ⟨Nat.le_of_ble_eq_true rfl, Nat.le_of_ble_eq_true rfl⟩) ⟨fun a U g mk q => by obtain ⟨q0, q1, qP, qK, qD, qZ, qN⟩ := q; exact ⟨q0, q1, qP, va_K.moved (u := U) (U := U.calling g mk a) (Vm.Alike.refl U.vm) qK, qD, sF.moved (u := U) (U := U.calling g mk a) (Vm.Alike.refl U.vm) qZ, nF.same rfl qN⟩, va_recv hK hP (ci := 6) (q0 := b67) rfl (wld_o ct ad G y66 hc67 hk67 (by decide)), fun U hU hW => ⟨rfl, by rw [hU], by rw [hU]; exact hP, va_K.moved hW.alike hK, hD.weaken (fun _ _ _ _ => trivial), by rw [hU]; exact ((hZ.kept hS.2.1).narrow hf9).moved hW.alike, hN.warm hW⟩⟩ rfl rfl hl.1 rfl (lv_room (Nat.le_of_ble_eq_true rfl)) dX0_build_114 ⟨(Nat.zero_le _), (Nat.zero_le _)⟩) hS (fun q _ h => hf9 q h) hf9 (fun u t H locs ht hvm hw hB hz1 hk1 hS => ?_)
        obtain ⟨hP, hK9, hD9⟩ := hB
        rw [ht] at hP
        have hD := hD9.weaken (fun _ q _ h => hf9 q.1 h)
        refine lv_aload_n hx hb dX0_build_117 rfl (lv_at hl 6 rfl) ?_
        refine va_get (D := D) (ci := 0) (v := va_re ad (y68.2 a 3)) (C := RX0) (T := TX0) (N := 21) hx hb hts (by decide +kernel) hown hK hP a (wld_o ct ad G y68 hc hk (by decide)) rfl 3 (by decide) (hts (.fieldLink RX0 36 "VideoSuite$Coder" "work" "LVideoSuite$Work;") (by decide +kernel)) (fun _ h9 => h9) rfl dX0_build_118 ?_
        obtain ⟨b69, ho69, hc69, hk69, hF⟩ := dr_some hF
        refine W_st (st' := [.ref (ad b69)]) (by rw [va_some ho69]) ?_
        refine va_get (D := D) (ci := 9) (v := va_re ad (y68.2 b69 8)) (C := RX9) (T := TX9) (N := 20) hx hb hts (by decide +kernel) hown hK hP b69 (wld_o ct ad G y68 hc69 hk69 (by decide)) rfl 8 (by decide) (hts (.fieldLink RX0 532 "VideoSuite$Work" "total" "[I") (by decide +kernel)) (fun _ h9 => h9) rfl dX0_build_121 ?_
        refine lv_bipush (v := (24 : Int32)) hx hb dX0_build_124 (by decide) ?_
        refine lv_iload_n hx hb dX0_build_126 rfl (lv_at hl 7 rfl) ?_
        refine lv_imul hx hb dX0_build_127 ?_
        obtain ⟨x70, ex70, hF⟩ := ltt_some hF
        refine lv_topi (fun zx70 ezx70 => ?_)
        obtain rfl : x70 = zx70 := ex70.trans ezx70.symm
        refine lv_bipush (v := (24 : Int32)) hx hb dX0_build_128 (by decide) ?_
        refine lv_iload_n hx hb dX0_build_130 rfl (lv_at hl 7 rfl) ?_
        refine lv_imul hx hb dX0_build_131 ?_
        obtain ⟨x71, ex71, hF⟩ := ltt_some hF
        refine lv_topi (fun zx71 ezx71 => ?_)
        obtain rfl : x71 = zx71 := ex71.trans ezx71.symm
        refine lv_bipush (v := (24 : Int32)) hx hb dX0_build_132 (by decide) ?_
        refine lv_iadd hx hb dX0_build_134 ?_
        obtain ⟨x72, ex72, hF⟩ := ltt_some hF
        refine lv_topi (fun zx72 ezx72 => ?_)
        obtain rfl : x72 = zx72 := ex72.trans ezx72.symm
        refine lv_bipush (v := (16 : Int32)) hx hb dX0_build_135 (by decide) ?_
        obtain ⟨y73, hy73, hF⟩ := bnd_some hF
        have hf9 := wA_in hD hA9 hS
        refine va_callv (va_runS (As := [va_re ad (y68.2 b69 8), .int x70, .int x72, .int (16 : Int32)]) (rest := []) ⟨hx, hb, hml, hown, hts⟩ (kJ7_fill_fda19 l D ct ad Z G y68 H.size ((y68.2 b69 8)) x70 x72 ((16 : Int32)) y73 hy73) (va_cwS 4 hts gX0_build_J7_fill_fda19 rfl rfl rfl (by decide +kernel) ⟨Nat.le_of_ble_eq_true rfl, Nat.le_of_ble_eq_true rfl⟩) ⟨fun a U g mk q => by obtain ⟨q0, q1, qP, qK, qD, qZ, qN⟩ := q; exact ⟨q0, q1, qP, va_K.moved (u := U) (U := U.calling g mk a) (Vm.Alike.refl U.vm) qK, qD, sF.moved (u := U) (U := U.calling g mk a) (Vm.Alike.refl U.vm) qZ, nF.same rfl qN⟩, fun U hU hW => ⟨rfl, by rw [hU], by rw [hU]; exact hP, va_K.moved hW.alike hK, hD.weaken (fun _ _ _ _ => trivial), by rw [hU]; exact ((hZ.kept hS.2.1).narrow hf9).moved hW.alike, hN.warm hW⟩⟩ rfl rfl hl.1 rfl (lv_room (Nat.le_of_ble_eq_true rfl)) dX0_build_137 ⟨(Nat.zero_le _), (Nat.zero_le _)⟩) hS (fun q _ h => hf9 q h) hf9 (fun u t H locs ht hvm hw hB hz1 hk1 hS => ?_)
        obtain ⟨hP, hK9, hD9⟩ := hB
        rw [ht] at hP
        have hD := hD9.weaken (fun _ q _ h => hf9 q.1 h)
        obtain rfl := Option.some.inj hF
        exact W.vret hx hb hr (fun t ht hW => ⟨⟨(), rfl, trivial, ⟨by rw [ht]; exact hP, va_K.moved hW.alike hK, hD⟩⟩, hS.F ht⟩) hS.2.2 dX0_build_140
    clear hF
    have hF := hy10
    clear hy10
    refine lv_if_ne (tgt := 70) hx hb dX0_build_49 (by decide) (fun c74 => ?_) (fun c74 => ?_)
    · rw [if_neg c74] at hF
      refine lv_iconst (v := (0 : Int32)) hx hb dX0_build_70 (by decide) ?_
      obtain rfl := Option.some.inj hF
      exact J10 _ _ _ hP hD hS (lv_sub hl [0, 1, 2, 3, 4, 5, 6] rfl)
    · rw [if_pos c74] at hF
      refine lv_aload_n hx hb dX0_build_52 rfl (lv_at hl 4 rfl) ?_
      refine va_get (D := D) (ci := 0) (v := va_re ad (y8.1.2 a 3)) (C := RX0) (T := TX0) (N := 21) hx hb hts (by decide +kernel) hown hK hP a (wld_o ct ad G y8.1 hc hk (by decide)) rfl 3 (by decide) (hts (.fieldLink RX0 36 "VideoSuite$Coder" "work" "LVideoSuite$Work;") (by decide +kernel)) (fun _ h9 => h9) rfl dX0_build_53 ?_
      obtain ⟨b75, ho75, hc75, hk75, hF⟩ := dr_some hF
      refine W_st (st' := [.ref (ad b75)]) (by rw [va_some ho75]) ?_
      refine va_get (D := D) (ci := 9) (v := va_re ad (y8.1.2 b75 6)) (C := RX9) (T := TX9) (N := 20) hx hb hts (by decide +kernel) hown hK hP b75 (wld_o ct ad G y8.1 hc75 hk75 (by decide)) rfl 6 (by decide) (hts (.fieldLink RX0 216 "VideoSuite$Work" "info" "[I") (by decide +kernel)) (fun _ h9 => h9) rfl dX0_build_56 ?_
      refine lv_iload_n hx hb dX0_build_59 rfl (lv_at hl 3 rfl) ?_
      refine lv_iconst (v := (1 : Int32)) hx hb dX0_build_60 (by decide) ?_
      refine lv_iadd hx hb dX0_build_61 ?_
      obtain ⟨x76, ex76, hF⟩ := ltt_some hF
      refine lv_topi (fun zx76 ezx76 => ?_)
      obtain rfl : x76 = zx76 := ex76.trans ezx76.symm
      obtain ⟨b77, ho77, hc77, hk77, hF⟩ := dr_some hF
      refine W_st (st' := [.int x76, .ref (ad b77)]) (by rw [va_some ho77]) ?_
      obtain ⟨hvc, hF⟩ := chk_some hF
      refine va_iald hx hb hK hP b77 1 (wld_i ct ad G y8.1 hc77 hk77) rfl hvc dX0_build_62 ?_
      obtain ⟨x78, ex78, hF⟩ := ltt_some hF
      refine lv_topi (fun zx78 ezx78 => ?_)
      obtain rfl : x78 = zx78 := ex78.trans ezx78.symm
      obtain ⟨y79, hy79, hF⟩ := bnd_some hF
      have J79 : ∀ (H : Heap) (locs : List Loc) (ls : Array Slot), va_P D classes (wld ct ad G y8.1) H → va_D A (wld ct ad G y8.1) → va_S A s.heap H locs → lv_has ls 9 [(6, .int y9), (5, .int y8.2), (4, .int x5), (3, .int x1), (0, .ref (ad a)), (1, .int p0), (2, .int p1)] → W p l e (headSpec wsX0_build ({ frames := 5, cells := 0, slots := 0, locals := 140 })).room s m ([.ref (ad a), .int p0, .int p1] : List Value).toArray below meth c H locs 0 0 (MQ below (va_Qv (fun (_ : Unit) => True) (fun _ t => kE D ct ad G A y t) A) ([.ref (ad a), .int p0, .int p1] : List Value).toArray s 0 0 A) (F0 m 71 ls [.int y79]) := by
        intro H locs ls hP hD hS hl
        obtain rfl := Option.some.inj hF
        exact J10 _ _ _ hP hD hS (lv_sub hl [0, 1, 2, 3, 4, 5, 6] rfl)
      clear hF
      have hF := hy79
      clear hy79
      refine lv_if_ge (tgt := 70) hx hb dX0_build_63 (by decide) (fun c80 => ?_) (fun c80 => ?_)
      · rw [if_pos c80] at hF
        refine lv_iconst (v := (0 : Int32)) hx hb dX0_build_70 (by decide) ?_
        obtain rfl := Option.some.inj hF
        exact J79 _ _ _ hP hD hS (lv_sub hl [0, 1, 2, 3, 4, 5, 6] rfl)
      · rw [if_neg c80] at hF
        refine lv_iconst (v := (1 : Int32)) hx hb dX0_build_66 (by decide) ?_
        refine lv_goto (tgt := 71) hx hb dX0_build_67 (by decide) ?_
        obtain rfl := Option.some.inj hF
        exact J79 _ _ _ hP hD hS (lv_sub hl [0, 1, 2, 3, 4, 5, 6] rfl)
  clear hF
  have hF := hy9
  clear hy9
  refine lv_icmp_eq (tgt := 44) hx hb dX0_build_37 (by decide) (fun c81 => ?_) (fun c81 => ?_)
  · rw [if_pos c81] at hF
    refine lv_iconst (v := (0 : Int32)) hx hb dX0_build_44 (by decide) ?_
    obtain rfl := Option.some.inj hF
    exact J9 _ _ _ hP hD hS (lv_sub hl [0, 1, 2, 3, 4, 5] rfl)
  · rw [if_neg c81] at hF
    refine lv_iconst (v := (1 : Int32)) hx hb dX0_build_40 (by decide) ?_
    refine lv_goto (tgt := 45) hx hb dX0_build_41 (by decide) ?_
    obtain rfl := Option.some.inj hF
    exact J9 _ _ _ hP hD hS (lv_sub hl [0, 1, 2, 3, 4, 5] rfl)
theorem ggX0_chooseByCosts_X9_sides : GoodIn wsX0_chooseByCosts wsX9_sides := goodIn_r _ [251, 29, 30, 31, 21, 32, 33, 34, 35, 36, 252, 253, 254, 255, 256, 477, 478, 479, 480, 481, 482, 483, 484, 485, 486, 487, 488, 489, 490, 491, 492, 493, 494, 495, 496, 501, 502, 503, 504, 505, 506, 507, 508, 509, 510, 511, 512, 513, 514, 515, 516, 517, 518] (by decide +kernel) (by decide +kernel)
set_option maxRecDepth 20000 in
theorem gX0_chooseByCosts_X9_sides : GoodIn wsX0_chooseByCosts (wsV RX0 353 RX9 yX9_sides wsX9_sides) := goodIn_app (goodIn_of _ (by decide +kernel)) ggX0_chooseByCosts_X9_sides
set_option maxRecDepth 20000 in
theorem ggX0_chooseByCosts_X0_costOfFour : GoodIn wsX0_chooseByCosts wsX0_costOfFour := goodIn_r _ [280, 1, 2, 3, 8, 5, 6, 7, 4, 9, 281, 282, 283, 21, 284, 35, 285, 286, 287, 288, 289, 290, 291, 292, 293, 294, 295, 296, 297, 298, 299, 300, 301, 302, 303, 304, 305, 33, 41, 193, 46, 208, 209, 199, 210, 306, 307, 308, 23, 24, 25, 26, 27, 28, 309, 310, 311, 312, 29, 30, 31, 32, 34, 36, 313, 314, 315, 316, 256, 317, 318, 319, 320, 321, 322, 61, 323, 63, 264, 132, 69, 70, 140, 141, 142, 64, 324, 325, 326, 327, 80, 328, 329, 330, 331, 332, 333, 334, 335, 336, 337, 338, 339, 340, 341, 342, 343, 136, 137, 138, 139, 344, 345, 346, 347, 348, 349, 350, 351, 352, 353, 354, 355, 356, 357, 358, 359, 360, 361, 362, 363, 364, 365, 366, 367, 368, 369, 370, 371, 372, 373, 374, 375, 376, 377, 378, 379, 380, 381, 382, 383, 384, 385, 386, 387, 388, 389, 390, 391, 143, 144, 145, 13, 146, 456, 457, 458, 459, 460, 461, 462, 463, 464, 465, 466, 467, 468, 469, 470, 471, 472, 473, 474, 475, 476, 477, 478, 479, 480, 481, 482, 483, 484, 485, 486, 487, 488, 489, 490, 491, 492, 493, 494, 495, 496, 497, 498, 499, 500, 533, 534, 535, 536, 501, 502, 503, 504, 505, 506, 507, 508, 509, 510, 511, 512, 513, 514, 515, 516, 517, 518, 519, 520, 521, 522, 523, 524, 525, 526, 527, 528, 529, 530, 531, 532] (by decide +kernel) (by decide +kernel)
set_option maxRecDepth 20000 in
theorem gX0_chooseByCosts_X0_costOfFour : GoodIn wsX0_chooseByCosts (wsV RX0 459 RX0 yX0_costOfFour wsX0_costOfFour) := goodIn_app (goodIn_of _ (by decide +kernel)) ggX0_chooseByCosts_X0_costOfFour
set_option maxRecDepth 20000 in
theorem ggX0_chooseByCosts_X0_offer : GoodIn wsX0_chooseByCosts wsX0_offer := goodIn_r _ [169, 4, 456, 457, 458, 459, 460, 461, 462, 463, 464, 465, 466, 467, 468, 469, 470, 471, 472, 473, 474, 475, 476] (by decide +kernel) (by decide +kernel)
set_option maxRecDepth 20000 in
theorem gX0_chooseByCosts_X0_offer : GoodIn wsX0_chooseByCosts (wsV RX0 439 RX0 yX0_offer wsX0_offer) := goodIn_app (goodIn_of _ (by decide +kernel)) ggX0_chooseByCosts_X0_offer
set_option maxRecDepth 20000 in
theorem ggX0_chooseByCosts_X9_clearBlock : GoodIn wsX0_chooseByCosts wsX9_clearBlock := goodIn_r _ [284, 35, 285, 286, 287, 288, 289, 290, 291, 292, 293, 294, 295, 296, 297, 298, 299, 300, 21, 301, 302, 303, 304, 305, 33, 41, 193, 46, 208, 209, 199, 210, 477, 478, 479, 480, 481, 482, 483, 484, 485, 486, 487, 488, 489, 490, 491, 492, 493, 494, 495, 496, 533, 534, 535, 536, 501, 502, 503, 504, 505, 506, 507, 508, 509, 510, 511, 512, 513, 514, 515, 516, 517, 518] (by decide +kernel) (by decide +kernel)
set_option maxRecDepth 20000 in
theorem gX0_chooseByCosts_X9_clearBlock : GoodIn wsX0_chooseByCosts (wsV RX0 462 RX9 yX9_clearBlock wsX9_clearBlock) := goodIn_app (goodIn_of _ (by decide +kernel)) ggX0_chooseByCosts_X9_clearBlock
set_option maxRecDepth 20000 in
theorem ggX0_chooseByCosts_X0_chooseColours : GoodIn wsX0_chooseByCosts wsX0_chooseColours := goodIn_r _ [437, 5, 6, 1, 7, 8, 438, 439, 21, 440, 441, 442, 443, 61, 444, 63, 80, 64, 132, 264, 445, 446, 447, 265, 266, 267, 268, 269, 270, 271, 272, 448, 449, 450, 451, 273, 274, 275, 276, 452, 453, 454, 455, 456, 457, 458, 459, 460, 461, 462, 463, 464, 465, 466, 467, 468, 469, 470, 471, 472, 473, 474, 475, 476, 477, 478, 479, 480, 481, 482, 483, 484, 485, 486, 487, 488, 489, 490, 491, 492, 493, 494, 495, 496, 501, 502, 503, 504, 505, 506, 507, 508, 509, 510, 511, 512, 513, 514, 515, 516, 517, 518, 519, 520, 521, 522, 523, 524, 525, 526, 527, 528, 529, 530, 531, 532] (by decide +kernel) (by decide +kernel)
set_option maxRecDepth 20000 in
theorem gX0_chooseByCosts_X0_chooseColours : GoodIn wsX0_chooseByCosts (wsV RX0 468 RX0 yX0_chooseColours wsX0_chooseColours) := goodIn_app (goodIn_of _ (by decide +kernel)) ggX0_chooseByCosts_X0_chooseColours
theorem ggX0_chooseByCosts_X0_useBest : GoodIn wsX0_chooseByCosts wsX0_useBest := goodIn_r _ [395, 1, 8, 396, 4, 182, 183, 184, 21, 185, 186, 187, 188, 47, 48, 189, 190, 191, 192, 193, 46, 194, 195, 33, 196, 197, 198, 199, 200, 201, 202, 203, 204, 205, 206, 207, 208, 209, 210, 211, 212, 213, 214, 215, 216, 115, 116, 217, 118, 119, 120, 121, 122, 123, 218, 219, 220, 221, 41, 222, 223, 224, 225, 29, 30, 31, 32, 34, 35, 36, 37, 38, 39, 40, 226, 19, 20, 22, 23, 24, 25, 26, 27, 28, 42, 43, 44, 45, 49, 50, 51, 52, 227, 228, 229, 397, 398, 399, 400, 401, 402, 403, 404, 405, 406, 407, 408, 409, 410, 411, 412, 413, 414, 415, 416, 417, 418, 419, 420, 18, 421, 422, 423, 424, 425, 426, 427, 13, 428, 429, 15, 16, 430, 431, 432, 433, 456, 457, 458, 459, 460, 461, 462, 463, 464, 465, 466, 467, 468, 469, 470, 471, 472, 473, 474, 475, 476, 477, 478, 479, 480, 481, 482, 483, 484, 485, 486, 487, 488, 489, 490, 491, 492, 493, 494, 495, 496, 497, 498, 499, 500, 501, 502, 503, 504, 505, 506, 507, 508, 509, 510, 511, 512, 513, 514, 515, 516, 517, 518] (by decide +kernel) (by decide +kernel)
set_option maxRecDepth 20000 in
theorem gX0_chooseByCosts_X0_useBest : GoodIn wsX0_chooseByCosts (wsV RX0 465 RX0 yX0_useBest wsX0_useBest) := goodIn_app (goodIn_of _ (by decide +kernel)) ggX0_chooseByCosts_X0_useBest
set_option maxRecDepth 20000 in
theorem ggX0_chooseByCosts_X9_mayBeSixteen : GoodIn wsX0_chooseByCosts wsX9_mayBeSixteen := goodIn_r _ [259] (by decide +kernel) (by decide +kernel)
set_option maxRecDepth 20000 in
theorem gX0_chooseByCosts_X9_mayBeSixteen : GoodIn wsX0_chooseByCosts (va_wsS RX0 346 yX9_mayBeSixteen wsX9_mayBeSixteen) := goodIn_app (goodIn_of _ (by decide +kernel)) ggX0_chooseByCosts_X9_mayBeSixteen
set_option maxRecDepth 20000 in
theorem ggX0_chooseByCosts_X6_predictSixteen : GoodIn wsX0_chooseByCosts wsX6_predictSixteen := goodIn_r _ [263, 63, 80, 64, 132, 264, 140, 141, 61, 142, 265, 266, 267, 268, 269, 270, 271, 272, 273, 274, 275, 276, 477, 478, 479, 480, 481, 482, 483, 484, 485, 486, 487, 488, 489, 490, 491, 492, 493, 494, 495, 496, 501, 502, 503, 504, 505, 506, 507, 508, 509, 510, 511, 512, 513, 514, 515, 516, 517, 518, 519, 520, 521, 522, 523, 524, 525, 526, 527, 528, 529, 530, 531, 532] (by decide +kernel) (by decide +kernel)
set_option maxRecDepth 20000 in
theorem gX0_chooseByCosts_X6_predictSixteen : GoodIn wsX0_chooseByCosts (wsV RX0 448 RX6 yX6_predictSixteen wsX6_predictSixteen) := goodIn_app (goodIn_of _ (by decide +kernel)) ggX0_chooseByCosts_X6_predictSixteen
set_option maxRecDepth 20000 in
theorem ggX0_chooseByCosts_X6_differences : GoodIn wsX0_chooseByCosts wsX6_differences := goodIn_r _ [139, 63, 132, 69, 24, 21, 25, 70, 27, 28, 140, 141, 61, 142, 64, 477, 478, 479, 480, 481, 482, 483, 484, 485, 486, 487, 488, 489, 490, 491, 492, 493, 494, 495, 496, 519, 520, 521, 522, 523, 524, 525, 526, 527, 528, 529, 530, 531, 532, 501, 502, 503, 504, 505, 506, 507, 508, 509, 510, 511, 512, 513, 514, 515, 516, 517, 518] (by decide +kernel) (by decide +kernel)
set_option maxRecDepth 20000 in
theorem gX0_chooseByCosts_X6_differences : GoodIn wsX0_chooseByCosts (wsV RX0 452 RX6 yX6_differences wsX6_differences) := goodIn_app (goodIn_of _ (by decide +kernel)) ggX0_chooseByCosts_X6_differences
set_option maxRecDepth 20000 in
theorem ggX0_chooseByCosts_X0_priceOfBit : GoodIn wsX0_chooseByCosts wsX0_priceOfBit := goodIn_r _ [146, 1, 2, 3, 456, 457, 458, 459, 460, 461, 462, 463, 464, 465, 466, 467, 468, 469, 470, 471, 472, 473, 474, 475, 476, 477, 478, 479, 480, 481, 482, 483, 484, 485, 486, 487, 488, 489, 490, 491, 492, 493, 494, 495, 496, 497, 498, 499, 500] (by decide +kernel) (by decide +kernel)
set_option maxRecDepth 20000 in
theorem gX0_chooseByCosts_X0_priceOfBit : GoodIn wsX0_chooseByCosts (wsV RX0 456 RX0 yX0_priceOfBit wsX0_priceOfBit) := goodIn_app (goodIn_of _ (by decide +kernel)) ggX0_chooseByCosts_X0_priceOfBit
set_option maxRecDepth 20000 in
theorem ggX0_chooseByCosts_X0_searchList : GoodIn wsX0_chooseByCosts wsX0_searchList := goodIn_r _ [14, 4, 5, 1, 2, 3, 15, 16, 17, 18, 19, 20, 21, 22, 23, 24, 25, 26, 27, 28, 29, 30, 31, 32, 33, 34, 35, 36, 37, 38, 39, 40, 41, 42, 43, 44, 45, 46, 47, 48, 49, 50, 51, 52, 53, 54, 55, 13, 56, 6, 57, 7, 58, 59, 60, 61, 62, 63, 64, 65, 66, 67, 68, 69, 70, 71, 72, 73, 74, 75, 76, 77, 78, 79, 80, 81, 82, 83, 84, 85, 86, 87, 88, 89, 90, 91, 92, 93, 94, 95, 96, 97, 98, 99, 100, 101, 102, 103, 104, 105, 106, 107, 108, 109, 110, 111, 112, 113, 114, 115, 116, 117, 118, 119, 120, 121, 122, 123, 124, 125, 126, 127, 128, 129, 130, 131, 132, 133, 134, 135, 136, 137, 138, 139, 140, 141, 142, 143, 144, 145, 146, 147, 148, 149, 150, 151, 152, 153, 154, 155, 156, 157, 158, 159, 160, 161, 162, 163, 164, 165, 456, 457, 458, 459, 460, 461, 462, 463, 464, 465, 466, 467, 468, 469, 470, 471, 472, 473, 474, 475, 476, 477, 478, 479, 480, 481, 482, 483, 484, 485, 486, 487, 488, 489, 490, 491, 492, 493, 494, 495, 496, 497, 498, 499, 500, 501, 502, 503, 504, 505, 506, 507, 508, 509, 510, 511, 512, 513, 514, 515, 516, 517, 518, 519, 520, 521, 522, 523, 524, 525, 526, 527, 528, 529, 530, 531, 532] (by decide +kernel) (by decide +kernel)
set_option maxRecDepth 20000 in
theorem gX0_chooseByCosts_X0_searchList : GoodIn wsX0_chooseByCosts (wsV RX0 436 RX0 yX0_searchList wsX0_searchList) := goodIn_app (goodIn_of _ (by decide +kernel)) ggX0_chooseByCosts_X0_searchList
set_option maxRecDepth 20000 in
theorem ggX0_chooseByCosts_X0_costOfBoth : GoodIn wsX0_chooseByCosts wsX0_costOfBoth := goodIn_r _ [173, 4, 5, 6, 57, 174, 175, 176, 177, 1, 7, 58, 59, 60, 61, 62, 63, 64, 65, 66, 67, 68, 69, 24, 21, 25, 70, 27, 28, 71, 72, 73, 74, 75, 76, 77, 78, 79, 80, 81, 82, 83, 84, 85, 86, 87, 88, 89, 90, 91, 92, 93, 94, 95, 96, 97, 98, 99, 100, 101, 102, 103, 104, 105, 106, 107, 108, 109, 110, 111, 112, 113, 114, 115, 116, 117, 118, 119, 120, 121, 122, 123, 124, 125, 126, 127, 128, 129, 130, 131, 132, 133, 134, 135, 136, 137, 138, 139, 140, 141, 142, 143, 144, 145, 13, 146, 2, 3, 456, 457, 458, 459, 460, 461, 462, 463, 464, 465, 466, 467, 468, 469, 470, 471, 472, 473, 474, 475, 476, 519, 520, 521, 522, 523, 524, 525, 526, 527, 528, 529, 530, 531, 532, 477, 478, 479, 480, 481, 482, 483, 484, 485, 486, 487, 488, 489, 490, 491, 492, 493, 494, 495, 496, 501, 502, 503, 504, 505, 506, 507, 508, 509, 510, 511, 512, 513, 514, 515, 516, 517, 518, 497, 498, 499, 500] (by decide +kernel) (by decide +kernel)
set_option maxRecDepth 20000 in
theorem gX0_chooseByCosts_X0_costOfBoth : GoodIn wsX0_chooseByCosts (wsV RX0 442 RX0 yX0_costOfBoth wsX0_costOfBoth) := goodIn_app (goodIn_of _ (by decide +kernel)) ggX0_chooseByCosts_X0_costOfBoth
set_option maxRecDepth 20000 in
theorem ggX0_chooseByCosts_X0_costOfDirect : GoodIn wsX0_chooseByCosts wsX0_costOfDirect := goodIn_r _ [181, 1, 5, 6, 7, 182, 183, 184, 21, 185, 186, 187, 188, 47, 48, 189, 190, 191, 192, 193, 46, 194, 195, 33, 196, 197, 198, 199, 200, 201, 202, 203, 204, 205, 206, 207, 208, 209, 210, 211, 212, 213, 214, 215, 216, 115, 116, 217, 118, 119, 120, 121, 122, 123, 218, 219, 220, 221, 41, 222, 223, 224, 225, 29, 30, 31, 32, 34, 35, 36, 37, 38, 39, 40, 226, 19, 20, 22, 23, 24, 25, 26, 27, 28, 42, 43, 44, 45, 49, 50, 51, 52, 227, 228, 229, 230, 231, 232, 61, 233, 63, 234, 235, 236, 237, 238, 239, 240, 241, 242, 243, 65, 244, 245, 246, 247, 59, 60, 62, 64, 66, 67, 68, 69, 70, 71, 72, 73, 74, 75, 76, 77, 78, 79, 80, 81, 82, 83, 84, 85, 86, 87, 88, 89, 90, 91, 92, 93, 94, 95, 96, 97, 98, 99, 100, 101, 102, 103, 104, 105, 106, 107, 108, 109, 110, 111, 112, 113, 114, 117, 124, 125, 126, 127, 128, 129, 130, 131, 132, 133, 134, 135, 136, 137, 138, 139, 140, 141, 142, 456, 457, 458, 459, 460, 461, 462, 463, 464, 465, 466, 467, 468, 469, 470, 471, 472, 473, 474, 475, 476, 477, 478, 479, 480, 481, 482, 483, 484, 485, 486, 487, 488, 489, 490, 491, 492, 493, 494, 495, 496, 497, 498, 499, 500, 501, 502, 503, 504, 505, 506, 507, 508, 509, 510, 511, 512, 513, 514, 515, 516, 517, 518, 519, 520, 521, 522, 523, 524, 525, 526, 527, 528, 529, 530, 531, 532] (by decide +kernel) (by decide +kernel)
set_option maxRecDepth 20000 in
theorem gX0_chooseByCosts_X0_costOfDirect : GoodIn wsX0_chooseByCosts (wsV RX0 445 RX0 yX0_costOfDirect wsX0_costOfDirect) := goodIn_app (goodIn_of _ (by decide +kernel)) ggX0_chooseByCosts_X0_costOfDirect
set_option maxRecDepth 20000 in
theorem dX0_chooseByCosts_0 : decode cX0_chooseByCosts 0 = .ok (.aload_n 0, 1) := by decide +kernel
theorem dX0_chooseByCosts_1 : decode cX0_chooseByCosts 1 = .ok (.getfield 36, 3) := by decide +kernel
theorem dX0_chooseByCosts_4 : decode cX0_chooseByCosts 4 = .ok (.getfield 81, 3) := by decide +kernel
theorem dX0_chooseByCosts_7 : decode cX0_chooseByCosts 7 = .ok (.getfield 252, 3) := by decide +kernel
theorem dX0_chooseByCosts_10 : decode cX0_chooseByCosts 10 = .ok (.iconst 1, 1) := by decide +kernel
theorem dX0_chooseByCosts_11 : decode cX0_chooseByCosts 11 = .ok (.iaload, 1) := by decide +kernel
theorem dX0_chooseByCosts_12 : decode cX0_chooseByCosts 12 = .ok (.istore_n 2, 1) := by decide +kernel
theorem dX0_chooseByCosts_13 : decode cX0_chooseByCosts 13 = .ok (.aload_n 0, 1) := by decide +kernel
theorem dX0_chooseByCosts_14 : decode cX0_chooseByCosts 14 = .ok (.getfield 75, 3) := by decide +kernel
theorem dX0_chooseByCosts_17 : decode cX0_chooseByCosts 17 = .ok (.bipush 10, 2) := by decide +kernel
theorem dX0_chooseByCosts_19 : decode cX0_chooseByCosts 19 = .ok (.ldc_w 435, 3) := by decide +kernel
theorem dX0_chooseByCosts_22 : decode cX0_chooseByCosts 22 = .ok (.iastore, 1) := by decide +kernel
theorem dX0_chooseByCosts_23 : decode cX0_chooseByCosts 23 = .ok (.aload_n 0, 1) := by decide +kernel
theorem dX0_chooseByCosts_24 : decode cX0_chooseByCosts 24 = .ok (.getfield 75, 3) := by decide +kernel
theorem dX0_chooseByCosts_27 : decode cX0_chooseByCosts 27 = .ok (.bipush 11, 2) := by decide +kernel
theorem dX0_chooseByCosts_29 : decode cX0_chooseByCosts 29 = .ok (.iconst 1, 1) := by decide +kernel
theorem dX0_chooseByCosts_30 : decode cX0_chooseByCosts 30 = .ok (.iastore, 1) := by decide +kernel
theorem dX0_chooseByCosts_31 : decode cX0_chooseByCosts 31 = .ok (.aload_n 0, 1) := by decide +kernel
theorem dX0_chooseByCosts_32 : decode cX0_chooseByCosts 32 = .ok (.getfield 75, 3) := by decide +kernel
theorem dX0_chooseByCosts_35 : decode cX0_chooseByCosts 35 = .ok (.bipush 12, 2) := by decide +kernel
theorem dX0_chooseByCosts_37 : decode cX0_chooseByCosts 37 = .ok (.iconst 2, 1) := by decide +kernel
theorem dX0_chooseByCosts_38 : decode cX0_chooseByCosts 38 = .ok (.iastore, 1) := by decide +kernel
theorem dX0_chooseByCosts_39 : decode cX0_chooseByCosts 39 = .ok (.iload_n 2, 1) := by decide +kernel
theorem dX0_chooseByCosts_40 : decode cX0_chooseByCosts 40 = .ok (.iconst 2, 1) := by decide +kernel
theorem dX0_chooseByCosts_41 : decode cX0_chooseByCosts 41 = .ok (.if_icmp .eq 29, 3) := by decide +kernel
theorem dX0_chooseByCosts_44 : decode cX0_chooseByCosts 44 = .ok (.aload_n 0, 1) := by decide +kernel
theorem dX0_chooseByCosts_45 : decode cX0_chooseByCosts 45 = .ok (.iload_n 1, 1) := by decide +kernel
theorem dX0_chooseByCosts_46 : decode cX0_chooseByCosts 46 = .ok (.iconst 0, 1) := by decide +kernel
theorem dX0_chooseByCosts_47 : decode cX0_chooseByCosts 47 = .ok (.invokevirtual 436, 3) := by decide +kernel
theorem dX0_chooseByCosts_50 : decode cX0_chooseByCosts 50 = .ok (.aload_n 0, 1) := by decide +kernel
theorem dX0_chooseByCosts_51 : decode cX0_chooseByCosts 51 = .ok (.aload_n 0, 1) := by decide +kernel
theorem dX0_chooseByCosts_52 : decode cX0_chooseByCosts 52 = .ok (.getfield 75, 3) := by decide +kernel
theorem dX0_chooseByCosts_55 : decode cX0_chooseByCosts 55 = .ok (.iconst 0, 1) := by decide +kernel
theorem dX0_chooseByCosts_56 : decode cX0_chooseByCosts 56 = .ok (.iaload, 1) := by decide +kernel
theorem dX0_chooseByCosts_57 : decode cX0_chooseByCosts 57 = .ok (.iconst 3, 1) := by decide +kernel
theorem dX0_chooseByCosts_58 : decode cX0_chooseByCosts 58 = .ok (.iload_n 2, 1) := by decide +kernel
theorem dX0_chooseByCosts_59 : decode cX0_chooseByCosts 59 = .ok (.ifCond .ne 7, 3) := by decide +kernel
theorem dX0_chooseByCosts_62 : decode cX0_chooseByCosts 62 = .ok (.iconst 0, 1) := by decide +kernel
theorem dX0_chooseByCosts_63 : decode cX0_chooseByCosts 63 = .ok (.goto 4, 3) := by decide +kernel
theorem dX0_chooseByCosts_66 : decode cX0_chooseByCosts 66 = .ok (.iconst 1, 1) := by decide +kernel
theorem dX0_chooseByCosts_67 : decode cX0_chooseByCosts 67 = .ok (.invokevirtual 439, 3) := by decide +kernel
theorem dX0_chooseByCosts_70 : decode cX0_chooseByCosts 70 = .ok (.iload_n 2, 1) := by decide +kernel
theorem dX0_chooseByCosts_71 : decode cX0_chooseByCosts 71 = .ok (.iconst 1, 1) := by decide +kernel
theorem dX0_chooseByCosts_72 : decode cX0_chooseByCosts 72 = .ok (.if_icmp .ne 43, 3) := by decide +kernel
theorem dX0_chooseByCosts_75 : decode cX0_chooseByCosts 75 = .ok (.aload_n 0, 1) := by decide +kernel
theorem dX0_chooseByCosts_76 : decode cX0_chooseByCosts 76 = .ok (.iload_n 1, 1) := by decide +kernel
theorem dX0_chooseByCosts_77 : decode cX0_chooseByCosts 77 = .ok (.iconst 1, 1) := by decide +kernel
theorem dX0_chooseByCosts_78 : decode cX0_chooseByCosts 78 = .ok (.invokevirtual 436, 3) := by decide +kernel
theorem dX0_chooseByCosts_81 : decode cX0_chooseByCosts 81 = .ok (.aload_n 0, 1) := by decide +kernel
theorem dX0_chooseByCosts_82 : decode cX0_chooseByCosts 82 = .ok (.aload_n 0, 1) := by decide +kernel
theorem dX0_chooseByCosts_83 : decode cX0_chooseByCosts 83 = .ok (.getfield 75, 3) := by decide +kernel
theorem dX0_chooseByCosts_86 : decode cX0_chooseByCosts 86 = .ok (.iconst 5, 1) := by decide +kernel
theorem dX0_chooseByCosts_87 : decode cX0_chooseByCosts 87 = .ok (.iaload, 1) := by decide +kernel
theorem dX0_chooseByCosts_88 : decode cX0_chooseByCosts 88 = .ok (.iconst 3, 1) := by decide +kernel
theorem dX0_chooseByCosts_89 : decode cX0_chooseByCosts 89 = .ok (.iconst 2, 1) := by decide +kernel
theorem dX0_chooseByCosts_90 : decode cX0_chooseByCosts 90 = .ok (.invokevirtual 439, 3) := by decide +kernel
theorem dX0_chooseByCosts_93 : decode cX0_chooseByCosts 93 = .ok (.aload_n 0, 1) := by decide +kernel
theorem dX0_chooseByCosts_94 : decode cX0_chooseByCosts 94 = .ok (.aload_n 0, 1) := by decide +kernel
theorem dX0_chooseByCosts_95 : decode cX0_chooseByCosts 95 = .ok (.iload_n 1, 1) := by decide +kernel
theorem dX0_chooseByCosts_96 : decode cX0_chooseByCosts 96 = .ok (.invokevirtual 442, 3) := by decide +kernel
theorem dX0_chooseByCosts_99 : decode cX0_chooseByCosts 99 = .ok (.iconst 3, 1) := by decide +kernel
theorem dX0_chooseByCosts_100 : decode cX0_chooseByCosts 100 = .ok (.iconst 3, 1) := by decide +kernel
theorem dX0_chooseByCosts_101 : decode cX0_chooseByCosts 101 = .ok (.invokevirtual 439, 3) := by decide +kernel
theorem dX0_chooseByCosts_104 : decode cX0_chooseByCosts 104 = .ok (.aload_n 0, 1) := by decide +kernel
theorem dX0_chooseByCosts_105 : decode cX0_chooseByCosts 105 = .ok (.aload_n 0, 1) := by decide +kernel
theorem dX0_chooseByCosts_106 : decode cX0_chooseByCosts 106 = .ok (.iload_n 1, 1) := by decide +kernel
theorem dX0_chooseByCosts_107 : decode cX0_chooseByCosts 107 = .ok (.invokevirtual 445, 3) := by decide +kernel
theorem dX0_chooseByCosts_110 : decode cX0_chooseByCosts 110 = .ok (.iconst 3, 1) := by decide +kernel
theorem dX0_chooseByCosts_111 : decode cX0_chooseByCosts 111 = .ok (.iconst 0, 1) := by decide +kernel
theorem dX0_chooseByCosts_112 : decode cX0_chooseByCosts 112 = .ok (.invokevirtual 439, 3) := by decide +kernel
theorem dX0_chooseByCosts_115 : decode cX0_chooseByCosts 115 = .ok (.aload_n 0, 1) := by decide +kernel
theorem dX0_chooseByCosts_116 : decode cX0_chooseByCosts 116 = .ok (.getfield 36, 3) := by decide +kernel
theorem dX0_chooseByCosts_119 : decode cX0_chooseByCosts 119 = .ok (.iload_n 1, 1) := by decide +kernel
theorem dX0_chooseByCosts_120 : decode cX0_chooseByCosts 120 = .ok (.invokevirtual 353, 3) := by decide +kernel
theorem dX0_chooseByCosts_123 : decode cX0_chooseByCosts 123 = .ok (.istore_n 3, 1) := by decide +kernel
theorem dX0_chooseByCosts_124 : decode cX0_chooseByCosts 124 = .ok (.iconst 0, 1) := by decide +kernel
theorem dX0_chooseByCosts_125 : decode cX0_chooseByCosts 125 = .ok (.istore 4, 2) := by decide +kernel
theorem dX0_chooseByCosts_127 : decode cX0_chooseByCosts 127 = .ok (.iload 4, 2) := by decide +kernel
theorem dX0_chooseByCosts_129 : decode cX0_chooseByCosts 129 = .ok (.iconst 4, 1) := by decide +kernel
theorem dX0_chooseByCosts_130 : decode cX0_chooseByCosts 130 = .ok (.if_icmp .ge 69, 3) := by decide +kernel
theorem dX0_chooseByCosts_133 : decode cX0_chooseByCosts 133 = .ok (.iload 4, 2) := by decide +kernel
theorem dX0_chooseByCosts_135 : decode cX0_chooseByCosts 135 = .ok (.iload_n 3, 1) := by decide +kernel
theorem dX0_chooseByCosts_136 : decode cX0_chooseByCosts 136 = .ok (.invokestatic 346, 3) := by decide +kernel
theorem dX0_chooseByCosts_139 : decode cX0_chooseByCosts 139 = .ok (.ifCond .eq 54, 3) := by decide +kernel
theorem dX0_chooseByCosts_142 : decode cX0_chooseByCosts 142 = .ok (.aload_n 0, 1) := by decide +kernel
theorem dX0_chooseByCosts_143 : decode cX0_chooseByCosts 143 = .ok (.getfield 43, 3) := by decide +kernel
theorem dX0_chooseByCosts_146 : decode cX0_chooseByCosts 146 = .ok (.aload_n 0, 1) := by decide +kernel
theorem dX0_chooseByCosts_147 : decode cX0_chooseByCosts 147 = .ok (.getfield 36, 3) := by decide +kernel
theorem dX0_chooseByCosts_150 : decode cX0_chooseByCosts 150 = .ok (.iload_n 1, 1) := by decide +kernel
theorem dX0_chooseByCosts_151 : decode cX0_chooseByCosts 151 = .ok (.iload 4, 2) := by decide +kernel
theorem dX0_chooseByCosts_153 : decode cX0_chooseByCosts 153 = .ok (.iload_n 3, 1) := by decide +kernel
theorem dX0_chooseByCosts_154 : decode cX0_chooseByCosts 154 = .ok (.invokevirtual 448, 3) := by decide +kernel
theorem dX0_chooseByCosts_157 : decode cX0_chooseByCosts 157 = .ok (.aload_n 0, 1) := by decide +kernel
theorem dX0_chooseByCosts_158 : decode cX0_chooseByCosts 158 = .ok (.aload_n 0, 1) := by decide +kernel
theorem dX0_chooseByCosts_159 : decode cX0_chooseByCosts 159 = .ok (.getfield 43, 3) := by decide +kernel
theorem dX0_chooseByCosts_162 : decode cX0_chooseByCosts 162 = .ok (.aload_n 0, 1) := by decide +kernel
theorem dX0_chooseByCosts_163 : decode cX0_chooseByCosts 163 = .ok (.getfield 36, 3) := by decide +kernel
theorem dX0_chooseByCosts_166 : decode cX0_chooseByCosts 166 = .ok (.aload_n 0, 1) := by decide +kernel
theorem dX0_chooseByCosts_167 : decode cX0_chooseByCosts 167 = .ok (.getfield 69, 3) := by decide +kernel
theorem dX0_chooseByCosts_170 : decode cX0_chooseByCosts 170 = .ok (.iconst 0, 1) := by decide +kernel
theorem dX0_chooseByCosts_171 : decode cX0_chooseByCosts 171 = .ok (.aaload, 1) := by decide +kernel
theorem dX0_chooseByCosts_172 : decode cX0_chooseByCosts 172 = .ok (.iload_n 1, 1) := by decide +kernel
theorem dX0_chooseByCosts_173 : decode cX0_chooseByCosts 173 = .ok (.iconst 0, 1) := by decide +kernel
theorem dX0_chooseByCosts_174 : decode cX0_chooseByCosts 174 = .ok (.bipush 16, 2) := by decide +kernel
theorem dX0_chooseByCosts_176 : decode cX0_chooseByCosts 176 = .ok (.invokevirtual 452, 3) := by decide +kernel
theorem dX0_chooseByCosts_179 : decode cX0_chooseByCosts 179 = .ok (.bipush 8, 2) := by decide +kernel
theorem dX0_chooseByCosts_181 : decode cX0_chooseByCosts 181 = .ok (.aload_n 0, 1) := by decide +kernel
theorem dX0_chooseByCosts_182 : decode cX0_chooseByCosts 182 = .ok (.invokevirtual 456, 3) := by decide +kernel
theorem dX0_chooseByCosts_185 : decode cX0_chooseByCosts 185 = .ok (.imul, 1) := by decide +kernel
theorem dX0_chooseByCosts_186 : decode cX0_chooseByCosts 186 = .ok (.iadd, 1) := by decide +kernel
theorem dX0_chooseByCosts_187 : decode cX0_chooseByCosts 187 = .ok (.iconst 1, 1) := by decide +kernel
theorem dX0_chooseByCosts_188 : decode cX0_chooseByCosts 188 = .ok (.iload 4, 2) := by decide +kernel
theorem dX0_chooseByCosts_190 : decode cX0_chooseByCosts 190 = .ok (.invokevirtual 439, 3) := by decide +kernel
theorem dX0_chooseByCosts_193 : decode cX0_chooseByCosts 193 = .ok (.iinc 4 1, 3) := by decide +kernel
theorem dX0_chooseByCosts_196 : decode cX0_chooseByCosts 196 = .ok (.goto (-69), 3) := by decide +kernel
theorem dX0_chooseByCosts_199 : decode cX0_chooseByCosts 199 = .ok (.aload_n 0, 1) := by decide +kernel
theorem dX0_chooseByCosts_200 : decode cX0_chooseByCosts 200 = .ok (.aload_n 0, 1) := by decide +kernel
theorem dX0_chooseByCosts_201 : decode cX0_chooseByCosts 201 = .ok (.iload_n 1, 1) := by decide +kernel
theorem dX0_chooseByCosts_202 : decode cX0_chooseByCosts 202 = .ok (.iload_n 3, 1) := by decide +kernel
theorem dX0_chooseByCosts_203 : decode cX0_chooseByCosts 203 = .ok (.invokevirtual 459, 3) := by decide +kernel
theorem dX0_chooseByCosts_206 : decode cX0_chooseByCosts 206 = .ok (.iconst 0, 1) := by decide +kernel
theorem dX0_chooseByCosts_207 : decode cX0_chooseByCosts 207 = .ok (.iconst 0, 1) := by decide +kernel
theorem dX0_chooseByCosts_208 : decode cX0_chooseByCosts 208 = .ok (.invokevirtual 439, 3) := by decide +kernel
theorem dX0_chooseByCosts_211 : decode cX0_chooseByCosts 211 = .ok (.aload_n 0, 1) := by decide +kernel
theorem dX0_chooseByCosts_212 : decode cX0_chooseByCosts 212 = .ok (.getfield 36, 3) := by decide +kernel
theorem dX0_chooseByCosts_215 : decode cX0_chooseByCosts 215 = .ok (.iload_n 1, 1) := by decide +kernel
theorem dX0_chooseByCosts_216 : decode cX0_chooseByCosts 216 = .ok (.invokevirtual 462, 3) := by decide +kernel
theorem dX0_chooseByCosts_219 : decode cX0_chooseByCosts 219 = .ok (.aload_n 0, 1) := by decide +kernel
theorem dX0_chooseByCosts_220 : decode cX0_chooseByCosts 220 = .ok (.getfield 36, 3) := by decide +kernel
theorem dX0_chooseByCosts_223 : decode cX0_chooseByCosts 223 = .ok (.getfield 216, 3) := by decide +kernel
theorem dX0_chooseByCosts_226 : decode cX0_chooseByCosts 226 = .ok (.bipush 8, 2) := by decide +kernel
theorem dX0_chooseByCosts_228 : decode cX0_chooseByCosts 228 = .ok (.iload_n 1, 1) := by decide +kernel
theorem dX0_chooseByCosts_229 : decode cX0_chooseByCosts 229 = .ok (.imul, 1) := by decide +kernel
theorem dX0_chooseByCosts_230 : decode cX0_chooseByCosts 230 = .ok (.iconst 0, 1) := by decide +kernel
theorem dX0_chooseByCosts_231 : decode cX0_chooseByCosts 231 = .ok (.iadd, 1) := by decide +kernel
theorem dX0_chooseByCosts_232 : decode cX0_chooseByCosts 232 = .ok (.aload_n 0, 1) := by decide +kernel
theorem dX0_chooseByCosts_233 : decode cX0_chooseByCosts 233 = .ok (.getfield 75, 3) := by decide +kernel
theorem dX0_chooseByCosts_236 : decode cX0_chooseByCosts 236 = .ok (.bipush 11, 2) := by decide +kernel
theorem dX0_chooseByCosts_238 : decode cX0_chooseByCosts 238 = .ok (.iaload, 1) := by decide +kernel
theorem dX0_chooseByCosts_239 : decode cX0_chooseByCosts 239 = .ok (.iastore, 1) := by decide +kernel
theorem dX0_chooseByCosts_240 : decode cX0_chooseByCosts 240 = .ok (.aload_n 0, 1) := by decide +kernel
theorem dX0_chooseByCosts_241 : decode cX0_chooseByCosts 241 = .ok (.getfield 75, 3) := by decide +kernel
theorem dX0_chooseByCosts_244 : decode cX0_chooseByCosts 244 = .ok (.bipush 11, 2) := by decide +kernel
theorem dX0_chooseByCosts_246 : decode cX0_chooseByCosts 246 = .ok (.iaload, 1) := by decide +kernel
theorem dX0_chooseByCosts_247 : decode cX0_chooseByCosts 247 = .ok (.iconst 3, 1) := by decide +kernel
theorem dX0_chooseByCosts_248 : decode cX0_chooseByCosts 248 = .ok (.if_icmp .ne 19, 3) := by decide +kernel
theorem dX0_chooseByCosts_251 : decode cX0_chooseByCosts 251 = .ok (.aload_n 0, 1) := by decide +kernel
theorem dX0_chooseByCosts_252 : decode cX0_chooseByCosts 252 = .ok (.iload_n 1, 1) := by decide +kernel
theorem dX0_chooseByCosts_253 : decode cX0_chooseByCosts 253 = .ok (.iload_n 2, 1) := by decide +kernel
theorem dX0_chooseByCosts_254 : decode cX0_chooseByCosts 254 = .ok (.aload_n 0, 1) := by decide +kernel
theorem dX0_chooseByCosts_255 : decode cX0_chooseByCosts 255 = .ok (.getfield 75, 3) := by decide +kernel
theorem dX0_chooseByCosts_258 : decode cX0_chooseByCosts 258 = .ok (.bipush 12, 2) := by decide +kernel
theorem dX0_chooseByCosts_260 : decode cX0_chooseByCosts 260 = .ok (.iaload, 1) := by decide +kernel
theorem dX0_chooseByCosts_261 : decode cX0_chooseByCosts 261 = .ok (.invokevirtual 465, 3) := by decide +kernel
theorem dX0_chooseByCosts_264 : decode cX0_chooseByCosts 264 = .ok (.goto 70, 3) := by decide +kernel
theorem dX0_chooseByCosts_267 : decode cX0_chooseByCosts 267 = .ok (.iconst 0, 1) := by decide +kernel
theorem dX0_chooseByCosts_268 : decode cX0_chooseByCosts 268 = .ok (.istore 4, 2) := by decide +kernel
theorem dX0_chooseByCosts_270 : decode cX0_chooseByCosts 270 = .ok (.iload 4, 2) := by decide +kernel
theorem dX0_chooseByCosts_272 : decode cX0_chooseByCosts 272 = .ok (.bipush 16, 2) := by decide +kernel
theorem dX0_chooseByCosts_274 : decode cX0_chooseByCosts 274 = .ok (.if_icmp .ge 54, 3) := by decide +kernel
theorem dX0_chooseByCosts_277 : decode cX0_chooseByCosts 277 = .ok (.aload_n 0, 1) := by decide +kernel
theorem dX0_chooseByCosts_278 : decode cX0_chooseByCosts 278 = .ok (.getfield 36, 3) := by decide +kernel
theorem dX0_chooseByCosts_281 : decode cX0_chooseByCosts 281 = .ok (.getfield 356, 3) := by decide +kernel
theorem dX0_chooseByCosts_284 : decode cX0_chooseByCosts 284 = .ok (.bipush 16, 2) := by decide +kernel
theorem dX0_chooseByCosts_286 : decode cX0_chooseByCosts 286 = .ok (.iload_n 1, 1) := by decide +kernel
theorem dX0_chooseByCosts_287 : decode cX0_chooseByCosts 287 = .ok (.imul, 1) := by decide +kernel
theorem dX0_chooseByCosts_288 : decode cX0_chooseByCosts 288 = .ok (.iload 4, 2) := by decide +kernel
theorem dX0_chooseByCosts_290 : decode cX0_chooseByCosts 290 = .ok (.iadd, 1) := by decide +kernel
theorem dX0_chooseByCosts_291 : decode cX0_chooseByCosts 291 = .ok (.aload_n 0, 1) := by decide +kernel
theorem dX0_chooseByCosts_292 : decode cX0_chooseByCosts 292 = .ok (.getfield 75, 3) := by decide +kernel
theorem dX0_chooseByCosts_295 : decode cX0_chooseByCosts 295 = .ok (.bipush 11, 2) := by decide +kernel
theorem dX0_chooseByCosts_297 : decode cX0_chooseByCosts 297 = .ok (.iaload, 1) := by decide +kernel
theorem dX0_chooseByCosts_298 : decode cX0_chooseByCosts 298 = .ok (.ifCond .ne 16, 3) := by decide +kernel
theorem dX0_chooseByCosts_301 : decode cX0_chooseByCosts 301 = .ok (.aload_n 0, 1) := by decide +kernel
theorem dX0_chooseByCosts_302 : decode cX0_chooseByCosts 302 = .ok (.getfield 75, 3) := by decide +kernel
theorem dX0_chooseByCosts_305 : decode cX0_chooseByCosts 305 = .ok (.bipush 13, 2) := by decide +kernel
theorem dX0_chooseByCosts_307 : decode cX0_chooseByCosts 307 = .ok (.iload 4, 2) := by decide +kernel
theorem dX0_chooseByCosts_309 : decode cX0_chooseByCosts 309 = .ok (.iadd, 1) := by decide +kernel
theorem dX0_chooseByCosts_310 : decode cX0_chooseByCosts 310 = .ok (.iaload, 1) := by decide +kernel
theorem dX0_chooseByCosts_311 : decode cX0_chooseByCosts 311 = .ok (.goto 10, 3) := by decide +kernel
theorem dX0_chooseByCosts_314 : decode cX0_chooseByCosts 314 = .ok (.aload_n 0, 1) := by decide +kernel
theorem dX0_chooseByCosts_315 : decode cX0_chooseByCosts 315 = .ok (.getfield 75, 3) := by decide +kernel
theorem dX0_chooseByCosts_318 : decode cX0_chooseByCosts 318 = .ok (.bipush 12, 2) := by decide +kernel
theorem dX0_chooseByCosts_320 : decode cX0_chooseByCosts 320 = .ok (.iaload, 1) := by decide +kernel
theorem dX0_chooseByCosts_321 : decode cX0_chooseByCosts 321 = .ok (.iastore, 1) := by decide +kernel
theorem dX0_chooseByCosts_322 : decode cX0_chooseByCosts 322 = .ok (.iinc 4 1, 3) := by decide +kernel
theorem dX0_chooseByCosts_325 : decode cX0_chooseByCosts 325 = .ok (.goto (-55), 3) := by decide +kernel
theorem dX0_chooseByCosts_328 : decode cX0_chooseByCosts 328 = .ok (.aload_n 0, 1) := by decide +kernel
theorem dX0_chooseByCosts_329 : decode cX0_chooseByCosts 329 = .ok (.iload_n 1, 1) := by decide +kernel
theorem dX0_chooseByCosts_330 : decode cX0_chooseByCosts 330 = .ok (.iload_n 3, 1) := by decide +kernel
theorem dX0_chooseByCosts_331 : decode cX0_chooseByCosts 331 = .ok (.invokevirtual 468, 3) := by decide +kernel
theorem dX0_chooseByCosts_334 : decode cX0_chooseByCosts 334 = .ok (.return_, 1) := by decide +kernel
def FX0_chooseByCosts (G : GG) (M : DD) (a : Nat) (p0 : Int32) : Option (DD) :=
  dr G 9 ((M.2 a 3)) fun b2 =>
  dr G 3 ((M.2 b2 1)) fun b3 =>
  dr G 13 ((M.2 b3 0)) fun b4 =>
  chk (¬ (((1 : Int32)) < 0 ∨ G.2.2 b4 ≤ ((1 : Int32)).toNatClampNeg)) <|
  ltt (M.1 b4 ((1 : Int32)).toNatClampNeg) fun x5 =>
  dr G 13 ((M.2 a 20)) fun b6 =>
  chk (¬ (((10 : Int32)) < 0 ∨ G.2.2 b6 ≤ ((10 : Int32)).toNatClampNeg)) <|
  ltt (uI M b6 ((10 : Int32)).toNatClampNeg ((2147483647 : Int32))) fun M7 =>
  dr G 13 ((M7.2 a 20)) fun b8 =>
  chk (¬ (((11 : Int32)) < 0 ∨ G.2.2 b8 ≤ ((11 : Int32)).toNatClampNeg)) <|
  ltt (uI M7 b8 ((11 : Int32)).toNatClampNeg ((1 : Int32))) fun M9 =>
  dr G 13 ((M9.2 a 20)) fun b10 =>
  chk (¬ (((12 : Int32)) < 0 ∨ G.2.2 b10 ≤ ((12 : Int32)).toNatClampNeg)) <|
  ltt (uI M9 b10 ((12 : Int32)).toNatClampNeg ((2 : Int32))) fun M11 =>
  bnd (if x5 = ((2 : Int32)) then (some (M11)) else
  (bnd (FX0_searchList G M11 a p0 ((0 : Int32))) fun y80 =>
  dr G 13 ((y80.2 a 20)) fun b81 =>
  chk (¬ (((0 : Int32)) < 0 ∨ G.2.2 b81 ≤ ((0 : Int32)).toNatClampNeg)) <|
  ltt (y80.1 b81 ((0 : Int32)).toNatClampNeg) fun x82 =>
  bnd (if x5 = ((0 : Int32)) then (some ((0 : Int32))) else
  (some ((1 : Int32)))) fun (y83 : Int32) =>
  bnd (FX0_offer G y80 a x82 ((3 : Int32)) y83) fun y84 =>
  some (y84))) fun (y12 : DD) =>
  bnd (if x5 = ((1 : Int32)) then (bnd (FX0_searchList G y12 a p0 ((1 : Int32))) fun y71 =>
  dr G 13 ((y71.2 a 20)) fun b72 =>
  chk (¬ (((5 : Int32)) < 0 ∨ G.2.2 b72 ≤ ((5 : Int32)).toNatClampNeg)) <|
  ltt (y71.1 b72 ((5 : Int32)).toNatClampNeg) fun x73 =>
  bnd (FX0_offer G y71 a x73 ((3 : Int32)) ((2 : Int32))) fun y74 =>
  bnd (FX0_costOfBoth G y74 a p0) fun y75 =>
  bnd (FX0_offer G y75.1 a y75.2 ((3 : Int32)) ((3 : Int32))) fun y76 =>
  bnd (FX0_costOfDirect G y76 a p0) fun y77 =>
  bnd (FX0_offer G y77.1 a y77.2 ((3 : Int32)) ((0 : Int32))) fun y78 =>
  some (y78)) else
  (some (y12))) fun (y13 : DD) =>
  dr G 9 ((y13.2 a 3)) fun b14 =>
  bnd (FX9_sides G y13 b14 p0) fun y15 =>
  bnd (itr (fun (s17 : Int32 × DD) => ((if ((4 : Int32)) ≤ s17.1 then (some (.inr (s17.1, s17.2))) else
  (bnd (FX9_mayBeSixteen G s17.2 s17.1 y15.2) fun y57 =>
  bnd (if y57.2 = ((0 : Int32)) then (some (y57.1)) else
  (dr G 6 ((y57.1.2 a 4)) fun b61 =>
  bnd (FX6_predictSixteen G y57.1 b61 ((y57.1.2 a 3)) p0 s17.1 y15.2) fun y62 =>
  dr G 15 ((y62.2 a 9)) fun b63 =>
  chk (¬ (((0 : Int32)) < 0 ∨ G.2.2 b63 ≤ ((0 : Int32)).toNatClampNeg)) <|
  dr G 6 ((y62.2 a 4)) fun b64 =>
  bnd (FX6_differences G y62 b64 ((y62.2 a 3)) ((y62.2 b63 ((0 : Int32)).toNatClampNeg)) p0 ((0 : Int32)) ((16 : Int32))) fun y65 =>
  bnd (FX0_priceOfBit G y65.1 a) fun y66 =>
  ltt ((((8 : Int32)) * y66.2)) fun x67 =>
  ltt ((y65.2 + x67)) fun x68 =>
  bnd (FX0_offer G y66.1 a x68 ((1 : Int32)) s17.1) fun y69 =>
  some (y69))) fun (y58 : DD) =>
  ltt (s17.1 + (1 : Int32)) fun x59 =>
  some (.inl (x59, y58)))) : Option ((Int32 × DD) ⊕ (Int32 × DD)))) 1000000 ((0 : Int32), y15.1)) fun (y16 : Int32 × DD) =>
  bnd (FX0_costOfFour G y16.2 a p0 y15.2) fun y19 =>
  bnd (FX0_offer G y19.1 a y19.2 ((0 : Int32)) ((0 : Int32))) fun y20 =>
  dr G 9 ((y20.2 a 3)) fun b21 =>
  bnd (FX9_clearBlock G y20 b21 p0) fun y22 =>
  dr G 9 ((y22.2 a 3)) fun b23 =>
  ltt ((((8 : Int32)) * p0)) fun x24 =>
  ltt ((x24 + ((0 : Int32)))) fun x25 =>
  dr G 13 ((y22.2 a 20)) fun b26 =>
  chk (¬ (((11 : Int32)) < 0 ∨ G.2.2 b26 ≤ ((11 : Int32)).toNatClampNeg)) <|
  ltt (y22.1 b26 ((11 : Int32)).toNatClampNeg) fun x27 =>
  dr G 13 ((y22.2 b23 6)) fun b28 =>
  chk (¬ (x25 < 0 ∨ G.2.2 b28 ≤ x25.toNatClampNeg)) <|
  ltt (uI y22 b28 x25.toNatClampNeg x27) fun M29 =>
  dr G 13 ((M29.2 a 20)) fun b30 =>
  chk (¬ (((11 : Int32)) < 0 ∨ G.2.2 b30 ≤ ((11 : Int32)).toNatClampNeg)) <|
  ltt (M29.1 b30 ((11 : Int32)).toNatClampNeg) fun x31 =>
  bnd (if x31 = ((3 : Int32)) then (chk (¬ (((12 : Int32)) < 0 ∨ G.2.2 b30 ≤ ((12 : Int32)).toNatClampNeg)) <|
  ltt (M29.1 b30 ((12 : Int32)).toNatClampNeg) fun x53 =>
  bnd (FX0_useBest G M29 a p0 x5 x53) fun y54 =>
  some (y16.1, y54)) else
  (bnd (itr (fun (s35 : Int32 × DD) => ((if ((16 : Int32)) ≤ s35.1 then (some (.inr (s35.1, s35.2))) else
  (dr G 9 ((s35.2.2 a 3)) fun b40 =>
  ltt ((((16 : Int32)) * p0)) fun x41 =>
  ltt ((x41 + s35.1)) fun x42 =>
  dr G 13 ((s35.2.2 a 20)) fun b43 =>
  chk (¬ (((11 : Int32)) < 0 ∨ G.2.2 b43 ≤ ((11 : Int32)).toNatClampNeg)) <|
  ltt (s35.2.1 b43 ((11 : Int32)).toNatClampNeg) fun x44 =>
  bnd (if x44 = ((0 : Int32)) then (ltt ((((13 : Int32)) + s35.1)) fun x51 =>
  chk (¬ (x51 < 0 ∨ G.2.2 b43 ≤ x51.toNatClampNeg)) <|
  ltt (s35.2.1 b43 x51.toNatClampNeg) fun x52 =>
  some (x52)) else
  (chk (¬ (((12 : Int32)) < 0 ∨ G.2.2 b43 ≤ ((12 : Int32)).toNatClampNeg)) <|
  ltt (s35.2.1 b43 ((12 : Int32)).toNatClampNeg) fun x50 =>
  some (x50))) fun (y45 : Int32) =>
  dr G 13 ((s35.2.2 b40 7)) fun b46 =>
  chk (¬ (x42 < 0 ∨ G.2.2 b46 ≤ x42.toNatClampNeg)) <|
  ltt (uI s35.2 b46 x42.toNatClampNeg y45) fun M47 =>
  ltt (s35.1 + (1 : Int32)) fun x48 =>
  some (.inl (x48, M47)))) : Option ((Int32 × DD) ⊕ (Int32 × DD)))) 1000000 ((0 : Int32), M29)) fun (y34 : Int32 × DD) =>
  bnd (FX0_chooseColours G y34.2 a p0 y15.2) fun y37 =>
  some (y34.1, y37))) fun (y32 : Int32 × DD) =>
  some y32.2
set_option maxHeartbeats 4000000 in
set_option maxRecDepth 100000 in
theorem kX0_chooseByCosts (l : Launch) (D : va_G) (ct : CT) (ad : Nat → Nat) (Z : Nat → Nat) (G : GG) (M : DD) (sz : Nat) (a : Nat) (p0 : Int32) (y : DD) (hc : a < G.1) (hk : G.2.1 a = 0) (hF : FX0_chooseByCosts G M a p0 = some y) : Met l yX0_chooseByCosts wsX0_chooseByCosts ({ frames := 6, cells := 0, slots := 0, locals := 175 }) (va_Pc [.ref (ad a), .int p0] (kB D ct ad Z G M sz)) (va_Qv (fun (_ : Unit) => True) (fun _ t => kE D ct ad G (wA ad G sz) y t) (wA ad G sz)) 0 0 (wA ad G sz) := by
  refine Met.ofW (cc := cX0_chooseByCosts) (maxL := 5) (ret := none) (by decide) rfl ?_
  intro p e s m args below meth c s₁ B hml hv
  obtain ⟨rfl, hsz, hP, hK, hD0, hZ, hN⟩ := hv
  have hx := B.exec
  have hb := B.bytes
  have hr := B.returns
  have hts := atoms_spec (ws := wsX0_chooseByCosts) B.pre
  have hown : s.vm.findClass RX0 = some m.cls := findClass_of_methodNamed B.named
  have hlocks := B.notSynchronized
  subst hsz
  have hD := wD_self (sz := s.heap.size) hD0
  have hA9 : ∀ q, s.heap.size ≤ q → wA ad G s.heap.size q := fun q h => Or.inr h
  generalize hAe : wA ad G s.heap.size = A at hD hA9 hZ ⊢
  have hS : va_S A s.heap s.heap [] := va_S.rf
  have hl := lv_entry ([.ref (ad a), .int p0]) (n := 5) (Nat.le_of_ble_eq_true rfl)
  rw [lg_entry_eq]
  generalize (lg_sl ([.ref (ad a), .int p0]) ++ List.replicate (5 - (lg_sl ([.ref (ad a), .int p0])).length) Slot.unset).toArray = ls at hl ⊢
  have hl : lv_has ls 5 [(0, .ref (ad a)), (1, .int p0)] := hl
  unfold FX0_chooseByCosts at hF
  refine lv_aload_n hx hb dX0_chooseByCosts_0 rfl (lv_at hl 0 rfl) ?_
  refine va_get (D := D) (ci := 0) (v := va_re ad (M.2 a 3)) (C := RX0) (T := TX0) (N := 21) hx hb hts (by decide +kernel) hown hK hP a (wld_o ct ad G M hc hk (by decide)) rfl 3 (by decide) (hts (.fieldLink RX0 36 "VideoSuite$Coder" "work" "LVideoSuite$Work;") (by decide +kernel)) (fun _ h9 => h9) rfl dX0_chooseByCosts_1 ?_
  obtain ⟨b2, ho2, hc2, hk2, hF⟩ := dr_some hF
  refine W_st (st' := [.ref (ad b2)]) (by rw [va_some ho2]) ?_
  refine va_get (D := D) (ci := 9) (v := va_re ad (M.2 b2 1)) (C := RX9) (T := TX9) (N := 20) hx hb hts (by decide +kernel) hown hK hP b2 (wld_o ct ad G M hc2 hk2 (by decide)) rfl 1 (by decide) (hts (.fieldLink RX0 81 "VideoSuite$Work" "head" "LVideoSuite$Header;") (by decide +kernel)) (fun _ h9 => h9) rfl dX0_chooseByCosts_4 ?_
  obtain ⟨b3, ho3, hc3, hk3, hF⟩ := dr_some hF
  refine W_st (st' := [.ref (ad b3)]) (by rw [va_some ho3]) ?_
  refine va_get (D := D) (ci := 3) (v := va_re ad (M.2 b3 0)) (C := RX3) (T := TX3) (N := 4) hx hb hts (by decide +kernel) hown hK hP b3 (wld_o ct ad G M hc3 hk3 (by decide)) rfl 0 (by decide) (hts (.fieldLink RX0 252 "VideoSuite$Header" "v" "[I") (by decide +kernel)) (fun _ h9 => h9) rfl dX0_chooseByCosts_7 ?_
  refine lv_iconst (v := (1 : Int32)) hx hb dX0_chooseByCosts_10 (by decide) ?_
  obtain ⟨b4, ho4, hc4, hk4, hF⟩ := dr_some hF
  refine W_st (st' := [.int (1 : Int32), .ref (ad b4)]) (by rw [va_some ho4]) ?_
  obtain ⟨hvc, hF⟩ := chk_some hF
  refine va_iald hx hb hK hP b4 1 (wld_i ct ad G M hc4 hk4) rfl hvc dX0_chooseByCosts_11 ?_
  obtain ⟨x5, ex5, hF⟩ := ltt_some hF
  refine lv_topi (fun zx5 ezx5 => ?_)
  obtain rfl : x5 = zx5 := ex5.trans ezx5.symm
  refine lv_istore_n (lv' := [(2, .int x5), (0, .ref (ad a)), (1, .int p0)]) hx hb dX0_chooseByCosts_12 rfl hl (by decide) rfl (fun ls hl => ?_)
  refine lv_aload_n hx hb dX0_chooseByCosts_13 rfl (lv_at hl 1 rfl) ?_
  refine va_get (D := D) (ci := 0) (v := va_re ad (M.2 a 20)) (C := RX0) (T := TX0) (N := 21) hx hb hts (by decide +kernel) hown hK hP a (wld_o ct ad G M hc hk (by decide)) rfl 20 (by decide) (hts (.fieldLink RX0 75 "VideoSuite$Coder" "choice" "[I") (by decide +kernel)) (fun _ h9 => h9) rfl dX0_chooseByCosts_14 ?_
  refine lv_bipush (v := (10 : Int32)) hx hb dX0_chooseByCosts_17 (by decide) ?_
  refine lv_ldcw (v := (2147483647 : Int32)) hx hb hown (hts (.constant RX0 435 (2147483647 : Int32)) (by decide +kernel)) dX0_chooseByCosts_19 ?_
  obtain ⟨b6, ho6, hc6, hk6, hF⟩ := dr_some hF
  refine W_st (st' := [.int (2147483647 : Int32), .int (10 : Int32), .ref (ad b6)]) (by rw [va_some ho6]) ?_
  obtain ⟨hvc, hF⟩ := chk_some hF
  refine va_iast hx hb hK hP hD hS b6 1 (wld_i ct ad G M hc6 hk6) rfl hvc dX0_chooseByCosts_22 (fun H locs hP hD hS => ?_)
  obtain ⟨M7, eM7, hF⟩ := ltt_some hF
  rw [set_i ct ad G M hc6 hk6, ← eM7] at hP hD
  refine lv_aload_n hx hb dX0_chooseByCosts_23 rfl (lv_at hl 1 rfl) ?_
  refine va_get (D := D) (ci := 0) (v := va_re ad (M7.2 a 20)) (C := RX0) (T := TX0) (N := 21) hx hb hts (by decide +kernel) hown hK hP a (wld_o ct ad G M7 hc hk (by decide)) rfl 20 (by decide) (hts (.fieldLink RX0 75 "VideoSuite$Coder" "choice" "[I") (by decide +kernel)) (fun _ h9 => h9) rfl dX0_chooseByCosts_24 ?_
  refine lv_bipush (v := (11 : Int32)) hx hb dX0_chooseByCosts_27 (by decide) ?_
  refine lv_iconst (v := (1 : Int32)) hx hb dX0_chooseByCosts_29 (by decide) ?_
  obtain ⟨b8, ho8, hc8, hk8, hF⟩ := dr_some hF
  refine W_st (st' := [.int (1 : Int32), .int (11 : Int32), .ref (ad b8)]) (by rw [va_some ho8]) ?_
  obtain ⟨hvc, hF⟩ := chk_some hF
  refine va_iast hx hb hK hP hD hS b8 1 (wld_i ct ad G M7 hc8 hk8) rfl hvc dX0_chooseByCosts_30 (fun H locs hP hD hS => ?_)
  obtain ⟨M9, eM9, hF⟩ := ltt_some hF
  rw [set_i ct ad G M7 hc8 hk8, ← eM9] at hP hD
  refine lv_aload_n hx hb dX0_chooseByCosts_31 rfl (lv_at hl 1 rfl) ?_
  refine va_get (D := D) (ci := 0) (v := va_re ad (M9.2 a 20)) (C := RX0) (T := TX0) (N := 21) hx hb hts (by decide +kernel) hown hK hP a (wld_o ct ad G M9 hc hk (by decide)) rfl 20 (by decide) (hts (.fieldLink RX0 75 "VideoSuite$Coder" "choice" "[I") (by decide +kernel)) (fun _ h9 => h9) rfl dX0_chooseByCosts_32 ?_
  refine lv_bipush (v := (12 : Int32)) hx hb dX0_chooseByCosts_35 (by decide) ?_
  refine lv_iconst (v := (2 : Int32)) hx hb dX0_chooseByCosts_37 (by decide) ?_
  obtain ⟨b10, ho10, hc10, hk10, hF⟩ := dr_some hF
  refine W_st (st' := [.int (2 : Int32), .int (12 : Int32), .ref (ad b10)]) (by rw [va_some ho10]) ?_
  obtain ⟨hvc, hF⟩ := chk_some hF
  refine va_iast hx hb hK hP hD hS b10 1 (wld_i ct ad G M9 hc10 hk10) rfl hvc dX0_chooseByCosts_38 (fun H locs hP hD hS => ?_)
  obtain ⟨M11, eM11, hF⟩ := ltt_some hF
  rw [set_i ct ad G M9 hc10 hk10, ← eM11] at hP hD
  refine lv_iload_n hx hb dX0_chooseByCosts_39 rfl (lv_at hl 0 rfl) ?_
  refine lv_iconst (v := (2 : Int32)) hx hb dX0_chooseByCosts_40 (by decide) ?_
  obtain ⟨y12, hy12, hF⟩ := bnd_some hF
  have J12 : ∀ (H : Heap) (locs : List Loc) (ls : Array Slot), va_P D classes (wld ct ad G y12) H → va_D A (wld ct ad G y12) → va_S A s.heap H locs → lv_has ls 5 [(2, .int x5), (0, .ref (ad a)), (1, .int p0)] → W p l e (headSpec wsX0_chooseByCosts ({ frames := 6, cells := 0, slots := 0, locals := 175 })).room s m ([.ref (ad a), .int p0] : List Value).toArray below meth c H locs 0 0 (MQ below (va_Qv (fun (_ : Unit) => True) (fun _ t => kE D ct ad G A y t) A) ([.ref (ad a), .int p0] : List Value).toArray s 0 0 A) (F0 m 70 ls []) := by
    intro H locs ls hP hD hS hl
    refine lv_iload_n hx hb dX0_chooseByCosts_70 rfl (lv_at hl 0 rfl) ?_
    refine lv_iconst (v := (1 : Int32)) hx hb dX0_chooseByCosts_71 (by decide) ?_
    obtain ⟨y13, hy13, hF⟩ := bnd_some hF
    have J13 : ∀ (H : Heap) (locs : List Loc) (ls : Array Slot), va_P D classes (wld ct ad G y13) H → va_D A (wld ct ad G y13) → va_S A s.heap H locs → lv_has ls 5 [(2, .int x5), (0, .ref (ad a)), (1, .int p0)] → W p l e (headSpec wsX0_chooseByCosts ({ frames := 6, cells := 0, slots := 0, locals := 175 })).room s m ([.ref (ad a), .int p0] : List Value).toArray below meth c H locs 0 0 (MQ below (va_Qv (fun (_ : Unit) => True) (fun _ t => kE D ct ad G A y t) A) ([.ref (ad a), .int p0] : List Value).toArray s 0 0 A) (F0 m 115 ls []) := by
      intro H locs ls hP hD hS hl
      refine lv_aload_n hx hb dX0_chooseByCosts_115 rfl (lv_at hl 1 rfl) ?_
      refine va_get (D := D) (ci := 0) (v := va_re ad (y13.2 a 3)) (C := RX0) (T := TX0) (N := 21) hx hb hts (by decide +kernel) hown hK hP a (wld_o ct ad G y13 hc hk (by decide)) rfl 3 (by decide) (hts (.fieldLink RX0 36 "VideoSuite$Coder" "work" "LVideoSuite$Work;") (by decide +kernel)) (fun _ h9 => h9) rfl dX0_chooseByCosts_116 ?_
      refine lv_iload_n hx hb dX0_chooseByCosts_119 rfl (lv_at hl 2 rfl) ?_
      obtain ⟨b14, ho14, hc14, hk14, hF⟩ := dr_some hF
      refine W_st (st' := [.int p0, .ref (ad b14)]) (by rw [va_some ho14]) ?_
      obtain ⟨y15, hy15, hF⟩ := bnd_some hF
      have hf9 := wA_in hD hA9 hS
      refine va_calli (va_runV (As := [.int p0]) (rest := []) ⟨hx, hb, hml, hown, hts⟩ (kX9_sides l D ct ad Z G y13 H.size b14 p0 y15 hc14 hk14 hy15) (cwV 1 hts gX0_chooseByCosts_X9_sides rfl rfl rfl (by decide +kernel) ⟨Nat.le_of_ble_eq_true rfl, Nat.le_of_ble_eq_true rfl⟩) ⟨fun a U g mk q => by obtain ⟨q0, q1, qP, qK, qD, qZ, qN⟩ := q; exact ⟨q0, q1, qP, va_K.moved (u := U) (U := U.calling g mk a) (Vm.Alike.refl U.vm) qK, qD, sF.moved (u := U) (U := U.calling g mk a) (Vm.Alike.refl U.vm) qZ, nF.same rfl qN⟩, va_recv hK hP (ci := 9) (q0 := b14) rfl (wld_o ct ad G y13 hc14 hk14 (by decide)), fun U hU hW => ⟨rfl, by rw [hU], by rw [hU]; exact hP, va_K.moved hW.alike hK, hD.weaken (fun _ _ _ _ => trivial), by rw [hU]; exact ((hZ.kept hS.2.1).narrow hf9).moved hW.alike, hN.warm hW⟩⟩ rfl rfl hl.1 rfl (lv_room (Nat.le_of_ble_eq_true rfl)) dX0_chooseByCosts_120 ⟨(Nat.zero_le _), (Nat.zero_le _)⟩) hS (fun q _ h => hf9 q h) hf9 (fun r u t H locs ht hvm hw hB hz1 hk1 hS => ?_)
      obtain ⟨hP, hK9, hD9⟩ := hB
      rw [ht] at hP
      try dsimp only at hw
      subst hw
      have hD := hD9.weaken (fun _ q _ h => hf9 q.1 h)
      refine lv_istore_n (lv' := [(3, .int y15.2), (2, .int x5), (0, .ref (ad a)), (1, .int p0)]) hx hb dX0_chooseByCosts_123 rfl hl (by decide) rfl (fun ls hl => ?_)
      refine lv_iconst (v := (0 : Int32)) hx hb dX0_chooseByCosts_124 (by decide) ?_
      refine lv_istore (lv' := [(4, .int (0 : Int32)), (3, .int y15.2), (2, .int x5), (0, .ref (ad a)), (1, .int p0)]) hx hb dX0_chooseByCosts_125 hl (by decide) rfl (fun ls hl => ?_)
      obtain ⟨y16, hy16, hF⟩ := bnd_some hF
      have K16 : ∀ (H : Heap) (locs : List Loc) (ls : Array Slot), va_P D classes (wld ct ad G y16.2) H → va_D A (wld ct ad G y16.2) → va_S A s.heap H locs → lv_has ls 5 [(4, .int y16.1), (3, .int y15.2), (2, .int x5), (0, .ref (ad a)), (1, .int p0)] → W p l e (headSpec wsX0_chooseByCosts ({ frames := 6, cells := 0, slots := 0, locals := 175 })).room s m ([.ref (ad a), .int p0] : List Value).toArray below meth c H locs 0 0 (MQ below (va_Qv (fun (_ : Unit) => True) (fun _ t => kE D ct ad G A y t) A) ([.ref (ad a), .int p0] : List Value).toArray s 0 0 A) (F0 m 199 ls []) := by
        intro H locs ls hP hD hS hl
        refine lv_aload_n hx hb dX0_chooseByCosts_199 rfl (lv_at hl 3 rfl) ?_
        refine lv_aload_n hx hb dX0_chooseByCosts_200 rfl (lv_at hl 3 rfl) ?_
        refine lv_iload_n hx hb dX0_chooseByCosts_201 rfl (lv_at hl 4 rfl) ?_
        refine lv_iload_n hx hb dX0_chooseByCosts_202 rfl (lv_at hl 1 rfl) ?_
        obtain ⟨y19, hy19, hF⟩ := bnd_some hF
        have hf9 := wA_in hD hA9 hS
        refine va_calli (va_runV (As := [.int p0, .int y15.2]) (rest := [.ref (ad a)]) ⟨hx, hb, hml, hown, hts⟩ (kX0_costOfFour l D ct ad Z G y16.2 H.size a p0 y15.2 y19 hc hk hy19) (cwV 2 hts gX0_chooseByCosts_X0_costOfFour rfl rfl rfl (by decide +kernel) ⟨Nat.le_of_ble_eq_true rfl, Nat.le_of_ble_eq_true rfl⟩) ⟨fun a U g mk q => by obtain ⟨q0, q1, qP, qK, qD, qZ, qN⟩ := q; exact ⟨q0, q1, qP, va_K.moved (u := U) (U := U.calling g mk a) (Vm.Alike.refl U.vm) qK, qD, sF.moved (u := U) (U := U.calling g mk a) (Vm.Alike.refl U.vm) qZ, nF.same rfl qN⟩, va_recv hK hP (ci := 0) (q0 := a) rfl (wld_o ct ad G y16.2 hc hk (by decide)), fun U hU hW => ⟨rfl, by rw [hU], by rw [hU]; exact hP, va_K.moved hW.alike hK, hD.weaken (fun _ _ _ _ => trivial), by rw [hU]; exact ((hZ.kept hS.2.1).narrow hf9).moved hW.alike, hN.warm hW⟩⟩ rfl rfl hl.1 rfl (lv_room (Nat.le_of_ble_eq_true rfl)) dX0_chooseByCosts_203 ⟨(Nat.zero_le _), (Nat.zero_le _)⟩) hS (fun q _ h => hf9 q h) hf9 (fun r u t H locs ht hvm hw hB hz1 hk1 hS => ?_)
        obtain ⟨hP, hK9, hD9⟩ := hB
        rw [ht] at hP
        try dsimp only at hw
        subst hw
        have hD := hD9.weaken (fun _ q _ h => hf9 q.1 h)
        refine lv_iconst (v := (0 : Int32)) hx hb dX0_chooseByCosts_206 (by decide) ?_
        refine lv_iconst (v := (0 : Int32)) hx hb dX0_chooseByCosts_207 (by decide) ?_
        obtain ⟨y20, hy20, hF⟩ := bnd_some hF
        have hf9 := wA_in hD hA9 hS
        refine va_callv (va_runV (As := [.int y19.2, .int (0 : Int32), .int (0 : Int32)]) (rest := []) ⟨hx, hb, hml, hown, hts⟩ (kX0_offer l D ct ad Z G y19.1 H.size a y19.2 ((0 : Int32)) ((0 : Int32)) y20 hc hk hy20) (cwV 3 hts gX0_chooseByCosts_X0_offer rfl rfl rfl (by decide +kernel) ⟨Nat.le_of_ble_eq_true rfl, Nat.le_of_ble_eq_true rfl⟩) ⟨fun a U g mk q => by obtain ⟨q0, q1, qP, qK, qD, qZ, qN⟩ := q; exact ⟨q0, q1, qP, va_K.moved (u := U) (U := U.calling g mk a) (Vm.Alike.refl U.vm) qK, qD, sF.moved (u := U) (U := U.calling g mk a) (Vm.Alike.refl U.vm) qZ, nF.same rfl qN⟩, va_recv hK hP (ci := 0) (q0 := a) rfl (wld_o ct ad G y19.1 hc hk (by decide)), fun U hU hW => ⟨rfl, by rw [hU], by rw [hU]; exact hP, va_K.moved hW.alike hK, hD.weaken (fun _ _ _ _ => trivial), by rw [hU]; exact ((hZ.kept hS.2.1).narrow hf9).moved hW.alike, hN.warm hW⟩⟩ rfl rfl hl.1 rfl (lv_room (Nat.le_of_ble_eq_true rfl)) dX0_chooseByCosts_208 ⟨(Nat.zero_le _), (Nat.zero_le _)⟩) hS (fun q _ h => hf9 q h) hf9 (fun u t H locs ht hvm hw hB hz1 hk1 hS => ?_)
        obtain ⟨hP, hK9, hD9⟩ := hB
        rw [ht] at hP
        have hD := hD9.weaken (fun _ q _ h => hf9 q.1 h)
        refine lv_aload_n hx hb dX0_chooseByCosts_211 rfl (lv_at hl 3 rfl) ?_
        refine va_get (D := D) (ci := 0) (v := va_re ad (y20.2 a 3)) (C := RX0) (T := TX0) (N := 21) hx hb hts (by decide +kernel) hown hK hP a (wld_o ct ad G y20 hc hk (by decide)) rfl 3 (by decide) (hts (.fieldLink RX0 36 "VideoSuite$Coder" "work" "LVideoSuite$Work;") (by decide +kernel)) (fun _ h9 => h9) rfl dX0_chooseByCosts_212 ?_
        refine lv_iload_n hx hb dX0_chooseByCosts_215 rfl (lv_at hl 4 rfl) ?_
        obtain ⟨b21, ho21, hc21, hk21, hF⟩ := dr_some hF
        refine W_st (st' := [.int p0, .ref (ad b21)]) (by rw [va_some ho21]) ?_
        obtain ⟨y22, hy22, hF⟩ := bnd_some hF
        have hf9 := wA_in hD hA9 hS
        refine va_callv (va_runV (As := [.int p0]) (rest := []) ⟨hx, hb, hml, hown, hts⟩ (kX9_clearBlock l D ct ad Z G y20 H.size b21 p0 y22 hc21 hk21 hy22) (cwV 1 hts gX0_chooseByCosts_X9_clearBlock rfl rfl rfl (by decide +kernel) ⟨Nat.le_of_ble_eq_true rfl, Nat.le_of_ble_eq_true rfl⟩) ⟨fun a U g mk q => by obtain ⟨q0, q1, qP, qK, qD, qZ, qN⟩ := q; exact ⟨q0, q1, qP, va_K.moved (u := U) (U := U.calling g mk a) (Vm.Alike.refl U.vm) qK, qD, sF.moved (u := U) (U := U.calling g mk a) (Vm.Alike.refl U.vm) qZ, nF.same rfl qN⟩, va_recv hK hP (ci := 9) (q0 := b21) rfl (wld_o ct ad G y20 hc21 hk21 (by decide)), fun U hU hW => ⟨rfl, by rw [hU], by rw [hU]; exact hP, va_K.moved hW.alike hK, hD.weaken (fun _ _ _ _ => trivial), by rw [hU]; exact ((hZ.kept hS.2.1).narrow hf9).moved hW.alike, hN.warm hW⟩⟩ rfl rfl hl.1 rfl (lv_room (Nat.le_of_ble_eq_true rfl)) dX0_chooseByCosts_216 ⟨(Nat.zero_le _), (Nat.zero_le _)⟩) hS (fun q _ h => hf9 q h) hf9 (fun u t H locs ht hvm hw hB hz1 hk1 hS => ?_)
        obtain ⟨hP, hK9, hD9⟩ := hB
        rw [ht] at hP
        have hD := hD9.weaken (fun _ q _ h => hf9 q.1 h)
        refine lv_aload_n hx hb dX0_chooseByCosts_219 rfl (lv_at hl 3 rfl) ?_
        refine va_get (D := D) (ci := 0) (v := va_re ad (y22.2 a 3)) (C := RX0) (T := TX0) (N := 21) hx hb hts (by decide +kernel) hown hK hP a (wld_o ct ad G y22 hc hk (by decide)) rfl 3 (by decide) (hts (.fieldLink RX0 36 "VideoSuite$Coder" "work" "LVideoSuite$Work;") (by decide +kernel)) (fun _ h9 => h9) rfl dX0_chooseByCosts_220 ?_
        obtain ⟨b23, ho23, hc23, hk23, hF⟩ := dr_some hF
        refine W_st (st' := [.ref (ad b23)]) (by rw [va_some ho23]) ?_
        refine va_get (D := D) (ci := 9) (v := va_re ad (y22.2 b23 6)) (C := RX9) (T := TX9) (N := 20) hx hb hts (by decide +kernel) hown hK hP b23 (wld_o ct ad G y22 hc23 hk23 (by decide)) rfl 6 (by decide) (hts (.fieldLink RX0 216 "VideoSuite$Work" "info" "[I") (by decide +kernel)) (fun _ h9 => h9) rfl dX0_chooseByCosts_223 ?_
        refine lv_bipush (v := (8 : Int32)) hx hb dX0_chooseByCosts_226 (by decide) ?_
        refine lv_iload_n hx hb dX0_chooseByCosts_228 rfl (lv_at hl 4 rfl) ?_
        refine lv_imul hx hb dX0_chooseByCosts_229 ?_
        obtain ⟨x24, ex24, hF⟩ := ltt_some hF
        refine lv_topi (fun zx24 ezx24 => ?_)
        obtain rfl : x24 = zx24 := ex24.trans ezx24.symm
        refine lv_iconst (v := (0 : Int32)) hx hb dX0_chooseByCosts_230 (by decide) ?_
        refine lv_iadd hx hb dX0_chooseByCosts_231 ?_
        obtain ⟨x25, ex25, hF⟩ := ltt_some hF
        refine lv_topi (fun zx25 ezx25 => ?_)
        obtain rfl : x25 = zx25 := ex25.trans ezx25.symm
        refine lv_aload_n hx hb dX0_chooseByCosts_232 rfl (lv_at hl 3 rfl) ?_
        refine va_get (D := D) (ci := 0) (v := va_re ad (y22.2 a 20)) (C := RX0) (T := TX0) (N := 21) hx hb hts (by decide +kernel) hown hK hP a (wld_o ct ad G y22 hc hk (by decide)) rfl 20 (by decide) (hts (.fieldLink RX0 75 "VideoSuite$Coder" "choice" "[I") (by decide +kernel)) (fun _ h9 => h9) rfl dX0_chooseByCosts_233 ?_
        refine lv_bipush (v := (11 : Int32)) hx hb dX0_chooseByCosts_236 (by decide) ?_
        obtain ⟨b26, ho26, hc26, hk26, hF⟩ := dr_some hF
        refine W_st (st' := [.int (11 : Int32), .ref (ad b26), .int x25, va_re ad (y22.2 b23 6)]) (by rw [va_some ho26]) ?_
        obtain ⟨hvc, hF⟩ := chk_some hF
        refine va_iald hx hb hK hP b26 1 (wld_i ct ad G y22 hc26 hk26) rfl hvc dX0_chooseByCosts_238 ?_
        obtain ⟨x27, ex27, hF⟩ := ltt_some hF
        refine lv_topi (fun zx27 ezx27 => ?_)
        obtain rfl : x27 = zx27 := ex27.trans ezx27.symm
        obtain ⟨b28, ho28, hc28, hk28, hF⟩ := dr_some hF
        refine W_st (st' := [.int x27, .int x25, .ref (ad b28)]) (by rw [va_some ho28]) ?_
        obtain ⟨hvc, hF⟩ := chk_some hF
        refine va_iast hx hb hK hP hD hS b28 1 (wld_i ct ad G y22 hc28 hk28) rfl hvc dX0_chooseByCosts_239 (fun H locs hP hD hS => ?_)
        obtain ⟨M29, eM29, hF⟩ := ltt_some hF
        rw [set_i ct ad G y22 hc28 hk28, ← eM29] at hP hD
        refine lv_aload_n hx hb dX0_chooseByCosts_240 rfl (lv_at hl 3 rfl) ?_
        refine va_get (D := D) (ci := 0) (v := va_re ad (M29.2 a 20)) (C := RX0) (T := TX0) (N := 21) hx hb hts (by decide +kernel) hown hK hP a (wld_o ct ad G M29 hc hk (by decide)) rfl 20 (by decide) (hts (.fieldLink RX0 75 "VideoSuite$Coder" "choice" "[I") (by decide +kernel)) (fun _ h9 => h9) rfl dX0_chooseByCosts_241 ?_
        refine lv_bipush (v := (11 : Int32)) hx hb dX0_chooseByCosts_244 (by decide) ?_
        obtain ⟨b30, ho30, hc30, hk30, hF⟩ := dr_some hF
        refine W_st (st' := [.int (11 : Int32), .ref (ad b30)]) (by rw [va_some ho30]) ?_
        obtain ⟨hvc, hF⟩ := chk_some hF
        refine va_iald hx hb hK hP b30 1 (wld_i ct ad G M29 hc30 hk30) rfl hvc dX0_chooseByCosts_246 ?_
        obtain ⟨x31, ex31, hF⟩ := ltt_some hF
        refine lv_topi (fun zx31 ezx31 => ?_)
        obtain rfl : x31 = zx31 := ex31.trans ezx31.symm
        refine lv_iconst (v := (3 : Int32)) hx hb dX0_chooseByCosts_247 (by decide) ?_
        obtain ⟨y32, hy32, hF⟩ := bnd_some hF
        have J32 : ∀ (H : Heap) (locs : List Loc) (ls : Array Slot), va_P D classes (wld ct ad G y32.2) H → va_D A (wld ct ad G y32.2) → va_S A s.heap H locs → lv_has ls 5 [(4, .int y32.1), (3, .int y15.2), (2, .int x5), (0, .ref (ad a)), (1, .int p0)] → W p l e (headSpec wsX0_chooseByCosts ({ frames := 6, cells := 0, slots := 0, locals := 175 })).room s m ([.ref (ad a), .int p0] : List Value).toArray below meth c H locs 0 0 (MQ below (va_Qv (fun (_ : Unit) => True) (fun _ t => kE D ct ad G A y t) A) ([.ref (ad a), .int p0] : List Value).toArray s 0 0 A) (F0 m 334 ls []) := by
          intro H locs ls hP hD hS hl
          obtain rfl := Option.some.inj hF
          exact W.vret hx hb hr (fun t ht hW => ⟨⟨(), rfl, trivial, ⟨by rw [ht]; exact hP, va_K.moved hW.alike hK, hD⟩⟩, hS.F ht⟩) hS.2.2 dX0_chooseByCosts_334
        clear hF
        have hF := hy32
        clear hy32
        refine lv_icmp_ne (tgt := 267) hx hb dX0_chooseByCosts_248 (by decide) (fun c33 => ?_) (fun c33 => ?_)
        · rw [if_neg c33] at hF
          refine lv_iconst (v := (0 : Int32)) hx hb dX0_chooseByCosts_267 (by decide) ?_
          refine lv_istore (lv' := [(4, .int (0 : Int32)), (3, .int y15.2), (2, .int x5), (0, .ref (ad a)), (1, .int p0)]) hx hb dX0_chooseByCosts_268 hl (by decide) rfl (fun ls hl => ?_)
          obtain ⟨y34, hy34, hF⟩ := bnd_some hF
          have K34 : ∀ (H : Heap) (locs : List Loc) (ls : Array Slot), va_P D classes (wld ct ad G y34.2) H → va_D A (wld ct ad G y34.2) → va_S A s.heap H locs → lv_has ls 5 [(4, .int y34.1), (3, .int y15.2), (2, .int x5), (0, .ref (ad a)), (1, .int p0)] → W p l e (headSpec wsX0_chooseByCosts ({ frames := 6, cells := 0, slots := 0, locals := 175 })).room s m ([.ref (ad a), .int p0] : List Value).toArray below meth c H locs 0 0 (MQ below (va_Qv (fun (_ : Unit) => True) (fun _ t => kE D ct ad G A y t) A) ([.ref (ad a), .int p0] : List Value).toArray s 0 0 A) (F0 m 328 ls []) := by
            intro H locs ls hP hD hS hl
            refine lv_aload_n hx hb dX0_chooseByCosts_328 rfl (lv_at hl 3 rfl) ?_
            refine lv_iload_n hx hb dX0_chooseByCosts_329 rfl (lv_at hl 4 rfl) ?_
            refine lv_iload_n hx hb dX0_chooseByCosts_330 rfl (lv_at hl 1 rfl) ?_
            obtain ⟨y37, hy37, hF⟩ := bnd_some hF
            have hf9 := wA_in hD hA9 hS
            refine va_callv (va_runV (As := [.int p0, .int y15.2]) (rest := []) ⟨hx, hb, hml, hown, hts⟩ (kX0_chooseColours l D ct ad Z G y34.2 H.size a p0 y15.2 y37 hc hk hy37) (cwV 2 hts gX0_chooseByCosts_X0_chooseColours rfl rfl rfl (by decide +kernel) ⟨Nat.le_of_ble_eq_true rfl, Nat.le_of_ble_eq_true rfl⟩) ⟨fun a U g mk q => by obtain ⟨q0, q1, qP, qK, qD, qZ, qN⟩ := q; exact ⟨q0, q1, qP, va_K.moved (u := U) (U := U.calling g mk a) (Vm.Alike.refl U.vm) qK, qD, sF.moved (u := U) (U := U.calling g mk a) (Vm.Alike.refl U.vm) qZ, nF.same rfl qN⟩, va_recv hK hP (ci := 0) (q0 := a) rfl (wld_o ct ad G y34.2 hc hk (by decide)), fun U hU hW => ⟨rfl, by rw [hU], by rw [hU]; exact hP, va_K.moved hW.alike hK, hD.weaken (fun _ _ _ _ => trivial), by rw [hU]; exact ((hZ.kept hS.2.1).narrow hf9).moved hW.alike, hN.warm hW⟩⟩ rfl rfl hl.1 rfl (lv_room (Nat.le_of_ble_eq_true rfl)) dX0_chooseByCosts_331 ⟨(Nat.zero_le _), (Nat.zero_le _)⟩) hS (fun q _ h => hf9 q h) hf9 (fun u t H locs ht hvm hw hB hz1 hk1 hS => ?_)
            obtain ⟨hP, hK9, hD9⟩ := hB
            rw [ht] at hP
            have hD := hD9.weaken (fun _ q _ h => hf9 q.1 h)
            obtain rfl := Option.some.inj hF
            exact J32 _ _ _ hP hD hS (lv_sub hl [0, 1, 2, 3, 4] rfl)
          clear hF
          refine itr_rule (fun (s35 : Int32 × DD) => ∀ (H : Heap) (locs : List Loc) (ls : Array Slot), va_P D classes (wld ct ad G s35.2) H → va_D A (wld ct ad G s35.2) → va_S A s.heap H locs → lv_has ls 5 [(4, .int s35.1), (3, .int y15.2), (2, .int x5), (0, .ref (ad a)), (1, .int p0)] → W p l e (headSpec wsX0_chooseByCosts ({ frames := 6, cells := 0, slots := 0, locals := 175 })).room s m ([.ref (ad a), .int p0] : List Value).toArray below meth c H locs 0 0 (MQ below (va_Qv (fun (_ : Unit) => True) (fun _ t => kE D ct ad G A y t) A) ([.ref (ad a), .int p0] : List Value).toArray s 0 0 A) (F0 m 270 ls [])) ?_ _ _ hy34 _ _ _ hP hD hS (lv_sub hl [0, 1, 2, 3, 4] rfl)
          rintro s35 ⟨z38, hF, hwz38⟩ H locs ls hP hD hS hl
          try dsimp only at hF
          refine lv_iload hx hb dX0_chooseByCosts_270 (lv_at hl 0 rfl) ?_
          refine lv_bipush (v := (16 : Int32)) hx hb dX0_chooseByCosts_272 (by decide) ?_
          refine lv_icmp_ge (tgt := 328) hx hb dX0_chooseByCosts_274 (by decide) (fun c39 => ?_) (fun c39 => ?_)
          · rw [if_pos c39] at hF
            obtain rfl := Option.some.inj hF
            subst hwz38
            exact K34 _ _ _ hP hD hS (lv_sub hl [0, 1, 2, 3, 4] rfl)
          · rw [if_neg c39] at hF
            refine lv_aload_n hx hb dX0_chooseByCosts_277 rfl (lv_at hl 3 rfl) ?_
            refine va_get (D := D) (ci := 0) (v := va_re ad (s35.2.2 a 3)) (C := RX0) (T := TX0) (N := 21) hx hb hts (by decide +kernel) hown hK hP a (wld_o ct ad G s35.2 hc hk (by decide)) rfl 3 (by decide) (hts (.fieldLink RX0 36 "VideoSuite$Coder" "work" "LVideoSuite$Work;") (by decide +kernel)) (fun _ h9 => h9) rfl dX0_chooseByCosts_278 ?_
            obtain ⟨b40, ho40, hc40, hk40, hF⟩ := dr_some hF
            refine W_st (st' := [.ref (ad b40)]) (by rw [va_some ho40]) ?_
            refine va_get (D := D) (ci := 9) (v := va_re ad (s35.2.2 b40 7)) (C := RX9) (T := TX9) (N := 20) hx hb hts (by decide +kernel) hown hK hP b40 (wld_o ct ad G s35.2 hc40 hk40 (by decide)) rfl 7 (by decide) (hts (.fieldLink RX0 356 "VideoSuite$Work" "mode" "[I") (by decide +kernel)) (fun _ h9 => h9) rfl dX0_chooseByCosts_281 ?_
            refine lv_bipush (v := (16 : Int32)) hx hb dX0_chooseByCosts_284 (by decide) ?_
            refine lv_iload_n hx hb dX0_chooseByCosts_286 rfl (lv_at hl 4 rfl) ?_
            refine lv_imul hx hb dX0_chooseByCosts_287 ?_
            obtain ⟨x41, ex41, hF⟩ := ltt_some hF
            refine lv_topi (fun zx41 ezx41 => ?_)
            obtain rfl : x41 = zx41 := ex41.trans ezx41.symm
            refine lv_iload hx hb dX0_chooseByCosts_288 (lv_at hl 0 rfl) ?_
            refine lv_iadd hx hb dX0_chooseByCosts_290 ?_
            obtain ⟨x42, ex42, hF⟩ := ltt_some hF
            refine lv_topi (fun zx42 ezx42 => ?_)
            obtain rfl : x42 = zx42 := ex42.trans ezx42.symm
            refine lv_aload_n hx hb dX0_chooseByCosts_291 rfl (lv_at hl 3 rfl) ?_
            refine va_get (D := D) (ci := 0) (v := va_re ad (s35.2.2 a 20)) (C := RX0) (T := TX0) (N := 21) hx hb hts (by decide +kernel) hown hK hP a (wld_o ct ad G s35.2 hc hk (by decide)) rfl 20 (by decide) (hts (.fieldLink RX0 75 "VideoSuite$Coder" "choice" "[I") (by decide +kernel)) (fun _ h9 => h9) rfl dX0_chooseByCosts_292 ?_
            refine lv_bipush (v := (11 : Int32)) hx hb dX0_chooseByCosts_295 (by decide) ?_
            obtain ⟨b43, ho43, hc43, hk43, hF⟩ := dr_some hF
            refine W_st (st' := [.int (11 : Int32), .ref (ad b43), .int x42, va_re ad (s35.2.2 b40 7)]) (by rw [va_some ho43]) ?_
            obtain ⟨hvc, hF⟩ := chk_some hF
            refine va_iald hx hb hK hP b43 1 (wld_i ct ad G s35.2 hc43 hk43) rfl hvc dX0_chooseByCosts_297 ?_
            obtain ⟨x44, ex44, hF⟩ := ltt_some hF
            refine lv_topi (fun zx44 ezx44 => ?_)
            obtain rfl : x44 = zx44 := ex44.trans ezx44.symm
            obtain ⟨y45, hy45, hF⟩ := bnd_some hF
            have J45 : ∀ (H : Heap) (locs : List Loc) (ls : Array Slot), va_P D classes (wld ct ad G s35.2) H → va_D A (wld ct ad G s35.2) → va_S A s.heap H locs → lv_has ls 5 [(4, .int s35.1), (3, .int y15.2), (2, .int x5), (0, .ref (ad a)), (1, .int p0)] → W p l e (headSpec wsX0_chooseByCosts ({ frames := 6, cells := 0, slots := 0, locals := 175 })).room s m ([.ref (ad a), .int p0] : List Value).toArray below meth c H locs 0 0 (MQ below (va_Qv (fun (_ : Unit) => True) (fun _ t => kE D ct ad G A y t) A) ([.ref (ad a), .int p0] : List Value).toArray s 0 0 A) (F0 m 321 ls [.int y45, .int x42, va_re ad (s35.2.2 b40 7)]) := by
              intro H locs ls hP hD hS hl
              obtain ⟨b46, ho46, hc46, hk46, hF⟩ := dr_some hF
              refine W_st (st' := [.int y45, .int x42, .ref (ad b46)]) (by rw [va_some ho46]) ?_
              obtain ⟨hvc, hF⟩ := chk_some hF
              refine va_iast hx hb hK hP hD hS b46 1 (wld_i ct ad G s35.2 hc46 hk46) rfl hvc dX0_chooseByCosts_321 (fun H locs hP hD hS => ?_)
              obtain ⟨M47, eM47, hF⟩ := ltt_some hF
              rw [set_i ct ad G s35.2 hc46 hk46, ← eM47] at hP hD
              obtain ⟨x48, ex48, hF⟩ := ltt_some hF
              refine lv_iinc (v := x48) (lv' := [(4, .int x48), (3, .int y15.2), (2, .int x5), (0, .ref (ad a)), (1, .int p0)]) hx hb dX0_chooseByCosts_322 hl (k := 0) rfl (by rw [ex48]; rfl) (by decide) rfl (fun ls hl => ?_)
              refine lv_goto (tgt := 270) hx hb dX0_chooseByCosts_325 (by decide) ?_
              obtain rfl := Option.some.inj hF
              exact hwz38 _ _ _ hP hD hS (lv_sub hl [0, 1, 2, 3, 4] rfl)
            clear hF
            have hF := hy45
            clear hy45
            refine lv_if_ne (tgt := 314) hx hb dX0_chooseByCosts_298 (by decide) (fun c49 => ?_) (fun c49 => ?_)
            · rw [if_neg c49] at hF
              refine lv_aload_n hx hb dX0_chooseByCosts_314 rfl (lv_at hl 3 rfl) ?_
              refine va_get (D := D) (ci := 0) (v := va_re ad (s35.2.2 a 20)) (C := RX0) (T := TX0) (N := 21) hx hb hts (by decide +kernel) hown hK hP a (wld_o ct ad G s35.2 hc hk (by decide)) rfl 20 (by decide) (hts (.fieldLink RX0 75 "VideoSuite$Coder" "choice" "[I") (by decide +kernel)) (fun _ h9 => h9) rfl dX0_chooseByCosts_315 ?_
              refine lv_bipush (v := (12 : Int32)) hx hb dX0_chooseByCosts_318 (by decide) ?_
              refine W_st (st' := [.int (12 : Int32), .ref (ad b43), .int x42, va_re ad (s35.2.2 b40 7)]) (by rw [va_some ho43]) ?_
              obtain ⟨hvc, hF⟩ := chk_some hF
              refine va_iald hx hb hK hP b43 1 (wld_i ct ad G s35.2 hc43 hk43) rfl hvc dX0_chooseByCosts_320 ?_
              obtain ⟨x50, ex50, hF⟩ := ltt_some hF
              refine lv_topi (fun zx50 ezx50 => ?_)
              obtain rfl : x50 = zx50 := ex50.trans ezx50.symm
              obtain rfl := Option.some.inj hF
              exact J45 _ _ _ hP hD hS (lv_sub hl [0, 1, 2, 3, 4] rfl)
            · rw [if_pos c49] at hF
              refine lv_aload_n hx hb dX0_chooseByCosts_301 rfl (lv_at hl 3 rfl) ?_
              refine va_get (D := D) (ci := 0) (v := va_re ad (s35.2.2 a 20)) (C := RX0) (T := TX0) (N := 21) hx hb hts (by decide +kernel) hown hK hP a (wld_o ct ad G s35.2 hc hk (by decide)) rfl 20 (by decide) (hts (.fieldLink RX0 75 "VideoSuite$Coder" "choice" "[I") (by decide +kernel)) (fun _ h9 => h9) rfl dX0_chooseByCosts_302 ?_
              refine lv_bipush (v := (13 : Int32)) hx hb dX0_chooseByCosts_305 (by decide) ?_
              refine lv_iload hx hb dX0_chooseByCosts_307 (lv_at hl 0 rfl) ?_
              refine lv_iadd hx hb dX0_chooseByCosts_309 ?_
              obtain ⟨x51, ex51, hF⟩ := ltt_some hF
              refine lv_topi (fun zx51 ezx51 => ?_)
              obtain rfl : x51 = zx51 := ex51.trans ezx51.symm
              refine W_st (st' := [.int x51, .ref (ad b43), .int x42, va_re ad (s35.2.2 b40 7)]) (by rw [va_some ho43]) ?_
              obtain ⟨hvc, hF⟩ := chk_some hF
              refine va_iald hx hb hK hP b43 1 (wld_i ct ad G s35.2 hc43 hk43) rfl hvc dX0_chooseByCosts_310 ?_
              obtain ⟨x52, ex52, hF⟩ := ltt_some hF
              refine lv_topi (fun zx52 ezx52 => ?_)
              obtain rfl : x52 = zx52 := ex52.trans ezx52.symm
              refine lv_goto (tgt := 321) hx hb dX0_chooseByCosts_311 (by decide) ?_
              obtain rfl := Option.some.inj hF
              exact J45 _ _ _ hP hD hS (lv_sub hl [0, 1, 2, 3, 4] rfl)
        · rw [if_pos c33] at hF
          refine lv_aload_n hx hb dX0_chooseByCosts_251 rfl (lv_at hl 3 rfl) ?_
          refine lv_iload_n hx hb dX0_chooseByCosts_252 rfl (lv_at hl 4 rfl) ?_
          refine lv_iload_n hx hb dX0_chooseByCosts_253 rfl (lv_at hl 2 rfl) ?_
          refine lv_aload_n hx hb dX0_chooseByCosts_254 rfl (lv_at hl 3 rfl) ?_
          refine va_get (D := D) (ci := 0) (v := va_re ad (M29.2 a 20)) (C := RX0) (T := TX0) (N := 21) hx hb hts (by decide +kernel) hown hK hP a (wld_o ct ad G M29 hc hk (by decide)) rfl 20 (by decide) (hts (.fieldLink RX0 75 "VideoSuite$Coder" "choice" "[I") (by decide +kernel)) (fun _ h9 => h9) rfl dX0_chooseByCosts_255 ?_
          refine lv_bipush (v := (12 : Int32)) hx hb dX0_chooseByCosts_258 (by decide) ?_
          refine W_st (st' := [.int (12 : Int32), .ref (ad b30), .int x5, .int p0, .ref (ad a)]) (by rw [va_some ho30]) ?_
          obtain ⟨hvc, hF⟩ := chk_some hF
          refine va_iald hx hb hK hP b30 1 (wld_i ct ad G M29 hc30 hk30) rfl hvc dX0_chooseByCosts_260 ?_
          obtain ⟨x53, ex53, hF⟩ := ltt_some hF
          refine lv_topi (fun zx53 ezx53 => ?_)
          obtain rfl : x53 = zx53 := ex53.trans ezx53.symm
          obtain ⟨y54, hy54, hF⟩ := bnd_some hF
          have hf9 := wA_in hD hA9 hS
          refine va_callv (va_runV (As := [.int p0, .int x5, .int x53]) (rest := []) ⟨hx, hb, hml, hown, hts⟩ (kX0_useBest l D ct ad Z G M29 H.size a p0 x5 x53 y54 hc hk hy54) (cwV 3 hts gX0_chooseByCosts_X0_useBest rfl rfl rfl (by decide +kernel) ⟨Nat.le_of_ble_eq_true rfl, Nat.le_of_ble_eq_true rfl⟩) ⟨fun a U g mk q => by obtain ⟨q0, q1, qP, qK, qD, qZ, qN⟩ := q; exact ⟨q0, q1, qP, va_K.moved (u := U) (U := U.calling g mk a) (Vm.Alike.refl U.vm) qK, qD, sF.moved (u := U) (U := U.calling g mk a) (Vm.Alike.refl U.vm) qZ, nF.same rfl qN⟩, va_recv hK hP (ci := 0) (q0 := a) rfl (wld_o ct ad G M29 hc hk (by decide)), fun U hU hW => ⟨rfl, by rw [hU], by rw [hU]; exact hP, va_K.moved hW.alike hK, hD.weaken (fun _ _ _ _ => trivial), by rw [hU]; exact ((hZ.kept hS.2.1).narrow hf9).moved hW.alike, hN.warm hW⟩⟩ rfl rfl hl.1 rfl (lv_room (Nat.le_of_ble_eq_true rfl)) dX0_chooseByCosts_261 ⟨(Nat.zero_le _), (Nat.zero_le _)⟩) hS (fun q _ h => hf9 q h) hf9 (fun u t H locs ht hvm hw hB hz1 hk1 hS => ?_)
          obtain ⟨hP, hK9, hD9⟩ := hB
          rw [ht] at hP
          have hD := hD9.weaken (fun _ q _ h => hf9 q.1 h)
          refine lv_goto (tgt := 334) hx hb dX0_chooseByCosts_264 (by decide) ?_
          obtain rfl := Option.some.inj hF
          exact J32 _ _ _ hP hD hS (lv_sub hl [0, 1, 2, 3, 4] rfl)
      clear hF
      refine itr_rule (fun (s17 : Int32 × DD) => ∀ (H : Heap) (locs : List Loc) (ls : Array Slot), va_P D classes (wld ct ad G s17.2) H → va_D A (wld ct ad G s17.2) → va_S A s.heap H locs → lv_has ls 5 [(4, .int s17.1), (3, .int y15.2), (2, .int x5), (0, .ref (ad a)), (1, .int p0)] → W p l e (headSpec wsX0_chooseByCosts ({ frames := 6, cells := 0, slots := 0, locals := 175 })).room s m ([.ref (ad a), .int p0] : List Value).toArray below meth c H locs 0 0 (MQ below (va_Qv (fun (_ : Unit) => True) (fun _ t => kE D ct ad G A y t) A) ([.ref (ad a), .int p0] : List Value).toArray s 0 0 A) (F0 m 127 ls [])) ?_ _ _ hy16 _ _ _ hP hD hS (lv_sub hl [0, 1, 2, 3, 4] rfl)
      rintro s17 ⟨z55, hF, hwz55⟩ H locs ls hP hD hS hl
      try dsimp only at hF
      refine lv_iload hx hb dX0_chooseByCosts_127 (lv_at hl 0 rfl) ?_
      refine lv_iconst (v := (4 : Int32)) hx hb dX0_chooseByCosts_129 (by decide) ?_
      refine lv_icmp_ge (tgt := 199) hx hb dX0_chooseByCosts_130 (by decide) (fun c56 => ?_) (fun c56 => ?_)
      · rw [if_pos c56] at hF
        obtain rfl := Option.some.inj hF
        subst hwz55
        exact K16 _ _ _ hP hD hS (lv_sub hl [0, 1, 2, 3, 4] rfl)
      · rw [if_neg c56] at hF
        refine lv_iload hx hb dX0_chooseByCosts_133 (lv_at hl 0 rfl) ?_
        refine lv_iload_n hx hb dX0_chooseByCosts_135 rfl (lv_at hl 1 rfl) ?_
        obtain ⟨y57, hy57, hF⟩ := bnd_some hF
        have hf9 := wA_in hD hA9 hS
        refine va_calli (va_runS (As := [.int s17.1, .int y15.2]) (rest := []) ⟨hx, hb, hml, hown, hts⟩ (kX9_mayBeSixteen l D ct ad Z G s17.2 H.size s17.1 y15.2 y57 hy57) (va_cwS 2 hts gX0_chooseByCosts_X9_mayBeSixteen rfl rfl rfl (by decide +kernel) ⟨Nat.le_of_ble_eq_true rfl, Nat.le_of_ble_eq_true rfl⟩) ⟨fun a U g mk q => by obtain ⟨q0, q1, qP, qK, qD, qZ, qN⟩ := q; exact ⟨q0, q1, qP, va_K.moved (u := U) (U := U.calling g mk a) (Vm.Alike.refl U.vm) qK, qD, sF.moved (u := U) (U := U.calling g mk a) (Vm.Alike.refl U.vm) qZ, nF.same rfl qN⟩, fun U hU hW => ⟨rfl, by rw [hU], by rw [hU]; exact hP, va_K.moved hW.alike hK, hD.weaken (fun _ _ _ _ => trivial), by rw [hU]; exact ((hZ.kept hS.2.1).narrow hf9).moved hW.alike, hN.warm hW⟩⟩ rfl rfl hl.1 rfl (lv_room (Nat.le_of_ble_eq_true rfl)) dX0_chooseByCosts_136 ⟨(Nat.zero_le _), (Nat.zero_le _)⟩) hS (fun q _ h => hf9 q h) hf9 (fun r u t H locs ht hvm hw hB hz1 hk1 hS => ?_)
        obtain ⟨hP, hK9, hD9⟩ := hB
        rw [ht] at hP
        try dsimp only at hw
        subst hw
        have hD := hD9.weaken (fun _ q _ h => hf9 q.1 h)
        obtain ⟨y58, hy58, hF⟩ := bnd_some hF
        have J58 : ∀ (H : Heap) (locs : List Loc) (ls : Array Slot), va_P D classes (wld ct ad G y58) H → va_D A (wld ct ad G y58) → va_S A s.heap H locs → lv_has ls 5 [(4, .int s17.1), (3, .int y15.2), (2, .int x5), (0, .ref (ad a)), (1, .int p0)] → W p l e (headSpec wsX0_chooseByCosts ({ frames := 6, cells := 0, slots := 0, locals := 175 })).room s m ([.ref (ad a), .int p0] : List Value).toArray below meth c H locs 0 0 (MQ below (va_Qv (fun (_ : Unit) => True) (fun _ t => kE D ct ad G A y t) A) ([.ref (ad a), .int p0] : List Value).toArray s 0 0 A) (F0 m 193 ls []) := by
          intro H locs ls hP hD hS hl
          obtain ⟨x59, ex59, hF⟩ := ltt_some hF
          refine lv_iinc (v := x59) (lv' := [(4, .int x59), (3, .int y15.2), (2, .int x5), (0, .ref (ad a)), (1, .int p0)]) hx hb dX0_chooseByCosts_193 hl (k := 0) rfl (by rw [ex59]; rfl) (by decide) rfl (fun ls hl => ?_)
          refine lv_goto (tgt := 127) hx hb dX0_chooseByCosts_196 (by decide) ?_
          obtain rfl := Option.some.inj hF
          exact hwz55 _ _ _ hP hD hS (lv_sub hl [0, 1, 2, 3, 4] rfl)
        clear hF
        have hF := hy58
        clear hy58
        refine lv_if_eq (tgt := 193) hx hb dX0_chooseByCosts_139 (by decide) (fun c60 => ?_) (fun c60 => ?_)
        · rw [if_pos c60] at hF
          obtain rfl := Option.some.inj hF
          exact J58 _ _ _ hP hD hS (lv_sub hl [0, 1, 2, 3, 4] rfl)
        · rw [if_neg c60] at hF
          refine lv_aload_n hx hb dX0_chooseByCosts_142 rfl (lv_at hl 3 rfl) ?_
          refine va_get (D := D) (ci := 0) (v := va_re ad (y57.1.2 a 4)) (C := RX0) (T := TX0) (N := 21) hx hb hts (by decide +kernel) hown hK hP a (wld_o ct ad G y57.1 hc hk (by decide)) rfl 4 (by decide) (hts (.fieldLink RX0 43 "VideoSuite$Coder" "samples" "LVideoSuite$Samples;") (by decide +kernel)) (fun _ h9 => h9) rfl dX0_chooseByCosts_143 ?_
          refine lv_aload_n hx hb dX0_chooseByCosts_146 rfl (lv_at hl 3 rfl) ?_
          refine va_get (D := D) (ci := 0) (v := va_re ad (y57.1.2 a 3)) (C := RX0) (T := TX0) (N := 21) hx hb hts (by decide +kernel) hown hK hP a (wld_o ct ad G y57.1 hc hk (by decide)) rfl 3 (by decide) (hts (.fieldLink RX0 36 "VideoSuite$Coder" "work" "LVideoSuite$Work;") (by decide +kernel)) (fun _ h9 => h9) rfl dX0_chooseByCosts_147 ?_
          refine lv_iload_n hx hb dX0_chooseByCosts_150 rfl (lv_at hl 4 rfl) ?_
          refine lv_iload hx hb dX0_chooseByCosts_151 (lv_at hl 0 rfl) ?_
          refine lv_iload_n hx hb dX0_chooseByCosts_153 rfl (lv_at hl 1 rfl) ?_
          obtain ⟨b61, ho61, hc61, hk61, hF⟩ := dr_some hF
          refine W_st (st' := [.int y15.2, .int s17.1, .int p0, va_re ad (y57.1.2 a 3), .ref (ad b61)]) (by rw [va_some ho61]) ?_
          obtain ⟨y62, hy62, hF⟩ := bnd_some hF
          have hf9 := wA_in hD hA9 hS
          refine va_callv (va_runV (As := [va_re ad (y57.1.2 a 3), .int p0, .int s17.1, .int y15.2]) (rest := []) ⟨hx, hb, hml, hown, hts⟩ (kX6_predictSixteen l D ct ad Z G y57.1 H.size b61 ((y57.1.2 a 3)) p0 s17.1 y15.2 y62 hc61 hk61 hy62) (cwV 4 hts gX0_chooseByCosts_X6_predictSixteen rfl rfl rfl (by decide +kernel) ⟨Nat.le_of_ble_eq_true rfl, Nat.le_of_ble_eq_true rfl⟩) ⟨fun a U g mk q => by obtain ⟨q0, q1, qP, qK, qD, qZ, qN⟩ := q; exact ⟨q0, q1, qP, va_K.moved (u := U) (U := U.calling g mk a) (Vm.Alike.refl U.vm) qK, qD, sF.moved (u := U) (U := U.calling g mk a) (Vm.Alike.refl U.vm) qZ, nF.same rfl qN⟩, va_recv hK hP (ci := 6) (q0 := b61) rfl (wld_o ct ad G y57.1 hc61 hk61 (by decide)), fun U hU hW => ⟨rfl, by rw [hU], by rw [hU]; exact hP, va_K.moved hW.alike hK, hD.weaken (fun _ _ _ _ => trivial), by rw [hU]; exact ((hZ.kept hS.2.1).narrow hf9).moved hW.alike, hN.warm hW⟩⟩ rfl rfl hl.1 rfl (lv_room (Nat.le_of_ble_eq_true rfl)) dX0_chooseByCosts_154 ⟨(Nat.zero_le _), (Nat.zero_le _)⟩) hS (fun q _ h => hf9 q h) hf9 (fun u t H locs ht hvm hw hB hz1 hk1 hS => ?_)
          obtain ⟨hP, hK9, hD9⟩ := hB
          rw [ht] at hP
          have hD := hD9.weaken (fun _ q _ h => hf9 q.1 h)
          refine lv_aload_n hx hb dX0_chooseByCosts_157 rfl (lv_at hl 3 rfl) ?_
          refine lv_aload_n hx hb dX0_chooseByCosts_158 rfl (lv_at hl 3 rfl) ?_
          refine va_get (D := D) (ci := 0) (v := va_re ad (y62.2 a 4)) (C := RX0) (T := TX0) (N := 21) hx hb hts (by decide +kernel) hown hK hP a (wld_o ct ad G y62 hc hk (by decide)) rfl 4 (by decide) (hts (.fieldLink RX0 43 "VideoSuite$Coder" "samples" "LVideoSuite$Samples;") (by decide +kernel)) (fun _ h9 => h9) rfl dX0_chooseByCosts_159 ?_
          refine lv_aload_n hx hb dX0_chooseByCosts_162 rfl (lv_at hl 3 rfl) ?_
          refine va_get (D := D) (ci := 0) (v := va_re ad (y62.2 a 3)) (C := RX0) (T := TX0) (N := 21) hx hb hts (by decide +kernel) hown hK hP a (wld_o ct ad G y62 hc hk (by decide)) rfl 3 (by decide) (hts (.fieldLink RX0 36 "VideoSuite$Coder" "work" "LVideoSuite$Work;") (by decide +kernel)) (fun _ h9 => h9) rfl dX0_chooseByCosts_163 ?_
          refine lv_aload_n hx hb dX0_chooseByCosts_166 rfl (lv_at hl 3 rfl) ?_
          refine va_get (D := D) (ci := 0) (v := va_re ad (y62.2 a 9)) (C := RX0) (T := TX0) (N := 21) hx hb hts (by decide +kernel) hown hK hP a (wld_o ct ad G y62 hc hk (by decide)) rfl 9 (by decide) (hts (.fieldLink RX0 69 "VideoSuite$Coder" "source" "[[I") (by decide +kernel)) (fun _ h9 => h9) rfl dX0_chooseByCosts_167 ?_
          refine lv_iconst (v := (0 : Int32)) hx hb dX0_chooseByCosts_170 (by decide) ?_
          obtain ⟨b63, ho63, hc63, hk63, hF⟩ := dr_some hF
          refine W_st (st' := [.int (0 : Int32), .ref (ad b63), va_re ad (y62.2 a 3), va_re ad (y62.2 a 4), .ref (ad a)]) (by rw [va_some ho63]) ?_
          obtain ⟨hvc, hF⟩ := chk_some hF
          refine ld_g hx hb hK hP hc63 hk63 hvc dX0_chooseByCosts_171 ?_
          refine lv_iload_n hx hb dX0_chooseByCosts_172 rfl (lv_at hl 4 rfl) ?_
          refine lv_iconst (v := (0 : Int32)) hx hb dX0_chooseByCosts_173 (by decide) ?_
          refine lv_bipush (v := (16 : Int32)) hx hb dX0_chooseByCosts_174 (by decide) ?_
          obtain ⟨b64, ho64, hc64, hk64, hF⟩ := dr_some hF
          refine W_st (st' := [.int (16 : Int32), .int (0 : Int32), .int p0, va_re ad (y62.2 b63 ((0 : Int32)).toNatClampNeg), va_re ad (y62.2 a 3), .ref (ad b64), .ref (ad a)]) (by rw [va_some ho64]) ?_
          obtain ⟨y65, hy65, hF⟩ := bnd_some hF
          have hf9 := wA_in hD hA9 hS
          refine va_calli (va_runV (As := [va_re ad (y62.2 a 3), va_re ad (y62.2 b63 ((0 : Int32)).toNatClampNeg), .int p0, .int (0 : Int32), .int (16 : Int32)]) (rest := [.ref (ad a)]) ⟨hx, hb, hml, hown, hts⟩ (kX6_differences l D ct ad Z G y62 H.size b64 ((y62.2 a 3)) ((y62.2 b63 ((0 : Int32)).toNatClampNeg)) p0 ((0 : Int32)) ((16 : Int32)) y65 hc64 hk64 hy65) (cwV 5 hts gX0_chooseByCosts_X6_differences rfl rfl rfl (by decide +kernel) ⟨Nat.le_of_ble_eq_true rfl, Nat.le_of_ble_eq_true rfl⟩) ⟨fun a U g mk q => by obtain ⟨q0, q1, qP, qK, qD, qZ, qN⟩ := q; exact ⟨q0, q1, qP, va_K.moved (u := U) (U := U.calling g mk a) (Vm.Alike.refl U.vm) qK, qD, sF.moved (u := U) (U := U.calling g mk a) (Vm.Alike.refl U.vm) qZ, nF.same rfl qN⟩, va_recv hK hP (ci := 6) (q0 := b64) rfl (wld_o ct ad G y62 hc64 hk64 (by decide)), fun U hU hW => ⟨rfl, by rw [hU], by rw [hU]; exact hP, va_K.moved hW.alike hK, hD.weaken (fun _ _ _ _ => trivial), by rw [hU]; exact ((hZ.kept hS.2.1).narrow hf9).moved hW.alike, hN.warm hW⟩⟩ rfl rfl hl.1 rfl (lv_room (Nat.le_of_ble_eq_true rfl)) dX0_chooseByCosts_176 ⟨(Nat.zero_le _), (Nat.zero_le _)⟩) hS (fun q _ h => hf9 q h) hf9 (fun r u t H locs ht hvm hw hB hz1 hk1 hS => ?_)
          obtain ⟨hP, hK9, hD9⟩ := hB
          rw [ht] at hP
          try dsimp only at hw
          subst hw
          have hD := hD9.weaken (fun _ q _ h => hf9 q.1 h)
          refine lv_bipush (v := (8 : Int32)) hx hb dX0_chooseByCosts_179 (by decide) ?_
          refine lv_aload_n hx hb dX0_chooseByCosts_181 rfl (lv_at hl 3 rfl) ?_
          obtain ⟨y66, hy66, hF⟩ := bnd_some hF
          have hf9 := wA_in hD hA9 hS
          refine va_calli (va_runV (As := []) (rest := [.int (8 : Int32), .int y65.2, .ref (ad a)]) ⟨hx, hb, hml, hown, hts⟩ (kX0_priceOfBit l D ct ad Z G y65.1 H.size a y66 hc hk hy66) (cwV 0 hts gX0_chooseByCosts_X0_priceOfBit rfl rfl rfl (by decide +kernel) ⟨Nat.le_of_ble_eq_true rfl, Nat.le_of_ble_eq_true rfl⟩) ⟨fun a U g mk q => by obtain ⟨q0, q1, qP, qK, qD, qZ, qN⟩ := q; exact ⟨q0, q1, qP, va_K.moved (u := U) (U := U.calling g mk a) (Vm.Alike.refl U.vm) qK, qD, sF.moved (u := U) (U := U.calling g mk a) (Vm.Alike.refl U.vm) qZ, nF.same rfl qN⟩, va_recv hK hP (ci := 0) (q0 := a) rfl (wld_o ct ad G y65.1 hc hk (by decide)), fun U hU hW => ⟨rfl, by rw [hU], by rw [hU]; exact hP, va_K.moved hW.alike hK, hD.weaken (fun _ _ _ _ => trivial), by rw [hU]; exact ((hZ.kept hS.2.1).narrow hf9).moved hW.alike, hN.warm hW⟩⟩ rfl rfl hl.1 rfl (lv_room (Nat.le_of_ble_eq_true rfl)) dX0_chooseByCosts_182 ⟨(Nat.zero_le _), (Nat.zero_le _)⟩) hS (fun q _ h => hf9 q h) hf9 (fun r u t H locs ht hvm hw hB hz1 hk1 hS => ?_)
          obtain ⟨hP, hK9, hD9⟩ := hB
          rw [ht] at hP
          try dsimp only at hw
          subst hw
          have hD := hD9.weaken (fun _ q _ h => hf9 q.1 h)
          refine lv_imul hx hb dX0_chooseByCosts_185 ?_
          obtain ⟨x67, ex67, hF⟩ := ltt_some hF
          refine lv_topi (fun zx67 ezx67 => ?_)
          obtain rfl : x67 = zx67 := ex67.trans ezx67.symm
          refine lv_iadd hx hb dX0_chooseByCosts_186 ?_
          obtain ⟨x68, ex68, hF⟩ := ltt_some hF
          refine lv_topi (fun zx68 ezx68 => ?_)
          obtain rfl : x68 = zx68 := ex68.trans ezx68.symm
          refine lv_iconst (v := (1 : Int32)) hx hb dX0_chooseByCosts_187 (by decide) ?_
          refine lv_iload hx hb dX0_chooseByCosts_188 (lv_at hl 0 rfl) ?_
          obtain ⟨y69, hy69, hF⟩ := bnd_some hF
          have hf9 := wA_in hD hA9 hS
          refine va_callv (va_runV (As := [.int x68, .int (1 : Int32), .int s17.1]) (rest := []) ⟨hx, hb, hml, hown, hts⟩ (kX0_offer l D ct ad Z G y66.1 H.size a x68 ((1 : Int32)) s17.1 y69 hc hk hy69) (cwV 3 hts gX0_chooseByCosts_X0_offer rfl rfl rfl (by decide +kernel) ⟨Nat.le_of_ble_eq_true rfl, Nat.le_of_ble_eq_true rfl⟩) ⟨fun a U g mk q => by obtain ⟨q0, q1, qP, qK, qD, qZ, qN⟩ := q; exact ⟨q0, q1, qP, va_K.moved (u := U) (U := U.calling g mk a) (Vm.Alike.refl U.vm) qK, qD, sF.moved (u := U) (U := U.calling g mk a) (Vm.Alike.refl U.vm) qZ, nF.same rfl qN⟩, va_recv hK hP (ci := 0) (q0 := a) rfl (wld_o ct ad G y66.1 hc hk (by decide)), fun U hU hW => ⟨rfl, by rw [hU], by rw [hU]; exact hP, va_K.moved hW.alike hK, hD.weaken (fun _ _ _ _ => trivial), by rw [hU]; exact ((hZ.kept hS.2.1).narrow hf9).moved hW.alike, hN.warm hW⟩⟩ rfl rfl hl.1 rfl (lv_room (Nat.le_of_ble_eq_true rfl)) dX0_chooseByCosts_190 ⟨(Nat.zero_le _), (Nat.zero_le _)⟩) hS (fun q _ h => hf9 q h) hf9 (fun u t H locs ht hvm hw hB hz1 hk1 hS => ?_)
          obtain ⟨hP, hK9, hD9⟩ := hB
          rw [ht] at hP
          have hD := hD9.weaken (fun _ q _ h => hf9 q.1 h)
          obtain rfl := Option.some.inj hF
          exact J58 _ _ _ hP hD hS (lv_sub hl [0, 1, 2, 3, 4] rfl)
    clear hF
    have hF := hy13
    clear hy13
    refine lv_icmp_ne (tgt := 115) hx hb dX0_chooseByCosts_72 (by decide) (fun c70 => ?_) (fun c70 => ?_)
    · rw [if_neg c70] at hF
      obtain rfl := Option.some.inj hF
      exact J13 _ _ _ hP hD hS (lv_sub hl [0, 1, 2] rfl)
    · rw [if_pos c70] at hF
      refine lv_aload_n hx hb dX0_chooseByCosts_75 rfl (lv_at hl 1 rfl) ?_
      refine lv_iload_n hx hb dX0_chooseByCosts_76 rfl (lv_at hl 2 rfl) ?_
      refine lv_iconst (v := (1 : Int32)) hx hb dX0_chooseByCosts_77 (by decide) ?_
      obtain ⟨y71, hy71, hF⟩ := bnd_some hF
      have hf9 := wA_in hD hA9 hS
      refine va_callv (va_runV (As := [.int p0, .int (1 : Int32)]) (rest := []) ⟨hx, hb, hml, hown, hts⟩ (kX0_searchList l D ct ad Z G y12 H.size a p0 ((1 : Int32)) y71 hc hk hy71) (cwV 2 hts gX0_chooseByCosts_X0_searchList rfl rfl rfl (by decide +kernel) ⟨Nat.le_of_ble_eq_true rfl, Nat.le_of_ble_eq_true rfl⟩) ⟨fun a U g mk q => by obtain ⟨q0, q1, qP, qK, qD, qZ, qN⟩ := q; exact ⟨q0, q1, qP, va_K.moved (u := U) (U := U.calling g mk a) (Vm.Alike.refl U.vm) qK, qD, sF.moved (u := U) (U := U.calling g mk a) (Vm.Alike.refl U.vm) qZ, nF.same rfl qN⟩, va_recv hK hP (ci := 0) (q0 := a) rfl (wld_o ct ad G y12 hc hk (by decide)), fun U hU hW => ⟨rfl, by rw [hU], by rw [hU]; exact hP, va_K.moved hW.alike hK, hD.weaken (fun _ _ _ _ => trivial), by rw [hU]; exact ((hZ.kept hS.2.1).narrow hf9).moved hW.alike, hN.warm hW⟩⟩ rfl rfl hl.1 rfl (lv_room (Nat.le_of_ble_eq_true rfl)) dX0_chooseByCosts_78 ⟨(Nat.zero_le _), (Nat.zero_le _)⟩) hS (fun q _ h => hf9 q h) hf9 (fun u t H locs ht hvm hw hB hz1 hk1 hS => ?_)
      obtain ⟨hP, hK9, hD9⟩ := hB
      rw [ht] at hP
      have hD := hD9.weaken (fun _ q _ h => hf9 q.1 h)
      refine lv_aload_n hx hb dX0_chooseByCosts_81 rfl (lv_at hl 1 rfl) ?_
      refine lv_aload_n hx hb dX0_chooseByCosts_82 rfl (lv_at hl 1 rfl) ?_
      refine va_get (D := D) (ci := 0) (v := va_re ad (y71.2 a 20)) (C := RX0) (T := TX0) (N := 21) hx hb hts (by decide +kernel) hown hK hP a (wld_o ct ad G y71 hc hk (by decide)) rfl 20 (by decide) (hts (.fieldLink RX0 75 "VideoSuite$Coder" "choice" "[I") (by decide +kernel)) (fun _ h9 => h9) rfl dX0_chooseByCosts_83 ?_
      refine lv_iconst (v := (5 : Int32)) hx hb dX0_chooseByCosts_86 (by decide) ?_
      obtain ⟨b72, ho72, hc72, hk72, hF⟩ := dr_some hF
      refine W_st (st' := [.int (5 : Int32), .ref (ad b72), .ref (ad a)]) (by rw [va_some ho72]) ?_
      obtain ⟨hvc, hF⟩ := chk_some hF
      refine va_iald hx hb hK hP b72 1 (wld_i ct ad G y71 hc72 hk72) rfl hvc dX0_chooseByCosts_87 ?_
      obtain ⟨x73, ex73, hF⟩ := ltt_some hF
      refine lv_topi (fun zx73 ezx73 => ?_)
      obtain rfl : x73 = zx73 := ex73.trans ezx73.symm
      refine lv_iconst (v := (3 : Int32)) hx hb dX0_chooseByCosts_88 (by decide) ?_
      refine lv_iconst (v := (2 : Int32)) hx hb dX0_chooseByCosts_89 (by decide) ?_
      obtain ⟨y74, hy74, hF⟩ := bnd_some hF
      have hf9 := wA_in hD hA9 hS
      refine va_callv (va_runV (As := [.int x73, .int (3 : Int32), .int (2 : Int32)]) (rest := []) ⟨hx, hb, hml, hown, hts⟩ (kX0_offer l D ct ad Z G y71 H.size a x73 ((3 : Int32)) ((2 : Int32)) y74 hc hk hy74) (cwV 3 hts gX0_chooseByCosts_X0_offer rfl rfl rfl (by decide +kernel) ⟨Nat.le_of_ble_eq_true rfl, Nat.le_of_ble_eq_true rfl⟩) ⟨fun a U g mk q => by obtain ⟨q0, q1, qP, qK, qD, qZ, qN⟩ := q; exact ⟨q0, q1, qP, va_K.moved (u := U) (U := U.calling g mk a) (Vm.Alike.refl U.vm) qK, qD, sF.moved (u := U) (U := U.calling g mk a) (Vm.Alike.refl U.vm) qZ, nF.same rfl qN⟩, va_recv hK hP (ci := 0) (q0 := a) rfl (wld_o ct ad G y71 hc hk (by decide)), fun U hU hW => ⟨rfl, by rw [hU], by rw [hU]; exact hP, va_K.moved hW.alike hK, hD.weaken (fun _ _ _ _ => trivial), by rw [hU]; exact ((hZ.kept hS.2.1).narrow hf9).moved hW.alike, hN.warm hW⟩⟩ rfl rfl hl.1 rfl (lv_room (Nat.le_of_ble_eq_true rfl)) dX0_chooseByCosts_90 ⟨(Nat.zero_le _), (Nat.zero_le _)⟩) hS (fun q _ h => hf9 q h) hf9 (fun u t H locs ht hvm hw hB hz1 hk1 hS => ?_)
      obtain ⟨hP, hK9, hD9⟩ := hB
      rw [ht] at hP
      have hD := hD9.weaken (fun _ q _ h => hf9 q.1 h)
      refine lv_aload_n hx hb dX0_chooseByCosts_93 rfl (lv_at hl 1 rfl) ?_
      refine lv_aload_n hx hb dX0_chooseByCosts_94 rfl (lv_at hl 1 rfl) ?_
      refine lv_iload_n hx hb dX0_chooseByCosts_95 rfl (lv_at hl 2 rfl) ?_
      obtain ⟨y75, hy75, hF⟩ := bnd_some hF
      have hf9 := wA_in hD hA9 hS
      refine va_calli (va_runV (As := [.int p0]) (rest := [.ref (ad a)]) ⟨hx, hb, hml, hown, hts⟩ (kX0_costOfBoth l D ct ad Z G y74 H.size a p0 y75 hc hk hy75) (cwV 1 hts gX0_chooseByCosts_X0_costOfBoth rfl rfl rfl (by decide +kernel) ⟨Nat.le_of_ble_eq_true rfl, Nat.le_of_ble_eq_true rfl⟩) ⟨fun a U g mk q => by obtain ⟨q0, q1, qP, qK, qD, qZ, qN⟩ := q; exact ⟨q0, q1, qP, va_K.moved (u := U) (U := U.calling g mk a) (Vm.Alike.refl U.vm) qK, qD, sF.moved (u := U) (U := U.calling g mk a) (Vm.Alike.refl U.vm) qZ, nF.same rfl qN⟩, va_recv hK hP (ci := 0) (q0 := a) rfl (wld_o ct ad G y74 hc hk (by decide)), fun U hU hW => ⟨rfl, by rw [hU], by rw [hU]; exact hP, va_K.moved hW.alike hK, hD.weaken (fun _ _ _ _ => trivial), by rw [hU]; exact ((hZ.kept hS.2.1).narrow hf9).moved hW.alike, hN.warm hW⟩⟩ rfl rfl hl.1 rfl (lv_room (Nat.le_of_ble_eq_true rfl)) dX0_chooseByCosts_96 ⟨(Nat.zero_le _), (Nat.zero_le _)⟩) hS (fun q _ h => hf9 q h) hf9 (fun r u t H locs ht hvm hw hB hz1 hk1 hS => ?_)
      obtain ⟨hP, hK9, hD9⟩ := hB
      rw [ht] at hP
      try dsimp only at hw
      subst hw
      have hD := hD9.weaken (fun _ q _ h => hf9 q.1 h)
      refine lv_iconst (v := (3 : Int32)) hx hb dX0_chooseByCosts_99 (by decide) ?_
      refine lv_iconst (v := (3 : Int32)) hx hb dX0_chooseByCosts_100 (by decide) ?_
      obtain ⟨y76, hy76, hF⟩ := bnd_some hF
      have hf9 := wA_in hD hA9 hS
      refine va_callv (va_runV (As := [.int y75.2, .int (3 : Int32), .int (3 : Int32)]) (rest := []) ⟨hx, hb, hml, hown, hts⟩ (kX0_offer l D ct ad Z G y75.1 H.size a y75.2 ((3 : Int32)) ((3 : Int32)) y76 hc hk hy76) (cwV 3 hts gX0_chooseByCosts_X0_offer rfl rfl rfl (by decide +kernel) ⟨Nat.le_of_ble_eq_true rfl, Nat.le_of_ble_eq_true rfl⟩) ⟨fun a U g mk q => by obtain ⟨q0, q1, qP, qK, qD, qZ, qN⟩ := q; exact ⟨q0, q1, qP, va_K.moved (u := U) (U := U.calling g mk a) (Vm.Alike.refl U.vm) qK, qD, sF.moved (u := U) (U := U.calling g mk a) (Vm.Alike.refl U.vm) qZ, nF.same rfl qN⟩, va_recv hK hP (ci := 0) (q0 := a) rfl (wld_o ct ad G y75.1 hc hk (by decide)), fun U hU hW => ⟨rfl, by rw [hU], by rw [hU]; exact hP, va_K.moved hW.alike hK, hD.weaken (fun _ _ _ _ => trivial), by rw [hU]; exact ((hZ.kept hS.2.1).narrow hf9).moved hW.alike, hN.warm hW⟩⟩ rfl rfl hl.1 rfl (lv_room (Nat.le_of_ble_eq_true rfl)) dX0_chooseByCosts_101 ⟨(Nat.zero_le _), (Nat.zero_le _)⟩) hS (fun q _ h => hf9 q h) hf9 (fun u t H locs ht hvm hw hB hz1 hk1 hS => ?_)
      obtain ⟨hP, hK9, hD9⟩ := hB
      rw [ht] at hP
      have hD := hD9.weaken (fun _ q _ h => hf9 q.1 h)
      refine lv_aload_n hx hb dX0_chooseByCosts_104 rfl (lv_at hl 1 rfl) ?_
      refine lv_aload_n hx hb dX0_chooseByCosts_105 rfl (lv_at hl 1 rfl) ?_
      refine lv_iload_n hx hb dX0_chooseByCosts_106 rfl (lv_at hl 2 rfl) ?_
      obtain ⟨y77, hy77, hF⟩ := bnd_some hF
      have hf9 := wA_in hD hA9 hS
      refine va_calli (va_runV (As := [.int p0]) (rest := [.ref (ad a)]) ⟨hx, hb, hml, hown, hts⟩ (kX0_costOfDirect l D ct ad Z G y76 H.size a p0 y77 hc hk hy77) (cwV 1 hts gX0_chooseByCosts_X0_costOfDirect rfl rfl rfl (by decide +kernel) ⟨Nat.le_of_ble_eq_true rfl, Nat.le_of_ble_eq_true rfl⟩) ⟨fun a U g mk q => by obtain ⟨q0, q1, qP, qK, qD, qZ, qN⟩ := q; exact ⟨q0, q1, qP, va_K.moved (u := U) (U := U.calling g mk a) (Vm.Alike.refl U.vm) qK, qD, sF.moved (u := U) (U := U.calling g mk a) (Vm.Alike.refl U.vm) qZ, nF.same rfl qN⟩, va_recv hK hP (ci := 0) (q0 := a) rfl (wld_o ct ad G y76 hc hk (by decide)), fun U hU hW => ⟨rfl, by rw [hU], by rw [hU]; exact hP, va_K.moved hW.alike hK, hD.weaken (fun _ _ _ _ => trivial), by rw [hU]; exact ((hZ.kept hS.2.1).narrow hf9).moved hW.alike, hN.warm hW⟩⟩ rfl rfl hl.1 rfl (lv_room (Nat.le_of_ble_eq_true rfl)) dX0_chooseByCosts_107 ⟨(Nat.zero_le _), (Nat.zero_le _)⟩) hS (fun q _ h => hf9 q h) hf9 (fun r u t H locs ht hvm hw hB hz1 hk1 hS => ?_)
      obtain ⟨hP, hK9, hD9⟩ := hB
      rw [ht] at hP
      try dsimp only at hw
      subst hw
      have hD := hD9.weaken (fun _ q _ h => hf9 q.1 h)
      refine lv_iconst (v := (3 : Int32)) hx hb dX0_chooseByCosts_110 (by decide) ?_
      refine lv_iconst (v := (0 : Int32)) hx hb dX0_chooseByCosts_111 (by decide) ?_
      obtain ⟨y78, hy78, hF⟩ := bnd_some hF
      have hf9 := wA_in hD hA9 hS
      refine va_callv (va_runV (As := [.int y77.2, .int (3 : Int32), .int (0 : Int32)]) (rest := []) ⟨hx, hb, hml, hown, hts⟩ (kX0_offer l D ct ad Z G y77.1 H.size a y77.2 ((3 : Int32)) ((0 : Int32)) y78 hc hk hy78) (cwV 3 hts gX0_chooseByCosts_X0_offer rfl rfl rfl (by decide +kernel) ⟨Nat.le_of_ble_eq_true rfl, Nat.le_of_ble_eq_true rfl⟩) ⟨fun a U g mk q => by obtain ⟨q0, q1, qP, qK, qD, qZ, qN⟩ := q; exact ⟨q0, q1, qP, va_K.moved (u := U) (U := U.calling g mk a) (Vm.Alike.refl U.vm) qK, qD, sF.moved (u := U) (U := U.calling g mk a) (Vm.Alike.refl U.vm) qZ, nF.same rfl qN⟩, va_recv hK hP (ci := 0) (q0 := a) rfl (wld_o ct ad G y77.1 hc hk (by decide)), fun U hU hW => ⟨rfl, by rw [hU], by rw [hU]; exact hP, va_K.moved hW.alike hK, hD.weaken (fun _ _ _ _ => trivial), by rw [hU]; exact ((hZ.kept hS.2.1).narrow hf9).moved hW.alike, hN.warm hW⟩⟩ rfl rfl hl.1 rfl (lv_room (Nat.le_of_ble_eq_true rfl)) dX0_chooseByCosts_112 ⟨(Nat.zero_le _), (Nat.zero_le _)⟩) hS (fun q _ h => hf9 q h) hf9 (fun u t H locs ht hvm hw hB hz1 hk1 hS => ?_)
      obtain ⟨hP, hK9, hD9⟩ := hB
      rw [ht] at hP
      have hD := hD9.weaken (fun _ q _ h => hf9 q.1 h)
      obtain rfl := Option.some.inj hF
      exact J13 _ _ _ hP hD hS (lv_sub hl [0, 1, 2] rfl)
  clear hF
  have hF := hy12
  clear hy12
  refine lv_icmp_eq (tgt := 70) hx hb dX0_chooseByCosts_41 (by decide) (fun c79 => ?_) (fun c79 => ?_)
  · rw [if_pos c79] at hF
    obtain rfl := Option.some.inj hF
    exact J12 _ _ _ hP hD hS (lv_sub hl [0, 1, 2] rfl)
  · rw [if_neg c79] at hF
    refine lv_aload_n hx hb dX0_chooseByCosts_44 rfl (lv_at hl 1 rfl) ?_
    refine lv_iload_n hx hb dX0_chooseByCosts_45 rfl (lv_at hl 2 rfl) ?_
    refine lv_iconst (v := (0 : Int32)) hx hb dX0_chooseByCosts_46 (by decide) ?_
    obtain ⟨y80, hy80, hF⟩ := bnd_some hF
    have hf9 := wA_in hD hA9 hS
    refine va_callv (va_runV (As := [.int p0, .int (0 : Int32)]) (rest := []) ⟨hx, hb, hml, hown, hts⟩ (kX0_searchList l D ct ad Z G M11 H.size a p0 ((0 : Int32)) y80 hc hk hy80) (cwV 2 hts gX0_chooseByCosts_X0_searchList rfl rfl rfl (by decide +kernel) ⟨Nat.le_of_ble_eq_true rfl, Nat.le_of_ble_eq_true rfl⟩) ⟨fun a U g mk q => by obtain ⟨q0, q1, qP, qK, qD, qZ, qN⟩ := q; exact ⟨q0, q1, qP, va_K.moved (u := U) (U := U.calling g mk a) (Vm.Alike.refl U.vm) qK, qD, sF.moved (u := U) (U := U.calling g mk a) (Vm.Alike.refl U.vm) qZ, nF.same rfl qN⟩, va_recv hK hP (ci := 0) (q0 := a) rfl (wld_o ct ad G M11 hc hk (by decide)), fun U hU hW => ⟨rfl, by rw [hU], by rw [hU]; exact hP, va_K.moved hW.alike hK, hD.weaken (fun _ _ _ _ => trivial), by rw [hU]; exact ((hZ.kept hS.2.1).narrow hf9).moved hW.alike, hN.warm hW⟩⟩ rfl rfl hl.1 rfl (lv_room (Nat.le_of_ble_eq_true rfl)) dX0_chooseByCosts_47 ⟨(Nat.zero_le _), (Nat.zero_le _)⟩) hS (fun q _ h => hf9 q h) hf9 (fun u t H locs ht hvm hw hB hz1 hk1 hS => ?_)
    obtain ⟨hP, hK9, hD9⟩ := hB
    rw [ht] at hP
    have hD := hD9.weaken (fun _ q _ h => hf9 q.1 h)
    refine lv_aload_n hx hb dX0_chooseByCosts_50 rfl (lv_at hl 1 rfl) ?_
    refine lv_aload_n hx hb dX0_chooseByCosts_51 rfl (lv_at hl 1 rfl) ?_
    refine va_get (D := D) (ci := 0) (v := va_re ad (y80.2 a 20)) (C := RX0) (T := TX0) (N := 21) hx hb hts (by decide +kernel) hown hK hP a (wld_o ct ad G y80 hc hk (by decide)) rfl 20 (by decide) (hts (.fieldLink RX0 75 "VideoSuite$Coder" "choice" "[I") (by decide +kernel)) (fun _ h9 => h9) rfl dX0_chooseByCosts_52 ?_
    refine lv_iconst (v := (0 : Int32)) hx hb dX0_chooseByCosts_55 (by decide) ?_
    obtain ⟨b81, ho81, hc81, hk81, hF⟩ := dr_some hF
    refine W_st (st' := [.int (0 : Int32), .ref (ad b81), .ref (ad a)]) (by rw [va_some ho81]) ?_
    obtain ⟨hvc, hF⟩ := chk_some hF
    refine va_iald hx hb hK hP b81 1 (wld_i ct ad G y80 hc81 hk81) rfl hvc dX0_chooseByCosts_56 ?_
    obtain ⟨x82, ex82, hF⟩ := ltt_some hF
    refine lv_topi (fun zx82 ezx82 => ?_)
    obtain rfl : x82 = zx82 := ex82.trans ezx82.symm
    refine lv_iconst (v := (3 : Int32)) hx hb dX0_chooseByCosts_57 (by decide) ?_
    refine lv_iload_n hx hb dX0_chooseByCosts_58 rfl (lv_at hl 0 rfl) ?_
    obtain ⟨y83, hy83, hF⟩ := bnd_some hF
    have J83 : ∀ (H : Heap) (locs : List Loc) (ls : Array Slot), va_P D classes (wld ct ad G y80) H → va_D A (wld ct ad G y80) → va_S A s.heap H locs → lv_has ls 5 [(2, .int x5), (0, .ref (ad a)), (1, .int p0)] → W p l e (headSpec wsX0_chooseByCosts ({ frames := 6, cells := 0, slots := 0, locals := 175 })).room s m ([.ref (ad a), .int p0] : List Value).toArray below meth c H locs 0 0 (MQ below (va_Qv (fun (_ : Unit) => True) (fun _ t => kE D ct ad G A y t) A) ([.ref (ad a), .int p0] : List Value).toArray s 0 0 A) (F0 m 67 ls [.int y83, .int (3 : Int32), .int x82, .ref (ad a)]) := by
      intro H locs ls hP hD hS hl
      obtain ⟨y84, hy84, hF⟩ := bnd_some hF
      have hf9 := wA_in hD hA9 hS
      refine va_callv (va_runV (As := [.int x82, .int (3 : Int32), .int y83]) (rest := []) ⟨hx, hb, hml, hown, hts⟩ (kX0_offer l D ct ad Z G y80 H.size a x82 ((3 : Int32)) y83 y84 hc hk hy84) (cwV 3 hts gX0_chooseByCosts_X0_offer rfl rfl rfl (by decide +kernel) ⟨Nat.le_of_ble_eq_true rfl, Nat.le_of_ble_eq_true rfl⟩) ⟨fun a U g mk q => by obtain ⟨q0, q1, qP, qK, qD, qZ, qN⟩ := q; exact ⟨q0, q1, qP, va_K.moved (u := U) (U := U.calling g mk a) (Vm.Alike.refl U.vm) qK, qD, sF.moved (u := U) (U := U.calling g mk a) (Vm.Alike.refl U.vm) qZ, nF.same rfl qN⟩, va_recv hK hP (ci := 0) (q0 := a) rfl (wld_o ct ad G y80 hc hk (by decide)), fun U hU hW => ⟨rfl, by rw [hU], by rw [hU]; exact hP, va_K.moved hW.alike hK, hD.weaken (fun _ _ _ _ => trivial), by rw [hU]; exact ((hZ.kept hS.2.1).narrow hf9).moved hW.alike, hN.warm hW⟩⟩ rfl rfl hl.1 rfl (lv_room (Nat.le_of_ble_eq_true rfl)) dX0_chooseByCosts_67 ⟨(Nat.zero_le _), (Nat.zero_le _)⟩) hS (fun q _ h => hf9 q h) hf9 (fun u t H locs ht hvm hw hB hz1 hk1 hS => ?_)
      obtain ⟨hP, hK9, hD9⟩ := hB
      rw [ht] at hP
      have hD := hD9.weaken (fun _ q _ h => hf9 q.1 h)
      obtain rfl := Option.some.inj hF
      exact J12 _ _ _ hP hD hS (lv_sub hl [0, 1, 2] rfl)
    clear hF
    have hF := hy83
    clear hy83
    refine lv_if_ne (tgt := 66) hx hb dX0_chooseByCosts_59 (by decide) (fun c85 => ?_) (fun c85 => ?_)
    · rw [if_neg c85] at hF
      refine lv_iconst (v := (1 : Int32)) hx hb dX0_chooseByCosts_66 (by decide) ?_
      obtain rfl := Option.some.inj hF
      exact J83 _ _ _ hP hD hS (lv_sub hl [0, 1, 2] rfl)
    · rw [if_pos c85] at hF
      refine lv_iconst (v := (0 : Int32)) hx hb dX0_chooseByCosts_62 (by decide) ?_
      refine lv_goto (tgt := 67) hx hb dX0_chooseByCosts_63 (by decide) ?_
      obtain rfl := Option.some.inj hF
      exact J83 _ _ _ hP hD hS (lv_sub hl [0, 1, 2] rfl)

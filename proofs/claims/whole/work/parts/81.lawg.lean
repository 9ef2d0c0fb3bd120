set_option maxRecDepth 20000 in
theorem ggL_law_X10_init : GoodIn wsL_law wsX10_init := goodIn_r _ [9, 10, 11, 12, 13, 14, 15, 16, 17, 18, 19, 20, 21, 22, 23, 24, 25, 26, 27, 28, 29, 30, 31, 32, 33, 34, 35, 36, 37, 38, 39, 40, 41, 42, 43, 44, 45, 46, 47, 48, 49, 50, 51, 52, 53, 54, 55, 56, 57, 58, 59, 60, 61, 62, 63, 64, 65, 66, 67, 68, 69, 70, 71, 72, 73, 74, 75, 76, 77, 78, 79, 80, 81, 82, 83, 84, 85, 86, 87, 88, 89, 90, 91, 92, 93, 94, 95, 96, 97, 98, 99, 100, 101, 102, 103, 965, 966, 921, 922, 923, 924, 925, 926, 927, 928, 929, 930, 967, 968, 969, 970, 971, 972, 973, 974, 975, 976, 977, 978, 979, 980, 981, 982, 983, 984, 985, 986, 987, 988, 989, 990] (by decide +kernel) (by decide +kernel)
set_option maxRecDepth 20000 in
theorem gL_law_X10_init : GoodIn wsL_law (wsX10_init) := ggL_law_X10_init
set_option maxRecDepth 20000 in
theorem ggL_law_X11_init : GoodIn wsL_law wsX11_init := goodIn_r _ [106, 107, 11, 12, 56, 108, 109, 110, 111, 112, 113, 76, 114, 115, 116, 117, 118, 119, 120, 121, 122, 123, 124, 931, 932, 933, 934, 935, 936, 937, 938, 939, 940, 941, 942, 943, 944, 945, 946, 947, 948, 949, 950, 951, 952, 953, 954, 955, 956, 957, 958, 959, 960, 961, 962, 963, 964] (by decide +kernel) (by decide +kernel)
set_option maxRecDepth 20000 in
theorem gL_law_X11_init : GoodIn wsL_law (wsX11_init) := ggL_law_X11_init
set_option maxRecDepth 20000 in
theorem ggL_law_X10_write : GoodIn wsL_law wsX10_write := goodIn_r _ [128, 16, 129, 130, 131, 15, 132, 133, 134, 135, 136, 137, 57, 921, 922, 923, 924, 925, 926, 927, 928, 929, 930, 965, 966] (by decide +kernel) (by decide +kernel)
set_option maxRecDepth 20000 in
theorem gL_law_X10_write : GoodIn wsL_law (wsV RL 15 RX10 yX10_write wsX10_write) := goodIn_app (goodIn_of _ (by decide +kernel)) ggL_law_X10_write
set_option maxRecDepth 20000 in
theorem ggL_law_X11_write : GoodIn wsL_law wsX11_write := goodIn_r _ [141, 142, 143, 110, 144, 145, 146, 5, 147, 931, 932, 933, 934, 935, 936, 937, 938, 939, 940, 941, 942, 943, 944, 945, 946, 947, 948, 949, 950, 951, 952, 953, 954, 955, 956, 957, 958, 959, 960, 961, 962, 963, 964] (by decide +kernel) (by decide +kernel)
set_option maxRecDepth 20000 in
theorem gL_law_X11_write : GoodIn wsL_law (wsV RL 19 RX11 yX11_write wsX11_write) := goodIn_app (goodIn_of _ (by decide +kernel)) ggL_law_X11_write
set_option maxRecDepth 20000 in
theorem ggL_law_X10_wipe : GoodIn wsL_law wsX10_wipe := goodIn_r _ [151, 16, 129, 130, 131, 15, 132, 133, 152, 153, 154, 155, 921, 922, 923, 924, 925, 926, 927, 928, 929, 930, 965, 966] (by decide +kernel) (by decide +kernel)
set_option maxRecDepth 20000 in
theorem gL_law_X10_wipe : GoodIn wsL_law (wsV RL 20 RX10 yX10_wipe wsX10_wipe) := goodIn_app (goodIn_of _ (by decide +kernel)) ggL_law_X10_wipe
set_option maxRecDepth 20000 in
theorem ggL_law_X11_wipe : GoodIn wsL_law wsX11_wipe := goodIn_r _ [159, 143, 931, 932, 933, 934, 935, 936, 937, 938, 939, 940, 941, 942, 943, 944, 945, 946, 947, 948, 949, 950, 951, 952, 953, 954, 955, 956, 957, 958, 959, 960, 961, 962, 963, 964] (by decide +kernel) (by decide +kernel)
set_option maxRecDepth 20000 in
theorem gL_law_X11_wipe : GoodIn wsL_law (wsV RL 24 RX11 yX11_wipe wsX11_wipe) := goodIn_app (goodIn_of _ (by decide +kernel)) ggL_law_X11_wipe
set_option maxRecDepth 20000 in
theorem ggL_law_X10_fault : GoodIn wsL_law wsX10_fault := goodIn_r _ [163, 20, 16, 164, 165, 166, 19, 167, 62, 64, 168, 169, 170, 23, 171, 172, 173, 174, 175, 176, 177, 178, 27, 179, 180, 72, 181, 182, 183, 184, 185, 130, 131, 15, 132, 133, 186, 187, 188, 189, 57, 190, 191, 192, 193, 194, 195, 196, 197, 198, 199, 200, 201, 202, 203, 204, 205, 206, 207, 208, 209, 210, 211, 212, 213, 214, 215, 216, 217, 218, 219, 220, 221, 222, 223, 224, 225, 226, 2, 227, 228, 229, 230, 231, 232, 233, 234, 235, 236, 237, 238, 239, 240, 241, 242, 243, 244, 245, 246, 247, 248, 249, 250, 251, 252, 253, 254, 255, 71, 256, 257, 258, 259, 921, 922, 923, 924, 925, 926, 927, 928, 929, 930, 967, 968, 969, 970, 971, 972, 973, 974, 975, 976, 965, 966] (by decide +kernel) (by decide +kernel)
set_option maxRecDepth 20000 in
theorem gL_law_X10_fault : GoodIn wsL_law (wsV RL 25 RX10 yX10_fault wsX10_fault) := goodIn_app (goodIn_of _ (by decide +kernel)) ggL_law_X10_fault
set_option maxRecDepth 20000 in
theorem ggL_law_X11_fault : GoodIn wsL_law wsX11_fault := goodIn_r _ [263, 264, 265, 266, 5, 267, 268, 269, 270, 271, 143, 110, 272, 273, 274, 108, 275, 276, 277, 278, 279, 145, 146, 147, 280, 281, 282, 283, 284, 285, 286, 931, 932, 933, 934, 935, 936, 937, 938, 939, 940, 941, 942, 943, 944, 945, 946, 947, 948, 949, 950, 951, 952, 953, 954, 955, 956, 957, 958, 959, 960, 961, 962, 963, 964] (by decide +kernel) (by decide +kernel)
set_option maxRecDepth 20000 in
theorem gL_law_X11_fault : GoodIn wsL_law (wsV RL 28 RX11 yX11_fault wsX11_fault) := goodIn_app (goodIn_of _ (by decide +kernel)) ggL_law_X11_fault
set_option maxRecDepth 20000 in
theorem ggL_law_X10_table : GoodIn wsL_law wsX10_table := goodIn_r _ [290, 20, 16, 24, 28, 32, 164, 165, 166, 19, 167, 62, 64, 168, 169, 170, 23, 171, 172, 173, 174, 175, 176, 177, 178, 27, 179, 180, 72, 181, 182, 183, 184, 185, 130, 131, 15, 132, 133, 186, 187, 188, 189, 57, 190, 191, 192, 193, 194, 195, 196, 197, 198, 199, 200, 201, 202, 203, 204, 205, 206, 207, 208, 209, 210, 211, 212, 213, 214, 215, 216, 217, 218, 219, 220, 221, 222, 223, 224, 225, 226, 2, 227, 228, 229, 230, 231, 232, 233, 234, 235, 236, 237, 238, 239, 240, 241, 242, 243, 244, 245, 246, 247, 248, 249, 250, 251, 252, 253, 254, 255, 71, 256, 257, 258, 259, 291, 292, 293, 294, 295, 296, 297, 298, 299, 300, 301, 302, 303, 304, 305, 306, 307, 308, 309, 310, 311, 312, 313, 314, 315, 316, 31, 317, 318, 319, 320, 321, 322, 79, 78, 323, 324, 325, 326, 921, 922, 923, 924, 925, 926, 927, 928, 929, 930, 967, 968, 969, 970, 971, 972, 973, 974, 975, 976, 965, 966, 977, 978, 979] (by decide +kernel) (by decide +kernel)
set_option maxRecDepth 20000 in
theorem gL_law_X10_table : GoodIn wsL_law (wsV RL 29 RX10 yX10_table wsX10_table) := goodIn_app (goodIn_of _ (by decide +kernel)) ggL_law_X10_table
set_option maxRecDepth 20000 in
theorem ggL_law_X11_table : GoodIn wsL_law wsX11_table := goodIn_r _ [330, 270, 331, 271, 332, 272, 333, 273, 334, 274, 335, 109, 108, 336, 123, 264, 265, 266, 5, 267, 268, 269, 143, 110, 275, 276, 277, 278, 279, 145, 146, 147, 280, 281, 282, 283, 284, 285, 286, 931, 932, 933, 934, 935, 936, 937, 938, 939, 940, 941, 942, 943, 944, 945, 946, 947, 948, 949, 950, 951, 952, 953, 954, 955, 956, 957, 958, 959, 960, 961, 962, 963, 964] (by decide +kernel) (by decide +kernel)
set_option maxRecDepth 20000 in
theorem gL_law_X11_table : GoodIn wsL_law (wsV RL 32 RX11 yX11_table wsX11_table) := goodIn_app (goodIn_of _ (by decide +kernel)) ggL_law_X11_table
set_option maxRecDepth 20000 in
theorem ggL_law_X10_person : GoodIn wsL_law wsX10_person := goodIn_r _ [340, 28, 24, 341, 342, 343, 27, 344, 180, 345, 346, 347, 348, 71, 349, 350, 229, 230, 231, 72, 226, 2, 227, 351, 352, 353, 23, 354, 172, 355, 356, 357, 358, 359, 360, 361, 362, 363, 364, 365, 366, 367, 368, 369, 370, 371, 372, 373, 374, 375, 173, 376, 377, 378, 379, 174, 380, 381, 382, 383, 384, 385, 386, 387, 388, 389, 390, 391, 392, 393, 394, 223, 224, 225, 175, 921, 922, 923, 924, 925, 926, 927, 928, 929, 930, 974, 975, 976, 970, 971, 972, 973] (by decide +kernel) (by decide +kernel)
set_option maxRecDepth 20000 in
theorem gL_law_X10_person : GoodIn wsL_law (wsV RL 33 RX10 yX10_person wsX10_person) := goodIn_app (goodIn_of _ (by decide +kernel)) ggL_law_X10_person
set_option maxRecDepth 20000 in
theorem ggL_law_X11_person : GoodIn wsL_law wsX11_person := goodIn_r _ [398, 109, 399, 400, 401, 5, 402, 331, 145, 146, 147, 403, 404, 405, 406, 407, 111, 408, 409, 410, 411, 412, 413, 414, 415, 416, 417, 418, 419, 333, 420, 421, 422, 423, 334, 335, 424, 425, 426, 427, 428, 429, 430, 431, 332, 931, 932, 933, 934, 935, 936, 937, 938, 939, 940, 941, 942, 943, 944, 945, 946, 947, 948, 949, 950, 951, 952, 953, 954, 955, 956, 957, 958, 959, 960, 961, 962, 963, 964] (by decide +kernel) (by decide +kernel)
set_option maxRecDepth 20000 in
theorem gL_law_X11_person : GoodIn wsL_law (wsV RL 37 RX11 yX11_person wsX11_person) := goodIn_app (goodIn_of _ (by decide +kernel)) ggL_law_X11_person
set_option maxRecDepth 20000 in
theorem ggL_law_X10_wrote : GoodIn wsL_law wsX10_wrote := goodIn_r _ [435, 28, 436, 226, 2, 227, 350, 229, 230, 27, 231, 72, 921, 922, 923, 924, 925, 926, 927, 928, 929, 930, 974, 975, 976] (by decide +kernel) (by decide +kernel)
set_option maxRecDepth 20000 in
theorem gL_law_X10_wrote : GoodIn wsL_law (wsV RL 38 RX10 yX10_wrote wsX10_wrote) := goodIn_app (goodIn_of _ (by decide +kernel)) ggL_law_X10_wrote
set_option maxRecDepth 20000 in
theorem ggL_law_X11_wrote : GoodIn wsL_law wsX11_wrote := goodIn_r _ [440, 279, 145, 146, 5, 147, 403, 404, 405, 406, 331, 407, 111, 109, 412, 413, 414, 415, 931, 932, 933, 934, 935, 936, 937, 938, 939, 940, 941, 942, 943, 944, 945, 946, 947, 948, 949, 950, 951, 952, 953, 954, 955, 956, 957, 958, 959, 960, 961, 962, 963, 964] (by decide +kernel) (by decide +kernel)
set_option maxRecDepth 20000 in
theorem gL_law_X11_wrote : GoodIn wsL_law (wsV RL 42 RX11 yX11_wrote wsX11_wrote) := goodIn_app (goodIn_of _ (by decide +kernel)) ggL_law_X11_wrote
set_option maxRecDepth 20000 in
theorem ggL_law_X10_slip : GoodIn wsL_law wsX10_slip := goodIn_r _ [444, 28, 32, 341, 342, 343, 27, 344, 180, 445, 446, 447, 2, 448, 24, 436, 226, 227, 449, 223, 224, 23, 225, 175, 345, 346, 347, 348, 71, 349, 303, 304, 305, 306, 450, 451, 452, 31, 453, 318, 77, 454, 455, 456, 457, 458, 459, 460, 461, 72, 921, 922, 923, 924, 925, 926, 927, 928, 929, 930, 974, 975, 976, 970, 971, 972, 973, 977, 978, 979] (by decide +kernel) (by decide +kernel)
set_option maxRecDepth 20000 in
theorem gL_law_X10_slip : GoodIn wsL_law (wsV RL 43 RX10 yX10_slip wsX10_slip) := goodIn_app (goodIn_of _ (by decide +kernel)) ggL_law_X10_slip
set_option maxRecDepth 20000 in
theorem ggL_law_X11_slip : GoodIn wsL_law wsX11_slip := goodIn_r _ [465, 279, 109, 399, 400, 401, 5, 402, 331, 145, 146, 147, 428, 429, 430, 431, 332, 466, 467, 468, 469, 112, 470, 336, 931, 932, 933, 934, 935, 936, 937, 938, 939, 940, 941, 942, 943, 944, 945, 946, 947, 948, 949, 950, 951, 952, 953, 954, 955, 956, 957, 958, 959, 960, 961, 962, 963, 964] (by decide +kernel) (by decide +kernel)
set_option maxRecDepth 20000 in
theorem gL_law_X11_slip : GoodIn wsL_law (wsV RL 46 RX11 yX11_slip wsX11_slip) := goodIn_app (goodIn_of _ (by decide +kernel)) ggL_law_X11_slip
set_option maxRecDepth 20000 in
theorem ggL_law_X10_come : GoodIn wsL_law wsX10_come := goodIn_r _ [474, 28, 32, 445, 446, 447, 2, 448, 24, 436, 226, 227, 449, 223, 224, 23, 225, 175, 326, 200, 201, 27, 202, 180, 303, 304, 305, 306, 71, 450, 451, 452, 31, 453, 318, 77, 454, 455, 456, 457, 475, 253, 254, 255, 72, 921, 922, 923, 924, 925, 926, 927, 928, 929, 930, 970, 971, 972, 973, 974, 975, 976, 977, 978, 979] (by decide +kernel) (by decide +kernel)
set_option maxRecDepth 20000 in
theorem gL_law_X10_come : GoodIn wsL_law (wsV RL 47 RX10 yX10_come wsX10_come) := goodIn_app (goodIn_of _ (by decide +kernel)) ggL_law_X10_come
set_option maxRecDepth 20000 in
theorem ggL_law_X11_come : GoodIn wsL_law wsX11_come := goodIn_r _ [479, 279, 331, 109, 145, 146, 5, 147, 428, 429, 430, 431, 332, 466, 467, 468, 469, 112, 470, 336, 931, 932, 933, 934, 935, 936, 937, 938, 939, 940, 941, 942, 943, 944, 945, 946, 947, 948, 949, 950, 951, 952, 953, 954, 955, 956, 957, 958, 959, 960, 961, 962, 963, 964] (by decide +kernel) (by decide +kernel)
set_option maxRecDepth 20000 in
theorem gL_law_X11_come : GoodIn wsL_law (wsV RL 50 RX11 yX11_come wsX11_come) := goodIn_app (goodIn_of _ (by decide +kernel)) ggL_law_X11_come
set_option maxRecDepth 20000 in
theorem ggL_law_X10_leave : GoodIn wsL_law wsX10_leave := goodIn_r _ [483, 28, 32, 341, 342, 343, 27, 344, 180, 345, 346, 347, 348, 71, 349, 303, 304, 305, 306, 450, 451, 452, 31, 453, 318, 77, 454, 455, 456, 457, 484, 485, 486, 487, 72, 921, 922, 923, 924, 925, 926, 927, 928, 929, 930, 974, 975, 976, 977, 978, 979] (by decide +kernel) (by decide +kernel)
set_option maxRecDepth 20000 in
theorem gL_law_X10_leave : GoodIn wsL_law (wsV RL 51 RX10 yX10_leave wsX10_leave) := goodIn_app (goodIn_of _ (by decide +kernel)) ggL_law_X10_leave
set_option maxRecDepth 20000 in
theorem ggL_law_X11_leave : GoodIn wsL_law wsX11_leave := goodIn_r _ [491, 109, 331, 399, 400, 401, 5, 402, 145, 146, 147, 466, 467, 468, 469, 112, 470, 336, 931, 932, 933, 934, 935, 936, 937, 938, 939, 940, 941, 942, 943, 944, 945, 946, 947, 948, 949, 950, 951, 952, 953, 954, 955, 956, 957, 958, 959, 960, 961, 962, 963, 964] (by decide +kernel) (by decide +kernel)
set_option maxRecDepth 20000 in
theorem gL_law_X11_leave : GoodIn wsL_law (wsV RL 54 RX11 yX11_leave wsX11_leave) := goodIn_app (goodIn_of _ (by decide +kernel)) ggL_law_X11_leave
set_option maxRecDepth 20000 in
theorem ggL_law_X10_round : GoodIn wsL_law wsX10_round := goodIn_r _ [495, 32, 28, 44, 24, 303, 304, 305, 27, 306, 180, 71, 450, 451, 452, 31, 453, 318, 77, 454, 455, 456, 457, 496, 497, 498, 43, 499, 94, 500, 501, 360, 361, 362, 72, 502, 200, 201, 202, 503, 346, 347, 348, 349, 342, 343, 344, 504, 505, 506, 23, 507, 384, 385, 386, 387, 371, 352, 353, 354, 172, 394, 223, 224, 225, 175, 226, 2, 227, 508, 459, 460, 461, 921, 922, 923, 924, 925, 926, 927, 928, 929, 930, 974, 975, 976, 977, 978, 979, 985, 986, 970, 971, 972, 973] (by decide +kernel) (by decide +kernel)
set_option maxRecDepth 20000 in
theorem gL_law_X10_round : GoodIn wsL_law (wsV RL 55 RX10 yX10_round wsX10_round) := goodIn_app (goodIn_of _ (by decide +kernel)) ggL_law_X10_round
set_option maxRecDepth 20000 in
theorem ggL_law_X11_round : GoodIn wsL_law wsX11_round := goodIn_r _ [512, 331, 109, 111, 466, 467, 468, 5, 469, 112, 470, 336, 403, 404, 405, 406, 407, 513, 514, 515, 516, 113, 408, 409, 410, 411, 412, 413, 414, 415, 416, 417, 418, 419, 333, 517, 518, 519, 520, 428, 429, 430, 431, 332, 931, 932, 933, 934, 935, 936, 937, 938, 939, 940, 941, 942, 943, 944, 945, 946, 947, 948, 949, 950, 951, 952, 953, 954, 955, 956, 957, 958, 959, 960, 961, 962, 963, 964] (by decide +kernel) (by decide +kernel)
set_option maxRecDepth 20000 in
theorem gL_law_X11_round : GoodIn wsL_law (wsV RL 58 RX11 yX11_round wsX11_round) := goodIn_app (goodIn_of _ (by decide +kernel)) ggL_law_X11_round
set_option maxRecDepth 20000 in
theorem ggL_law_X10_undo : GoodIn wsL_law wsX10_undo := goodIn_r _ [524, 32, 28, 525, 526, 527, 31, 528, 318, 529, 530, 531, 532, 77, 307, 308, 309, 27, 310, 311, 312, 177, 178, 179, 180, 72, 181, 182, 183, 184, 313, 253, 254, 255, 71, 226, 2, 227, 921, 922, 923, 924, 925, 926, 927, 928, 929, 930, 977, 978, 979, 974, 975, 976] (by decide +kernel) (by decide +kernel)
set_option maxRecDepth 20000 in
theorem gL_law_X10_undo : GoodIn wsL_law (wsV RL 59 RX10 yX10_undo wsX10_undo) := goodIn_app (goodIn_of _ (by decide +kernel)) ggL_law_X10_undo
set_option maxRecDepth 20000 in
theorem ggL_law_X11_undo : GoodIn wsL_law wsX11_undo := goodIn_r _ [536, 336, 470, 109, 112, 331, 931, 932, 933, 934, 935, 936, 937, 938, 939, 940, 941, 942, 943, 944, 945, 946, 947, 948, 949, 950, 951, 952, 953, 954, 955, 956, 957, 958, 959, 960, 961, 962, 963, 964] (by decide +kernel) (by decide +kernel)
set_option maxRecDepth 20000 in
theorem gL_law_X11_undo : GoodIn wsL_law (wsV RL 62 RX11 yX11_undo wsX11_undo) := goodIn_app (goodIn_of _ (by decide +kernel)) ggL_law_X11_undo
set_option maxRecDepth 20000 in
theorem ggL_law_X10_settled : GoodIn wsL_law wsX10_settled := goodIn_r _ [540, 44, 24, 28, 359, 360, 361, 27, 362, 72, 541, 542, 543, 43, 544, 94, 500, 455, 456, 457, 95, 545, 546, 547, 548, 549, 182, 183, 184, 504, 505, 506, 23, 507, 384, 385, 386, 387, 371, 352, 353, 354, 172, 394, 223, 224, 225, 175, 226, 2, 227, 921, 922, 923, 924, 925, 926, 927, 928, 929, 930, 974, 975, 976, 985, 986, 970, 971, 972, 973] (by decide +kernel) (by decide +kernel)
set_option maxRecDepth 20000 in
theorem gL_law_X10_settled : GoodIn wsL_law (wsV RL 63 RX10 yX10_settled wsX10_settled) := goodIn_app (goodIn_of _ (by decide +kernel)) ggL_law_X10_settled
set_option maxRecDepth 20000 in
theorem ggL_law_X11_settled : GoodIn wsL_law wsX11_settled := goodIn_r _ [553, 403, 404, 405, 5, 406, 331, 407, 111, 109, 513, 514, 515, 516, 113, 408, 409, 410, 411, 412, 413, 414, 415, 416, 417, 418, 419, 333, 517, 518, 519, 520, 428, 429, 430, 431, 332, 931, 932, 933, 934, 935, 936, 937, 938, 939, 940, 941, 942, 943, 944, 945, 946, 947, 948, 949, 950, 951, 952, 953, 954, 955, 956, 957, 958, 959, 960, 961, 962, 963, 964] (by decide +kernel) (by decide +kernel)
set_option maxRecDepth 20000 in
theorem gL_law_X11_settled : GoodIn wsL_law (wsV RL 66 RX11 yX11_settled wsX11_settled) := goodIn_app (goodIn_of _ (by decide +kernel)) ggL_law_X11_settled
set_option maxRecDepth 20000 in
theorem ggL_law_X10_ways : GoodIn wsL_law wsX10_ways := goodIn_r _ [557, 36, 24, 558, 559, 2, 560, 561, 562, 563, 35, 564, 85, 565, 223, 224, 23, 225, 175, 226, 227, 566, 567, 568, 569, 83, 570, 324, 183, 325, 571, 572, 573, 574, 575, 352, 353, 354, 172, 921, 922, 923, 924, 925, 926, 927, 928, 929, 930, 980, 981, 982, 983, 970, 971, 972, 973] (by decide +kernel) (by decide +kernel)
set_option maxRecDepth 20000 in
theorem gL_law_X10_ways : GoodIn wsL_law (wsV RL 67 RX10 yX10_ways wsX10_ways) := goodIn_app (goodIn_of _ (by decide +kernel)) ggL_law_X10_ways
set_option maxRecDepth 20000 in
theorem ggL_law_X11_ways : GoodIn wsL_law wsX11_ways := goodIn_r _ [579, 279, 145, 146, 5, 147, 580, 581, 582, 583, 114, 115, 119, 428, 429, 430, 431, 332, 416, 417, 418, 419, 333, 584, 585, 586, 587, 588, 589, 931, 932, 933, 934, 935, 936, 937, 938, 939, 940, 941, 942, 943, 944, 945, 946, 947, 948, 949, 950, 951, 952, 953, 954, 955, 956, 957, 958, 959, 960, 961, 962, 963, 964] (by decide +kernel) (by decide +kernel)
set_option maxRecDepth 20000 in
theorem gL_law_X11_ways : GoodIn wsL_law (wsV RL 70 RX11 yX11_ways wsX11_ways) := goodIn_app (goodIn_of _ (by decide +kernel)) ggL_law_X11_ways
set_option maxRecDepth 20000 in
theorem ggL_law_X10_wrong : GoodIn wsL_law wsX10_wrong := goodIn_r _ [593, 36, 24, 558, 559, 2, 560, 594, 595, 596, 35, 597, 84, 598, 599, 600, 601, 602, 182, 183, 184, 565, 223, 224, 23, 225, 175, 226, 227, 603, 604, 605, 606, 607, 608, 609, 610, 575, 352, 353, 354, 172, 921, 922, 923, 924, 925, 926, 927, 928, 929, 930, 980, 981, 982, 983, 970, 971, 972, 973] (by decide +kernel) (by decide +kernel)
set_option maxRecDepth 20000 in
theorem gL_law_X10_wrong : GoodIn wsL_law (wsV RL 71 RX10 yX10_wrong wsX10_wrong) := goodIn_app (goodIn_of _ (by decide +kernel)) ggL_law_X10_wrong
set_option maxRecDepth 20000 in
theorem ggL_law_X11_wrong : GoodIn wsL_law wsX11_wrong := goodIn_r _ [614, 279, 116, 117, 145, 146, 5, 147, 428, 429, 430, 431, 332, 416, 417, 418, 419, 333, 931, 932, 933, 934, 935, 936, 937, 938, 939, 940, 941, 942, 943, 944, 945, 946, 947, 948, 949, 950, 951, 952, 953, 954, 955, 956, 957, 958, 959, 960, 961, 962, 963, 964] (by decide +kernel) (by decide +kernel)
set_option maxRecDepth 20000 in
theorem gL_law_X11_wrong : GoodIn wsL_law (wsV RL 74 RX11 yX11_wrong wsX11_wrong) := goodIn_app (goodIn_of _ (by decide +kernel)) ggL_law_X11_wrong
set_option maxRecDepth 20000 in
theorem ggL_law_X10_agreed : GoodIn wsL_law wsX10_agreed := goodIn_r _ [618, 28, 36, 24, 341, 342, 343, 27, 344, 180, 326, 200, 201, 202, 619, 620, 621, 35, 622, 86, 602, 182, 183, 184, 623, 624, 625, 626, 627, 628, 609, 629, 565, 223, 224, 23, 225, 175, 226, 2, 227, 630, 631, 632, 633, 634, 635, 636, 637, 575, 352, 353, 354, 172, 921, 922, 923, 924, 925, 926, 927, 928, 929, 930, 974, 975, 976, 980, 981, 982, 983, 970, 971, 972, 973] (by decide +kernel) (by decide +kernel)
set_option maxRecDepth 20000 in
theorem gL_law_X10_agreed : GoodIn wsL_law (wsV RL 75 RX10 yX10_agreed wsX10_agreed) := goodIn_app (goodIn_of _ (by decide +kernel)) ggL_law_X10_agreed
set_option maxRecDepth 20000 in
theorem ggL_law_X11_agreed : GoodIn wsL_law wsX11_agreed := goodIn_r _ [641, 118, 331, 399, 400, 401, 5, 402, 145, 146, 147, 642, 643, 644, 645, 116, 117, 428, 429, 430, 431, 332, 416, 417, 418, 419, 333, 931, 932, 933, 934, 935, 936, 937, 938, 939, 940, 941, 942, 943, 944, 945, 946, 947, 948, 949, 950, 951, 952, 953, 954, 955, 956, 957, 958, 959, 960, 961, 962, 963, 964] (by decide +kernel) (by decide +kernel)
set_option maxRecDepth 20000 in
theorem gL_law_X11_agreed : GoodIn wsL_law (wsV RL 78 RX11 yX11_agreed wsX11_agreed) := goodIn_app (goodIn_of _ (by decide +kernel)) ggL_law_X11_agreed
set_option maxRecDepth 20000 in
theorem ggL_law_X10_late : GoodIn wsL_law wsX10_late := goodIn_r _ [649, 28, 36, 24, 326, 200, 201, 27, 202, 180, 359, 360, 361, 362, 72, 650, 651, 652, 35, 653, 84, 598, 599, 600, 601, 602, 182, 183, 184, 565, 223, 224, 23, 225, 175, 226, 2, 227, 654, 655, 656, 657, 627, 628, 609, 629, 607, 608, 610, 575, 352, 353, 354, 172, 921, 922, 923, 924, 925, 926, 927, 928, 929, 930, 974, 975, 976, 980, 981, 982, 983, 970, 971, 972, 973] (by decide +kernel) (by decide +kernel)
set_option maxRecDepth 20000 in
theorem gL_law_X10_late : GoodIn wsL_law (wsV RL 79 RX10 yX10_late wsX10_late) := goodIn_app (goodIn_of _ (by decide +kernel)) ggL_law_X10_late
set_option maxRecDepth 20000 in
theorem ggL_law_X11_late : GoodIn wsL_law wsX11_late := goodIn_r _ [661, 331, 116, 117, 403, 404, 405, 5, 406, 407, 111, 109, 412, 413, 414, 415, 428, 429, 430, 431, 332, 416, 417, 418, 419, 333, 931, 932, 933, 934, 935, 936, 937, 938, 939, 940, 941, 942, 943, 944, 945, 946, 947, 948, 949, 950, 951, 952, 953, 954, 955, 956, 957, 958, 959, 960, 961, 962, 963, 964] (by decide +kernel) (by decide +kernel)
set_option maxRecDepth 20000 in
theorem gL_law_X11_late : GoodIn wsL_law (wsV RL 82 RX11 yX11_late wsX11_late) := goodIn_app (goodIn_of _ (by decide +kernel)) ggL_law_X11_late
set_option maxRecDepth 20000 in
theorem ggL_law_X10_tenths : GoodIn wsL_law wsX10_tenths := goodIn_r _ [665, 40, 436, 226, 2, 227, 666, 667, 668, 39, 669, 90, 921, 922, 923, 924, 925, 926, 927, 928, 929, 930, 984] (by decide +kernel) (by decide +kernel)
set_option maxRecDepth 20000 in
theorem gL_law_X10_tenths : GoodIn wsL_law (wsV RL 83 RX10 yX10_tenths wsX10_tenths) := goodIn_app (goodIn_of _ (by decide +kernel)) ggL_law_X10_tenths
set_option maxRecDepth 20000 in
theorem ggL_law_X11_tenths : GoodIn wsL_law wsX11_tenths := goodIn_r _ [673, 279, 674, 119, 145, 146, 5, 147, 931, 932, 933, 934, 935, 936, 937, 938, 939, 940, 941, 942, 943, 944, 945, 946, 947, 948, 949, 950, 951, 952, 953, 954, 955, 956, 957, 958, 959, 960, 961, 962, 963, 964] (by decide +kernel) (by decide +kernel)
set_option maxRecDepth 20000 in
theorem gL_law_X11_tenths : GoodIn wsL_law (wsV RL 86 RX11 yX11_tenths wsX11_tenths) := goodIn_app (goodIn_of _ (by decide +kernel)) ggL_law_X11_tenths
set_option maxRecDepth 20000 in
theorem ggL_law_X10_allRight : GoodIn wsL_law wsX10_allRight := goodIn_r _ [678, 36, 24, 40, 679, 680, 681, 682, 2, 683, 558, 559, 560, 684, 685, 686, 39, 687, 90, 688, 689, 690, 691, 692, 567, 568, 35, 569, 83, 570, 324, 183, 325, 571, 572, 573, 574, 575, 352, 353, 23, 354, 172, 693, 694, 695, 696, 697, 698, 699, 700, 701, 702, 921, 922, 923, 924, 925, 926, 927, 928, 929, 930, 984, 980, 981, 982, 983, 970, 971, 972, 973] (by decide +kernel) (by decide +kernel)
set_option maxRecDepth 20000 in
theorem gL_law_X10_allRight : GoodIn wsL_law (wsV RL 87 RX10 yX10_allRight wsX10_allRight) := goodIn_app (goodIn_of _ (by decide +kernel)) ggL_law_X10_allRight
set_option maxRecDepth 20000 in
theorem ggL_law_X11_allRight : GoodIn wsL_law wsX11_allRight := goodIn_r _ [706, 279, 707, 708, 145, 146, 5, 147, 709, 710, 711, 712, 119, 580, 581, 582, 583, 114, 115, 428, 429, 430, 431, 332, 416, 417, 418, 419, 333, 584, 585, 586, 587, 588, 589, 713, 714, 715, 931, 932, 933, 934, 935, 936, 937, 938, 939, 940, 941, 942, 943, 944, 945, 946, 947, 948, 949, 950, 951, 952, 953, 954, 955, 956, 957, 958, 959, 960, 961, 962, 963, 964] (by decide +kernel) (by decide +kernel)
set_option maxRecDepth 20000 in
theorem gL_law_X11_allRight : GoodIn wsL_law (wsV RL 91 RX11 yX11_allRight wsX11_allRight) := goodIn_app (goodIn_of _ (by decide +kernel)) ggL_law_X11_allRight
set_option maxRecDepth 20000 in
theorem ggL_law_X10_mean : GoodIn wsL_law wsX10_mean := goodIn_r _ [719, 40, 24, 679, 680, 681, 682, 2, 683, 558, 559, 560, 684, 685, 686, 39, 687, 90, 720, 721, 722, 723, 724, 352, 353, 23, 354, 172, 725, 726, 727, 728, 729, 694, 695, 693, 696, 697, 698, 699, 700, 701, 702, 921, 922, 923, 924, 925, 926, 927, 928, 929, 930, 984, 970, 971, 972, 973] (by decide +kernel) (by decide +kernel)
set_option maxRecDepth 20000 in
theorem gL_law_X10_mean : GoodIn wsL_law (wsV RL 92 RX10 yX10_mean wsX10_mean) := goodIn_app (goodIn_of _ (by decide +kernel)) ggL_law_X10_mean
set_option maxRecDepth 20000 in
theorem ggL_law_X11_mean : GoodIn wsL_law wsX11_mean := goodIn_r _ [733, 279, 707, 708, 119, 145, 146, 5, 147, 709, 710, 711, 712, 416, 417, 418, 419, 333, 584, 585, 586, 587, 588, 589, 713, 714, 715, 931, 932, 933, 934, 935, 936, 937, 938, 939, 940, 941, 942, 943, 944, 945, 946, 947, 948, 949, 950, 951, 952, 953, 954, 955, 956, 957, 958, 959, 960, 961, 962, 963, 964] (by decide +kernel) (by decide +kernel)
set_option maxRecDepth 20000 in
theorem gL_law_X11_mean : GoodIn wsL_law (wsV RL 95 RX11 yX11_mean wsX11_mean) := goodIn_app (goodIn_of _ (by decide +kernel)) ggL_law_X11_mean
set_option maxRecDepth 20000 in
theorem ggL_law_X10_forget : GoodIn wsL_law wsX10_forget := goodIn_r _ [737, 28, 738, 739, 40, 24, 679, 341, 342, 343, 27, 344, 180, 345, 346, 347, 348, 71, 349, 350, 229, 230, 231, 72, 226, 2, 227, 740, 741, 742, 39, 743, 724, 352, 353, 23, 354, 172, 725, 726, 727, 728, 729, 694, 695, 693, 696, 697, 698, 699, 700, 701, 702, 921, 922, 923, 924, 925, 926, 927, 928, 929, 930, 974, 975, 976, 970, 971, 972, 973] (by decide +kernel) (by decide +kernel)
set_option maxRecDepth 20000 in
theorem gL_law_X10_forget : GoodIn wsL_law (wsV RL 96 RX10 yX10_forget wsX10_forget) := goodIn_app (goodIn_of _ (by decide +kernel)) ggL_law_X10_forget
set_option maxRecDepth 20000 in
theorem ggL_law_X11_forget : GoodIn wsL_law wsX11_forget := goodIn_r _ [747, 748, 674, 707, 109, 399, 400, 401, 5, 402, 331, 145, 146, 147, 403, 404, 405, 406, 407, 111, 412, 413, 414, 415, 416, 417, 418, 419, 333, 584, 585, 586, 587, 588, 589, 713, 714, 715, 931, 932, 933, 934, 935, 936, 937, 938, 939, 940, 941, 942, 943, 944, 945, 946, 947, 948, 949, 950, 951, 952, 953, 954, 955, 956, 957, 958, 959, 960, 961, 962, 963, 964] (by decide +kernel) (by decide +kernel)
set_option maxRecDepth 20000 in
theorem gL_law_X11_forget : GoodIn wsL_law (wsV RL 100 RX11 yX11_forget wsX11_forget) := goodIn_app (goodIn_of _ (by decide +kernel)) ggL_law_X11_forget
set_option maxRecDepth 20000 in
theorem ggL_law_X10_rests : GoodIn wsL_law wsX10_rests := goodIn_r _ [752, 44, 24, 753, 754, 755, 43, 756, 94, 549, 182, 183, 184, 757, 758, 759, 760, 761, 762, 23, 763, 764, 381, 382, 383, 384, 385, 386, 387, 388, 364, 365, 366, 367, 368, 369, 370, 371, 352, 353, 354, 172, 372, 373, 374, 375, 173, 389, 390, 391, 392, 393, 377, 378, 379, 174, 394, 223, 224, 225, 175, 226, 2, 227, 765, 728, 729, 921, 922, 923, 924, 925, 926, 927, 928, 929, 930, 985, 986, 970, 971, 972, 973] (by decide +kernel) (by decide +kernel)
set_option maxRecDepth 20000 in
theorem gL_law_X10_rests : GoodIn wsL_law (wsV RL 101 RX10 yX10_rests wsX10_rests) := goodIn_app (goodIn_of _ (by decide +kernel)) ggL_law_X10_rests
set_option maxRecDepth 20000 in
theorem ggL_law_X11_rests : GoodIn wsL_law wsX11_rests := goodIn_r _ [769, 770, 407, 111, 145, 146, 5, 147, 587, 588, 589, 428, 429, 430, 431, 332, 424, 425, 426, 427, 420, 421, 422, 423, 334, 335, 408, 409, 410, 411, 412, 413, 414, 415, 416, 417, 418, 419, 333, 931, 932, 933, 934, 935, 936, 937, 938, 939, 940, 941, 942, 943, 944, 945, 946, 947, 948, 949, 950, 951, 952, 953, 954, 955, 956, 957, 958, 959, 960, 961, 962, 963, 964] (by decide +kernel) (by decide +kernel)
set_option maxRecDepth 20000 in
theorem gL_law_X11_rests : GoodIn wsL_law (wsV RL 104 RX11 yX11_rests wsX11_rests) := goodIn_app (goodIn_of _ (by decide +kernel)) ggL_law_X11_rests
set_option maxRecDepth 20000 in
theorem ggL_law_X10_pay : GoodIn wsL_law wsX10_pay := goodIn_r _ [774, 48, 775, 776, 777, 47, 778, 779, 780, 781, 782, 783, 99, 921, 922, 923, 924, 925, 926, 927, 928, 929, 930, 987, 988] (by decide +kernel) (by decide +kernel)
set_option maxRecDepth 20000 in
theorem gL_law_X10_pay : GoodIn wsL_law (wsV RL 105 RX10 yX10_pay wsX10_pay) := goodIn_app (goodIn_of _ (by decide +kernel)) ggL_law_X10_pay
set_option maxRecDepth 20000 in
theorem ggL_law_X11_pay : GoodIn wsL_law wsX11_pay := goodIn_r _ [787, 142, 788, 789, 120, 121, 145, 146, 5, 147, 931, 932, 933, 934, 935, 936, 937, 938, 939, 940, 941, 942, 943, 944, 945, 946, 947, 948, 949, 950, 951, 952, 953, 954, 955, 956, 957, 958, 959, 960, 961, 962, 963, 964] (by decide +kernel) (by decide +kernel)
set_option maxRecDepth 20000 in
theorem gL_law_X11_pay : GoodIn wsL_law (wsV RL 108 RX11 yX11_pay wsX11_pay) := goodIn_app (goodIn_of _ (by decide +kernel)) ggL_law_X11_pay
set_option maxRecDepth 20000 in
theorem ggL_law_X10_unpay : GoodIn wsL_law wsX10_unpay := goodIn_r _ [793, 48, 775, 776, 777, 47, 778, 779, 794, 795, 796, 797, 99, 798, 182, 183, 184, 921, 922, 923, 924, 925, 926, 927, 928, 929, 930, 987, 988] (by decide +kernel) (by decide +kernel)
set_option maxRecDepth 20000 in
theorem gL_law_X10_unpay : GoodIn wsL_law (wsV RL 109 RX10 yX10_unpay wsX10_unpay) := goodIn_app (goodIn_of _ (by decide +kernel)) ggL_law_X10_unpay
set_option maxRecDepth 20000 in
theorem ggL_law_X11_unpay : GoodIn wsL_law wsX11_unpay := goodIn_r _ [802, 789, 931, 932, 933, 934, 935, 936, 937, 938, 939, 940, 941, 942, 943, 944, 945, 946, 947, 948, 949, 950, 951, 952, 953, 954, 955, 956, 957, 958, 959, 960, 961, 962, 963, 964] (by decide +kernel) (by decide +kernel)
set_option maxRecDepth 20000 in
theorem gL_law_X11_unpay : GoodIn wsL_law (wsV RL 112 RX11 yX11_unpay wsX11_unpay) := goodIn_app (goodIn_of _ (by decide +kernel)) ggL_law_X11_unpay
set_option maxRecDepth 20000 in
theorem ggL_law_X10_cheated : GoodIn wsL_law wsX10_cheated := goodIn_r _ [806, 28, 48, 326, 200, 201, 27, 202, 180, 355, 356, 357, 2, 358, 24, 345, 346, 347, 348, 71, 349, 342, 343, 344, 350, 229, 230, 231, 72, 226, 227, 359, 360, 361, 362, 363, 364, 365, 23, 366, 367, 368, 369, 370, 371, 352, 353, 354, 172, 372, 373, 374, 375, 173, 376, 377, 378, 379, 174, 807, 808, 809, 47, 810, 99, 921, 922, 923, 924, 925, 926, 927, 928, 929, 930, 974, 975, 976, 970, 971, 972, 973, 987, 988] (by decide +kernel) (by decide +kernel)
set_option maxRecDepth 20000 in
theorem gL_law_X10_cheated : GoodIn wsL_law (wsV RL 113 RX10 yX10_cheated wsX10_cheated) := goodIn_app (goodIn_of _ (by decide +kernel)) ggL_law_X10_cheated
set_option maxRecDepth 20000 in
theorem ggL_law_X11_cheated : GoodIn wsL_law wsX11_cheated := goodIn_r _ [814, 331, 789, 120, 121, 403, 404, 405, 5, 406, 407, 111, 109, 420, 421, 422, 423, 334, 335, 408, 409, 410, 411, 412, 413, 414, 415, 416, 417, 418, 419, 333, 931, 932, 933, 934, 935, 936, 937, 938, 939, 940, 941, 942, 943, 944, 945, 946, 947, 948, 949, 950, 951, 952, 953, 954, 955, 956, 957, 958, 959, 960, 961, 962, 963, 964] (by decide +kernel) (by decide +kernel)
set_option maxRecDepth 20000 in
theorem gL_law_X11_cheated : GoodIn wsL_law (wsV RL 116 RX11 yX11_cheated wsX11_cheated) := goodIn_app (goodIn_of _ (by decide +kernel)) ggL_law_X11_cheated
set_option maxRecDepth 20000 in
theorem ggL_law_X10_seed : GoodIn wsL_law wsX10_seed := goodIn_r _ [818, 52, 819, 820, 821, 51, 822, 823, 921, 922, 923, 924, 925, 926, 927, 928, 929, 930, 989, 990] (by decide +kernel) (by decide +kernel)
set_option maxRecDepth 20000 in
theorem gL_law_X10_seed : GoodIn wsL_law (wsV RL 117 RX10 yX10_seed wsX10_seed) := goodIn_app (goodIn_of _ (by decide +kernel)) ggL_law_X10_seed
set_option maxRecDepth 20000 in
theorem ggL_law_X11_seed : GoodIn wsL_law wsX11_seed := goodIn_r _ [827, 828, 931, 932, 933, 934, 935, 936, 937, 938, 939, 940, 941, 942, 943, 944, 945, 946, 947, 948, 949, 950, 951, 952, 953, 954, 955, 956, 957, 958, 959, 960, 961, 962, 963, 964] (by decide +kernel) (by decide +kernel)
set_option maxRecDepth 20000 in
theorem gL_law_X11_seed : GoodIn wsL_law (wsV RL 121 RX11 yX11_seed wsX11_seed) := goodIn_app (goodIn_of _ (by decide +kernel)) ggL_law_X11_seed
set_option maxRecDepth 20000 in
theorem ggL_law_X10_won : GoodIn wsL_law wsX10_won := goodIn_r _ [832, 28, 52, 24, 341, 342, 343, 27, 344, 180, 326, 200, 201, 202, 833, 834, 835, 51, 836, 103, 837, 182, 183, 184, 838, 839, 840, 841, 823, 842, 843, 844, 204, 205, 23, 206, 175, 207, 208, 209, 210, 211, 212, 213, 845, 846, 847, 848, 394, 223, 224, 225, 226, 2, 227, 849, 364, 365, 366, 367, 368, 369, 370, 371, 352, 353, 354, 172, 372, 373, 374, 375, 173, 850, 377, 378, 379, 174, 921, 922, 923, 924, 925, 926, 927, 928, 929, 930, 974, 975, 976, 989, 990, 970, 971, 972, 973] (by decide +kernel) (by decide +kernel)
set_option maxRecDepth 20000 in
theorem gL_law_X10_won : GoodIn wsL_law (wsV RL 122 RX10 yX10_won wsX10_won) := goodIn_app (goodIn_of _ (by decide +kernel)) ggL_law_X10_won
set_option maxRecDepth 20000 in
theorem ggL_law_X11_won : GoodIn wsL_law wsX11_won := goodIn_r _ [854, 855, 331, 407, 828, 856, 857, 111, 332, 399, 400, 401, 5, 402, 145, 146, 147, 284, 285, 286, 858, 859, 860, 861, 428, 429, 430, 431, 420, 421, 422, 423, 334, 335, 408, 409, 410, 411, 412, 413, 414, 415, 416, 417, 418, 419, 333, 931, 932, 933, 934, 935, 936, 937, 938, 939, 940, 941, 942, 943, 944, 945, 946, 947, 948, 949, 950, 951, 952, 953, 954, 955, 956, 957, 958, 959, 960, 961, 962, 963, 964] (by decide +kernel) (by decide +kernel)
set_option maxRecDepth 20000 in
theorem gL_law_X11_won : GoodIn wsL_law (wsV RL 125 RX11 yX11_won wsX11_won) := goodIn_app (goodIn_of _ (by decide +kernel)) ggL_law_X11_won
set_option maxRecDepth 20000 in
theorem ggL_law_X10_keep : GoodIn wsL_law wsX10_keep := goodIn_r _ [865, 32, 28, 866, 867, 2, 868, 303, 304, 305, 27, 306, 180, 71, 869, 870, 871, 31, 872, 79, 326, 200, 201, 202, 921, 922, 923, 924, 925, 926, 927, 928, 929, 930, 974, 975, 976, 977, 978, 979] (by decide +kernel) (by decide +kernel)
set_option maxRecDepth 20000 in
theorem gL_law_X10_keep : GoodIn wsL_law (wsV RL 126 RX10 yX10_keep wsX10_keep) := goodIn_app (goodIn_of _ (by decide +kernel)) ggL_law_X10_keep
set_option maxRecDepth 20000 in
theorem ggL_law_X11_keep : GoodIn wsL_law wsX11_keep := goodIn_r _ [876, 123, 124, 109, 331, 145, 146, 5, 147, 931, 932, 933, 934, 935, 936, 937, 938, 939, 940, 941, 942, 943, 944, 945, 946, 947, 948, 949, 950, 951, 952, 953, 954, 955, 956, 957, 958, 959, 960, 961, 962, 963, 964] (by decide +kernel) (by decide +kernel)
set_option maxRecDepth 20000 in
theorem gL_law_X11_keep : GoodIn wsL_law (wsV RL 129 RX11 yX11_keep wsX11_keep) := goodIn_app (goodIn_of _ (by decide +kernel)) ggL_law_X11_keep
set_option maxRecDepth 20000 in
theorem ggL_law_X10_again : GoodIn wsL_law wsX10_again := goodIn_r _ [880, 32, 738, 28, 866, 867, 2, 868, 881, 882, 883, 31, 884, 79, 78, 307, 308, 309, 27, 310, 311, 312, 177, 178, 179, 180, 72, 181, 182, 183, 184, 313, 253, 254, 255, 71, 226, 227, 314, 315, 316, 317, 318, 326, 200, 201, 202, 921, 922, 923, 924, 925, 926, 927, 928, 929, 930, 977, 978, 979, 974, 975, 976] (by decide +kernel) (by decide +kernel)
set_option maxRecDepth 20000 in
theorem gL_law_X10_again : GoodIn wsL_law (wsV RL 130 RX10 yX10_again wsX10_again) := goodIn_app (goodIn_of _ (by decide +kernel)) ggL_law_X10_again
set_option maxRecDepth 20000 in
theorem ggL_law_X11_again : GoodIn wsL_law wsX11_again := goodIn_r _ [888, 123, 109, 124, 331, 336, 145, 146, 5, 147, 931, 932, 933, 934, 935, 936, 937, 938, 939, 940, 941, 942, 943, 944, 945, 946, 947, 948, 949, 950, 951, 952, 953, 954, 955, 956, 957, 958, 959, 960, 961, 962, 963, 964] (by decide +kernel) (by decide +kernel)
set_option maxRecDepth 20000 in
theorem gL_law_X11_again : GoodIn wsL_law (wsV RL 133 RX11 yX11_again wsX11_again) := goodIn_app (goodIn_of _ (by decide +kernel)) ggL_law_X11_again
set_option maxRecDepth 20000 in
theorem ggL_law_X10_count : GoodIn wsL_law wsX10_count := goodIn_r _ [892, 16, 28, 24, 32, 48, 129, 130, 131, 15, 132, 133, 326, 200, 201, 27, 202, 180, 893, 894, 895, 2, 896, 345, 346, 347, 348, 71, 349, 342, 343, 344, 350, 229, 230, 231, 72, 226, 227, 351, 352, 353, 23, 354, 172, 897, 898, 899, 900, 175, 525, 526, 527, 31, 528, 318, 775, 776, 777, 47, 778, 779, 901, 902, 903, 904, 174, 905, 906, 907, 908, 909, 910, 911, 912, 173, 913, 914, 915, 916, 355, 356, 357, 358, 359, 360, 361, 362, 363, 364, 365, 366, 367, 368, 369, 370, 371, 372, 373, 374, 375, 376, 377, 378, 379, 921, 922, 923, 924, 925, 926, 927, 928, 929, 930, 965, 966, 974, 975, 976, 970, 971, 972, 973, 977, 978, 979, 987, 988] (by decide +kernel) (by decide +kernel)
set_option maxRecDepth 20000 in
theorem gL_law_X10_count : GoodIn wsL_law (wsV RL 134 RX10 yX10_count wsX10_count) := goodIn_app (goodIn_of _ (by decide +kernel)) ggL_law_X10_count
set_option maxRecDepth 20000 in
theorem ggL_law_X11_count : GoodIn wsL_law wsX11_count := goodIn_r _ [920, 335, 331, 143, 332, 336, 789, 333, 334, 403, 404, 405, 5, 406, 407, 111, 109, 408, 409, 410, 411, 412, 413, 414, 415, 416, 417, 418, 419, 420, 421, 422, 423, 931, 932, 933, 934, 935, 936, 937, 938, 939, 940, 941, 942, 943, 944, 945, 946, 947, 948, 949, 950, 951, 952, 953, 954, 955, 956, 957, 958, 959, 960, 961, 962, 963, 964] (by decide +kernel) (by decide +kernel)
set_option maxRecDepth 20000 in
theorem gL_law_X11_count : GoodIn wsL_law (wsV RL 137 RX11 yX11_count wsX11_count) := goodIn_app (goodIn_of _ (by decide +kernel)) ggL_law_X11_count

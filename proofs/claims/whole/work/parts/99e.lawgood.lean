set_option maxRecDepth 20000 in
theorem ggL_law_X10_see : GoodIn wsL_law wsX10_see := goodIn_r _ [741, 37, 742, 378, 379, 380, 2, 381, 19, 382, 304, 203, 204, 743, 744, 745, 36, 746, 247, 93, 94, 894, 895, 896, 897, 898, 899, 900, 901, 902, 903, 904, 905, 964, 965, 966, 941, 942, 943, 944, 945, 946, 947, 948, 949, 950, 951, 952, 953] (by decide +kernel) (by decide +kernel)
set_option maxRecDepth 20000 in
theorem gL_law_X10_see : GoodIn wsL_law (wsV RL 85 RX10 yX10_see wsX10_see) := goodIn_app (goodIn_of _ (by decide +kernel)) ggL_law_X10_see
set_option maxRecDepth 20000 in
theorem ggL_law_X11_see : GoodIn wsL_law wsX11_see := goodIn_r _ [750, 536, 371, 269, 270, 421, 422, 423, 5, 424, 292, 312, 313, 314, 906, 907, 908, 909, 910, 911, 912, 913, 914, 915, 916, 917, 918, 919, 920, 921, 922, 923, 924, 925, 926, 927, 928, 929, 930, 931, 932, 933, 934, 935, 936, 937] (by decide +kernel) (by decide +kernel)
set_option maxRecDepth 20000 in
theorem gL_law_X11_see : GoodIn wsL_law (wsV RL 88 RX11 yX11_see wsX11_see) := goodIn_app (goodIn_of _ (by decide +kernel)) ggL_law_X11_see
set_option maxRecDepth 20000 in
theorem ggL_law_X10_forget : GoodIn wsL_law wsX10_forget := goodIn_r _ [754, 37, 742, 243, 244, 245, 36, 246, 247, 894, 895, 896, 897, 898, 899, 900, 901, 902, 903, 904, 905, 964, 965, 966] (by decide +kernel) (by decide +kernel)
set_option maxRecDepth 20000 in
theorem gL_law_X10_forget : GoodIn wsL_law (wsV RL 89 RX10 yX10_forget wsX10_forget) := goodIn_app (goodIn_of _ (by decide +kernel)) ggL_law_X10_forget
set_option maxRecDepth 20000 in
theorem ggL_law_X11_forget : GoodIn wsL_law wsX11_forget := goodIn_r _ [758, 371, 906, 907, 908, 909, 910, 911, 912, 913, 914, 915, 916, 917, 918, 919, 920, 921, 922, 923, 924, 925, 926, 927, 928, 929, 930, 931, 932, 933, 934, 935, 936, 937] (by decide +kernel) (by decide +kernel)
set_option maxRecDepth 20000 in
theorem gL_law_X11_forget : GoodIn wsL_law (wsV RL 92 RX11 yX11_forget wsX11_forget) := goodIn_app (goodIn_of _ (by decide +kernel)) ggL_law_X11_forget
set_option maxRecDepth 20000 in
theorem ggL_law_X10_within : GoodIn wsL_law wsX10_within := goodIn_r _ [762, 33, 24, 37, 376, 377, 378, 379, 380, 2, 381, 19, 382, 304, 203, 204, 415, 395, 396, 32, 397, 89, 398, 399, 400, 763, 402, 403, 404, 405, 406, 407, 408, 88, 409, 410, 411, 412, 413, 18, 414, 63, 66, 764, 765, 766, 36, 767, 247, 93, 94, 894, 895, 896, 897, 898, 899, 900, 901, 902, 903, 904, 905, 954, 955, 956, 957, 958, 941, 942, 943, 944, 945, 946, 947, 948, 949, 950, 951, 952, 953, 962, 963, 964, 965, 966] (by decide +kernel) (by decide +kernel)
set_option maxRecDepth 20000 in
theorem gL_law_X10_within : GoodIn wsL_law (wsV RL 93 RX10 yX10_within wsX10_within) := goodIn_app (goodIn_of _ (by decide +kernel)) ggL_law_X10_within
set_option maxRecDepth 20000 in
theorem ggL_law_X11_within : GoodIn wsL_law wsX11_within := goodIn_r _ [771, 294, 266, 421, 422, 423, 5, 424, 292, 312, 313, 314, 429, 430, 431, 432, 258, 433, 434, 435, 436, 261, 271, 437, 438, 439, 440, 441, 442, 443, 444, 445, 446, 260, 257, 772, 773, 774, 775, 371, 269, 270, 906, 907, 908, 909, 910, 911, 912, 913, 914, 915, 916, 917, 918, 919, 920, 921, 922, 923, 924, 925, 926, 927, 928, 929, 930, 931, 932, 933, 934, 935, 936, 937] (by decide +kernel) (by decide +kernel)
set_option maxRecDepth 20000 in
theorem gL_law_X11_within : GoodIn wsL_law (wsV RL 96 RX11 yX11_within wsX11_within) := goodIn_app (goodIn_of _ (by decide +kernel)) ggL_law_X11_within
set_option maxRecDepth 20000 in
theorem ggL_law_X10_isCats : GoodIn wsL_law wsX10_isCats := goodIn_r _ [779, 33, 24, 37, 376, 378, 379, 380, 2, 381, 19, 382, 304, 203, 204, 780, 390, 391, 32, 392, 393, 394, 395, 396, 397, 89, 398, 399, 400, 763, 402, 403, 404, 405, 406, 407, 408, 88, 409, 410, 411, 412, 413, 18, 414, 63, 66, 764, 765, 766, 36, 767, 247, 93, 94, 894, 895, 896, 897, 898, 899, 900, 901, 902, 903, 904, 905, 954, 955, 956, 957, 958, 941, 942, 943, 944, 945, 946, 947, 948, 949, 950, 951, 952, 953, 962, 963, 964, 965, 966] (by decide +kernel) (by decide +kernel)
set_option maxRecDepth 20000 in
theorem gL_law_X10_isCats : GoodIn wsL_law (wsV RL 97 RX10 yX10_isCats wsX10_isCats) := goodIn_app (goodIn_of _ (by decide +kernel)) ggL_law_X10_isCats
set_option maxRecDepth 20000 in
theorem ggL_law_X11_isCats : GoodIn wsL_law wsX11_isCats := goodIn_r _ [784, 266, 421, 422, 423, 5, 424, 292, 312, 313, 314, 429, 430, 431, 432, 294, 258, 433, 434, 435, 436, 261, 271, 437, 438, 439, 440, 441, 442, 443, 444, 445, 446, 260, 257, 772, 773, 774, 775, 371, 269, 270, 906, 907, 908, 909, 910, 911, 912, 913, 914, 915, 916, 917, 918, 919, 920, 921, 922, 923, 924, 925, 926, 927, 928, 929, 930, 931, 932, 933, 934, 935, 936, 937] (by decide +kernel) (by decide +kernel)
set_option maxRecDepth 20000 in
theorem gL_law_X11_isCats : GoodIn wsL_law (wsV RL 100 RX11 yX11_isCats wsX11_isCats) := goodIn_app (goodIn_of _ (by decide +kernel)) ggL_law_X11_isCats
set_option maxRecDepth 20000 in
theorem ggL_law_X10_was : GoodIn wsL_law wsX10_was := goodIn_r _ [788, 24, 455, 41, 457, 458, 459, 2, 460, 19, 364, 304, 203, 204, 789, 592, 593, 40, 594, 100, 590, 101, 595, 596, 486, 487, 23, 488, 75, 76, 77, 241, 242, 597, 598, 599, 600, 102, 601, 602, 496, 497, 32, 498, 388, 89, 398, 399, 400, 88, 405, 406, 407, 408, 499, 500, 501, 389, 390, 391, 392, 393, 394, 395, 396, 397, 401, 402, 403, 404, 409, 410, 411, 412, 413, 18, 414, 63, 66, 502, 462, 463, 464, 503, 504, 505, 506, 507, 894, 895, 896, 897, 898, 899, 900, 901, 902, 903, 904, 905, 954, 955, 956, 957, 958, 941, 942, 943, 944, 945, 946, 947, 948, 949, 950, 951, 952, 953, 967, 968, 969, 962, 963] (by decide +kernel) (by decide +kernel)
set_option maxRecDepth 20000 in
theorem gL_law_X10_was : GoodIn wsL_law (wsV RL 101 RX10 yX10_was wsX10_was) := goodIn_app (goodIn_of _ (by decide +kernel)) ggL_law_X10_was
set_option maxRecDepth 20000 in
theorem ggL_law_X11_was : GoodIn wsL_law wsX11_was := goodIn_r _ [793, 512, 266, 470, 471, 472, 5, 473, 294, 312, 313, 314, 295, 296, 297, 298, 608, 609, 610, 611, 517, 518, 519, 520, 292, 258, 271, 437, 438, 439, 429, 430, 431, 432, 433, 434, 435, 436, 261, 440, 441, 442, 443, 444, 445, 446, 260, 257, 521, 522, 523, 524, 525, 526, 527, 906, 907, 908, 909, 910, 911, 912, 913, 914, 915, 916, 917, 918, 919, 920, 921, 922, 923, 924, 925, 926, 927, 928, 929, 930, 931, 932, 933, 934, 935, 936, 937] (by decide +kernel) (by decide +kernel)
set_option maxRecDepth 20000 in
theorem gL_law_X11_was : GoodIn wsL_law (wsV RL 104 RX11 yX11_was wsX11_was) := goodIn_app (goodIn_of _ (by decide +kernel)) ggL_law_X11_was
set_option maxRecDepth 20000 in
theorem ggL_law_X10_snows : GoodIn wsL_law wsX10_snows := goodIn_r _ [797, 49, 24, 798, 500, 407, 501, 457, 458, 459, 2, 460, 19, 364, 304, 203, 204, 799, 800, 801, 48, 802, 120, 121, 122, 803, 804, 805, 486, 487, 23, 488, 75, 76, 77, 241, 242, 806, 807, 808, 409, 410, 809, 810, 811, 812, 123, 813, 814, 496, 497, 32, 498, 388, 89, 398, 399, 400, 88, 405, 406, 408, 499, 389, 390, 391, 392, 393, 394, 395, 396, 397, 401, 402, 403, 404, 411, 412, 413, 18, 414, 63, 66, 502, 462, 463, 464, 503, 504, 505, 506, 507, 815, 816, 817, 894, 895, 896, 897, 898, 899, 900, 901, 902, 903, 904, 905, 941, 942, 943, 944, 945, 946, 947, 948, 949, 950, 951, 952, 953, 977, 978, 979, 980, 954, 955, 956, 957, 958, 962, 963] (by decide +kernel) (by decide +kernel)
set_option maxRecDepth 20000 in
theorem gL_law_X10_snows : GoodIn wsL_law (wsV RL 105 RX10 yX10_snows wsX10_snows) := goodIn_app (goodIn_of _ (by decide +kernel)) ggL_law_X10_snows

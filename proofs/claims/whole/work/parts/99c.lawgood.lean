set_option maxRecDepth 20000 in
theorem ggL_law_X10_quarrel : GoodIn wsL_law wsX10_quarrel := goodIn_r _ [540, 24, 455, 28, 541, 457, 458, 459, 2, 460, 19, 364, 304, 203, 204, 461, 462, 463, 23, 464, 241, 409, 410, 479, 480, 481, 27, 482, 483, 83, 252, 484, 406, 407, 408, 485, 486, 487, 488, 75, 76, 77, 242, 542, 543, 544, 545, 546, 547, 548, 549, 550, 551, 552, 894, 895, 896, 897, 898, 899, 900, 901, 902, 903, 904, 905, 954, 955, 956, 957, 958, 941, 942, 943, 944, 945, 946, 947, 948, 949, 950, 951, 952, 953, 959, 960, 961] (by decide +kernel) (by decide +kernel)
set_option maxRecDepth 20000 in
theorem gL_law_X10_quarrel : GoodIn wsL_law (wsV RL 48 RX10 yX10_quarrel wsX10_quarrel) := goodIn_app (goodIn_of _ (by decide +kernel)) ggL_law_X10_quarrel
set_option maxRecDepth 20000 in
theorem ggL_law_X11_quarrel : GoodIn wsL_law wsX11_quarrel := goodIn_r _ [556, 266, 470, 471, 472, 5, 473, 294, 312, 313, 314, 513, 514, 515, 516, 369, 295, 296, 297, 298, 557, 558, 559, 906, 907, 908, 909, 910, 911, 912, 913, 914, 915, 916, 917, 918, 919, 920, 921, 922, 923, 924, 925, 926, 927, 928, 929, 930, 931, 932, 933, 934, 935, 936, 937] (by decide +kernel) (by decide +kernel)
set_option maxRecDepth 20000 in
theorem gL_law_X11_quarrel : GoodIn wsL_law (wsV RL 51 RX11 yX11_quarrel wsX11_quarrel) := goodIn_app (goodIn_of _ (by decide +kernel)) ggL_law_X11_quarrel
set_option maxRecDepth 20000 in
theorem ggL_law_X10_cats : GoodIn wsL_law wsX10_cats := goodIn_r _ [563, 28, 24, 377, 378, 379, 380, 2, 381, 19, 382, 304, 203, 204, 479, 480, 481, 27, 482, 483, 83, 252, 484, 406, 407, 408, 485, 486, 487, 23, 488, 75, 76, 77, 241, 242, 894, 895, 896, 897, 898, 899, 900, 901, 902, 903, 904, 905, 954, 955, 956, 957, 958, 941, 942, 943, 944, 945, 946, 947, 948, 949, 950, 951, 952, 953, 959, 960, 961] (by decide +kernel) (by decide +kernel)
set_option maxRecDepth 20000 in
theorem gL_law_X10_cats : GoodIn wsL_law (wsV RL 52 RX10 yX10_cats wsX10_cats) := goodIn_app (goodIn_of _ (by decide +kernel)) ggL_law_X10_cats
set_option maxRecDepth 20000 in
theorem ggL_law_X11_cats : GoodIn wsL_law wsX11_cats := goodIn_r _ [567, 568, 266, 421, 422, 423, 5, 424, 292, 312, 313, 314, 513, 514, 515, 516, 369, 295, 296, 297, 298, 906, 907, 908, 909, 910, 911, 912, 913, 914, 915, 916, 917, 918, 919, 920, 921, 922, 923, 924, 925, 926, 927, 928, 929, 930, 931, 932, 933, 934, 935, 936, 937] (by decide +kernel) (by decide +kernel)
set_option maxRecDepth 20000 in
theorem gL_law_X11_cats : GoodIn wsL_law (wsV RL 55 RX11 yX11_cats wsX11_cats) := goodIn_app (goodIn_of _ (by decide +kernel)) ggL_law_X11_cats
set_option maxRecDepth 20000 in
theorem ggL_law_X10_undo : GoodIn wsL_law wsX10_undo := goodIn_r _ [572, 28, 573, 24, 574, 575, 576, 27, 577, 483, 83, 252, 485, 486, 487, 23, 488, 75, 76, 77, 241, 242, 894, 895, 896, 897, 898, 899, 900, 901, 902, 903, 904, 905, 959, 960, 961, 954, 955, 956, 957, 958] (by decide +kernel) (by decide +kernel)
set_option maxRecDepth 20000 in
theorem gL_law_X10_undo : GoodIn wsL_law (wsV RL 56 RX10 yX10_undo wsX10_undo) := goodIn_app (goodIn_of _ (by decide +kernel)) ggL_law_X10_undo
set_option maxRecDepth 20000 in
theorem ggL_law_X11_undo : GoodIn wsL_law wsX11_undo := goodIn_r _ [581, 369, 295, 296, 297, 5, 298, 266, 906, 907, 908, 909, 910, 911, 912, 913, 914, 915, 916, 917, 918, 919, 920, 921, 922, 923, 924, 925, 926, 927, 928, 929, 930, 931, 932, 933, 934, 935, 936, 937] (by decide +kernel) (by decide +kernel)
set_option maxRecDepth 20000 in
theorem gL_law_X11_undo : GoodIn wsL_law (wsV RL 59 RX11 yX11_undo wsX11_undo) := goodIn_app (goodIn_of _ (by decide +kernel)) ggL_law_X11_undo
set_option maxRecDepth 20000 in
theorem ggL_law_X10_behind : GoodIn wsL_law wsX10_behind := goodIn_r _ [585, 41, 24, 304, 203, 2, 204, 457, 458, 459, 460, 19, 364, 586, 587, 588, 40, 589, 590, 591, 592, 593, 594, 100, 101, 595, 596, 486, 487, 23, 488, 75, 76, 77, 241, 242, 597, 598, 599, 600, 102, 601, 602, 496, 497, 32, 498, 388, 89, 398, 399, 400, 88, 405, 406, 407, 408, 499, 500, 501, 389, 390, 391, 392, 393, 394, 395, 396, 397, 401, 402, 403, 404, 409, 410, 411, 412, 413, 18, 414, 63, 66, 502, 462, 463, 464, 503, 504, 505, 506, 507, 894, 895, 896, 897, 898, 899, 900, 901, 902, 903, 904, 905, 941, 942, 943, 944, 945, 946, 947, 948, 949, 950, 951, 952, 953, 954, 955, 956, 957, 958, 967, 968, 969, 962, 963] (by decide +kernel) (by decide +kernel)
set_option maxRecDepth 20000 in
theorem gL_law_X10_behind : GoodIn wsL_law (wsV RL 60 RX10 yX10_behind wsX10_behind) := goodIn_app (goodIn_of _ (by decide +kernel)) ggL_law_X10_behind
set_option maxRecDepth 20000 in
theorem ggL_law_X11_behind : GoodIn wsL_law wsX11_behind := goodIn_r _ [606, 607, 266, 312, 313, 5, 314, 470, 471, 472, 473, 294, 295, 296, 297, 298, 608, 609, 610, 611, 517, 518, 519, 520, 292, 258, 271, 437, 438, 439, 429, 430, 431, 432, 433, 434, 435, 436, 261, 440, 441, 442, 443, 444, 445, 446, 260, 257, 521, 522, 523, 524, 525, 526, 527, 906, 907, 908, 909, 910, 911, 912, 913, 914, 915, 916, 917, 918, 919, 920, 921, 922, 923, 924, 925, 926, 927, 928, 929, 930, 931, 932, 933, 934, 935, 936, 937] (by decide +kernel) (by decide +kernel)
set_option maxRecDepth 20000 in
theorem gL_law_X11_behind : GoodIn wsL_law (wsV RL 63 RX11 yX11_behind wsX11_behind) := goodIn_app (goodIn_of _ (by decide +kernel)) ggL_law_X11_behind
set_option maxRecDepth 20000 in
theorem ggL_law_X10_goes : GoodIn wsL_law wsX10_goes := goodIn_r _ [615, 41, 24, 457, 458, 459, 2, 460, 19, 364, 304, 203, 204, 616, 617, 618, 40, 619, 100, 590, 101, 595, 596, 486, 487, 23, 488, 75, 76, 77, 241, 242, 597, 598, 599, 600, 102, 601, 602, 496, 497, 32, 498, 388, 89, 398, 399, 400, 88, 405, 406, 407, 408, 499, 500, 501, 389, 390, 391, 392, 393, 394, 395, 396, 397, 401, 402, 403, 404, 409, 410, 411, 412, 413, 18, 414, 63, 66, 502, 462, 463, 464, 503, 504, 505, 506, 507, 894, 895, 896, 897, 898, 899, 900, 901, 902, 903, 904, 905, 941, 942, 943, 944, 945, 946, 947, 948, 949, 950, 951, 952, 953, 967, 968, 969, 954, 955, 956, 957, 958, 962, 963] (by decide +kernel) (by decide +kernel)
set_option maxRecDepth 20000 in
theorem gL_law_X10_goes : GoodIn wsL_law (wsV RL 64 RX10 yX10_goes wsX10_goes) := goodIn_app (goodIn_of _ (by decide +kernel)) ggL_law_X10_goes
set_option maxRecDepth 20000 in
theorem ggL_law_X11_goes : GoodIn wsL_law wsX11_goes := goodIn_r _ [623, 266, 470, 471, 472, 5, 473, 294, 312, 313, 314, 295, 296, 297, 298, 608, 609, 610, 611, 517, 518, 519, 520, 292, 258, 271, 437, 438, 439, 429, 430, 431, 432, 433, 434, 435, 436, 261, 440, 441, 442, 443, 444, 445, 446, 260, 257, 521, 522, 523, 524, 525, 526, 527, 906, 907, 908, 909, 910, 911, 912, 913, 914, 915, 916, 917, 918, 919, 920, 921, 922, 923, 924, 925, 926, 927, 928, 929, 930, 931, 932, 933, 934, 935, 936, 937] (by decide +kernel) (by decide +kernel)
set_option maxRecDepth 20000 in
theorem gL_law_X11_goes : GoodIn wsL_law (wsV RL 67 RX11 yX11_goes wsX11_goes) := goodIn_app (goodIn_of _ (by decide +kernel)) ggL_law_X11_goes

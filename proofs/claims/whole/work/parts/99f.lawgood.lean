set_option maxRecDepth 20000 in
theorem ggL_law_X11_snows : GoodIn wsL_law wsX11_snows := goodIn_r _ [821, 822, 823, 266, 470, 471, 472, 5, 473, 294, 312, 313, 314, 295, 296, 297, 298, 440, 441, 442, 517, 518, 519, 520, 292, 258, 271, 437, 438, 439, 429, 430, 431, 432, 433, 434, 435, 436, 261, 443, 444, 445, 446, 260, 257, 521, 522, 523, 524, 525, 526, 527, 906, 907, 908, 909, 910, 911, 912, 913, 914, 915, 916, 917, 918, 919, 920, 921, 922, 923, 924, 925, 926, 927, 928, 929, 930, 931, 932, 933, 934, 935, 936, 937] (by decide +kernel) (by decide +kernel)
set_option maxRecDepth 20000 in
theorem gL_law_X11_snows : GoodIn wsL_law (wsV RL 109 RX11 yX11_snows wsX11_snows) := goodIn_app (goodIn_of _ (by decide +kernel)) ggL_law_X11_snows
set_option maxRecDepth 20000 in
theorem ggL_law_X10_year : GoodIn wsL_law wsX10_year := goodIn_r _ [827, 41, 24, 828, 304, 203, 2, 204, 829, 830, 831, 40, 832, 100, 833, 834, 835, 102, 596, 486, 487, 23, 488, 75, 76, 77, 241, 242, 836, 837, 838, 839, 601, 101, 840, 717, 841, 842, 843, 723, 543, 544, 545, 724, 490, 491, 32, 492, 89, 493, 387, 494, 495, 496, 497, 498, 388, 398, 399, 400, 88, 405, 406, 407, 408, 499, 500, 501, 389, 390, 391, 392, 393, 394, 395, 396, 397, 401, 402, 403, 404, 409, 410, 411, 412, 413, 18, 414, 63, 66, 502, 462, 463, 464, 503, 504, 505, 506, 507, 844, 726, 727, 728, 894, 895, 896, 897, 898, 899, 900, 901, 902, 903, 904, 905, 967, 968, 969, 954, 955, 956, 957, 958, 941, 942, 943, 944, 945, 946, 947, 948, 949, 950, 951, 952, 953, 962, 963] (by decide +kernel) (by decide +kernel)
set_option maxRecDepth 20000 in
theorem gL_law_X10_year : GoodIn wsL_law (wsV RL 110 RX10 yX10_year wsX10_year) := goodIn_app (goodIn_of _ (by decide +kernel)) ggL_law_X10_year
set_option maxRecDepth 20000 in
theorem ggL_law_X11_year : GoodIn wsL_law wsX11_year := goodIn_r _ [848, 849, 850, 851, 852, 853, 312, 313, 5, 314, 295, 296, 297, 298, 266, 854, 855, 856, 857, 292, 294, 517, 518, 519, 520, 258, 271, 437, 438, 439, 429, 430, 431, 432, 433, 434, 435, 436, 261, 440, 441, 442, 443, 444, 445, 446, 260, 257, 521, 522, 523, 524, 525, 526, 527, 734, 735, 736, 737, 906, 907, 908, 909, 910, 911, 912, 913, 914, 915, 916, 917, 918, 919, 920, 921, 922, 923, 924, 925, 926, 927, 928, 929, 930, 931, 932, 933, 934, 935, 936, 937] (by decide +kernel) (by decide +kernel)
set_option maxRecDepth 20000 in
theorem gL_law_X11_year : GoodIn wsL_law (wsV RL 113 RX11 yX11_year wsX11_year) := goodIn_app (goodIn_of _ (by decide +kernel)) ggL_law_X11_year
set_option maxRecDepth 20000 in
theorem ggL_law_X10_keep : GoodIn wsL_law wsX10_keep := goodIn_r _ [861, 29, 573, 24, 479, 480, 481, 27, 482, 483, 83, 252, 484, 406, 407, 408, 485, 486, 487, 23, 488, 75, 76, 77, 241, 242, 894, 895, 896, 897, 898, 899, 900, 901, 902, 903, 904, 905, 959, 960, 961, 954, 955, 956, 957, 958] (by decide +kernel) (by decide +kernel)
set_option maxRecDepth 20000 in
theorem gL_law_X10_keep : GoodIn wsL_law (wsV RL 114 RX10 yX10_keep wsX10_keep) := goodIn_app (goodIn_of _ (by decide +kernel)) ggL_law_X10_keep
set_option maxRecDepth 20000 in
theorem ggL_law_X11_keep : GoodIn wsL_law wsX11_keep := goodIn_r _ [865, 370, 295, 296, 297, 5, 298, 266, 906, 907, 908, 909, 910, 911, 912, 913, 914, 915, 916, 917, 918, 919, 920, 921, 922, 923, 924, 925, 926, 927, 928, 929, 930, 931, 932, 933, 934, 935, 936, 937] (by decide +kernel) (by decide +kernel)
set_option maxRecDepth 20000 in
theorem gL_law_X11_keep : GoodIn wsL_law (wsV RL 117 RX11 yX11_keep wsX11_keep) := goodIn_app (goodIn_of _ (by decide +kernel)) ggL_law_X11_keep
set_option maxRecDepth 20000 in
theorem ggL_law_X10_back : GoodIn wsL_law wsX10_back := goodIn_r _ [869, 29, 573, 24, 28, 574, 575, 576, 27, 577, 483, 83, 252, 485, 486, 487, 23, 488, 75, 76, 77, 241, 242, 248, 249, 250, 251, 894, 895, 896, 897, 898, 899, 900, 901, 902, 903, 904, 905, 959, 960, 961, 954, 955, 956, 957, 958] (by decide +kernel) (by decide +kernel)
set_option maxRecDepth 20000 in
theorem gL_law_X10_back : GoodIn wsL_law (wsV RL 118 RX10 yX10_back wsX10_back) := goodIn_app (goodIn_of _ (by decide +kernel)) ggL_law_X10_back
set_option maxRecDepth 20000 in
theorem ggL_law_X11_back : GoodIn wsL_law wsX11_back := goodIn_r _ [873, 370, 369, 295, 296, 297, 5, 298, 266, 906, 907, 908, 909, 910, 911, 912, 913, 914, 915, 916, 917, 918, 919, 920, 921, 922, 923, 924, 925, 926, 927, 928, 929, 930, 931, 932, 933, 934, 935, 936, 937] (by decide +kernel) (by decide +kernel)
set_option maxRecDepth 20000 in
theorem gL_law_X11_back : GoodIn wsL_law (wsV RL 121 RX11 yX11_back wsX11_back) := goodIn_app (goodIn_of _ (by decide +kernel)) ggL_law_X11_back
set_option maxRecDepth 20000 in
theorem ggL_law_X10_count : GoodIn wsL_law wsX10_count := goodIn_r _ [877, 19, 382, 364, 645, 24, 478, 541, 37, 742, 28, 573, 29, 15, 303, 844, 726, 727, 23, 728, 77, 546, 547, 548, 549, 550, 551, 552, 878, 879, 880, 2, 881, 376, 882, 883, 884, 885, 33, 383, 384, 385, 32, 386, 387, 388, 389, 390, 391, 392, 393, 394, 395, 396, 397, 89, 398, 399, 400, 401, 402, 403, 404, 405, 406, 407, 408, 88, 409, 410, 411, 412, 413, 18, 414, 63, 66, 894, 895, 896, 897, 898, 899, 900, 901, 902, 903, 904, 905, 941, 942, 943, 944, 945, 946, 947, 948, 949, 950, 951, 952, 953, 954, 955, 956, 957, 958, 964, 965, 966, 959, 960, 961, 938, 939, 940, 962, 963] (by decide +kernel) (by decide +kernel)
set_option maxRecDepth 20000 in
theorem gL_law_X10_count : GoodIn wsL_law (wsV RL 122 RX10 yX10_count wsX10_count) := goodIn_app (goodIn_of _ (by decide +kernel)) ggL_law_X10_count
set_option maxRecDepth 20000 in
theorem ggL_law_X11_count : GoodIn wsL_law wsX11_count := goodIn_r _ [889, 292, 294, 293, 266, 371, 369, 370, 311, 734, 735, 736, 5, 737, 557, 558, 559, 890, 891, 892, 893, 425, 426, 427, 428, 429, 430, 431, 432, 258, 433, 434, 435, 436, 261, 271, 437, 438, 439, 440, 441, 442, 443, 444, 445, 446, 260, 257, 906, 907, 908, 909, 910, 911, 912, 913, 914, 915, 916, 917, 918, 919, 920, 921, 922, 923, 924, 925, 926, 927, 928, 929, 930, 931, 932, 933, 934, 935, 936, 937] (by decide +kernel) (by decide +kernel)
set_option maxRecDepth 20000 in
theorem gL_law_X11_count : GoodIn wsL_law (wsV RL 125 RX11 yX11_count wsX11_count) := goodIn_app (goodIn_of _ (by decide +kernel)) ggL_law_X11_count

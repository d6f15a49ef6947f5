set_option maxRecDepth 20000 in
theorem ggL_law_X11_lay : GoodIn wsL_law wsX11_lay := goodIn_r _ [368, 283, 369, 370, 371, 294, 332, 333, 334, 5, 335, 336, 337, 311, 331, 278, 279, 280, 281, 282, 277, 266, 338, 339, 340, 341, 268, 342, 343, 344, 345, 346, 347, 348, 349, 350, 351, 312, 313, 314, 352, 353, 354, 355, 356, 357, 358, 359, 284, 285, 286, 287, 262, 263, 264, 265, 288, 289, 290, 291, 292, 293, 257, 258, 259, 260, 261, 295, 296, 297, 298, 906, 907, 908, 909, 910, 911, 912, 913, 914, 915, 916, 917, 918, 919, 920, 921, 922, 923, 924, 925, 926, 927, 928, 929, 930, 931, 932, 933, 934, 935, 936, 937] (by decide +kernel) (by decide +kernel)
set_option maxRecDepth 20000 in
theorem gL_law_X11_lay : GoodIn wsL_law (wsV RL 30 RX11 yX11_lay wsX11_lay) := goodIn_app (goodIn_of _ (by decide +kernel)) ggL_law_X11_lay
set_option maxRecDepth 20000 in
theorem ggL_law_X10_step : GoodIn wsL_law wsX10_step := goodIn_r _ [375, 24, 376, 377, 33, 378, 379, 380, 2, 381, 19, 382, 304, 203, 204, 383, 384, 385, 32, 386, 387, 388, 389, 390, 391, 392, 393, 394, 395, 396, 397, 89, 398, 399, 400, 401, 402, 403, 404, 405, 406, 407, 408, 88, 409, 410, 411, 412, 413, 18, 414, 63, 66, 415, 894, 895, 896, 897, 898, 899, 900, 901, 902, 903, 904, 905, 954, 955, 956, 957, 958, 941, 942, 943, 944, 945, 946, 947, 948, 949, 950, 951, 952, 953, 962, 963] (by decide +kernel) (by decide +kernel)
set_option maxRecDepth 20000 in
theorem gL_law_X10_step : GoodIn wsL_law (wsV RL 31 RX10 yX10_step wsX10_step) := goodIn_app (goodIn_of _ (by decide +kernel)) ggL_law_X10_step
set_option maxRecDepth 20000 in
theorem ggL_law_X11_step : GoodIn wsL_law wsX11_step := goodIn_r _ [419, 420, 266, 421, 422, 423, 5, 424, 292, 312, 313, 314, 425, 426, 427, 428, 429, 430, 431, 432, 294, 258, 433, 434, 435, 436, 261, 271, 437, 438, 439, 440, 441, 442, 443, 444, 445, 446, 260, 257, 906, 907, 908, 909, 910, 911, 912, 913, 914, 915, 916, 917, 918, 919, 920, 921, 922, 923, 924, 925, 926, 927, 928, 929, 930, 931, 932, 933, 934, 935, 936, 937] (by decide +kernel) (by decide +kernel)
set_option maxRecDepth 20000 in
theorem gL_law_X11_step : GoodIn wsL_law (wsV RL 35 RX11 yX11_step wsX11_step) := goodIn_app (goodIn_of _ (by decide +kernel)) ggL_law_X11_step
set_option maxRecDepth 20000 in
theorem ggL_law_X10_younger : GoodIn wsL_law wsX10_younger := goodIn_r _ [450, 19, 451, 452, 453, 454, 24, 455, 33, 456, 457, 458, 459, 2, 460, 364, 304, 203, 204, 461, 462, 463, 23, 464, 241, 409, 410, 383, 384, 385, 32, 386, 387, 388, 389, 390, 391, 392, 393, 394, 395, 396, 397, 89, 398, 399, 400, 401, 402, 403, 404, 405, 406, 407, 408, 88, 411, 412, 413, 18, 414, 63, 66, 894, 895, 896, 897, 898, 899, 900, 901, 902, 903, 904, 905, 941, 942, 943, 944, 945, 946, 947, 948, 949, 950, 951, 952, 953, 954, 955, 956, 957, 958, 962, 963] (by decide +kernel) (by decide +kernel)
set_option maxRecDepth 20000 in
theorem gL_law_X10_younger : GoodIn wsL_law (wsV RL 36 RX10 yX10_younger wsX10_younger) := goodIn_app (goodIn_of _ (by decide +kernel)) ggL_law_X10_younger
set_option maxRecDepth 20000 in
theorem ggL_law_X11_younger : GoodIn wsL_law wsX11_younger := goodIn_r _ [468, 469, 258, 257, 259, 260, 266, 271, 470, 471, 472, 5, 473, 294, 312, 313, 314, 425, 426, 427, 428, 429, 430, 431, 432, 433, 434, 435, 436, 261, 437, 438, 439, 440, 441, 442, 443, 444, 445, 446, 906, 907, 908, 909, 910, 911, 912, 913, 914, 915, 916, 917, 918, 919, 920, 921, 922, 923, 924, 925, 926, 927, 928, 929, 930, 931, 932, 933, 934, 935, 936, 937] (by decide +kernel) (by decide +kernel)
set_option maxRecDepth 20000 in
theorem gL_law_X11_younger : GoodIn wsL_law (wsV RL 39 RX11 yX11_younger wsX11_younger) := goodIn_app (goodIn_of _ (by decide +kernel)) ggL_law_X11_younger
set_option maxRecDepth 20000 in
theorem ggL_law_X10_pass : GoodIn wsL_law wsX10_pass := goodIn_r _ [477, 28, 24, 33, 478, 304, 203, 2, 204, 479, 480, 481, 27, 482, 483, 83, 252, 484, 406, 407, 408, 485, 486, 487, 23, 488, 75, 76, 77, 241, 242, 489, 490, 491, 32, 492, 89, 493, 387, 494, 495, 496, 497, 498, 388, 398, 399, 400, 88, 405, 499, 500, 501, 389, 390, 391, 392, 393, 394, 395, 396, 397, 401, 402, 403, 404, 409, 410, 411, 412, 413, 18, 414, 63, 66, 502, 462, 463, 464, 503, 504, 505, 506, 507, 894, 895, 896, 897, 898, 899, 900, 901, 902, 903, 904, 905, 954, 955, 956, 957, 958, 959, 960, 961, 962, 963, 941, 942, 943, 944, 945, 946, 947, 948, 949, 950, 951, 952, 953] (by decide +kernel) (by decide +kernel)
set_option maxRecDepth 20000 in
theorem gL_law_X10_pass : GoodIn wsL_law (wsV RL 40 RX10 yX10_pass wsX10_pass) := goodIn_app (goodIn_of _ (by decide +kernel)) ggL_law_X10_pass
set_option maxRecDepth 20000 in
theorem ggL_law_X11_pass : GoodIn wsL_law wsX11_pass := goodIn_r _ [511, 512, 266, 312, 313, 5, 314, 513, 514, 515, 516, 369, 295, 296, 297, 298, 517, 518, 519, 520, 292, 294, 258, 271, 437, 438, 439, 429, 430, 431, 432, 433, 434, 435, 436, 261, 440, 441, 442, 443, 444, 445, 446, 260, 257, 521, 522, 523, 524, 525, 526, 527, 906, 907, 908, 909, 910, 911, 912, 913, 914, 915, 916, 917, 918, 919, 920, 921, 922, 923, 924, 925, 926, 927, 928, 929, 930, 931, 932, 933, 934, 935, 936, 937] (by decide +kernel) (by decide +kernel)
set_option maxRecDepth 20000 in
theorem gL_law_X11_pass : GoodIn wsL_law (wsV RL 43 RX11 yX11_pass wsX11_pass) := goodIn_app (goodIn_of _ (by decide +kernel)) ggL_law_X11_pass
set_option maxRecDepth 20000 in
theorem ggL_law_X10_put : GoodIn wsL_law wsX10_put := goodIn_r _ [531, 28, 24, 376, 378, 379, 380, 2, 381, 19, 382, 304, 203, 204, 479, 480, 481, 27, 482, 483, 83, 252, 484, 406, 407, 408, 485, 486, 487, 23, 488, 75, 76, 77, 241, 242, 894, 895, 896, 897, 898, 899, 900, 901, 902, 903, 904, 905, 954, 955, 956, 957, 958, 941, 942, 943, 944, 945, 946, 947, 948, 949, 950, 951, 952, 953, 959, 960, 961] (by decide +kernel) (by decide +kernel)
set_option maxRecDepth 20000 in
theorem gL_law_X10_put : GoodIn wsL_law (wsV RL 44 RX10 yX10_put wsX10_put) := goodIn_app (goodIn_of _ (by decide +kernel)) ggL_law_X10_put
set_option maxRecDepth 20000 in
theorem ggL_law_X11_put : GoodIn wsL_law wsX11_put := goodIn_r _ [535, 536, 266, 421, 422, 423, 5, 424, 292, 312, 313, 314, 513, 514, 515, 516, 369, 295, 296, 297, 298, 906, 907, 908, 909, 910, 911, 912, 913, 914, 915, 916, 917, 918, 919, 920, 921, 922, 923, 924, 925, 926, 927, 928, 929, 930, 931, 932, 933, 934, 935, 936, 937] (by decide +kernel) (by decide +kernel)
set_option maxRecDepth 20000 in
theorem gL_law_X11_put : GoodIn wsL_law (wsV RL 47 RX11 yX11_put wsX11_put) := goodIn_app (goodIn_of _ (by decide +kernel)) ggL_law_X11_put

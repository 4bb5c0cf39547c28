/-! the law's rows -/
set_option maxRecDepth 20000 in
theorem ggL_law_X12_shortest : GoodIn wsL_law wsX12_shortest := goodIn_r _ [478, 400, 401, 402, 5, 403, 130, 224, 225, 226, 227, 178, 171, 172, 173, 479, 480, 481, 482, 141, 483, 137, 138, 131, 139, 484, 485, 486, 487, 488, 489, 490, 404, 405, 406, 407, 132, 199, 200, 201, 491, 492, 493, 494, 337, 136, 495, 496, 497, 498, 921, 922, 923, 924, 925, 926, 927, 928, 929, 930, 931, 932, 933, 934, 935, 936, 937, 938, 939, 940, 941, 942, 943, 944, 945, 946, 947, 948, 949, 950] (by decide +kernel) (by decide +kernel)
set_option maxRecDepth 20000 in
theorem gL_law_X12_shortest : GoodIn wsL_law (wsV RL 69 RX12 yX12_shortest wsX12_shortest) := goodIn_app (goodIn_of _ (by decide +kernel)) ggL_law_X12_shortest
set_option maxRecDepth 20000 in
theorem ggL_law_X11_shortestTo : GoodIn wsL_law wsX11_shortestTo := goodIn_r _ [502, 29, 206, 207, 208, 2, 209, 161, 13, 366, 367, 368, 110, 369, 120, 210, 188, 189, 190, 412, 413, 414, 28, 415, 69, 70, 68, 416, 417, 376, 377, 20, 378, 379, 58, 59, 380, 292, 293, 294, 121, 381, 382, 383, 384, 385, 213, 214, 215, 116, 418, 419, 420, 24, 421, 63, 422, 123, 124, 125, 423, 424, 425, 426, 427, 428, 429, 430, 431, 432, 433, 434, 435, 436, 437, 393, 394, 395, 438, 439, 440, 441, 442, 443, 444, 445, 446, 447, 448, 449, 25, 17, 450, 451, 452, 453, 454, 455, 456, 457, 458, 459, 460, 461, 462, 463, 464, 465, 16, 466, 467, 468, 469, 470, 328, 471, 472, 473, 474, 54, 910, 911, 912, 913, 914, 915, 916, 917, 918, 919, 920, 982, 983, 984, 985, 986, 987, 957, 958, 959, 960, 953, 954, 955, 956, 951, 952] (by decide +kernel) (by decide +kernel)
set_option maxRecDepth 20000 in
theorem gL_law_X11_shortestTo : GoodIn wsL_law (wsV RL 70 RX11 yX11_shortestTo wsX11_shortestTo) := goodIn_app (goodIn_of _ (by decide +kernel)) ggL_law_X11_shortestTo
set_option maxRecDepth 20000 in
theorem ggL_law_X12_shortestTo : GoodIn wsL_law wsX12_shortestTo := goodIn_r _ [506, 400, 401, 402, 5, 403, 130, 224, 225, 226, 227, 178, 171, 172, 173, 220, 221, 222, 223, 479, 480, 481, 482, 141, 483, 137, 138, 131, 139, 484, 485, 486, 487, 488, 489, 490, 404, 405, 406, 407, 132, 199, 200, 201, 491, 492, 493, 494, 337, 136, 495, 496, 497, 498, 921, 922, 923, 924, 925, 926, 927, 928, 929, 930, 931, 932, 933, 934, 935, 936, 937, 938, 939, 940, 941, 942, 943, 944, 945, 946, 947, 948, 949, 950] (by decide +kernel) (by decide +kernel)
set_option maxRecDepth 20000 in
theorem gL_law_X12_shortestTo : GoodIn wsL_law (wsV RL 73 RX12 yX12_shortestTo wsX12_shortestTo) := goodIn_app (goodIn_of _ (by decide +kernel)) ggL_law_X12_shortestTo
set_option maxRecDepth 20000 in
theorem ggL_law_X11_rank : GoodIn wsL_law wsX11_rank := goodIn_r _ [510, 29, 206, 207, 208, 2, 209, 161, 13, 366, 367, 368, 110, 369, 120, 412, 413, 414, 28, 415, 69, 70, 68, 416, 417, 376, 377, 20, 378, 379, 58, 59, 380, 292, 293, 294, 121, 381, 382, 383, 384, 188, 189, 190, 385, 213, 214, 215, 116, 418, 419, 420, 24, 421, 63, 422, 123, 124, 125, 423, 424, 425, 426, 427, 428, 429, 430, 431, 432, 433, 434, 435, 436, 437, 393, 394, 395, 438, 439, 440, 441, 442, 443, 444, 445, 511, 512, 513, 514, 515, 516, 517, 518, 519, 520, 521, 522, 523, 524, 525, 446, 447, 448, 449, 25, 17, 450, 451, 452, 453, 454, 455, 456, 457, 458, 459, 460, 461, 462, 463, 464, 465, 16, 466, 467, 468, 469, 470, 328, 471, 472, 473, 474, 54, 526, 910, 911, 912, 913, 914, 915, 916, 917, 918, 919, 920, 982, 983, 984, 985, 986, 987, 957, 958, 959, 960, 953, 954, 955, 956, 951, 952] (by decide +kernel) (by decide +kernel)
set_option maxRecDepth 20000 in
theorem gL_law_X11_rank : GoodIn wsL_law (wsV RL 74 RX11 yX11_rank wsX11_rank) := goodIn_app (goodIn_of _ (by decide +kernel)) ggL_law_X11_rank
set_option maxRecDepth 20000 in
theorem ggL_law_X12_rank : GoodIn wsL_law wsX12_rank := goodIn_r _ [530, 483, 137, 400, 401, 402, 5, 403, 130, 224, 225, 226, 227, 178, 171, 172, 173, 479, 480, 481, 482, 141, 138, 131, 139, 484, 485, 486, 487, 488, 489, 490, 404, 405, 406, 407, 132, 199, 200, 201, 491, 492, 493, 494, 337, 136, 495, 496, 497, 498, 921, 922, 923, 924, 925, 926, 927, 928, 929, 930, 931, 932, 933, 934, 935, 936, 937, 938, 939, 940, 941, 942, 943, 944, 945, 946, 947, 948, 949, 950] (by decide +kernel) (by decide +kernel)
set_option maxRecDepth 20000 in
theorem gL_law_X12_rank : GoodIn wsL_law (wsV RL 77 RX12 yX12_rank wsX12_rank) := goodIn_app (goodIn_of _ (by decide +kernel)) ggL_law_X12_rank
set_option maxRecDepth 20000 in
theorem ggL_law_X11_merge : GoodIn wsL_law wsX11_merge := goodIn_r _ [534, 41, 206, 207, 208, 2, 209, 161, 13, 210, 188, 189, 110, 190, 120, 535, 536, 537, 40, 538, 91, 539, 540, 123, 124, 125, 541, 288, 289, 290, 542, 543, 544, 545, 546, 547, 548, 549, 550, 551, 552, 553, 554, 555, 556, 557, 558, 292, 293, 294, 121, 559, 213, 214, 215, 116, 560, 910, 911, 912, 913, 914, 915, 916, 917, 918, 919, 920, 982, 983, 984, 985, 986, 987, 970, 971, 972] (by decide +kernel) (by decide +kernel)
set_option maxRecDepth 20000 in
theorem gL_law_X11_merge : GoodIn wsL_law (wsV RL 78 RX11 yX11_merge wsX11_merge) := goodIn_app (goodIn_of _ (by decide +kernel)) ggL_law_X11_merge
set_option maxRecDepth 20000 in
theorem ggL_law_X12_merge : GoodIn wsL_law wsX12_merge := goodIn_r _ [564, 220, 221, 222, 5, 223, 130, 224, 225, 226, 227, 178, 171, 172, 173, 479, 480, 481, 482, 141, 483, 137, 138, 131, 139, 484, 485, 486, 487, 488, 489, 490, 404, 405, 406, 407, 132, 199, 200, 201, 495, 496, 497, 498, 921, 922, 923, 924, 925, 926, 927, 928, 929, 930, 931, 932, 933, 934, 935, 936, 937, 938, 939, 940, 941, 942, 943, 944, 945, 946, 947, 948, 949, 950] (by decide +kernel) (by decide +kernel)
set_option maxRecDepth 20000 in
theorem gL_law_X12_merge : GoodIn wsL_law (wsV RL 81 RX12 yX12_merge wsX12_merge) := goodIn_app (goodIn_of _ (by decide +kernel)) ggL_law_X12_merge
set_option maxRecDepth 20000 in
theorem ggL_law_X11_unmerged : GoodIn wsL_law wsX11_unmerged := goodIn_r _ [568, 41, 206, 207, 208, 2, 209, 161, 13, 535, 536, 537, 40, 538, 91, 539, 540, 123, 124, 125, 541, 288, 289, 110, 290, 120, 542, 543, 544, 545, 546, 547, 548, 549, 550, 551, 552, 553, 554, 555, 556, 557, 558, 292, 293, 294, 121, 559, 213, 214, 215, 116, 569, 570, 571, 572, 910, 911, 912, 913, 914, 915, 916, 917, 918, 919, 920, 970, 971, 972, 982, 983, 984, 985, 986, 987] (by decide +kernel) (by decide +kernel)
set_option maxRecDepth 20000 in
theorem gL_law_X11_unmerged : GoodIn wsL_law (wsV RL 82 RX11 yX11_unmerged wsX11_unmerged) := goodIn_app (goodIn_of _ (by decide +kernel)) ggL_law_X11_unmerged
set_option maxRecDepth 20000 in
theorem ggL_law_X12_unmerged : GoodIn wsL_law wsX12_unmerged := goodIn_r _ [576, 224, 225, 226, 5, 227, 178, 171, 172, 173, 577, 578, 579, 580, 130, 142, 131, 132, 199, 200, 201, 581, 582, 583, 584, 921, 922, 923, 924, 925, 926, 927, 928, 929, 930, 931, 932, 933, 934, 935, 936, 937, 938, 939, 940, 941, 942, 943, 944, 945, 946, 947, 948, 949, 950] (by decide +kernel) (by decide +kernel)
set_option maxRecDepth 20000 in
theorem gL_law_X12_unmerged : GoodIn wsL_law (wsV RL 85 RX12 yX12_unmerged wsX12_unmerged) := goodIn_app (goodIn_of _ (by decide +kernel)) ggL_law_X12_unmerged

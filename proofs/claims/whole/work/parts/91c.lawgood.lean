/-! the law's rows -/
set_option maxRecDepth 20000 in
theorem ggL_law_X11_empty : GoodIn wsL_law wsX11_empty := goodIn_r _ [323, 17, 324, 325, 326, 16, 327, 328, 329, 330, 331, 332, 910, 911, 912, 913, 914, 915, 916, 917, 918, 919, 920, 951, 952] (by decide +kernel) (by decide +kernel)
set_option maxRecDepth 20000 in
theorem gL_law_X11_empty : GoodIn wsL_law (wsV RL 49 RX11 yX11_empty wsX11_empty) := goodIn_app (goodIn_of _ (by decide +kernel)) ggL_law_X11_empty
set_option maxRecDepth 20000 in
theorem ggL_law_X12_empty : GoodIn wsL_law wsX12_empty := goodIn_r _ [336, 337, 921, 922, 923, 924, 925, 926, 927, 928, 929, 930, 931, 932, 933, 934, 935, 936, 937, 938, 939, 940, 941, 942, 943, 944, 945, 946, 947, 948, 949, 950] (by decide +kernel) (by decide +kernel)
set_option maxRecDepth 20000 in
theorem gL_law_X12_empty : GoodIn wsL_law (wsV RL 53 RX12 yX12_empty wsX12_empty) := goodIn_app (goodIn_of _ (by decide +kernel)) ggL_law_X12_empty
set_option maxRecDepth 20000 in
theorem ggL_law_X11_letter : GoodIn wsL_law wsX11_letter := goodIn_r _ [341, 17, 342, 343, 344, 16, 345, 328, 54, 324, 325, 326, 327, 910, 911, 912, 913, 914, 915, 916, 917, 918, 919, 920, 951, 952] (by decide +kernel) (by decide +kernel)
set_option maxRecDepth 20000 in
theorem gL_law_X11_letter : GoodIn wsL_law (wsV RL 54 RX11 yX11_letter wsX11_letter) := goodIn_app (goodIn_of _ (by decide +kernel)) ggL_law_X11_letter
set_option maxRecDepth 20000 in
theorem ggL_law_X12_letter : GoodIn wsL_law wsX12_letter := goodIn_r _ [349, 337, 136, 171, 172, 5, 173, 921, 922, 923, 924, 925, 926, 927, 928, 929, 930, 931, 932, 933, 934, 935, 936, 937, 938, 939, 940, 941, 942, 943, 944, 945, 946, 947, 948, 949, 950] (by decide +kernel) (by decide +kernel)
set_option maxRecDepth 20000 in
theorem gL_law_X12_letter : GoodIn wsL_law (wsV RL 57 RX12 yX12_letter wsX12_letter) := goodIn_app (goodIn_of _ (by decide +kernel)) ggL_law_X12_letter
set_option maxRecDepth 20000 in
theorem ggL_law_X11_letterAt : GoodIn wsL_law wsX11_letterAt := goodIn_r _ [353, 17, 354, 355, 356, 16, 357, 328, 54, 910, 911, 912, 913, 914, 915, 916, 917, 918, 919, 920, 951, 952] (by decide +kernel) (by decide +kernel)
set_option maxRecDepth 20000 in
theorem gL_law_X11_letterAt : GoodIn wsL_law (wsV RL 58 RX11 yX11_letterAt wsX11_letterAt) := goodIn_app (goodIn_of _ (by decide +kernel)) ggL_law_X11_letterAt
set_option maxRecDepth 20000 in
theorem ggL_law_X12_letterAt : GoodIn wsL_law wsX12_letterAt := goodIn_r _ [361, 337, 136, 171, 172, 5, 173, 921, 922, 923, 924, 925, 926, 927, 928, 929, 930, 931, 932, 933, 934, 935, 936, 937, 938, 939, 940, 941, 942, 943, 944, 945, 946, 947, 948, 949, 950] (by decide +kernel) (by decide +kernel)
set_option maxRecDepth 20000 in
theorem gL_law_X12_letterAt : GoodIn wsL_law (wsV RL 61 RX12 yX12_letterAt wsX12_letterAt) := goodIn_app (goodIn_of _ (by decide +kernel)) ggL_law_X12_letterAt
set_option maxRecDepth 20000 in
theorem ggL_law_X11_goes : GoodIn wsL_law wsX11_goes := goodIn_r _ [365, 17, 21, 206, 207, 208, 2, 209, 161, 13, 366, 367, 368, 110, 369, 120, 370, 371, 372, 16, 373, 328, 54, 374, 192, 193, 194, 121, 375, 376, 377, 20, 378, 379, 58, 59, 380, 292, 293, 294, 381, 382, 383, 384, 188, 189, 190, 385, 213, 214, 215, 116, 386, 387, 388, 389, 390, 325, 326, 327, 391, 355, 356, 357, 392, 393, 394, 395, 910, 911, 912, 913, 914, 915, 916, 917, 918, 919, 920, 982, 983, 984, 985, 986, 987, 951, 952, 953, 954, 955] (by decide +kernel) (by decide +kernel)
set_option maxRecDepth 20000 in
theorem gL_law_X11_goes : GoodIn wsL_law (wsV RL 62 RX11 yX11_goes wsX11_goes) := goodIn_app (goodIn_of _ (by decide +kernel)) ggL_law_X11_goes
set_option maxRecDepth 20000 in
theorem ggL_law_X12_goes : GoodIn wsL_law wsX12_goes := goodIn_r _ [399, 337, 136, 131, 400, 401, 402, 5, 403, 130, 224, 225, 226, 227, 178, 171, 172, 173, 404, 405, 406, 407, 132, 199, 200, 201, 921, 922, 923, 924, 925, 926, 927, 928, 929, 930, 931, 932, 933, 934, 935, 936, 937, 938, 939, 940, 941, 942, 943, 944, 945, 946, 947, 948, 949, 950] (by decide +kernel) (by decide +kernel)
set_option maxRecDepth 20000 in
theorem gL_law_X12_goes : GoodIn wsL_law (wsV RL 65 RX12 yX12_goes wsX12_goes) := goodIn_app (goodIn_of _ (by decide +kernel)) ggL_law_X12_goes
set_option maxRecDepth 20000 in
theorem ggL_law_X11_shortest : GoodIn wsL_law wsX11_shortest := goodIn_r _ [411, 29, 206, 207, 208, 2, 209, 161, 13, 366, 367, 368, 110, 369, 120, 412, 413, 414, 28, 415, 69, 70, 68, 416, 417, 376, 377, 20, 378, 379, 58, 59, 380, 292, 293, 294, 121, 381, 382, 383, 384, 188, 189, 190, 385, 213, 214, 215, 116, 418, 419, 420, 24, 421, 63, 422, 123, 124, 125, 423, 424, 425, 426, 427, 428, 429, 430, 431, 432, 433, 434, 435, 436, 437, 393, 394, 395, 438, 439, 440, 441, 442, 443, 444, 445, 446, 447, 448, 449, 25, 17, 450, 451, 452, 453, 454, 455, 456, 457, 458, 459, 460, 461, 462, 463, 464, 465, 16, 466, 467, 468, 469, 470, 328, 471, 472, 473, 474, 54, 910, 911, 912, 913, 914, 915, 916, 917, 918, 919, 920, 982, 983, 984, 985, 986, 987, 957, 958, 959, 960, 953, 954, 955, 956, 951, 952] (by decide +kernel) (by decide +kernel)
set_option maxRecDepth 20000 in
theorem gL_law_X11_shortest : GoodIn wsL_law (wsV RL 66 RX11 yX11_shortest wsX11_shortest) := goodIn_app (goodIn_of _ (by decide +kernel)) ggL_law_X11_shortest

/-! the law's rows -/
set_option maxRecDepth 20000 in
theorem ggL_law_X12_light : GoodIn wsL_law wsX12_light := goodIn_r _ [247, 133, 220, 221, 222, 5, 223, 130, 224, 225, 226, 227, 178, 171, 172, 173, 921, 922, 923, 924, 925, 926, 927, 928, 929, 930, 931, 932, 933, 934, 935, 936, 937, 938, 939, 940, 941, 942, 943, 944, 945, 946, 947, 948, 949, 950] (by decide +kernel) (by decide +kernel)
set_option maxRecDepth 20000 in
theorem gL_law_X12_light : GoodIn wsL_law (wsV RL 32 RX12 yX12_light wsX12_light) := goodIn_app (goodIn_of _ (by decide +kernel)) ggL_law_X12_light
set_option maxRecDepth 20000 in
theorem ggL_law_X11_price : GoodIn wsL_law wsX11_price := goodIn_r _ [251, 206, 207, 208, 2, 209, 161, 13, 211, 192, 193, 110, 194, 121, 252, 253, 254, 255, 118, 256, 257, 258, 259, 191, 910, 911, 912, 913, 914, 915, 916, 917, 918, 919, 920, 982, 983, 984, 985, 986, 987] (by decide +kernel) (by decide +kernel)
set_option maxRecDepth 20000 in
theorem gL_law_X11_price : GoodIn wsL_law (wsV RL 33 RX11 yX11_price wsX11_price) := goodIn_app (goodIn_of _ (by decide +kernel)) ggL_law_X11_price
set_option maxRecDepth 20000 in
theorem ggL_law_X12_price : GoodIn wsL_law wsX12_price := goodIn_r _ [263, 134, 228, 229, 230, 5, 231, 131, 224, 225, 226, 227, 178, 171, 172, 173, 921, 922, 923, 924, 925, 926, 927, 928, 929, 930, 931, 932, 933, 934, 935, 936, 937, 938, 939, 940, 941, 942, 943, 944, 945, 946, 947, 948, 949, 950] (by decide +kernel) (by decide +kernel)
set_option maxRecDepth 20000 in
theorem gL_law_X12_price : GoodIn wsL_law (wsV RL 36 RX12 yX12_price wsX12_price) := goodIn_app (goodIn_of _ (by decide +kernel)) ggL_law_X12_price
set_option maxRecDepth 20000 in
theorem ggL_law_X11_share : GoodIn wsL_law wsX11_share := goodIn_r _ [267, 206, 207, 208, 2, 209, 161, 13, 211, 192, 193, 110, 194, 121, 268, 269, 270, 271, 119, 272, 273, 274, 275, 191, 910, 911, 912, 913, 914, 915, 916, 917, 918, 919, 920, 982, 983, 984, 985, 986, 987] (by decide +kernel) (by decide +kernel)
set_option maxRecDepth 20000 in
theorem gL_law_X11_share : GoodIn wsL_law (wsV RL 37 RX11 yX11_share wsX11_share) := goodIn_app (goodIn_of _ (by decide +kernel)) ggL_law_X11_share
set_option maxRecDepth 20000 in
theorem ggL_law_X12_share : GoodIn wsL_law wsX12_share := goodIn_r _ [279, 135, 228, 229, 230, 5, 231, 131, 224, 225, 226, 227, 178, 171, 172, 173, 921, 922, 923, 924, 925, 926, 927, 928, 929, 930, 931, 932, 933, 934, 935, 936, 937, 938, 939, 940, 941, 942, 943, 944, 945, 946, 947, 948, 949, 950] (by decide +kernel) (by decide +kernel)
set_option maxRecDepth 20000 in
theorem gL_law_X12_share : GoodIn wsL_law (wsV RL 40 RX12 yX12_share wsX12_share) := goodIn_app (goodIn_of _ (by decide +kernel)) ggL_law_X12_share
set_option maxRecDepth 20000 in
theorem ggL_law_X11_about : GoodIn wsL_law wsX11_about := goodIn_r _ [283, 206, 207, 208, 2, 209, 161, 13, 284, 285, 286, 287, 288, 289, 110, 290, 120, 291, 292, 293, 294, 121, 295, 296, 297, 298, 299, 213, 214, 215, 116, 910, 911, 912, 913, 914, 915, 916, 917, 918, 919, 920, 982, 983, 984, 985, 986, 987] (by decide +kernel) (by decide +kernel)
set_option maxRecDepth 20000 in
theorem gL_law_X11_about : GoodIn wsL_law (wsV RL 41 RX11 yX11_about wsX11_about) := goodIn_app (goodIn_of _ (by decide +kernel)) ggL_law_X11_about
set_option maxRecDepth 20000 in
theorem ggL_law_X12_about : GoodIn wsL_law wsX12_about := goodIn_r _ [303, 224, 225, 226, 5, 227, 178, 171, 172, 173, 304, 305, 306, 307, 130, 131, 308, 309, 310, 311, 132, 199, 200, 201, 921, 922, 923, 924, 925, 926, 927, 928, 929, 930, 931, 932, 933, 934, 935, 936, 937, 938, 939, 940, 941, 942, 943, 944, 945, 946, 947, 948, 949, 950] (by decide +kernel) (by decide +kernel)
set_option maxRecDepth 20000 in
theorem gL_law_X12_about : GoodIn wsL_law (wsV RL 44 RX12 yX12_about wsX12_about) := goodIn_app (goodIn_of _ (by decide +kernel)) ggL_law_X12_about
set_option maxRecDepth 20000 in
theorem ggL_law_X11_moveOf : GoodIn wsL_law wsX11_moveOf := goodIn_r _ [315, 206, 207, 208, 2, 209, 161, 13, 210, 188, 189, 110, 190, 120, 211, 192, 193, 194, 121, 212, 213, 214, 215, 116, 910, 911, 912, 913, 914, 915, 916, 917, 918, 919, 920, 982, 983, 984, 985, 986, 987] (by decide +kernel) (by decide +kernel)
set_option maxRecDepth 20000 in
theorem gL_law_X11_moveOf : GoodIn wsL_law (wsV RL 45 RX11 yX11_moveOf wsX11_moveOf) := goodIn_app (goodIn_of _ (by decide +kernel)) ggL_law_X11_moveOf
set_option maxRecDepth 20000 in
theorem ggL_law_X12_moveOf : GoodIn wsL_law wsX12_moveOf := goodIn_r _ [319, 132, 220, 221, 222, 5, 223, 130, 224, 225, 226, 227, 178, 171, 172, 173, 228, 229, 230, 231, 131, 199, 200, 201, 921, 922, 923, 924, 925, 926, 927, 928, 929, 930, 931, 932, 933, 934, 935, 936, 937, 938, 939, 940, 941, 942, 943, 944, 945, 946, 947, 948, 949, 950] (by decide +kernel) (by decide +kernel)
set_option maxRecDepth 20000 in
theorem gL_law_X12_moveOf : GoodIn wsL_law (wsV RL 48 RX12 yX12_moveOf wsX12_moveOf) := goodIn_app (goodIn_of _ (by decide +kernel)) ggL_law_X12_moveOf

/-! the law's rows -/
set_option maxRecDepth 20000 in
theorem ggL_law_X12_kinds : GoodIn wsL_law wsX12_kinds := goodIn_r _ [795, 130, 131, 132, 224, 225, 226, 5, 227, 178, 171, 172, 173, 308, 309, 310, 311, 199, 200, 201, 796, 797, 798, 799, 404, 405, 406, 407, 800, 801, 802, 803, 921, 922, 923, 924, 925, 926, 927, 928, 929, 930, 931, 932, 933, 934, 935, 936, 937, 938, 939, 940, 941, 942, 943, 944, 945, 946, 947, 948, 949, 950] (by decide +kernel) (by decide +kernel)
set_option maxRecDepth 20000 in
theorem gL_law_X12_kinds : GoodIn wsL_law (wsV RL 107 RX12 yX12_kinds wsX12_kinds) := goodIn_app (goodIn_of _ (by decide +kernel)) ggL_law_X12_kinds
set_option maxRecDepth 20000 in
theorem ggL_law_X11_colour : GoodIn wsL_law wsX11_colour := goodIn_r _ [807, 49, 206, 207, 208, 2, 209, 161, 13, 295, 296, 297, 110, 298, 120, 121, 299, 213, 214, 215, 116, 808, 809, 810, 48, 811, 106, 812, 123, 124, 125, 813, 288, 289, 290, 814, 815, 816, 817, 111, 818, 292, 293, 294, 819, 820, 821, 822, 823, 824, 825, 826, 827, 828, 184, 185, 186, 187, 188, 189, 190, 191, 192, 193, 194, 829, 830, 831, 832, 107, 833, 834, 835, 836, 837, 838, 839, 840, 841, 842, 843, 844, 845, 846, 847, 848, 849, 850, 851, 852, 853, 854, 910, 911, 912, 913, 914, 915, 916, 917, 918, 919, 920, 982, 983, 984, 985, 986, 987, 979, 980, 981] (by decide +kernel) (by decide +kernel)
set_option maxRecDepth 20000 in
theorem gL_law_X11_colour : GoodIn wsL_law (wsV RL 108 RX11 yX11_colour wsX11_colour) := goodIn_app (goodIn_of _ (by decide +kernel)) ggL_law_X11_colour
set_option maxRecDepth 20000 in
theorem ggL_law_X12_colour : GoodIn wsL_law wsX12_colour := goodIn_r _ [858, 130, 131, 152, 153, 132, 224, 225, 226, 5, 227, 178, 171, 172, 173, 308, 309, 310, 311, 199, 200, 201, 577, 578, 579, 580, 142, 581, 582, 583, 584, 859, 860, 861, 862, 154, 863, 864, 865, 866, 921, 922, 923, 924, 925, 926, 927, 928, 929, 930, 931, 932, 933, 934, 935, 936, 937, 938, 939, 940, 941, 942, 943, 944, 945, 946, 947, 948, 949, 950] (by decide +kernel) (by decide +kernel)
set_option maxRecDepth 20000 in
theorem gL_law_X12_colour : GoodIn wsL_law (wsV RL 111 RX12 yX12_colour wsX12_colour) := goodIn_app (goodIn_of _ (by decide +kernel)) ggL_law_X12_colour
set_option maxRecDepth 20000 in
theorem ggL_law_X11_apart : GoodIn wsL_law wsX11_apart := goodIn_r _ [870, 41, 206, 207, 208, 2, 209, 161, 13, 210, 188, 189, 110, 190, 120, 871, 872, 873, 40, 874, 91, 92, 540, 123, 124, 125, 542, 543, 544, 545, 875, 241, 242, 243, 117, 187, 550, 551, 552, 553, 876, 877, 878, 879, 558, 292, 293, 294, 121, 559, 213, 214, 215, 116, 910, 911, 912, 913, 914, 915, 916, 917, 918, 919, 920, 982, 983, 984, 985, 986, 987, 970, 971, 972] (by decide +kernel) (by decide +kernel)
set_option maxRecDepth 20000 in
theorem gL_law_X11_apart : GoodIn wsL_law (wsV RL 112 RX11 yX11_apart wsX11_apart) := goodIn_app (goodIn_of _ (by decide +kernel)) ggL_law_X11_apart
set_option maxRecDepth 20000 in
theorem ggL_law_X12_apart : GoodIn wsL_law wsX12_apart := goodIn_r _ [883, 156, 155, 133, 131, 132, 220, 221, 222, 5, 223, 130, 224, 225, 226, 227, 178, 171, 172, 173, 199, 200, 201, 921, 922, 923, 924, 925, 926, 927, 928, 929, 930, 931, 932, 933, 934, 935, 936, 937, 938, 939, 940, 941, 942, 943, 944, 945, 946, 947, 948, 949, 950] (by decide +kernel) (by decide +kernel)
set_option maxRecDepth 20000 in
theorem gL_law_X12_apart : GoodIn wsL_law (wsV RL 115 RX12 yX12_apart wsX12_apart) := goodIn_app (goodIn_of _ (by decide +kernel)) ggL_law_X12_apart
set_option maxRecDepth 20000 in
theorem ggL_law_X11_count : GoodIn wsL_law wsX11_count := goodIn_r _ [887, 161, 17, 324, 325, 326, 16, 327, 328, 910, 911, 912, 913, 914, 915, 916, 917, 918, 919, 920, 951, 952] (by decide +kernel) (by decide +kernel)
set_option maxRecDepth 20000 in
theorem gL_law_X11_count : GoodIn wsL_law (wsV RL 116 RX11 yX11_count wsX11_count) := goodIn_app (goodIn_of _ (by decide +kernel)) ggL_law_X11_count
set_option maxRecDepth 20000 in
theorem ggL_law_X12_count : GoodIn wsL_law wsX12_count := goodIn_r _ [891, 178, 337, 921, 922, 923, 924, 925, 926, 927, 928, 929, 930, 931, 932, 933, 934, 935, 936, 937, 938, 939, 940, 941, 942, 943, 944, 945, 946, 947, 948, 949, 950] (by decide +kernel) (by decide +kernel)
set_option maxRecDepth 20000 in
theorem gL_law_X12_count : GoodIn wsL_law (wsV RL 119 RX12 yX12_count wsX12_count) := goodIn_app (goodIn_of _ (by decide +kernel)) ggL_law_X12_count
set_option maxRecDepth 20000 in
theorem ggL_law_X11_digest : GoodIn wsL_law wsX11_digest := goodIn_r _ [895, 896, 161, 13, 897, 17, 898, 899, 2, 900, 284, 285, 286, 287, 288, 289, 110, 290, 120, 291, 292, 293, 294, 121, 295, 296, 297, 298, 299, 213, 214, 215, 116, 212, 901, 241, 242, 243, 117, 187, 188, 189, 190, 902, 257, 258, 259, 118, 191, 192, 193, 194, 903, 273, 274, 275, 119, 324, 325, 326, 16, 327, 328, 354, 355, 356, 357, 54, 910, 911, 912, 913, 914, 915, 916, 917, 918, 919, 920, 982, 983, 984, 985, 986, 987, 951, 952] (by decide +kernel) (by decide +kernel)
set_option maxRecDepth 20000 in
theorem gL_law_X11_digest : GoodIn wsL_law (wsV RL 120 RX11 yX11_digest wsX11_digest) := goodIn_app (goodIn_of _ (by decide +kernel)) ggL_law_X11_digest
set_option maxRecDepth 20000 in
theorem ggL_law_X12_digest : GoodIn wsL_law wsX12_digest := goodIn_r _ [907, 908, 178, 909, 130, 131, 132, 133, 134, 135, 337, 136, 304, 305, 306, 5, 307, 308, 309, 310, 311, 199, 200, 201, 921, 922, 923, 924, 925, 926, 927, 928, 929, 930, 931, 932, 933, 934, 935, 936, 937, 938, 939, 940, 941, 942, 943, 944, 945, 946, 947, 948, 949, 950] (by decide +kernel) (by decide +kernel)
set_option maxRecDepth 20000 in
theorem gL_law_X12_digest : GoodIn wsL_law (wsV RL 124 RX12 yX12_digest wsX12_digest) := goodIn_app (goodIn_of _ (by decide +kernel)) ggL_law_X12_digest

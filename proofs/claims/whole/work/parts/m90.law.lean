theorem kl_L_13 : kML "YearHandsLaw" 13 y_X_feed := Or.inl (tb_at 680 (by decide +kernel))
theorem kin_X_feed : Cond.instanceMethod y_X_feed ∈ tbg := tb_at 681 (by decide +kernel)
theorem kse_X_feed : Cond.selects (kCn 0) y_X_feed y_X_feed ∈ tbg := tb_at 682 (by decide +kernel)
theorem kl_L_17 : kML "YearHandsLaw" 17 y_M_feed := Or.inl (tb_at 2171 (by decide +kernel))
theorem kin_M_feed : Cond.instanceMethod y_M_feed ∈ tbg := tb_at 2172 (by decide +kernel)
theorem kse_M_feed : Cond.selects (kCn 1) y_M_feed y_M_feed ∈ tbg := tb_at 2173 (by decide +kernel)
theorem kl_L_18 : kML "YearHandsLaw" 18 y_X_end := Or.inl (tb_at 688 (by decide +kernel))
theorem kin_X_end : Cond.instanceMethod y_X_end ∈ tbg := tb_at 689 (by decide +kernel)
theorem kse_X_end : Cond.selects (kCn 0) y_X_end y_X_end ∈ tbg := tb_at 690 (by decide +kernel)
theorem kl_L_22 : kML "YearHandsLaw" 22 y_M_end := Or.inl (tb_at 2175 (by decide +kernel))
theorem kin_M_end : Cond.instanceMethod y_M_end ∈ tbg := tb_at 2176 (by decide +kernel)
theorem kse_M_end : Cond.selects (kCn 1) y_M_end y_M_end ∈ tbg := tb_at 2177 (by decide +kernel)
theorem kl_L_23 : kML "YearHandsLaw" 23 y_X_town := Or.inl (tb_at 692 (by decide +kernel))
theorem kin_X_town : Cond.instanceMethod y_X_town ∈ tbg := tb_at 693 (by decide +kernel)
theorem kse_X_town : Cond.selects (kCn 0) y_X_town y_X_town ∈ tbg := tb_at 694 (by decide +kernel)
theorem kl_L_27 : kML "YearHandsLaw" 27 y_M_town := Or.inl (tb_at 1697 (by decide +kernel))
theorem kin_M_town : Cond.instanceMethod y_M_town ∈ tbg := tb_at 1698 (by decide +kernel)
theorem kse_M_town : Cond.selects (kCn 1) y_M_town y_M_town ∈ tbg := tb_at 1699 (by decide +kernel)
theorem kl_L_28 : kML "YearHandsLaw" 28 y_X_fault := Or.inl (tb_at 989 (by decide +kernel))
theorem kin_X_fault : Cond.instanceMethod y_X_fault ∈ tbg := tb_at 990 (by decide +kernel)
theorem kse_X_fault : Cond.selects (kCn 0) y_X_fault y_X_fault ∈ tbg := tb_at 991 (by decide +kernel)
theorem kl_L_31 : kML "YearHandsLaw" 31 y_M_fault := Or.inl (tb_at 1845 (by decide +kernel))
theorem kin_M_fault : Cond.instanceMethod y_M_fault ∈ tbg := tb_at 1846 (by decide +kernel)
theorem kse_M_fault : Cond.selects (kCn 1) y_M_fault y_M_fault ∈ tbg := tb_at 1847 (by decide +kernel)
theorem kl_L_32 : kML "YearHandsLaw" 32 y_X_person := Or.inl (tb_at 993 (by decide +kernel))
theorem kin_X_person : Cond.instanceMethod y_X_person ∈ tbg := tb_at 994 (by decide +kernel)
theorem kse_X_person : Cond.selects (kCn 0) y_X_person y_X_person ∈ tbg := tb_at 995 (by decide +kernel)
theorem kl_L_36 : kML "YearHandsLaw" 36 y_M_person := Or.inl (tb_at 1849 (by decide +kernel))
theorem kin_M_person : Cond.instanceMethod y_M_person ∈ tbg := tb_at 1850 (by decide +kernel)
theorem kse_M_person : Cond.selects (kCn 1) y_M_person y_M_person ∈ tbg := tb_at 1851 (by decide +kernel)
theorem kl_L_37 : kML "YearHandsLaw" 37 y_X_has := Or.inl (tb_at 1009 (by decide +kernel))
theorem kin_X_has : Cond.instanceMethod y_X_has ∈ tbg := tb_at 1010 (by decide +kernel)
theorem kse_X_has : Cond.selects (kCn 0) y_X_has y_X_has ∈ tbg := tb_at 1011 (by decide +kernel)
theorem kl_L_40 : kML "YearHandsLaw" 40 y_M_has := Or.inl (tb_at 1864 (by decide +kernel))
theorem kin_M_has : Cond.instanceMethod y_M_has ∈ tbg := tb_at 1865 (by decide +kernel)
theorem kse_M_has : Cond.selects (kCn 1) y_M_has y_M_has ∈ tbg := tb_at 1866 (by decide +kernel)
theorem kl_L_41 : kML "YearHandsLaw" 41 y_X_odds := Or.inl (tb_at 1043 (by decide +kernel))
theorem kin_X_odds : Cond.instanceMethod y_X_odds ∈ tbg := tb_at 1044 (by decide +kernel)
theorem kse_X_odds : Cond.selects (kCn 0) y_X_odds y_X_odds ∈ tbg := tb_at 1045 (by decide +kernel)
theorem kl_L_44 : kML "YearHandsLaw" 44 y_M_odds := Or.inl (tb_at 1891 (by decide +kernel))
theorem kin_M_odds : Cond.instanceMethod y_M_odds ∈ tbg := tb_at 1892 (by decide +kernel)
theorem kse_M_odds : Cond.selects (kCn 1) y_M_odds y_M_odds ∈ tbg := tb_at 1893 (by decide +kernel)
theorem kl_L_45 : kML "YearHandsLaw" 45 y_X_sum := Or.inl (tb_at 1056 (by decide +kernel))
theorem kl_L_48 : kML "YearHandsLaw" 48 y_M_sum := Or.inl (tb_at 1903 (by decide +kernel))
theorem kl_L_49 : kML "YearHandsLaw" 49 y_X_give := Or.inl (tb_at 1064 (by decide +kernel))
theorem kin_X_give : Cond.instanceMethod y_X_give ∈ tbg := tb_at 1065 (by decide +kernel)
theorem kse_X_give : Cond.selects (kCn 0) y_X_give y_X_give ∈ tbg := tb_at 1066 (by decide +kernel)
theorem kl_L_53 : kML "YearHandsLaw" 53 y_M_give := Or.inl (tb_at 1908 (by decide +kernel))
theorem kin_M_give : Cond.instanceMethod y_M_give ∈ tbg := tb_at 1909 (by decide +kernel)
theorem kse_M_give : Cond.selects (kCn 1) y_M_give y_M_give ∈ tbg := tb_at 1910 (by decide +kernel)
theorem kl_L_54 : kML "YearHandsLaw" 54 y_X_lend := Or.inl (tb_at 1091 (by decide +kernel))
theorem kin_X_lend : Cond.instanceMethod y_X_lend ∈ tbg := tb_at 1092 (by decide +kernel)
theorem kse_X_lend : Cond.selects (kCn 0) y_X_lend y_X_lend ∈ tbg := tb_at 1093 (by decide +kernel)
theorem kl_L_58 : kML "YearHandsLaw" 58 y_M_lend := Or.inl (tb_at 1932 (by decide +kernel))
theorem kin_M_lend : Cond.instanceMethod y_M_lend ∈ tbg := tb_at 1933 (by decide +kernel)
theorem kse_M_lend : Cond.selects (kCn 1) y_M_lend y_M_lend ∈ tbg := tb_at 1934 (by decide +kernel)
theorem kl_L_59 : kML "YearHandsLaw" 59 y_X_year := Or.inl (tb_at 1099 (by decide +kernel))
theorem kin_X_year : Cond.instanceMethod y_X_year ∈ tbg := tb_at 1100 (by decide +kernel)
theorem kse_X_year : Cond.selects (kCn 0) y_X_year y_X_year ∈ tbg := tb_at 1101 (by decide +kernel)
theorem kl_L_62 : kML "YearHandsLaw" 62 y_M_year := Or.inl (tb_at 1936 (by decide +kernel))
theorem kin_M_year : Cond.instanceMethod y_M_year ∈ tbg := tb_at 1937 (by decide +kernel)
theorem kse_M_year : Cond.selects (kCn 1) y_M_year y_M_year ∈ tbg := tb_at 1938 (by decide +kernel)
theorem kl_L_63 : kML "YearHandsLaw" 63 y_X_undo := Or.inl (tb_at 1123 (by decide +kernel))
theorem kin_X_undo : Cond.instanceMethod y_X_undo ∈ tbg := tb_at 1124 (by decide +kernel)
theorem kse_X_undo : Cond.selects (kCn 0) y_X_undo y_X_undo ∈ tbg := tb_at 1125 (by decide +kernel)
theorem kl_L_67 : kML "YearHandsLaw" 67 y_M_undo := Or.inl (tb_at 1944 (by decide +kernel))
theorem kin_M_undo : Cond.instanceMethod y_M_undo ∈ tbg := tb_at 1945 (by decide +kernel)
theorem kse_M_undo : Cond.selects (kCn 1) y_M_undo y_M_undo ∈ tbg := tb_at 1946 (by decide +kernel)
theorem kl_L_68 : kML "YearHandsLaw" 68 y_X_redo := Or.inl (tb_at 1131 (by decide +kernel))
theorem kin_X_redo : Cond.instanceMethod y_X_redo ∈ tbg := tb_at 1132 (by decide +kernel)
theorem kse_X_redo : Cond.selects (kCn 0) y_X_redo y_X_redo ∈ tbg := tb_at 1133 (by decide +kernel)
theorem kl_L_71 : kML "YearHandsLaw" 71 y_M_redo := Or.inl (tb_at 1952 (by decide +kernel))
theorem kin_M_redo : Cond.instanceMethod y_M_redo ∈ tbg := tb_at 1953 (by decide +kernel)
theorem kse_M_redo : Cond.selects (kCn 1) y_M_redo y_M_redo ∈ tbg := tb_at 1954 (by decide +kernel)
theorem kl_L_72 : kML "YearHandsLaw" 72 y_X_loan := Or.inl (tb_at 1139 (by decide +kernel))
theorem kin_X_loan : Cond.instanceMethod y_X_loan ∈ tbg := tb_at 1140 (by decide +kernel)
theorem kse_X_loan : Cond.selects (kCn 0) y_X_loan y_X_loan ∈ tbg := tb_at 1141 (by decide +kernel)
theorem kl_L_75 : kML "YearHandsLaw" 75 y_M_loan := Or.inl (tb_at 1956 (by decide +kernel))
theorem kin_M_loan : Cond.instanceMethod y_M_loan ∈ tbg := tb_at 1957 (by decide +kernel)
theorem kse_M_loan : Cond.selects (kCn 1) y_M_loan y_M_loan ∈ tbg := tb_at 1958 (by decide +kernel)
theorem kl_L_76 : kML "YearHandsLaw" 76 y_X_target := Or.inl (tb_at 1143 (by decide +kernel))
theorem kin_X_target : Cond.instanceMethod y_X_target ∈ tbg := tb_at 1144 (by decide +kernel)
theorem kse_X_target : Cond.selects (kCn 0) y_X_target y_X_target ∈ tbg := tb_at 1145 (by decide +kernel)
theorem kl_L_79 : kML "YearHandsLaw" 79 y_M_target := Or.inl (tb_at 1960 (by decide +kernel))
theorem kin_M_target : Cond.instanceMethod y_M_target ∈ tbg := tb_at 1961 (by decide +kernel)
theorem kse_M_target : Cond.selects (kCn 1) y_M_target y_M_target ∈ tbg := tb_at 1962 (by decide +kernel)
theorem kl_L_80 : kML "YearHandsLaw" 80 y_X_hush := Or.inl (tb_at 1154 (by decide +kernel))
theorem kin_X_hush : Cond.instanceMethod y_X_hush ∈ tbg := tb_at 1155 (by decide +kernel)
theorem kse_X_hush : Cond.selects (kCn 0) y_X_hush y_X_hush ∈ tbg := tb_at 1156 (by decide +kernel)
theorem kl_L_83 : kML "YearHandsLaw" 83 y_M_hush := Or.inl (tb_at 1968 (by decide +kernel))
theorem kin_M_hush : Cond.instanceMethod y_M_hush ∈ tbg := tb_at 1969 (by decide +kernel)
theorem kse_M_hush : Cond.selects (kCn 1) y_M_hush y_M_hush ∈ tbg := tb_at 1970 (by decide +kernel)
theorem kl_L_84 : kML "YearHandsLaw" 84 y_X_cheapest := Or.inl (tb_at 1158 (by decide +kernel))
theorem kin_X_cheapest : Cond.instanceMethod y_X_cheapest ∈ tbg := tb_at 1159 (by decide +kernel)
theorem kse_X_cheapest : Cond.selects (kCn 0) y_X_cheapest y_X_cheapest ∈ tbg := tb_at 1160 (by decide +kernel)
theorem kl_L_87 : kML "YearHandsLaw" 87 y_M_cheapest := Or.inl (tb_at 1972 (by decide +kernel))
theorem kin_M_cheapest : Cond.instanceMethod y_M_cheapest ∈ tbg := tb_at 1973 (by decide +kernel)
theorem kse_M_cheapest : Cond.selects (kCn 1) y_M_cheapest y_M_cheapest ∈ tbg := tb_at 1974 (by decide +kernel)
theorem kl_L_88 : kML "YearHandsLaw" 88 y_X_barred := Or.inl (tb_at 1191 (by decide +kernel))
theorem kin_X_barred : Cond.instanceMethod y_X_barred ∈ tbg := tb_at 1192 (by decide +kernel)
theorem kse_X_barred : Cond.selects (kCn 0) y_X_barred y_X_barred ∈ tbg := tb_at 1193 (by decide +kernel)
theorem kl_L_91 : kML "YearHandsLaw" 91 y_M_barred := Or.inl (tb_at 1993 (by decide +kernel))
theorem kin_M_barred : Cond.instanceMethod y_M_barred ∈ tbg := tb_at 1994 (by decide +kernel)
theorem kse_M_barred : Cond.selects (kCn 1) y_M_barred y_M_barred ∈ tbg := tb_at 1995 (by decide +kernel)
theorem kl_L_92 : kML "YearHandsLaw" 92 y_X_reach := Or.inl (tb_at 1220 (by decide +kernel))
theorem kin_X_reach : Cond.instanceMethod y_X_reach ∈ tbg := tb_at 1221 (by decide +kernel)
theorem kse_X_reach : Cond.selects (kCn 0) y_X_reach y_X_reach ∈ tbg := tb_at 1222 (by decide +kernel)
theorem kl_L_95 : kML "YearHandsLaw" 95 y_M_reach := Or.inl (tb_at 2005 (by decide +kernel))
theorem kin_M_reach : Cond.instanceMethod y_M_reach ∈ tbg := tb_at 2006 (by decide +kernel)
theorem kse_M_reach : Cond.selects (kCn 1) y_M_reach y_M_reach ∈ tbg := tb_at 2007 (by decide +kernel)
theorem kl_L_96 : kML "YearHandsLaw" 96 y_X_net := Or.inl (tb_at 1224 (by decide +kernel))
theorem kin_X_net : Cond.instanceMethod y_X_net ∈ tbg := tb_at 1225 (by decide +kernel)
theorem kse_X_net : Cond.selects (kCn 0) y_X_net y_X_net ∈ tbg := tb_at 1226 (by decide +kernel)
theorem kl_L_99 : kML "YearHandsLaw" 99 y_M_net := Or.inl (tb_at 2017 (by decide +kernel))
theorem kin_M_net : Cond.instanceMethod y_M_net ∈ tbg := tb_at 2018 (by decide +kernel)
theorem kse_M_net : Cond.selects (kCn 1) y_M_net y_M_net ∈ tbg := tb_at 2019 (by decide +kernel)
theorem kl_L_100 : kML "YearHandsLaw" 100 y_X_payments := Or.inl (tb_at 1235 (by decide +kernel))
theorem kin_X_payments : Cond.instanceMethod y_X_payments ∈ tbg := tb_at 1236 (by decide +kernel)
theorem kse_X_payments : Cond.selects (kCn 0) y_X_payments y_X_payments ∈ tbg := tb_at 1237 (by decide +kernel)
theorem kl_L_103 : kML "YearHandsLaw" 103 y_M_payments := Or.inl (tb_at 2025 (by decide +kernel))
theorem kin_M_payments : Cond.instanceMethod y_M_payments ∈ tbg := tb_at 2026 (by decide +kernel)
theorem kse_M_payments : Cond.selects (kCn 1) y_M_payments y_M_payments ∈ tbg := tb_at 2027 (by decide +kernel)
theorem kl_L_104 : kML "YearHandsLaw" 104 y_X_ring := Or.inl (tb_at 1244 (by decide +kernel))
theorem kin_X_ring : Cond.instanceMethod y_X_ring ∈ tbg := tb_at 1245 (by decide +kernel)
theorem kse_X_ring : Cond.selects (kCn 0) y_X_ring y_X_ring ∈ tbg := tb_at 1246 (by decide +kernel)
theorem kl_L_107 : kML "YearHandsLaw" 107 y_M_ring := Or.inl (tb_at 2033 (by decide +kernel))
theorem kin_M_ring : Cond.instanceMethod y_M_ring ∈ tbg := tb_at 2034 (by decide +kernel)
theorem kse_M_ring : Cond.selects (kCn 1) y_M_ring y_M_ring ∈ tbg := tb_at 2035 (by decide +kernel)
theorem kl_L_108 : kML "YearHandsLaw" 108 y_X_market := Or.inl (tb_at 1252 (by decide +kernel))
theorem kin_X_market : Cond.instanceMethod y_X_market ∈ tbg := tb_at 1253 (by decide +kernel)
theorem kse_X_market : Cond.selects (kCn 0) y_X_market y_X_market ∈ tbg := tb_at 1254 (by decide +kernel)
theorem kl_L_111 : kML "YearHandsLaw" 111 y_M_market := Or.inl (tb_at 2041 (by decide +kernel))
theorem kin_M_market : Cond.instanceMethod y_M_market ∈ tbg := tb_at 2042 (by decide +kernel)
theorem kse_M_market : Cond.selects (kCn 1) y_M_market y_M_market ∈ tbg := tb_at 2043 (by decide +kernel)
theorem kl_L_112 : kML "YearHandsLaw" 112 y_X_rests := Or.inl (tb_at 1263 (by decide +kernel))
theorem kin_X_rests : Cond.instanceMethod y_X_rests ∈ tbg := tb_at 1264 (by decide +kernel)
theorem kse_X_rests : Cond.selects (kCn 0) y_X_rests y_X_rests ∈ tbg := tb_at 1265 (by decide +kernel)
theorem kl_L_115 : kML "YearHandsLaw" 115 y_M_rests := Or.inl (tb_at 2049 (by decide +kernel))
theorem kin_M_rests : Cond.instanceMethod y_M_rests ∈ tbg := tb_at 2050 (by decide +kernel)
theorem kse_M_rests : Cond.selects (kCn 1) y_M_rests y_M_rests ∈ tbg := tb_at 2051 (by decide +kernel)
theorem kl_L_116 : kML "YearHandsLaw" 116 y_X_corner := Or.inl (tb_at 1274 (by decide +kernel))
theorem kin_X_corner : Cond.instanceMethod y_X_corner ∈ tbg := tb_at 1275 (by decide +kernel)
theorem kse_X_corner : Cond.selects (kCn 0) y_X_corner y_X_corner ∈ tbg := tb_at 1276 (by decide +kernel)
theorem kl_L_119 : kML "YearHandsLaw" 119 y_M_corner := Or.inl (tb_at 2057 (by decide +kernel))
theorem kin_M_corner : Cond.instanceMethod y_M_corner ∈ tbg := tb_at 2058 (by decide +kernel)
theorem kse_M_corner : Cond.selects (kCn 1) y_M_corner y_M_corner ∈ tbg := tb_at 2059 (by decide +kernel)
theorem kl_L_120 : kML "YearHandsLaw" 120 y_X_safest := Or.inl (tb_at 1278 (by decide +kernel))
theorem kin_X_safest : Cond.instanceMethod y_X_safest ∈ tbg := tb_at 1279 (by decide +kernel)
theorem kse_X_safest : Cond.selects (kCn 0) y_X_safest y_X_safest ∈ tbg := tb_at 1280 (by decide +kernel)
theorem kl_L_123 : kML "YearHandsLaw" 123 y_M_safest := Or.inl (tb_at 2065 (by decide +kernel))
theorem kin_M_safest : Cond.instanceMethod y_M_safest ∈ tbg := tb_at 2066 (by decide +kernel)
theorem kse_M_safest : Cond.selects (kCn 1) y_M_safest y_M_safest ∈ tbg := tb_at 2067 (by decide +kernel)
theorem kl_L_124 : kML "YearHandsLaw" 124 y_X_bends := Or.inl (tb_at 1312 (by decide +kernel))
theorem kin_X_bends : Cond.instanceMethod y_X_bends ∈ tbg := tb_at 1313 (by decide +kernel)
theorem kse_X_bends : Cond.selects (kCn 0) y_X_bends y_X_bends ∈ tbg := tb_at 1314 (by decide +kernel)
theorem kl_L_127 : kML "YearHandsLaw" 127 y_M_bends := Or.inl (tb_at 2077 (by decide +kernel))
theorem kin_M_bends : Cond.instanceMethod y_M_bends ∈ tbg := tb_at 2078 (by decide +kernel)
theorem kse_M_bends : Cond.selects (kCn 1) y_M_bends y_M_bends ∈ tbg := tb_at 2079 (by decide +kernel)
theorem kl_L_128 : kML "YearHandsLaw" 128 y_X_twice := Or.inl (tb_at 1316 (by decide +kernel))
theorem kin_X_twice : Cond.instanceMethod y_X_twice ∈ tbg := tb_at 1317 (by decide +kernel)
theorem kse_X_twice : Cond.selects (kCn 0) y_X_twice y_X_twice ∈ tbg := tb_at 1318 (by decide +kernel)
theorem kl_L_131 : kML "YearHandsLaw" 131 y_M_twice := Or.inl (tb_at 2081 (by decide +kernel))
theorem kin_M_twice : Cond.instanceMethod y_M_twice ∈ tbg := tb_at 2082 (by decide +kernel)
theorem kse_M_twice : Cond.selects (kCn 1) y_M_twice y_M_twice ∈ tbg := tb_at 2083 (by decide +kernel)
theorem kl_L_132 : kML "YearHandsLaw" 132 y_X_fair := Or.inl (tb_at 1324 (by decide +kernel))
theorem kin_X_fair : Cond.instanceMethod y_X_fair ∈ tbg := tb_at 1325 (by decide +kernel)
theorem kse_X_fair : Cond.selects (kCn 0) y_X_fair y_X_fair ∈ tbg := tb_at 1326 (by decide +kernel)
theorem kl_L_135 : kML "YearHandsLaw" 135 y_M_fair := Or.inl (tb_at 2089 (by decide +kernel))
theorem kin_M_fair : Cond.instanceMethod y_M_fair ∈ tbg := tb_at 2090 (by decide +kernel)
theorem kse_M_fair : Cond.selects (kCn 1) y_M_fair y_M_fair ∈ tbg := tb_at 2091 (by decide +kernel)
theorem kl_L_136 : kML "YearHandsLaw" 136 y_X_all := Or.inl (tb_at 1337 (by decide +kernel))
theorem kin_X_all : Cond.instanceMethod y_X_all ∈ tbg := tb_at 1338 (by decide +kernel)
theorem kse_X_all : Cond.selects (kCn 0) y_X_all y_X_all ∈ tbg := tb_at 1339 (by decide +kernel)
theorem kl_L_139 : kML "YearHandsLaw" 139 y_M_all := Or.inl (tb_at 2102 (by decide +kernel))
theorem kin_M_all : Cond.instanceMethod y_M_all ∈ tbg := tb_at 2103 (by decide +kernel)
theorem kse_M_all : Cond.selects (kCn 1) y_M_all y_M_all ∈ tbg := tb_at 2104 (by decide +kernel)
theorem kl_L_140 : kML "YearHandsLaw" 140 y_X_lies := Or.inl (tb_at 1345 (by decide +kernel))
theorem kin_X_lies : Cond.instanceMethod y_X_lies ∈ tbg := tb_at 1346 (by decide +kernel)
theorem kse_X_lies : Cond.selects (kCn 0) y_X_lies y_X_lies ∈ tbg := tb_at 1347 (by decide +kernel)
theorem kl_L_143 : kML "YearHandsLaw" 143 y_M_lies := Or.inl (tb_at 2061 (by decide +kernel))
theorem kin_M_lies : Cond.instanceMethod y_M_lies ∈ tbg := tb_at 2062 (by decide +kernel)
theorem kse_M_lies : Cond.selects (kCn 1) y_M_lies y_M_lies ∈ tbg := tb_at 2063 (by decide +kernel)
theorem kl_L_144 : kML "YearHandsLaw" 144 y_X_face := Or.inl (tb_at 1349 (by decide +kernel))
theorem kin_X_face : Cond.instanceMethod y_X_face ∈ tbg := tb_at 1350 (by decide +kernel)
theorem kse_X_face : Cond.selects (kCn 0) y_X_face y_X_face ∈ tbg := tb_at 1351 (by decide +kernel)
theorem kl_L_147 : kML "YearHandsLaw" 147 y_M_face := Or.inl (tb_at 2106 (by decide +kernel))
theorem kin_M_face : Cond.instanceMethod y_M_face ∈ tbg := tb_at 2107 (by decide +kernel)
theorem kse_M_face : Cond.selects (kCn 1) y_M_face y_M_face ∈ tbg := tb_at 2108 (by decide +kernel)
theorem kl_L_148 : kML "YearHandsLaw" 148 y_X_untell := Or.inl (tb_at 1358 (by decide +kernel))
theorem kin_X_untell : Cond.instanceMethod y_X_untell ∈ tbg := tb_at 1359 (by decide +kernel)
theorem kse_X_untell : Cond.selects (kCn 0) y_X_untell y_X_untell ∈ tbg := tb_at 1360 (by decide +kernel)
theorem kl_L_152 : kML "YearHandsLaw" 152 y_M_untell := Or.inl (tb_at 2110 (by decide +kernel))
theorem kin_M_untell : Cond.instanceMethod y_M_untell ∈ tbg := tb_at 2111 (by decide +kernel)
theorem kse_M_untell : Cond.selects (kCn 1) y_M_untell y_M_untell ∈ tbg := tb_at 2112 (by decide +kernel)
theorem kl_L_153 : kML "YearHandsLaw" 153 y_X_later := Or.inl (tb_at 1367 (by decide +kernel))
theorem kin_X_later : Cond.instanceMethod y_X_later ∈ tbg := tb_at 1368 (by decide +kernel)
theorem kse_X_later : Cond.selects (kCn 0) y_X_later y_X_later ∈ tbg := tb_at 1369 (by decide +kernel)
theorem kl_L_156 : kML "YearHandsLaw" 156 y_M_later := Or.inl (tb_at 2114 (by decide +kernel))
theorem kin_M_later : Cond.instanceMethod y_M_later ∈ tbg := tb_at 2115 (by decide +kernel)
theorem kse_M_later : Cond.selects (kCn 1) y_M_later y_M_later ∈ tbg := tb_at 2116 (by decide +kernel)
theorem kl_L_157 : kML "YearHandsLaw" 157 y_X_explained := Or.inl (tb_at 1372 (by decide +kernel))
theorem kin_X_explained : Cond.instanceMethod y_X_explained ∈ tbg := tb_at 1373 (by decide +kernel)
theorem kse_X_explained : Cond.selects (kCn 0) y_X_explained y_X_explained ∈ tbg := tb_at 1374 (by decide +kernel)
theorem kl_L_160 : kML "YearHandsLaw" 160 y_M_explained := Or.inl (tb_at 2119 (by decide +kernel))
theorem kin_M_explained : Cond.instanceMethod y_M_explained ∈ tbg := tb_at 2120 (by decide +kernel)
theorem kse_M_explained : Cond.selects (kCn 1) y_M_explained y_M_explained ∈ tbg := tb_at 2121 (by decide +kernel)
theorem kl_L_161 : kML "YearHandsLaw" 161 y_X_sure := Or.inl (tb_at 1417 (by decide +kernel))
theorem kin_X_sure : Cond.instanceMethod y_X_sure ∈ tbg := tb_at 1418 (by decide +kernel)
theorem kse_X_sure : Cond.selects (kCn 0) y_X_sure y_X_sure ∈ tbg := tb_at 1419 (by decide +kernel)
theorem kl_L_164 : kML "YearHandsLaw" 164 y_M_sure := Or.inl (tb_at 2151 (by decide +kernel))
theorem kin_M_sure : Cond.instanceMethod y_M_sure ∈ tbg := tb_at 2152 (by decide +kernel)
theorem kse_M_sure : Cond.selects (kCn 1) y_M_sure y_M_sure ∈ tbg := tb_at 2153 (by decide +kernel)
theorem kl_L_165 : kML "YearHandsLaw" 165 y_X_forged := Or.inl (tb_at 1421 (by decide +kernel))
theorem kin_X_forged : Cond.instanceMethod y_X_forged ∈ tbg := tb_at 1422 (by decide +kernel)
theorem kse_X_forged : Cond.selects (kCn 0) y_X_forged y_X_forged ∈ tbg := tb_at 1423 (by decide +kernel)
theorem kl_L_168 : kML "YearHandsLaw" 168 y_M_forged := Or.inl (tb_at 2155 (by decide +kernel))
theorem kin_M_forged : Cond.instanceMethod y_M_forged ∈ tbg := tb_at 2156 (by decide +kernel)
theorem kse_M_forged : Cond.selects (kCn 1) y_M_forged y_M_forged ∈ tbg := tb_at 2157 (by decide +kernel)
theorem kl_L_169 : kML "YearHandsLaw" 169 y_X_image := Or.inl (tb_at 1430 (by decide +kernel))
theorem kin_X_image : Cond.instanceMethod y_X_image ∈ tbg := tb_at 1431 (by decide +kernel)
theorem kse_X_image : Cond.selects (kCn 0) y_X_image y_X_image ∈ tbg := tb_at 1432 (by decide +kernel)
theorem kl_L_172 : kML "YearHandsLaw" 172 y_M_image := Or.inl (tb_at 2159 (by decide +kernel))
theorem kin_M_image : Cond.instanceMethod y_M_image ∈ tbg := tb_at 2160 (by decide +kernel)
theorem kse_M_image : Cond.selects (kCn 1) y_M_image y_M_image ∈ tbg := tb_at 2161 (by decide +kernel)
theorem kl_L_173 : kML "YearHandsLaw" 173 y_X_back := Or.inl (tb_at 1435 (by decide +kernel))
theorem kin_X_back : Cond.instanceMethod y_X_back ∈ tbg := tb_at 1436 (by decide +kernel)
theorem kse_X_back : Cond.selects (kCn 0) y_X_back y_X_back ∈ tbg := tb_at 1437 (by decide +kernel)
theorem kl_L_176 : kML "YearHandsLaw" 176 y_M_back := Or.inl (tb_at 2163 (by decide +kernel))
theorem kin_M_back : Cond.instanceMethod y_M_back ∈ tbg := tb_at 2164 (by decide +kernel)
theorem kse_M_back : Cond.selects (kCn 1) y_M_back y_M_back ∈ tbg := tb_at 2165 (by decide +kernel)
theorem kl_L_177 : kML "YearHandsLaw" 177 y_X_about := Or.inl (tb_at 1439 (by decide +kernel))
theorem kin_X_about : Cond.instanceMethod y_X_about ∈ tbg := tb_at 1440 (by decide +kernel)
theorem kse_X_about : Cond.selects (kCn 0) y_X_about y_X_about ∈ tbg := tb_at 1441 (by decide +kernel)
theorem kl_L_180 : kML "YearHandsLaw" 180 y_M_about := Or.inl (tb_at 2167 (by decide +kernel))
theorem kin_M_about : Cond.instanceMethod y_M_about ∈ tbg := tb_at 2168 (by decide +kernel)
theorem kse_M_about : Cond.selects (kCn 1) y_M_about y_M_about ∈ tbg := tb_at 2169 (by decide +kernel)
def y_L_law : MethodName := ⟨"YearHandsLaw", "law", "([I)Z"⟩
abbrev Y_L_law : KY := ("YearHandsLaw", code, 4, ret, 110)
def D_L_law : List (Nat × Instr × Nat) := [(0, .new 7, 3), (3, .dup, 1), (4, .invokespecial 9, 3), (7, .astore_n 1, 1), (8, .new 10, 3), (11, .dup, 1), (12, .invokespecial 12, 3), (15, .astore_n 2, 1), (16, .iconst 0, 1), (17, .istore_n 3, 1), (18, .iload_n 3, 1), (19, .aload_n 0, 1), (20, .arraylength, 1), (21, .bipush 6, 2), (23, .isub, 1), (24, .if_icmp .gt 1210, 3), (27, .aload_n 0, 1), (28, .iload_n 3, 1), (29, .iaload, 1), (30, .bipush 63, 2), (32, .iand, 1), (33, .tableswitch 1195 0 39 #[175, 238, 261, 274, 297, 330, 363, 386, 409, 452, 505, 518, 531, 544, 577, 610, 623, 636, 649, 692, 715, 728, 741, 774, 807, 840, 853, 866, 889, 912, 945, 968, 1001, 1024, 1047, 1070, 1103, 1126, 1149, 1172], 175), (208, .aload_n 1, 1), (209, .aload_n 0, 1), (210, .iload_n 3, 1), (211, .iconst 1, 1), (212, .iadd, 1), (213, .iaload, 1), (214, .aload_n 0, 1), (215, .iload_n 3, 1), (216, .iconst 2, 1), (217, .iadd, 1), (218, .iaload, 1), (219, .aload_n 0, 1), (220, .iload_n 3, 1), (221, .iconst 3, 1), (222, .iadd, 1), (223, .iaload, 1), (224, .aload_n 0, 1), (225, .iload_n 3, 1), (226, .iconst 4, 1), (227, .iadd, 1), (228, .iaload, 1), (229, .aload_n 0, 1), (230, .iload_n 3, 1), (231, .iconst 5, 1), (232, .iadd, 1), (233, .iaload, 1), (234, .invokevirtual 13, 3), (237, .aload_n 2, 1), (238, .aload_n 0, 1), (239, .iload_n 3, 1), (240, .iconst 1, 1), (241, .iadd, 1), (242, .iaload, 1), (243, .aload_n 0, 1), (244, .iload_n 3, 1), (245, .iconst 2, 1), (246, .iadd, 1), (247, .iaload, 1), (248, .aload_n 0, 1), (249, .iload_n 3, 1), (250, .iconst 3, 1), (251, .iadd, 1), (252, .iaload, 1), (253, .aload_n 0, 1), (254, .iload_n 3, 1), (255, .iconst 4, 1), (256, .iadd, 1), (257, .iaload, 1), (258, .aload_n 0, 1), (259, .iload_n 3, 1), (260, .iconst 5, 1), (261, .iadd, 1), (262, .iaload, 1), (263, .invokevirtual 17, 3), (266, .if_icmp .eq 962, 3), (269, .iconst 0, 1), (270, .ireturn, 1), (271, .aload_n 1, 1), (272, .aload_n 0, 1), (273, .iload_n 3, 1), (274, .iconst 1, 1), (275, .iadd, 1), (276, .iaload, 1), (277, .invokevirtual 18, 3), (280, .aload_n 2, 1), (281, .aload_n 0, 1), (282, .iload_n 3, 1), (283, .iconst 1, 1), (284, .iadd, 1), (285, .iaload, 1), (286, .invokevirtual 22, 3), (289, .if_icmp .eq 939, 3), (292, .iconst 0, 1), (293, .ireturn, 1), (294, .aload_n 1, 1), (295, .invokevirtual 23, 3), (298, .aload_n 2, 1), (299, .invokevirtual 27, 3), (302, .if_icmp .eq 926, 3), (305, .iconst 0, 1), (306, .ireturn, 1), (307, .aload_n 1, 1), (308, .aload_n 0, 1), (309, .iload_n 3, 1), (310, .iconst 1, 1), (311, .iadd, 1), (312, .iaload, 1), (313, .invokevirtual 28, 3), (316, .aload_n 2, 1), (317, .aload_n 0, 1), (318, .iload_n 3, 1), (319, .iconst 1, 1), (320, .iadd, 1), (321, .iaload, 1), (322, .invokevirtual 31, 3), (325, .if_icmp .eq 903, 3), (328, .iconst 0, 1), (329, .ireturn, 1), (330, .aload_n 1, 1), (331, .aload_n 0, 1), (332, .iload_n 3, 1), (333, .iconst 1, 1), (334, .iadd, 1), (335, .iaload, 1), (336, .aload_n 0, 1), (337, .iload_n 3, 1), (338, .iconst 2, 1), (339, .iadd, 1), (340, .iaload, 1), (341, .invokevirtual 32, 3), (344, .aload_n 2, 1), (345, .aload_n 0, 1), (346, .iload_n 3, 1), (347, .iconst 1, 1), (348, .iadd, 1), (349, .iaload, 1), (350, .aload_n 0, 1), (351, .iload_n 3, 1), (352, .iconst 2, 1), (353, .iadd, 1), (354, .iaload, 1), (355, .invokevirtual 36, 3), (358, .if_icmp .eq 870, 3), (361, .iconst 0, 1), (362, .ireturn, 1), (363, .aload_n 1, 1), (364, .aload_n 0, 1), (365, .iload_n 3, 1), (366, .iconst 1, 1), (367, .iadd, 1), (368, .iaload, 1), (369, .aload_n 0, 1), (370, .iload_n 3, 1), (371, .iconst 2, 1), (372, .iadd, 1), (373, .iaload, 1), (374, .invokevirtual 37, 3), (377, .aload_n 2, 1), (378, .aload_n 0, 1), (379, .iload_n 3, 1), (380, .iconst 1, 1), (381, .iadd, 1), (382, .iaload, 1), (383, .aload_n 0, 1), (384, .iload_n 3, 1), (385, .iconst 2, 1), (386, .iadd, 1), (387, .iaload, 1), (388, .invokevirtual 40, 3), (391, .if_icmp .eq 837, 3), (394, .iconst 0, 1), (395, .ireturn, 1), (396, .aload_n 1, 1), (397, .aload_n 0, 1), (398, .iload_n 3, 1), (399, .iconst 1, 1), (400, .iadd, 1), (401, .iaload, 1), (402, .invokevirtual 41, 3), (405, .aload_n 2, 1), (406, .aload_n 0, 1), (407, .iload_n 3, 1), (408, .iconst 1, 1), (409, .iadd, 1), (410, .iaload, 1), (411, .invokevirtual 44, 3), (414, .if_icmp .eq 814, 3), (417, .iconst 0, 1), (418, .ireturn, 1), (419, .aload_n 1, 1), (420, .aload_n 0, 1), (421, .iload_n 3, 1), (422, .iconst 1, 1), (423, .iadd, 1), (424, .iaload, 1), (425, .invokevirtual 45, 3), (428, .aload_n 2, 1), (429, .aload_n 0, 1), (430, .iload_n 3, 1), (431, .iconst 1, 1), (432, .iadd, 1), (433, .iaload, 1), (434, .invokevirtual 48, 3), (437, .if_icmp .eq 791, 3), (440, .iconst 0, 1), (441, .ireturn, 1), (442, .aload_n 1, 1), (443, .aload_n 0, 1), (444, .iload_n 3, 1), (445, .iconst 1, 1), (446, .iadd, 1), (447, .iaload, 1), (448, .aload_n 0, 1), (449, .iload_n 3, 1), (450, .iconst 2, 1), (451, .iadd, 1), (452, .iaload, 1), (453, .aload_n 0, 1), (454, .iload_n 3, 1), (455, .iconst 3, 1), (456, .iadd, 1), (457, .iaload, 1), (458, .invokevirtual 49, 3), (461, .aload_n 2, 1), (462, .aload_n 0, 1), (463, .iload_n 3, 1), (464, .iconst 1, 1), (465, .iadd, 1), (466, .iaload, 1), (467, .aload_n 0, 1), (468, .iload_n 3, 1), (469, .iconst 2, 1), (470, .iadd, 1), (471, .iaload, 1), (472, .aload_n 0, 1), (473, .iload_n 3, 1), (474, .iconst 3, 1), (475, .iadd, 1), (476, .iaload, 1), (477, .invokevirtual 53, 3), (480, .if_icmp .eq 748, 3), (483, .iconst 0, 1), (484, .ireturn, 1), (485, .aload_n 1, 1), (486, .aload_n 0, 1), (487, .iload_n 3, 1), (488, .iconst 1, 1), (489, .iadd, 1), (490, .iaload, 1), (491, .aload_n 0, 1), (492, .iload_n 3, 1), (493, .iconst 2, 1), (494, .iadd, 1), (495, .iaload, 1), (496, .aload_n 0, 1), (497, .iload_n 3, 1), (498, .iconst 3, 1), (499, .iadd, 1), (500, .iaload, 1), (501, .aload_n 0, 1), (502, .iload_n 3, 1), (503, .iconst 4, 1), (504, .iadd, 1), (505, .iaload, 1), (506, .invokevirtual 54, 3), (509, .aload_n 2, 1), (510, .aload_n 0, 1), (511, .iload_n 3, 1), (512, .iconst 1, 1), (513, .iadd, 1), (514, .iaload, 1), (515, .aload_n 0, 1), (516, .iload_n 3, 1), (517, .iconst 2, 1), (518, .iadd, 1), (519, .iaload, 1), (520, .aload_n 0, 1), (521, .iload_n 3, 1), (522, .iconst 3, 1), (523, .iadd, 1), (524, .iaload, 1), (525, .aload_n 0, 1), (526, .iload_n 3, 1), (527, .iconst 4, 1), (528, .iadd, 1), (529, .iaload, 1), (530, .invokevirtual 58, 3), (533, .if_icmp .eq 695, 3), (536, .iconst 0, 1), (537, .ireturn, 1), (538, .aload_n 1, 1), (539, .invokevirtual 59, 3), (542, .aload_n 2, 1), (543, .invokevirtual 62, 3), (546, .if_icmp .eq 682, 3), (549, .iconst 0, 1), (550, .ireturn, 1), (551, .aload_n 1, 1), (552, .invokevirtual 63, 3), (555, .aload_n 2, 1), (556, .invokevirtual 67, 3), (559, .if_icmp .eq 669, 3), (562, .iconst 0, 1), (563, .ireturn, 1), (564, .aload_n 1, 1), (565, .invokevirtual 68, 3), (568, .aload_n 2, 1), (569, .invokevirtual 71, 3), (572, .if_icmp .eq 656, 3), (575, .iconst 0, 1), (576, .ireturn, 1), (577, .aload_n 1, 1), (578, .aload_n 0, 1), (579, .iload_n 3, 1), (580, .iconst 1, 1), (581, .iadd, 1), (582, .iaload, 1), (583, .aload_n 0, 1), (584, .iload_n 3, 1), (585, .iconst 2, 1), (586, .iadd, 1), (587, .iaload, 1), (588, .invokevirtual 72, 3), (591, .aload_n 2, 1), (592, .aload_n 0, 1), (593, .iload_n 3, 1), (594, .iconst 1, 1), (595, .iadd, 1), (596, .iaload, 1), (597, .aload_n 0, 1), (598, .iload_n 3, 1), (599, .iconst 2, 1), (600, .iadd, 1), (601, .iaload, 1), (602, .invokevirtual 75, 3), (605, .if_icmp .eq 623, 3), (608, .iconst 0, 1), (609, .ireturn, 1), (610, .aload_n 1, 1), (611, .aload_n 0, 1), (612, .iload_n 3, 1), (613, .iconst 1, 1), (614, .iadd, 1), (615, .iaload, 1), (616, .aload_n 0, 1), (617, .iload_n 3, 1), (618, .iconst 2, 1), (619, .iadd, 1), (620, .iaload, 1), (621, .invokevirtual 76, 3), (624, .aload_n 2, 1), (625, .aload_n 0, 1), (626, .iload_n 3, 1), (627, .iconst 1, 1), (628, .iadd, 1), (629, .iaload, 1), (630, .aload_n 0, 1), (631, .iload_n 3, 1), (632, .iconst 2, 1), (633, .iadd, 1), (634, .iaload, 1), (635, .invokevirtual 79, 3), (638, .if_icmp .eq 590, 3), (641, .iconst 0, 1), (642, .ireturn, 1), (643, .aload_n 1, 1), (644, .invokevirtual 80, 3), (647, .aload_n 2, 1), (648, .invokevirtual 83, 3), (651, .if_icmp .eq 577, 3), (654, .iconst 0, 1), (655, .ireturn, 1), (656, .aload_n 1, 1), (657, .invokevirtual 84, 3), (660, .aload_n 2, 1), (661, .invokevirtual 87, 3), (664, .if_icmp .eq 564, 3), (667, .iconst 0, 1), (668, .ireturn, 1), (669, .aload_n 1, 1), (670, .invokevirtual 88, 3), (673, .aload_n 2, 1), (674, .invokevirtual 91, 3), (677, .if_icmp .eq 551, 3), (680, .iconst 0, 1), (681, .ireturn, 1), (682, .aload_n 1, 1), (683, .aload_n 0, 1), (684, .iload_n 3, 1), (685, .iconst 1, 1), (686, .iadd, 1), (687, .iaload, 1), (688, .aload_n 0, 1), (689, .iload_n 3, 1), (690, .iconst 2, 1), (691, .iadd, 1), (692, .iaload, 1), (693, .aload_n 0, 1), (694, .iload_n 3, 1), (695, .iconst 3, 1), (696, .iadd, 1), (697, .iaload, 1), (698, .invokevirtual 92, 3), (701, .aload_n 2, 1), (702, .aload_n 0, 1), (703, .iload_n 3, 1), (704, .iconst 1, 1), (705, .iadd, 1), (706, .iaload, 1), (707, .aload_n 0, 1), (708, .iload_n 3, 1), (709, .iconst 2, 1), (710, .iadd, 1), (711, .iaload, 1), (712, .aload_n 0, 1), (713, .iload_n 3, 1), (714, .iconst 3, 1), (715, .iadd, 1), (716, .iaload, 1), (717, .invokevirtual 95, 3), (720, .if_icmp .eq 508, 3), (723, .iconst 0, 1), (724, .ireturn, 1), (725, .aload_n 1, 1), (726, .aload_n 0, 1), (727, .iload_n 3, 1), (728, .iconst 1, 1), (729, .iadd, 1), (730, .iaload, 1), (731, .invokevirtual 96, 3), (734, .aload_n 2, 1), (735, .aload_n 0, 1), (736, .iload_n 3, 1), (737, .iconst 1, 1), (738, .iadd, 1), (739, .iaload, 1), (740, .invokevirtual 99, 3), (743, .if_icmp .eq 485, 3), (746, .iconst 0, 1), (747, .ireturn, 1), (748, .aload_n 1, 1), (749, .invokevirtual 100, 3), (752, .aload_n 2, 1), (753, .invokevirtual 103, 3), (756, .if_icmp .eq 472, 3), (759, .iconst 0, 1), (760, .ireturn, 1), (761, .aload_n 1, 1), (762, .invokevirtual 104, 3), (765, .aload_n 2, 1), (766, .invokevirtual 107, 3), (769, .if_icmp .eq 459, 3), (772, .iconst 0, 1), (773, .ireturn, 1), (774, .aload_n 1, 1), (775, .aload_n 0, 1), (776, .iload_n 3, 1), (777, .iconst 1, 1), (778, .iadd, 1), (779, .iaload, 1), (780, .aload_n 0, 1), (781, .iload_n 3, 1), (782, .iconst 2, 1), (783, .iadd, 1), (784, .iaload, 1), (785, .invokevirtual 108, 3), (788, .aload_n 2, 1), (789, .aload_n 0, 1), (790, .iload_n 3, 1), (791, .iconst 1, 1), (792, .iadd, 1), (793, .iaload, 1), (794, .aload_n 0, 1), (795, .iload_n 3, 1), (796, .iconst 2, 1), (797, .iadd, 1), (798, .iaload, 1), (799, .invokevirtual 111, 3), (802, .if_icmp .eq 426, 3), (805, .iconst 0, 1), (806, .ireturn, 1), (807, .aload_n 1, 1), (808, .aload_n 0, 1), (809, .iload_n 3, 1), (810, .iconst 1, 1), (811, .iadd, 1), (812, .iaload, 1), (813, .aload_n 0, 1), (814, .iload_n 3, 1), (815, .iconst 2, 1), (816, .iadd, 1), (817, .iaload, 1), (818, .invokevirtual 112, 3), (821, .aload_n 2, 1), (822, .aload_n 0, 1), (823, .iload_n 3, 1), (824, .iconst 1, 1), (825, .iadd, 1), (826, .iaload, 1), (827, .aload_n 0, 1), (828, .iload_n 3, 1), (829, .iconst 2, 1), (830, .iadd, 1), (831, .iaload, 1), (832, .invokevirtual 115, 3), (835, .if_icmp .eq 393, 3), (838, .iconst 0, 1), (839, .ireturn, 1), (840, .aload_n 1, 1), (841, .aload_n 0, 1), (842, .iload_n 3, 1), (843, .iconst 1, 1), (844, .iadd, 1), (845, .iaload, 1), (846, .aload_n 0, 1), (847, .iload_n 3, 1), (848, .iconst 2, 1), (849, .iadd, 1), (850, .iaload, 1), (851, .invokevirtual 116, 3), (854, .aload_n 2, 1), (855, .aload_n 0, 1), (856, .iload_n 3, 1), (857, .iconst 1, 1), (858, .iadd, 1), (859, .iaload, 1), (860, .aload_n 0, 1), (861, .iload_n 3, 1), (862, .iconst 2, 1), (863, .iadd, 1), (864, .iaload, 1), (865, .invokevirtual 119, 3), (868, .if_icmp .eq 360, 3), (871, .iconst 0, 1), (872, .ireturn, 1), (873, .aload_n 1, 1), (874, .invokevirtual 120, 3), (877, .aload_n 2, 1), (878, .invokevirtual 123, 3), (881, .if_icmp .eq 347, 3), (884, .iconst 0, 1), (885, .ireturn, 1), (886, .aload_n 1, 1), (887, .invokevirtual 124, 3), (890, .aload_n 2, 1), (891, .invokevirtual 127, 3), (894, .if_icmp .eq 334, 3), (897, .iconst 0, 1), (898, .ireturn, 1), (899, .aload_n 1, 1), (900, .aload_n 0, 1), (901, .iload_n 3, 1), (902, .iconst 1, 1), (903, .iadd, 1), (904, .iaload, 1), (905, .invokevirtual 128, 3), (908, .aload_n 2, 1), (909, .aload_n 0, 1), (910, .iload_n 3, 1), (911, .iconst 1, 1), (912, .iadd, 1), (913, .iaload, 1), (914, .invokevirtual 131, 3), (917, .if_icmp .eq 311, 3), (920, .iconst 0, 1), (921, .ireturn, 1), (922, .aload_n 1, 1), (923, .aload_n 0, 1), (924, .iload_n 3, 1), (925, .iconst 1, 1), (926, .iadd, 1), (927, .iaload, 1), (928, .invokevirtual 132, 3), (931, .aload_n 2, 1), (932, .aload_n 0, 1), (933, .iload_n 3, 1), (934, .iconst 1, 1), (935, .iadd, 1), (936, .iaload, 1), (937, .invokevirtual 135, 3), (940, .if_icmp .eq 288, 3), (943, .iconst 0, 1), (944, .ireturn, 1), (945, .aload_n 1, 1), (946, .aload_n 0, 1), (947, .iload_n 3, 1), (948, .iconst 1, 1), (949, .iadd, 1), (950, .iaload, 1), (951, .aload_n 0, 1), (952, .iload_n 3, 1), (953, .iconst 2, 1), (954, .iadd, 1), (955, .iaload, 1), (956, .invokevirtual 136, 3), (959, .aload_n 2, 1), (960, .aload_n 0, 1), (961, .iload_n 3, 1), (962, .iconst 1, 1), (963, .iadd, 1), (964, .iaload, 1), (965, .aload_n 0, 1), (966, .iload_n 3, 1), (967, .iconst 2, 1), (968, .iadd, 1), (969, .iaload, 1), (970, .invokevirtual 139, 3), (973, .if_icmp .eq 255, 3), (976, .iconst 0, 1), (977, .ireturn, 1), (978, .aload_n 1, 1), (979, .aload_n 0, 1), (980, .iload_n 3, 1), (981, .iconst 1, 1), (982, .iadd, 1), (983, .iaload, 1), (984, .invokevirtual 140, 3), (987, .aload_n 2, 1), (988, .aload_n 0, 1), (989, .iload_n 3, 1), (990, .iconst 1, 1), (991, .iadd, 1), (992, .iaload, 1), (993, .invokevirtual 143, 3), (996, .if_icmp .eq 232, 3), (999, .iconst 0, 1), (1000, .ireturn, 1), (1001, .aload_n 1, 1), (1002, .aload_n 0, 1), (1003, .iload_n 3, 1), (1004, .iconst 1, 1), (1005, .iadd, 1), (1006, .iaload, 1), (1007, .aload_n 0, 1), (1008, .iload_n 3, 1), (1009, .iconst 2, 1), (1010, .iadd, 1), (1011, .iaload, 1), (1012, .invokevirtual 144, 3), (1015, .aload_n 2, 1), (1016, .aload_n 0, 1), (1017, .iload_n 3, 1), (1018, .iconst 1, 1), (1019, .iadd, 1), (1020, .iaload, 1), (1021, .aload_n 0, 1), (1022, .iload_n 3, 1), (1023, .iconst 2, 1), (1024, .iadd, 1), (1025, .iaload, 1), (1026, .invokevirtual 147, 3), (1029, .if_icmp .eq 199, 3), (1032, .iconst 0, 1), (1033, .ireturn, 1), (1034, .aload_n 1, 1), (1035, .aload_n 0, 1), (1036, .iload_n 3, 1), (1037, .iconst 1, 1), (1038, .iadd, 1), (1039, .iaload, 1), (1040, .invokevirtual 148, 3), (1043, .aload_n 2, 1), (1044, .aload_n 0, 1), (1045, .iload_n 3, 1), (1046, .iconst 1, 1), (1047, .iadd, 1), (1048, .iaload, 1), (1049, .invokevirtual 152, 3), (1052, .if_icmp .eq 176, 3), (1055, .iconst 0, 1), (1056, .ireturn, 1), (1057, .aload_n 1, 1), (1058, .aload_n 0, 1), (1059, .iload_n 3, 1), (1060, .iconst 1, 1), (1061, .iadd, 1), (1062, .iaload, 1), (1063, .invokevirtual 153, 3), (1066, .aload_n 2, 1), (1067, .aload_n 0, 1), (1068, .iload_n 3, 1), (1069, .iconst 1, 1), (1070, .iadd, 1), (1071, .iaload, 1), (1072, .invokevirtual 156, 3), (1075, .if_icmp .eq 153, 3), (1078, .iconst 0, 1), (1079, .ireturn, 1), (1080, .aload_n 1, 1), (1081, .aload_n 0, 1), (1082, .iload_n 3, 1), (1083, .iconst 1, 1), (1084, .iadd, 1), (1085, .iaload, 1), (1086, .invokevirtual 157, 3), (1089, .aload_n 2, 1), (1090, .aload_n 0, 1), (1091, .iload_n 3, 1), (1092, .iconst 1, 1), (1093, .iadd, 1), (1094, .iaload, 1), (1095, .invokevirtual 160, 3), (1098, .if_icmp .eq 130, 3), (1101, .iconst 0, 1), (1102, .ireturn, 1), (1103, .aload_n 1, 1), (1104, .aload_n 0, 1), (1105, .iload_n 3, 1), (1106, .iconst 1, 1), (1107, .iadd, 1), (1108, .iaload, 1), (1109, .aload_n 0, 1), (1110, .iload_n 3, 1), (1111, .iconst 2, 1), (1112, .iadd, 1), (1113, .iaload, 1), (1114, .invokevirtual 161, 3), (1117, .aload_n 2, 1), (1118, .aload_n 0, 1), (1119, .iload_n 3, 1), (1120, .iconst 1, 1), (1121, .iadd, 1), (1122, .iaload, 1), (1123, .aload_n 0, 1), (1124, .iload_n 3, 1), (1125, .iconst 2, 1), (1126, .iadd, 1), (1127, .iaload, 1), (1128, .invokevirtual 164, 3), (1131, .if_icmp .eq 97, 3), (1134, .iconst 0, 1), (1135, .ireturn, 1), (1136, .aload_n 1, 1), (1137, .aload_n 0, 1), (1138, .iload_n 3, 1), (1139, .iconst 1, 1), (1140, .iadd, 1), (1141, .iaload, 1), (1142, .invokevirtual 165, 3), (1145, .aload_n 2, 1), (1146, .aload_n 0, 1), (1147, .iload_n 3, 1), (1148, .iconst 1, 1), (1149, .iadd, 1), (1150, .iaload, 1), (1151, .invokevirtual 168, 3), (1154, .if_icmp .eq 74, 3), (1157, .iconst 0, 1), (1158, .ireturn, 1), (1159, .aload_n 1, 1), (1160, .aload_n 0, 1), (1161, .iload_n 3, 1), (1162, .iconst 1, 1), (1163, .iadd, 1), (1164, .iaload, 1), (1165, .invokevirtual 169, 3), (1168, .aload_n 2, 1), (1169, .aload_n 0, 1), (1170, .iload_n 3, 1), (1171, .iconst 1, 1), (1172, .iadd, 1), (1173, .iaload, 1), (1174, .invokevirtual 172, 3), (1177, .if_icmp .eq 51, 3), (1180, .iconst 0, 1), (1181, .ireturn, 1), (1182, .aload_n 1, 1), (1183, .aload_n 0, 1), (1184, .iload_n 3, 1), (1185, .iconst 1, 1), (1186, .iadd, 1), (1187, .iaload, 1), (1188, .invokevirtual 173, 3), (1191, .aload_n 2, 1), (1192, .aload_n 0, 1), (1193, .iload_n 3, 1), (1194, .iconst 1, 1), (1195, .iadd, 1), (1196, .iaload, 1), (1197, .invokevirtual 176, 3), (1200, .if_icmp .eq 28, 3), (1203, .iconst 0, 1), (1204, .ireturn, 1), (1205, .aload_n 1, 1), (1206, .aload_n 0, 1), (1207, .iload_n 3, 1), (1208, .iconst 1, 1), (1209, .iadd, 1), (1210, .iaload, 1), (1211, .invokevirtual 177, 3), (1214, .aload_n 2, 1), (1215, .aload_n 0, 1), (1216, .iload_n 3, 1), (1217, .iconst 1, 1), (1218, .iadd, 1), (1219, .iaload, 1), (1220, .invokevirtual 180, 3), (1223, .if_icmp .eq 5, 3), (1226, .iconst 0, 1), (1227, .ireturn, 1), (1228, .iinc 3 6, 3), (1231, .goto (-1213), 3), (1234, .iconst 1, 1), (1235, .ireturn, 1)]
def D_L_law_0 : List (Nat × Instr × Nat) := [(0, .new 7, 3), (3, .dup, 1), (4, .invokespecial 9, 3), (7, .astore_n 1, 1), (8, .new 10, 3), (11, .dup, 1), (12, .invokespecial 12, 3), (15, .astore_n 2, 1), (16, .iconst 0, 1), (17, .istore_n 3, 1), (18, .iload_n 3, 1), (19, .aload_n 0, 1), (20, .arraylength, 1), (21, .bipush 6, 2), (23, .isub, 1), (24, .if_icmp .gt 1210, 3), (27, .aload_n 0, 1), (28, .iload_n 3, 1), (29, .iaload, 1), (30, .bipush 63, 2), (32, .iand, 1), (33, .tableswitch 1195 0 39 #[175, 238, 261, 274, 297, 330, 363, 386, 409, 452, 505, 518, 531, 544, 577, 610, 623, 636, 649, 692, 715, 728, 741, 774, 807, 840, 853, 866, 889, 912, 945, 968, 1001, 1024, 1047, 1070, 1103, 1126, 1149, 1172], 175), (208, .aload_n 1, 1), (209, .aload_n 0, 1), (210, .iload_n 3, 1), (211, .iconst 1, 1), (212, .iadd, 1), (213, .iaload, 1), (214, .aload_n 0, 1), (215, .iload_n 3, 1)]
theorem dt_L_law_0 : ∀ q ∈ D_L_law_0, decode code q.1 = .ok (q.2.1, q.2.2) := by decide +kernel
def D_L_law_1 : List (Nat × Instr × Nat) := [(216, .iconst 2, 1), (217, .iadd, 1), (218, .iaload, 1), (219, .aload_n 0, 1), (220, .iload_n 3, 1), (221, .iconst 3, 1), (222, .iadd, 1), (223, .iaload, 1), (224, .aload_n 0, 1), (225, .iload_n 3, 1), (226, .iconst 4, 1), (227, .iadd, 1), (228, .iaload, 1), (229, .aload_n 0, 1), (230, .iload_n 3, 1), (231, .iconst 5, 1), (232, .iadd, 1), (233, .iaload, 1), (234, .invokevirtual 13, 3), (237, .aload_n 2, 1), (238, .aload_n 0, 1), (239, .iload_n 3, 1), (240, .iconst 1, 1), (241, .iadd, 1), (242, .iaload, 1), (243, .aload_n 0, 1), (244, .iload_n 3, 1), (245, .iconst 2, 1), (246, .iadd, 1), (247, .iaload, 1)]
theorem dt_L_law_1 : ∀ q ∈ D_L_law_1, decode code q.1 = .ok (q.2.1, q.2.2) := by decide +kernel
def D_L_law_2 : List (Nat × Instr × Nat) := [(248, .aload_n 0, 1), (249, .iload_n 3, 1), (250, .iconst 3, 1), (251, .iadd, 1), (252, .iaload, 1), (253, .aload_n 0, 1), (254, .iload_n 3, 1), (255, .iconst 4, 1), (256, .iadd, 1), (257, .iaload, 1), (258, .aload_n 0, 1), (259, .iload_n 3, 1), (260, .iconst 5, 1), (261, .iadd, 1), (262, .iaload, 1), (263, .invokevirtual 17, 3), (266, .if_icmp .eq 962, 3), (269, .iconst 0, 1), (270, .ireturn, 1), (271, .aload_n 1, 1), (272, .aload_n 0, 1), (273, .iload_n 3, 1), (274, .iconst 1, 1), (275, .iadd, 1), (276, .iaload, 1), (277, .invokevirtual 18, 3), (280, .aload_n 2, 1), (281, .aload_n 0, 1), (282, .iload_n 3, 1), (283, .iconst 1, 1)]
theorem dt_L_law_2 : ∀ q ∈ D_L_law_2, decode code q.1 = .ok (q.2.1, q.2.2) := by decide +kernel
def D_L_law_3 : List (Nat × Instr × Nat) := [(284, .iadd, 1), (285, .iaload, 1), (286, .invokevirtual 22, 3), (289, .if_icmp .eq 939, 3), (292, .iconst 0, 1), (293, .ireturn, 1), (294, .aload_n 1, 1), (295, .invokevirtual 23, 3), (298, .aload_n 2, 1), (299, .invokevirtual 27, 3), (302, .if_icmp .eq 926, 3), (305, .iconst 0, 1), (306, .ireturn, 1), (307, .aload_n 1, 1), (308, .aload_n 0, 1), (309, .iload_n 3, 1), (310, .iconst 1, 1), (311, .iadd, 1), (312, .iaload, 1), (313, .invokevirtual 28, 3), (316, .aload_n 2, 1), (317, .aload_n 0, 1), (318, .iload_n 3, 1), (319, .iconst 1, 1), (320, .iadd, 1), (321, .iaload, 1), (322, .invokevirtual 31, 3), (325, .if_icmp .eq 903, 3), (328, .iconst 0, 1), (329, .ireturn, 1)]
theorem dt_L_law_3 : ∀ q ∈ D_L_law_3, decode code q.1 = .ok (q.2.1, q.2.2) := by decide +kernel
def D_L_law_4 : List (Nat × Instr × Nat) := [(330, .aload_n 1, 1), (331, .aload_n 0, 1), (332, .iload_n 3, 1), (333, .iconst 1, 1), (334, .iadd, 1), (335, .iaload, 1), (336, .aload_n 0, 1), (337, .iload_n 3, 1), (338, .iconst 2, 1), (339, .iadd, 1), (340, .iaload, 1), (341, .invokevirtual 32, 3), (344, .aload_n 2, 1), (345, .aload_n 0, 1), (346, .iload_n 3, 1), (347, .iconst 1, 1), (348, .iadd, 1), (349, .iaload, 1), (350, .aload_n 0, 1), (351, .iload_n 3, 1), (352, .iconst 2, 1), (353, .iadd, 1), (354, .iaload, 1), (355, .invokevirtual 36, 3), (358, .if_icmp .eq 870, 3), (361, .iconst 0, 1), (362, .ireturn, 1), (363, .aload_n 1, 1), (364, .aload_n 0, 1), (365, .iload_n 3, 1)]
theorem dt_L_law_4 : ∀ q ∈ D_L_law_4, decode code q.1 = .ok (q.2.1, q.2.2) := by decide +kernel
def D_L_law_5 : List (Nat × Instr × Nat) := [(366, .iconst 1, 1), (367, .iadd, 1), (368, .iaload, 1), (369, .aload_n 0, 1), (370, .iload_n 3, 1), (371, .iconst 2, 1), (372, .iadd, 1), (373, .iaload, 1), (374, .invokevirtual 37, 3), (377, .aload_n 2, 1), (378, .aload_n 0, 1), (379, .iload_n 3, 1), (380, .iconst 1, 1), (381, .iadd, 1), (382, .iaload, 1), (383, .aload_n 0, 1), (384, .iload_n 3, 1), (385, .iconst 2, 1), (386, .iadd, 1), (387, .iaload, 1), (388, .invokevirtual 40, 3), (391, .if_icmp .eq 837, 3), (394, .iconst 0, 1), (395, .ireturn, 1), (396, .aload_n 1, 1), (397, .aload_n 0, 1), (398, .iload_n 3, 1), (399, .iconst 1, 1), (400, .iadd, 1), (401, .iaload, 1)]
theorem dt_L_law_5 : ∀ q ∈ D_L_law_5, decode code q.1 = .ok (q.2.1, q.2.2) := by decide +kernel
def D_L_law_6 : List (Nat × Instr × Nat) := [(402, .invokevirtual 41, 3), (405, .aload_n 2, 1), (406, .aload_n 0, 1), (407, .iload_n 3, 1), (408, .iconst 1, 1), (409, .iadd, 1), (410, .iaload, 1), (411, .invokevirtual 44, 3), (414, .if_icmp .eq 814, 3), (417, .iconst 0, 1), (418, .ireturn, 1), (419, .aload_n 1, 1), (420, .aload_n 0, 1), (421, .iload_n 3, 1), (422, .iconst 1, 1), (423, .iadd, 1), (424, .iaload, 1), (425, .invokevirtual 45, 3), (428, .aload_n 2, 1), (429, .aload_n 0, 1), (430, .iload_n 3, 1), (431, .iconst 1, 1), (432, .iadd, 1), (433, .iaload, 1), (434, .invokevirtual 48, 3), (437, .if_icmp .eq 791, 3), (440, .iconst 0, 1), (441, .ireturn, 1), (442, .aload_n 1, 1), (443, .aload_n 0, 1)]
theorem dt_L_law_6 : ∀ q ∈ D_L_law_6, decode code q.1 = .ok (q.2.1, q.2.2) := by decide +kernel
def D_L_law_7 : List (Nat × Instr × Nat) := [(444, .iload_n 3, 1), (445, .iconst 1, 1), (446, .iadd, 1), (447, .iaload, 1), (448, .aload_n 0, 1), (449, .iload_n 3, 1), (450, .iconst 2, 1), (451, .iadd, 1), (452, .iaload, 1), (453, .aload_n 0, 1), (454, .iload_n 3, 1), (455, .iconst 3, 1), (456, .iadd, 1), (457, .iaload, 1), (458, .invokevirtual 49, 3), (461, .aload_n 2, 1), (462, .aload_n 0, 1), (463, .iload_n 3, 1), (464, .iconst 1, 1), (465, .iadd, 1), (466, .iaload, 1), (467, .aload_n 0, 1), (468, .iload_n 3, 1), (469, .iconst 2, 1), (470, .iadd, 1), (471, .iaload, 1), (472, .aload_n 0, 1), (473, .iload_n 3, 1), (474, .iconst 3, 1), (475, .iadd, 1)]
theorem dt_L_law_7 : ∀ q ∈ D_L_law_7, decode code q.1 = .ok (q.2.1, q.2.2) := by decide +kernel
def D_L_law_8 : List (Nat × Instr × Nat) := [(476, .iaload, 1), (477, .invokevirtual 53, 3), (480, .if_icmp .eq 748, 3), (483, .iconst 0, 1), (484, .ireturn, 1), (485, .aload_n 1, 1), (486, .aload_n 0, 1), (487, .iload_n 3, 1), (488, .iconst 1, 1), (489, .iadd, 1), (490, .iaload, 1), (491, .aload_n 0, 1), (492, .iload_n 3, 1), (493, .iconst 2, 1), (494, .iadd, 1), (495, .iaload, 1), (496, .aload_n 0, 1), (497, .iload_n 3, 1), (498, .iconst 3, 1), (499, .iadd, 1), (500, .iaload, 1), (501, .aload_n 0, 1), (502, .iload_n 3, 1), (503, .iconst 4, 1), (504, .iadd, 1), (505, .iaload, 1), (506, .invokevirtual 54, 3), (509, .aload_n 2, 1), (510, .aload_n 0, 1), (511, .iload_n 3, 1)]
theorem dt_L_law_8 : ∀ q ∈ D_L_law_8, decode code q.1 = .ok (q.2.1, q.2.2) := by decide +kernel
def D_L_law_9 : List (Nat × Instr × Nat) := [(512, .iconst 1, 1), (513, .iadd, 1), (514, .iaload, 1), (515, .aload_n 0, 1), (516, .iload_n 3, 1), (517, .iconst 2, 1), (518, .iadd, 1), (519, .iaload, 1), (520, .aload_n 0, 1), (521, .iload_n 3, 1), (522, .iconst 3, 1), (523, .iadd, 1), (524, .iaload, 1), (525, .aload_n 0, 1), (526, .iload_n 3, 1), (527, .iconst 4, 1), (528, .iadd, 1), (529, .iaload, 1), (530, .invokevirtual 58, 3), (533, .if_icmp .eq 695, 3), (536, .iconst 0, 1), (537, .ireturn, 1), (538, .aload_n 1, 1), (539, .invokevirtual 59, 3), (542, .aload_n 2, 1), (543, .invokevirtual 62, 3), (546, .if_icmp .eq 682, 3), (549, .iconst 0, 1), (550, .ireturn, 1), (551, .aload_n 1, 1)]
theorem dt_L_law_9 : ∀ q ∈ D_L_law_9, decode code q.1 = .ok (q.2.1, q.2.2) := by decide +kernel
def D_L_law_10 : List (Nat × Instr × Nat) := [(552, .invokevirtual 63, 3), (555, .aload_n 2, 1), (556, .invokevirtual 67, 3), (559, .if_icmp .eq 669, 3), (562, .iconst 0, 1), (563, .ireturn, 1), (564, .aload_n 1, 1), (565, .invokevirtual 68, 3), (568, .aload_n 2, 1), (569, .invokevirtual 71, 3), (572, .if_icmp .eq 656, 3), (575, .iconst 0, 1), (576, .ireturn, 1), (577, .aload_n 1, 1), (578, .aload_n 0, 1), (579, .iload_n 3, 1), (580, .iconst 1, 1), (581, .iadd, 1), (582, .iaload, 1), (583, .aload_n 0, 1), (584, .iload_n 3, 1), (585, .iconst 2, 1), (586, .iadd, 1), (587, .iaload, 1), (588, .invokevirtual 72, 3), (591, .aload_n 2, 1), (592, .aload_n 0, 1), (593, .iload_n 3, 1), (594, .iconst 1, 1), (595, .iadd, 1)]
theorem dt_L_law_10 : ∀ q ∈ D_L_law_10, decode code q.1 = .ok (q.2.1, q.2.2) := by decide +kernel
def D_L_law_11 : List (Nat × Instr × Nat) := [(596, .iaload, 1), (597, .aload_n 0, 1), (598, .iload_n 3, 1), (599, .iconst 2, 1), (600, .iadd, 1), (601, .iaload, 1), (602, .invokevirtual 75, 3), (605, .if_icmp .eq 623, 3), (608, .iconst 0, 1), (609, .ireturn, 1), (610, .aload_n 1, 1), (611, .aload_n 0, 1), (612, .iload_n 3, 1), (613, .iconst 1, 1), (614, .iadd, 1), (615, .iaload, 1), (616, .aload_n 0, 1), (617, .iload_n 3, 1), (618, .iconst 2, 1), (619, .iadd, 1), (620, .iaload, 1), (621, .invokevirtual 76, 3), (624, .aload_n 2, 1), (625, .aload_n 0, 1), (626, .iload_n 3, 1), (627, .iconst 1, 1), (628, .iadd, 1), (629, .iaload, 1), (630, .aload_n 0, 1), (631, .iload_n 3, 1)]
theorem dt_L_law_11 : ∀ q ∈ D_L_law_11, decode code q.1 = .ok (q.2.1, q.2.2) := by decide +kernel
def D_L_law_12 : List (Nat × Instr × Nat) := [(632, .iconst 2, 1), (633, .iadd, 1), (634, .iaload, 1), (635, .invokevirtual 79, 3), (638, .if_icmp .eq 590, 3), (641, .iconst 0, 1), (642, .ireturn, 1), (643, .aload_n 1, 1), (644, .invokevirtual 80, 3), (647, .aload_n 2, 1), (648, .invokevirtual 83, 3), (651, .if_icmp .eq 577, 3), (654, .iconst 0, 1), (655, .ireturn, 1), (656, .aload_n 1, 1), (657, .invokevirtual 84, 3), (660, .aload_n 2, 1), (661, .invokevirtual 87, 3), (664, .if_icmp .eq 564, 3), (667, .iconst 0, 1), (668, .ireturn, 1), (669, .aload_n 1, 1), (670, .invokevirtual 88, 3), (673, .aload_n 2, 1), (674, .invokevirtual 91, 3), (677, .if_icmp .eq 551, 3), (680, .iconst 0, 1), (681, .ireturn, 1), (682, .aload_n 1, 1), (683, .aload_n 0, 1)]
theorem dt_L_law_12 : ∀ q ∈ D_L_law_12, decode code q.1 = .ok (q.2.1, q.2.2) := by decide +kernel
def D_L_law_13 : List (Nat × Instr × Nat) := [(684, .iload_n 3, 1), (685, .iconst 1, 1), (686, .iadd, 1), (687, .iaload, 1), (688, .aload_n 0, 1), (689, .iload_n 3, 1), (690, .iconst 2, 1), (691, .iadd, 1), (692, .iaload, 1), (693, .aload_n 0, 1), (694, .iload_n 3, 1), (695, .iconst 3, 1), (696, .iadd, 1), (697, .iaload, 1), (698, .invokevirtual 92, 3), (701, .aload_n 2, 1), (702, .aload_n 0, 1), (703, .iload_n 3, 1), (704, .iconst 1, 1), (705, .iadd, 1), (706, .iaload, 1), (707, .aload_n 0, 1), (708, .iload_n 3, 1), (709, .iconst 2, 1), (710, .iadd, 1), (711, .iaload, 1), (712, .aload_n 0, 1), (713, .iload_n 3, 1), (714, .iconst 3, 1), (715, .iadd, 1)]
theorem dt_L_law_13 : ∀ q ∈ D_L_law_13, decode code q.1 = .ok (q.2.1, q.2.2) := by decide +kernel
def D_L_law_14 : List (Nat × Instr × Nat) := [(716, .iaload, 1), (717, .invokevirtual 95, 3), (720, .if_icmp .eq 508, 3), (723, .iconst 0, 1), (724, .ireturn, 1), (725, .aload_n 1, 1), (726, .aload_n 0, 1), (727, .iload_n 3, 1), (728, .iconst 1, 1), (729, .iadd, 1), (730, .iaload, 1), (731, .invokevirtual 96, 3), (734, .aload_n 2, 1), (735, .aload_n 0, 1), (736, .iload_n 3, 1), (737, .iconst 1, 1), (738, .iadd, 1), (739, .iaload, 1), (740, .invokevirtual 99, 3), (743, .if_icmp .eq 485, 3), (746, .iconst 0, 1), (747, .ireturn, 1), (748, .aload_n 1, 1), (749, .invokevirtual 100, 3), (752, .aload_n 2, 1), (753, .invokevirtual 103, 3), (756, .if_icmp .eq 472, 3), (759, .iconst 0, 1), (760, .ireturn, 1), (761, .aload_n 1, 1)]
theorem dt_L_law_14 : ∀ q ∈ D_L_law_14, decode code q.1 = .ok (q.2.1, q.2.2) := by decide +kernel
def D_L_law_15 : List (Nat × Instr × Nat) := [(762, .invokevirtual 104, 3), (765, .aload_n 2, 1), (766, .invokevirtual 107, 3), (769, .if_icmp .eq 459, 3), (772, .iconst 0, 1), (773, .ireturn, 1), (774, .aload_n 1, 1), (775, .aload_n 0, 1), (776, .iload_n 3, 1), (777, .iconst 1, 1), (778, .iadd, 1), (779, .iaload, 1), (780, .aload_n 0, 1), (781, .iload_n 3, 1), (782, .iconst 2, 1), (783, .iadd, 1), (784, .iaload, 1), (785, .invokevirtual 108, 3), (788, .aload_n 2, 1), (789, .aload_n 0, 1), (790, .iload_n 3, 1), (791, .iconst 1, 1), (792, .iadd, 1), (793, .iaload, 1), (794, .aload_n 0, 1), (795, .iload_n 3, 1), (796, .iconst 2, 1), (797, .iadd, 1), (798, .iaload, 1), (799, .invokevirtual 111, 3)]
theorem dt_L_law_15 : ∀ q ∈ D_L_law_15, decode code q.1 = .ok (q.2.1, q.2.2) := by decide +kernel
def D_L_law_16 : List (Nat × Instr × Nat) := [(802, .if_icmp .eq 426, 3), (805, .iconst 0, 1), (806, .ireturn, 1), (807, .aload_n 1, 1), (808, .aload_n 0, 1), (809, .iload_n 3, 1), (810, .iconst 1, 1), (811, .iadd, 1), (812, .iaload, 1), (813, .aload_n 0, 1), (814, .iload_n 3, 1), (815, .iconst 2, 1), (816, .iadd, 1), (817, .iaload, 1), (818, .invokevirtual 112, 3), (821, .aload_n 2, 1), (822, .aload_n 0, 1), (823, .iload_n 3, 1), (824, .iconst 1, 1), (825, .iadd, 1), (826, .iaload, 1), (827, .aload_n 0, 1), (828, .iload_n 3, 1), (829, .iconst 2, 1), (830, .iadd, 1), (831, .iaload, 1), (832, .invokevirtual 115, 3), (835, .if_icmp .eq 393, 3), (838, .iconst 0, 1), (839, .ireturn, 1)]
theorem dt_L_law_16 : ∀ q ∈ D_L_law_16, decode code q.1 = .ok (q.2.1, q.2.2) := by decide +kernel
def D_L_law_17 : List (Nat × Instr × Nat) := [(840, .aload_n 1, 1), (841, .aload_n 0, 1), (842, .iload_n 3, 1), (843, .iconst 1, 1), (844, .iadd, 1), (845, .iaload, 1), (846, .aload_n 0, 1), (847, .iload_n 3, 1), (848, .iconst 2, 1), (849, .iadd, 1), (850, .iaload, 1), (851, .invokevirtual 116, 3), (854, .aload_n 2, 1), (855, .aload_n 0, 1), (856, .iload_n 3, 1), (857, .iconst 1, 1), (858, .iadd, 1), (859, .iaload, 1), (860, .aload_n 0, 1), (861, .iload_n 3, 1), (862, .iconst 2, 1), (863, .iadd, 1), (864, .iaload, 1), (865, .invokevirtual 119, 3), (868, .if_icmp .eq 360, 3), (871, .iconst 0, 1), (872, .ireturn, 1), (873, .aload_n 1, 1), (874, .invokevirtual 120, 3), (877, .aload_n 2, 1)]
theorem dt_L_law_17 : ∀ q ∈ D_L_law_17, decode code q.1 = .ok (q.2.1, q.2.2) := by decide +kernel
def D_L_law_18 : List (Nat × Instr × Nat) := [(878, .invokevirtual 123, 3), (881, .if_icmp .eq 347, 3), (884, .iconst 0, 1), (885, .ireturn, 1), (886, .aload_n 1, 1), (887, .invokevirtual 124, 3), (890, .aload_n 2, 1), (891, .invokevirtual 127, 3), (894, .if_icmp .eq 334, 3), (897, .iconst 0, 1), (898, .ireturn, 1), (899, .aload_n 1, 1), (900, .aload_n 0, 1), (901, .iload_n 3, 1), (902, .iconst 1, 1), (903, .iadd, 1), (904, .iaload, 1), (905, .invokevirtual 128, 3), (908, .aload_n 2, 1), (909, .aload_n 0, 1), (910, .iload_n 3, 1), (911, .iconst 1, 1), (912, .iadd, 1), (913, .iaload, 1), (914, .invokevirtual 131, 3), (917, .if_icmp .eq 311, 3), (920, .iconst 0, 1), (921, .ireturn, 1), (922, .aload_n 1, 1), (923, .aload_n 0, 1)]
theorem dt_L_law_18 : ∀ q ∈ D_L_law_18, decode code q.1 = .ok (q.2.1, q.2.2) := by decide +kernel
def D_L_law_19 : List (Nat × Instr × Nat) := [(924, .iload_n 3, 1), (925, .iconst 1, 1), (926, .iadd, 1), (927, .iaload, 1), (928, .invokevirtual 132, 3), (931, .aload_n 2, 1), (932, .aload_n 0, 1), (933, .iload_n 3, 1), (934, .iconst 1, 1), (935, .iadd, 1), (936, .iaload, 1), (937, .invokevirtual 135, 3), (940, .if_icmp .eq 288, 3), (943, .iconst 0, 1), (944, .ireturn, 1), (945, .aload_n 1, 1), (946, .aload_n 0, 1), (947, .iload_n 3, 1), (948, .iconst 1, 1), (949, .iadd, 1), (950, .iaload, 1), (951, .aload_n 0, 1), (952, .iload_n 3, 1), (953, .iconst 2, 1), (954, .iadd, 1), (955, .iaload, 1), (956, .invokevirtual 136, 3), (959, .aload_n 2, 1), (960, .aload_n 0, 1), (961, .iload_n 3, 1)]
theorem dt_L_law_19 : ∀ q ∈ D_L_law_19, decode code q.1 = .ok (q.2.1, q.2.2) := by decide +kernel
def D_L_law_20 : List (Nat × Instr × Nat) := [(962, .iconst 1, 1), (963, .iadd, 1), (964, .iaload, 1), (965, .aload_n 0, 1), (966, .iload_n 3, 1), (967, .iconst 2, 1), (968, .iadd, 1), (969, .iaload, 1), (970, .invokevirtual 139, 3), (973, .if_icmp .eq 255, 3), (976, .iconst 0, 1), (977, .ireturn, 1), (978, .aload_n 1, 1), (979, .aload_n 0, 1), (980, .iload_n 3, 1), (981, .iconst 1, 1), (982, .iadd, 1), (983, .iaload, 1), (984, .invokevirtual 140, 3), (987, .aload_n 2, 1), (988, .aload_n 0, 1), (989, .iload_n 3, 1), (990, .iconst 1, 1), (991, .iadd, 1), (992, .iaload, 1), (993, .invokevirtual 143, 3), (996, .if_icmp .eq 232, 3), (999, .iconst 0, 1), (1000, .ireturn, 1), (1001, .aload_n 1, 1)]
theorem dt_L_law_20 : ∀ q ∈ D_L_law_20, decode code q.1 = .ok (q.2.1, q.2.2) := by decide +kernel
def D_L_law_21 : List (Nat × Instr × Nat) := [(1002, .aload_n 0, 1), (1003, .iload_n 3, 1), (1004, .iconst 1, 1), (1005, .iadd, 1), (1006, .iaload, 1), (1007, .aload_n 0, 1), (1008, .iload_n 3, 1), (1009, .iconst 2, 1), (1010, .iadd, 1), (1011, .iaload, 1), (1012, .invokevirtual 144, 3), (1015, .aload_n 2, 1), (1016, .aload_n 0, 1), (1017, .iload_n 3, 1), (1018, .iconst 1, 1), (1019, .iadd, 1), (1020, .iaload, 1), (1021, .aload_n 0, 1), (1022, .iload_n 3, 1), (1023, .iconst 2, 1), (1024, .iadd, 1), (1025, .iaload, 1), (1026, .invokevirtual 147, 3), (1029, .if_icmp .eq 199, 3), (1032, .iconst 0, 1), (1033, .ireturn, 1), (1034, .aload_n 1, 1), (1035, .aload_n 0, 1), (1036, .iload_n 3, 1), (1037, .iconst 1, 1)]
theorem dt_L_law_21 : ∀ q ∈ D_L_law_21, decode code q.1 = .ok (q.2.1, q.2.2) := by decide +kernel
def D_L_law_22 : List (Nat × Instr × Nat) := [(1038, .iadd, 1), (1039, .iaload, 1), (1040, .invokevirtual 148, 3), (1043, .aload_n 2, 1), (1044, .aload_n 0, 1), (1045, .iload_n 3, 1), (1046, .iconst 1, 1), (1047, .iadd, 1), (1048, .iaload, 1), (1049, .invokevirtual 152, 3), (1052, .if_icmp .eq 176, 3), (1055, .iconst 0, 1), (1056, .ireturn, 1), (1057, .aload_n 1, 1), (1058, .aload_n 0, 1), (1059, .iload_n 3, 1), (1060, .iconst 1, 1), (1061, .iadd, 1), (1062, .iaload, 1), (1063, .invokevirtual 153, 3), (1066, .aload_n 2, 1), (1067, .aload_n 0, 1), (1068, .iload_n 3, 1), (1069, .iconst 1, 1), (1070, .iadd, 1), (1071, .iaload, 1), (1072, .invokevirtual 156, 3), (1075, .if_icmp .eq 153, 3), (1078, .iconst 0, 1), (1079, .ireturn, 1)]
theorem dt_L_law_22 : ∀ q ∈ D_L_law_22, decode code q.1 = .ok (q.2.1, q.2.2) := by decide +kernel
def D_L_law_23 : List (Nat × Instr × Nat) := [(1080, .aload_n 1, 1), (1081, .aload_n 0, 1), (1082, .iload_n 3, 1), (1083, .iconst 1, 1), (1084, .iadd, 1), (1085, .iaload, 1), (1086, .invokevirtual 157, 3), (1089, .aload_n 2, 1), (1090, .aload_n 0, 1), (1091, .iload_n 3, 1), (1092, .iconst 1, 1), (1093, .iadd, 1), (1094, .iaload, 1), (1095, .invokevirtual 160, 3), (1098, .if_icmp .eq 130, 3), (1101, .iconst 0, 1), (1102, .ireturn, 1), (1103, .aload_n 1, 1), (1104, .aload_n 0, 1), (1105, .iload_n 3, 1), (1106, .iconst 1, 1), (1107, .iadd, 1), (1108, .iaload, 1), (1109, .aload_n 0, 1), (1110, .iload_n 3, 1), (1111, .iconst 2, 1), (1112, .iadd, 1), (1113, .iaload, 1), (1114, .invokevirtual 161, 3), (1117, .aload_n 2, 1)]
theorem dt_L_law_23 : ∀ q ∈ D_L_law_23, decode code q.1 = .ok (q.2.1, q.2.2) := by decide +kernel
def D_L_law_24 : List (Nat × Instr × Nat) := [(1118, .aload_n 0, 1), (1119, .iload_n 3, 1), (1120, .iconst 1, 1), (1121, .iadd, 1), (1122, .iaload, 1), (1123, .aload_n 0, 1), (1124, .iload_n 3, 1), (1125, .iconst 2, 1), (1126, .iadd, 1), (1127, .iaload, 1), (1128, .invokevirtual 164, 3), (1131, .if_icmp .eq 97, 3), (1134, .iconst 0, 1), (1135, .ireturn, 1), (1136, .aload_n 1, 1), (1137, .aload_n 0, 1), (1138, .iload_n 3, 1), (1139, .iconst 1, 1), (1140, .iadd, 1), (1141, .iaload, 1), (1142, .invokevirtual 165, 3), (1145, .aload_n 2, 1), (1146, .aload_n 0, 1), (1147, .iload_n 3, 1), (1148, .iconst 1, 1), (1149, .iadd, 1), (1150, .iaload, 1), (1151, .invokevirtual 168, 3), (1154, .if_icmp .eq 74, 3), (1157, .iconst 0, 1)]
theorem dt_L_law_24 : ∀ q ∈ D_L_law_24, decode code q.1 = .ok (q.2.1, q.2.2) := by decide +kernel
def D_L_law_25 : List (Nat × Instr × Nat) := [(1158, .ireturn, 1), (1159, .aload_n 1, 1), (1160, .aload_n 0, 1), (1161, .iload_n 3, 1), (1162, .iconst 1, 1), (1163, .iadd, 1), (1164, .iaload, 1), (1165, .invokevirtual 169, 3), (1168, .aload_n 2, 1), (1169, .aload_n 0, 1), (1170, .iload_n 3, 1), (1171, .iconst 1, 1), (1172, .iadd, 1), (1173, .iaload, 1), (1174, .invokevirtual 172, 3), (1177, .if_icmp .eq 51, 3), (1180, .iconst 0, 1), (1181, .ireturn, 1), (1182, .aload_n 1, 1), (1183, .aload_n 0, 1), (1184, .iload_n 3, 1), (1185, .iconst 1, 1), (1186, .iadd, 1), (1187, .iaload, 1), (1188, .invokevirtual 173, 3), (1191, .aload_n 2, 1), (1192, .aload_n 0, 1), (1193, .iload_n 3, 1), (1194, .iconst 1, 1), (1195, .iadd, 1)]
theorem dt_L_law_25 : ∀ q ∈ D_L_law_25, decode code q.1 = .ok (q.2.1, q.2.2) := by decide +kernel
def D_L_law_26 : List (Nat × Instr × Nat) := [(1196, .iaload, 1), (1197, .invokevirtual 176, 3), (1200, .if_icmp .eq 28, 3), (1203, .iconst 0, 1), (1204, .ireturn, 1), (1205, .aload_n 1, 1), (1206, .aload_n 0, 1), (1207, .iload_n 3, 1), (1208, .iconst 1, 1), (1209, .iadd, 1), (1210, .iaload, 1), (1211, .invokevirtual 177, 3), (1214, .aload_n 2, 1), (1215, .aload_n 0, 1), (1216, .iload_n 3, 1), (1217, .iconst 1, 1), (1218, .iadd, 1), (1219, .iaload, 1), (1220, .invokevirtual 180, 3), (1223, .if_icmp .eq 5, 3), (1226, .iconst 0, 1), (1227, .ireturn, 1), (1228, .iinc 3 6, 3), (1231, .goto (-1213), 3), (1234, .iconst 1, 1), (1235, .ireturn, 1)]
theorem dt_L_law_26 : ∀ q ∈ D_L_law_26, decode code q.1 = .ok (q.2.1, q.2.2) := by decide +kernel
set_option maxRecDepth 100000 in
theorem dt_L_law_cat : D_L_law = [D_L_law_0, D_L_law_1, D_L_law_2, D_L_law_3, D_L_law_4, D_L_law_5, D_L_law_6, D_L_law_7, D_L_law_8, D_L_law_9, D_L_law_10, D_L_law_11, D_L_law_12, D_L_law_13, D_L_law_14, D_L_law_15, D_L_law_16, D_L_law_17, D_L_law_18, D_L_law_19, D_L_law_20, D_L_law_21, D_L_law_22, D_L_law_23, D_L_law_24, D_L_law_25, D_L_law_26].flatten := rfl
theorem dt_L_law : kDec code D_L_law := kDec_of (fun q hq => by
  rw [dt_L_law_cat, List.mem_flatten] at hq
  obtain ⟨l, hl, hq⟩ := hq
  simp only [List.mem_cons, List.not_mem_nil, or_false] at hl
  rcases hl with rfl | rfl | rfl | rfl | rfl | rfl | rfl | rfl | rfl | rfl | rfl | rfl | rfl | rfl | rfl | rfl | rfl | rfl | rfl | rfl | rfl | rfl | rfl | rfl | rfl | rfl | rfl
  · exact dt_L_law_0 q hq
  · exact dt_L_law_1 q hq
  · exact dt_L_law_2 q hq
  · exact dt_L_law_3 q hq
  · exact dt_L_law_4 q hq
  · exact dt_L_law_5 q hq
  · exact dt_L_law_6 q hq
  · exact dt_L_law_7 q hq
  · exact dt_L_law_8 q hq
  · exact dt_L_law_9 q hq
  · exact dt_L_law_10 q hq
  · exact dt_L_law_11 q hq
  · exact dt_L_law_12 q hq
  · exact dt_L_law_13 q hq
  · exact dt_L_law_14 q hq
  · exact dt_L_law_15 q hq
  · exact dt_L_law_16 q hq
  · exact dt_L_law_17 q hq
  · exact dt_L_law_18 q hq
  · exact dt_L_law_19 q hq
  · exact dt_L_law_20 q hq
  · exact dt_L_law_21 q hq
  · exact dt_L_law_22 q hq
  · exact dt_L_law_23 q hq
  · exact dt_L_law_24 q hq
  · exact dt_L_law_25 q hq
  · exact dt_L_law_26 q hq)
set_option maxRecDepth 100000 in
theorem sim_L_law {G : Gam} {S : KS} (hS : KExt 435 S) {b0 L : Nat} {xs : Nat → Int} (hX : kScr G b0 L xs) (M : KM) : Sim G Y_L_law (f_L_law L xs M) (kC 16 [some (VA b0), some (VR (some 0)), some (VR (some 382)), none] [] S M) (fun (q : Int × KM) => Sum.inr (some (VI q.1), S, q.2)) := by
  unfold f_L_law
  refine s_iconst (dt_L_law 8 _ _ _ rfl) rfl ?_
  refine s_istore_n (dt_L_law 9 _ _ _ rfl) rfl ?_
  refine s_bd (κ := (Sum.elim (fun (e82 : KM) => kC 269 [none, none, none, none] [] S e82) (Sum.elim (fun (e83 : KM) => kC 292 [none, none, none, none] [] S e83) (Sum.elim (fun (e84 : KM) => kC 305 [none, none, none, none] [] S e84) (Sum.elim (fun (e85 : KM) => kC 328 [none, none, none, none] [] S e85) (Sum.elim (fun (e86 : KM) => kC 361 [none, none, none, none] [] S e86) (Sum.elim (fun (e87 : KM) => kC 394 [none, none, none, none] [] S e87) (Sum.elim (fun (e88 : KM) => kC 417 [none, none, none, none] [] S e88) (Sum.elim (fun (e89 : KM) => kC 440 [none, none, none, none] [] S e89) (Sum.elim (fun (e90 : KM) => kC 483 [none, none, none, none] [] S e90) (Sum.elim (fun (e91 : KM) => kC 536 [none, none, none, none] [] S e91) (Sum.elim (fun (e92 : KM) => kC 549 [none, none, none, none] [] S e92) (Sum.elim (fun (e93 : KM) => kC 562 [none, none, none, none] [] S e93) (Sum.elim (fun (e94 : KM) => kC 575 [none, none, none, none] [] S e94) (Sum.elim (fun (e95 : KM) => kC 608 [none, none, none, none] [] S e95) (Sum.elim (fun (e96 : KM) => kC 641 [none, none, none, none] [] S e96) (Sum.elim (fun (e97 : KM) => kC 654 [none, none, none, none] [] S e97) (Sum.elim (fun (e98 : KM) => kC 667 [none, none, none, none] [] S e98) (Sum.elim (fun (e99 : KM) => kC 680 [none, none, none, none] [] S e99) (Sum.elim (fun (e100 : KM) => kC 723 [none, none, none, none] [] S e100) (Sum.elim (fun (e101 : KM) => kC 746 [none, none, none, none] [] S e101) (Sum.elim (fun (e102 : KM) => kC 759 [none, none, none, none] [] S e102) (Sum.elim (fun (e103 : KM) => kC 772 [none, none, none, none] [] S e103) (Sum.elim (fun (e104 : KM) => kC 805 [none, none, none, none] [] S e104) (Sum.elim (fun (e105 : KM) => kC 838 [none, none, none, none] [] S e105) (Sum.elim (fun (e106 : KM) => kC 871 [none, none, none, none] [] S e106) (Sum.elim (fun (e107 : KM) => kC 884 [none, none, none, none] [] S e107) (Sum.elim (fun (e108 : KM) => kC 897 [none, none, none, none] [] S e108) (Sum.elim (fun (e109 : KM) => kC 920 [none, none, none, none] [] S e109) (Sum.elim (fun (e110 : KM) => kC 943 [none, none, none, none] [] S e110) (Sum.elim (fun (e111 : KM) => kC 976 [none, none, none, none] [] S e111) (Sum.elim (fun (e112 : KM) => kC 999 [none, none, none, none] [] S e112) (Sum.elim (fun (e113 : KM) => kC 1032 [none, none, none, none] [] S e113) (Sum.elim (fun (e114 : KM) => kC 1055 [none, none, none, none] [] S e114) (Sum.elim (fun (e115 : KM) => kC 1078 [none, none, none, none] [] S e115) (Sum.elim (fun (e116 : KM) => kC 1101 [none, none, none, none] [] S e116) (Sum.elim (fun (e117 : KM) => kC 1134 [none, none, none, none] [] S e117) (Sum.elim (fun (e118 : KM) => kC 1157 [none, none, none, none] [] S e118) (Sum.elim (fun (e119 : KM) => kC 1180 [none, none, none, none] [] S e119) (Sum.elim (fun (e120 : KM) => kC 1203 [none, none, none, none] [] S e120) (Sum.elim (fun (e121 : KM) => kC 1226 [none, none, none, none] [] S e121) (fun (e122 : KM) => kC 1234 [none, none, none, none] [] S e122)))))))))))))))))))))))))))))))))))))))))) (s_mask [true, true, true, true] (s_while (c := fun s1 => kC 18 [some (VA b0), some (VR (some 0)), some (VR (some 382)), some (VI s1.1)] [] S s1.2) (fun s1 => ?_) ((0 : Int), M))) ?_
  · refine s_iload_n (dt_L_law 10 _ _ _ rfl) rfl ?_
    refine s_aloadA_n (dt_L_law 11 _ _ _ rfl) rfl ?_
    refine s_slen hX (dt_L_law 12 _ _ _ rfl) ?_
    refine s_bipush (dt_L_law 13 _ _ _ rfl) rfl ?_
    refine s_isub (dt_L_law 14 _ _ _ rfl) ?_
    refine s_if_icmp_gt (tgt := 1234) (dt_L_law 15 _ _ _ rfl) rfl ?_ ?_
    · refine s_aloadA_n (dt_L_law 16 _ _ _ rfl) rfl ?_
      refine s_iload_n (dt_L_law 17 _ _ _ rfl) rfl ?_
      refine s_sld hX (dt_L_law 18 _ _ _ rfl) ?_
      refine s_bipush (dt_L_law 19 _ _ _ rfl) rfl ?_
      refine s_iand (dt_L_law 20 _ _ _ rfl) ?_
      refine s_tcase (tgt := 208) (dt_L_law 21 _ _ _ rfl) rfl rfl rfl ?_ (fun h123 => ?_)
      · refine s_aload_n (dt_L_law 22 _ _ _ rfl) rfl ?_
        refine s_aloadA_n (dt_L_law 23 _ _ _ rfl) rfl ?_
        refine s_iload_n (dt_L_law 24 _ _ _ rfl) rfl ?_
        refine s_iconst (dt_L_law 25 _ _ _ rfl) rfl ?_
        refine s_iadd (dt_L_law 26 _ _ _ rfl) ?_
        refine s_sld hX (dt_L_law 27 _ _ _ rfl) ?_
        refine s_aloadA_n (dt_L_law 28 _ _ _ rfl) rfl ?_
        refine s_iload_n (dt_L_law 29 _ _ _ rfl) rfl ?_
        refine s_iconst (dt_L_law 30 _ _ _ rfl) rfl ?_
        refine s_iadd (dt_L_law 31 _ _ _ rfl) ?_
        refine s_sld hX (dt_L_law 32 _ _ _ rfl) ?_
        refine s_aloadA_n (dt_L_law 33 _ _ _ rfl) rfl ?_
        refine s_iload_n (dt_L_law 34 _ _ _ rfl) rfl ?_
        refine s_iconst (dt_L_law 35 _ _ _ rfl) rfl ?_
        refine s_iadd (dt_L_law 36 _ _ _ rfl) ?_
        refine s_sld hX (dt_L_law 37 _ _ _ rfl) ?_
        refine s_aloadA_n (dt_L_law 38 _ _ _ rfl) rfl ?_
        refine s_iload_n (dt_L_law 39 _ _ _ rfl) rfl ?_
        refine s_iconst (dt_L_law 40 _ _ _ rfl) rfl ?_
        refine s_iadd (dt_L_law 41 _ _ _ rfl) ?_
        refine s_sld hX (dt_L_law 42 _ _ _ rfl) ?_
        refine s_aloadA_n (dt_L_law 43 _ _ _ rfl) rfl ?_
        refine s_iload_n (dt_L_law 44 _ _ _ rfl) rfl ?_
        refine s_iconst (dt_L_law 45 _ _ _ rfl) rfl ?_
        refine s_iadd (dt_L_law 46 _ _ _ rfl) ?_
        refine s_sld hX (dt_L_law 47 _ _ _ rfl) ?_
        refine s_callO (y := y_X_feed) (Y' := Y_X_feed) (as := [VR (some 0), VI (xs (w32 (s1.1 + (1 : Int))).toNat), VI (xs (w32 (s1.1 + (2 : Int))).toNat), VI (xs (w32 (s1.1 + (3 : Int))).toNat), VI (xs (w32 (s1.1 + (4 : Int))).toNat), VI (xs (w32 (s1.1 + (5 : Int))).toNat)]) (r := fun q => some (VI q.1)) (M' := fun q => q.2) (kInvV (dt_L_law 48 _ _ _ rfl) kin_X_feed 0 rfl (sc_0 (kxt hS)) kse_X_feed rfl) kl_L_13 md_X_feed rfl rfl (fun q hq => c_X_feed (kxt hS) (xs (w32 (s1.1 + (1 : Int))).toNat) (xs (w32 (s1.1 + (2 : Int))).toNat) (xs (w32 (s1.1 + (3 : Int))).toNat) (xs (w32 (s1.1 + (4 : Int))).toNat) (xs (w32 (s1.1 + (5 : Int))).toNat) s1.2 q hq) (fun q2 => ?_)
        refine s_aload_n (dt_L_law 49 _ _ _ rfl) rfl ?_
        refine s_aloadA_n (dt_L_law 50 _ _ _ rfl) rfl ?_
        refine s_iload_n (dt_L_law 51 _ _ _ rfl) rfl ?_
        refine s_iconst (dt_L_law 52 _ _ _ rfl) rfl ?_
        refine s_iadd (dt_L_law 53 _ _ _ rfl) ?_
        refine s_sld hX (dt_L_law 54 _ _ _ rfl) ?_
        refine s_aloadA_n (dt_L_law 55 _ _ _ rfl) rfl ?_
        refine s_iload_n (dt_L_law 56 _ _ _ rfl) rfl ?_
        refine s_iconst (dt_L_law 57 _ _ _ rfl) rfl ?_
        refine s_iadd (dt_L_law 58 _ _ _ rfl) ?_
        refine s_sld hX (dt_L_law 59 _ _ _ rfl) ?_
        refine s_aloadA_n (dt_L_law 60 _ _ _ rfl) rfl ?_
        refine s_iload_n (dt_L_law 61 _ _ _ rfl) rfl ?_
        refine s_iconst (dt_L_law 62 _ _ _ rfl) rfl ?_
        refine s_iadd (dt_L_law 63 _ _ _ rfl) ?_
        refine s_sld hX (dt_L_law 64 _ _ _ rfl) ?_
        refine s_aloadA_n (dt_L_law 65 _ _ _ rfl) rfl ?_
        refine s_iload_n (dt_L_law 66 _ _ _ rfl) rfl ?_
        refine s_iconst (dt_L_law 67 _ _ _ rfl) rfl ?_
        refine s_iadd (dt_L_law 68 _ _ _ rfl) ?_
        refine s_sld hX (dt_L_law 69 _ _ _ rfl) ?_
        refine s_aloadA_n (dt_L_law 70 _ _ _ rfl) rfl ?_
        refine s_iload_n (dt_L_law 71 _ _ _ rfl) rfl ?_
        refine s_iconst (dt_L_law 72 _ _ _ rfl) rfl ?_
        refine s_iadd (dt_L_law 73 _ _ _ rfl) ?_
        refine s_sld hX (dt_L_law 74 _ _ _ rfl) ?_
        refine s_callO (y := y_M_feed) (Y' := Y_M_feed) (as := [VR (some 382), VI (xs (w32 (s1.1 + (1 : Int))).toNat), VI (xs (w32 (s1.1 + (2 : Int))).toNat), VI (xs (w32 (s1.1 + (3 : Int))).toNat), VI (xs (w32 (s1.1 + (4 : Int))).toNat), VI (xs (w32 (s1.1 + (5 : Int))).toNat)]) (r := fun q => some (VI q.1)) (M' := fun q => q.2) (kInvV (dt_L_law 75 _ _ _ rfl) kin_M_feed 1 rfl (sc_382 hS) kse_M_feed rfl) kl_L_17 md_M_feed rfl rfl (fun q hq => c_M_feed hS (xs (w32 (s1.1 + (1 : Int))).toNat) (xs (w32 (s1.1 + (2 : Int))).toNat) (xs (w32 (s1.1 + (3 : Int))).toNat) (xs (w32 (s1.1 + (4 : Int))).toNat) (xs (w32 (s1.1 + (5 : Int))).toNat) q2.2 q hq) (fun q3 => ?_)
        refine s_if_icmp_eq (tgt := 1228) (dt_L_law 76 _ _ _ rfl) rfl ?_ ?_
        · refine s_iinc (dt_L_law 802 _ _ _ rfl) rfl rfl ?_
          refine s_goto (tgt := 18) (dt_L_law 803 _ _ _ rfl) rfl ?_
          exact s_mask [true, true, true, true] (s_ret0 rfl)
        · exact s_mask [false, false, false, false] (s_ret0 rfl)
      refine s_tcase (tgt := 271) (dt_L_law 21 _ _ _ rfl) rfl rfl rfl ?_ (fun h124 => ?_)
      · refine s_aload_n (dt_L_law 79 _ _ _ rfl) rfl ?_
        refine s_aloadA_n (dt_L_law 80 _ _ _ rfl) rfl ?_
        refine s_iload_n (dt_L_law 81 _ _ _ rfl) rfl ?_
        refine s_iconst (dt_L_law 82 _ _ _ rfl) rfl ?_
        refine s_iadd (dt_L_law 83 _ _ _ rfl) ?_
        refine s_sld hX (dt_L_law 84 _ _ _ rfl) ?_
        refine s_callO (y := y_X_end) (Y' := Y_X_end) (as := [VR (some 0), VI (xs (w32 (s1.1 + (1 : Int))).toNat)]) (r := fun q => some (VI q.1)) (M' := fun q => q.2) (kInvV (dt_L_law 85 _ _ _ rfl) kin_X_end 0 rfl (sc_0 (kxt hS)) kse_X_end rfl) kl_L_18 md_X_end rfl rfl (fun q hq => c_X_end (kxt hS) (xs (w32 (s1.1 + (1 : Int))).toNat) s1.2 q hq) (fun q4 => ?_)
        refine s_aload_n (dt_L_law 86 _ _ _ rfl) rfl ?_
        refine s_aloadA_n (dt_L_law 87 _ _ _ rfl) rfl ?_
        refine s_iload_n (dt_L_law 88 _ _ _ rfl) rfl ?_
        refine s_iconst (dt_L_law 89 _ _ _ rfl) rfl ?_
        refine s_iadd (dt_L_law 90 _ _ _ rfl) ?_
        refine s_sld hX (dt_L_law 91 _ _ _ rfl) ?_
        refine s_callO (y := y_M_end) (Y' := Y_M_end) (as := [VR (some 382), VI (xs (w32 (s1.1 + (1 : Int))).toNat)]) (r := fun q => some (VI q.1)) (M' := fun q => q.2) (kInvV (dt_L_law 92 _ _ _ rfl) kin_M_end 1 rfl (sc_382 hS) kse_M_end rfl) kl_L_22 md_M_end rfl rfl (fun q hq => c_M_end hS (xs (w32 (s1.1 + (1 : Int))).toNat) q4.2 q hq) (fun q5 => ?_)
        refine s_if_icmp_eq (tgt := 1228) (dt_L_law 93 _ _ _ rfl) rfl ?_ ?_
        · refine s_iinc (dt_L_law 802 _ _ _ rfl) rfl rfl ?_
          refine s_goto (tgt := 18) (dt_L_law 803 _ _ _ rfl) rfl ?_
          exact s_mask [true, true, true, true] (s_ret0 rfl)
        · exact s_mask [false, false, false, false] (s_ret0 rfl)
      refine s_tcase (tgt := 294) (dt_L_law 21 _ _ _ rfl) rfl rfl rfl ?_ (fun h125 => ?_)
      · refine s_aload_n (dt_L_law 96 _ _ _ rfl) rfl ?_
        refine s_callO (y := y_X_town) (Y' := Y_X_town) (as := [VR (some 0)]) (r := fun q => some (VI q.1)) (M' := fun q => q.2) (kInvV (dt_L_law 97 _ _ _ rfl) kin_X_town 0 rfl (sc_0 (kxt hS)) kse_X_town rfl) kl_L_23 md_X_town rfl rfl (fun q hq => c_X_town (kxt hS) s1.2 q hq) (fun q6 => ?_)
        refine s_aload_n (dt_L_law 98 _ _ _ rfl) rfl ?_
        refine s_callO (y := y_M_town) (Y' := Y_M_town) (as := [VR (some 382)]) (r := fun q => some (VI q.1)) (M' := fun q => q.2) (kInvV (dt_L_law 99 _ _ _ rfl) kin_M_town 1 rfl (sc_382 hS) kse_M_town rfl) kl_L_27 md_M_town rfl rfl (fun q hq => c_M_town hS q6.2 q hq) (fun q7 => ?_)
        refine s_if_icmp_eq (tgt := 1228) (dt_L_law 100 _ _ _ rfl) rfl ?_ ?_
        · refine s_iinc (dt_L_law 802 _ _ _ rfl) rfl rfl ?_
          refine s_goto (tgt := 18) (dt_L_law 803 _ _ _ rfl) rfl ?_
          exact s_mask [true, true, true, true] (s_ret0 rfl)
        · exact s_mask [false, false, false, false] (s_ret0 rfl)
      refine s_tcase (tgt := 307) (dt_L_law 21 _ _ _ rfl) rfl rfl rfl ?_ (fun h126 => ?_)
      · refine s_aload_n (dt_L_law 103 _ _ _ rfl) rfl ?_
        refine s_aloadA_n (dt_L_law 104 _ _ _ rfl) rfl ?_
        refine s_iload_n (dt_L_law 105 _ _ _ rfl) rfl ?_
        refine s_iconst (dt_L_law 106 _ _ _ rfl) rfl ?_
        refine s_iadd (dt_L_law 107 _ _ _ rfl) ?_
        refine s_sld hX (dt_L_law 108 _ _ _ rfl) ?_
        refine s_callO (y := y_X_fault) (Y' := Y_X_fault) (as := [VR (some 0), VI (xs (w32 (s1.1 + (1 : Int))).toNat)]) (r := fun q => some (VI q)) (M' := fun q => s1.2) (kInvV (dt_L_law 109 _ _ _ rfl) kin_X_fault 0 rfl (sc_0 (kxt hS)) kse_X_fault rfl) kl_L_28 md_X_fault rfl rfl (fun q hq => c_X_fault (kxt hS) (xs (w32 (s1.1 + (1 : Int))).toNat) s1.2 q hq) (fun q8 => ?_)
        refine s_aload_n (dt_L_law 110 _ _ _ rfl) rfl ?_
        refine s_aloadA_n (dt_L_law 111 _ _ _ rfl) rfl ?_
        refine s_iload_n (dt_L_law 112 _ _ _ rfl) rfl ?_
        refine s_iconst (dt_L_law 113 _ _ _ rfl) rfl ?_
        refine s_iadd (dt_L_law 114 _ _ _ rfl) ?_
        refine s_sld hX (dt_L_law 115 _ _ _ rfl) ?_
        refine s_callO (y := y_M_fault) (Y' := Y_M_fault) (as := [VR (some 382), VI (xs (w32 (s1.1 + (1 : Int))).toNat)]) (r := fun q => some (VI q)) (M' := fun q => s1.2) (kInvV (dt_L_law 116 _ _ _ rfl) kin_M_fault 1 rfl (sc_382 hS) kse_M_fault rfl) kl_L_31 md_M_fault rfl rfl (fun q hq => c_M_fault hS (xs (w32 (s1.1 + (1 : Int))).toNat) s1.2 q hq) (fun q9 => ?_)
        refine s_if_icmp_eq (tgt := 1228) (dt_L_law 117 _ _ _ rfl) rfl ?_ ?_
        · refine s_iinc (dt_L_law 802 _ _ _ rfl) rfl rfl ?_
          refine s_goto (tgt := 18) (dt_L_law 803 _ _ _ rfl) rfl ?_
          exact s_mask [true, true, true, true] (s_ret0 rfl)
        · exact s_mask [false, false, false, false] (s_ret0 rfl)
      refine s_tcase (tgt := 330) (dt_L_law 21 _ _ _ rfl) rfl rfl rfl ?_ (fun h127 => ?_)
      · refine s_aload_n (dt_L_law 120 _ _ _ rfl) rfl ?_
        refine s_aloadA_n (dt_L_law 121 _ _ _ rfl) rfl ?_
        refine s_iload_n (dt_L_law 122 _ _ _ rfl) rfl ?_
        refine s_iconst (dt_L_law 123 _ _ _ rfl) rfl ?_
        refine s_iadd (dt_L_law 124 _ _ _ rfl) ?_
        refine s_sld hX (dt_L_law 125 _ _ _ rfl) ?_
        refine s_aloadA_n (dt_L_law 126 _ _ _ rfl) rfl ?_
        refine s_iload_n (dt_L_law 127 _ _ _ rfl) rfl ?_
        refine s_iconst (dt_L_law 128 _ _ _ rfl) rfl ?_
        refine s_iadd (dt_L_law 129 _ _ _ rfl) ?_
        refine s_sld hX (dt_L_law 130 _ _ _ rfl) ?_
        refine s_callO (y := y_X_person) (Y' := Y_X_person) (as := [VR (some 0), VI (xs (w32 (s1.1 + (1 : Int))).toNat), VI (xs (w32 (s1.1 + (2 : Int))).toNat)]) (r := fun q => some (VI q)) (M' := fun q => s1.2) (kInvV (dt_L_law 131 _ _ _ rfl) kin_X_person 0 rfl (sc_0 (kxt hS)) kse_X_person rfl) kl_L_32 md_X_person rfl rfl (fun q hq => c_X_person (kxt hS) (xs (w32 (s1.1 + (1 : Int))).toNat) (xs (w32 (s1.1 + (2 : Int))).toNat) s1.2 q hq) (fun q10 => ?_)
        refine s_aload_n (dt_L_law 132 _ _ _ rfl) rfl ?_
        refine s_aloadA_n (dt_L_law 133 _ _ _ rfl) rfl ?_
        refine s_iload_n (dt_L_law 134 _ _ _ rfl) rfl ?_
        refine s_iconst (dt_L_law 135 _ _ _ rfl) rfl ?_
        refine s_iadd (dt_L_law 136 _ _ _ rfl) ?_
        refine s_sld hX (dt_L_law 137 _ _ _ rfl) ?_
        refine s_aloadA_n (dt_L_law 138 _ _ _ rfl) rfl ?_
        refine s_iload_n (dt_L_law 139 _ _ _ rfl) rfl ?_
        refine s_iconst (dt_L_law 140 _ _ _ rfl) rfl ?_
        refine s_iadd (dt_L_law 141 _ _ _ rfl) ?_
        refine s_sld hX (dt_L_law 142 _ _ _ rfl) ?_
        refine s_callO (y := y_M_person) (Y' := Y_M_person) (as := [VR (some 382), VI (xs (w32 (s1.1 + (1 : Int))).toNat), VI (xs (w32 (s1.1 + (2 : Int))).toNat)]) (r := fun q => some (VI q)) (M' := fun q => s1.2) (kInvV (dt_L_law 143 _ _ _ rfl) kin_M_person 1 rfl (sc_382 hS) kse_M_person rfl) kl_L_36 md_M_person rfl rfl (fun q hq => c_M_person hS (xs (w32 (s1.1 + (1 : Int))).toNat) (xs (w32 (s1.1 + (2 : Int))).toNat) s1.2 q hq) (fun q11 => ?_)
        refine s_if_icmp_eq (tgt := 1228) (dt_L_law 144 _ _ _ rfl) rfl ?_ ?_
        · refine s_iinc (dt_L_law 802 _ _ _ rfl) rfl rfl ?_
          refine s_goto (tgt := 18) (dt_L_law 803 _ _ _ rfl) rfl ?_
          exact s_mask [true, true, true, true] (s_ret0 rfl)
        · exact s_mask [false, false, false, false] (s_ret0 rfl)
      refine s_tcase (tgt := 363) (dt_L_law 21 _ _ _ rfl) rfl rfl rfl ?_ (fun h128 => ?_)
      · refine s_aload_n (dt_L_law 147 _ _ _ rfl) rfl ?_
        refine s_aloadA_n (dt_L_law 148 _ _ _ rfl) rfl ?_
        refine s_iload_n (dt_L_law 149 _ _ _ rfl) rfl ?_
        refine s_iconst (dt_L_law 150 _ _ _ rfl) rfl ?_
        refine s_iadd (dt_L_law 151 _ _ _ rfl) ?_
        refine s_sld hX (dt_L_law 152 _ _ _ rfl) ?_
        refine s_aloadA_n (dt_L_law 153 _ _ _ rfl) rfl ?_
        refine s_iload_n (dt_L_law 154 _ _ _ rfl) rfl ?_
        refine s_iconst (dt_L_law 155 _ _ _ rfl) rfl ?_
        refine s_iadd (dt_L_law 156 _ _ _ rfl) ?_
        refine s_sld hX (dt_L_law 157 _ _ _ rfl) ?_
        refine s_callO (y := y_X_has) (Y' := Y_X_has) (as := [VR (some 0), VI (xs (w32 (s1.1 + (1 : Int))).toNat), VI (xs (w32 (s1.1 + (2 : Int))).toNat)]) (r := fun q => some (VI q.1)) (M' := fun q => q.2) (kInvV (dt_L_law 158 _ _ _ rfl) kin_X_has 0 rfl (sc_0 (kxt hS)) kse_X_has rfl) kl_L_37 md_X_has rfl rfl (fun q hq => c_X_has (kxt hS) (xs (w32 (s1.1 + (1 : Int))).toNat) (xs (w32 (s1.1 + (2 : Int))).toNat) s1.2 q hq) (fun q12 => ?_)
        refine s_aload_n (dt_L_law 159 _ _ _ rfl) rfl ?_
        refine s_aloadA_n (dt_L_law 160 _ _ _ rfl) rfl ?_
        refine s_iload_n (dt_L_law 161 _ _ _ rfl) rfl ?_
        refine s_iconst (dt_L_law 162 _ _ _ rfl) rfl ?_
        refine s_iadd (dt_L_law 163 _ _ _ rfl) ?_
        refine s_sld hX (dt_L_law 164 _ _ _ rfl) ?_
        refine s_aloadA_n (dt_L_law 165 _ _ _ rfl) rfl ?_
        refine s_iload_n (dt_L_law 166 _ _ _ rfl) rfl ?_
        refine s_iconst (dt_L_law 167 _ _ _ rfl) rfl ?_
        refine s_iadd (dt_L_law 168 _ _ _ rfl) ?_
        refine s_sld hX (dt_L_law 169 _ _ _ rfl) ?_
        refine s_callO (y := y_M_has) (Y' := Y_M_has) (as := [VR (some 382), VI (xs (w32 (s1.1 + (1 : Int))).toNat), VI (xs (w32 (s1.1 + (2 : Int))).toNat)]) (r := fun q => some (VI q.1)) (M' := fun q => q.2) (kInvV (dt_L_law 170 _ _ _ rfl) kin_M_has 1 rfl (sc_382 hS) kse_M_has rfl) kl_L_40 md_M_has rfl rfl (fun q hq => c_M_has hS (xs (w32 (s1.1 + (1 : Int))).toNat) (xs (w32 (s1.1 + (2 : Int))).toNat) q12.2 q hq) (fun q13 => ?_)
        refine s_if_icmp_eq (tgt := 1228) (dt_L_law 171 _ _ _ rfl) rfl ?_ ?_
        · refine s_iinc (dt_L_law 802 _ _ _ rfl) rfl rfl ?_
          refine s_goto (tgt := 18) (dt_L_law 803 _ _ _ rfl) rfl ?_
          exact s_mask [true, true, true, true] (s_ret0 rfl)
        · exact s_mask [false, false, false, false] (s_ret0 rfl)
      refine s_tcase (tgt := 396) (dt_L_law 21 _ _ _ rfl) rfl rfl rfl ?_ (fun h129 => ?_)
      · refine s_aload_n (dt_L_law 174 _ _ _ rfl) rfl ?_
        refine s_aloadA_n (dt_L_law 175 _ _ _ rfl) rfl ?_
        refine s_iload_n (dt_L_law 176 _ _ _ rfl) rfl ?_
        refine s_iconst (dt_L_law 177 _ _ _ rfl) rfl ?_
        refine s_iadd (dt_L_law 178 _ _ _ rfl) ?_
        refine s_sld hX (dt_L_law 179 _ _ _ rfl) ?_
        refine s_callO (y := y_X_odds) (Y' := Y_X_odds) (as := [VR (some 0), VI (xs (w32 (s1.1 + (1 : Int))).toNat)]) (r := fun q => some (VI q.1)) (M' := fun q => q.2) (kInvV (dt_L_law 180 _ _ _ rfl) kin_X_odds 0 rfl (sc_0 (kxt hS)) kse_X_odds rfl) kl_L_41 md_X_odds rfl rfl (fun q hq => c_X_odds (kxt hS) (xs (w32 (s1.1 + (1 : Int))).toNat) s1.2 q hq) (fun q14 => ?_)
        refine s_aload_n (dt_L_law 181 _ _ _ rfl) rfl ?_
        refine s_aloadA_n (dt_L_law 182 _ _ _ rfl) rfl ?_
        refine s_iload_n (dt_L_law 183 _ _ _ rfl) rfl ?_
        refine s_iconst (dt_L_law 184 _ _ _ rfl) rfl ?_
        refine s_iadd (dt_L_law 185 _ _ _ rfl) ?_
        refine s_sld hX (dt_L_law 186 _ _ _ rfl) ?_
        refine s_callO (y := y_M_odds) (Y' := Y_M_odds) (as := [VR (some 382), VI (xs (w32 (s1.1 + (1 : Int))).toNat)]) (r := fun q => some (VI q.1)) (M' := fun q => q.2) (kInvV (dt_L_law 187 _ _ _ rfl) kin_M_odds 1 rfl (sc_382 hS) kse_M_odds rfl) kl_L_44 md_M_odds rfl rfl (fun q hq => c_M_odds hS (xs (w32 (s1.1 + (1 : Int))).toNat) q14.2 q hq) (fun q15 => ?_)
        refine s_if_icmp_eq (tgt := 1228) (dt_L_law 188 _ _ _ rfl) rfl ?_ ?_
        · refine s_iinc (dt_L_law 802 _ _ _ rfl) rfl rfl ?_
          refine s_goto (tgt := 18) (dt_L_law 803 _ _ _ rfl) rfl ?_
          exact s_mask [true, true, true, true] (s_ret0 rfl)
        · exact s_mask [false, false, false, false] (s_ret0 rfl)
      refine s_tcase (tgt := 419) (dt_L_law 21 _ _ _ rfl) rfl rfl rfl ?_ (fun h130 => ?_)
      · refine s_aload_n (dt_L_law 191 _ _ _ rfl) rfl ?_
        refine s_aloadA_n (dt_L_law 192 _ _ _ rfl) rfl ?_
        refine s_iload_n (dt_L_law 193 _ _ _ rfl) rfl ?_
        refine s_iconst (dt_L_law 194 _ _ _ rfl) rfl ?_
        refine s_iadd (dt_L_law 195 _ _ _ rfl) ?_
        refine s_sld hX (dt_L_law 196 _ _ _ rfl) ?_
        refine s_callO (y := y_X_sum) (Y' := Y_X_sum) (as := [VR (some 0), VI (xs (w32 (s1.1 + (1 : Int))).toNat)]) (r := fun q => some (VI q)) (M' := fun q => s1.2) (kInvV (dt_L_law 197 _ _ _ rfl) kin_X_sum 0 rfl (sc_0 (kxt hS)) kse_X_sum rfl) kl_L_45 md_X_sum rfl rfl (fun q hq => c_X_sum (kxt hS) (xs (w32 (s1.1 + (1 : Int))).toNat) s1.2 q hq) (fun q16 => ?_)
        refine s_aload_n (dt_L_law 198 _ _ _ rfl) rfl ?_
        refine s_aloadA_n (dt_L_law 199 _ _ _ rfl) rfl ?_
        refine s_iload_n (dt_L_law 200 _ _ _ rfl) rfl ?_
        refine s_iconst (dt_L_law 201 _ _ _ rfl) rfl ?_
        refine s_iadd (dt_L_law 202 _ _ _ rfl) ?_
        refine s_sld hX (dt_L_law 203 _ _ _ rfl) ?_
        refine s_callO (y := y_M_sum) (Y' := Y_M_sum) (as := [VR (some 382), VI (xs (w32 (s1.1 + (1 : Int))).toNat)]) (r := fun q => some (VI q)) (M' := fun q => s1.2) (kInvV (dt_L_law 204 _ _ _ rfl) kin_M_sum 1 rfl (sc_382 hS) kse_M_sum rfl) kl_L_48 md_M_sum rfl rfl (fun q hq => c_M_sum hS (xs (w32 (s1.1 + (1 : Int))).toNat) s1.2 q hq) (fun q17 => ?_)
        refine s_if_icmp_eq (tgt := 1228) (dt_L_law 205 _ _ _ rfl) rfl ?_ ?_
        · refine s_iinc (dt_L_law 802 _ _ _ rfl) rfl rfl ?_
          refine s_goto (tgt := 18) (dt_L_law 803 _ _ _ rfl) rfl ?_
          exact s_mask [true, true, true, true] (s_ret0 rfl)
        · exact s_mask [false, false, false, false] (s_ret0 rfl)
      refine s_tcase (tgt := 442) (dt_L_law 21 _ _ _ rfl) rfl rfl rfl ?_ (fun h131 => ?_)
      · refine s_aload_n (dt_L_law 208 _ _ _ rfl) rfl ?_
        refine s_aloadA_n (dt_L_law 209 _ _ _ rfl) rfl ?_
        refine s_iload_n (dt_L_law 210 _ _ _ rfl) rfl ?_
        refine s_iconst (dt_L_law 211 _ _ _ rfl) rfl ?_
        refine s_iadd (dt_L_law 212 _ _ _ rfl) ?_
        refine s_sld hX (dt_L_law 213 _ _ _ rfl) ?_
        refine s_aloadA_n (dt_L_law 214 _ _ _ rfl) rfl ?_
        refine s_iload_n (dt_L_law 215 _ _ _ rfl) rfl ?_
        refine s_iconst (dt_L_law 216 _ _ _ rfl) rfl ?_
        refine s_iadd (dt_L_law 217 _ _ _ rfl) ?_
        refine s_sld hX (dt_L_law 218 _ _ _ rfl) ?_
        refine s_aloadA_n (dt_L_law 219 _ _ _ rfl) rfl ?_
        refine s_iload_n (dt_L_law 220 _ _ _ rfl) rfl ?_
        refine s_iconst (dt_L_law 221 _ _ _ rfl) rfl ?_
        refine s_iadd (dt_L_law 222 _ _ _ rfl) ?_
        refine s_sld hX (dt_L_law 223 _ _ _ rfl) ?_
        refine s_callO (y := y_X_give) (Y' := Y_X_give) (as := [VR (some 0), VI (xs (w32 (s1.1 + (1 : Int))).toNat), VI (xs (w32 (s1.1 + (2 : Int))).toNat), VI (xs (w32 (s1.1 + (3 : Int))).toNat)]) (r := fun q => some (VI q.1)) (M' := fun q => q.2) (kInvV (dt_L_law 224 _ _ _ rfl) kin_X_give 0 rfl (sc_0 (kxt hS)) kse_X_give rfl) kl_L_49 md_X_give rfl rfl (fun q hq => c_X_give (kxt hS) (xs (w32 (s1.1 + (1 : Int))).toNat) (xs (w32 (s1.1 + (2 : Int))).toNat) (xs (w32 (s1.1 + (3 : Int))).toNat) s1.2 q hq) (fun q18 => ?_)
        refine s_aload_n (dt_L_law 225 _ _ _ rfl) rfl ?_
        refine s_aloadA_n (dt_L_law 226 _ _ _ rfl) rfl ?_
        refine s_iload_n (dt_L_law 227 _ _ _ rfl) rfl ?_
        refine s_iconst (dt_L_law 228 _ _ _ rfl) rfl ?_
        refine s_iadd (dt_L_law 229 _ _ _ rfl) ?_
        refine s_sld hX (dt_L_law 230 _ _ _ rfl) ?_
        refine s_aloadA_n (dt_L_law 231 _ _ _ rfl) rfl ?_
        refine s_iload_n (dt_L_law 232 _ _ _ rfl) rfl ?_
        refine s_iconst (dt_L_law 233 _ _ _ rfl) rfl ?_
        refine s_iadd (dt_L_law 234 _ _ _ rfl) ?_
        refine s_sld hX (dt_L_law 235 _ _ _ rfl) ?_
        refine s_aloadA_n (dt_L_law 236 _ _ _ rfl) rfl ?_
        refine s_iload_n (dt_L_law 237 _ _ _ rfl) rfl ?_
        refine s_iconst (dt_L_law 238 _ _ _ rfl) rfl ?_
        refine s_iadd (dt_L_law 239 _ _ _ rfl) ?_
        refine s_sld hX (dt_L_law 240 _ _ _ rfl) ?_
        refine s_callO (y := y_M_give) (Y' := Y_M_give) (as := [VR (some 382), VI (xs (w32 (s1.1 + (1 : Int))).toNat), VI (xs (w32 (s1.1 + (2 : Int))).toNat), VI (xs (w32 (s1.1 + (3 : Int))).toNat)]) (r := fun q => some (VI q.1)) (M' := fun q => q.2) (kInvV (dt_L_law 241 _ _ _ rfl) kin_M_give 1 rfl (sc_382 hS) kse_M_give rfl) kl_L_53 md_M_give rfl rfl (fun q hq => c_M_give hS (xs (w32 (s1.1 + (1 : Int))).toNat) (xs (w32 (s1.1 + (2 : Int))).toNat) (xs (w32 (s1.1 + (3 : Int))).toNat) q18.2 q hq) (fun q19 => ?_)
        refine s_if_icmp_eq (tgt := 1228) (dt_L_law 242 _ _ _ rfl) rfl ?_ ?_
        · refine s_iinc (dt_L_law 802 _ _ _ rfl) rfl rfl ?_
          refine s_goto (tgt := 18) (dt_L_law 803 _ _ _ rfl) rfl ?_
          exact s_mask [true, true, true, true] (s_ret0 rfl)
        · exact s_mask [false, false, false, false] (s_ret0 rfl)
      refine s_tcase (tgt := 485) (dt_L_law 21 _ _ _ rfl) rfl rfl rfl ?_ (fun h132 => ?_)
      · refine s_aload_n (dt_L_law 245 _ _ _ rfl) rfl ?_
        refine s_aloadA_n (dt_L_law 246 _ _ _ rfl) rfl ?_
        refine s_iload_n (dt_L_law 247 _ _ _ rfl) rfl ?_
        refine s_iconst (dt_L_law 248 _ _ _ rfl) rfl ?_
        refine s_iadd (dt_L_law 249 _ _ _ rfl) ?_
        refine s_sld hX (dt_L_law 250 _ _ _ rfl) ?_
        refine s_aloadA_n (dt_L_law 251 _ _ _ rfl) rfl ?_
        refine s_iload_n (dt_L_law 252 _ _ _ rfl) rfl ?_
        refine s_iconst (dt_L_law 253 _ _ _ rfl) rfl ?_
        refine s_iadd (dt_L_law 254 _ _ _ rfl) ?_
        refine s_sld hX (dt_L_law 255 _ _ _ rfl) ?_
        refine s_aloadA_n (dt_L_law 256 _ _ _ rfl) rfl ?_
        refine s_iload_n (dt_L_law 257 _ _ _ rfl) rfl ?_
        refine s_iconst (dt_L_law 258 _ _ _ rfl) rfl ?_
        refine s_iadd (dt_L_law 259 _ _ _ rfl) ?_
        refine s_sld hX (dt_L_law 260 _ _ _ rfl) ?_
        refine s_aloadA_n (dt_L_law 261 _ _ _ rfl) rfl ?_
        refine s_iload_n (dt_L_law 262 _ _ _ rfl) rfl ?_
        refine s_iconst (dt_L_law 263 _ _ _ rfl) rfl ?_
        refine s_iadd (dt_L_law 264 _ _ _ rfl) ?_
        refine s_sld hX (dt_L_law 265 _ _ _ rfl) ?_
        refine s_callO (y := y_X_lend) (Y' := Y_X_lend) (as := [VR (some 0), VI (xs (w32 (s1.1 + (1 : Int))).toNat), VI (xs (w32 (s1.1 + (2 : Int))).toNat), VI (xs (w32 (s1.1 + (3 : Int))).toNat), VI (xs (w32 (s1.1 + (4 : Int))).toNat)]) (r := fun q => some (VI q.1)) (M' := fun q => q.2) (kInvV (dt_L_law 266 _ _ _ rfl) kin_X_lend 0 rfl (sc_0 (kxt hS)) kse_X_lend rfl) kl_L_54 md_X_lend rfl rfl (fun q hq => c_X_lend (kxt hS) (xs (w32 (s1.1 + (1 : Int))).toNat) (xs (w32 (s1.1 + (2 : Int))).toNat) (xs (w32 (s1.1 + (3 : Int))).toNat) (xs (w32 (s1.1 + (4 : Int))).toNat) s1.2 q hq) (fun q20 => ?_)
        refine s_aload_n (dt_L_law 267 _ _ _ rfl) rfl ?_
        refine s_aloadA_n (dt_L_law 268 _ _ _ rfl) rfl ?_
        refine s_iload_n (dt_L_law 269 _ _ _ rfl) rfl ?_
        refine s_iconst (dt_L_law 270 _ _ _ rfl) rfl ?_
        refine s_iadd (dt_L_law 271 _ _ _ rfl) ?_
        refine s_sld hX (dt_L_law 272 _ _ _ rfl) ?_
        refine s_aloadA_n (dt_L_law 273 _ _ _ rfl) rfl ?_
        refine s_iload_n (dt_L_law 274 _ _ _ rfl) rfl ?_
        refine s_iconst (dt_L_law 275 _ _ _ rfl) rfl ?_
        refine s_iadd (dt_L_law 276 _ _ _ rfl) ?_
        refine s_sld hX (dt_L_law 277 _ _ _ rfl) ?_
        refine s_aloadA_n (dt_L_law 278 _ _ _ rfl) rfl ?_
        refine s_iload_n (dt_L_law 279 _ _ _ rfl) rfl ?_
        refine s_iconst (dt_L_law 280 _ _ _ rfl) rfl ?_
        refine s_iadd (dt_L_law 281 _ _ _ rfl) ?_
        refine s_sld hX (dt_L_law 282 _ _ _ rfl) ?_
        refine s_aloadA_n (dt_L_law 283 _ _ _ rfl) rfl ?_
        refine s_iload_n (dt_L_law 284 _ _ _ rfl) rfl ?_
        refine s_iconst (dt_L_law 285 _ _ _ rfl) rfl ?_
        refine s_iadd (dt_L_law 286 _ _ _ rfl) ?_
        refine s_sld hX (dt_L_law 287 _ _ _ rfl) ?_
        refine s_callO (y := y_M_lend) (Y' := Y_M_lend) (as := [VR (some 382), VI (xs (w32 (s1.1 + (1 : Int))).toNat), VI (xs (w32 (s1.1 + (2 : Int))).toNat), VI (xs (w32 (s1.1 + (3 : Int))).toNat), VI (xs (w32 (s1.1 + (4 : Int))).toNat)]) (r := fun q => some (VI q.1)) (M' := fun q => q.2) (kInvV (dt_L_law 288 _ _ _ rfl) kin_M_lend 1 rfl (sc_382 hS) kse_M_lend rfl) kl_L_58 md_M_lend rfl rfl (fun q hq => c_M_lend hS (xs (w32 (s1.1 + (1 : Int))).toNat) (xs (w32 (s1.1 + (2 : Int))).toNat) (xs (w32 (s1.1 + (3 : Int))).toNat) (xs (w32 (s1.1 + (4 : Int))).toNat) q20.2 q hq) (fun q21 => ?_)
        refine s_if_icmp_eq (tgt := 1228) (dt_L_law 289 _ _ _ rfl) rfl ?_ ?_
        · refine s_iinc (dt_L_law 802 _ _ _ rfl) rfl rfl ?_
          refine s_goto (tgt := 18) (dt_L_law 803 _ _ _ rfl) rfl ?_
          exact s_mask [true, true, true, true] (s_ret0 rfl)
        · exact s_mask [false, false, false, false] (s_ret0 rfl)
      refine s_tcase (tgt := 538) (dt_L_law 21 _ _ _ rfl) rfl rfl rfl ?_ (fun h133 => ?_)
      · refine s_aload_n (dt_L_law 292 _ _ _ rfl) rfl ?_
        refine s_callO (y := y_X_year) (Y' := Y_X_year) (as := [VR (some 0)]) (r := fun q => some (VI q.1)) (M' := fun q => q.2) (kInvV (dt_L_law 293 _ _ _ rfl) kin_X_year 0 rfl (sc_0 (kxt hS)) kse_X_year rfl) kl_L_59 md_X_year rfl rfl (fun q hq => c_X_year (kxt hS) s1.2 q hq) (fun q22 => ?_)
        refine s_aload_n (dt_L_law 294 _ _ _ rfl) rfl ?_
        refine s_callO (y := y_M_year) (Y' := Y_M_year) (as := [VR (some 382)]) (r := fun q => some (VI q.1)) (M' := fun q => q.2) (kInvV (dt_L_law 295 _ _ _ rfl) kin_M_year 1 rfl (sc_382 hS) kse_M_year rfl) kl_L_62 md_M_year rfl rfl (fun q hq => c_M_year hS q22.2 q hq) (fun q23 => ?_)
        refine s_if_icmp_eq (tgt := 1228) (dt_L_law 296 _ _ _ rfl) rfl ?_ ?_
        · refine s_iinc (dt_L_law 802 _ _ _ rfl) rfl rfl ?_
          refine s_goto (tgt := 18) (dt_L_law 803 _ _ _ rfl) rfl ?_
          exact s_mask [true, true, true, true] (s_ret0 rfl)
        · exact s_mask [false, false, false, false] (s_ret0 rfl)
      refine s_tcase (tgt := 551) (dt_L_law 21 _ _ _ rfl) rfl rfl rfl ?_ (fun h134 => ?_)
      · refine s_aload_n (dt_L_law 299 _ _ _ rfl) rfl ?_
        refine s_callO (y := y_X_undo) (Y' := Y_X_undo) (as := [VR (some 0)]) (r := fun q => some (VI q.1)) (M' := fun q => q.2) (kInvV (dt_L_law 300 _ _ _ rfl) kin_X_undo 0 rfl (sc_0 (kxt hS)) kse_X_undo rfl) kl_L_63 md_X_undo rfl rfl (fun q hq => c_X_undo (kxt hS) s1.2 q hq) (fun q24 => ?_)
        refine s_aload_n (dt_L_law 301 _ _ _ rfl) rfl ?_
        refine s_callO (y := y_M_undo) (Y' := Y_M_undo) (as := [VR (some 382)]) (r := fun q => some (VI q.1)) (M' := fun q => q.2) (kInvV (dt_L_law 302 _ _ _ rfl) kin_M_undo 1 rfl (sc_382 hS) kse_M_undo rfl) kl_L_67 md_M_undo rfl rfl (fun q hq => c_M_undo hS q24.2 q hq) (fun q25 => ?_)
        refine s_if_icmp_eq (tgt := 1228) (dt_L_law 303 _ _ _ rfl) rfl ?_ ?_
        · refine s_iinc (dt_L_law 802 _ _ _ rfl) rfl rfl ?_
          refine s_goto (tgt := 18) (dt_L_law 803 _ _ _ rfl) rfl ?_
          exact s_mask [true, true, true, true] (s_ret0 rfl)
        · exact s_mask [false, false, false, false] (s_ret0 rfl)
      refine s_tcase (tgt := 564) (dt_L_law 21 _ _ _ rfl) rfl rfl rfl ?_ (fun h135 => ?_)
      · refine s_aload_n (dt_L_law 306 _ _ _ rfl) rfl ?_
        refine s_callO (y := y_X_redo) (Y' := Y_X_redo) (as := [VR (some 0)]) (r := fun q => some (VI q.1)) (M' := fun q => q.2) (kInvV (dt_L_law 307 _ _ _ rfl) kin_X_redo 0 rfl (sc_0 (kxt hS)) kse_X_redo rfl) kl_L_68 md_X_redo rfl rfl (fun q hq => c_X_redo (kxt hS) s1.2 q hq) (fun q26 => ?_)
        refine s_aload_n (dt_L_law 308 _ _ _ rfl) rfl ?_
        refine s_callO (y := y_M_redo) (Y' := Y_M_redo) (as := [VR (some 382)]) (r := fun q => some (VI q.1)) (M' := fun q => q.2) (kInvV (dt_L_law 309 _ _ _ rfl) kin_M_redo 1 rfl (sc_382 hS) kse_M_redo rfl) kl_L_71 md_M_redo rfl rfl (fun q hq => c_M_redo hS q26.2 q hq) (fun q27 => ?_)
        refine s_if_icmp_eq (tgt := 1228) (dt_L_law 310 _ _ _ rfl) rfl ?_ ?_
        · refine s_iinc (dt_L_law 802 _ _ _ rfl) rfl rfl ?_
          refine s_goto (tgt := 18) (dt_L_law 803 _ _ _ rfl) rfl ?_
          exact s_mask [true, true, true, true] (s_ret0 rfl)
        · exact s_mask [false, false, false, false] (s_ret0 rfl)
      refine s_tcase (tgt := 577) (dt_L_law 21 _ _ _ rfl) rfl rfl rfl ?_ (fun h136 => ?_)
      · refine s_aload_n (dt_L_law 313 _ _ _ rfl) rfl ?_
        refine s_aloadA_n (dt_L_law 314 _ _ _ rfl) rfl ?_
        refine s_iload_n (dt_L_law 315 _ _ _ rfl) rfl ?_
        refine s_iconst (dt_L_law 316 _ _ _ rfl) rfl ?_
        refine s_iadd (dt_L_law 317 _ _ _ rfl) ?_
        refine s_sld hX (dt_L_law 318 _ _ _ rfl) ?_
        refine s_aloadA_n (dt_L_law 319 _ _ _ rfl) rfl ?_
        refine s_iload_n (dt_L_law 320 _ _ _ rfl) rfl ?_
        refine s_iconst (dt_L_law 321 _ _ _ rfl) rfl ?_
        refine s_iadd (dt_L_law 322 _ _ _ rfl) ?_
        refine s_sld hX (dt_L_law 323 _ _ _ rfl) ?_
        refine s_callO (y := y_X_loan) (Y' := Y_X_loan) (as := [VR (some 0), VI (xs (w32 (s1.1 + (1 : Int))).toNat), VI (xs (w32 (s1.1 + (2 : Int))).toNat)]) (r := fun q => some (VI q)) (M' := fun q => s1.2) (kInvV (dt_L_law 324 _ _ _ rfl) kin_X_loan 0 rfl (sc_0 (kxt hS)) kse_X_loan rfl) kl_L_72 md_X_loan rfl rfl (fun q hq => c_X_loan (kxt hS) (xs (w32 (s1.1 + (1 : Int))).toNat) (xs (w32 (s1.1 + (2 : Int))).toNat) s1.2 q hq) (fun q28 => ?_)
        refine s_aload_n (dt_L_law 325 _ _ _ rfl) rfl ?_
        refine s_aloadA_n (dt_L_law 326 _ _ _ rfl) rfl ?_
        refine s_iload_n (dt_L_law 327 _ _ _ rfl) rfl ?_
        refine s_iconst (dt_L_law 328 _ _ _ rfl) rfl ?_
        refine s_iadd (dt_L_law 329 _ _ _ rfl) ?_
        refine s_sld hX (dt_L_law 330 _ _ _ rfl) ?_
        refine s_aloadA_n (dt_L_law 331 _ _ _ rfl) rfl ?_
        refine s_iload_n (dt_L_law 332 _ _ _ rfl) rfl ?_
        refine s_iconst (dt_L_law 333 _ _ _ rfl) rfl ?_
        refine s_iadd (dt_L_law 334 _ _ _ rfl) ?_
        refine s_sld hX (dt_L_law 335 _ _ _ rfl) ?_
        refine s_callO (y := y_M_loan) (Y' := Y_M_loan) (as := [VR (some 382), VI (xs (w32 (s1.1 + (1 : Int))).toNat), VI (xs (w32 (s1.1 + (2 : Int))).toNat)]) (r := fun q => some (VI q)) (M' := fun q => s1.2) (kInvV (dt_L_law 336 _ _ _ rfl) kin_M_loan 1 rfl (sc_382 hS) kse_M_loan rfl) kl_L_75 md_M_loan rfl rfl (fun q hq => c_M_loan hS (xs (w32 (s1.1 + (1 : Int))).toNat) (xs (w32 (s1.1 + (2 : Int))).toNat) s1.2 q hq) (fun q29 => ?_)
        refine s_if_icmp_eq (tgt := 1228) (dt_L_law 337 _ _ _ rfl) rfl ?_ ?_
        · refine s_iinc (dt_L_law 802 _ _ _ rfl) rfl rfl ?_
          refine s_goto (tgt := 18) (dt_L_law 803 _ _ _ rfl) rfl ?_
          exact s_mask [true, true, true, true] (s_ret0 rfl)
        · exact s_mask [false, false, false, false] (s_ret0 rfl)
      refine s_tcase (tgt := 610) (dt_L_law 21 _ _ _ rfl) rfl rfl rfl ?_ (fun h137 => ?_)
      · refine s_aload_n (dt_L_law 340 _ _ _ rfl) rfl ?_
        refine s_aloadA_n (dt_L_law 341 _ _ _ rfl) rfl ?_
        refine s_iload_n (dt_L_law 342 _ _ _ rfl) rfl ?_
        refine s_iconst (dt_L_law 343 _ _ _ rfl) rfl ?_
        refine s_iadd (dt_L_law 344 _ _ _ rfl) ?_
        refine s_sld hX (dt_L_law 345 _ _ _ rfl) ?_
        refine s_aloadA_n (dt_L_law 346 _ _ _ rfl) rfl ?_
        refine s_iload_n (dt_L_law 347 _ _ _ rfl) rfl ?_
        refine s_iconst (dt_L_law 348 _ _ _ rfl) rfl ?_
        refine s_iadd (dt_L_law 349 _ _ _ rfl) ?_
        refine s_sld hX (dt_L_law 350 _ _ _ rfl) ?_
        refine s_callO (y := y_X_target) (Y' := Y_X_target) (as := [VR (some 0), VI (xs (w32 (s1.1 + (1 : Int))).toNat), VI (xs (w32 (s1.1 + (2 : Int))).toNat)]) (r := fun q => some (VI q.1)) (M' := fun q => q.2) (kInvV (dt_L_law 351 _ _ _ rfl) kin_X_target 0 rfl (sc_0 (kxt hS)) kse_X_target rfl) kl_L_76 md_X_target rfl rfl (fun q hq => c_X_target (kxt hS) (xs (w32 (s1.1 + (1 : Int))).toNat) (xs (w32 (s1.1 + (2 : Int))).toNat) s1.2 q hq) (fun q30 => ?_)
        refine s_aload_n (dt_L_law 352 _ _ _ rfl) rfl ?_
        refine s_aloadA_n (dt_L_law 353 _ _ _ rfl) rfl ?_
        refine s_iload_n (dt_L_law 354 _ _ _ rfl) rfl ?_
        refine s_iconst (dt_L_law 355 _ _ _ rfl) rfl ?_
        refine s_iadd (dt_L_law 356 _ _ _ rfl) ?_
        refine s_sld hX (dt_L_law 357 _ _ _ rfl) ?_
        refine s_aloadA_n (dt_L_law 358 _ _ _ rfl) rfl ?_
        refine s_iload_n (dt_L_law 359 _ _ _ rfl) rfl ?_
        refine s_iconst (dt_L_law 360 _ _ _ rfl) rfl ?_
        refine s_iadd (dt_L_law 361 _ _ _ rfl) ?_
        refine s_sld hX (dt_L_law 362 _ _ _ rfl) ?_
        refine s_callO (y := y_M_target) (Y' := Y_M_target) (as := [VR (some 382), VI (xs (w32 (s1.1 + (1 : Int))).toNat), VI (xs (w32 (s1.1 + (2 : Int))).toNat)]) (r := fun q => some (VI q.1)) (M' := fun q => q.2) (kInvV (dt_L_law 363 _ _ _ rfl) kin_M_target 1 rfl (sc_382 hS) kse_M_target rfl) kl_L_79 md_M_target rfl rfl (fun q hq => c_M_target hS (xs (w32 (s1.1 + (1 : Int))).toNat) (xs (w32 (s1.1 + (2 : Int))).toNat) q30.2 q hq) (fun q31 => ?_)
        refine s_if_icmp_eq (tgt := 1228) (dt_L_law 364 _ _ _ rfl) rfl ?_ ?_
        · refine s_iinc (dt_L_law 802 _ _ _ rfl) rfl rfl ?_
          refine s_goto (tgt := 18) (dt_L_law 803 _ _ _ rfl) rfl ?_
          exact s_mask [true, true, true, true] (s_ret0 rfl)
        · exact s_mask [false, false, false, false] (s_ret0 rfl)
      refine s_tcase (tgt := 643) (dt_L_law 21 _ _ _ rfl) rfl rfl rfl ?_ (fun h138 => ?_)
      · refine s_aload_n (dt_L_law 367 _ _ _ rfl) rfl ?_
        refine s_callO (y := y_X_hush) (Y' := Y_X_hush) (as := [VR (some 0)]) (r := fun q => some (VI q.1)) (M' := fun q => q.2) (kInvV (dt_L_law 368 _ _ _ rfl) kin_X_hush 0 rfl (sc_0 (kxt hS)) kse_X_hush rfl) kl_L_80 md_X_hush rfl rfl (fun q hq => c_X_hush (kxt hS) s1.2 q hq) (fun q32 => ?_)
        refine s_aload_n (dt_L_law 369 _ _ _ rfl) rfl ?_
        refine s_callO (y := y_M_hush) (Y' := Y_M_hush) (as := [VR (some 382)]) (r := fun q => some (VI q.1)) (M' := fun q => q.2) (kInvV (dt_L_law 370 _ _ _ rfl) kin_M_hush 1 rfl (sc_382 hS) kse_M_hush rfl) kl_L_83 md_M_hush rfl rfl (fun q hq => c_M_hush hS q32.2 q hq) (fun q33 => ?_)
        refine s_if_icmp_eq (tgt := 1228) (dt_L_law 371 _ _ _ rfl) rfl ?_ ?_
        · refine s_iinc (dt_L_law 802 _ _ _ rfl) rfl rfl ?_
          refine s_goto (tgt := 18) (dt_L_law 803 _ _ _ rfl) rfl ?_
          exact s_mask [true, true, true, true] (s_ret0 rfl)
        · exact s_mask [false, false, false, false] (s_ret0 rfl)
      refine s_tcase (tgt := 656) (dt_L_law 21 _ _ _ rfl) rfl rfl rfl ?_ (fun h139 => ?_)
      · refine s_aload_n (dt_L_law 374 _ _ _ rfl) rfl ?_
        refine s_callO (y := y_X_cheapest) (Y' := Y_X_cheapest) (as := [VR (some 0)]) (r := fun q => some (VI q.1)) (M' := fun q => q.2) (kInvV (dt_L_law 375 _ _ _ rfl) kin_X_cheapest 0 rfl (sc_0 (kxt hS)) kse_X_cheapest rfl) kl_L_84 md_X_cheapest rfl rfl (fun q hq => c_X_cheapest (kxt hS) s1.2 q hq) (fun q34 => ?_)
        refine s_aload_n (dt_L_law 376 _ _ _ rfl) rfl ?_
        refine s_callO (y := y_M_cheapest) (Y' := Y_M_cheapest) (as := [VR (some 382)]) (r := fun q => some (VI q.1)) (M' := fun q => q.2) (kInvV (dt_L_law 377 _ _ _ rfl) kin_M_cheapest 1 rfl (sc_382 hS) kse_M_cheapest rfl) kl_L_87 md_M_cheapest rfl rfl (fun q hq => c_M_cheapest hS q34.2 q hq) (fun q35 => ?_)
        refine s_if_icmp_eq (tgt := 1228) (dt_L_law 378 _ _ _ rfl) rfl ?_ ?_
        · refine s_iinc (dt_L_law 802 _ _ _ rfl) rfl rfl ?_
          refine s_goto (tgt := 18) (dt_L_law 803 _ _ _ rfl) rfl ?_
          exact s_mask [true, true, true, true] (s_ret0 rfl)
        · exact s_mask [false, false, false, false] (s_ret0 rfl)
      refine s_tcase (tgt := 669) (dt_L_law 21 _ _ _ rfl) rfl rfl rfl ?_ (fun h140 => ?_)
      · refine s_aload_n (dt_L_law 381 _ _ _ rfl) rfl ?_
        refine s_callO (y := y_X_barred) (Y' := Y_X_barred) (as := [VR (some 0)]) (r := fun q => some (VI q.1)) (M' := fun q => q.2) (kInvV (dt_L_law 382 _ _ _ rfl) kin_X_barred 0 rfl (sc_0 (kxt hS)) kse_X_barred rfl) kl_L_88 md_X_barred rfl rfl (fun q hq => c_X_barred (kxt hS) s1.2 q hq) (fun q36 => ?_)
        refine s_aload_n (dt_L_law 383 _ _ _ rfl) rfl ?_
        refine s_callO (y := y_M_barred) (Y' := Y_M_barred) (as := [VR (some 382)]) (r := fun q => some (VI q.1)) (M' := fun q => q.2) (kInvV (dt_L_law 384 _ _ _ rfl) kin_M_barred 1 rfl (sc_382 hS) kse_M_barred rfl) kl_L_91 md_M_barred rfl rfl (fun q hq => c_M_barred hS q36.2 q hq) (fun q37 => ?_)
        refine s_if_icmp_eq (tgt := 1228) (dt_L_law 385 _ _ _ rfl) rfl ?_ ?_
        · refine s_iinc (dt_L_law 802 _ _ _ rfl) rfl rfl ?_
          refine s_goto (tgt := 18) (dt_L_law 803 _ _ _ rfl) rfl ?_
          exact s_mask [true, true, true, true] (s_ret0 rfl)
        · exact s_mask [false, false, false, false] (s_ret0 rfl)
      refine s_tcase (tgt := 682) (dt_L_law 21 _ _ _ rfl) rfl rfl rfl ?_ (fun h141 => ?_)
      · refine s_aload_n (dt_L_law 388 _ _ _ rfl) rfl ?_
        refine s_aloadA_n (dt_L_law 389 _ _ _ rfl) rfl ?_
        refine s_iload_n (dt_L_law 390 _ _ _ rfl) rfl ?_
        refine s_iconst (dt_L_law 391 _ _ _ rfl) rfl ?_
        refine s_iadd (dt_L_law 392 _ _ _ rfl) ?_
        refine s_sld hX (dt_L_law 393 _ _ _ rfl) ?_
        refine s_aloadA_n (dt_L_law 394 _ _ _ rfl) rfl ?_
        refine s_iload_n (dt_L_law 395 _ _ _ rfl) rfl ?_
        refine s_iconst (dt_L_law 396 _ _ _ rfl) rfl ?_
        refine s_iadd (dt_L_law 397 _ _ _ rfl) ?_
        refine s_sld hX (dt_L_law 398 _ _ _ rfl) ?_
        refine s_aloadA_n (dt_L_law 399 _ _ _ rfl) rfl ?_
        refine s_iload_n (dt_L_law 400 _ _ _ rfl) rfl ?_
        refine s_iconst (dt_L_law 401 _ _ _ rfl) rfl ?_
        refine s_iadd (dt_L_law 402 _ _ _ rfl) ?_
        refine s_sld hX (dt_L_law 403 _ _ _ rfl) ?_
        refine s_callO (y := y_X_reach) (Y' := Y_X_reach) (as := [VR (some 0), VI (xs (w32 (s1.1 + (1 : Int))).toNat), VI (xs (w32 (s1.1 + (2 : Int))).toNat), VI (xs (w32 (s1.1 + (3 : Int))).toNat)]) (r := fun q => some (VI q.1)) (M' := fun q => q.2) (kInvV (dt_L_law 404 _ _ _ rfl) kin_X_reach 0 rfl (sc_0 (kxt hS)) kse_X_reach rfl) kl_L_92 md_X_reach rfl rfl (fun q hq => c_X_reach (kxt hS) (xs (w32 (s1.1 + (1 : Int))).toNat) (xs (w32 (s1.1 + (2 : Int))).toNat) (xs (w32 (s1.1 + (3 : Int))).toNat) s1.2 q hq) (fun q38 => ?_)
        refine s_aload_n (dt_L_law 405 _ _ _ rfl) rfl ?_
        refine s_aloadA_n (dt_L_law 406 _ _ _ rfl) rfl ?_
        refine s_iload_n (dt_L_law 407 _ _ _ rfl) rfl ?_
        refine s_iconst (dt_L_law 408 _ _ _ rfl) rfl ?_
        refine s_iadd (dt_L_law 409 _ _ _ rfl) ?_
        refine s_sld hX (dt_L_law 410 _ _ _ rfl) ?_
        refine s_aloadA_n (dt_L_law 411 _ _ _ rfl) rfl ?_
        refine s_iload_n (dt_L_law 412 _ _ _ rfl) rfl ?_
        refine s_iconst (dt_L_law 413 _ _ _ rfl) rfl ?_
        refine s_iadd (dt_L_law 414 _ _ _ rfl) ?_
        refine s_sld hX (dt_L_law 415 _ _ _ rfl) ?_
        refine s_aloadA_n (dt_L_law 416 _ _ _ rfl) rfl ?_
        refine s_iload_n (dt_L_law 417 _ _ _ rfl) rfl ?_
        refine s_iconst (dt_L_law 418 _ _ _ rfl) rfl ?_
        refine s_iadd (dt_L_law 419 _ _ _ rfl) ?_
        refine s_sld hX (dt_L_law 420 _ _ _ rfl) ?_
        refine s_callO (y := y_M_reach) (Y' := Y_M_reach) (as := [VR (some 382), VI (xs (w32 (s1.1 + (1 : Int))).toNat), VI (xs (w32 (s1.1 + (2 : Int))).toNat), VI (xs (w32 (s1.1 + (3 : Int))).toNat)]) (r := fun q => some (VI q.1)) (M' := fun q => q.2) (kInvV (dt_L_law 421 _ _ _ rfl) kin_M_reach 1 rfl (sc_382 hS) kse_M_reach rfl) kl_L_95 md_M_reach rfl rfl (fun q hq => c_M_reach hS (xs (w32 (s1.1 + (1 : Int))).toNat) (xs (w32 (s1.1 + (2 : Int))).toNat) (xs (w32 (s1.1 + (3 : Int))).toNat) q38.2 q hq) (fun q39 => ?_)
        refine s_if_icmp_eq (tgt := 1228) (dt_L_law 422 _ _ _ rfl) rfl ?_ ?_
        · refine s_iinc (dt_L_law 802 _ _ _ rfl) rfl rfl ?_
          refine s_goto (tgt := 18) (dt_L_law 803 _ _ _ rfl) rfl ?_
          exact s_mask [true, true, true, true] (s_ret0 rfl)
        · exact s_mask [false, false, false, false] (s_ret0 rfl)
      refine s_tcase (tgt := 725) (dt_L_law 21 _ _ _ rfl) rfl rfl rfl ?_ (fun h142 => ?_)
      · refine s_aload_n (dt_L_law 425 _ _ _ rfl) rfl ?_
        refine s_aloadA_n (dt_L_law 426 _ _ _ rfl) rfl ?_
        refine s_iload_n (dt_L_law 427 _ _ _ rfl) rfl ?_
        refine s_iconst (dt_L_law 428 _ _ _ rfl) rfl ?_
        refine s_iadd (dt_L_law 429 _ _ _ rfl) ?_
        refine s_sld hX (dt_L_law 430 _ _ _ rfl) ?_
        refine s_callO (y := y_X_net) (Y' := Y_X_net) (as := [VR (some 0), VI (xs (w32 (s1.1 + (1 : Int))).toNat)]) (r := fun q => some (VI q.1)) (M' := fun q => q.2) (kInvV (dt_L_law 431 _ _ _ rfl) kin_X_net 0 rfl (sc_0 (kxt hS)) kse_X_net rfl) kl_L_96 md_X_net rfl rfl (fun q hq => c_X_net (kxt hS) (xs (w32 (s1.1 + (1 : Int))).toNat) s1.2 q hq) (fun q40 => ?_)
        refine s_aload_n (dt_L_law 432 _ _ _ rfl) rfl ?_
        refine s_aloadA_n (dt_L_law 433 _ _ _ rfl) rfl ?_
        refine s_iload_n (dt_L_law 434 _ _ _ rfl) rfl ?_
        refine s_iconst (dt_L_law 435 _ _ _ rfl) rfl ?_
        refine s_iadd (dt_L_law 436 _ _ _ rfl) ?_
        refine s_sld hX (dt_L_law 437 _ _ _ rfl) ?_
        refine s_callO (y := y_M_net) (Y' := Y_M_net) (as := [VR (some 382), VI (xs (w32 (s1.1 + (1 : Int))).toNat)]) (r := fun q => some (VI q.1)) (M' := fun q => q.2) (kInvV (dt_L_law 438 _ _ _ rfl) kin_M_net 1 rfl (sc_382 hS) kse_M_net rfl) kl_L_99 md_M_net rfl rfl (fun q hq => c_M_net hS (xs (w32 (s1.1 + (1 : Int))).toNat) q40.2 q hq) (fun q41 => ?_)
        refine s_if_icmp_eq (tgt := 1228) (dt_L_law 439 _ _ _ rfl) rfl ?_ ?_
        · refine s_iinc (dt_L_law 802 _ _ _ rfl) rfl rfl ?_
          refine s_goto (tgt := 18) (dt_L_law 803 _ _ _ rfl) rfl ?_
          exact s_mask [true, true, true, true] (s_ret0 rfl)
        · exact s_mask [false, false, false, false] (s_ret0 rfl)
      refine s_tcase (tgt := 748) (dt_L_law 21 _ _ _ rfl) rfl rfl rfl ?_ (fun h143 => ?_)
      · refine s_aload_n (dt_L_law 442 _ _ _ rfl) rfl ?_
        refine s_callO (y := y_X_payments) (Y' := Y_X_payments) (as := [VR (some 0)]) (r := fun q => some (VI q.1)) (M' := fun q => q.2) (kInvV (dt_L_law 443 _ _ _ rfl) kin_X_payments 0 rfl (sc_0 (kxt hS)) kse_X_payments rfl) kl_L_100 md_X_payments rfl rfl (fun q hq => c_X_payments (kxt hS) s1.2 q hq) (fun q42 => ?_)
        refine s_aload_n (dt_L_law 444 _ _ _ rfl) rfl ?_
        refine s_callO (y := y_M_payments) (Y' := Y_M_payments) (as := [VR (some 382)]) (r := fun q => some (VI q.1)) (M' := fun q => q.2) (kInvV (dt_L_law 445 _ _ _ rfl) kin_M_payments 1 rfl (sc_382 hS) kse_M_payments rfl) kl_L_103 md_M_payments rfl rfl (fun q hq => c_M_payments hS q42.2 q hq) (fun q43 => ?_)
        refine s_if_icmp_eq (tgt := 1228) (dt_L_law 446 _ _ _ rfl) rfl ?_ ?_
        · refine s_iinc (dt_L_law 802 _ _ _ rfl) rfl rfl ?_
          refine s_goto (tgt := 18) (dt_L_law 803 _ _ _ rfl) rfl ?_
          exact s_mask [true, true, true, true] (s_ret0 rfl)
        · exact s_mask [false, false, false, false] (s_ret0 rfl)
      refine s_tcase (tgt := 761) (dt_L_law 21 _ _ _ rfl) rfl rfl rfl ?_ (fun h144 => ?_)
      · refine s_aload_n (dt_L_law 449 _ _ _ rfl) rfl ?_
        refine s_callO (y := y_X_ring) (Y' := Y_X_ring) (as := [VR (some 0)]) (r := fun q => some (VI q.1)) (M' := fun q => q.2) (kInvV (dt_L_law 450 _ _ _ rfl) kin_X_ring 0 rfl (sc_0 (kxt hS)) kse_X_ring rfl) kl_L_104 md_X_ring rfl rfl (fun q hq => c_X_ring (kxt hS) s1.2 q hq) (fun q44 => ?_)
        refine s_aload_n (dt_L_law 451 _ _ _ rfl) rfl ?_
        refine s_callO (y := y_M_ring) (Y' := Y_M_ring) (as := [VR (some 382)]) (r := fun q => some (VI q)) (M' := fun q => q44.2) (kInvV (dt_L_law 452 _ _ _ rfl) kin_M_ring 1 rfl (sc_382 hS) kse_M_ring rfl) kl_L_107 md_M_ring rfl rfl (fun q hq => c_M_ring hS q44.2 q hq) (fun q45 => ?_)
        refine s_if_icmp_eq (tgt := 1228) (dt_L_law 453 _ _ _ rfl) rfl ?_ ?_
        · refine s_iinc (dt_L_law 802 _ _ _ rfl) rfl rfl ?_
          refine s_goto (tgt := 18) (dt_L_law 803 _ _ _ rfl) rfl ?_
          exact s_mask [true, true, true, true] (s_ret0 rfl)
        · exact s_mask [false, false, false, false] (s_ret0 rfl)
      refine s_tcase (tgt := 774) (dt_L_law 21 _ _ _ rfl) rfl rfl rfl ?_ (fun h145 => ?_)
      · refine s_aload_n (dt_L_law 456 _ _ _ rfl) rfl ?_
        refine s_aloadA_n (dt_L_law 457 _ _ _ rfl) rfl ?_
        refine s_iload_n (dt_L_law 458 _ _ _ rfl) rfl ?_
        refine s_iconst (dt_L_law 459 _ _ _ rfl) rfl ?_
        refine s_iadd (dt_L_law 460 _ _ _ rfl) ?_
        refine s_sld hX (dt_L_law 461 _ _ _ rfl) ?_
        refine s_aloadA_n (dt_L_law 462 _ _ _ rfl) rfl ?_
        refine s_iload_n (dt_L_law 463 _ _ _ rfl) rfl ?_
        refine s_iconst (dt_L_law 464 _ _ _ rfl) rfl ?_
        refine s_iadd (dt_L_law 465 _ _ _ rfl) ?_
        refine s_sld hX (dt_L_law 466 _ _ _ rfl) ?_
        refine s_callO (y := y_X_market) (Y' := Y_X_market) (as := [VR (some 0), VI (xs (w32 (s1.1 + (1 : Int))).toNat), VI (xs (w32 (s1.1 + (2 : Int))).toNat)]) (r := fun q => some (VI q)) (M' := fun q => s1.2) (kInvV (dt_L_law 467 _ _ _ rfl) kin_X_market 0 rfl (sc_0 (kxt hS)) kse_X_market rfl) kl_L_108 md_X_market rfl rfl (fun q hq => c_X_market (kxt hS) (xs (w32 (s1.1 + (1 : Int))).toNat) (xs (w32 (s1.1 + (2 : Int))).toNat) s1.2 q hq) (fun q46 => ?_)
        refine s_aload_n (dt_L_law 468 _ _ _ rfl) rfl ?_
        refine s_aloadA_n (dt_L_law 469 _ _ _ rfl) rfl ?_
        refine s_iload_n (dt_L_law 470 _ _ _ rfl) rfl ?_
        refine s_iconst (dt_L_law 471 _ _ _ rfl) rfl ?_
        refine s_iadd (dt_L_law 472 _ _ _ rfl) ?_
        refine s_sld hX (dt_L_law 473 _ _ _ rfl) ?_
        refine s_aloadA_n (dt_L_law 474 _ _ _ rfl) rfl ?_
        refine s_iload_n (dt_L_law 475 _ _ _ rfl) rfl ?_
        refine s_iconst (dt_L_law 476 _ _ _ rfl) rfl ?_
        refine s_iadd (dt_L_law 477 _ _ _ rfl) ?_
        refine s_sld hX (dt_L_law 478 _ _ _ rfl) ?_
        refine s_callO (y := y_M_market) (Y' := Y_M_market) (as := [VR (some 382), VI (xs (w32 (s1.1 + (1 : Int))).toNat), VI (xs (w32 (s1.1 + (2 : Int))).toNat)]) (r := fun q => some (VI q)) (M' := fun q => s1.2) (kInvV (dt_L_law 479 _ _ _ rfl) kin_M_market 1 rfl (sc_382 hS) kse_M_market rfl) kl_L_111 md_M_market rfl rfl (fun q hq => c_M_market hS (xs (w32 (s1.1 + (1 : Int))).toNat) (xs (w32 (s1.1 + (2 : Int))).toNat) s1.2 q hq) (fun q47 => ?_)
        refine s_if_icmp_eq (tgt := 1228) (dt_L_law 480 _ _ _ rfl) rfl ?_ ?_
        · refine s_iinc (dt_L_law 802 _ _ _ rfl) rfl rfl ?_
          refine s_goto (tgt := 18) (dt_L_law 803 _ _ _ rfl) rfl ?_
          exact s_mask [true, true, true, true] (s_ret0 rfl)
        · exact s_mask [false, false, false, false] (s_ret0 rfl)
      refine s_tcase (tgt := 807) (dt_L_law 21 _ _ _ rfl) rfl rfl rfl ?_ (fun h146 => ?_)
      · refine s_aload_n (dt_L_law 483 _ _ _ rfl) rfl ?_
        refine s_aloadA_n (dt_L_law 484 _ _ _ rfl) rfl ?_
        refine s_iload_n (dt_L_law 485 _ _ _ rfl) rfl ?_
        refine s_iconst (dt_L_law 486 _ _ _ rfl) rfl ?_
        refine s_iadd (dt_L_law 487 _ _ _ rfl) ?_
        refine s_sld hX (dt_L_law 488 _ _ _ rfl) ?_
        refine s_aloadA_n (dt_L_law 489 _ _ _ rfl) rfl ?_
        refine s_iload_n (dt_L_law 490 _ _ _ rfl) rfl ?_
        refine s_iconst (dt_L_law 491 _ _ _ rfl) rfl ?_
        refine s_iadd (dt_L_law 492 _ _ _ rfl) ?_
        refine s_sld hX (dt_L_law 493 _ _ _ rfl) ?_
        refine s_callO (y := y_X_rests) (Y' := Y_X_rests) (as := [VR (some 0), VI (xs (w32 (s1.1 + (1 : Int))).toNat), VI (xs (w32 (s1.1 + (2 : Int))).toNat)]) (r := fun q => some (VI q)) (M' := fun q => s1.2) (kInvV (dt_L_law 494 _ _ _ rfl) kin_X_rests 0 rfl (sc_0 (kxt hS)) kse_X_rests rfl) kl_L_112 md_X_rests rfl rfl (fun q hq => c_X_rests (kxt hS) (xs (w32 (s1.1 + (1 : Int))).toNat) (xs (w32 (s1.1 + (2 : Int))).toNat) s1.2 q hq) (fun q48 => ?_)
        refine s_aload_n (dt_L_law 495 _ _ _ rfl) rfl ?_
        refine s_aloadA_n (dt_L_law 496 _ _ _ rfl) rfl ?_
        refine s_iload_n (dt_L_law 497 _ _ _ rfl) rfl ?_
        refine s_iconst (dt_L_law 498 _ _ _ rfl) rfl ?_
        refine s_iadd (dt_L_law 499 _ _ _ rfl) ?_
        refine s_sld hX (dt_L_law 500 _ _ _ rfl) ?_
        refine s_aloadA_n (dt_L_law 501 _ _ _ rfl) rfl ?_
        refine s_iload_n (dt_L_law 502 _ _ _ rfl) rfl ?_
        refine s_iconst (dt_L_law 503 _ _ _ rfl) rfl ?_
        refine s_iadd (dt_L_law 504 _ _ _ rfl) ?_
        refine s_sld hX (dt_L_law 505 _ _ _ rfl) ?_
        refine s_callO (y := y_M_rests) (Y' := Y_M_rests) (as := [VR (some 382), VI (xs (w32 (s1.1 + (1 : Int))).toNat), VI (xs (w32 (s1.1 + (2 : Int))).toNat)]) (r := fun q => some (VI q)) (M' := fun q => s1.2) (kInvV (dt_L_law 506 _ _ _ rfl) kin_M_rests 1 rfl (sc_382 hS) kse_M_rests rfl) kl_L_115 md_M_rests rfl rfl (fun q hq => c_M_rests hS (xs (w32 (s1.1 + (1 : Int))).toNat) (xs (w32 (s1.1 + (2 : Int))).toNat) s1.2 q hq) (fun q49 => ?_)
        refine s_if_icmp_eq (tgt := 1228) (dt_L_law 507 _ _ _ rfl) rfl ?_ ?_
        · refine s_iinc (dt_L_law 802 _ _ _ rfl) rfl rfl ?_
          refine s_goto (tgt := 18) (dt_L_law 803 _ _ _ rfl) rfl ?_
          exact s_mask [true, true, true, true] (s_ret0 rfl)
        · exact s_mask [false, false, false, false] (s_ret0 rfl)
      refine s_tcase (tgt := 840) (dt_L_law 21 _ _ _ rfl) rfl rfl rfl ?_ (fun h147 => ?_)
      · refine s_aload_n (dt_L_law 510 _ _ _ rfl) rfl ?_
        refine s_aloadA_n (dt_L_law 511 _ _ _ rfl) rfl ?_
        refine s_iload_n (dt_L_law 512 _ _ _ rfl) rfl ?_
        refine s_iconst (dt_L_law 513 _ _ _ rfl) rfl ?_
        refine s_iadd (dt_L_law 514 _ _ _ rfl) ?_
        refine s_sld hX (dt_L_law 515 _ _ _ rfl) ?_
        refine s_aloadA_n (dt_L_law 516 _ _ _ rfl) rfl ?_
        refine s_iload_n (dt_L_law 517 _ _ _ rfl) rfl ?_
        refine s_iconst (dt_L_law 518 _ _ _ rfl) rfl ?_
        refine s_iadd (dt_L_law 519 _ _ _ rfl) ?_
        refine s_sld hX (dt_L_law 520 _ _ _ rfl) ?_
        refine s_callO (y := y_X_corner) (Y' := Y_X_corner) (as := [VR (some 0), VI (xs (w32 (s1.1 + (1 : Int))).toNat), VI (xs (w32 (s1.1 + (2 : Int))).toNat)]) (r := fun q => some (VI q)) (M' := fun q => s1.2) (kInvV (dt_L_law 521 _ _ _ rfl) kin_X_corner 0 rfl (sc_0 (kxt hS)) kse_X_corner rfl) kl_L_116 md_X_corner rfl rfl (fun q hq => c_X_corner (kxt hS) (xs (w32 (s1.1 + (1 : Int))).toNat) (xs (w32 (s1.1 + (2 : Int))).toNat) s1.2 q hq) (fun q50 => ?_)
        refine s_aload_n (dt_L_law 522 _ _ _ rfl) rfl ?_
        refine s_aloadA_n (dt_L_law 523 _ _ _ rfl) rfl ?_
        refine s_iload_n (dt_L_law 524 _ _ _ rfl) rfl ?_
        refine s_iconst (dt_L_law 525 _ _ _ rfl) rfl ?_
        refine s_iadd (dt_L_law 526 _ _ _ rfl) ?_
        refine s_sld hX (dt_L_law 527 _ _ _ rfl) ?_
        refine s_aloadA_n (dt_L_law 528 _ _ _ rfl) rfl ?_
        refine s_iload_n (dt_L_law 529 _ _ _ rfl) rfl ?_
        refine s_iconst (dt_L_law 530 _ _ _ rfl) rfl ?_
        refine s_iadd (dt_L_law 531 _ _ _ rfl) ?_
        refine s_sld hX (dt_L_law 532 _ _ _ rfl) ?_
        refine s_callO (y := y_M_corner) (Y' := Y_M_corner) (as := [VR (some 382), VI (xs (w32 (s1.1 + (1 : Int))).toNat), VI (xs (w32 (s1.1 + (2 : Int))).toNat)]) (r := fun q => some (VI q.1)) (M' := fun q => q.2) (kInvV (dt_L_law 533 _ _ _ rfl) kin_M_corner 1 rfl (sc_382 hS) kse_M_corner rfl) kl_L_119 md_M_corner rfl rfl (fun q hq => c_M_corner hS (xs (w32 (s1.1 + (1 : Int))).toNat) (xs (w32 (s1.1 + (2 : Int))).toNat) s1.2 q hq) (fun q51 => ?_)
        refine s_if_icmp_eq (tgt := 1228) (dt_L_law 534 _ _ _ rfl) rfl ?_ ?_
        · refine s_iinc (dt_L_law 802 _ _ _ rfl) rfl rfl ?_
          refine s_goto (tgt := 18) (dt_L_law 803 _ _ _ rfl) rfl ?_
          exact s_mask [true, true, true, true] (s_ret0 rfl)
        · exact s_mask [false, false, false, false] (s_ret0 rfl)
      refine s_tcase (tgt := 873) (dt_L_law 21 _ _ _ rfl) rfl rfl rfl ?_ (fun h148 => ?_)
      · refine s_aload_n (dt_L_law 537 _ _ _ rfl) rfl ?_
        refine s_callO (y := y_X_safest) (Y' := Y_X_safest) (as := [VR (some 0)]) (r := fun q => some (VI q.1)) (M' := fun q => q.2) (kInvV (dt_L_law 538 _ _ _ rfl) kin_X_safest 0 rfl (sc_0 (kxt hS)) kse_X_safest rfl) kl_L_120 md_X_safest rfl rfl (fun q hq => c_X_safest (kxt hS) s1.2 q hq) (fun q52 => ?_)
        refine s_aload_n (dt_L_law 539 _ _ _ rfl) rfl ?_
        refine s_callO (y := y_M_safest) (Y' := Y_M_safest) (as := [VR (some 382)]) (r := fun q => some (VI q.1)) (M' := fun q => q.2) (kInvV (dt_L_law 540 _ _ _ rfl) kin_M_safest 1 rfl (sc_382 hS) kse_M_safest rfl) kl_L_123 md_M_safest rfl rfl (fun q hq => c_M_safest hS q52.2 q hq) (fun q53 => ?_)
        refine s_if_icmp_eq (tgt := 1228) (dt_L_law 541 _ _ _ rfl) rfl ?_ ?_
        · refine s_iinc (dt_L_law 802 _ _ _ rfl) rfl rfl ?_
          refine s_goto (tgt := 18) (dt_L_law 803 _ _ _ rfl) rfl ?_
          exact s_mask [true, true, true, true] (s_ret0 rfl)
        · exact s_mask [false, false, false, false] (s_ret0 rfl)
      refine s_tcase (tgt := 886) (dt_L_law 21 _ _ _ rfl) rfl rfl rfl ?_ (fun h149 => ?_)
      · refine s_aload_n (dt_L_law 544 _ _ _ rfl) rfl ?_
        refine s_callO (y := y_X_bends) (Y' := Y_X_bends) (as := [VR (some 0)]) (r := fun q => some (VI q.1)) (M' := fun q => q.2) (kInvV (dt_L_law 545 _ _ _ rfl) kin_X_bends 0 rfl (sc_0 (kxt hS)) kse_X_bends rfl) kl_L_124 md_X_bends rfl rfl (fun q hq => c_X_bends (kxt hS) s1.2 q hq) (fun q54 => ?_)
        refine s_aload_n (dt_L_law 546 _ _ _ rfl) rfl ?_
        refine s_callO (y := y_M_bends) (Y' := Y_M_bends) (as := [VR (some 382)]) (r := fun q => some (VI q.1)) (M' := fun q => q.2) (kInvV (dt_L_law 547 _ _ _ rfl) kin_M_bends 1 rfl (sc_382 hS) kse_M_bends rfl) kl_L_127 md_M_bends rfl rfl (fun q hq => c_M_bends hS q54.2 q hq) (fun q55 => ?_)
        refine s_if_icmp_eq (tgt := 1228) (dt_L_law 548 _ _ _ rfl) rfl ?_ ?_
        · refine s_iinc (dt_L_law 802 _ _ _ rfl) rfl rfl ?_
          refine s_goto (tgt := 18) (dt_L_law 803 _ _ _ rfl) rfl ?_
          exact s_mask [true, true, true, true] (s_ret0 rfl)
        · exact s_mask [false, false, false, false] (s_ret0 rfl)
      refine s_tcase (tgt := 899) (dt_L_law 21 _ _ _ rfl) rfl rfl rfl ?_ (fun h150 => ?_)
      · refine s_aload_n (dt_L_law 551 _ _ _ rfl) rfl ?_
        refine s_aloadA_n (dt_L_law 552 _ _ _ rfl) rfl ?_
        refine s_iload_n (dt_L_law 553 _ _ _ rfl) rfl ?_
        refine s_iconst (dt_L_law 554 _ _ _ rfl) rfl ?_
        refine s_iadd (dt_L_law 555 _ _ _ rfl) ?_
        refine s_sld hX (dt_L_law 556 _ _ _ rfl) ?_
        refine s_callO (y := y_X_twice) (Y' := Y_X_twice) (as := [VR (some 0), VI (xs (w32 (s1.1 + (1 : Int))).toNat)]) (r := fun q => some (VI q.1)) (M' := fun q => q.2) (kInvV (dt_L_law 557 _ _ _ rfl) kin_X_twice 0 rfl (sc_0 (kxt hS)) kse_X_twice rfl) kl_L_128 md_X_twice rfl rfl (fun q hq => c_X_twice (kxt hS) (xs (w32 (s1.1 + (1 : Int))).toNat) s1.2 q hq) (fun q56 => ?_)
        refine s_aload_n (dt_L_law 558 _ _ _ rfl) rfl ?_
        refine s_aloadA_n (dt_L_law 559 _ _ _ rfl) rfl ?_
        refine s_iload_n (dt_L_law 560 _ _ _ rfl) rfl ?_
        refine s_iconst (dt_L_law 561 _ _ _ rfl) rfl ?_
        refine s_iadd (dt_L_law 562 _ _ _ rfl) ?_
        refine s_sld hX (dt_L_law 563 _ _ _ rfl) ?_
        refine s_callO (y := y_M_twice) (Y' := Y_M_twice) (as := [VR (some 382), VI (xs (w32 (s1.1 + (1 : Int))).toNat)]) (r := fun q => some (VI q.1)) (M' := fun q => q.2) (kInvV (dt_L_law 564 _ _ _ rfl) kin_M_twice 1 rfl (sc_382 hS) kse_M_twice rfl) kl_L_131 md_M_twice rfl rfl (fun q hq => c_M_twice hS (xs (w32 (s1.1 + (1 : Int))).toNat) q56.2 q hq) (fun q57 => ?_)
        refine s_if_icmp_eq (tgt := 1228) (dt_L_law 565 _ _ _ rfl) rfl ?_ ?_
        · refine s_iinc (dt_L_law 802 _ _ _ rfl) rfl rfl ?_
          refine s_goto (tgt := 18) (dt_L_law 803 _ _ _ rfl) rfl ?_
          exact s_mask [true, true, true, true] (s_ret0 rfl)
        · exact s_mask [false, false, false, false] (s_ret0 rfl)
      refine s_tcase (tgt := 922) (dt_L_law 21 _ _ _ rfl) rfl rfl rfl ?_ (fun h151 => ?_)
      · refine s_aload_n (dt_L_law 568 _ _ _ rfl) rfl ?_
        refine s_aloadA_n (dt_L_law 569 _ _ _ rfl) rfl ?_
        refine s_iload_n (dt_L_law 570 _ _ _ rfl) rfl ?_
        refine s_iconst (dt_L_law 571 _ _ _ rfl) rfl ?_
        refine s_iadd (dt_L_law 572 _ _ _ rfl) ?_
        refine s_sld hX (dt_L_law 573 _ _ _ rfl) ?_
        refine s_callO (y := y_X_fair) (Y' := Y_X_fair) (as := [VR (some 0), VI (xs (w32 (s1.1 + (1 : Int))).toNat)]) (r := fun q => some (VI q.1)) (M' := fun q => q.2) (kInvV (dt_L_law 574 _ _ _ rfl) kin_X_fair 0 rfl (sc_0 (kxt hS)) kse_X_fair rfl) kl_L_132 md_X_fair rfl rfl (fun q hq => c_X_fair (kxt hS) (xs (w32 (s1.1 + (1 : Int))).toNat) s1.2 q hq) (fun q58 => ?_)
        refine s_aload_n (dt_L_law 575 _ _ _ rfl) rfl ?_
        refine s_aloadA_n (dt_L_law 576 _ _ _ rfl) rfl ?_
        refine s_iload_n (dt_L_law 577 _ _ _ rfl) rfl ?_
        refine s_iconst (dt_L_law 578 _ _ _ rfl) rfl ?_
        refine s_iadd (dt_L_law 579 _ _ _ rfl) ?_
        refine s_sld hX (dt_L_law 580 _ _ _ rfl) ?_
        refine s_callO (y := y_M_fair) (Y' := Y_M_fair) (as := [VR (some 382), VI (xs (w32 (s1.1 + (1 : Int))).toNat)]) (r := fun q => some (VI q.1)) (M' := fun q => q.2) (kInvV (dt_L_law 581 _ _ _ rfl) kin_M_fair 1 rfl (sc_382 hS) kse_M_fair rfl) kl_L_135 md_M_fair rfl rfl (fun q hq => c_M_fair hS (xs (w32 (s1.1 + (1 : Int))).toNat) q58.2 q hq) (fun q59 => ?_)
        refine s_if_icmp_eq (tgt := 1228) (dt_L_law 582 _ _ _ rfl) rfl ?_ ?_
        · refine s_iinc (dt_L_law 802 _ _ _ rfl) rfl rfl ?_
          refine s_goto (tgt := 18) (dt_L_law 803 _ _ _ rfl) rfl ?_
          exact s_mask [true, true, true, true] (s_ret0 rfl)
        · exact s_mask [false, false, false, false] (s_ret0 rfl)
      refine s_tcase (tgt := 945) (dt_L_law 21 _ _ _ rfl) rfl rfl rfl ?_ (fun h152 => ?_)
      · refine s_aload_n (dt_L_law 585 _ _ _ rfl) rfl ?_
        refine s_aloadA_n (dt_L_law 586 _ _ _ rfl) rfl ?_
        refine s_iload_n (dt_L_law 587 _ _ _ rfl) rfl ?_
        refine s_iconst (dt_L_law 588 _ _ _ rfl) rfl ?_
        refine s_iadd (dt_L_law 589 _ _ _ rfl) ?_
        refine s_sld hX (dt_L_law 590 _ _ _ rfl) ?_
        refine s_aloadA_n (dt_L_law 591 _ _ _ rfl) rfl ?_
        refine s_iload_n (dt_L_law 592 _ _ _ rfl) rfl ?_
        refine s_iconst (dt_L_law 593 _ _ _ rfl) rfl ?_
        refine s_iadd (dt_L_law 594 _ _ _ rfl) ?_
        refine s_sld hX (dt_L_law 595 _ _ _ rfl) ?_
        refine s_callO (y := y_X_all) (Y' := Y_X_all) (as := [VR (some 0), VI (xs (w32 (s1.1 + (1 : Int))).toNat), VI (xs (w32 (s1.1 + (2 : Int))).toNat)]) (r := fun q => some (VI q.1)) (M' := fun q => q.2) (kInvV (dt_L_law 596 _ _ _ rfl) kin_X_all 0 rfl (sc_0 (kxt hS)) kse_X_all rfl) kl_L_136 md_X_all rfl rfl (fun q hq => c_X_all (kxt hS) (xs (w32 (s1.1 + (1 : Int))).toNat) (xs (w32 (s1.1 + (2 : Int))).toNat) s1.2 q hq) (fun q60 => ?_)
        refine s_aload_n (dt_L_law 597 _ _ _ rfl) rfl ?_
        refine s_aloadA_n (dt_L_law 598 _ _ _ rfl) rfl ?_
        refine s_iload_n (dt_L_law 599 _ _ _ rfl) rfl ?_
        refine s_iconst (dt_L_law 600 _ _ _ rfl) rfl ?_
        refine s_iadd (dt_L_law 601 _ _ _ rfl) ?_
        refine s_sld hX (dt_L_law 602 _ _ _ rfl) ?_
        refine s_aloadA_n (dt_L_law 603 _ _ _ rfl) rfl ?_
        refine s_iload_n (dt_L_law 604 _ _ _ rfl) rfl ?_
        refine s_iconst (dt_L_law 605 _ _ _ rfl) rfl ?_
        refine s_iadd (dt_L_law 606 _ _ _ rfl) ?_
        refine s_sld hX (dt_L_law 607 _ _ _ rfl) ?_
        refine s_callO (y := y_M_all) (Y' := Y_M_all) (as := [VR (some 382), VI (xs (w32 (s1.1 + (1 : Int))).toNat), VI (xs (w32 (s1.1 + (2 : Int))).toNat)]) (r := fun q => some (VI q.1)) (M' := fun q => q.2) (kInvV (dt_L_law 608 _ _ _ rfl) kin_M_all 1 rfl (sc_382 hS) kse_M_all rfl) kl_L_139 md_M_all rfl rfl (fun q hq => c_M_all hS (xs (w32 (s1.1 + (1 : Int))).toNat) (xs (w32 (s1.1 + (2 : Int))).toNat) q60.2 q hq) (fun q61 => ?_)
        refine s_if_icmp_eq (tgt := 1228) (dt_L_law 609 _ _ _ rfl) rfl ?_ ?_
        · refine s_iinc (dt_L_law 802 _ _ _ rfl) rfl rfl ?_
          refine s_goto (tgt := 18) (dt_L_law 803 _ _ _ rfl) rfl ?_
          exact s_mask [true, true, true, true] (s_ret0 rfl)
        · exact s_mask [false, false, false, false] (s_ret0 rfl)
      refine s_tcase (tgt := 978) (dt_L_law 21 _ _ _ rfl) rfl rfl rfl ?_ (fun h153 => ?_)
      · refine s_aload_n (dt_L_law 612 _ _ _ rfl) rfl ?_
        refine s_aloadA_n (dt_L_law 613 _ _ _ rfl) rfl ?_
        refine s_iload_n (dt_L_law 614 _ _ _ rfl) rfl ?_
        refine s_iconst (dt_L_law 615 _ _ _ rfl) rfl ?_
        refine s_iadd (dt_L_law 616 _ _ _ rfl) ?_
        refine s_sld hX (dt_L_law 617 _ _ _ rfl) ?_
        refine s_callO (y := y_X_lies) (Y' := Y_X_lies) (as := [VR (some 0), VI (xs (w32 (s1.1 + (1 : Int))).toNat)]) (r := fun q => some (VI q)) (M' := fun q => s1.2) (kInvV (dt_L_law 618 _ _ _ rfl) kin_X_lies 0 rfl (sc_0 (kxt hS)) kse_X_lies rfl) kl_L_140 md_X_lies rfl rfl (fun q hq => c_X_lies (kxt hS) (xs (w32 (s1.1 + (1 : Int))).toNat) s1.2 q hq) (fun q62 => ?_)
        refine s_aload_n (dt_L_law 619 _ _ _ rfl) rfl ?_
        refine s_aloadA_n (dt_L_law 620 _ _ _ rfl) rfl ?_
        refine s_iload_n (dt_L_law 621 _ _ _ rfl) rfl ?_
        refine s_iconst (dt_L_law 622 _ _ _ rfl) rfl ?_
        refine s_iadd (dt_L_law 623 _ _ _ rfl) ?_
        refine s_sld hX (dt_L_law 624 _ _ _ rfl) ?_
        refine s_callO (y := y_M_lies) (Y' := Y_M_lies) (as := [VR (some 382), VI (xs (w32 (s1.1 + (1 : Int))).toNat)]) (r := fun q => some (VI q)) (M' := fun q => s1.2) (kInvV (dt_L_law 625 _ _ _ rfl) kin_M_lies 1 rfl (sc_382 hS) kse_M_lies rfl) kl_L_143 md_M_lies rfl rfl (fun q hq => c_M_lies hS (xs (w32 (s1.1 + (1 : Int))).toNat) s1.2 q hq) (fun q63 => ?_)
        refine s_if_icmp_eq (tgt := 1228) (dt_L_law 626 _ _ _ rfl) rfl ?_ ?_
        · refine s_iinc (dt_L_law 802 _ _ _ rfl) rfl rfl ?_
          refine s_goto (tgt := 18) (dt_L_law 803 _ _ _ rfl) rfl ?_
          exact s_mask [true, true, true, true] (s_ret0 rfl)
        · exact s_mask [false, false, false, false] (s_ret0 rfl)
      refine s_tcase (tgt := 1001) (dt_L_law 21 _ _ _ rfl) rfl rfl rfl ?_ (fun h154 => ?_)
      · refine s_aload_n (dt_L_law 629 _ _ _ rfl) rfl ?_
        refine s_aloadA_n (dt_L_law 630 _ _ _ rfl) rfl ?_
        refine s_iload_n (dt_L_law 631 _ _ _ rfl) rfl ?_
        refine s_iconst (dt_L_law 632 _ _ _ rfl) rfl ?_
        refine s_iadd (dt_L_law 633 _ _ _ rfl) ?_
        refine s_sld hX (dt_L_law 634 _ _ _ rfl) ?_
        refine s_aloadA_n (dt_L_law 635 _ _ _ rfl) rfl ?_
        refine s_iload_n (dt_L_law 636 _ _ _ rfl) rfl ?_
        refine s_iconst (dt_L_law 637 _ _ _ rfl) rfl ?_
        refine s_iadd (dt_L_law 638 _ _ _ rfl) ?_
        refine s_sld hX (dt_L_law 639 _ _ _ rfl) ?_
        refine s_callO (y := y_X_face) (Y' := Y_X_face) (as := [VR (some 0), VI (xs (w32 (s1.1 + (1 : Int))).toNat), VI (xs (w32 (s1.1 + (2 : Int))).toNat)]) (r := fun q => some (VI q.1)) (M' := fun q => q.2) (kInvV (dt_L_law 640 _ _ _ rfl) kin_X_face 0 rfl (sc_0 (kxt hS)) kse_X_face rfl) kl_L_144 md_X_face rfl rfl (fun q hq => c_X_face (kxt hS) (xs (w32 (s1.1 + (1 : Int))).toNat) (xs (w32 (s1.1 + (2 : Int))).toNat) s1.2 q hq) (fun q64 => ?_)
        refine s_aload_n (dt_L_law 641 _ _ _ rfl) rfl ?_
        refine s_aloadA_n (dt_L_law 642 _ _ _ rfl) rfl ?_
        refine s_iload_n (dt_L_law 643 _ _ _ rfl) rfl ?_
        refine s_iconst (dt_L_law 644 _ _ _ rfl) rfl ?_
        refine s_iadd (dt_L_law 645 _ _ _ rfl) ?_
        refine s_sld hX (dt_L_law 646 _ _ _ rfl) ?_
        refine s_aloadA_n (dt_L_law 647 _ _ _ rfl) rfl ?_
        refine s_iload_n (dt_L_law 648 _ _ _ rfl) rfl ?_
        refine s_iconst (dt_L_law 649 _ _ _ rfl) rfl ?_
        refine s_iadd (dt_L_law 650 _ _ _ rfl) ?_
        refine s_sld hX (dt_L_law 651 _ _ _ rfl) ?_
        refine s_callO (y := y_M_face) (Y' := Y_M_face) (as := [VR (some 382), VI (xs (w32 (s1.1 + (1 : Int))).toNat), VI (xs (w32 (s1.1 + (2 : Int))).toNat)]) (r := fun q => some (VI q.1)) (M' := fun q => q.2) (kInvV (dt_L_law 652 _ _ _ rfl) kin_M_face 1 rfl (sc_382 hS) kse_M_face rfl) kl_L_147 md_M_face rfl rfl (fun q hq => c_M_face hS (xs (w32 (s1.1 + (1 : Int))).toNat) (xs (w32 (s1.1 + (2 : Int))).toNat) q64.2 q hq) (fun q65 => ?_)
        refine s_if_icmp_eq (tgt := 1228) (dt_L_law 653 _ _ _ rfl) rfl ?_ ?_
        · refine s_iinc (dt_L_law 802 _ _ _ rfl) rfl rfl ?_
          refine s_goto (tgt := 18) (dt_L_law 803 _ _ _ rfl) rfl ?_
          exact s_mask [true, true, true, true] (s_ret0 rfl)
        · exact s_mask [false, false, false, false] (s_ret0 rfl)
      refine s_tcase (tgt := 1034) (dt_L_law 21 _ _ _ rfl) rfl rfl rfl ?_ (fun h155 => ?_)
      · refine s_aload_n (dt_L_law 656 _ _ _ rfl) rfl ?_
        refine s_aloadA_n (dt_L_law 657 _ _ _ rfl) rfl ?_
        refine s_iload_n (dt_L_law 658 _ _ _ rfl) rfl ?_
        refine s_iconst (dt_L_law 659 _ _ _ rfl) rfl ?_
        refine s_iadd (dt_L_law 660 _ _ _ rfl) ?_
        refine s_sld hX (dt_L_law 661 _ _ _ rfl) ?_
        refine s_callO (y := y_X_untell) (Y' := Y_X_untell) (as := [VR (some 0), VI (xs (w32 (s1.1 + (1 : Int))).toNat)]) (r := fun q => some (VI q.1)) (M' := fun q => q.2) (kInvV (dt_L_law 662 _ _ _ rfl) kin_X_untell 0 rfl (sc_0 (kxt hS)) kse_X_untell rfl) kl_L_148 md_X_untell rfl rfl (fun q hq => c_X_untell (kxt hS) (xs (w32 (s1.1 + (1 : Int))).toNat) s1.2 q hq) (fun q66 => ?_)
        refine s_aload_n (dt_L_law 663 _ _ _ rfl) rfl ?_
        refine s_aloadA_n (dt_L_law 664 _ _ _ rfl) rfl ?_
        refine s_iload_n (dt_L_law 665 _ _ _ rfl) rfl ?_
        refine s_iconst (dt_L_law 666 _ _ _ rfl) rfl ?_
        refine s_iadd (dt_L_law 667 _ _ _ rfl) ?_
        refine s_sld hX (dt_L_law 668 _ _ _ rfl) ?_
        refine s_callO (y := y_M_untell) (Y' := Y_M_untell) (as := [VR (some 382), VI (xs (w32 (s1.1 + (1 : Int))).toNat)]) (r := fun q => some (VI q.1)) (M' := fun q => q.2) (kInvV (dt_L_law 669 _ _ _ rfl) kin_M_untell 1 rfl (sc_382 hS) kse_M_untell rfl) kl_L_152 md_M_untell rfl rfl (fun q hq => c_M_untell hS (xs (w32 (s1.1 + (1 : Int))).toNat) q66.2 q hq) (fun q67 => ?_)
        refine s_if_icmp_eq (tgt := 1228) (dt_L_law 670 _ _ _ rfl) rfl ?_ ?_
        · refine s_iinc (dt_L_law 802 _ _ _ rfl) rfl rfl ?_
          refine s_goto (tgt := 18) (dt_L_law 803 _ _ _ rfl) rfl ?_
          exact s_mask [true, true, true, true] (s_ret0 rfl)
        · exact s_mask [false, false, false, false] (s_ret0 rfl)
      refine s_tcase (tgt := 1057) (dt_L_law 21 _ _ _ rfl) rfl rfl rfl ?_ (fun h156 => ?_)
      · refine s_aload_n (dt_L_law 673 _ _ _ rfl) rfl ?_
        refine s_aloadA_n (dt_L_law 674 _ _ _ rfl) rfl ?_
        refine s_iload_n (dt_L_law 675 _ _ _ rfl) rfl ?_
        refine s_iconst (dt_L_law 676 _ _ _ rfl) rfl ?_
        refine s_iadd (dt_L_law 677 _ _ _ rfl) ?_
        refine s_sld hX (dt_L_law 678 _ _ _ rfl) ?_
        refine s_callO (y := y_X_later) (Y' := Y_X_later) (as := [VR (some 0), VI (xs (w32 (s1.1 + (1 : Int))).toNat)]) (r := fun q => some (VI q.1)) (M' := fun q => q.2) (kInvV (dt_L_law 679 _ _ _ rfl) kin_X_later 0 rfl (sc_0 (kxt hS)) kse_X_later rfl) kl_L_153 md_X_later rfl rfl (fun q hq => c_X_later (kxt hS) (xs (w32 (s1.1 + (1 : Int))).toNat) s1.2 q hq) (fun q68 => ?_)
        refine s_aload_n (dt_L_law 680 _ _ _ rfl) rfl ?_
        refine s_aloadA_n (dt_L_law 681 _ _ _ rfl) rfl ?_
        refine s_iload_n (dt_L_law 682 _ _ _ rfl) rfl ?_
        refine s_iconst (dt_L_law 683 _ _ _ rfl) rfl ?_
        refine s_iadd (dt_L_law 684 _ _ _ rfl) ?_
        refine s_sld hX (dt_L_law 685 _ _ _ rfl) ?_
        refine s_callO (y := y_M_later) (Y' := Y_M_later) (as := [VR (some 382), VI (xs (w32 (s1.1 + (1 : Int))).toNat)]) (r := fun q => some (VI q.1)) (M' := fun q => q.2) (kInvV (dt_L_law 686 _ _ _ rfl) kin_M_later 1 rfl (sc_382 hS) kse_M_later rfl) kl_L_156 md_M_later rfl rfl (fun q hq => c_M_later hS (xs (w32 (s1.1 + (1 : Int))).toNat) q68.2 q hq) (fun q69 => ?_)
        refine s_if_icmp_eq (tgt := 1228) (dt_L_law 687 _ _ _ rfl) rfl ?_ ?_
        · refine s_iinc (dt_L_law 802 _ _ _ rfl) rfl rfl ?_
          refine s_goto (tgt := 18) (dt_L_law 803 _ _ _ rfl) rfl ?_
          exact s_mask [true, true, true, true] (s_ret0 rfl)
        · exact s_mask [false, false, false, false] (s_ret0 rfl)
      refine s_tcase (tgt := 1080) (dt_L_law 21 _ _ _ rfl) rfl rfl rfl ?_ (fun h157 => ?_)
      · refine s_aload_n (dt_L_law 690 _ _ _ rfl) rfl ?_
        refine s_aloadA_n (dt_L_law 691 _ _ _ rfl) rfl ?_
        refine s_iload_n (dt_L_law 692 _ _ _ rfl) rfl ?_
        refine s_iconst (dt_L_law 693 _ _ _ rfl) rfl ?_
        refine s_iadd (dt_L_law 694 _ _ _ rfl) ?_
        refine s_sld hX (dt_L_law 695 _ _ _ rfl) ?_
        refine s_callO (y := y_X_explained) (Y' := Y_X_explained) (as := [VR (some 0), VI (xs (w32 (s1.1 + (1 : Int))).toNat)]) (r := fun q => some (VI q.1)) (M' := fun q => q.2) (kInvV (dt_L_law 696 _ _ _ rfl) kin_X_explained 0 rfl (sc_0 (kxt hS)) kse_X_explained rfl) kl_L_157 md_X_explained rfl rfl (fun q hq => c_X_explained (kxt hS) (xs (w32 (s1.1 + (1 : Int))).toNat) s1.2 q hq) (fun q70 => ?_)
        refine s_aload_n (dt_L_law 697 _ _ _ rfl) rfl ?_
        refine s_aloadA_n (dt_L_law 698 _ _ _ rfl) rfl ?_
        refine s_iload_n (dt_L_law 699 _ _ _ rfl) rfl ?_
        refine s_iconst (dt_L_law 700 _ _ _ rfl) rfl ?_
        refine s_iadd (dt_L_law 701 _ _ _ rfl) ?_
        refine s_sld hX (dt_L_law 702 _ _ _ rfl) ?_
        refine s_callO (y := y_M_explained) (Y' := Y_M_explained) (as := [VR (some 382), VI (xs (w32 (s1.1 + (1 : Int))).toNat)]) (r := fun q => some (VI q.1)) (M' := fun q => q.2) (kInvV (dt_L_law 703 _ _ _ rfl) kin_M_explained 1 rfl (sc_382 hS) kse_M_explained rfl) kl_L_160 md_M_explained rfl rfl (fun q hq => c_M_explained hS (xs (w32 (s1.1 + (1 : Int))).toNat) q70.2 q hq) (fun q71 => ?_)
        refine s_if_icmp_eq (tgt := 1228) (dt_L_law 704 _ _ _ rfl) rfl ?_ ?_
        · refine s_iinc (dt_L_law 802 _ _ _ rfl) rfl rfl ?_
          refine s_goto (tgt := 18) (dt_L_law 803 _ _ _ rfl) rfl ?_
          exact s_mask [true, true, true, true] (s_ret0 rfl)
        · exact s_mask [false, false, false, false] (s_ret0 rfl)
      refine s_tcase (tgt := 1103) (dt_L_law 21 _ _ _ rfl) rfl rfl rfl ?_ (fun h158 => ?_)
      · refine s_aload_n (dt_L_law 707 _ _ _ rfl) rfl ?_
        refine s_aloadA_n (dt_L_law 708 _ _ _ rfl) rfl ?_
        refine s_iload_n (dt_L_law 709 _ _ _ rfl) rfl ?_
        refine s_iconst (dt_L_law 710 _ _ _ rfl) rfl ?_
        refine s_iadd (dt_L_law 711 _ _ _ rfl) ?_
        refine s_sld hX (dt_L_law 712 _ _ _ rfl) ?_
        refine s_aloadA_n (dt_L_law 713 _ _ _ rfl) rfl ?_
        refine s_iload_n (dt_L_law 714 _ _ _ rfl) rfl ?_
        refine s_iconst (dt_L_law 715 _ _ _ rfl) rfl ?_
        refine s_iadd (dt_L_law 716 _ _ _ rfl) ?_
        refine s_sld hX (dt_L_law 717 _ _ _ rfl) ?_
        refine s_callO (y := y_X_sure) (Y' := Y_X_sure) (as := [VR (some 0), VI (xs (w32 (s1.1 + (1 : Int))).toNat), VI (xs (w32 (s1.1 + (2 : Int))).toNat)]) (r := fun q => some (VI q.1)) (M' := fun q => q.2) (kInvV (dt_L_law 718 _ _ _ rfl) kin_X_sure 0 rfl (sc_0 (kxt hS)) kse_X_sure rfl) kl_L_161 md_X_sure rfl rfl (fun q hq => c_X_sure (kxt hS) (xs (w32 (s1.1 + (1 : Int))).toNat) (xs (w32 (s1.1 + (2 : Int))).toNat) s1.2 q hq) (fun q72 => ?_)
        refine s_aload_n (dt_L_law 719 _ _ _ rfl) rfl ?_
        refine s_aloadA_n (dt_L_law 720 _ _ _ rfl) rfl ?_
        refine s_iload_n (dt_L_law 721 _ _ _ rfl) rfl ?_
        refine s_iconst (dt_L_law 722 _ _ _ rfl) rfl ?_
        refine s_iadd (dt_L_law 723 _ _ _ rfl) ?_
        refine s_sld hX (dt_L_law 724 _ _ _ rfl) ?_
        refine s_aloadA_n (dt_L_law 725 _ _ _ rfl) rfl ?_
        refine s_iload_n (dt_L_law 726 _ _ _ rfl) rfl ?_
        refine s_iconst (dt_L_law 727 _ _ _ rfl) rfl ?_
        refine s_iadd (dt_L_law 728 _ _ _ rfl) ?_
        refine s_sld hX (dt_L_law 729 _ _ _ rfl) ?_
        refine s_callO (y := y_M_sure) (Y' := Y_M_sure) (as := [VR (some 382), VI (xs (w32 (s1.1 + (1 : Int))).toNat), VI (xs (w32 (s1.1 + (2 : Int))).toNat)]) (r := fun q => some (VI q.1)) (M' := fun q => q.2) (kInvV (dt_L_law 730 _ _ _ rfl) kin_M_sure 1 rfl (sc_382 hS) kse_M_sure rfl) kl_L_164 md_M_sure rfl rfl (fun q hq => c_M_sure hS (xs (w32 (s1.1 + (1 : Int))).toNat) (xs (w32 (s1.1 + (2 : Int))).toNat) q72.2 q hq) (fun q73 => ?_)
        refine s_if_icmp_eq (tgt := 1228) (dt_L_law 731 _ _ _ rfl) rfl ?_ ?_
        · refine s_iinc (dt_L_law 802 _ _ _ rfl) rfl rfl ?_
          refine s_goto (tgt := 18) (dt_L_law 803 _ _ _ rfl) rfl ?_
          exact s_mask [true, true, true, true] (s_ret0 rfl)
        · exact s_mask [false, false, false, false] (s_ret0 rfl)
      refine s_tcase (tgt := 1136) (dt_L_law 21 _ _ _ rfl) rfl rfl rfl ?_ (fun h159 => ?_)
      · refine s_aload_n (dt_L_law 734 _ _ _ rfl) rfl ?_
        refine s_aloadA_n (dt_L_law 735 _ _ _ rfl) rfl ?_
        refine s_iload_n (dt_L_law 736 _ _ _ rfl) rfl ?_
        refine s_iconst (dt_L_law 737 _ _ _ rfl) rfl ?_
        refine s_iadd (dt_L_law 738 _ _ _ rfl) ?_
        refine s_sld hX (dt_L_law 739 _ _ _ rfl) ?_
        refine s_callO (y := y_X_forged) (Y' := Y_X_forged) (as := [VR (some 0), VI (xs (w32 (s1.1 + (1 : Int))).toNat)]) (r := fun q => some (VI q.1)) (M' := fun q => q.2) (kInvV (dt_L_law 740 _ _ _ rfl) kin_X_forged 0 rfl (sc_0 (kxt hS)) kse_X_forged rfl) kl_L_165 md_X_forged rfl rfl (fun q hq => c_X_forged (kxt hS) (xs (w32 (s1.1 + (1 : Int))).toNat) s1.2 q hq) (fun q74 => ?_)
        refine s_aload_n (dt_L_law 741 _ _ _ rfl) rfl ?_
        refine s_aloadA_n (dt_L_law 742 _ _ _ rfl) rfl ?_
        refine s_iload_n (dt_L_law 743 _ _ _ rfl) rfl ?_
        refine s_iconst (dt_L_law 744 _ _ _ rfl) rfl ?_
        refine s_iadd (dt_L_law 745 _ _ _ rfl) ?_
        refine s_sld hX (dt_L_law 746 _ _ _ rfl) ?_
        refine s_callO (y := y_M_forged) (Y' := Y_M_forged) (as := [VR (some 382), VI (xs (w32 (s1.1 + (1 : Int))).toNat)]) (r := fun q => some (VI q.1)) (M' := fun q => q.2) (kInvV (dt_L_law 747 _ _ _ rfl) kin_M_forged 1 rfl (sc_382 hS) kse_M_forged rfl) kl_L_168 md_M_forged rfl rfl (fun q hq => c_M_forged hS (xs (w32 (s1.1 + (1 : Int))).toNat) q74.2 q hq) (fun q75 => ?_)
        refine s_if_icmp_eq (tgt := 1228) (dt_L_law 748 _ _ _ rfl) rfl ?_ ?_
        · refine s_iinc (dt_L_law 802 _ _ _ rfl) rfl rfl ?_
          refine s_goto (tgt := 18) (dt_L_law 803 _ _ _ rfl) rfl ?_
          exact s_mask [true, true, true, true] (s_ret0 rfl)
        · exact s_mask [false, false, false, false] (s_ret0 rfl)
      refine s_tcase (tgt := 1159) (dt_L_law 21 _ _ _ rfl) rfl rfl rfl ?_ (fun h160 => ?_)
      · refine s_aload_n (dt_L_law 751 _ _ _ rfl) rfl ?_
        refine s_aloadA_n (dt_L_law 752 _ _ _ rfl) rfl ?_
        refine s_iload_n (dt_L_law 753 _ _ _ rfl) rfl ?_
        refine s_iconst (dt_L_law 754 _ _ _ rfl) rfl ?_
        refine s_iadd (dt_L_law 755 _ _ _ rfl) ?_
        refine s_sld hX (dt_L_law 756 _ _ _ rfl) ?_
        refine s_callO (y := y_X_image) (Y' := Y_X_image) (as := [VR (some 0), VI (xs (w32 (s1.1 + (1 : Int))).toNat)]) (r := fun q => some (VI q.1)) (M' := fun q => q.2) (kInvV (dt_L_law 757 _ _ _ rfl) kin_X_image 0 rfl (sc_0 (kxt hS)) kse_X_image rfl) kl_L_169 md_X_image rfl rfl (fun q hq => c_X_image (kxt hS) (xs (w32 (s1.1 + (1 : Int))).toNat) s1.2 q hq) (fun q76 => ?_)
        refine s_aload_n (dt_L_law 758 _ _ _ rfl) rfl ?_
        refine s_aloadA_n (dt_L_law 759 _ _ _ rfl) rfl ?_
        refine s_iload_n (dt_L_law 760 _ _ _ rfl) rfl ?_
        refine s_iconst (dt_L_law 761 _ _ _ rfl) rfl ?_
        refine s_iadd (dt_L_law 762 _ _ _ rfl) ?_
        refine s_sld hX (dt_L_law 763 _ _ _ rfl) ?_
        refine s_callO (y := y_M_image) (Y' := Y_M_image) (as := [VR (some 382), VI (xs (w32 (s1.1 + (1 : Int))).toNat)]) (r := fun q => some (VI q.1)) (M' := fun q => q.2) (kInvV (dt_L_law 764 _ _ _ rfl) kin_M_image 1 rfl (sc_382 hS) kse_M_image rfl) kl_L_172 md_M_image rfl rfl (fun q hq => c_M_image hS (xs (w32 (s1.1 + (1 : Int))).toNat) q76.2 q hq) (fun q77 => ?_)
        refine s_if_icmp_eq (tgt := 1228) (dt_L_law 765 _ _ _ rfl) rfl ?_ ?_
        · refine s_iinc (dt_L_law 802 _ _ _ rfl) rfl rfl ?_
          refine s_goto (tgt := 18) (dt_L_law 803 _ _ _ rfl) rfl ?_
          exact s_mask [true, true, true, true] (s_ret0 rfl)
        · exact s_mask [false, false, false, false] (s_ret0 rfl)
      refine s_tcase (tgt := 1182) (dt_L_law 21 _ _ _ rfl) rfl rfl rfl ?_ (fun h161 => ?_)
      · refine s_aload_n (dt_L_law 768 _ _ _ rfl) rfl ?_
        refine s_aloadA_n (dt_L_law 769 _ _ _ rfl) rfl ?_
        refine s_iload_n (dt_L_law 770 _ _ _ rfl) rfl ?_
        refine s_iconst (dt_L_law 771 _ _ _ rfl) rfl ?_
        refine s_iadd (dt_L_law 772 _ _ _ rfl) ?_
        refine s_sld hX (dt_L_law 773 _ _ _ rfl) ?_
        refine s_callO (y := y_X_back) (Y' := Y_X_back) (as := [VR (some 0), VI (xs (w32 (s1.1 + (1 : Int))).toNat)]) (r := fun q => some (VI q.1)) (M' := fun q => q.2) (kInvV (dt_L_law 774 _ _ _ rfl) kin_X_back 0 rfl (sc_0 (kxt hS)) kse_X_back rfl) kl_L_173 md_X_back rfl rfl (fun q hq => c_X_back (kxt hS) (xs (w32 (s1.1 + (1 : Int))).toNat) s1.2 q hq) (fun q78 => ?_)
        refine s_aload_n (dt_L_law 775 _ _ _ rfl) rfl ?_
        refine s_aloadA_n (dt_L_law 776 _ _ _ rfl) rfl ?_
        refine s_iload_n (dt_L_law 777 _ _ _ rfl) rfl ?_
        refine s_iconst (dt_L_law 778 _ _ _ rfl) rfl ?_
        refine s_iadd (dt_L_law 779 _ _ _ rfl) ?_
        refine s_sld hX (dt_L_law 780 _ _ _ rfl) ?_
        refine s_callO (y := y_M_back) (Y' := Y_M_back) (as := [VR (some 382), VI (xs (w32 (s1.1 + (1 : Int))).toNat)]) (r := fun q => some (VI q.1)) (M' := fun q => q.2) (kInvV (dt_L_law 781 _ _ _ rfl) kin_M_back 1 rfl (sc_382 hS) kse_M_back rfl) kl_L_176 md_M_back rfl rfl (fun q hq => c_M_back hS (xs (w32 (s1.1 + (1 : Int))).toNat) q78.2 q hq) (fun q79 => ?_)
        refine s_if_icmp_eq (tgt := 1228) (dt_L_law 782 _ _ _ rfl) rfl ?_ ?_
        · refine s_iinc (dt_L_law 802 _ _ _ rfl) rfl rfl ?_
          refine s_goto (tgt := 18) (dt_L_law 803 _ _ _ rfl) rfl ?_
          exact s_mask [true, true, true, true] (s_ret0 rfl)
        · exact s_mask [false, false, false, false] (s_ret0 rfl)
      refine s_tcase (tgt := 1205) (dt_L_law 21 _ _ _ rfl) rfl rfl rfl ?_ (fun h162 => ?_)
      · refine s_aload_n (dt_L_law 785 _ _ _ rfl) rfl ?_
        refine s_aloadA_n (dt_L_law 786 _ _ _ rfl) rfl ?_
        refine s_iload_n (dt_L_law 787 _ _ _ rfl) rfl ?_
        refine s_iconst (dt_L_law 788 _ _ _ rfl) rfl ?_
        refine s_iadd (dt_L_law 789 _ _ _ rfl) ?_
        refine s_sld hX (dt_L_law 790 _ _ _ rfl) ?_
        refine s_callO (y := y_X_about) (Y' := Y_X_about) (as := [VR (some 0), VI (xs (w32 (s1.1 + (1 : Int))).toNat)]) (r := fun q => some (VI q)) (M' := fun q => s1.2) (kInvV (dt_L_law 791 _ _ _ rfl) kin_X_about 0 rfl (sc_0 (kxt hS)) kse_X_about rfl) kl_L_177 md_X_about rfl rfl (fun q hq => c_X_about (kxt hS) (xs (w32 (s1.1 + (1 : Int))).toNat) s1.2 q hq) (fun q80 => ?_)
        refine s_aload_n (dt_L_law 792 _ _ _ rfl) rfl ?_
        refine s_aloadA_n (dt_L_law 793 _ _ _ rfl) rfl ?_
        refine s_iload_n (dt_L_law 794 _ _ _ rfl) rfl ?_
        refine s_iconst (dt_L_law 795 _ _ _ rfl) rfl ?_
        refine s_iadd (dt_L_law 796 _ _ _ rfl) ?_
        refine s_sld hX (dt_L_law 797 _ _ _ rfl) ?_
        refine s_callO (y := y_M_about) (Y' := Y_M_about) (as := [VR (some 382), VI (xs (w32 (s1.1 + (1 : Int))).toNat)]) (r := fun q => some (VI q)) (M' := fun q => s1.2) (kInvV (dt_L_law 798 _ _ _ rfl) kin_M_about 1 rfl (sc_382 hS) kse_M_about rfl) kl_L_180 md_M_about rfl rfl (fun q hq => c_M_about hS (xs (w32 (s1.1 + (1 : Int))).toNat) s1.2 q hq) (fun q81 => ?_)
        refine s_if_icmp_eq (tgt := 1228) (dt_L_law 799 _ _ _ rfl) rfl ?_ ?_
        · refine s_iinc (dt_L_law 802 _ _ _ rfl) rfl rfl ?_
          refine s_goto (tgt := 18) (dt_L_law 803 _ _ _ rfl) rfl ?_
          exact s_mask [true, true, true, true] (s_ret0 rfl)
        · exact s_mask [false, false, false, false] (s_ret0 rfl)
      refine s_tdef (tgt := 1228) (dt_L_law 21 _ _ _ rfl) (by omega) rfl ?_
      refine s_iinc (dt_L_law 802 _ _ _ rfl) rfl rfl ?_
      refine s_goto (tgt := 18) (dt_L_law 803 _ _ _ rfl) rfl ?_
      exact s_mask [true, true, true, true] (s_ret0 rfl)
    · exact s_mask [false, false, false, false] (s_ret0 rfl)
  refine s_elim (fun e82 => ?_) ?_
  · refine s_iconst (dt_L_law 77 _ _ _ rfl) rfl ?_
    exact s_zret01 (dt_L_law 78 _ _ _ rfl) rfl rfl rfl
  refine s_elim (fun e83 => ?_) ?_
  · refine s_iconst (dt_L_law 94 _ _ _ rfl) rfl ?_
    exact s_zret01 (dt_L_law 95 _ _ _ rfl) rfl rfl rfl
  refine s_elim (fun e84 => ?_) ?_
  · refine s_iconst (dt_L_law 101 _ _ _ rfl) rfl ?_
    exact s_zret01 (dt_L_law 102 _ _ _ rfl) rfl rfl rfl
  refine s_elim (fun e85 => ?_) ?_
  · refine s_iconst (dt_L_law 118 _ _ _ rfl) rfl ?_
    exact s_zret01 (dt_L_law 119 _ _ _ rfl) rfl rfl rfl
  refine s_elim (fun e86 => ?_) ?_
  · refine s_iconst (dt_L_law 145 _ _ _ rfl) rfl ?_
    exact s_zret01 (dt_L_law 146 _ _ _ rfl) rfl rfl rfl
  refine s_elim (fun e87 => ?_) ?_
  · refine s_iconst (dt_L_law 172 _ _ _ rfl) rfl ?_
    exact s_zret01 (dt_L_law 173 _ _ _ rfl) rfl rfl rfl
  refine s_elim (fun e88 => ?_) ?_
  · refine s_iconst (dt_L_law 189 _ _ _ rfl) rfl ?_
    exact s_zret01 (dt_L_law 190 _ _ _ rfl) rfl rfl rfl
  refine s_elim (fun e89 => ?_) ?_
  · refine s_iconst (dt_L_law 206 _ _ _ rfl) rfl ?_
    exact s_zret01 (dt_L_law 207 _ _ _ rfl) rfl rfl rfl
  refine s_elim (fun e90 => ?_) ?_
  · refine s_iconst (dt_L_law 243 _ _ _ rfl) rfl ?_
    exact s_zret01 (dt_L_law 244 _ _ _ rfl) rfl rfl rfl
  refine s_elim (fun e91 => ?_) ?_
  · refine s_iconst (dt_L_law 290 _ _ _ rfl) rfl ?_
    exact s_zret01 (dt_L_law 291 _ _ _ rfl) rfl rfl rfl
  refine s_elim (fun e92 => ?_) ?_
  · refine s_iconst (dt_L_law 297 _ _ _ rfl) rfl ?_
    exact s_zret01 (dt_L_law 298 _ _ _ rfl) rfl rfl rfl
  refine s_elim (fun e93 => ?_) ?_
  · refine s_iconst (dt_L_law 304 _ _ _ rfl) rfl ?_
    exact s_zret01 (dt_L_law 305 _ _ _ rfl) rfl rfl rfl
  refine s_elim (fun e94 => ?_) ?_
  · refine s_iconst (dt_L_law 311 _ _ _ rfl) rfl ?_
    exact s_zret01 (dt_L_law 312 _ _ _ rfl) rfl rfl rfl
  refine s_elim (fun e95 => ?_) ?_
  · refine s_iconst (dt_L_law 338 _ _ _ rfl) rfl ?_
    exact s_zret01 (dt_L_law 339 _ _ _ rfl) rfl rfl rfl
  refine s_elim (fun e96 => ?_) ?_
  · refine s_iconst (dt_L_law 365 _ _ _ rfl) rfl ?_
    exact s_zret01 (dt_L_law 366 _ _ _ rfl) rfl rfl rfl
  refine s_elim (fun e97 => ?_) ?_
  · refine s_iconst (dt_L_law 372 _ _ _ rfl) rfl ?_
    exact s_zret01 (dt_L_law 373 _ _ _ rfl) rfl rfl rfl
  refine s_elim (fun e98 => ?_) ?_
  · refine s_iconst (dt_L_law 379 _ _ _ rfl) rfl ?_
    exact s_zret01 (dt_L_law 380 _ _ _ rfl) rfl rfl rfl
  refine s_elim (fun e99 => ?_) ?_
  · refine s_iconst (dt_L_law 386 _ _ _ rfl) rfl ?_
    exact s_zret01 (dt_L_law 387 _ _ _ rfl) rfl rfl rfl
  refine s_elim (fun e100 => ?_) ?_
  · refine s_iconst (dt_L_law 423 _ _ _ rfl) rfl ?_
    exact s_zret01 (dt_L_law 424 _ _ _ rfl) rfl rfl rfl
  refine s_elim (fun e101 => ?_) ?_
  · refine s_iconst (dt_L_law 440 _ _ _ rfl) rfl ?_
    exact s_zret01 (dt_L_law 441 _ _ _ rfl) rfl rfl rfl
  refine s_elim (fun e102 => ?_) ?_
  · refine s_iconst (dt_L_law 447 _ _ _ rfl) rfl ?_
    exact s_zret01 (dt_L_law 448 _ _ _ rfl) rfl rfl rfl
  refine s_elim (fun e103 => ?_) ?_
  · refine s_iconst (dt_L_law 454 _ _ _ rfl) rfl ?_
    exact s_zret01 (dt_L_law 455 _ _ _ rfl) rfl rfl rfl
  refine s_elim (fun e104 => ?_) ?_
  · refine s_iconst (dt_L_law 481 _ _ _ rfl) rfl ?_
    exact s_zret01 (dt_L_law 482 _ _ _ rfl) rfl rfl rfl
  refine s_elim (fun e105 => ?_) ?_
  · refine s_iconst (dt_L_law 508 _ _ _ rfl) rfl ?_
    exact s_zret01 (dt_L_law 509 _ _ _ rfl) rfl rfl rfl
  refine s_elim (fun e106 => ?_) ?_
  · refine s_iconst (dt_L_law 535 _ _ _ rfl) rfl ?_
    exact s_zret01 (dt_L_law 536 _ _ _ rfl) rfl rfl rfl
  refine s_elim (fun e107 => ?_) ?_
  · refine s_iconst (dt_L_law 542 _ _ _ rfl) rfl ?_
    exact s_zret01 (dt_L_law 543 _ _ _ rfl) rfl rfl rfl
  refine s_elim (fun e108 => ?_) ?_
  · refine s_iconst (dt_L_law 549 _ _ _ rfl) rfl ?_
    exact s_zret01 (dt_L_law 550 _ _ _ rfl) rfl rfl rfl
  refine s_elim (fun e109 => ?_) ?_
  · refine s_iconst (dt_L_law 566 _ _ _ rfl) rfl ?_
    exact s_zret01 (dt_L_law 567 _ _ _ rfl) rfl rfl rfl
  refine s_elim (fun e110 => ?_) ?_
  · refine s_iconst (dt_L_law 583 _ _ _ rfl) rfl ?_
    exact s_zret01 (dt_L_law 584 _ _ _ rfl) rfl rfl rfl
  refine s_elim (fun e111 => ?_) ?_
  · refine s_iconst (dt_L_law 610 _ _ _ rfl) rfl ?_
    exact s_zret01 (dt_L_law 611 _ _ _ rfl) rfl rfl rfl
  refine s_elim (fun e112 => ?_) ?_
  · refine s_iconst (dt_L_law 627 _ _ _ rfl) rfl ?_
    exact s_zret01 (dt_L_law 628 _ _ _ rfl) rfl rfl rfl
  refine s_elim (fun e113 => ?_) ?_
  · refine s_iconst (dt_L_law 654 _ _ _ rfl) rfl ?_
    exact s_zret01 (dt_L_law 655 _ _ _ rfl) rfl rfl rfl
  refine s_elim (fun e114 => ?_) ?_
  · refine s_iconst (dt_L_law 671 _ _ _ rfl) rfl ?_
    exact s_zret01 (dt_L_law 672 _ _ _ rfl) rfl rfl rfl
  refine s_elim (fun e115 => ?_) ?_
  · refine s_iconst (dt_L_law 688 _ _ _ rfl) rfl ?_
    exact s_zret01 (dt_L_law 689 _ _ _ rfl) rfl rfl rfl
  refine s_elim (fun e116 => ?_) ?_
  · refine s_iconst (dt_L_law 705 _ _ _ rfl) rfl ?_
    exact s_zret01 (dt_L_law 706 _ _ _ rfl) rfl rfl rfl
  refine s_elim (fun e117 => ?_) ?_
  · refine s_iconst (dt_L_law 732 _ _ _ rfl) rfl ?_
    exact s_zret01 (dt_L_law 733 _ _ _ rfl) rfl rfl rfl
  refine s_elim (fun e118 => ?_) ?_
  · refine s_iconst (dt_L_law 749 _ _ _ rfl) rfl ?_
    exact s_zret01 (dt_L_law 750 _ _ _ rfl) rfl rfl rfl
  refine s_elim (fun e119 => ?_) ?_
  · refine s_iconst (dt_L_law 766 _ _ _ rfl) rfl ?_
    exact s_zret01 (dt_L_law 767 _ _ _ rfl) rfl rfl rfl
  refine s_elim (fun e120 => ?_) ?_
  · refine s_iconst (dt_L_law 783 _ _ _ rfl) rfl ?_
    exact s_zret01 (dt_L_law 784 _ _ _ rfl) rfl rfl rfl
  refine s_elim (fun e121 => ?_) ?_
  · refine s_iconst (dt_L_law 800 _ _ _ rfl) rfl ?_
    exact s_zret01 (dt_L_law 801 _ _ _ rfl) rfl rfl rfl
  intro e122
  refine s_iconst (dt_L_law 804 _ _ _ rfl) rfl ?_
  exact s_zret01 (dt_L_law 805 _ _ _ rfl) rfl rfl rfl

theorem wl_L_103 : Cond.methodLink RL 103 yL_setTable ∈ mb_GW := mb_tb 482 (by decide +kernel) (by decide +kernel)
theorem wl_L_108 : Cond.methodLink RL 108 yX6_setTable ∈ mb_GW := mb_tb 905 (by decide +kernel) (by decide +kernel)
theorem mi_X6_setTable : Cond.instanceMethod yX6_setTable ∈ mb_GW := mb_tb 906 (by decide +kernel) (by decide +kernel)
theorem ms_X6_setTable : Cond.selects RX6 yX6_setTable yX6_setTable ∈ mb_GW := mb_tb 907 (by decide +kernel) (by decide +kernel)
theorem mc_X6_setTable : Cond.code yX6_setTable cX6_setTable 2 (some .int) ∈ mb_GW := mb_tb 908 (by decide +kernel) (by decide +kernel)
theorem wl_L_109 : Cond.methodLink RL 109 yX6_thrown ∈ mb_GW := mb_tb 893 (by decide +kernel) (by decide +kernel)
theorem mi_X6_thrown : Cond.instanceMethod yX6_thrown ∈ mb_GW := mb_tb 894 (by decide +kernel) (by decide +kernel)
theorem ms_X6_thrown : Cond.selects RX6 yX6_thrown yX6_thrown ∈ mb_GW := mb_tb 895 (by decide +kernel) (by decide +kernel)
theorem mc_X6_thrown : Cond.code yX6_thrown cX6_thrown 1 (some .int) ∈ mb_GW := mb_tb 896 (by decide +kernel) (by decide +kernel)
theorem wl_L_112 : Cond.methodLink RL 112 yL_low ∈ mb_GW := mb_tb 519 (by decide +kernel) (by decide +kernel)
theorem wl_L_115 : Cond.methodLink RL 115 yX6_low ∈ mb_GW := mb_tb 932 (by decide +kernel) (by decide +kernel)
theorem mi_X6_low : Cond.instanceMethod yX6_low ∈ mb_GW := mb_tb 933 (by decide +kernel) (by decide +kernel)
theorem ms_X6_low : Cond.selects RX6 yX6_low yX6_low ∈ mb_GW := mb_tb 934 (by decide +kernel) (by decide +kernel)
theorem mc_X6_low : Cond.code yX6_low cX6_low 2 (some .int) ∈ mb_GW := mb_tb 935 (by decide +kernel) (by decide +kernel)
theorem wl_L_116 : Cond.methodLink RL 116 yL_addBerth ∈ mb_GW := mb_tb 527 (by decide +kernel) (by decide +kernel)
theorem wl_L_119 : Cond.methodLink RL 119 yX6_addBerth ∈ mb_GW := mb_tb 940 (by decide +kernel) (by decide +kernel)
theorem mi_X6_addBerth : Cond.instanceMethod yX6_addBerth ∈ mb_GW := mb_tb 941 (by decide +kernel) (by decide +kernel)
theorem ms_X6_addBerth : Cond.selects RX6 yX6_addBerth yX6_addBerth ∈ mb_GW := mb_tb 942 (by decide +kernel) (by decide +kernel)
theorem mc_X6_addBerth : Cond.code yX6_addBerth cX6_addBerth 7 (some .int) ∈ mb_GW := mb_tb 943 (by decide +kernel) (by decide +kernel)
theorem wl_L_120 : Cond.methodLink RL 120 yL_addBoat ∈ mb_GW := mb_tb 560 (by decide +kernel) (by decide +kernel)
theorem wl_L_123 : Cond.methodLink RL 123 yX6_addBoat ∈ mb_GW := mb_tb 948 (by decide +kernel) (by decide +kernel)
theorem mi_X6_addBoat : Cond.instanceMethod yX6_addBoat ∈ mb_GW := mb_tb 949 (by decide +kernel) (by decide +kernel)
theorem ms_X6_addBoat : Cond.selects RX6 yX6_addBoat yX6_addBoat ∈ mb_GW := mb_tb 950 (by decide +kernel) (by decide +kernel)
theorem mc_X6_addBoat : Cond.code yX6_addBoat cX6_addBoat 7 (some .int) ∈ mb_GW := mb_tb 951 (by decide +kernel) (by decide +kernel)
theorem wl_L_124 : Cond.methodLink RL 124 yL_set ∈ mb_GW := mb_tb 581 (by decide +kernel) (by decide +kernel)
theorem wl_L_127 : Cond.methodLink RL 127 yX6_set ∈ mb_GW := mb_tb 956 (by decide +kernel) (by decide +kernel)
theorem mi_X6_set : Cond.instanceMethod yX6_set ∈ mb_GW := mb_tb 957 (by decide +kernel) (by decide +kernel)
theorem ms_X6_set : Cond.selects RX6 yX6_set yX6_set ∈ mb_GW := mb_tb 958 (by decide +kernel) (by decide +kernel)
theorem mc_X6_set : Cond.code yX6_set cX6_set 4 (some .int) ∈ mb_GW := mb_tb 959 (by decide +kernel) (by decide +kernel)
theorem wl_L_128 : Cond.methodLink RL 128 yL_setRate ∈ mb_GW := mb_tb 596 (by decide +kernel) (by decide +kernel)
theorem wl_L_130 : Cond.methodLink RL 130 yX6_setRate ∈ mb_GW := mb_tb 964 (by decide +kernel) (by decide +kernel)
theorem mi_X6_setRate : Cond.instanceMethod yX6_setRate ∈ mb_GW := mb_tb 965 (by decide +kernel) (by decide +kernel)
theorem ms_X6_setRate : Cond.selects RX6 yX6_setRate yX6_setRate ∈ mb_GW := mb_tb 966 (by decide +kernel) (by decide +kernel)
theorem mc_X6_setRate : Cond.code yX6_setRate cX6_setRate 4 (some .int) ∈ mb_GW := mb_tb 967 (by decide +kernel) (by decide +kernel)
theorem wl_L_131 : Cond.methodLink RL 131 yL_berth ∈ mb_GW := mb_tb 605 (by decide +kernel) (by decide +kernel)
theorem wl_L_133 : Cond.methodLink RL 133 yX6_berth ∈ mb_GW := mb_tb 976 (by decide +kernel) (by decide +kernel)
theorem mi_X6_berth : Cond.instanceMethod yX6_berth ∈ mb_GW := mb_tb 977 (by decide +kernel) (by decide +kernel)
theorem ms_X6_berth : Cond.selects RX6 yX6_berth yX6_berth ∈ mb_GW := mb_tb 978 (by decide +kernel) (by decide +kernel)
theorem mc_X6_berth : Cond.code yX6_berth cX6_berth 3 (some .int) ∈ mb_GW := mb_tb 979 (by decide +kernel) (by decide +kernel)
theorem wl_L_134 : Cond.methodLink RL 134 yL_boat ∈ mb_GW := mb_tb 609 (by decide +kernel) (by decide +kernel)
theorem wl_L_136 : Cond.methodLink RL 136 yX6_boat ∈ mb_GW := mb_tb 1008 (by decide +kernel) (by decide +kernel)
theorem mi_X6_boat : Cond.instanceMethod yX6_boat ∈ mb_GW := mb_tb 1009 (by decide +kernel) (by decide +kernel)
theorem ms_X6_boat : Cond.selects RX6 yX6_boat yX6_boat ∈ mb_GW := mb_tb 1010 (by decide +kernel) (by decide +kernel)
theorem mc_X6_boat : Cond.code yX6_boat cX6_boat 3 (some .int) ∈ mb_GW := mb_tb 1011 (by decide +kernel) (by decide +kernel)
theorem wl_L_137 : Cond.methodLink RL 137 yL_fits ∈ mb_GW := mb_tb 613 (by decide +kernel) (by decide +kernel)
theorem wl_L_139 : Cond.methodLink RL 139 yX6_fits ∈ mb_GW := mb_tb 1028 (by decide +kernel) (by decide +kernel)
theorem mi_X6_fits : Cond.instanceMethod yX6_fits ∈ mb_GW := mb_tb 1029 (by decide +kernel) (by decide +kernel)
theorem ms_X6_fits : Cond.selects RX6 yX6_fits yX6_fits ∈ mb_GW := mb_tb 1030 (by decide +kernel) (by decide +kernel)
theorem mc_X6_fits : Cond.code yX6_fits cX6_fits 3 (some .boolean) ∈ mb_GW := mb_tb 1031 (by decide +kernel) (by decide +kernel)
theorem wl_L_140 : Cond.methodLink RL 140 yL_info ∈ mb_GW := mb_tb 621 (by decide +kernel) (by decide +kernel)
theorem wl_L_142 : Cond.methodLink RL 142 yX6_info ∈ mb_GW := mb_tb 1036 (by decide +kernel) (by decide +kernel)
theorem mi_X6_info : Cond.instanceMethod yX6_info ∈ mb_GW := mb_tb 1037 (by decide +kernel) (by decide +kernel)
theorem ms_X6_info : Cond.selects RX6 yX6_info yX6_info ∈ mb_GW := mb_tb 1038 (by decide +kernel) (by decide +kernel)
theorem mc_X6_info : Cond.code yX6_info cX6_info 2 (some .int) ∈ mb_GW := mb_tb 1039 (by decide +kernel) (by decide +kernel)
theorem wl_L_143 : Cond.methodLink RL 143 yL_place ∈ mb_GW := mb_tb 625 (by decide +kernel) (by decide +kernel)
theorem wl_L_145 : Cond.methodLink RL 145 yX6_place ∈ mb_GW := mb_tb 1056 (by decide +kernel) (by decide +kernel)
theorem mi_X6_place : Cond.instanceMethod yX6_place ∈ mb_GW := mb_tb 1057 (by decide +kernel) (by decide +kernel)
theorem ms_X6_place : Cond.selects RX6 yX6_place yX6_place ∈ mb_GW := mb_tb 1058 (by decide +kernel) (by decide +kernel)
theorem mc_X6_place : Cond.code yX6_place cX6_place 4 (some .int) ∈ mb_GW := mb_tb 1059 (by decide +kernel) (by decide +kernel)
theorem wl_L_146 : Cond.methodLink RL 146 yL_leave ∈ mb_GW := mb_tb 635 (by decide +kernel) (by decide +kernel)
theorem wl_L_148 : Cond.methodLink RL 148 yX6_leave ∈ mb_GW := mb_tb 1068 (by decide +kernel) (by decide +kernel)
theorem mi_X6_leave : Cond.instanceMethod yX6_leave ∈ mb_GW := mb_tb 1069 (by decide +kernel) (by decide +kernel)
theorem ms_X6_leave : Cond.selects RX6 yX6_leave yX6_leave ∈ mb_GW := mb_tb 1070 (by decide +kernel) (by decide +kernel)
theorem mc_X6_leave : Cond.code yX6_leave cX6_leave 3 (some .int) ∈ mb_GW := mb_tb 1071 (by decide +kernel) (by decide +kernel)
theorem wl_L_149 : Cond.methodLink RL 149 yL_change ∈ mb_GW := mb_tb 643 (by decide +kernel) (by decide +kernel)
theorem wl_L_151 : Cond.methodLink RL 151 yX6_change ∈ mb_GW := mb_tb 1072 (by decide +kernel) (by decide +kernel)
theorem mi_X6_change : Cond.instanceMethod yX6_change ∈ mb_GW := mb_tb 1073 (by decide +kernel) (by decide +kernel)
theorem ms_X6_change : Cond.selects RX6 yX6_change yX6_change ∈ mb_GW := mb_tb 1074 (by decide +kernel) (by decide +kernel)
theorem mc_X6_change : Cond.code yX6_change cX6_change 5 (some .int) ∈ mb_GW := mb_tb 1075 (by decide +kernel) (by decide +kernel)
theorem wl_L_152 : Cond.methodLink RL 152 yL_await ∈ mb_GW := mb_tb 656 (by decide +kernel) (by decide +kernel)
theorem wl_L_154 : Cond.methodLink RL 154 yX6_await ∈ mb_GW := mb_tb 1080 (by decide +kernel) (by decide +kernel)
theorem mi_X6_await : Cond.instanceMethod yX6_await ∈ mb_GW := mb_tb 1081 (by decide +kernel) (by decide +kernel)
theorem ms_X6_await : Cond.selects RX6 yX6_await yX6_await ∈ mb_GW := mb_tb 1082 (by decide +kernel) (by decide +kernel)
theorem mc_X6_await : Cond.code yX6_await cX6_await 2 (some .int) ∈ mb_GW := mb_tb 1083 (by decide +kernel) (by decide +kernel)
theorem wl_L_155 : Cond.methodLink RL 155 yL_offer ∈ mb_GW := mb_tb 670 (by decide +kernel) (by decide +kernel)
theorem wl_L_157 : Cond.methodLink RL 157 yX6_offer ∈ mb_GW := mb_tb 1092 (by decide +kernel) (by decide +kernel)
theorem mi_X6_offer : Cond.instanceMethod yX6_offer ∈ mb_GW := mb_tb 1093 (by decide +kernel) (by decide +kernel)
theorem ms_X6_offer : Cond.selects RX6 yX6_offer yX6_offer ∈ mb_GW := mb_tb 1094 (by decide +kernel) (by decide +kernel)
theorem mc_X6_offer : Cond.code yX6_offer cX6_offer 5 (some .int) ∈ mb_GW := mb_tb 1095 (by decide +kernel) (by decide +kernel)
theorem wl_L_158 : Cond.methodLink RL 158 yX5_waiting ∈ mb_GW := mb_tb 230 (by decide +kernel) (by decide +kernel)
theorem mi_X5_waiting : Cond.instanceMethod yX5_waiting ∈ mb_GW := mb_tb 231 (by decide +kernel) (by decide +kernel)
theorem ms_X5_waiting : Cond.selects RX5 yX5_waiting yX5_waiting ∈ mb_GW := mb_tb 232 (by decide +kernel) (by decide +kernel)
theorem mc_X5_waiting : Cond.code yX5_waiting cX5_waiting 2 (some .int) ∈ mb_GW := mb_tb 233 (by decide +kernel) (by decide +kernel)
theorem wl_L_161 : Cond.methodLink RL 161 yX6_waiting ∈ mb_GW := mb_tb 1100 (by decide +kernel) (by decide +kernel)
theorem mi_X6_waiting : Cond.instanceMethod yX6_waiting ∈ mb_GW := mb_tb 1101 (by decide +kernel) (by decide +kernel)
theorem ms_X6_waiting : Cond.selects RX6 yX6_waiting yX6_waiting ∈ mb_GW := mb_tb 1102 (by decide +kernel) (by decide +kernel)
theorem mc_X6_waiting : Cond.code yX6_waiting cX6_waiting 2 (some .int) ∈ mb_GW := mb_tb 1103 (by decide +kernel) (by decide +kernel)
theorem wl_L_162 : Cond.methodLink RL 162 yL_bestBerth ∈ mb_GW := mb_tb 682 (by decide +kernel) (by decide +kernel)
theorem wl_L_164 : Cond.methodLink RL 164 yX6_bestBerth ∈ mb_GW := mb_tb 1104 (by decide +kernel) (by decide +kernel)
theorem mi_X6_bestBerth : Cond.instanceMethod yX6_bestBerth ∈ mb_GW := mb_tb 1105 (by decide +kernel) (by decide +kernel)
theorem ms_X6_bestBerth : Cond.selects RX6 yX6_bestBerth yX6_bestBerth ∈ mb_GW := mb_tb 1106 (by decide +kernel) (by decide +kernel)
theorem mc_X6_bestBerth : Cond.code yX6_bestBerth cX6_bestBerth 2 (some .int) ∈ mb_GW := mb_tb 1107 (by decide +kernel) (by decide +kernel)
theorem wl_L_165 : Cond.methodLink RL 165 yL_pass ∈ mb_GW := mb_tb 689 (by decide +kernel) (by decide +kernel)
theorem wl_L_167 : Cond.methodLink RL 167 yX6_pass ∈ mb_GW := mb_tb 1112 (by decide +kernel) (by decide +kernel)
theorem mi_X6_pass : Cond.instanceMethod yX6_pass ∈ mb_GW := mb_tb 1113 (by decide +kernel) (by decide +kernel)
theorem ms_X6_pass : Cond.selects RX6 yX6_pass yX6_pass ∈ mb_GW := mb_tb 1114 (by decide +kernel) (by decide +kernel)
theorem mc_X6_pass : Cond.code yX6_pass cX6_pass 5 (some .int) ∈ mb_GW := mb_tb 1115 (by decide +kernel) (by decide +kernel)
theorem wl_L_168 : Cond.methodLink RL 168 yL_pay ∈ mb_GW := mb_tb 753 (by decide +kernel) (by decide +kernel)
theorem wl_L_170 : Cond.methodLink RL 170 yX6_pay ∈ mb_GW := mb_tb 1150 (by decide +kernel) (by decide +kernel)
theorem mi_X6_pay : Cond.instanceMethod yX6_pay ∈ mb_GW := mb_tb 1151 (by decide +kernel) (by decide +kernel)
theorem ms_X6_pay : Cond.selects RX6 yX6_pay yX6_pay ∈ mb_GW := mb_tb 1152 (by decide +kernel) (by decide +kernel)
theorem mc_X6_pay : Cond.code yX6_pay cX6_pay 5 (some .int) ∈ mb_GW := mb_tb 1153 (by decide +kernel) (by decide +kernel)
theorem wl_L_171 : Cond.methodLink RL 171 yL_charge ∈ mb_GW := mb_tb 761 (by decide +kernel) (by decide +kernel)
theorem wl_L_173 : Cond.methodLink RL 173 yX6_charge ∈ mb_GW := mb_tb 1159 (by decide +kernel) (by decide +kernel)
theorem mi_X6_charge : Cond.instanceMethod yX6_charge ∈ mb_GW := mb_tb 1160 (by decide +kernel) (by decide +kernel)
theorem ms_X6_charge : Cond.selects RX6 yX6_charge yX6_charge ∈ mb_GW := mb_tb 1161 (by decide +kernel) (by decide +kernel)
theorem mc_X6_charge : Cond.code yX6_charge cX6_charge 3 (some .int) ∈ mb_GW := mb_tb 1162 (by decide +kernel) (by decide +kernel)
theorem wl_L_174 : Cond.methodLink RL 174 yX5_owed ∈ mb_GW := mb_tb 250 (by decide +kernel) (by decide +kernel)
theorem mi_X5_owed : Cond.instanceMethod yX5_owed ∈ mb_GW := mb_tb 251 (by decide +kernel) (by decide +kernel)
theorem ms_X5_owed : Cond.selects RX5 yX5_owed yX5_owed ∈ mb_GW := mb_tb 252 (by decide +kernel) (by decide +kernel)
theorem mc_X5_owed : Cond.code yX5_owed cX5_owed 1 (some .long) ∈ mb_GW := mb_tb 253 (by decide +kernel) (by decide +kernel)
theorem wl_L_178 : Cond.methodLink RL 178 yX6_owed ∈ mb_GW := mb_tb 1163 (by decide +kernel) (by decide +kernel)
theorem mi_X6_owed : Cond.instanceMethod yX6_owed ∈ mb_GW := mb_tb 1164 (by decide +kernel) (by decide +kernel)
theorem ms_X6_owed : Cond.selects RX6 yX6_owed yX6_owed ∈ mb_GW := mb_tb 1165 (by decide +kernel) (by decide +kernel)
theorem mc_X6_owed : Cond.code yX6_owed cX6_owed 1 (some .long) ∈ mb_GW := mb_tb 1166 (by decide +kernel) (by decide +kernel)
theorem wl_L_179 : Cond.methodLink RL 179 yX5_paid ∈ mb_GW := mb_tb 258 (by decide +kernel) (by decide +kernel)
theorem mi_X5_paid : Cond.instanceMethod yX5_paid ∈ mb_GW := mb_tb 259 (by decide +kernel) (by decide +kernel)
theorem ms_X5_paid : Cond.selects RX5 yX5_paid yX5_paid ∈ mb_GW := mb_tb 260 (by decide +kernel) (by decide +kernel)
theorem mc_X5_paid : Cond.code yX5_paid cX5_paid 1 (some .long) ∈ mb_GW := mb_tb 261 (by decide +kernel) (by decide +kernel)
theorem wl_L_182 : Cond.methodLink RL 182 yX6_paid ∈ mb_GW := mb_tb 1171 (by decide +kernel) (by decide +kernel)
theorem mi_X6_paid : Cond.instanceMethod yX6_paid ∈ mb_GW := mb_tb 1172 (by decide +kernel) (by decide +kernel)
theorem ms_X6_paid : Cond.selects RX6 yX6_paid yX6_paid ∈ mb_GW := mb_tb 1173 (by decide +kernel) (by decide +kernel)
theorem mc_X6_paid : Cond.code yX6_paid cX6_paid 1 (some .long) ∈ mb_GW := mb_tb 1174 (by decide +kernel) (by decide +kernel)
theorem wl_L_183 : Cond.methodLink RL 183 yL_owesAfter ∈ mb_GW := mb_tb 771 (by decide +kernel) (by decide +kernel)
theorem wl_L_185 : Cond.methodLink RL 185 yX6_owesAfter ∈ mb_GW := mb_tb 1175 (by decide +kernel) (by decide +kernel)
theorem mi_X6_owesAfter : Cond.instanceMethod yX6_owesAfter ∈ mb_GW := mb_tb 1176 (by decide +kernel) (by decide +kernel)
theorem ms_X6_owesAfter : Cond.selects RX6 yX6_owesAfter yX6_owesAfter ∈ mb_GW := mb_tb 1177 (by decide +kernel) (by decide +kernel)
theorem mc_X6_owesAfter : Cond.code yX6_owesAfter cX6_owesAfter 5 (some .int) ∈ mb_GW := mb_tb 1178 (by decide +kernel) (by decide +kernel)
theorem wl_L_186 : Cond.methodLink RL 186 yL_groundsIn ∈ mb_GW := mb_tb 778 (by decide +kernel) (by decide +kernel)
theorem wl_L_188 : Cond.methodLink RL 188 yX6_groundsIn ∈ mb_GW := mb_tb 1179 (by decide +kernel) (by decide +kernel)
theorem mi_X6_groundsIn : Cond.instanceMethod yX6_groundsIn ∈ mb_GW := mb_tb 1180 (by decide +kernel) (by decide +kernel)
theorem ms_X6_groundsIn : Cond.selects RX6 yX6_groundsIn yX6_groundsIn ∈ mb_GW := mb_tb 1181 (by decide +kernel) (by decide +kernel)
theorem mc_X6_groundsIn : Cond.code yX6_groundsIn cX6_groundsIn 2 (some .int) ∈ mb_GW := mb_tb 1182 (by decide +kernel) (by decide +kernel)
theorem wl_L_189 : Cond.methodLink RL 189 yL_winterBerth ∈ mb_GW := mb_tb 785 (by decide +kernel) (by decide +kernel)
theorem wl_L_191 : Cond.methodLink RL 191 yX6_winterBerth ∈ mb_GW := mb_tb 1187 (by decide +kernel) (by decide +kernel)
theorem mi_X6_winterBerth : Cond.instanceMethod yX6_winterBerth ∈ mb_GW := mb_tb 1188 (by decide +kernel) (by decide +kernel)
theorem ms_X6_winterBerth : Cond.selects RX6 yX6_winterBerth yX6_winterBerth ∈ mb_GW := mb_tb 1189 (by decide +kernel) (by decide +kernel)
theorem mc_X6_winterBerth : Cond.code yX6_winterBerth cX6_winterBerth 3 (some .int) ∈ mb_GW := mb_tb 1190 (by decide +kernel) (by decide +kernel)
theorem wl_L_192 : Cond.methodLink RL 192 yL_wouldGoAshore ∈ mb_GW := mb_tb 798 (by decide +kernel) (by decide +kernel)
theorem wl_L_194 : Cond.methodLink RL 194 yX6_wouldGoAshore ∈ mb_GW := mb_tb 1191 (by decide +kernel) (by decide +kernel)
theorem mi_X6_wouldGoAshore : Cond.instanceMethod yX6_wouldGoAshore ∈ mb_GW := mb_tb 1192 (by decide +kernel) (by decide +kernel)
theorem ms_X6_wouldGoAshore : Cond.selects RX6 yX6_wouldGoAshore yX6_wouldGoAshore ∈ mb_GW := mb_tb 1193 (by decide +kernel) (by decide +kernel)
theorem mc_X6_wouldGoAshore : Cond.code yX6_wouldGoAshore cX6_wouldGoAshore 3 (some .int) ∈ mb_GW := mb_tb 1194 (by decide +kernel) (by decide +kernel)
theorem wl_L_195 : Cond.methodLink RL 195 yX5_greatestClearance ∈ mb_GW := mb_tb 262 (by decide +kernel) (by decide +kernel)
theorem mi_X5_greatestClearance : Cond.instanceMethod yX5_greatestClearance ∈ mb_GW := mb_tb 263 (by decide +kernel) (by decide +kernel)
theorem ms_X5_greatestClearance : Cond.selects RX5 yX5_greatestClearance yX5_greatestClearance ∈ mb_GW := mb_tb 264 (by decide +kernel) (by decide +kernel)
theorem mc_X5_greatestClearance : Cond.code yX5_greatestClearance cX5_greatestClearance 1 (some .int) ∈ mb_GW := mb_tb 265 (by decide +kernel) (by decide +kernel)
theorem wl_L_198 : Cond.methodLink RL 198 yX6_greatestClearance ∈ mb_GW := mb_tb 1195 (by decide +kernel) (by decide +kernel)
theorem mi_X6_greatestClearance : Cond.instanceMethod yX6_greatestClearance ∈ mb_GW := mb_tb 1196 (by decide +kernel) (by decide +kernel)
theorem ms_X6_greatestClearance : Cond.selects RX6 yX6_greatestClearance yX6_greatestClearance ∈ mb_GW := mb_tb 1197 (by decide +kernel) (by decide +kernel)
theorem mc_X6_greatestClearance : Cond.code yX6_greatestClearance cX6_greatestClearance 6 (some .int) ∈ mb_GW := mb_tb 1198 (by decide +kernel) (by decide +kernel)
theorem wl_L_199 : Cond.methodLink RL 199 yL_missingDepth ∈ mb_GW := mb_tb 805 (by decide +kernel) (by decide +kernel)
theorem wl_L_201 : Cond.methodLink RL 201 yX6_missingDepth ∈ mb_GW := mb_tb 1199 (by decide +kernel) (by decide +kernel)
theorem mi_X6_missingDepth : Cond.instanceMethod yX6_missingDepth ∈ mb_GW := mb_tb 1200 (by decide +kernel) (by decide +kernel)
theorem ms_X6_missingDepth : Cond.selects RX6 yX6_missingDepth yX6_missingDepth ∈ mb_GW := mb_tb 1201 (by decide +kernel) (by decide +kernel)
theorem mc_X6_missingDepth : Cond.code yX6_missingDepth cX6_missingDepth 3 (some .int) ∈ mb_GW := mb_tb 1202 (by decide +kernel) (by decide +kernel)
theorem wl_L_202 : Cond.methodLink RL 202 yL_type ∈ mb_GW := mb_tb 816 (by decide +kernel) (by decide +kernel)
theorem wl_L_204 : Cond.methodLink RL 204 yX6_type ∈ mb_GW := mb_tb 1203 (by decide +kernel) (by decide +kernel)
theorem mi_X6_type : Cond.instanceMethod yX6_type ∈ mb_GW := mb_tb 1204 (by decide +kernel) (by decide +kernel)
theorem ms_X6_type : Cond.selects RX6 yX6_type yX6_type ∈ mb_GW := mb_tb 1205 (by decide +kernel) (by decide +kernel)
theorem mc_X6_type : Cond.code yX6_type cX6_type 2 (some .int) ∈ mb_GW := mb_tb 1206 (by decide +kernel) (by decide +kernel)
theorem wl_L_205 : Cond.methodLink RL 205 yX5_clearText ∈ mb_GW := mb_tb 277 (by decide +kernel) (by decide +kernel)
theorem mi_X5_clearText : Cond.instanceMethod yX5_clearText ∈ mb_GW := mb_tb 278 (by decide +kernel) (by decide +kernel)
theorem ms_X5_clearText : Cond.selects RX5 yX5_clearText yX5_clearText ∈ mb_GW := mb_tb 279 (by decide +kernel) (by decide +kernel)
theorem mc_X5_clearText : Cond.code yX5_clearText cX5_clearText 2 (some .int) ∈ mb_GW := mb_tb 280 (by decide +kernel) (by decide +kernel)
theorem wl_L_208 : Cond.methodLink RL 208 yX6_clearText ∈ mb_GW := mb_tb 1207 (by decide +kernel) (by decide +kernel)
theorem mi_X6_clearText : Cond.instanceMethod yX6_clearText ∈ mb_GW := mb_tb 1208 (by decide +kernel) (by decide +kernel)
theorem ms_X6_clearText : Cond.selects RX6 yX6_clearText yX6_clearText ∈ mb_GW := mb_tb 1209 (by decide +kernel) (by decide +kernel)
theorem mc_X6_clearText : Cond.code yX6_clearText cX6_clearText 2 (some .int) ∈ mb_GW := mb_tb 1210 (by decide +kernel) (by decide +kernel)
theorem wl_L_209 : Cond.methodLink RL 209 yX5_fault ∈ mb_GW := mb_tb 281 (by decide +kernel) (by decide +kernel)
theorem mi_X5_fault : Cond.instanceMethod yX5_fault ∈ mb_GW := mb_tb 282 (by decide +kernel) (by decide +kernel)
theorem ms_X5_fault : Cond.selects RX5 yX5_fault yX5_fault ∈ mb_GW := mb_tb 283 (by decide +kernel) (by decide +kernel)
theorem mc_X5_fault : Cond.code yX5_fault cX5_fault 1 (some .int) ∈ mb_GW := mb_tb 284 (by decide +kernel) (by decide +kernel)
theorem wl_L_212 : Cond.methodLink RL 212 yX6_fault ∈ mb_GW := mb_tb 1211 (by decide +kernel) (by decide +kernel)
theorem mi_X6_fault : Cond.instanceMethod yX6_fault ∈ mb_GW := mb_tb 1212 (by decide +kernel) (by decide +kernel)
theorem ms_X6_fault : Cond.selects RX6 yX6_fault yX6_fault ∈ mb_GW := mb_tb 1213 (by decide +kernel) (by decide +kernel)
theorem mc_X6_fault : Cond.code yX6_fault cX6_fault 1 (some .int) ∈ mb_GW := mb_tb 1214 (by decide +kernel) (by decide +kernel)
theorem wl_L_213 : Cond.methodLink RL 213 yL_undo ∈ mb_GW := mb_tb 829 (by decide +kernel) (by decide +kernel)
theorem wl_L_215 : Cond.methodLink RL 215 yX6_undo ∈ mb_GW := mb_tb 897 (by decide +kernel) (by decide +kernel)
theorem mi_X6_undo : Cond.instanceMethod yX6_undo ∈ mb_GW := mb_tb 898 (by decide +kernel) (by decide +kernel)
theorem ms_X6_undo : Cond.selects RX6 yX6_undo yX6_undo ∈ mb_GW := mb_tb 899 (by decide +kernel) (by decide +kernel)
theorem mc_X6_undo : Cond.code yX6_undo cX6_undo 2 (some .int) ∈ mb_GW := mb_tb 900 (by decide +kernel) (by decide +kernel)
theorem wl_L_216 : Cond.methodLink RL 216 yX5_checksum ∈ mb_GW := mb_tb 301 (by decide +kernel) (by decide +kernel)
theorem mi_X5_checksum : Cond.instanceMethod yX5_checksum ∈ mb_GW := mb_tb 302 (by decide +kernel) (by decide +kernel)
theorem ms_X5_checksum : Cond.selects RX5 yX5_checksum yX5_checksum ∈ mb_GW := mb_tb 303 (by decide +kernel) (by decide +kernel)
theorem mc_X5_checksum : Cond.code yX5_checksum cX5_checksum 5 (some .long) ∈ mb_GW := mb_tb 304 (by decide +kernel) (by decide +kernel)
theorem wl_L_219 : Cond.methodLink RL 219 yX6_checksum ∈ mb_GW := mb_tb 1215 (by decide +kernel) (by decide +kernel)
theorem mi_X6_checksum : Cond.instanceMethod yX6_checksum ∈ mb_GW := mb_tb 1216 (by decide +kernel) (by decide +kernel)
theorem ms_X6_checksum : Cond.selects RX6 yX6_checksum yX6_checksum ∈ mb_GW := mb_tb 1217 (by decide +kernel) (by decide +kernel)
theorem mc_X6_checksum : Cond.code yX6_checksum cX6_checksum 3 (some .long) ∈ mb_GW := mb_tb 1218 (by decide +kernel) (by decide +kernel)
def mb_PI (es : List String) (a : Option mb_RS) (f6 : mb_AH → Option mb_RS) (S : mb_AH → Prop) : Prop :=
  (∃ (v : Int32) (h1 h3 : mb_AH), a = some (.inl (some (.inl v)), h1) ∧ f6 (mb_sL h1 30 0 0 0 v.toInt64) = some (.inl (some (.inl v)), h3) ∧ h3.1 6 0 0 4 = 0 ∧ h3.2.1 30 0 0 0 = v.toInt64 ∧ S h3) ∨
  (∃ (j : Nat) (E : String) (h1 : mb_AH) (b : Int32) (h3 : mb_AH), es[j]? = some E ∧ a = some (.inr E, h1) ∧ f6 h1 = some (.inl (some (.inl b)), h3) ∧ h3.1 6 0 0 4 = nI (j + 1) ∧ S h3)
def mb_PZ (es : List String) (a : Option mb_RS) (f6 : mb_AH → Option mb_RS) (S : mb_AH → Prop) : Prop :=
  (∃ (h1 h3 : mb_AH), a = some (.inl (some (.inl 0)), h1) ∧ f6 (mb_sL h1 30 0 0 0 0) = some (.inl (some (.inl 0)), h3) ∧ h3.1 6 0 0 4 = 0 ∧ h3.2.1 30 0 0 0 = 0 ∧ S h3) ∨
  (∃ (h1 h3 : mb_AH), a = some (.inl (some (.inl 1)), h1) ∧ f6 (mb_sL h1 30 0 0 0 1) = some (.inl (some (.inl 1)), h3) ∧ h3.1 6 0 0 4 = 0 ∧ h3.2.1 30 0 0 0 = 1 ∧ S h3) ∨
  (∃ (j : Nat) (E : String) (h1 : mb_AH) (b : Int32) (h3 : mb_AH), es[j]? = some E ∧ a = some (.inr E, h1) ∧ f6 h1 = some (.inl (some (.inl b)), h3) ∧ h3.1 6 0 0 4 = nI (j + 1) ∧ S h3)
def mb_PP (a : Option mb_RS) (f6 : mb_AH → Option mb_RS) (S : mb_AH → Prop) : Prop := ∃ (v : Int32) (h1 h3 : mb_AH), a = some (.inl (some (.inl v)), h1) ∧ f6 h1 = some (.inl (some (.inl v)), h3) ∧ S h3
def mb_PL (a : Option mb_RS) (f6 : mb_AH → Option mb_RS) (S : mb_AH → Prop) : Prop := ∃ (v : Int64) (h1 h3 : mb_AH), a = some (.inl (some (.inr (.inl v))), h1) ∧ f6 h1 = some (.inl (some (.inr (.inl v))), h3) ∧ S h3
theorem mb_lc0 (x : Int64) : lg_cmp x x = 0 := by
  unfold lg_cmp
  rw [if_neg (by rw [gt_iff_lt, Int64.lt_iff_toInt_lt]; omega), if_pos rfl]
abbrev mb_A9 (s : State) : Nat → Prop := fun q => s.heap.size ≤ q
section MBL
variable {p : Program} {l : Launch} {e : Env} {s : State} {m : MethodId} {below : List Frame} {meth : Method} {c : Code} {b L : Nat} {xs : Nat → Int32} {H : Heap} {locs : List Loc} {cells slots : Nat} {Q : State → Prop} {ls : Array Slot}
variable {G : mb_G} {h : mb_AH} {x4 : Int32} {S : mb_AH → Prop}
theorem mb_outld {R : Room} {args : Array Value} {own : String} {cc : ByteArray} {nL pc : Nat} {A0 : Nat → Prop} {rest : List Value} (B : mb_Lx p l s m args c G own cc nL A0) (hw : mb_wd G h H) (dg : decode cc pc = .ok (.laload, 1))
    (k : W p l e R s m args below meth c H locs cells slots Q (F0 m (pc + 1) ls (.long (h.2.1 30 0 0 0) :: rest))) : W p l e R s m args below meth c H locs cells slots Q (F0 m pc ls (.int 0 :: .ref (G.2.2 (30, 0, 0)) :: rest)) := by
  obtain ⟨q, hq⟩ := mb_at (t := (30, 0, 0)) ⟨by decide, by decide⟩
  exact va_lald B.1 B.2.1 B.2.2.2.2.2.1 hw.1 q 2 (mb_wl_at G h hq) rfl (by unfold vp_in; decide) dg k
set_option maxRecDepth 100000 in
set_option maxHeartbeats 4000000 in
theorem lc_0 (hst : l.stackTraces = false) (B : mb_Lx p l s m #[Value.ref b] c G RL code 7 (mb_A9 s)) (hX : va_X b L xs s s.heap) (hbl : b < s.heap.size) (hS : va_S (mb_A9 s) s.heap H locs) (hw : mb_wd G h H) (hl : lv_has ls 7 [(4, .int x4), (3, .ref (G.2.2 (30, 0, 0))), (2, .ref (G.2.2 (6, 0, 0))), (1, .ref (G.2.2 (0, 0, 0))), (0, .ref b)]) (hc : cells + 1 ≤ 601024) (hs : slots + 6 ≤ 7293034)  (hps : mb_PI ["java/lang/IllegalArgumentException"] (F_X5_setTable h) (F_X6_setTable ) S)
    (kk : ∀ (h3 : mb_AH) (H3 : Heap) (locs3 : List Loc) (ls3 : Array Slot) (cells3 slots3 : Nat), S h3 → mb_wd G h3 H3 → va_S (mb_A9 s) s.heap H3 locs3 → lv_has ls3 7 [(4, .int x4), (3, .ref (G.2.2 (30, 0, 0))), (2, .ref (G.2.2 (6, 0, 0))), (1, .ref (G.2.2 (0, 0, 0))), (0, .ref b)] → cells3 ≤ cells + 1 → slots3 ≤ slots + 6 → W p l e room_1 s m #[Value.ref b] below meth c H3 locs3 cells3 slots3 Q (F0 m 1925 ls3 [])) : W p l e room_1 s m #[Value.ref b] below meth c H locs cells slots Q (F0 m 184 ls []) := by
  rcases hps with ⟨v, h1, h3, e5, e6, eT, eO, eS⟩ | ⟨j, E, h1, b9, h3, ej, e5, e6, eT, eS⟩
  · refine lv_aload_n B.1 B.2.1 dL_law_184 rfl (lv_at hl 3 rfl) ?_
    refine lv_aload_n B.1 B.2.1 dL_law_185 rfl (lv_at hl 1 rfl) ?_
    refine mb_xH (as := [mb_F 0 0 0, mb_F 30 0 0]) (n := 2) (mc := 0) (ms := 0) (rest := []) B hS hw hl.1 ⟨⟨by decide, by decide⟩, ⟨by decide, by decide⟩, trivial⟩ (Nat.zero_le _) (H_setTable_r hst B.2.2.2.2.2.2.2.1 e5) wl_L_103 mt_L_setTable mn_L mw_L_setTable (by decide +kernel) rfl ⟨by show 8 + 5 + 1 ≤ 2048; decide, by show _ ≤ 84000; decide, by show cells + 0 ≤ 601024; omega, by show slots + 0 ≤ 7293034; omega⟩ rfl dL_law_186 (fun H1 locs1 hw1 hS1 _ _ => ?_)
    refine lv_istore (lv' := [(5, .int 0), (4, .int x4), (3, .ref (G.2.2 (30, 0, 0))), (2, .ref (G.2.2 (6, 0, 0))), (1, .ref (G.2.2 (0, 0, 0))), (0, .ref b)]) B.1 B.2.1 dL_law_189 hl (by decide) rfl (fun ls hl => ?_)
    refine lv_aload_n B.1 B.2.1 dL_law_191 rfl (lv_at hl 3 rfl) ?_
    refine mb_xV (as := []) (n := 0) (d2 := 4) (ci := 6) (N := 16) (rest := []) B hS1 hw1 hl.1 ⟨⟨by decide, by decide⟩, trivial⟩ (Nat.le_of_ble_eq_true rfl) (C_X6_setTable hst B.2.2.2.2.2.2.2.1 e6) (mb_gV wl_L_108 mi_X6_setTable ms_X6_setTable mn_X6 mc_X6_setTable) (by decide +kernel) rfl rfl rfl ⟨by show 8 + 4 + 1 ≤ 2048; decide, by show _ ≤ 84000; decide, by show cells + 0 + 0 ≤ 601024; omega, by show slots + 0 + 0 ≤ 7293034; omega⟩ rfl dL_law_192 (fun v1 H1c locs1c hv1 _ hw1c hS1c _ _ => ?_) (fun E9 ce9 q9 H9 locs9 hv9 _ _ _ _ _ _ _ => by cases hv9)
    cases hv1
    refine lv_istore (lv' := [(6, .int v), (5, .int 0), (4, .int x4), (3, .ref (G.2.2 (30, 0, 0))), (2, .ref (G.2.2 (6, 0, 0))), (1, .ref (G.2.2 (0, 0, 0))), (0, .ref b)]) B.1 B.2.1 dL_law_195 hl (by decide) rfl (fun ls hl => ?_)
    refine lv_aload_n B.1 B.2.1 dL_law_197 rfl (lv_at hl 4 rfl) ?_
    refine mb_xV (as := []) (n := 0) (d2 := 0) (ci := 6) (N := 16) (rest := []) B hS1c hw1c hl.1 ⟨⟨by decide, by decide⟩, trivial⟩ (Nat.le_of_ble_eq_true rfl) (C_X6_thrown hst B.2.2.2.2.2.2.2.1 (show F_X6_thrown _ = some (.inl (some (.inl (h3.1 6 0 0 4))), h3) from rfl)) (mb_gV wl_L_109 mi_X6_thrown ms_X6_thrown mn_X6 mc_X6_thrown) (by decide +kernel) rfl rfl rfl ⟨by show 8 + 0 + 1 ≤ 2048; decide, by show _ ≤ 84000; decide, by show cells + 0 + 0 ≤ 601024; omega, by show slots + 0 + 0 ≤ 7293034; omega⟩ rfl dL_law_198 (fun v2 H2c locs2c hv2 _ hw2c hS2c _ _ => ?_) (fun E9 ce9 q9 H9 locs9 hv9 _ _ _ _ _ _ _ => by cases hv9)
    cases hv2
    refine lv_iload B.1 B.2.1 dL_law_201 (lv_at hl 1 rfl) ?_
    refine lv_icmp_eq (tgt := 208) B.1 B.2.1 dL_law_203 (by decide) (fun _ => ?_) (fun z9 => absurd eT z9)
    refine lv_iload B.1 B.2.1 dL_law_208 (lv_at hl 1 rfl) ?_
    refine lv_if_ne (tgt := 225) B.1 B.2.1 dL_law_210 (by decide) (fun z9 => absurd rfl z9) (fun _ => ?_)
    refine lv_aload_n B.1 B.2.1 dL_law_213 rfl (lv_at hl 3 rfl) ?_
    refine lv_iconst (v := 0) B.1 B.2.1 dL_law_214 (by decide) ?_
    refine mb_outld B hw2c dL_law_215 ?_
    refine lv_iload B.1 B.2.1 dL_law_216 (lv_at hl 0 rfl) ?_
    refine lv_i2l B.1 B.2.1 dL_law_218 rfl ?_
    refine W.lcmp B.1 B.2.1 dL_law_219 ?_
    refine lv_if_eq (tgt := 225) B.1 B.2.1 dL_law_220 (by decide) (fun _ => ?_) (fun z9 => absurd (by rw [eO]; exact mb_lc0 _) z9)
    refine lv_goto (tgt := 1925) B.1 B.2.1 dL_law_225 (by decide) ?_
    exact kk _ _ _ _ _ _ eS hw2c hS2c (lv_sub hl [2, 3, 4, 5, 6] rfl) (by simp only [mb_mc, mb_ms]; omega) (by simp only [mb_mc, mb_ms]; omega)
  · match j, ej with
    | 0, ej =>
      cases ej
      refine lv_aload_n B.1 B.2.1 dL_law_184 rfl (lv_at hl 3 rfl) ?_
      refine lv_aload_n B.1 B.2.1 dL_law_185 rfl (lv_at hl 1 rfl) ?_
      refine mb_xH (as := [mb_F 0 0 0, mb_F 30 0 0]) (n := 2) (mc := 1) (ms := 6) (rest := []) B hS hw hl.1 ⟨⟨by decide, by decide⟩, ⟨by decide, by decide⟩, trivial⟩ (Nat.zero_le _) (H_setTable_t1 hst B.2.2.2.2.2.2.2.1 e5) wl_L_103 mt_L_setTable mn_L mw_L_setTable (by decide +kernel) rfl ⟨by show 8 + 5 + 1 ≤ 2048; decide, by show _ ≤ 84000; decide, by show cells + 1 ≤ 601024; omega, by show slots + 6 ≤ 7293034; omega⟩ rfl dL_law_186 (fun H1 locs1 hw1 hS1 _ _ => ?_)
      refine lv_istore (lv' := [(5, .int 1), (4, .int x4), (3, .ref (G.2.2 (30, 0, 0))), (2, .ref (G.2.2 (6, 0, 0))), (1, .ref (G.2.2 (0, 0, 0))), (0, .ref b)]) B.1 B.2.1 dL_law_189 hl (by decide) rfl (fun ls hl => ?_)
      refine lv_aload_n B.1 B.2.1 dL_law_191 rfl (lv_at hl 3 rfl) ?_
      refine mb_xV (as := []) (n := 0) (d2 := 4) (ci := 6) (N := 16) (rest := []) B hS1 hw1 hl.1 ⟨⟨by decide, by decide⟩, trivial⟩ (Nat.le_of_ble_eq_true rfl) (C_X6_setTable hst B.2.2.2.2.2.2.2.1 e6) (mb_gV wl_L_108 mi_X6_setTable ms_X6_setTable mn_X6 mc_X6_setTable) (by decide +kernel) rfl rfl rfl ⟨by show 8 + 4 + 1 ≤ 2048; decide, by show _ ≤ 84000; decide, by show cells + 1 + 0 ≤ 601024; omega, by show slots + 6 + 0 ≤ 7293034; omega⟩ rfl dL_law_192 (fun v1 H1c locs1c hv1 _ hw1c hS1c _ _ => ?_) (fun E9 ce9 q9 H9 locs9 hv9 _ _ _ _ _ _ _ => by cases hv9)
      cases hv1
      refine lv_istore (lv' := [(6, .int b9), (5, .int 1), (4, .int x4), (3, .ref (G.2.2 (30, 0, 0))), (2, .ref (G.2.2 (6, 0, 0))), (1, .ref (G.2.2 (0, 0, 0))), (0, .ref b)]) B.1 B.2.1 dL_law_195 hl (by decide) rfl (fun ls hl => ?_)
      refine lv_aload_n B.1 B.2.1 dL_law_197 rfl (lv_at hl 4 rfl) ?_
      refine mb_xV (as := []) (n := 0) (d2 := 0) (ci := 6) (N := 16) (rest := []) B hS1c hw1c hl.1 ⟨⟨by decide, by decide⟩, trivial⟩ (Nat.le_of_ble_eq_true rfl) (C_X6_thrown hst B.2.2.2.2.2.2.2.1 (show F_X6_thrown _ = some (.inl (some (.inl (h3.1 6 0 0 4))), h3) from rfl)) (mb_gV wl_L_109 mi_X6_thrown ms_X6_thrown mn_X6 mc_X6_thrown) (by decide +kernel) rfl rfl rfl ⟨by show 8 + 0 + 1 ≤ 2048; decide, by show _ ≤ 84000; decide, by show cells + 1 + 0 ≤ 601024; omega, by show slots + 6 + 0 ≤ 7293034; omega⟩ rfl dL_law_198 (fun v2 H2c locs2c hv2 _ hw2c hS2c _ _ => ?_) (fun E9 ce9 q9 H9 locs9 hv9 _ _ _ _ _ _ _ => by cases hv9)
      cases hv2
      refine lv_iload B.1 B.2.1 dL_law_201 (lv_at hl 1 rfl) ?_
      refine lv_icmp_eq (tgt := 208) B.1 B.2.1 dL_law_203 (by decide) (fun _ => ?_) (fun z9 => absurd eT z9)
      refine lv_iload B.1 B.2.1 dL_law_208 (lv_at hl 1 rfl) ?_
      refine lv_if_ne (tgt := 225) B.1 B.2.1 dL_law_210 (by decide) (fun _ => ?_) (fun z9 => absurd z9 (by decide))
      refine lv_goto (tgt := 1925) B.1 B.2.1 dL_law_225 (by decide) ?_
      exact kk _ _ _ _ _ _ eS hw2c hS2c (lv_sub hl [2, 3, 4, 5, 6] rfl) (by simp only [mb_mc, mb_ms]; omega) (by simp only [mb_mc, mb_ms]; omega)
    | k9 + 1, ej => simp at ej
set_option maxRecDepth 100000 in
set_option maxHeartbeats 4000000 in
theorem lc_1 (hst : l.stackTraces = false) (B : mb_Lx p l s m #[Value.ref b] c G RL code 7 (mb_A9 s)) (hX : va_X b L xs s s.heap) (hbl : b < s.heap.size) (hS : va_S (mb_A9 s) s.heap H locs) (hw : mb_wd G h H) (hl : lv_has ls 7 [(4, .int x4), (3, .ref (G.2.2 (30, 0, 0))), (2, .ref (G.2.2 (6, 0, 0))), (1, .ref (G.2.2 (0, 0, 0))), (0, .ref b)]) (hc : cells + 1 ≤ 601024) (hs : slots + 6 ≤ 7293034) (hi1 : vp_in (x4 + 1) L) (hps : mb_PI ["java/lang/IllegalArgumentException"] (F_X5_low (xs (x4 + 1).toNatClampNeg) h) (F_X6_low (xs (x4 + 1).toNatClampNeg)) S)
    (kk : ∀ (h3 : mb_AH) (H3 : Heap) (locs3 : List Loc) (ls3 : Array Slot) (cells3 slots3 : Nat), S h3 → mb_wd G h3 H3 → va_S (mb_A9 s) s.heap H3 locs3 → lv_has ls3 7 [(4, .int x4), (3, .ref (G.2.2 (30, 0, 0))), (2, .ref (G.2.2 (6, 0, 0))), (1, .ref (G.2.2 (0, 0, 0))), (0, .ref b)] → cells3 ≤ cells + 1 → slots3 ≤ slots + 6 → W p l e room_1 s m #[Value.ref b] below meth c H3 locs3 cells3 slots3 Q (F0 m 1925 ls3 [])) : W p l e room_1 s m #[Value.ref b] below meth c H locs cells slots Q (F0 m 228 ls []) := by
  rcases hps with ⟨v, h1, h3, e5, e6, eT, eO, eS⟩ | ⟨j, E, h1, b9, h3, ej, e5, e6, eT, eS⟩
  · refine lv_aload_n B.1 B.2.1 dL_law_228 rfl (lv_at hl 3 rfl) ?_
    refine lv_aload_n B.1 B.2.1 dL_law_229 rfl (lv_at hl 4 rfl) ?_
    refine lv_iload B.1 B.2.1 dL_law_230 (lv_at hl 0 rfl) ?_
    refine lv_iconst (v := 1) B.1 B.2.1 dL_law_232 (by decide) ?_
    refine lv_iadd B.1 B.2.1 dL_law_233 ?_
    refine va_sld B.1 B.2.1 hX hbl (Nat.not_le.mpr hbl) hS hi1 dL_law_234 ?_
    refine lv_aload_n B.1 B.2.1 dL_law_235 rfl (lv_at hl 1 rfl) ?_
    refine mb_xH (as := [mb_F 0 0 0, .inl (xs (x4 + 1).toNatClampNeg), mb_F 30 0 0]) (n := 3) (mc := 0) (ms := 0) (rest := []) B hS hw hl.1 ⟨⟨by decide, by decide⟩, trivial, ⟨by decide, by decide⟩, trivial⟩ (Nat.zero_le _) (H_low_r hst B.2.2.2.2.2.2.2.1 e5) wl_L_112 mt_L_low mn_L mw_L_low (by decide +kernel) rfl ⟨by show 8 + 2 + 1 ≤ 2048; decide, by show _ ≤ 84000; decide, by show cells + 0 ≤ 601024; omega, by show slots + 0 ≤ 7293034; omega⟩ rfl dL_law_236 (fun H1 locs1 hw1 hS1 _ _ => ?_)
    refine lv_istore (lv' := [(5, .int 0), (4, .int x4), (3, .ref (G.2.2 (30, 0, 0))), (2, .ref (G.2.2 (6, 0, 0))), (1, .ref (G.2.2 (0, 0, 0))), (0, .ref b)]) B.1 B.2.1 dL_law_239 hl (by decide) rfl (fun ls hl => ?_)
    refine lv_aload_n B.1 B.2.1 dL_law_241 rfl (lv_at hl 3 rfl) ?_
    refine lv_aload_n B.1 B.2.1 dL_law_242 rfl (lv_at hl 5 rfl) ?_
    refine lv_iload B.1 B.2.1 dL_law_243 (lv_at hl 1 rfl) ?_
    refine lv_iconst (v := 1) B.1 B.2.1 dL_law_245 (by decide) ?_
    refine lv_iadd B.1 B.2.1 dL_law_246 ?_
    refine va_sld B.1 B.2.1 hX hbl (Nat.not_le.mpr hbl) hS1 hi1 dL_law_247 ?_
    refine mb_xV (as := [.inl (xs (x4 + 1).toNatClampNeg)]) (n := 1) (d2 := 1) (ci := 6) (N := 16) (rest := []) B hS1 hw1 hl.1 ⟨⟨by decide, by decide⟩, trivial, trivial⟩ (Nat.le_of_ble_eq_true rfl) (C_X6_low hst B.2.2.2.2.2.2.2.1 e6) (mb_gV wl_L_115 mi_X6_low ms_X6_low mn_X6 mc_X6_low) (by decide +kernel) rfl rfl rfl ⟨by show 8 + 1 + 1 ≤ 2048; decide, by show _ ≤ 84000; decide, by show cells + 0 + 0 ≤ 601024; omega, by show slots + 0 + 0 ≤ 7293034; omega⟩ rfl dL_law_248 (fun v1 H1c locs1c hv1 _ hw1c hS1c _ _ => ?_) (fun E9 ce9 q9 H9 locs9 hv9 _ _ _ _ _ _ _ => by cases hv9)
    cases hv1
    refine lv_istore (lv' := [(6, .int v), (5, .int 0), (4, .int x4), (3, .ref (G.2.2 (30, 0, 0))), (2, .ref (G.2.2 (6, 0, 0))), (1, .ref (G.2.2 (0, 0, 0))), (0, .ref b)]) B.1 B.2.1 dL_law_251 hl (by decide) rfl (fun ls hl => ?_)
    refine lv_aload_n B.1 B.2.1 dL_law_253 rfl (lv_at hl 4 rfl) ?_
    refine mb_xV (as := []) (n := 0) (d2 := 0) (ci := 6) (N := 16) (rest := []) B hS1c hw1c hl.1 ⟨⟨by decide, by decide⟩, trivial⟩ (Nat.le_of_ble_eq_true rfl) (C_X6_thrown hst B.2.2.2.2.2.2.2.1 (show F_X6_thrown _ = some (.inl (some (.inl (h3.1 6 0 0 4))), h3) from rfl)) (mb_gV wl_L_109 mi_X6_thrown ms_X6_thrown mn_X6 mc_X6_thrown) (by decide +kernel) rfl rfl rfl ⟨by show 8 + 0 + 1 ≤ 2048; decide, by show _ ≤ 84000; decide, by show cells + 0 + 0 ≤ 601024; omega, by show slots + 0 + 0 ≤ 7293034; omega⟩ rfl dL_law_254 (fun v2 H2c locs2c hv2 _ hw2c hS2c _ _ => ?_) (fun E9 ce9 q9 H9 locs9 hv9 _ _ _ _ _ _ _ => by cases hv9)
    cases hv2
    refine lv_iload B.1 B.2.1 dL_law_257 (lv_at hl 1 rfl) ?_
    refine lv_icmp_eq (tgt := 264) B.1 B.2.1 dL_law_259 (by decide) (fun _ => ?_) (fun z9 => absurd eT z9)
    refine lv_iload B.1 B.2.1 dL_law_264 (lv_at hl 1 rfl) ?_
    refine lv_if_ne (tgt := 281) B.1 B.2.1 dL_law_266 (by decide) (fun z9 => absurd rfl z9) (fun _ => ?_)
    refine lv_aload_n B.1 B.2.1 dL_law_269 rfl (lv_at hl 3 rfl) ?_
    refine lv_iconst (v := 0) B.1 B.2.1 dL_law_270 (by decide) ?_
    refine mb_outld B hw2c dL_law_271 ?_
    refine lv_iload B.1 B.2.1 dL_law_272 (lv_at hl 0 rfl) ?_
    refine lv_i2l B.1 B.2.1 dL_law_274 rfl ?_
    refine W.lcmp B.1 B.2.1 dL_law_275 ?_
    refine lv_if_eq (tgt := 281) B.1 B.2.1 dL_law_276 (by decide) (fun _ => ?_) (fun z9 => absurd (by rw [eO]; exact mb_lc0 _) z9)
    refine lv_goto (tgt := 1925) B.1 B.2.1 dL_law_281 (by decide) ?_
    exact kk _ _ _ _ _ _ eS hw2c hS2c (lv_sub hl [2, 3, 4, 5, 6] rfl) (by simp only [mb_mc, mb_ms]; omega) (by simp only [mb_mc, mb_ms]; omega)
  · match j, ej with
    | 0, ej =>
      cases ej
      refine lv_aload_n B.1 B.2.1 dL_law_228 rfl (lv_at hl 3 rfl) ?_
      refine lv_aload_n B.1 B.2.1 dL_law_229 rfl (lv_at hl 4 rfl) ?_
      refine lv_iload B.1 B.2.1 dL_law_230 (lv_at hl 0 rfl) ?_
      refine lv_iconst (v := 1) B.1 B.2.1 dL_law_232 (by decide) ?_
      refine lv_iadd B.1 B.2.1 dL_law_233 ?_
      refine va_sld B.1 B.2.1 hX hbl (Nat.not_le.mpr hbl) hS hi1 dL_law_234 ?_
      refine lv_aload_n B.1 B.2.1 dL_law_235 rfl (lv_at hl 1 rfl) ?_
      refine mb_xH (as := [mb_F 0 0 0, .inl (xs (x4 + 1).toNatClampNeg), mb_F 30 0 0]) (n := 3) (mc := 1) (ms := 6) (rest := []) B hS hw hl.1 ⟨⟨by decide, by decide⟩, trivial, ⟨by decide, by decide⟩, trivial⟩ (Nat.zero_le _) (H_low_t1 hst B.2.2.2.2.2.2.2.1 e5) wl_L_112 mt_L_low mn_L mw_L_low (by decide +kernel) rfl ⟨by show 8 + 2 + 1 ≤ 2048; decide, by show _ ≤ 84000; decide, by show cells + 1 ≤ 601024; omega, by show slots + 6 ≤ 7293034; omega⟩ rfl dL_law_236 (fun H1 locs1 hw1 hS1 _ _ => ?_)
      refine lv_istore (lv' := [(5, .int 1), (4, .int x4), (3, .ref (G.2.2 (30, 0, 0))), (2, .ref (G.2.2 (6, 0, 0))), (1, .ref (G.2.2 (0, 0, 0))), (0, .ref b)]) B.1 B.2.1 dL_law_239 hl (by decide) rfl (fun ls hl => ?_)
      refine lv_aload_n B.1 B.2.1 dL_law_241 rfl (lv_at hl 3 rfl) ?_
      refine lv_aload_n B.1 B.2.1 dL_law_242 rfl (lv_at hl 5 rfl) ?_
      refine lv_iload B.1 B.2.1 dL_law_243 (lv_at hl 1 rfl) ?_
      refine lv_iconst (v := 1) B.1 B.2.1 dL_law_245 (by decide) ?_
      refine lv_iadd B.1 B.2.1 dL_law_246 ?_
      refine va_sld B.1 B.2.1 hX hbl (Nat.not_le.mpr hbl) hS1 hi1 dL_law_247 ?_
      refine mb_xV (as := [.inl (xs (x4 + 1).toNatClampNeg)]) (n := 1) (d2 := 1) (ci := 6) (N := 16) (rest := []) B hS1 hw1 hl.1 ⟨⟨by decide, by decide⟩, trivial, trivial⟩ (Nat.le_of_ble_eq_true rfl) (C_X6_low hst B.2.2.2.2.2.2.2.1 e6) (mb_gV wl_L_115 mi_X6_low ms_X6_low mn_X6 mc_X6_low) (by decide +kernel) rfl rfl rfl ⟨by show 8 + 1 + 1 ≤ 2048; decide, by show _ ≤ 84000; decide, by show cells + 1 + 0 ≤ 601024; omega, by show slots + 6 + 0 ≤ 7293034; omega⟩ rfl dL_law_248 (fun v1 H1c locs1c hv1 _ hw1c hS1c _ _ => ?_) (fun E9 ce9 q9 H9 locs9 hv9 _ _ _ _ _ _ _ => by cases hv9)
      cases hv1
      refine lv_istore (lv' := [(6, .int b9), (5, .int 1), (4, .int x4), (3, .ref (G.2.2 (30, 0, 0))), (2, .ref (G.2.2 (6, 0, 0))), (1, .ref (G.2.2 (0, 0, 0))), (0, .ref b)]) B.1 B.2.1 dL_law_251 hl (by decide) rfl (fun ls hl => ?_)
      refine lv_aload_n B.1 B.2.1 dL_law_253 rfl (lv_at hl 4 rfl) ?_
      refine mb_xV (as := []) (n := 0) (d2 := 0) (ci := 6) (N := 16) (rest := []) B hS1c hw1c hl.1 ⟨⟨by decide, by decide⟩, trivial⟩ (Nat.le_of_ble_eq_true rfl) (C_X6_thrown hst B.2.2.2.2.2.2.2.1 (show F_X6_thrown _ = some (.inl (some (.inl (h3.1 6 0 0 4))), h3) from rfl)) (mb_gV wl_L_109 mi_X6_thrown ms_X6_thrown mn_X6 mc_X6_thrown) (by decide +kernel) rfl rfl rfl ⟨by show 8 + 0 + 1 ≤ 2048; decide, by show _ ≤ 84000; decide, by show cells + 1 + 0 ≤ 601024; omega, by show slots + 6 + 0 ≤ 7293034; omega⟩ rfl dL_law_254 (fun v2 H2c locs2c hv2 _ hw2c hS2c _ _ => ?_) (fun E9 ce9 q9 H9 locs9 hv9 _ _ _ _ _ _ _ => by cases hv9)
      cases hv2
      refine lv_iload B.1 B.2.1 dL_law_257 (lv_at hl 1 rfl) ?_
      refine lv_icmp_eq (tgt := 264) B.1 B.2.1 dL_law_259 (by decide) (fun _ => ?_) (fun z9 => absurd eT z9)
      refine lv_iload B.1 B.2.1 dL_law_264 (lv_at hl 1 rfl) ?_
      refine lv_if_ne (tgt := 281) B.1 B.2.1 dL_law_266 (by decide) (fun _ => ?_) (fun z9 => absurd z9 (by decide))
      refine lv_goto (tgt := 1925) B.1 B.2.1 dL_law_281 (by decide) ?_
      exact kk _ _ _ _ _ _ eS hw2c hS2c (lv_sub hl [2, 3, 4, 5, 6] rfl) (by simp only [mb_mc, mb_ms]; omega) (by simp only [mb_mc, mb_ms]; omega)
    | k9 + 1, ej => simp at ej
set_option maxRecDepth 100000 in
set_option maxHeartbeats 4000000 in
theorem lc_2 (hst : l.stackTraces = false) (B : mb_Lx p l s m #[Value.ref b] c G RL code 7 (mb_A9 s)) (hX : va_X b L xs s s.heap) (hbl : b < s.heap.size) (hS : va_S (mb_A9 s) s.heap H locs) (hw : mb_wd G h H) (hl : lv_has ls 7 [(4, .int x4), (3, .ref (G.2.2 (30, 0, 0))), (2, .ref (G.2.2 (6, 0, 0))), (1, .ref (G.2.2 (0, 0, 0))), (0, .ref b)]) (hc : cells + 1 ≤ 601024) (hs : slots + 6 ≤ 7293034) (hi1 : vp_in (x4 + 1) L) (hi2 : vp_in (x4 + 2) L) (hi3 : vp_in (x4 + 3) L) (hi4 : vp_in (x4 + 4) L) (hps0 : xs (x4 + 3).toNatClampNeg = 0 → mb_PI ["java/lang/IllegalArgumentException", "java/lang/IllegalStateException"] (F_X5_addBerth (xs (x4 + 1).toNatClampNeg) (xs (x4 + 2).toNatClampNeg) 0 (xs (x4 + 4).toNatClampNeg) h) (F_X6_addBerth (xs (x4 + 1).toNatClampNeg) (xs (x4 + 2).toNatClampNeg) 0 (xs (x4 + 4).toNatClampNeg)) S) (hps1 : xs (x4 + 3).toNatClampNeg ≠ 0 → mb_PI ["java/lang/IllegalArgumentException", "java/lang/IllegalStateException"] (F_X5_addBerth (xs (x4 + 1).toNatClampNeg) (xs (x4 + 2).toNatClampNeg) 1 (xs (x4 + 4).toNatClampNeg) h) (F_X6_addBerth (xs (x4 + 1).toNatClampNeg) (xs (x4 + 2).toNatClampNeg) 1 (xs (x4 + 4).toNatClampNeg)) S)
    (kk : ∀ (h3 : mb_AH) (H3 : Heap) (locs3 : List Loc) (ls3 : Array Slot) (cells3 slots3 : Nat), S h3 → mb_wd G h3 H3 → va_S (mb_A9 s) s.heap H3 locs3 → lv_has ls3 7 [(4, .int x4), (3, .ref (G.2.2 (30, 0, 0))), (2, .ref (G.2.2 (6, 0, 0))), (1, .ref (G.2.2 (0, 0, 0))), (0, .ref b)] → cells3 ≤ cells + 1 → slots3 ≤ slots + 6 → W p l e room_1 s m #[Value.ref b] below meth c H3 locs3 cells3 slots3 Q (F0 m 1925 ls3 [])) : W p l e room_1 s m #[Value.ref b] below meth c H locs cells slots Q (F0 m 284 ls []) := by
  by_cases q3 : xs (x4 + 3).toNatClampNeg = 0
  · have hps := hps0 q3
    rcases hps with ⟨v, h1, h3, e5, e6, eT, eO, eS⟩ | ⟨j, E, h1, b9, h3, ej, e5, e6, eT, eS⟩
    · refine lv_aload_n B.1 B.2.1 dL_law_284 rfl (lv_at hl 3 rfl) ?_
      refine lv_aload_n B.1 B.2.1 dL_law_285 rfl (lv_at hl 4 rfl) ?_
      refine lv_iload B.1 B.2.1 dL_law_286 (lv_at hl 0 rfl) ?_
      refine lv_iconst (v := 1) B.1 B.2.1 dL_law_288 (by decide) ?_
      refine lv_iadd B.1 B.2.1 dL_law_289 ?_
      refine va_sld B.1 B.2.1 hX hbl (Nat.not_le.mpr hbl) hS hi1 dL_law_290 ?_
      refine lv_aload_n B.1 B.2.1 dL_law_291 rfl (lv_at hl 4 rfl) ?_
      refine lv_iload B.1 B.2.1 dL_law_292 (lv_at hl 0 rfl) ?_
      refine lv_iconst (v := 2) B.1 B.2.1 dL_law_294 (by decide) ?_
      refine lv_iadd B.1 B.2.1 dL_law_295 ?_
      refine va_sld B.1 B.2.1 hX hbl (Nat.not_le.mpr hbl) hS hi2 dL_law_296 ?_
      refine lv_aload_n B.1 B.2.1 dL_law_297 rfl (lv_at hl 4 rfl) ?_
      refine lv_iload B.1 B.2.1 dL_law_298 (lv_at hl 0 rfl) ?_
      refine lv_iconst (v := 3) B.1 B.2.1 dL_law_300 (by decide) ?_
      refine lv_iadd B.1 B.2.1 dL_law_301 ?_
      refine va_sld B.1 B.2.1 hX hbl (Nat.not_le.mpr hbl) hS hi3 dL_law_302 ?_
      refine lv_if_eq (tgt := 310) B.1 B.2.1 dL_law_303 (by decide) (fun _ => ?_) (fun z9 => absurd q3 z9)
      refine lv_iconst (v := 0) B.1 B.2.1 dL_law_310 (by decide) ?_
      refine lv_aload_n B.1 B.2.1 dL_law_311 rfl (lv_at hl 4 rfl) ?_
      refine lv_iload B.1 B.2.1 dL_law_312 (lv_at hl 0 rfl) ?_
      refine lv_iconst (v := 4) B.1 B.2.1 dL_law_314 (by decide) ?_
      refine lv_iadd B.1 B.2.1 dL_law_315 ?_
      refine va_sld B.1 B.2.1 hX hbl (Nat.not_le.mpr hbl) hS hi4 dL_law_316 ?_
      refine lv_aload_n B.1 B.2.1 dL_law_317 rfl (lv_at hl 1 rfl) ?_
      refine mb_xH (as := [mb_F 0 0 0, .inl (xs (x4 + 1).toNatClampNeg), .inl (xs (x4 + 2).toNatClampNeg), .inl 0, .inl (xs (x4 + 4).toNatClampNeg), mb_F 30 0 0]) (n := 6) (mc := 0) (ms := 0) (rest := []) B hS hw hl.1 ⟨⟨by decide, by decide⟩, trivial, trivial, trivial, trivial, ⟨by decide, by decide⟩, trivial⟩ (Nat.zero_le _) (H_addBerth_r hst B.2.2.2.2.2.2.2.1 e5) wl_L_116 mt_L_addBerth mn_L mw_L_addBerth (by decide +kernel) rfl ⟨by show 8 + 5 + 1 ≤ 2048; decide, by show _ ≤ 84000; decide, by show cells + 0 ≤ 601024; omega, by show slots + 0 ≤ 7293034; omega⟩ rfl dL_law_318 (fun H1 locs1 hw1 hS1 _ _ => ?_)
      refine lv_istore (lv' := [(5, .int 0), (4, .int x4), (3, .ref (G.2.2 (30, 0, 0))), (2, .ref (G.2.2 (6, 0, 0))), (1, .ref (G.2.2 (0, 0, 0))), (0, .ref b)]) B.1 B.2.1 dL_law_321 hl (by decide) rfl (fun ls hl => ?_)
      refine lv_aload_n B.1 B.2.1 dL_law_323 rfl (lv_at hl 3 rfl) ?_
      refine lv_aload_n B.1 B.2.1 dL_law_324 rfl (lv_at hl 5 rfl) ?_
      refine lv_iload B.1 B.2.1 dL_law_325 (lv_at hl 1 rfl) ?_
      refine lv_iconst (v := 1) B.1 B.2.1 dL_law_327 (by decide) ?_
      refine lv_iadd B.1 B.2.1 dL_law_328 ?_
      refine va_sld B.1 B.2.1 hX hbl (Nat.not_le.mpr hbl) hS1 hi1 dL_law_329 ?_
      refine lv_aload_n B.1 B.2.1 dL_law_330 rfl (lv_at hl 5 rfl) ?_
      refine lv_iload B.1 B.2.1 dL_law_331 (lv_at hl 1 rfl) ?_
      refine lv_iconst (v := 2) B.1 B.2.1 dL_law_333 (by decide) ?_
      refine lv_iadd B.1 B.2.1 dL_law_334 ?_
      refine va_sld B.1 B.2.1 hX hbl (Nat.not_le.mpr hbl) hS1 hi2 dL_law_335 ?_
      refine lv_aload_n B.1 B.2.1 dL_law_336 rfl (lv_at hl 5 rfl) ?_
      refine lv_iload B.1 B.2.1 dL_law_337 (lv_at hl 1 rfl) ?_
      refine lv_iconst (v := 3) B.1 B.2.1 dL_law_339 (by decide) ?_
      refine lv_iadd B.1 B.2.1 dL_law_340 ?_
      refine va_sld B.1 B.2.1 hX hbl (Nat.not_le.mpr hbl) hS1 hi3 dL_law_341 ?_
      refine lv_if_eq (tgt := 349) B.1 B.2.1 dL_law_342 (by decide) (fun _ => ?_) (fun z9 => absurd q3 z9)
      refine lv_iconst (v := 0) B.1 B.2.1 dL_law_349 (by decide) ?_
      refine lv_aload_n B.1 B.2.1 dL_law_350 rfl (lv_at hl 5 rfl) ?_
      refine lv_iload B.1 B.2.1 dL_law_351 (lv_at hl 1 rfl) ?_
      refine lv_iconst (v := 4) B.1 B.2.1 dL_law_353 (by decide) ?_
      refine lv_iadd B.1 B.2.1 dL_law_354 ?_
      refine va_sld B.1 B.2.1 hX hbl (Nat.not_le.mpr hbl) hS1 hi4 dL_law_355 ?_
      refine mb_xV (as := [.inl (xs (x4 + 1).toNatClampNeg), .inl (xs (x4 + 2).toNatClampNeg), .inl 0, .inl (xs (x4 + 4).toNatClampNeg)]) (n := 4) (d2 := 2) (ci := 6) (N := 16) (rest := []) B hS1 hw1 hl.1 ⟨⟨by decide, by decide⟩, trivial, trivial, trivial, trivial, trivial⟩ (Nat.le_of_ble_eq_true rfl) (C_X6_addBerth hst B.2.2.2.2.2.2.2.1 e6) (mb_gV wl_L_119 mi_X6_addBerth ms_X6_addBerth mn_X6 mc_X6_addBerth) (by decide +kernel) rfl rfl rfl ⟨by show 8 + 2 + 1 ≤ 2048; decide, by show _ ≤ 84000; decide, by show cells + 0 + 0 ≤ 601024; omega, by show slots + 0 + 0 ≤ 7293034; omega⟩ rfl dL_law_356 (fun v1 H1c locs1c hv1 _ hw1c hS1c _ _ => ?_) (fun E9 ce9 q9 H9 locs9 hv9 _ _ _ _ _ _ _ => by cases hv9)
      cases hv1
      refine lv_istore (lv' := [(6, .int v), (5, .int 0), (4, .int x4), (3, .ref (G.2.2 (30, 0, 0))), (2, .ref (G.2.2 (6, 0, 0))), (1, .ref (G.2.2 (0, 0, 0))), (0, .ref b)]) B.1 B.2.1 dL_law_359 hl (by decide) rfl (fun ls hl => ?_)
      refine lv_aload_n B.1 B.2.1 dL_law_361 rfl (lv_at hl 4 rfl) ?_
      refine mb_xV (as := []) (n := 0) (d2 := 0) (ci := 6) (N := 16) (rest := []) B hS1c hw1c hl.1 ⟨⟨by decide, by decide⟩, trivial⟩ (Nat.le_of_ble_eq_true rfl) (C_X6_thrown hst B.2.2.2.2.2.2.2.1 (show F_X6_thrown _ = some (.inl (some (.inl (h3.1 6 0 0 4))), h3) from rfl)) (mb_gV wl_L_109 mi_X6_thrown ms_X6_thrown mn_X6 mc_X6_thrown) (by decide +kernel) rfl rfl rfl ⟨by show 8 + 0 + 1 ≤ 2048; decide, by show _ ≤ 84000; decide, by show cells + 0 + 0 ≤ 601024; omega, by show slots + 0 + 0 ≤ 7293034; omega⟩ rfl dL_law_362 (fun v2 H2c locs2c hv2 _ hw2c hS2c _ _ => ?_) (fun E9 ce9 q9 H9 locs9 hv9 _ _ _ _ _ _ _ => by cases hv9)
      cases hv2
      refine lv_iload B.1 B.2.1 dL_law_365 (lv_at hl 1 rfl) ?_
      refine lv_icmp_eq (tgt := 372) B.1 B.2.1 dL_law_367 (by decide) (fun _ => ?_) (fun z9 => absurd eT z9)
      refine lv_iload B.1 B.2.1 dL_law_372 (lv_at hl 1 rfl) ?_
      refine lv_if_ne (tgt := 389) B.1 B.2.1 dL_law_374 (by decide) (fun z9 => absurd rfl z9) (fun _ => ?_)
      refine lv_aload_n B.1 B.2.1 dL_law_377 rfl (lv_at hl 3 rfl) ?_
      refine lv_iconst (v := 0) B.1 B.2.1 dL_law_378 (by decide) ?_
      refine mb_outld B hw2c dL_law_379 ?_
      refine lv_iload B.1 B.2.1 dL_law_380 (lv_at hl 0 rfl) ?_
      refine lv_i2l B.1 B.2.1 dL_law_382 rfl ?_
      refine W.lcmp B.1 B.2.1 dL_law_383 ?_
      refine lv_if_eq (tgt := 389) B.1 B.2.1 dL_law_384 (by decide) (fun _ => ?_) (fun z9 => absurd (by rw [eO]; exact mb_lc0 _) z9)
      refine lv_goto (tgt := 1925) B.1 B.2.1 dL_law_389 (by decide) ?_
      exact kk _ _ _ _ _ _ eS hw2c hS2c (lv_sub hl [2, 3, 4, 5, 6] rfl) (by simp only [mb_mc, mb_ms]; omega) (by simp only [mb_mc, mb_ms]; omega)
    · match j, ej with
      | 0, ej =>
        cases ej
        refine lv_aload_n B.1 B.2.1 dL_law_284 rfl (lv_at hl 3 rfl) ?_
        refine lv_aload_n B.1 B.2.1 dL_law_285 rfl (lv_at hl 4 rfl) ?_
        refine lv_iload B.1 B.2.1 dL_law_286 (lv_at hl 0 rfl) ?_
        refine lv_iconst (v := 1) B.1 B.2.1 dL_law_288 (by decide) ?_
        refine lv_iadd B.1 B.2.1 dL_law_289 ?_
        refine va_sld B.1 B.2.1 hX hbl (Nat.not_le.mpr hbl) hS hi1 dL_law_290 ?_
        refine lv_aload_n B.1 B.2.1 dL_law_291 rfl (lv_at hl 4 rfl) ?_
        refine lv_iload B.1 B.2.1 dL_law_292 (lv_at hl 0 rfl) ?_
        refine lv_iconst (v := 2) B.1 B.2.1 dL_law_294 (by decide) ?_
        refine lv_iadd B.1 B.2.1 dL_law_295 ?_
        refine va_sld B.1 B.2.1 hX hbl (Nat.not_le.mpr hbl) hS hi2 dL_law_296 ?_
        refine lv_aload_n B.1 B.2.1 dL_law_297 rfl (lv_at hl 4 rfl) ?_
        refine lv_iload B.1 B.2.1 dL_law_298 (lv_at hl 0 rfl) ?_
        refine lv_iconst (v := 3) B.1 B.2.1 dL_law_300 (by decide) ?_
        refine lv_iadd B.1 B.2.1 dL_law_301 ?_
        refine va_sld B.1 B.2.1 hX hbl (Nat.not_le.mpr hbl) hS hi3 dL_law_302 ?_
        refine lv_if_eq (tgt := 310) B.1 B.2.1 dL_law_303 (by decide) (fun _ => ?_) (fun z9 => absurd q3 z9)
        refine lv_iconst (v := 0) B.1 B.2.1 dL_law_310 (by decide) ?_
        refine lv_aload_n B.1 B.2.1 dL_law_311 rfl (lv_at hl 4 rfl) ?_
        refine lv_iload B.1 B.2.1 dL_law_312 (lv_at hl 0 rfl) ?_
        refine lv_iconst (v := 4) B.1 B.2.1 dL_law_314 (by decide) ?_
        refine lv_iadd B.1 B.2.1 dL_law_315 ?_
        refine va_sld B.1 B.2.1 hX hbl (Nat.not_le.mpr hbl) hS hi4 dL_law_316 ?_
        refine lv_aload_n B.1 B.2.1 dL_law_317 rfl (lv_at hl 1 rfl) ?_
        refine mb_xH (as := [mb_F 0 0 0, .inl (xs (x4 + 1).toNatClampNeg), .inl (xs (x4 + 2).toNatClampNeg), .inl 0, .inl (xs (x4 + 4).toNatClampNeg), mb_F 30 0 0]) (n := 6) (mc := 1) (ms := 6) (rest := []) B hS hw hl.1 ⟨⟨by decide, by decide⟩, trivial, trivial, trivial, trivial, ⟨by decide, by decide⟩, trivial⟩ (Nat.zero_le _) (H_addBerth_t1 hst B.2.2.2.2.2.2.2.1 e5) wl_L_116 mt_L_addBerth mn_L mw_L_addBerth (by decide +kernel) rfl ⟨by show 8 + 5 + 1 ≤ 2048; decide, by show _ ≤ 84000; decide, by show cells + 1 ≤ 601024; omega, by show slots + 6 ≤ 7293034; omega⟩ rfl dL_law_318 (fun H1 locs1 hw1 hS1 _ _ => ?_)
        refine lv_istore (lv' := [(5, .int 1), (4, .int x4), (3, .ref (G.2.2 (30, 0, 0))), (2, .ref (G.2.2 (6, 0, 0))), (1, .ref (G.2.2 (0, 0, 0))), (0, .ref b)]) B.1 B.2.1 dL_law_321 hl (by decide) rfl (fun ls hl => ?_)
        refine lv_aload_n B.1 B.2.1 dL_law_323 rfl (lv_at hl 3 rfl) ?_
        refine lv_aload_n B.1 B.2.1 dL_law_324 rfl (lv_at hl 5 rfl) ?_
        refine lv_iload B.1 B.2.1 dL_law_325 (lv_at hl 1 rfl) ?_
        refine lv_iconst (v := 1) B.1 B.2.1 dL_law_327 (by decide) ?_
        refine lv_iadd B.1 B.2.1 dL_law_328 ?_
        refine va_sld B.1 B.2.1 hX hbl (Nat.not_le.mpr hbl) hS1 hi1 dL_law_329 ?_
        refine lv_aload_n B.1 B.2.1 dL_law_330 rfl (lv_at hl 5 rfl) ?_
        refine lv_iload B.1 B.2.1 dL_law_331 (lv_at hl 1 rfl) ?_
        refine lv_iconst (v := 2) B.1 B.2.1 dL_law_333 (by decide) ?_
        refine lv_iadd B.1 B.2.1 dL_law_334 ?_
        refine va_sld B.1 B.2.1 hX hbl (Nat.not_le.mpr hbl) hS1 hi2 dL_law_335 ?_
        refine lv_aload_n B.1 B.2.1 dL_law_336 rfl (lv_at hl 5 rfl) ?_
        refine lv_iload B.1 B.2.1 dL_law_337 (lv_at hl 1 rfl) ?_
        refine lv_iconst (v := 3) B.1 B.2.1 dL_law_339 (by decide) ?_
        refine lv_iadd B.1 B.2.1 dL_law_340 ?_
        refine va_sld B.1 B.2.1 hX hbl (Nat.not_le.mpr hbl) hS1 hi3 dL_law_341 ?_
        refine lv_if_eq (tgt := 349) B.1 B.2.1 dL_law_342 (by decide) (fun _ => ?_) (fun z9 => absurd q3 z9)
        refine lv_iconst (v := 0) B.1 B.2.1 dL_law_349 (by decide) ?_
        refine lv_aload_n B.1 B.2.1 dL_law_350 rfl (lv_at hl 5 rfl) ?_
        refine lv_iload B.1 B.2.1 dL_law_351 (lv_at hl 1 rfl) ?_
        refine lv_iconst (v := 4) B.1 B.2.1 dL_law_353 (by decide) ?_
        refine lv_iadd B.1 B.2.1 dL_law_354 ?_
        refine va_sld B.1 B.2.1 hX hbl (Nat.not_le.mpr hbl) hS1 hi4 dL_law_355 ?_
        refine mb_xV (as := [.inl (xs (x4 + 1).toNatClampNeg), .inl (xs (x4 + 2).toNatClampNeg), .inl 0, .inl (xs (x4 + 4).toNatClampNeg)]) (n := 4) (d2 := 2) (ci := 6) (N := 16) (rest := []) B hS1 hw1 hl.1 ⟨⟨by decide, by decide⟩, trivial, trivial, trivial, trivial, trivial⟩ (Nat.le_of_ble_eq_true rfl) (C_X6_addBerth hst B.2.2.2.2.2.2.2.1 e6) (mb_gV wl_L_119 mi_X6_addBerth ms_X6_addBerth mn_X6 mc_X6_addBerth) (by decide +kernel) rfl rfl rfl ⟨by show 8 + 2 + 1 ≤ 2048; decide, by show _ ≤ 84000; decide, by show cells + 1 + 0 ≤ 601024; omega, by show slots + 6 + 0 ≤ 7293034; omega⟩ rfl dL_law_356 (fun v1 H1c locs1c hv1 _ hw1c hS1c _ _ => ?_) (fun E9 ce9 q9 H9 locs9 hv9 _ _ _ _ _ _ _ => by cases hv9)
        cases hv1
        refine lv_istore (lv' := [(6, .int b9), (5, .int 1), (4, .int x4), (3, .ref (G.2.2 (30, 0, 0))), (2, .ref (G.2.2 (6, 0, 0))), (1, .ref (G.2.2 (0, 0, 0))), (0, .ref b)]) B.1 B.2.1 dL_law_359 hl (by decide) rfl (fun ls hl => ?_)
        refine lv_aload_n B.1 B.2.1 dL_law_361 rfl (lv_at hl 4 rfl) ?_
        refine mb_xV (as := []) (n := 0) (d2 := 0) (ci := 6) (N := 16) (rest := []) B hS1c hw1c hl.1 ⟨⟨by decide, by decide⟩, trivial⟩ (Nat.le_of_ble_eq_true rfl) (C_X6_thrown hst B.2.2.2.2.2.2.2.1 (show F_X6_thrown _ = some (.inl (some (.inl (h3.1 6 0 0 4))), h3) from rfl)) (mb_gV wl_L_109 mi_X6_thrown ms_X6_thrown mn_X6 mc_X6_thrown) (by decide +kernel) rfl rfl rfl ⟨by show 8 + 0 + 1 ≤ 2048; decide, by show _ ≤ 84000; decide, by show cells + 1 + 0 ≤ 601024; omega, by show slots + 6 + 0 ≤ 7293034; omega⟩ rfl dL_law_362 (fun v2 H2c locs2c hv2 _ hw2c hS2c _ _ => ?_) (fun E9 ce9 q9 H9 locs9 hv9 _ _ _ _ _ _ _ => by cases hv9)
        cases hv2
        refine lv_iload B.1 B.2.1 dL_law_365 (lv_at hl 1 rfl) ?_
        refine lv_icmp_eq (tgt := 372) B.1 B.2.1 dL_law_367 (by decide) (fun _ => ?_) (fun z9 => absurd eT z9)
        refine lv_iload B.1 B.2.1 dL_law_372 (lv_at hl 1 rfl) ?_
        refine lv_if_ne (tgt := 389) B.1 B.2.1 dL_law_374 (by decide) (fun _ => ?_) (fun z9 => absurd z9 (by decide))
        refine lv_goto (tgt := 1925) B.1 B.2.1 dL_law_389 (by decide) ?_
        exact kk _ _ _ _ _ _ eS hw2c hS2c (lv_sub hl [2, 3, 4, 5, 6] rfl) (by simp only [mb_mc, mb_ms]; omega) (by simp only [mb_mc, mb_ms]; omega)
      | 1, ej =>
        cases ej
        refine lv_aload_n B.1 B.2.1 dL_law_284 rfl (lv_at hl 3 rfl) ?_
        refine lv_aload_n B.1 B.2.1 dL_law_285 rfl (lv_at hl 4 rfl) ?_
        refine lv_iload B.1 B.2.1 dL_law_286 (lv_at hl 0 rfl) ?_
        refine lv_iconst (v := 1) B.1 B.2.1 dL_law_288 (by decide) ?_
        refine lv_iadd B.1 B.2.1 dL_law_289 ?_
        refine va_sld B.1 B.2.1 hX hbl (Nat.not_le.mpr hbl) hS hi1 dL_law_290 ?_
        refine lv_aload_n B.1 B.2.1 dL_law_291 rfl (lv_at hl 4 rfl) ?_
        refine lv_iload B.1 B.2.1 dL_law_292 (lv_at hl 0 rfl) ?_
        refine lv_iconst (v := 2) B.1 B.2.1 dL_law_294 (by decide) ?_
        refine lv_iadd B.1 B.2.1 dL_law_295 ?_
        refine va_sld B.1 B.2.1 hX hbl (Nat.not_le.mpr hbl) hS hi2 dL_law_296 ?_
        refine lv_aload_n B.1 B.2.1 dL_law_297 rfl (lv_at hl 4 rfl) ?_
        refine lv_iload B.1 B.2.1 dL_law_298 (lv_at hl 0 rfl) ?_
        refine lv_iconst (v := 3) B.1 B.2.1 dL_law_300 (by decide) ?_
        refine lv_iadd B.1 B.2.1 dL_law_301 ?_
        refine va_sld B.1 B.2.1 hX hbl (Nat.not_le.mpr hbl) hS hi3 dL_law_302 ?_
        refine lv_if_eq (tgt := 310) B.1 B.2.1 dL_law_303 (by decide) (fun _ => ?_) (fun z9 => absurd q3 z9)
        refine lv_iconst (v := 0) B.1 B.2.1 dL_law_310 (by decide) ?_
        refine lv_aload_n B.1 B.2.1 dL_law_311 rfl (lv_at hl 4 rfl) ?_
        refine lv_iload B.1 B.2.1 dL_law_312 (lv_at hl 0 rfl) ?_
        refine lv_iconst (v := 4) B.1 B.2.1 dL_law_314 (by decide) ?_
        refine lv_iadd B.1 B.2.1 dL_law_315 ?_
        refine va_sld B.1 B.2.1 hX hbl (Nat.not_le.mpr hbl) hS hi4 dL_law_316 ?_
        refine lv_aload_n B.1 B.2.1 dL_law_317 rfl (lv_at hl 1 rfl) ?_
        refine mb_xH (as := [mb_F 0 0 0, .inl (xs (x4 + 1).toNatClampNeg), .inl (xs (x4 + 2).toNatClampNeg), .inl 0, .inl (xs (x4 + 4).toNatClampNeg), mb_F 30 0 0]) (n := 6) (mc := 1) (ms := 6) (rest := []) B hS hw hl.1 ⟨⟨by decide, by decide⟩, trivial, trivial, trivial, trivial, ⟨by decide, by decide⟩, trivial⟩ (Nat.zero_le _) (H_addBerth_t2 hst B.2.2.2.2.2.2.2.1 e5) wl_L_116 mt_L_addBerth mn_L mw_L_addBerth (by decide +kernel) rfl ⟨by show 8 + 5 + 1 ≤ 2048; decide, by show _ ≤ 84000; decide, by show cells + 1 ≤ 601024; omega, by show slots + 6 ≤ 7293034; omega⟩ rfl dL_law_318 (fun H1 locs1 hw1 hS1 _ _ => ?_)
        refine lv_istore (lv' := [(5, .int 2), (4, .int x4), (3, .ref (G.2.2 (30, 0, 0))), (2, .ref (G.2.2 (6, 0, 0))), (1, .ref (G.2.2 (0, 0, 0))), (0, .ref b)]) B.1 B.2.1 dL_law_321 hl (by decide) rfl (fun ls hl => ?_)
        refine lv_aload_n B.1 B.2.1 dL_law_323 rfl (lv_at hl 3 rfl) ?_
        refine lv_aload_n B.1 B.2.1 dL_law_324 rfl (lv_at hl 5 rfl) ?_
        refine lv_iload B.1 B.2.1 dL_law_325 (lv_at hl 1 rfl) ?_
        refine lv_iconst (v := 1) B.1 B.2.1 dL_law_327 (by decide) ?_
        refine lv_iadd B.1 B.2.1 dL_law_328 ?_
        refine va_sld B.1 B.2.1 hX hbl (Nat.not_le.mpr hbl) hS1 hi1 dL_law_329 ?_
        refine lv_aload_n B.1 B.2.1 dL_law_330 rfl (lv_at hl 5 rfl) ?_
        refine lv_iload B.1 B.2.1 dL_law_331 (lv_at hl 1 rfl) ?_
        refine lv_iconst (v := 2) B.1 B.2.1 dL_law_333 (by decide) ?_
        refine lv_iadd B.1 B.2.1 dL_law_334 ?_
        refine va_sld B.1 B.2.1 hX hbl (Nat.not_le.mpr hbl) hS1 hi2 dL_law_335 ?_
        refine lv_aload_n B.1 B.2.1 dL_law_336 rfl (lv_at hl 5 rfl) ?_
        refine lv_iload B.1 B.2.1 dL_law_337 (lv_at hl 1 rfl) ?_
        refine lv_iconst (v := 3) B.1 B.2.1 dL_law_339 (by decide) ?_
        refine lv_iadd B.1 B.2.1 dL_law_340 ?_
        refine va_sld B.1 B.2.1 hX hbl (Nat.not_le.mpr hbl) hS1 hi3 dL_law_341 ?_
        refine lv_if_eq (tgt := 349) B.1 B.2.1 dL_law_342 (by decide) (fun _ => ?_) (fun z9 => absurd q3 z9)
        refine lv_iconst (v := 0) B.1 B.2.1 dL_law_349 (by decide) ?_
        refine lv_aload_n B.1 B.2.1 dL_law_350 rfl (lv_at hl 5 rfl) ?_
        refine lv_iload B.1 B.2.1 dL_law_351 (lv_at hl 1 rfl) ?_
        refine lv_iconst (v := 4) B.1 B.2.1 dL_law_353 (by decide) ?_
        refine lv_iadd B.1 B.2.1 dL_law_354 ?_
        refine va_sld B.1 B.2.1 hX hbl (Nat.not_le.mpr hbl) hS1 hi4 dL_law_355 ?_
        refine mb_xV (as := [.inl (xs (x4 + 1).toNatClampNeg), .inl (xs (x4 + 2).toNatClampNeg), .inl 0, .inl (xs (x4 + 4).toNatClampNeg)]) (n := 4) (d2 := 2) (ci := 6) (N := 16) (rest := []) B hS1 hw1 hl.1 ⟨⟨by decide, by decide⟩, trivial, trivial, trivial, trivial, trivial⟩ (Nat.le_of_ble_eq_true rfl) (C_X6_addBerth hst B.2.2.2.2.2.2.2.1 e6) (mb_gV wl_L_119 mi_X6_addBerth ms_X6_addBerth mn_X6 mc_X6_addBerth) (by decide +kernel) rfl rfl rfl ⟨by show 8 + 2 + 1 ≤ 2048; decide, by show _ ≤ 84000; decide, by show cells + 1 + 0 ≤ 601024; omega, by show slots + 6 + 0 ≤ 7293034; omega⟩ rfl dL_law_356 (fun v1 H1c locs1c hv1 _ hw1c hS1c _ _ => ?_) (fun E9 ce9 q9 H9 locs9 hv9 _ _ _ _ _ _ _ => by cases hv9)
        cases hv1
        refine lv_istore (lv' := [(6, .int b9), (5, .int 2), (4, .int x4), (3, .ref (G.2.2 (30, 0, 0))), (2, .ref (G.2.2 (6, 0, 0))), (1, .ref (G.2.2 (0, 0, 0))), (0, .ref b)]) B.1 B.2.1 dL_law_359 hl (by decide) rfl (fun ls hl => ?_)
        refine lv_aload_n B.1 B.2.1 dL_law_361 rfl (lv_at hl 4 rfl) ?_
        refine mb_xV (as := []) (n := 0) (d2 := 0) (ci := 6) (N := 16) (rest := []) B hS1c hw1c hl.1 ⟨⟨by decide, by decide⟩, trivial⟩ (Nat.le_of_ble_eq_true rfl) (C_X6_thrown hst B.2.2.2.2.2.2.2.1 (show F_X6_thrown _ = some (.inl (some (.inl (h3.1 6 0 0 4))), h3) from rfl)) (mb_gV wl_L_109 mi_X6_thrown ms_X6_thrown mn_X6 mc_X6_thrown) (by decide +kernel) rfl rfl rfl ⟨by show 8 + 0 + 1 ≤ 2048; decide, by show _ ≤ 84000; decide, by show cells + 1 + 0 ≤ 601024; omega, by show slots + 6 + 0 ≤ 7293034; omega⟩ rfl dL_law_362 (fun v2 H2c locs2c hv2 _ hw2c hS2c _ _ => ?_) (fun E9 ce9 q9 H9 locs9 hv9 _ _ _ _ _ _ _ => by cases hv9)
        cases hv2
        refine lv_iload B.1 B.2.1 dL_law_365 (lv_at hl 1 rfl) ?_
        refine lv_icmp_eq (tgt := 372) B.1 B.2.1 dL_law_367 (by decide) (fun _ => ?_) (fun z9 => absurd eT z9)
        refine lv_iload B.1 B.2.1 dL_law_372 (lv_at hl 1 rfl) ?_
        refine lv_if_ne (tgt := 389) B.1 B.2.1 dL_law_374 (by decide) (fun _ => ?_) (fun z9 => absurd z9 (by decide))
        refine lv_goto (tgt := 1925) B.1 B.2.1 dL_law_389 (by decide) ?_
        exact kk _ _ _ _ _ _ eS hw2c hS2c (lv_sub hl [2, 3, 4, 5, 6] rfl) (by simp only [mb_mc, mb_ms]; omega) (by simp only [mb_mc, mb_ms]; omega)
      | k9 + 2, ej => simp at ej
  · have hps := hps1 q3
    rcases hps with ⟨v, h1, h3, e5, e6, eT, eO, eS⟩ | ⟨j, E, h1, b9, h3, ej, e5, e6, eT, eS⟩
    · refine lv_aload_n B.1 B.2.1 dL_law_284 rfl (lv_at hl 3 rfl) ?_
      refine lv_aload_n B.1 B.2.1 dL_law_285 rfl (lv_at hl 4 rfl) ?_
      refine lv_iload B.1 B.2.1 dL_law_286 (lv_at hl 0 rfl) ?_
      refine lv_iconst (v := 1) B.1 B.2.1 dL_law_288 (by decide) ?_
      refine lv_iadd B.1 B.2.1 dL_law_289 ?_
      refine va_sld B.1 B.2.1 hX hbl (Nat.not_le.mpr hbl) hS hi1 dL_law_290 ?_
      refine lv_aload_n B.1 B.2.1 dL_law_291 rfl (lv_at hl 4 rfl) ?_
      refine lv_iload B.1 B.2.1 dL_law_292 (lv_at hl 0 rfl) ?_
      refine lv_iconst (v := 2) B.1 B.2.1 dL_law_294 (by decide) ?_
      refine lv_iadd B.1 B.2.1 dL_law_295 ?_
      refine va_sld B.1 B.2.1 hX hbl (Nat.not_le.mpr hbl) hS hi2 dL_law_296 ?_
      refine lv_aload_n B.1 B.2.1 dL_law_297 rfl (lv_at hl 4 rfl) ?_
      refine lv_iload B.1 B.2.1 dL_law_298 (lv_at hl 0 rfl) ?_
      refine lv_iconst (v := 3) B.1 B.2.1 dL_law_300 (by decide) ?_
      refine lv_iadd B.1 B.2.1 dL_law_301 ?_
      refine va_sld B.1 B.2.1 hX hbl (Nat.not_le.mpr hbl) hS hi3 dL_law_302 ?_
      refine lv_if_eq (tgt := 310) B.1 B.2.1 dL_law_303 (by decide) (fun z9 => absurd z9 q3) (fun _ => ?_)
      refine lv_iconst (v := 1) B.1 B.2.1 dL_law_306 (by decide) ?_
      refine lv_goto (tgt := 311) B.1 B.2.1 dL_law_307 (by decide) ?_
      refine lv_aload_n B.1 B.2.1 dL_law_311 rfl (lv_at hl 4 rfl) ?_
      refine lv_iload B.1 B.2.1 dL_law_312 (lv_at hl 0 rfl) ?_
      refine lv_iconst (v := 4) B.1 B.2.1 dL_law_314 (by decide) ?_
      refine lv_iadd B.1 B.2.1 dL_law_315 ?_
      refine va_sld B.1 B.2.1 hX hbl (Nat.not_le.mpr hbl) hS hi4 dL_law_316 ?_
      refine lv_aload_n B.1 B.2.1 dL_law_317 rfl (lv_at hl 1 rfl) ?_
      refine mb_xH (as := [mb_F 0 0 0, .inl (xs (x4 + 1).toNatClampNeg), .inl (xs (x4 + 2).toNatClampNeg), .inl 1, .inl (xs (x4 + 4).toNatClampNeg), mb_F 30 0 0]) (n := 6) (mc := 0) (ms := 0) (rest := []) B hS hw hl.1 ⟨⟨by decide, by decide⟩, trivial, trivial, trivial, trivial, ⟨by decide, by decide⟩, trivial⟩ (Nat.zero_le _) (H_addBerth_r hst B.2.2.2.2.2.2.2.1 e5) wl_L_116 mt_L_addBerth mn_L mw_L_addBerth (by decide +kernel) rfl ⟨by show 8 + 5 + 1 ≤ 2048; decide, by show _ ≤ 84000; decide, by show cells + 0 ≤ 601024; omega, by show slots + 0 ≤ 7293034; omega⟩ rfl dL_law_318 (fun H1 locs1 hw1 hS1 _ _ => ?_)
      refine lv_istore (lv' := [(5, .int 0), (4, .int x4), (3, .ref (G.2.2 (30, 0, 0))), (2, .ref (G.2.2 (6, 0, 0))), (1, .ref (G.2.2 (0, 0, 0))), (0, .ref b)]) B.1 B.2.1 dL_law_321 hl (by decide) rfl (fun ls hl => ?_)
      refine lv_aload_n B.1 B.2.1 dL_law_323 rfl (lv_at hl 3 rfl) ?_
      refine lv_aload_n B.1 B.2.1 dL_law_324 rfl (lv_at hl 5 rfl) ?_
      refine lv_iload B.1 B.2.1 dL_law_325 (lv_at hl 1 rfl) ?_
      refine lv_iconst (v := 1) B.1 B.2.1 dL_law_327 (by decide) ?_
      refine lv_iadd B.1 B.2.1 dL_law_328 ?_
      refine va_sld B.1 B.2.1 hX hbl (Nat.not_le.mpr hbl) hS1 hi1 dL_law_329 ?_
      refine lv_aload_n B.1 B.2.1 dL_law_330 rfl (lv_at hl 5 rfl) ?_
      refine lv_iload B.1 B.2.1 dL_law_331 (lv_at hl 1 rfl) ?_
      refine lv_iconst (v := 2) B.1 B.2.1 dL_law_333 (by decide) ?_
      refine lv_iadd B.1 B.2.1 dL_law_334 ?_
      refine va_sld B.1 B.2.1 hX hbl (Nat.not_le.mpr hbl) hS1 hi2 dL_law_335 ?_
      refine lv_aload_n B.1 B.2.1 dL_law_336 rfl (lv_at hl 5 rfl) ?_
      refine lv_iload B.1 B.2.1 dL_law_337 (lv_at hl 1 rfl) ?_
      refine lv_iconst (v := 3) B.1 B.2.1 dL_law_339 (by decide) ?_
      refine lv_iadd B.1 B.2.1 dL_law_340 ?_
      refine va_sld B.1 B.2.1 hX hbl (Nat.not_le.mpr hbl) hS1 hi3 dL_law_341 ?_
      refine lv_if_eq (tgt := 349) B.1 B.2.1 dL_law_342 (by decide) (fun z9 => absurd z9 q3) (fun _ => ?_)
      refine lv_iconst (v := 1) B.1 B.2.1 dL_law_345 (by decide) ?_
      refine lv_goto (tgt := 350) B.1 B.2.1 dL_law_346 (by decide) ?_
      refine lv_aload_n B.1 B.2.1 dL_law_350 rfl (lv_at hl 5 rfl) ?_
      refine lv_iload B.1 B.2.1 dL_law_351 (lv_at hl 1 rfl) ?_
      refine lv_iconst (v := 4) B.1 B.2.1 dL_law_353 (by decide) ?_
      refine lv_iadd B.1 B.2.1 dL_law_354 ?_
      refine va_sld B.1 B.2.1 hX hbl (Nat.not_le.mpr hbl) hS1 hi4 dL_law_355 ?_
      refine mb_xV (as := [.inl (xs (x4 + 1).toNatClampNeg), .inl (xs (x4 + 2).toNatClampNeg), .inl 1, .inl (xs (x4 + 4).toNatClampNeg)]) (n := 4) (d2 := 2) (ci := 6) (N := 16) (rest := []) B hS1 hw1 hl.1 ⟨⟨by decide, by decide⟩, trivial, trivial, trivial, trivial, trivial⟩ (Nat.le_of_ble_eq_true rfl) (C_X6_addBerth hst B.2.2.2.2.2.2.2.1 e6) (mb_gV wl_L_119 mi_X6_addBerth ms_X6_addBerth mn_X6 mc_X6_addBerth) (by decide +kernel) rfl rfl rfl ⟨by show 8 + 2 + 1 ≤ 2048; decide, by show _ ≤ 84000; decide, by show cells + 0 + 0 ≤ 601024; omega, by show slots + 0 + 0 ≤ 7293034; omega⟩ rfl dL_law_356 (fun v1 H1c locs1c hv1 _ hw1c hS1c _ _ => ?_) (fun E9 ce9 q9 H9 locs9 hv9 _ _ _ _ _ _ _ => by cases hv9)
      cases hv1
      refine lv_istore (lv' := [(6, .int v), (5, .int 0), (4, .int x4), (3, .ref (G.2.2 (30, 0, 0))), (2, .ref (G.2.2 (6, 0, 0))), (1, .ref (G.2.2 (0, 0, 0))), (0, .ref b)]) B.1 B.2.1 dL_law_359 hl (by decide) rfl (fun ls hl => ?_)
      refine lv_aload_n B.1 B.2.1 dL_law_361 rfl (lv_at hl 4 rfl) ?_
      refine mb_xV (as := []) (n := 0) (d2 := 0) (ci := 6) (N := 16) (rest := []) B hS1c hw1c hl.1 ⟨⟨by decide, by decide⟩, trivial⟩ (Nat.le_of_ble_eq_true rfl) (C_X6_thrown hst B.2.2.2.2.2.2.2.1 (show F_X6_thrown _ = some (.inl (some (.inl (h3.1 6 0 0 4))), h3) from rfl)) (mb_gV wl_L_109 mi_X6_thrown ms_X6_thrown mn_X6 mc_X6_thrown) (by decide +kernel) rfl rfl rfl ⟨by show 8 + 0 + 1 ≤ 2048; decide, by show _ ≤ 84000; decide, by show cells + 0 + 0 ≤ 601024; omega, by show slots + 0 + 0 ≤ 7293034; omega⟩ rfl dL_law_362 (fun v2 H2c locs2c hv2 _ hw2c hS2c _ _ => ?_) (fun E9 ce9 q9 H9 locs9 hv9 _ _ _ _ _ _ _ => by cases hv9)
      cases hv2
      refine lv_iload B.1 B.2.1 dL_law_365 (lv_at hl 1 rfl) ?_
      refine lv_icmp_eq (tgt := 372) B.1 B.2.1 dL_law_367 (by decide) (fun _ => ?_) (fun z9 => absurd eT z9)
      refine lv_iload B.1 B.2.1 dL_law_372 (lv_at hl 1 rfl) ?_
      refine lv_if_ne (tgt := 389) B.1 B.2.1 dL_law_374 (by decide) (fun z9 => absurd rfl z9) (fun _ => ?_)
      refine lv_aload_n B.1 B.2.1 dL_law_377 rfl (lv_at hl 3 rfl) ?_
      refine lv_iconst (v := 0) B.1 B.2.1 dL_law_378 (by decide) ?_
      refine mb_outld B hw2c dL_law_379 ?_
      refine lv_iload B.1 B.2.1 dL_law_380 (lv_at hl 0 rfl) ?_
      refine lv_i2l B.1 B.2.1 dL_law_382 rfl ?_
      refine W.lcmp B.1 B.2.1 dL_law_383 ?_
      refine lv_if_eq (tgt := 389) B.1 B.2.1 dL_law_384 (by decide) (fun _ => ?_) (fun z9 => absurd (by rw [eO]; exact mb_lc0 _) z9)
      refine lv_goto (tgt := 1925) B.1 B.2.1 dL_law_389 (by decide) ?_
      exact kk _ _ _ _ _ _ eS hw2c hS2c (lv_sub hl [2, 3, 4, 5, 6] rfl) (by simp only [mb_mc, mb_ms]; omega) (by simp only [mb_mc, mb_ms]; omega)
    · match j, ej with
      | 0, ej =>
        cases ej
        refine lv_aload_n B.1 B.2.1 dL_law_284 rfl (lv_at hl 3 rfl) ?_
        refine lv_aload_n B.1 B.2.1 dL_law_285 rfl (lv_at hl 4 rfl) ?_
        refine lv_iload B.1 B.2.1 dL_law_286 (lv_at hl 0 rfl) ?_
        refine lv_iconst (v := 1) B.1 B.2.1 dL_law_288 (by decide) ?_
        refine lv_iadd B.1 B.2.1 dL_law_289 ?_
        refine va_sld B.1 B.2.1 hX hbl (Nat.not_le.mpr hbl) hS hi1 dL_law_290 ?_
        refine lv_aload_n B.1 B.2.1 dL_law_291 rfl (lv_at hl 4 rfl) ?_
        refine lv_iload B.1 B.2.1 dL_law_292 (lv_at hl 0 rfl) ?_
        refine lv_iconst (v := 2) B.1 B.2.1 dL_law_294 (by decide) ?_
        refine lv_iadd B.1 B.2.1 dL_law_295 ?_
        refine va_sld B.1 B.2.1 hX hbl (Nat.not_le.mpr hbl) hS hi2 dL_law_296 ?_
        refine lv_aload_n B.1 B.2.1 dL_law_297 rfl (lv_at hl 4 rfl) ?_
        refine lv_iload B.1 B.2.1 dL_law_298 (lv_at hl 0 rfl) ?_
        refine lv_iconst (v := 3) B.1 B.2.1 dL_law_300 (by decide) ?_
        refine lv_iadd B.1 B.2.1 dL_law_301 ?_
        refine va_sld B.1 B.2.1 hX hbl (Nat.not_le.mpr hbl) hS hi3 dL_law_302 ?_
        refine lv_if_eq (tgt := 310) B.1 B.2.1 dL_law_303 (by decide) (fun z9 => absurd z9 q3) (fun _ => ?_)
        refine lv_iconst (v := 1) B.1 B.2.1 dL_law_306 (by decide) ?_
        refine lv_goto (tgt := 311) B.1 B.2.1 dL_law_307 (by decide) ?_
        refine lv_aload_n B.1 B.2.1 dL_law_311 rfl (lv_at hl 4 rfl) ?_
        refine lv_iload B.1 B.2.1 dL_law_312 (lv_at hl 0 rfl) ?_
        refine lv_iconst (v := 4) B.1 B.2.1 dL_law_314 (by decide) ?_
        refine lv_iadd B.1 B.2.1 dL_law_315 ?_
        refine va_sld B.1 B.2.1 hX hbl (Nat.not_le.mpr hbl) hS hi4 dL_law_316 ?_
        refine lv_aload_n B.1 B.2.1 dL_law_317 rfl (lv_at hl 1 rfl) ?_
        refine mb_xH (as := [mb_F 0 0 0, .inl (xs (x4 + 1).toNatClampNeg), .inl (xs (x4 + 2).toNatClampNeg), .inl 1, .inl (xs (x4 + 4).toNatClampNeg), mb_F 30 0 0]) (n := 6) (mc := 1) (ms := 6) (rest := []) B hS hw hl.1 ⟨⟨by decide, by decide⟩, trivial, trivial, trivial, trivial, ⟨by decide, by decide⟩, trivial⟩ (Nat.zero_le _) (H_addBerth_t1 hst B.2.2.2.2.2.2.2.1 e5) wl_L_116 mt_L_addBerth mn_L mw_L_addBerth (by decide +kernel) rfl ⟨by show 8 + 5 + 1 ≤ 2048; decide, by show _ ≤ 84000; decide, by show cells + 1 ≤ 601024; omega, by show slots + 6 ≤ 7293034; omega⟩ rfl dL_law_318 (fun H1 locs1 hw1 hS1 _ _ => ?_)
        refine lv_istore (lv' := [(5, .int 1), (4, .int x4), (3, .ref (G.2.2 (30, 0, 0))), (2, .ref (G.2.2 (6, 0, 0))), (1, .ref (G.2.2 (0, 0, 0))), (0, .ref b)]) B.1 B.2.1 dL_law_321 hl (by decide) rfl (fun ls hl => ?_)
        refine lv_aload_n B.1 B.2.1 dL_law_323 rfl (lv_at hl 3 rfl) ?_
        refine lv_aload_n B.1 B.2.1 dL_law_324 rfl (lv_at hl 5 rfl) ?_
        refine lv_iload B.1 B.2.1 dL_law_325 (lv_at hl 1 rfl) ?_
        refine lv_iconst (v := 1) B.1 B.2.1 dL_law_327 (by decide) ?_
        refine lv_iadd B.1 B.2.1 dL_law_328 ?_
        refine va_sld B.1 B.2.1 hX hbl (Nat.not_le.mpr hbl) hS1 hi1 dL_law_329 ?_
        refine lv_aload_n B.1 B.2.1 dL_law_330 rfl (lv_at hl 5 rfl) ?_
        refine lv_iload B.1 B.2.1 dL_law_331 (lv_at hl 1 rfl) ?_
        refine lv_iconst (v := 2) B.1 B.2.1 dL_law_333 (by decide) ?_
        refine lv_iadd B.1 B.2.1 dL_law_334 ?_
        refine va_sld B.1 B.2.1 hX hbl (Nat.not_le.mpr hbl) hS1 hi2 dL_law_335 ?_
        refine lv_aload_n B.1 B.2.1 dL_law_336 rfl (lv_at hl 5 rfl) ?_
        refine lv_iload B.1 B.2.1 dL_law_337 (lv_at hl 1 rfl) ?_
        refine lv_iconst (v := 3) B.1 B.2.1 dL_law_339 (by decide) ?_
        refine lv_iadd B.1 B.2.1 dL_law_340 ?_
        refine va_sld B.1 B.2.1 hX hbl (Nat.not_le.mpr hbl) hS1 hi3 dL_law_341 ?_
        refine lv_if_eq (tgt := 349) B.1 B.2.1 dL_law_342 (by decide) (fun z9 => absurd z9 q3) (fun _ => ?_)
        refine lv_iconst (v := 1) B.1 B.2.1 dL_law_345 (by decide) ?_
        refine lv_goto (tgt := 350) B.1 B.2.1 dL_law_346 (by decide) ?_
        refine lv_aload_n B.1 B.2.1 dL_law_350 rfl (lv_at hl 5 rfl) ?_
        refine lv_iload B.1 B.2.1 dL_law_351 (lv_at hl 1 rfl) ?_
        refine lv_iconst (v := 4) B.1 B.2.1 dL_law_353 (by decide) ?_
        refine lv_iadd B.1 B.2.1 dL_law_354 ?_
        refine va_sld B.1 B.2.1 hX hbl (Nat.not_le.mpr hbl) hS1 hi4 dL_law_355 ?_
        refine mb_xV (as := [.inl (xs (x4 + 1).toNatClampNeg), .inl (xs (x4 + 2).toNatClampNeg), .inl 1, .inl (xs (x4 + 4).toNatClampNeg)]) (n := 4) (d2 := 2) (ci := 6) (N := 16) (rest := []) B hS1 hw1 hl.1 ⟨⟨by decide, by decide⟩, trivial, trivial, trivial, trivial, trivial⟩ (Nat.le_of_ble_eq_true rfl) (C_X6_addBerth hst B.2.2.2.2.2.2.2.1 e6) (mb_gV wl_L_119 mi_X6_addBerth ms_X6_addBerth mn_X6 mc_X6_addBerth) (by decide +kernel) rfl rfl rfl ⟨by show 8 + 2 + 1 ≤ 2048; decide, by show _ ≤ 84000; decide, by show cells + 1 + 0 ≤ 601024; omega, by show slots + 6 + 0 ≤ 7293034; omega⟩ rfl dL_law_356 (fun v1 H1c locs1c hv1 _ hw1c hS1c _ _ => ?_) (fun E9 ce9 q9 H9 locs9 hv9 _ _ _ _ _ _ _ => by cases hv9)
        cases hv1
        refine lv_istore (lv' := [(6, .int b9), (5, .int 1), (4, .int x4), (3, .ref (G.2.2 (30, 0, 0))), (2, .ref (G.2.2 (6, 0, 0))), (1, .ref (G.2.2 (0, 0, 0))), (0, .ref b)]) B.1 B.2.1 dL_law_359 hl (by decide) rfl (fun ls hl => ?_)
        refine lv_aload_n B.1 B.2.1 dL_law_361 rfl (lv_at hl 4 rfl) ?_
        refine mb_xV (as := []) (n := 0) (d2 := 0) (ci := 6) (N := 16) (rest := []) B hS1c hw1c hl.1 ⟨⟨by decide, by decide⟩, trivial⟩ (Nat.le_of_ble_eq_true rfl) (C_X6_thrown hst B.2.2.2.2.2.2.2.1 (show F_X6_thrown _ = some (.inl (some (.inl (h3.1 6 0 0 4))), h3) from rfl)) (mb_gV wl_L_109 mi_X6_thrown ms_X6_thrown mn_X6 mc_X6_thrown) (by decide +kernel) rfl rfl rfl ⟨by show 8 + 0 + 1 ≤ 2048; decide, by show _ ≤ 84000; decide, by show cells + 1 + 0 ≤ 601024; omega, by show slots + 6 + 0 ≤ 7293034; omega⟩ rfl dL_law_362 (fun v2 H2c locs2c hv2 _ hw2c hS2c _ _ => ?_) (fun E9 ce9 q9 H9 locs9 hv9 _ _ _ _ _ _ _ => by cases hv9)
        cases hv2
        refine lv_iload B.1 B.2.1 dL_law_365 (lv_at hl 1 rfl) ?_
        refine lv_icmp_eq (tgt := 372) B.1 B.2.1 dL_law_367 (by decide) (fun _ => ?_) (fun z9 => absurd eT z9)
        refine lv_iload B.1 B.2.1 dL_law_372 (lv_at hl 1 rfl) ?_
        refine lv_if_ne (tgt := 389) B.1 B.2.1 dL_law_374 (by decide) (fun _ => ?_) (fun z9 => absurd z9 (by decide))
        refine lv_goto (tgt := 1925) B.1 B.2.1 dL_law_389 (by decide) ?_
        exact kk _ _ _ _ _ _ eS hw2c hS2c (lv_sub hl [2, 3, 4, 5, 6] rfl) (by simp only [mb_mc, mb_ms]; omega) (by simp only [mb_mc, mb_ms]; omega)
      | 1, ej =>
        cases ej
        refine lv_aload_n B.1 B.2.1 dL_law_284 rfl (lv_at hl 3 rfl) ?_
        refine lv_aload_n B.1 B.2.1 dL_law_285 rfl (lv_at hl 4 rfl) ?_
        refine lv_iload B.1 B.2.1 dL_law_286 (lv_at hl 0 rfl) ?_
        refine lv_iconst (v := 1) B.1 B.2.1 dL_law_288 (by decide) ?_
        refine lv_iadd B.1 B.2.1 dL_law_289 ?_
        refine va_sld B.1 B.2.1 hX hbl (Nat.not_le.mpr hbl) hS hi1 dL_law_290 ?_
        refine lv_aload_n B.1 B.2.1 dL_law_291 rfl (lv_at hl 4 rfl) ?_
        refine lv_iload B.1 B.2.1 dL_law_292 (lv_at hl 0 rfl) ?_
        refine lv_iconst (v := 2) B.1 B.2.1 dL_law_294 (by decide) ?_
        refine lv_iadd B.1 B.2.1 dL_law_295 ?_
        refine va_sld B.1 B.2.1 hX hbl (Nat.not_le.mpr hbl) hS hi2 dL_law_296 ?_
        refine lv_aload_n B.1 B.2.1 dL_law_297 rfl (lv_at hl 4 rfl) ?_
        refine lv_iload B.1 B.2.1 dL_law_298 (lv_at hl 0 rfl) ?_
        refine lv_iconst (v := 3) B.1 B.2.1 dL_law_300 (by decide) ?_
        refine lv_iadd B.1 B.2.1 dL_law_301 ?_
        refine va_sld B.1 B.2.1 hX hbl (Nat.not_le.mpr hbl) hS hi3 dL_law_302 ?_
        refine lv_if_eq (tgt := 310) B.1 B.2.1 dL_law_303 (by decide) (fun z9 => absurd z9 q3) (fun _ => ?_)
        refine lv_iconst (v := 1) B.1 B.2.1 dL_law_306 (by decide) ?_
        refine lv_goto (tgt := 311) B.1 B.2.1 dL_law_307 (by decide) ?_
        refine lv_aload_n B.1 B.2.1 dL_law_311 rfl (lv_at hl 4 rfl) ?_
        refine lv_iload B.1 B.2.1 dL_law_312 (lv_at hl 0 rfl) ?_
        refine lv_iconst (v := 4) B.1 B.2.1 dL_law_314 (by decide) ?_
        refine lv_iadd B.1 B.2.1 dL_law_315 ?_
        refine va_sld B.1 B.2.1 hX hbl (Nat.not_le.mpr hbl) hS hi4 dL_law_316 ?_
        refine lv_aload_n B.1 B.2.1 dL_law_317 rfl (lv_at hl 1 rfl) ?_
        refine mb_xH (as := [mb_F 0 0 0, .inl (xs (x4 + 1).toNatClampNeg), .inl (xs (x4 + 2).toNatClampNeg), .inl 1, .inl (xs (x4 + 4).toNatClampNeg), mb_F 30 0 0]) (n := 6) (mc := 1) (ms := 6) (rest := []) B hS hw hl.1 ⟨⟨by decide, by decide⟩, trivial, trivial, trivial, trivial, ⟨by decide, by decide⟩, trivial⟩ (Nat.zero_le _) (H_addBerth_t2 hst B.2.2.2.2.2.2.2.1 e5) wl_L_116 mt_L_addBerth mn_L mw_L_addBerth (by decide +kernel) rfl ⟨by show 8 + 5 + 1 ≤ 2048; decide, by show _ ≤ 84000; decide, by show cells + 1 ≤ 601024; omega, by show slots + 6 ≤ 7293034; omega⟩ rfl dL_law_318 (fun H1 locs1 hw1 hS1 _ _ => ?_)
        refine lv_istore (lv' := [(5, .int 2), (4, .int x4), (3, .ref (G.2.2 (30, 0, 0))), (2, .ref (G.2.2 (6, 0, 0))), (1, .ref (G.2.2 (0, 0, 0))), (0, .ref b)]) B.1 B.2.1 dL_law_321 hl (by decide) rfl (fun ls hl => ?_)
        refine lv_aload_n B.1 B.2.1 dL_law_323 rfl (lv_at hl 3 rfl) ?_
        refine lv_aload_n B.1 B.2.1 dL_law_324 rfl (lv_at hl 5 rfl) ?_
        refine lv_iload B.1 B.2.1 dL_law_325 (lv_at hl 1 rfl) ?_
        refine lv_iconst (v := 1) B.1 B.2.1 dL_law_327 (by decide) ?_
        refine lv_iadd B.1 B.2.1 dL_law_328 ?_
        refine va_sld B.1 B.2.1 hX hbl (Nat.not_le.mpr hbl) hS1 hi1 dL_law_329 ?_
        refine lv_aload_n B.1 B.2.1 dL_law_330 rfl (lv_at hl 5 rfl) ?_
        refine lv_iload B.1 B.2.1 dL_law_331 (lv_at hl 1 rfl) ?_
        refine lv_iconst (v := 2) B.1 B.2.1 dL_law_333 (by decide) ?_
        refine lv_iadd B.1 B.2.1 dL_law_334 ?_
        refine va_sld B.1 B.2.1 hX hbl (Nat.not_le.mpr hbl) hS1 hi2 dL_law_335 ?_
        refine lv_aload_n B.1 B.2.1 dL_law_336 rfl (lv_at hl 5 rfl) ?_
        refine lv_iload B.1 B.2.1 dL_law_337 (lv_at hl 1 rfl) ?_
        refine lv_iconst (v := 3) B.1 B.2.1 dL_law_339 (by decide) ?_
        refine lv_iadd B.1 B.2.1 dL_law_340 ?_
        refine va_sld B.1 B.2.1 hX hbl (Nat.not_le.mpr hbl) hS1 hi3 dL_law_341 ?_
        refine lv_if_eq (tgt := 349) B.1 B.2.1 dL_law_342 (by decide) (fun z9 => absurd z9 q3) (fun _ => ?_)
        refine lv_iconst (v := 1) B.1 B.2.1 dL_law_345 (by decide) ?_
        refine lv_goto (tgt := 350) B.1 B.2.1 dL_law_346 (by decide) ?_
        refine lv_aload_n B.1 B.2.1 dL_law_350 rfl (lv_at hl 5 rfl) ?_
        refine lv_iload B.1 B.2.1 dL_law_351 (lv_at hl 1 rfl) ?_
        refine lv_iconst (v := 4) B.1 B.2.1 dL_law_353 (by decide) ?_
        refine lv_iadd B.1 B.2.1 dL_law_354 ?_
        refine va_sld B.1 B.2.1 hX hbl (Nat.not_le.mpr hbl) hS1 hi4 dL_law_355 ?_
        refine mb_xV (as := [.inl (xs (x4 + 1).toNatClampNeg), .inl (xs (x4 + 2).toNatClampNeg), .inl 1, .inl (xs (x4 + 4).toNatClampNeg)]) (n := 4) (d2 := 2) (ci := 6) (N := 16) (rest := []) B hS1 hw1 hl.1 ⟨⟨by decide, by decide⟩, trivial, trivial, trivial, trivial, trivial⟩ (Nat.le_of_ble_eq_true rfl) (C_X6_addBerth hst B.2.2.2.2.2.2.2.1 e6) (mb_gV wl_L_119 mi_X6_addBerth ms_X6_addBerth mn_X6 mc_X6_addBerth) (by decide +kernel) rfl rfl rfl ⟨by show 8 + 2 + 1 ≤ 2048; decide, by show _ ≤ 84000; decide, by show cells + 1 + 0 ≤ 601024; omega, by show slots + 6 + 0 ≤ 7293034; omega⟩ rfl dL_law_356 (fun v1 H1c locs1c hv1 _ hw1c hS1c _ _ => ?_) (fun E9 ce9 q9 H9 locs9 hv9 _ _ _ _ _ _ _ => by cases hv9)
        cases hv1
        refine lv_istore (lv' := [(6, .int b9), (5, .int 2), (4, .int x4), (3, .ref (G.2.2 (30, 0, 0))), (2, .ref (G.2.2 (6, 0, 0))), (1, .ref (G.2.2 (0, 0, 0))), (0, .ref b)]) B.1 B.2.1 dL_law_359 hl (by decide) rfl (fun ls hl => ?_)
        refine lv_aload_n B.1 B.2.1 dL_law_361 rfl (lv_at hl 4 rfl) ?_
        refine mb_xV (as := []) (n := 0) (d2 := 0) (ci := 6) (N := 16) (rest := []) B hS1c hw1c hl.1 ⟨⟨by decide, by decide⟩, trivial⟩ (Nat.le_of_ble_eq_true rfl) (C_X6_thrown hst B.2.2.2.2.2.2.2.1 (show F_X6_thrown _ = some (.inl (some (.inl (h3.1 6 0 0 4))), h3) from rfl)) (mb_gV wl_L_109 mi_X6_thrown ms_X6_thrown mn_X6 mc_X6_thrown) (by decide +kernel) rfl rfl rfl ⟨by show 8 + 0 + 1 ≤ 2048; decide, by show _ ≤ 84000; decide, by show cells + 1 + 0 ≤ 601024; omega, by show slots + 6 + 0 ≤ 7293034; omega⟩ rfl dL_law_362 (fun v2 H2c locs2c hv2 _ hw2c hS2c _ _ => ?_) (fun E9 ce9 q9 H9 locs9 hv9 _ _ _ _ _ _ _ => by cases hv9)
        cases hv2
        refine lv_iload B.1 B.2.1 dL_law_365 (lv_at hl 1 rfl) ?_
        refine lv_icmp_eq (tgt := 372) B.1 B.2.1 dL_law_367 (by decide) (fun _ => ?_) (fun z9 => absurd eT z9)
        refine lv_iload B.1 B.2.1 dL_law_372 (lv_at hl 1 rfl) ?_
        refine lv_if_ne (tgt := 389) B.1 B.2.1 dL_law_374 (by decide) (fun _ => ?_) (fun z9 => absurd z9 (by decide))
        refine lv_goto (tgt := 1925) B.1 B.2.1 dL_law_389 (by decide) ?_
        exact kk _ _ _ _ _ _ eS hw2c hS2c (lv_sub hl [2, 3, 4, 5, 6] rfl) (by simp only [mb_mc, mb_ms]; omega) (by simp only [mb_mc, mb_ms]; omega)
      | k9 + 2, ej => simp at ej
set_option maxRecDepth 100000 in
set_option maxHeartbeats 4000000 in
theorem lc_3 (hst : l.stackTraces = false) (B : mb_Lx p l s m #[Value.ref b] c G RL code 7 (mb_A9 s)) (hX : va_X b L xs s s.heap) (hbl : b < s.heap.size) (hS : va_S (mb_A9 s) s.heap H locs) (hw : mb_wd G h H) (hl : lv_has ls 7 [(4, .int x4), (3, .ref (G.2.2 (30, 0, 0))), (2, .ref (G.2.2 (6, 0, 0))), (1, .ref (G.2.2 (0, 0, 0))), (0, .ref b)]) (hc : cells + 1 ≤ 601024) (hs : slots + 6 ≤ 7293034) (hi1 : vp_in (x4 + 1) L) (hi2 : vp_in (x4 + 2) L) (hi3 : vp_in (x4 + 3) L) (hps : mb_PI ["java/lang/IllegalArgumentException", "java/lang/IllegalStateException"] (F_X5_addBoat (xs (x4 + 1).toNatClampNeg) (xs (x4 + 2).toNatClampNeg) (xs (x4 + 3).toNatClampNeg) h) (F_X6_addBoat (xs (x4 + 1).toNatClampNeg) (xs (x4 + 2).toNatClampNeg) (xs (x4 + 3).toNatClampNeg)) S)
    (kk : ∀ (h3 : mb_AH) (H3 : Heap) (locs3 : List Loc) (ls3 : Array Slot) (cells3 slots3 : Nat), S h3 → mb_wd G h3 H3 → va_S (mb_A9 s) s.heap H3 locs3 → lv_has ls3 7 [(4, .int x4), (3, .ref (G.2.2 (30, 0, 0))), (2, .ref (G.2.2 (6, 0, 0))), (1, .ref (G.2.2 (0, 0, 0))), (0, .ref b)] → cells3 ≤ cells + 1 → slots3 ≤ slots + 6 → W p l e room_1 s m #[Value.ref b] below meth c H3 locs3 cells3 slots3 Q (F0 m 1925 ls3 [])) : W p l e room_1 s m #[Value.ref b] below meth c H locs cells slots Q (F0 m 392 ls []) := by
  rcases hps with ⟨v, h1, h3, e5, e6, eT, eO, eS⟩ | ⟨j, E, h1, b9, h3, ej, e5, e6, eT, eS⟩
  · refine lv_aload_n B.1 B.2.1 dL_law_392 rfl (lv_at hl 3 rfl) ?_
    refine lv_aload_n B.1 B.2.1 dL_law_393 rfl (lv_at hl 4 rfl) ?_
    refine lv_iload B.1 B.2.1 dL_law_394 (lv_at hl 0 rfl) ?_
    refine lv_iconst (v := 1) B.1 B.2.1 dL_law_396 (by decide) ?_
    refine lv_iadd B.1 B.2.1 dL_law_397 ?_
    refine va_sld B.1 B.2.1 hX hbl (Nat.not_le.mpr hbl) hS hi1 dL_law_398 ?_
    refine lv_aload_n B.1 B.2.1 dL_law_399 rfl (lv_at hl 4 rfl) ?_
    refine lv_iload B.1 B.2.1 dL_law_400 (lv_at hl 0 rfl) ?_
    refine lv_iconst (v := 2) B.1 B.2.1 dL_law_402 (by decide) ?_
    refine lv_iadd B.1 B.2.1 dL_law_403 ?_
    refine va_sld B.1 B.2.1 hX hbl (Nat.not_le.mpr hbl) hS hi2 dL_law_404 ?_
    refine lv_aload_n B.1 B.2.1 dL_law_405 rfl (lv_at hl 4 rfl) ?_
    refine lv_iload B.1 B.2.1 dL_law_406 (lv_at hl 0 rfl) ?_
    refine lv_iconst (v := 3) B.1 B.2.1 dL_law_408 (by decide) ?_
    refine lv_iadd B.1 B.2.1 dL_law_409 ?_
    refine va_sld B.1 B.2.1 hX hbl (Nat.not_le.mpr hbl) hS hi3 dL_law_410 ?_
    refine lv_aload_n B.1 B.2.1 dL_law_411 rfl (lv_at hl 1 rfl) ?_
    refine mb_xH (as := [mb_F 0 0 0, .inl (xs (x4 + 1).toNatClampNeg), .inl (xs (x4 + 2).toNatClampNeg), .inl (xs (x4 + 3).toNatClampNeg), mb_F 30 0 0]) (n := 5) (mc := 0) (ms := 0) (rest := []) B hS hw hl.1 ⟨⟨by decide, by decide⟩, trivial, trivial, trivial, ⟨by decide, by decide⟩, trivial⟩ (Nat.zero_le _) (H_addBoat_r hst B.2.2.2.2.2.2.2.1 e5) wl_L_120 mt_L_addBoat mn_L mw_L_addBoat (by decide +kernel) rfl ⟨by show 8 + 5 + 1 ≤ 2048; decide, by show _ ≤ 84000; decide, by show cells + 0 ≤ 601024; omega, by show slots + 0 ≤ 7293034; omega⟩ rfl dL_law_412 (fun H1 locs1 hw1 hS1 _ _ => ?_)
    refine lv_istore (lv' := [(5, .int 0), (4, .int x4), (3, .ref (G.2.2 (30, 0, 0))), (2, .ref (G.2.2 (6, 0, 0))), (1, .ref (G.2.2 (0, 0, 0))), (0, .ref b)]) B.1 B.2.1 dL_law_415 hl (by decide) rfl (fun ls hl => ?_)
    refine lv_aload_n B.1 B.2.1 dL_law_417 rfl (lv_at hl 3 rfl) ?_
    refine lv_aload_n B.1 B.2.1 dL_law_418 rfl (lv_at hl 5 rfl) ?_
    refine lv_iload B.1 B.2.1 dL_law_419 (lv_at hl 1 rfl) ?_
    refine lv_iconst (v := 1) B.1 B.2.1 dL_law_421 (by decide) ?_
    refine lv_iadd B.1 B.2.1 dL_law_422 ?_
    refine va_sld B.1 B.2.1 hX hbl (Nat.not_le.mpr hbl) hS1 hi1 dL_law_423 ?_
    refine lv_aload_n B.1 B.2.1 dL_law_424 rfl (lv_at hl 5 rfl) ?_
    refine lv_iload B.1 B.2.1 dL_law_425 (lv_at hl 1 rfl) ?_
    refine lv_iconst (v := 2) B.1 B.2.1 dL_law_427 (by decide) ?_
    refine lv_iadd B.1 B.2.1 dL_law_428 ?_
    refine va_sld B.1 B.2.1 hX hbl (Nat.not_le.mpr hbl) hS1 hi2 dL_law_429 ?_
    refine lv_aload_n B.1 B.2.1 dL_law_430 rfl (lv_at hl 5 rfl) ?_
    refine lv_iload B.1 B.2.1 dL_law_431 (lv_at hl 1 rfl) ?_
    refine lv_iconst (v := 3) B.1 B.2.1 dL_law_433 (by decide) ?_
    refine lv_iadd B.1 B.2.1 dL_law_434 ?_
    refine va_sld B.1 B.2.1 hX hbl (Nat.not_le.mpr hbl) hS1 hi3 dL_law_435 ?_
    refine mb_xV (as := [.inl (xs (x4 + 1).toNatClampNeg), .inl (xs (x4 + 2).toNatClampNeg), .inl (xs (x4 + 3).toNatClampNeg)]) (n := 3) (d2 := 1) (ci := 6) (N := 16) (rest := []) B hS1 hw1 hl.1 ⟨⟨by decide, by decide⟩, trivial, trivial, trivial, trivial⟩ (Nat.le_of_ble_eq_true rfl) (C_X6_addBoat hst B.2.2.2.2.2.2.2.1 e6) (mb_gV wl_L_123 mi_X6_addBoat ms_X6_addBoat mn_X6 mc_X6_addBoat) (by decide +kernel) rfl rfl rfl ⟨by show 8 + 1 + 1 ≤ 2048; decide, by show _ ≤ 84000; decide, by show cells + 0 + 0 ≤ 601024; omega, by show slots + 0 + 0 ≤ 7293034; omega⟩ rfl dL_law_436 (fun v1 H1c locs1c hv1 _ hw1c hS1c _ _ => ?_) (fun E9 ce9 q9 H9 locs9 hv9 _ _ _ _ _ _ _ => by cases hv9)
    cases hv1
    refine lv_istore (lv' := [(6, .int v), (5, .int 0), (4, .int x4), (3, .ref (G.2.2 (30, 0, 0))), (2, .ref (G.2.2 (6, 0, 0))), (1, .ref (G.2.2 (0, 0, 0))), (0, .ref b)]) B.1 B.2.1 dL_law_439 hl (by decide) rfl (fun ls hl => ?_)
    refine lv_aload_n B.1 B.2.1 dL_law_441 rfl (lv_at hl 4 rfl) ?_
    refine mb_xV (as := []) (n := 0) (d2 := 0) (ci := 6) (N := 16) (rest := []) B hS1c hw1c hl.1 ⟨⟨by decide, by decide⟩, trivial⟩ (Nat.le_of_ble_eq_true rfl) (C_X6_thrown hst B.2.2.2.2.2.2.2.1 (show F_X6_thrown _ = some (.inl (some (.inl (h3.1 6 0 0 4))), h3) from rfl)) (mb_gV wl_L_109 mi_X6_thrown ms_X6_thrown mn_X6 mc_X6_thrown) (by decide +kernel) rfl rfl rfl ⟨by show 8 + 0 + 1 ≤ 2048; decide, by show _ ≤ 84000; decide, by show cells + 0 + 0 ≤ 601024; omega, by show slots + 0 + 0 ≤ 7293034; omega⟩ rfl dL_law_442 (fun v2 H2c locs2c hv2 _ hw2c hS2c _ _ => ?_) (fun E9 ce9 q9 H9 locs9 hv9 _ _ _ _ _ _ _ => by cases hv9)
    cases hv2
    refine lv_iload B.1 B.2.1 dL_law_445 (lv_at hl 1 rfl) ?_
    refine lv_icmp_eq (tgt := 452) B.1 B.2.1 dL_law_447 (by decide) (fun _ => ?_) (fun z9 => absurd eT z9)
    refine lv_iload B.1 B.2.1 dL_law_452 (lv_at hl 1 rfl) ?_
    refine lv_if_ne (tgt := 469) B.1 B.2.1 dL_law_454 (by decide) (fun z9 => absurd rfl z9) (fun _ => ?_)
    refine lv_aload_n B.1 B.2.1 dL_law_457 rfl (lv_at hl 3 rfl) ?_
    refine lv_iconst (v := 0) B.1 B.2.1 dL_law_458 (by decide) ?_
    refine mb_outld B hw2c dL_law_459 ?_
    refine lv_iload B.1 B.2.1 dL_law_460 (lv_at hl 0 rfl) ?_
    refine lv_i2l B.1 B.2.1 dL_law_462 rfl ?_
    refine W.lcmp B.1 B.2.1 dL_law_463 ?_
    refine lv_if_eq (tgt := 469) B.1 B.2.1 dL_law_464 (by decide) (fun _ => ?_) (fun z9 => absurd (by rw [eO]; exact mb_lc0 _) z9)
    refine lv_goto (tgt := 1925) B.1 B.2.1 dL_law_469 (by decide) ?_
    exact kk _ _ _ _ _ _ eS hw2c hS2c (lv_sub hl [2, 3, 4, 5, 6] rfl) (by simp only [mb_mc, mb_ms]; omega) (by simp only [mb_mc, mb_ms]; omega)
  · match j, ej with
    | 0, ej =>
      cases ej
      refine lv_aload_n B.1 B.2.1 dL_law_392 rfl (lv_at hl 3 rfl) ?_
      refine lv_aload_n B.1 B.2.1 dL_law_393 rfl (lv_at hl 4 rfl) ?_
      refine lv_iload B.1 B.2.1 dL_law_394 (lv_at hl 0 rfl) ?_
      refine lv_iconst (v := 1) B.1 B.2.1 dL_law_396 (by decide) ?_
      refine lv_iadd B.1 B.2.1 dL_law_397 ?_
      refine va_sld B.1 B.2.1 hX hbl (Nat.not_le.mpr hbl) hS hi1 dL_law_398 ?_
      refine lv_aload_n B.1 B.2.1 dL_law_399 rfl (lv_at hl 4 rfl) ?_
      refine lv_iload B.1 B.2.1 dL_law_400 (lv_at hl 0 rfl) ?_
      refine lv_iconst (v := 2) B.1 B.2.1 dL_law_402 (by decide) ?_
      refine lv_iadd B.1 B.2.1 dL_law_403 ?_
      refine va_sld B.1 B.2.1 hX hbl (Nat.not_le.mpr hbl) hS hi2 dL_law_404 ?_
      refine lv_aload_n B.1 B.2.1 dL_law_405 rfl (lv_at hl 4 rfl) ?_
      refine lv_iload B.1 B.2.1 dL_law_406 (lv_at hl 0 rfl) ?_
      refine lv_iconst (v := 3) B.1 B.2.1 dL_law_408 (by decide) ?_
      refine lv_iadd B.1 B.2.1 dL_law_409 ?_
      refine va_sld B.1 B.2.1 hX hbl (Nat.not_le.mpr hbl) hS hi3 dL_law_410 ?_
      refine lv_aload_n B.1 B.2.1 dL_law_411 rfl (lv_at hl 1 rfl) ?_
      refine mb_xH (as := [mb_F 0 0 0, .inl (xs (x4 + 1).toNatClampNeg), .inl (xs (x4 + 2).toNatClampNeg), .inl (xs (x4 + 3).toNatClampNeg), mb_F 30 0 0]) (n := 5) (mc := 1) (ms := 6) (rest := []) B hS hw hl.1 ⟨⟨by decide, by decide⟩, trivial, trivial, trivial, ⟨by decide, by decide⟩, trivial⟩ (Nat.zero_le _) (H_addBoat_t1 hst B.2.2.2.2.2.2.2.1 e5) wl_L_120 mt_L_addBoat mn_L mw_L_addBoat (by decide +kernel) rfl ⟨by show 8 + 5 + 1 ≤ 2048; decide, by show _ ≤ 84000; decide, by show cells + 1 ≤ 601024; omega, by show slots + 6 ≤ 7293034; omega⟩ rfl dL_law_412 (fun H1 locs1 hw1 hS1 _ _ => ?_)
      refine lv_istore (lv' := [(5, .int 1), (4, .int x4), (3, .ref (G.2.2 (30, 0, 0))), (2, .ref (G.2.2 (6, 0, 0))), (1, .ref (G.2.2 (0, 0, 0))), (0, .ref b)]) B.1 B.2.1 dL_law_415 hl (by decide) rfl (fun ls hl => ?_)
      refine lv_aload_n B.1 B.2.1 dL_law_417 rfl (lv_at hl 3 rfl) ?_
      refine lv_aload_n B.1 B.2.1 dL_law_418 rfl (lv_at hl 5 rfl) ?_
      refine lv_iload B.1 B.2.1 dL_law_419 (lv_at hl 1 rfl) ?_
      refine lv_iconst (v := 1) B.1 B.2.1 dL_law_421 (by decide) ?_
      refine lv_iadd B.1 B.2.1 dL_law_422 ?_
      refine va_sld B.1 B.2.1 hX hbl (Nat.not_le.mpr hbl) hS1 hi1 dL_law_423 ?_
      refine lv_aload_n B.1 B.2.1 dL_law_424 rfl (lv_at hl 5 rfl) ?_
      refine lv_iload B.1 B.2.1 dL_law_425 (lv_at hl 1 rfl) ?_
      refine lv_iconst (v := 2) B.1 B.2.1 dL_law_427 (by decide) ?_
      refine lv_iadd B.1 B.2.1 dL_law_428 ?_
      refine va_sld B.1 B.2.1 hX hbl (Nat.not_le.mpr hbl) hS1 hi2 dL_law_429 ?_
      refine lv_aload_n B.1 B.2.1 dL_law_430 rfl (lv_at hl 5 rfl) ?_
      refine lv_iload B.1 B.2.1 dL_law_431 (lv_at hl 1 rfl) ?_
      refine lv_iconst (v := 3) B.1 B.2.1 dL_law_433 (by decide) ?_
      refine lv_iadd B.1 B.2.1 dL_law_434 ?_
      refine va_sld B.1 B.2.1 hX hbl (Nat.not_le.mpr hbl) hS1 hi3 dL_law_435 ?_
      refine mb_xV (as := [.inl (xs (x4 + 1).toNatClampNeg), .inl (xs (x4 + 2).toNatClampNeg), .inl (xs (x4 + 3).toNatClampNeg)]) (n := 3) (d2 := 1) (ci := 6) (N := 16) (rest := []) B hS1 hw1 hl.1 ⟨⟨by decide, by decide⟩, trivial, trivial, trivial, trivial⟩ (Nat.le_of_ble_eq_true rfl) (C_X6_addBoat hst B.2.2.2.2.2.2.2.1 e6) (mb_gV wl_L_123 mi_X6_addBoat ms_X6_addBoat mn_X6 mc_X6_addBoat) (by decide +kernel) rfl rfl rfl ⟨by show 8 + 1 + 1 ≤ 2048; decide, by show _ ≤ 84000; decide, by show cells + 1 + 0 ≤ 601024; omega, by show slots + 6 + 0 ≤ 7293034; omega⟩ rfl dL_law_436 (fun v1 H1c locs1c hv1 _ hw1c hS1c _ _ => ?_) (fun E9 ce9 q9 H9 locs9 hv9 _ _ _ _ _ _ _ => by cases hv9)
      cases hv1
      refine lv_istore (lv' := [(6, .int b9), (5, .int 1), (4, .int x4), (3, .ref (G.2.2 (30, 0, 0))), (2, .ref (G.2.2 (6, 0, 0))), (1, .ref (G.2.2 (0, 0, 0))), (0, .ref b)]) B.1 B.2.1 dL_law_439 hl (by decide) rfl (fun ls hl => ?_)
      refine lv_aload_n B.1 B.2.1 dL_law_441 rfl (lv_at hl 4 rfl) ?_
      refine mb_xV (as := []) (n := 0) (d2 := 0) (ci := 6) (N := 16) (rest := []) B hS1c hw1c hl.1 ⟨⟨by decide, by decide⟩, trivial⟩ (Nat.le_of_ble_eq_true rfl) (C_X6_thrown hst B.2.2.2.2.2.2.2.1 (show F_X6_thrown _ = some (.inl (some (.inl (h3.1 6 0 0 4))), h3) from rfl)) (mb_gV wl_L_109 mi_X6_thrown ms_X6_thrown mn_X6 mc_X6_thrown) (by decide +kernel) rfl rfl rfl ⟨by show 8 + 0 + 1 ≤ 2048; decide, by show _ ≤ 84000; decide, by show cells + 1 + 0 ≤ 601024; omega, by show slots + 6 + 0 ≤ 7293034; omega⟩ rfl dL_law_442 (fun v2 H2c locs2c hv2 _ hw2c hS2c _ _ => ?_) (fun E9 ce9 q9 H9 locs9 hv9 _ _ _ _ _ _ _ => by cases hv9)
      cases hv2
      refine lv_iload B.1 B.2.1 dL_law_445 (lv_at hl 1 rfl) ?_
      refine lv_icmp_eq (tgt := 452) B.1 B.2.1 dL_law_447 (by decide) (fun _ => ?_) (fun z9 => absurd eT z9)
      refine lv_iload B.1 B.2.1 dL_law_452 (lv_at hl 1 rfl) ?_
      refine lv_if_ne (tgt := 469) B.1 B.2.1 dL_law_454 (by decide) (fun _ => ?_) (fun z9 => absurd z9 (by decide))
      refine lv_goto (tgt := 1925) B.1 B.2.1 dL_law_469 (by decide) ?_
      exact kk _ _ _ _ _ _ eS hw2c hS2c (lv_sub hl [2, 3, 4, 5, 6] rfl) (by simp only [mb_mc, mb_ms]; omega) (by simp only [mb_mc, mb_ms]; omega)
    | 1, ej =>
      cases ej
      refine lv_aload_n B.1 B.2.1 dL_law_392 rfl (lv_at hl 3 rfl) ?_
      refine lv_aload_n B.1 B.2.1 dL_law_393 rfl (lv_at hl 4 rfl) ?_
      refine lv_iload B.1 B.2.1 dL_law_394 (lv_at hl 0 rfl) ?_
      refine lv_iconst (v := 1) B.1 B.2.1 dL_law_396 (by decide) ?_
      refine lv_iadd B.1 B.2.1 dL_law_397 ?_
      refine va_sld B.1 B.2.1 hX hbl (Nat.not_le.mpr hbl) hS hi1 dL_law_398 ?_
      refine lv_aload_n B.1 B.2.1 dL_law_399 rfl (lv_at hl 4 rfl) ?_
      refine lv_iload B.1 B.2.1 dL_law_400 (lv_at hl 0 rfl) ?_
      refine lv_iconst (v := 2) B.1 B.2.1 dL_law_402 (by decide) ?_
      refine lv_iadd B.1 B.2.1 dL_law_403 ?_
      refine va_sld B.1 B.2.1 hX hbl (Nat.not_le.mpr hbl) hS hi2 dL_law_404 ?_
      refine lv_aload_n B.1 B.2.1 dL_law_405 rfl (lv_at hl 4 rfl) ?_
      refine lv_iload B.1 B.2.1 dL_law_406 (lv_at hl 0 rfl) ?_
      refine lv_iconst (v := 3) B.1 B.2.1 dL_law_408 (by decide) ?_
      refine lv_iadd B.1 B.2.1 dL_law_409 ?_
      refine va_sld B.1 B.2.1 hX hbl (Nat.not_le.mpr hbl) hS hi3 dL_law_410 ?_
      refine lv_aload_n B.1 B.2.1 dL_law_411 rfl (lv_at hl 1 rfl) ?_
      refine mb_xH (as := [mb_F 0 0 0, .inl (xs (x4 + 1).toNatClampNeg), .inl (xs (x4 + 2).toNatClampNeg), .inl (xs (x4 + 3).toNatClampNeg), mb_F 30 0 0]) (n := 5) (mc := 1) (ms := 6) (rest := []) B hS hw hl.1 ⟨⟨by decide, by decide⟩, trivial, trivial, trivial, ⟨by decide, by decide⟩, trivial⟩ (Nat.zero_le _) (H_addBoat_t2 hst B.2.2.2.2.2.2.2.1 e5) wl_L_120 mt_L_addBoat mn_L mw_L_addBoat (by decide +kernel) rfl ⟨by show 8 + 5 + 1 ≤ 2048; decide, by show _ ≤ 84000; decide, by show cells + 1 ≤ 601024; omega, by show slots + 6 ≤ 7293034; omega⟩ rfl dL_law_412 (fun H1 locs1 hw1 hS1 _ _ => ?_)
      refine lv_istore (lv' := [(5, .int 2), (4, .int x4), (3, .ref (G.2.2 (30, 0, 0))), (2, .ref (G.2.2 (6, 0, 0))), (1, .ref (G.2.2 (0, 0, 0))), (0, .ref b)]) B.1 B.2.1 dL_law_415 hl (by decide) rfl (fun ls hl => ?_)
      refine lv_aload_n B.1 B.2.1 dL_law_417 rfl (lv_at hl 3 rfl) ?_
      refine lv_aload_n B.1 B.2.1 dL_law_418 rfl (lv_at hl 5 rfl) ?_
      refine lv_iload B.1 B.2.1 dL_law_419 (lv_at hl 1 rfl) ?_
      refine lv_iconst (v := 1) B.1 B.2.1 dL_law_421 (by decide) ?_
      refine lv_iadd B.1 B.2.1 dL_law_422 ?_
      refine va_sld B.1 B.2.1 hX hbl (Nat.not_le.mpr hbl) hS1 hi1 dL_law_423 ?_
      refine lv_aload_n B.1 B.2.1 dL_law_424 rfl (lv_at hl 5 rfl) ?_
      refine lv_iload B.1 B.2.1 dL_law_425 (lv_at hl 1 rfl) ?_
      refine lv_iconst (v := 2) B.1 B.2.1 dL_law_427 (by decide) ?_
      refine lv_iadd B.1 B.2.1 dL_law_428 ?_
      refine va_sld B.1 B.2.1 hX hbl (Nat.not_le.mpr hbl) hS1 hi2 dL_law_429 ?_
      refine lv_aload_n B.1 B.2.1 dL_law_430 rfl (lv_at hl 5 rfl) ?_
      refine lv_iload B.1 B.2.1 dL_law_431 (lv_at hl 1 rfl) ?_
      refine lv_iconst (v := 3) B.1 B.2.1 dL_law_433 (by decide) ?_
      refine lv_iadd B.1 B.2.1 dL_law_434 ?_
      refine va_sld B.1 B.2.1 hX hbl (Nat.not_le.mpr hbl) hS1 hi3 dL_law_435 ?_
      refine mb_xV (as := [.inl (xs (x4 + 1).toNatClampNeg), .inl (xs (x4 + 2).toNatClampNeg), .inl (xs (x4 + 3).toNatClampNeg)]) (n := 3) (d2 := 1) (ci := 6) (N := 16) (rest := []) B hS1 hw1 hl.1 ⟨⟨by decide, by decide⟩, trivial, trivial, trivial, trivial⟩ (Nat.le_of_ble_eq_true rfl) (C_X6_addBoat hst B.2.2.2.2.2.2.2.1 e6) (mb_gV wl_L_123 mi_X6_addBoat ms_X6_addBoat mn_X6 mc_X6_addBoat) (by decide +kernel) rfl rfl rfl ⟨by show 8 + 1 + 1 ≤ 2048; decide, by show _ ≤ 84000; decide, by show cells + 1 + 0 ≤ 601024; omega, by show slots + 6 + 0 ≤ 7293034; omega⟩ rfl dL_law_436 (fun v1 H1c locs1c hv1 _ hw1c hS1c _ _ => ?_) (fun E9 ce9 q9 H9 locs9 hv9 _ _ _ _ _ _ _ => by cases hv9)
      cases hv1
      refine lv_istore (lv' := [(6, .int b9), (5, .int 2), (4, .int x4), (3, .ref (G.2.2 (30, 0, 0))), (2, .ref (G.2.2 (6, 0, 0))), (1, .ref (G.2.2 (0, 0, 0))), (0, .ref b)]) B.1 B.2.1 dL_law_439 hl (by decide) rfl (fun ls hl => ?_)
      refine lv_aload_n B.1 B.2.1 dL_law_441 rfl (lv_at hl 4 rfl) ?_
      refine mb_xV (as := []) (n := 0) (d2 := 0) (ci := 6) (N := 16) (rest := []) B hS1c hw1c hl.1 ⟨⟨by decide, by decide⟩, trivial⟩ (Nat.le_of_ble_eq_true rfl) (C_X6_thrown hst B.2.2.2.2.2.2.2.1 (show F_X6_thrown _ = some (.inl (some (.inl (h3.1 6 0 0 4))), h3) from rfl)) (mb_gV wl_L_109 mi_X6_thrown ms_X6_thrown mn_X6 mc_X6_thrown) (by decide +kernel) rfl rfl rfl ⟨by show 8 + 0 + 1 ≤ 2048; decide, by show _ ≤ 84000; decide, by show cells + 1 + 0 ≤ 601024; omega, by show slots + 6 + 0 ≤ 7293034; omega⟩ rfl dL_law_442 (fun v2 H2c locs2c hv2 _ hw2c hS2c _ _ => ?_) (fun E9 ce9 q9 H9 locs9 hv9 _ _ _ _ _ _ _ => by cases hv9)
      cases hv2
      refine lv_iload B.1 B.2.1 dL_law_445 (lv_at hl 1 rfl) ?_
      refine lv_icmp_eq (tgt := 452) B.1 B.2.1 dL_law_447 (by decide) (fun _ => ?_) (fun z9 => absurd eT z9)
      refine lv_iload B.1 B.2.1 dL_law_452 (lv_at hl 1 rfl) ?_
      refine lv_if_ne (tgt := 469) B.1 B.2.1 dL_law_454 (by decide) (fun _ => ?_) (fun z9 => absurd z9 (by decide))
      refine lv_goto (tgt := 1925) B.1 B.2.1 dL_law_469 (by decide) ?_
      exact kk _ _ _ _ _ _ eS hw2c hS2c (lv_sub hl [2, 3, 4, 5, 6] rfl) (by simp only [mb_mc, mb_ms]; omega) (by simp only [mb_mc, mb_ms]; omega)
    | k9 + 2, ej => simp at ej
set_option maxRecDepth 100000 in
set_option maxHeartbeats 4000000 in
theorem lc_4 (hst : l.stackTraces = false) (B : mb_Lx p l s m #[Value.ref b] c G RL code 7 (mb_A9 s)) (hX : va_X b L xs s s.heap) (hbl : b < s.heap.size) (hS : va_S (mb_A9 s) s.heap H locs) (hw : mb_wd G h H) (hl : lv_has ls 7 [(4, .int x4), (3, .ref (G.2.2 (30, 0, 0))), (2, .ref (G.2.2 (6, 0, 0))), (1, .ref (G.2.2 (0, 0, 0))), (0, .ref b)]) (hc : cells + 1 ≤ 601024) (hs : slots + 6 ≤ 7293034) (hi1 : vp_in (x4 + 1) L) (hi2 : vp_in (x4 + 2) L) (hps : mb_PI ["java/lang/IllegalArgumentException"] (F_X5_set (xs (x4 + 1).toNatClampNeg) (xs (x4 + 2).toNatClampNeg) h) (F_X6_set (xs (x4 + 1).toNatClampNeg) (xs (x4 + 2).toNatClampNeg)) S)
    (kk : ∀ (h3 : mb_AH) (H3 : Heap) (locs3 : List Loc) (ls3 : Array Slot) (cells3 slots3 : Nat), S h3 → mb_wd G h3 H3 → va_S (mb_A9 s) s.heap H3 locs3 → lv_has ls3 7 [(4, .int x4), (3, .ref (G.2.2 (30, 0, 0))), (2, .ref (G.2.2 (6, 0, 0))), (1, .ref (G.2.2 (0, 0, 0))), (0, .ref b)] → cells3 ≤ cells + 1 → slots3 ≤ slots + 6 → W p l e room_1 s m #[Value.ref b] below meth c H3 locs3 cells3 slots3 Q (F0 m 1925 ls3 [])) : W p l e room_1 s m #[Value.ref b] below meth c H locs cells slots Q (F0 m 472 ls []) := by
  rcases hps with ⟨v, h1, h3, e5, e6, eT, eO, eS⟩ | ⟨j, E, h1, b9, h3, ej, e5, e6, eT, eS⟩
  · refine lv_aload_n B.1 B.2.1 dL_law_472 rfl (lv_at hl 3 rfl) ?_
    refine lv_aload_n B.1 B.2.1 dL_law_473 rfl (lv_at hl 4 rfl) ?_
    refine lv_iload B.1 B.2.1 dL_law_474 (lv_at hl 0 rfl) ?_
    refine lv_iconst (v := 1) B.1 B.2.1 dL_law_476 (by decide) ?_
    refine lv_iadd B.1 B.2.1 dL_law_477 ?_
    refine va_sld B.1 B.2.1 hX hbl (Nat.not_le.mpr hbl) hS hi1 dL_law_478 ?_
    refine lv_aload_n B.1 B.2.1 dL_law_479 rfl (lv_at hl 4 rfl) ?_
    refine lv_iload B.1 B.2.1 dL_law_480 (lv_at hl 0 rfl) ?_
    refine lv_iconst (v := 2) B.1 B.2.1 dL_law_482 (by decide) ?_
    refine lv_iadd B.1 B.2.1 dL_law_483 ?_
    refine va_sld B.1 B.2.1 hX hbl (Nat.not_le.mpr hbl) hS hi2 dL_law_484 ?_
    refine lv_aload_n B.1 B.2.1 dL_law_485 rfl (lv_at hl 1 rfl) ?_
    refine mb_xH (as := [mb_F 0 0 0, .inl (xs (x4 + 1).toNatClampNeg), .inl (xs (x4 + 2).toNatClampNeg), mb_F 30 0 0]) (n := 4) (mc := 0) (ms := 0) (rest := []) B hS hw hl.1 ⟨⟨by decide, by decide⟩, trivial, trivial, ⟨by decide, by decide⟩, trivial⟩ (Nat.zero_le _) (H_set_r hst B.2.2.2.2.2.2.2.1 e5) wl_L_124 mt_L_set mn_L mw_L_set (by decide +kernel) rfl ⟨by show 8 + 6 + 1 ≤ 2048; decide, by show _ ≤ 84000; decide, by show cells + 0 ≤ 601024; omega, by show slots + 0 ≤ 7293034; omega⟩ rfl dL_law_486 (fun H1 locs1 hw1 hS1 _ _ => ?_)
    refine lv_istore (lv' := [(5, .int 0), (4, .int x4), (3, .ref (G.2.2 (30, 0, 0))), (2, .ref (G.2.2 (6, 0, 0))), (1, .ref (G.2.2 (0, 0, 0))), (0, .ref b)]) B.1 B.2.1 dL_law_489 hl (by decide) rfl (fun ls hl => ?_)
    refine lv_aload_n B.1 B.2.1 dL_law_491 rfl (lv_at hl 3 rfl) ?_
    refine lv_aload_n B.1 B.2.1 dL_law_492 rfl (lv_at hl 5 rfl) ?_
    refine lv_iload B.1 B.2.1 dL_law_493 (lv_at hl 1 rfl) ?_
    refine lv_iconst (v := 1) B.1 B.2.1 dL_law_495 (by decide) ?_
    refine lv_iadd B.1 B.2.1 dL_law_496 ?_
    refine va_sld B.1 B.2.1 hX hbl (Nat.not_le.mpr hbl) hS1 hi1 dL_law_497 ?_
    refine lv_aload_n B.1 B.2.1 dL_law_498 rfl (lv_at hl 5 rfl) ?_
    refine lv_iload B.1 B.2.1 dL_law_499 (lv_at hl 1 rfl) ?_
    refine lv_iconst (v := 2) B.1 B.2.1 dL_law_501 (by decide) ?_
    refine lv_iadd B.1 B.2.1 dL_law_502 ?_
    refine va_sld B.1 B.2.1 hX hbl (Nat.not_le.mpr hbl) hS1 hi2 dL_law_503 ?_
    refine mb_xV (as := [.inl (xs (x4 + 1).toNatClampNeg), .inl (xs (x4 + 2).toNatClampNeg)]) (n := 2) (d2 := 3) (ci := 6) (N := 16) (rest := []) B hS1 hw1 hl.1 ⟨⟨by decide, by decide⟩, trivial, trivial, trivial⟩ (Nat.le_of_ble_eq_true rfl) (C_X6_set hst B.2.2.2.2.2.2.2.1 e6) (mb_gV wl_L_127 mi_X6_set ms_X6_set mn_X6 mc_X6_set) (by decide +kernel) rfl rfl rfl ⟨by show 8 + 3 + 1 ≤ 2048; decide, by show _ ≤ 84000; decide, by show cells + 0 + 0 ≤ 601024; omega, by show slots + 0 + 0 ≤ 7293034; omega⟩ rfl dL_law_504 (fun v1 H1c locs1c hv1 _ hw1c hS1c _ _ => ?_) (fun E9 ce9 q9 H9 locs9 hv9 _ _ _ _ _ _ _ => by cases hv9)
    cases hv1
    refine lv_istore (lv' := [(6, .int v), (5, .int 0), (4, .int x4), (3, .ref (G.2.2 (30, 0, 0))), (2, .ref (G.2.2 (6, 0, 0))), (1, .ref (G.2.2 (0, 0, 0))), (0, .ref b)]) B.1 B.2.1 dL_law_507 hl (by decide) rfl (fun ls hl => ?_)
    refine lv_aload_n B.1 B.2.1 dL_law_509 rfl (lv_at hl 4 rfl) ?_
    refine mb_xV (as := []) (n := 0) (d2 := 0) (ci := 6) (N := 16) (rest := []) B hS1c hw1c hl.1 ⟨⟨by decide, by decide⟩, trivial⟩ (Nat.le_of_ble_eq_true rfl) (C_X6_thrown hst B.2.2.2.2.2.2.2.1 (show F_X6_thrown _ = some (.inl (some (.inl (h3.1 6 0 0 4))), h3) from rfl)) (mb_gV wl_L_109 mi_X6_thrown ms_X6_thrown mn_X6 mc_X6_thrown) (by decide +kernel) rfl rfl rfl ⟨by show 8 + 0 + 1 ≤ 2048; decide, by show _ ≤ 84000; decide, by show cells + 0 + 0 ≤ 601024; omega, by show slots + 0 + 0 ≤ 7293034; omega⟩ rfl dL_law_510 (fun v2 H2c locs2c hv2 _ hw2c hS2c _ _ => ?_) (fun E9 ce9 q9 H9 locs9 hv9 _ _ _ _ _ _ _ => by cases hv9)
    cases hv2
    refine lv_iload B.1 B.2.1 dL_law_513 (lv_at hl 1 rfl) ?_
    refine lv_icmp_eq (tgt := 520) B.1 B.2.1 dL_law_515 (by decide) (fun _ => ?_) (fun z9 => absurd eT z9)
    refine lv_iload B.1 B.2.1 dL_law_520 (lv_at hl 1 rfl) ?_
    refine lv_if_ne (tgt := 537) B.1 B.2.1 dL_law_522 (by decide) (fun z9 => absurd rfl z9) (fun _ => ?_)
    refine lv_aload_n B.1 B.2.1 dL_law_525 rfl (lv_at hl 3 rfl) ?_
    refine lv_iconst (v := 0) B.1 B.2.1 dL_law_526 (by decide) ?_
    refine mb_outld B hw2c dL_law_527 ?_
    refine lv_iload B.1 B.2.1 dL_law_528 (lv_at hl 0 rfl) ?_
    refine lv_i2l B.1 B.2.1 dL_law_530 rfl ?_
    refine W.lcmp B.1 B.2.1 dL_law_531 ?_
    refine lv_if_eq (tgt := 537) B.1 B.2.1 dL_law_532 (by decide) (fun _ => ?_) (fun z9 => absurd (by rw [eO]; exact mb_lc0 _) z9)
    refine lv_goto (tgt := 1925) B.1 B.2.1 dL_law_537 (by decide) ?_
    exact kk _ _ _ _ _ _ eS hw2c hS2c (lv_sub hl [2, 3, 4, 5, 6] rfl) (by simp only [mb_mc, mb_ms]; omega) (by simp only [mb_mc, mb_ms]; omega)
  · match j, ej with
    | 0, ej =>
      cases ej
      refine lv_aload_n B.1 B.2.1 dL_law_472 rfl (lv_at hl 3 rfl) ?_
      refine lv_aload_n B.1 B.2.1 dL_law_473 rfl (lv_at hl 4 rfl) ?_
      refine lv_iload B.1 B.2.1 dL_law_474 (lv_at hl 0 rfl) ?_
      refine lv_iconst (v := 1) B.1 B.2.1 dL_law_476 (by decide) ?_
      refine lv_iadd B.1 B.2.1 dL_law_477 ?_
      refine va_sld B.1 B.2.1 hX hbl (Nat.not_le.mpr hbl) hS hi1 dL_law_478 ?_
      refine lv_aload_n B.1 B.2.1 dL_law_479 rfl (lv_at hl 4 rfl) ?_
      refine lv_iload B.1 B.2.1 dL_law_480 (lv_at hl 0 rfl) ?_
      refine lv_iconst (v := 2) B.1 B.2.1 dL_law_482 (by decide) ?_
      refine lv_iadd B.1 B.2.1 dL_law_483 ?_
      refine va_sld B.1 B.2.1 hX hbl (Nat.not_le.mpr hbl) hS hi2 dL_law_484 ?_
      refine lv_aload_n B.1 B.2.1 dL_law_485 rfl (lv_at hl 1 rfl) ?_
      refine mb_xH (as := [mb_F 0 0 0, .inl (xs (x4 + 1).toNatClampNeg), .inl (xs (x4 + 2).toNatClampNeg), mb_F 30 0 0]) (n := 4) (mc := 1) (ms := 6) (rest := []) B hS hw hl.1 ⟨⟨by decide, by decide⟩, trivial, trivial, ⟨by decide, by decide⟩, trivial⟩ (Nat.zero_le _) (H_set_t1 hst B.2.2.2.2.2.2.2.1 e5) wl_L_124 mt_L_set mn_L mw_L_set (by decide +kernel) rfl ⟨by show 8 + 6 + 1 ≤ 2048; decide, by show _ ≤ 84000; decide, by show cells + 1 ≤ 601024; omega, by show slots + 6 ≤ 7293034; omega⟩ rfl dL_law_486 (fun H1 locs1 hw1 hS1 _ _ => ?_)
      refine lv_istore (lv' := [(5, .int 1), (4, .int x4), (3, .ref (G.2.2 (30, 0, 0))), (2, .ref (G.2.2 (6, 0, 0))), (1, .ref (G.2.2 (0, 0, 0))), (0, .ref b)]) B.1 B.2.1 dL_law_489 hl (by decide) rfl (fun ls hl => ?_)
      refine lv_aload_n B.1 B.2.1 dL_law_491 rfl (lv_at hl 3 rfl) ?_
      refine lv_aload_n B.1 B.2.1 dL_law_492 rfl (lv_at hl 5 rfl) ?_
      refine lv_iload B.1 B.2.1 dL_law_493 (lv_at hl 1 rfl) ?_
      refine lv_iconst (v := 1) B.1 B.2.1 dL_law_495 (by decide) ?_
      refine lv_iadd B.1 B.2.1 dL_law_496 ?_
      refine va_sld B.1 B.2.1 hX hbl (Nat.not_le.mpr hbl) hS1 hi1 dL_law_497 ?_
      refine lv_aload_n B.1 B.2.1 dL_law_498 rfl (lv_at hl 5 rfl) ?_
      refine lv_iload B.1 B.2.1 dL_law_499 (lv_at hl 1 rfl) ?_
      refine lv_iconst (v := 2) B.1 B.2.1 dL_law_501 (by decide) ?_
      refine lv_iadd B.1 B.2.1 dL_law_502 ?_
      refine va_sld B.1 B.2.1 hX hbl (Nat.not_le.mpr hbl) hS1 hi2 dL_law_503 ?_
      refine mb_xV (as := [.inl (xs (x4 + 1).toNatClampNeg), .inl (xs (x4 + 2).toNatClampNeg)]) (n := 2) (d2 := 3) (ci := 6) (N := 16) (rest := []) B hS1 hw1 hl.1 ⟨⟨by decide, by decide⟩, trivial, trivial, trivial⟩ (Nat.le_of_ble_eq_true rfl) (C_X6_set hst B.2.2.2.2.2.2.2.1 e6) (mb_gV wl_L_127 mi_X6_set ms_X6_set mn_X6 mc_X6_set) (by decide +kernel) rfl rfl rfl ⟨by show 8 + 3 + 1 ≤ 2048; decide, by show _ ≤ 84000; decide, by show cells + 1 + 0 ≤ 601024; omega, by show slots + 6 + 0 ≤ 7293034; omega⟩ rfl dL_law_504 (fun v1 H1c locs1c hv1 _ hw1c hS1c _ _ => ?_) (fun E9 ce9 q9 H9 locs9 hv9 _ _ _ _ _ _ _ => by cases hv9)
      cases hv1
      refine lv_istore (lv' := [(6, .int b9), (5, .int 1), (4, .int x4), (3, .ref (G.2.2 (30, 0, 0))), (2, .ref (G.2.2 (6, 0, 0))), (1, .ref (G.2.2 (0, 0, 0))), (0, .ref b)]) B.1 B.2.1 dL_law_507 hl (by decide) rfl (fun ls hl => ?_)
      refine lv_aload_n B.1 B.2.1 dL_law_509 rfl (lv_at hl 4 rfl) ?_
      refine mb_xV (as := []) (n := 0) (d2 := 0) (ci := 6) (N := 16) (rest := []) B hS1c hw1c hl.1 ⟨⟨by decide, by decide⟩, trivial⟩ (Nat.le_of_ble_eq_true rfl) (C_X6_thrown hst B.2.2.2.2.2.2.2.1 (show F_X6_thrown _ = some (.inl (some (.inl (h3.1 6 0 0 4))), h3) from rfl)) (mb_gV wl_L_109 mi_X6_thrown ms_X6_thrown mn_X6 mc_X6_thrown) (by decide +kernel) rfl rfl rfl ⟨by show 8 + 0 + 1 ≤ 2048; decide, by show _ ≤ 84000; decide, by show cells + 1 + 0 ≤ 601024; omega, by show slots + 6 + 0 ≤ 7293034; omega⟩ rfl dL_law_510 (fun v2 H2c locs2c hv2 _ hw2c hS2c _ _ => ?_) (fun E9 ce9 q9 H9 locs9 hv9 _ _ _ _ _ _ _ => by cases hv9)
      cases hv2
      refine lv_iload B.1 B.2.1 dL_law_513 (lv_at hl 1 rfl) ?_
      refine lv_icmp_eq (tgt := 520) B.1 B.2.1 dL_law_515 (by decide) (fun _ => ?_) (fun z9 => absurd eT z9)
      refine lv_iload B.1 B.2.1 dL_law_520 (lv_at hl 1 rfl) ?_
      refine lv_if_ne (tgt := 537) B.1 B.2.1 dL_law_522 (by decide) (fun _ => ?_) (fun z9 => absurd z9 (by decide))
      refine lv_goto (tgt := 1925) B.1 B.2.1 dL_law_537 (by decide) ?_
      exact kk _ _ _ _ _ _ eS hw2c hS2c (lv_sub hl [2, 3, 4, 5, 6] rfl) (by simp only [mb_mc, mb_ms]; omega) (by simp only [mb_mc, mb_ms]; omega)
    | k9 + 1, ej => simp at ej
set_option maxRecDepth 100000 in
set_option maxHeartbeats 4000000 in
theorem lc_5 (hst : l.stackTraces = false) (B : mb_Lx p l s m #[Value.ref b] c G RL code 7 (mb_A9 s)) (hX : va_X b L xs s s.heap) (hbl : b < s.heap.size) (hS : va_S (mb_A9 s) s.heap H locs) (hw : mb_wd G h H) (hl : lv_has ls 7 [(4, .int x4), (3, .ref (G.2.2 (30, 0, 0))), (2, .ref (G.2.2 (6, 0, 0))), (1, .ref (G.2.2 (0, 0, 0))), (0, .ref b)]) (hc : cells + 1 ≤ 601024) (hs : slots + 6 ≤ 7293034) (hi1 : vp_in (x4 + 1) L) (hi2 : vp_in (x4 + 2) L) (hps : mb_PI ["java/lang/IndexOutOfBoundsException", "java/lang/IllegalArgumentException"] (F_X5_setRate (xs (x4 + 1).toNatClampNeg) (xs (x4 + 2).toNatClampNeg) h) (F_X6_setRate (xs (x4 + 1).toNatClampNeg) (xs (x4 + 2).toNatClampNeg)) S)
    (kk : ∀ (h3 : mb_AH) (H3 : Heap) (locs3 : List Loc) (ls3 : Array Slot) (cells3 slots3 : Nat), S h3 → mb_wd G h3 H3 → va_S (mb_A9 s) s.heap H3 locs3 → lv_has ls3 7 [(4, .int x4), (3, .ref (G.2.2 (30, 0, 0))), (2, .ref (G.2.2 (6, 0, 0))), (1, .ref (G.2.2 (0, 0, 0))), (0, .ref b)] → cells3 ≤ cells + 1 → slots3 ≤ slots + 6 → W p l e room_1 s m #[Value.ref b] below meth c H3 locs3 cells3 slots3 Q (F0 m 1925 ls3 [])) : W p l e room_1 s m #[Value.ref b] below meth c H locs cells slots Q (F0 m 540 ls []) := by
  rcases hps with ⟨v, h1, h3, e5, e6, eT, eO, eS⟩ | ⟨j, E, h1, b9, h3, ej, e5, e6, eT, eS⟩
  · refine lv_aload_n B.1 B.2.1 dL_law_540 rfl (lv_at hl 3 rfl) ?_
    refine lv_aload_n B.1 B.2.1 dL_law_541 rfl (lv_at hl 4 rfl) ?_
    refine lv_iload B.1 B.2.1 dL_law_542 (lv_at hl 0 rfl) ?_
    refine lv_iconst (v := 1) B.1 B.2.1 dL_law_544 (by decide) ?_
    refine lv_iadd B.1 B.2.1 dL_law_545 ?_
    refine va_sld B.1 B.2.1 hX hbl (Nat.not_le.mpr hbl) hS hi1 dL_law_546 ?_
    refine lv_aload_n B.1 B.2.1 dL_law_547 rfl (lv_at hl 4 rfl) ?_
    refine lv_iload B.1 B.2.1 dL_law_548 (lv_at hl 0 rfl) ?_
    refine lv_iconst (v := 2) B.1 B.2.1 dL_law_550 (by decide) ?_
    refine lv_iadd B.1 B.2.1 dL_law_551 ?_
    refine va_sld B.1 B.2.1 hX hbl (Nat.not_le.mpr hbl) hS hi2 dL_law_552 ?_
    refine lv_aload_n B.1 B.2.1 dL_law_553 rfl (lv_at hl 1 rfl) ?_
    refine mb_xH (as := [mb_F 0 0 0, .inl (xs (x4 + 1).toNatClampNeg), .inl (xs (x4 + 2).toNatClampNeg), mb_F 30 0 0]) (n := 4) (mc := 0) (ms := 0) (rest := []) B hS hw hl.1 ⟨⟨by decide, by decide⟩, trivial, trivial, ⟨by decide, by decide⟩, trivial⟩ (Nat.zero_le _) (H_setRate_r hst B.2.2.2.2.2.2.2.1 e5) wl_L_128 mt_L_setRate mn_L mw_L_setRate (by decide +kernel) rfl ⟨by show 8 + 5 + 1 ≤ 2048; decide, by show _ ≤ 84000; decide, by show cells + 0 ≤ 601024; omega, by show slots + 0 ≤ 7293034; omega⟩ rfl dL_law_554 (fun H1 locs1 hw1 hS1 _ _ => ?_)
    refine lv_istore (lv' := [(5, .int 0), (4, .int x4), (3, .ref (G.2.2 (30, 0, 0))), (2, .ref (G.2.2 (6, 0, 0))), (1, .ref (G.2.2 (0, 0, 0))), (0, .ref b)]) B.1 B.2.1 dL_law_557 hl (by decide) rfl (fun ls hl => ?_)
    refine lv_aload_n B.1 B.2.1 dL_law_559 rfl (lv_at hl 3 rfl) ?_
    refine lv_aload_n B.1 B.2.1 dL_law_560 rfl (lv_at hl 5 rfl) ?_
    refine lv_iload B.1 B.2.1 dL_law_561 (lv_at hl 1 rfl) ?_
    refine lv_iconst (v := 1) B.1 B.2.1 dL_law_563 (by decide) ?_
    refine lv_iadd B.1 B.2.1 dL_law_564 ?_
    refine va_sld B.1 B.2.1 hX hbl (Nat.not_le.mpr hbl) hS1 hi1 dL_law_565 ?_
    refine lv_aload_n B.1 B.2.1 dL_law_566 rfl (lv_at hl 5 rfl) ?_
    refine lv_iload B.1 B.2.1 dL_law_567 (lv_at hl 1 rfl) ?_
    refine lv_iconst (v := 2) B.1 B.2.1 dL_law_569 (by decide) ?_
    refine lv_iadd B.1 B.2.1 dL_law_570 ?_
    refine va_sld B.1 B.2.1 hX hbl (Nat.not_le.mpr hbl) hS1 hi2 dL_law_571 ?_
    refine mb_xV (as := [.inl (xs (x4 + 1).toNatClampNeg), .inl (xs (x4 + 2).toNatClampNeg)]) (n := 2) (d2 := 2) (ci := 6) (N := 16) (rest := []) B hS1 hw1 hl.1 ⟨⟨by decide, by decide⟩, trivial, trivial, trivial⟩ (Nat.le_of_ble_eq_true rfl) (C_X6_setRate hst B.2.2.2.2.2.2.2.1 e6) (mb_gV wl_L_130 mi_X6_setRate ms_X6_setRate mn_X6 mc_X6_setRate) (by decide +kernel) rfl rfl rfl ⟨by show 8 + 2 + 1 ≤ 2048; decide, by show _ ≤ 84000; decide, by show cells + 0 + 0 ≤ 601024; omega, by show slots + 0 + 0 ≤ 7293034; omega⟩ rfl dL_law_572 (fun v1 H1c locs1c hv1 _ hw1c hS1c _ _ => ?_) (fun E9 ce9 q9 H9 locs9 hv9 _ _ _ _ _ _ _ => by cases hv9)
    cases hv1
    refine lv_istore (lv' := [(6, .int v), (5, .int 0), (4, .int x4), (3, .ref (G.2.2 (30, 0, 0))), (2, .ref (G.2.2 (6, 0, 0))), (1, .ref (G.2.2 (0, 0, 0))), (0, .ref b)]) B.1 B.2.1 dL_law_575 hl (by decide) rfl (fun ls hl => ?_)
    refine lv_aload_n B.1 B.2.1 dL_law_577 rfl (lv_at hl 4 rfl) ?_
    refine mb_xV (as := []) (n := 0) (d2 := 0) (ci := 6) (N := 16) (rest := []) B hS1c hw1c hl.1 ⟨⟨by decide, by decide⟩, trivial⟩ (Nat.le_of_ble_eq_true rfl) (C_X6_thrown hst B.2.2.2.2.2.2.2.1 (show F_X6_thrown _ = some (.inl (some (.inl (h3.1 6 0 0 4))), h3) from rfl)) (mb_gV wl_L_109 mi_X6_thrown ms_X6_thrown mn_X6 mc_X6_thrown) (by decide +kernel) rfl rfl rfl ⟨by show 8 + 0 + 1 ≤ 2048; decide, by show _ ≤ 84000; decide, by show cells + 0 + 0 ≤ 601024; omega, by show slots + 0 + 0 ≤ 7293034; omega⟩ rfl dL_law_578 (fun v2 H2c locs2c hv2 _ hw2c hS2c _ _ => ?_) (fun E9 ce9 q9 H9 locs9 hv9 _ _ _ _ _ _ _ => by cases hv9)
    cases hv2
    refine lv_iload B.1 B.2.1 dL_law_581 (lv_at hl 1 rfl) ?_
    refine lv_icmp_eq (tgt := 588) B.1 B.2.1 dL_law_583 (by decide) (fun _ => ?_) (fun z9 => absurd eT z9)
    refine lv_iload B.1 B.2.1 dL_law_588 (lv_at hl 1 rfl) ?_
    refine lv_if_ne (tgt := 605) B.1 B.2.1 dL_law_590 (by decide) (fun z9 => absurd rfl z9) (fun _ => ?_)
    refine lv_aload_n B.1 B.2.1 dL_law_593 rfl (lv_at hl 3 rfl) ?_
    refine lv_iconst (v := 0) B.1 B.2.1 dL_law_594 (by decide) ?_
    refine mb_outld B hw2c dL_law_595 ?_
    refine lv_iload B.1 B.2.1 dL_law_596 (lv_at hl 0 rfl) ?_
    refine lv_i2l B.1 B.2.1 dL_law_598 rfl ?_
    refine W.lcmp B.1 B.2.1 dL_law_599 ?_
    refine lv_if_eq (tgt := 605) B.1 B.2.1 dL_law_600 (by decide) (fun _ => ?_) (fun z9 => absurd (by rw [eO]; exact mb_lc0 _) z9)
    refine lv_goto (tgt := 1925) B.1 B.2.1 dL_law_605 (by decide) ?_
    exact kk _ _ _ _ _ _ eS hw2c hS2c (lv_sub hl [2, 3, 4, 5, 6] rfl) (by simp only [mb_mc, mb_ms]; omega) (by simp only [mb_mc, mb_ms]; omega)
  · match j, ej with
    | 0, ej =>
      cases ej
      refine lv_aload_n B.1 B.2.1 dL_law_540 rfl (lv_at hl 3 rfl) ?_
      refine lv_aload_n B.1 B.2.1 dL_law_541 rfl (lv_at hl 4 rfl) ?_
      refine lv_iload B.1 B.2.1 dL_law_542 (lv_at hl 0 rfl) ?_
      refine lv_iconst (v := 1) B.1 B.2.1 dL_law_544 (by decide) ?_
      refine lv_iadd B.1 B.2.1 dL_law_545 ?_
      refine va_sld B.1 B.2.1 hX hbl (Nat.not_le.mpr hbl) hS hi1 dL_law_546 ?_
      refine lv_aload_n B.1 B.2.1 dL_law_547 rfl (lv_at hl 4 rfl) ?_
      refine lv_iload B.1 B.2.1 dL_law_548 (lv_at hl 0 rfl) ?_
      refine lv_iconst (v := 2) B.1 B.2.1 dL_law_550 (by decide) ?_
      refine lv_iadd B.1 B.2.1 dL_law_551 ?_
      refine va_sld B.1 B.2.1 hX hbl (Nat.not_le.mpr hbl) hS hi2 dL_law_552 ?_
      refine lv_aload_n B.1 B.2.1 dL_law_553 rfl (lv_at hl 1 rfl) ?_
      refine mb_xH (as := [mb_F 0 0 0, .inl (xs (x4 + 1).toNatClampNeg), .inl (xs (x4 + 2).toNatClampNeg), mb_F 30 0 0]) (n := 4) (mc := 1) (ms := 6) (rest := []) B hS hw hl.1 ⟨⟨by decide, by decide⟩, trivial, trivial, ⟨by decide, by decide⟩, trivial⟩ (Nat.zero_le _) (H_setRate_t1 hst B.2.2.2.2.2.2.2.1 e5) wl_L_128 mt_L_setRate mn_L mw_L_setRate (by decide +kernel) rfl ⟨by show 8 + 5 + 1 ≤ 2048; decide, by show _ ≤ 84000; decide, by show cells + 1 ≤ 601024; omega, by show slots + 6 ≤ 7293034; omega⟩ rfl dL_law_554 (fun H1 locs1 hw1 hS1 _ _ => ?_)
      refine lv_istore (lv' := [(5, .int 1), (4, .int x4), (3, .ref (G.2.2 (30, 0, 0))), (2, .ref (G.2.2 (6, 0, 0))), (1, .ref (G.2.2 (0, 0, 0))), (0, .ref b)]) B.1 B.2.1 dL_law_557 hl (by decide) rfl (fun ls hl => ?_)
      refine lv_aload_n B.1 B.2.1 dL_law_559 rfl (lv_at hl 3 rfl) ?_
      refine lv_aload_n B.1 B.2.1 dL_law_560 rfl (lv_at hl 5 rfl) ?_
      refine lv_iload B.1 B.2.1 dL_law_561 (lv_at hl 1 rfl) ?_
      refine lv_iconst (v := 1) B.1 B.2.1 dL_law_563 (by decide) ?_
      refine lv_iadd B.1 B.2.1 dL_law_564 ?_
      refine va_sld B.1 B.2.1 hX hbl (Nat.not_le.mpr hbl) hS1 hi1 dL_law_565 ?_
      refine lv_aload_n B.1 B.2.1 dL_law_566 rfl (lv_at hl 5 rfl) ?_
      refine lv_iload B.1 B.2.1 dL_law_567 (lv_at hl 1 rfl) ?_
      refine lv_iconst (v := 2) B.1 B.2.1 dL_law_569 (by decide) ?_
      refine lv_iadd B.1 B.2.1 dL_law_570 ?_
      refine va_sld B.1 B.2.1 hX hbl (Nat.not_le.mpr hbl) hS1 hi2 dL_law_571 ?_
      refine mb_xV (as := [.inl (xs (x4 + 1).toNatClampNeg), .inl (xs (x4 + 2).toNatClampNeg)]) (n := 2) (d2 := 2) (ci := 6) (N := 16) (rest := []) B hS1 hw1 hl.1 ⟨⟨by decide, by decide⟩, trivial, trivial, trivial⟩ (Nat.le_of_ble_eq_true rfl) (C_X6_setRate hst B.2.2.2.2.2.2.2.1 e6) (mb_gV wl_L_130 mi_X6_setRate ms_X6_setRate mn_X6 mc_X6_setRate) (by decide +kernel) rfl rfl rfl ⟨by show 8 + 2 + 1 ≤ 2048; decide, by show _ ≤ 84000; decide, by show cells + 1 + 0 ≤ 601024; omega, by show slots + 6 + 0 ≤ 7293034; omega⟩ rfl dL_law_572 (fun v1 H1c locs1c hv1 _ hw1c hS1c _ _ => ?_) (fun E9 ce9 q9 H9 locs9 hv9 _ _ _ _ _ _ _ => by cases hv9)
      cases hv1
      refine lv_istore (lv' := [(6, .int b9), (5, .int 1), (4, .int x4), (3, .ref (G.2.2 (30, 0, 0))), (2, .ref (G.2.2 (6, 0, 0))), (1, .ref (G.2.2 (0, 0, 0))), (0, .ref b)]) B.1 B.2.1 dL_law_575 hl (by decide) rfl (fun ls hl => ?_)
      refine lv_aload_n B.1 B.2.1 dL_law_577 rfl (lv_at hl 4 rfl) ?_
      refine mb_xV (as := []) (n := 0) (d2 := 0) (ci := 6) (N := 16) (rest := []) B hS1c hw1c hl.1 ⟨⟨by decide, by decide⟩, trivial⟩ (Nat.le_of_ble_eq_true rfl) (C_X6_thrown hst B.2.2.2.2.2.2.2.1 (show F_X6_thrown _ = some (.inl (some (.inl (h3.1 6 0 0 4))), h3) from rfl)) (mb_gV wl_L_109 mi_X6_thrown ms_X6_thrown mn_X6 mc_X6_thrown) (by decide +kernel) rfl rfl rfl ⟨by show 8 + 0 + 1 ≤ 2048; decide, by show _ ≤ 84000; decide, by show cells + 1 + 0 ≤ 601024; omega, by show slots + 6 + 0 ≤ 7293034; omega⟩ rfl dL_law_578 (fun v2 H2c locs2c hv2 _ hw2c hS2c _ _ => ?_) (fun E9 ce9 q9 H9 locs9 hv9 _ _ _ _ _ _ _ => by cases hv9)
      cases hv2
      refine lv_iload B.1 B.2.1 dL_law_581 (lv_at hl 1 rfl) ?_
      refine lv_icmp_eq (tgt := 588) B.1 B.2.1 dL_law_583 (by decide) (fun _ => ?_) (fun z9 => absurd eT z9)
      refine lv_iload B.1 B.2.1 dL_law_588 (lv_at hl 1 rfl) ?_
      refine lv_if_ne (tgt := 605) B.1 B.2.1 dL_law_590 (by decide) (fun _ => ?_) (fun z9 => absurd z9 (by decide))
      refine lv_goto (tgt := 1925) B.1 B.2.1 dL_law_605 (by decide) ?_
      exact kk _ _ _ _ _ _ eS hw2c hS2c (lv_sub hl [2, 3, 4, 5, 6] rfl) (by simp only [mb_mc, mb_ms]; omega) (by simp only [mb_mc, mb_ms]; omega)
    | 1, ej =>
      cases ej
      refine lv_aload_n B.1 B.2.1 dL_law_540 rfl (lv_at hl 3 rfl) ?_
      refine lv_aload_n B.1 B.2.1 dL_law_541 rfl (lv_at hl 4 rfl) ?_
      refine lv_iload B.1 B.2.1 dL_law_542 (lv_at hl 0 rfl) ?_
      refine lv_iconst (v := 1) B.1 B.2.1 dL_law_544 (by decide) ?_
      refine lv_iadd B.1 B.2.1 dL_law_545 ?_
      refine va_sld B.1 B.2.1 hX hbl (Nat.not_le.mpr hbl) hS hi1 dL_law_546 ?_
      refine lv_aload_n B.1 B.2.1 dL_law_547 rfl (lv_at hl 4 rfl) ?_
      refine lv_iload B.1 B.2.1 dL_law_548 (lv_at hl 0 rfl) ?_
      refine lv_iconst (v := 2) B.1 B.2.1 dL_law_550 (by decide) ?_
      refine lv_iadd B.1 B.2.1 dL_law_551 ?_
      refine va_sld B.1 B.2.1 hX hbl (Nat.not_le.mpr hbl) hS hi2 dL_law_552 ?_
      refine lv_aload_n B.1 B.2.1 dL_law_553 rfl (lv_at hl 1 rfl) ?_
      refine mb_xH (as := [mb_F 0 0 0, .inl (xs (x4 + 1).toNatClampNeg), .inl (xs (x4 + 2).toNatClampNeg), mb_F 30 0 0]) (n := 4) (mc := 1) (ms := 6) (rest := []) B hS hw hl.1 ⟨⟨by decide, by decide⟩, trivial, trivial, ⟨by decide, by decide⟩, trivial⟩ (Nat.zero_le _) (H_setRate_t2 hst B.2.2.2.2.2.2.2.1 e5) wl_L_128 mt_L_setRate mn_L mw_L_setRate (by decide +kernel) rfl ⟨by show 8 + 5 + 1 ≤ 2048; decide, by show _ ≤ 84000; decide, by show cells + 1 ≤ 601024; omega, by show slots + 6 ≤ 7293034; omega⟩ rfl dL_law_554 (fun H1 locs1 hw1 hS1 _ _ => ?_)
      refine lv_istore (lv' := [(5, .int 2), (4, .int x4), (3, .ref (G.2.2 (30, 0, 0))), (2, .ref (G.2.2 (6, 0, 0))), (1, .ref (G.2.2 (0, 0, 0))), (0, .ref b)]) B.1 B.2.1 dL_law_557 hl (by decide) rfl (fun ls hl => ?_)
      refine lv_aload_n B.1 B.2.1 dL_law_559 rfl (lv_at hl 3 rfl) ?_
      refine lv_aload_n B.1 B.2.1 dL_law_560 rfl (lv_at hl 5 rfl) ?_
      refine lv_iload B.1 B.2.1 dL_law_561 (lv_at hl 1 rfl) ?_
      refine lv_iconst (v := 1) B.1 B.2.1 dL_law_563 (by decide) ?_
      refine lv_iadd B.1 B.2.1 dL_law_564 ?_
      refine va_sld B.1 B.2.1 hX hbl (Nat.not_le.mpr hbl) hS1 hi1 dL_law_565 ?_
      refine lv_aload_n B.1 B.2.1 dL_law_566 rfl (lv_at hl 5 rfl) ?_
      refine lv_iload B.1 B.2.1 dL_law_567 (lv_at hl 1 rfl) ?_
      refine lv_iconst (v := 2) B.1 B.2.1 dL_law_569 (by decide) ?_
      refine lv_iadd B.1 B.2.1 dL_law_570 ?_
      refine va_sld B.1 B.2.1 hX hbl (Nat.not_le.mpr hbl) hS1 hi2 dL_law_571 ?_
      refine mb_xV (as := [.inl (xs (x4 + 1).toNatClampNeg), .inl (xs (x4 + 2).toNatClampNeg)]) (n := 2) (d2 := 2) (ci := 6) (N := 16) (rest := []) B hS1 hw1 hl.1 ⟨⟨by decide, by decide⟩, trivial, trivial, trivial⟩ (Nat.le_of_ble_eq_true rfl) (C_X6_setRate hst B.2.2.2.2.2.2.2.1 e6) (mb_gV wl_L_130 mi_X6_setRate ms_X6_setRate mn_X6 mc_X6_setRate) (by decide +kernel) rfl rfl rfl ⟨by show 8 + 2 + 1 ≤ 2048; decide, by show _ ≤ 84000; decide, by show cells + 1 + 0 ≤ 601024; omega, by show slots + 6 + 0 ≤ 7293034; omega⟩ rfl dL_law_572 (fun v1 H1c locs1c hv1 _ hw1c hS1c _ _ => ?_) (fun E9 ce9 q9 H9 locs9 hv9 _ _ _ _ _ _ _ => by cases hv9)
      cases hv1
      refine lv_istore (lv' := [(6, .int b9), (5, .int 2), (4, .int x4), (3, .ref (G.2.2 (30, 0, 0))), (2, .ref (G.2.2 (6, 0, 0))), (1, .ref (G.2.2 (0, 0, 0))), (0, .ref b)]) B.1 B.2.1 dL_law_575 hl (by decide) rfl (fun ls hl => ?_)
      refine lv_aload_n B.1 B.2.1 dL_law_577 rfl (lv_at hl 4 rfl) ?_
      refine mb_xV (as := []) (n := 0) (d2 := 0) (ci := 6) (N := 16) (rest := []) B hS1c hw1c hl.1 ⟨⟨by decide, by decide⟩, trivial⟩ (Nat.le_of_ble_eq_true rfl) (C_X6_thrown hst B.2.2.2.2.2.2.2.1 (show F_X6_thrown _ = some (.inl (some (.inl (h3.1 6 0 0 4))), h3) from rfl)) (mb_gV wl_L_109 mi_X6_thrown ms_X6_thrown mn_X6 mc_X6_thrown) (by decide +kernel) rfl rfl rfl ⟨by show 8 + 0 + 1 ≤ 2048; decide, by show _ ≤ 84000; decide, by show cells + 1 + 0 ≤ 601024; omega, by show slots + 6 + 0 ≤ 7293034; omega⟩ rfl dL_law_578 (fun v2 H2c locs2c hv2 _ hw2c hS2c _ _ => ?_) (fun E9 ce9 q9 H9 locs9 hv9 _ _ _ _ _ _ _ => by cases hv9)
      cases hv2
      refine lv_iload B.1 B.2.1 dL_law_581 (lv_at hl 1 rfl) ?_
      refine lv_icmp_eq (tgt := 588) B.1 B.2.1 dL_law_583 (by decide) (fun _ => ?_) (fun z9 => absurd eT z9)
      refine lv_iload B.1 B.2.1 dL_law_588 (lv_at hl 1 rfl) ?_
      refine lv_if_ne (tgt := 605) B.1 B.2.1 dL_law_590 (by decide) (fun _ => ?_) (fun z9 => absurd z9 (by decide))
      refine lv_goto (tgt := 1925) B.1 B.2.1 dL_law_605 (by decide) ?_
      exact kk _ _ _ _ _ _ eS hw2c hS2c (lv_sub hl [2, 3, 4, 5, 6] rfl) (by simp only [mb_mc, mb_ms]; omega) (by simp only [mb_mc, mb_ms]; omega)
    | k9 + 2, ej => simp at ej
set_option maxRecDepth 100000 in
set_option maxHeartbeats 4000000 in
theorem lc_6 (hst : l.stackTraces = false) (B : mb_Lx p l s m #[Value.ref b] c G RL code 7 (mb_A9 s)) (hX : va_X b L xs s s.heap) (hbl : b < s.heap.size) (hS : va_S (mb_A9 s) s.heap H locs) (hw : mb_wd G h H) (hl : lv_has ls 7 [(4, .int x4), (3, .ref (G.2.2 (30, 0, 0))), (2, .ref (G.2.2 (6, 0, 0))), (1, .ref (G.2.2 (0, 0, 0))), (0, .ref b)]) (hc : cells + 1 ≤ 601024) (hs : slots + 6 ≤ 7293034) (hi1 : vp_in (x4 + 1) L) (hi2 : vp_in (x4 + 2) L) (hps : mb_PI ["java/lang/IndexOutOfBoundsException", "java/lang/IllegalArgumentException"] (F_X5_berth (xs (x4 + 1).toNatClampNeg) (xs (x4 + 2).toNatClampNeg) h) (F_X6_berth (xs (x4 + 1).toNatClampNeg) (xs (x4 + 2).toNatClampNeg)) S)
    (kk : ∀ (h3 : mb_AH) (H3 : Heap) (locs3 : List Loc) (ls3 : Array Slot) (cells3 slots3 : Nat), S h3 → mb_wd G h3 H3 → va_S (mb_A9 s) s.heap H3 locs3 → lv_has ls3 7 [(4, .int x4), (3, .ref (G.2.2 (30, 0, 0))), (2, .ref (G.2.2 (6, 0, 0))), (1, .ref (G.2.2 (0, 0, 0))), (0, .ref b)] → cells3 ≤ cells + 1 → slots3 ≤ slots + 6 → W p l e room_1 s m #[Value.ref b] below meth c H3 locs3 cells3 slots3 Q (F0 m 1925 ls3 [])) : W p l e room_1 s m #[Value.ref b] below meth c H locs cells slots Q (F0 m 608 ls []) := by
  rcases hps with ⟨v, h1, h3, e5, e6, eT, eO, eS⟩ | ⟨j, E, h1, b9, h3, ej, e5, e6, eT, eS⟩
  · refine lv_aload_n B.1 B.2.1 dL_law_608 rfl (lv_at hl 3 rfl) ?_
    refine lv_aload_n B.1 B.2.1 dL_law_609 rfl (lv_at hl 4 rfl) ?_
    refine lv_iload B.1 B.2.1 dL_law_610 (lv_at hl 0 rfl) ?_
    refine lv_iconst (v := 1) B.1 B.2.1 dL_law_612 (by decide) ?_
    refine lv_iadd B.1 B.2.1 dL_law_613 ?_
    refine va_sld B.1 B.2.1 hX hbl (Nat.not_le.mpr hbl) hS hi1 dL_law_614 ?_
    refine lv_aload_n B.1 B.2.1 dL_law_615 rfl (lv_at hl 4 rfl) ?_
    refine lv_iload B.1 B.2.1 dL_law_616 (lv_at hl 0 rfl) ?_
    refine lv_iconst (v := 2) B.1 B.2.1 dL_law_618 (by decide) ?_
    refine lv_iadd B.1 B.2.1 dL_law_619 ?_
    refine va_sld B.1 B.2.1 hX hbl (Nat.not_le.mpr hbl) hS hi2 dL_law_620 ?_
    refine lv_aload_n B.1 B.2.1 dL_law_621 rfl (lv_at hl 1 rfl) ?_
    refine mb_xH (as := [mb_F 0 0 0, .inl (xs (x4 + 1).toNatClampNeg), .inl (xs (x4 + 2).toNatClampNeg), mb_F 30 0 0]) (n := 4) (mc := 0) (ms := 0) (rest := []) B hS hw hl.1 ⟨⟨by decide, by decide⟩, trivial, trivial, ⟨by decide, by decide⟩, trivial⟩ (Nat.zero_le _) (H_berth_r hst B.2.2.2.2.2.2.2.1 e5) wl_L_131 mt_L_berth mn_L mw_L_berth (by decide +kernel) rfl ⟨by show 8 + 4 + 1 ≤ 2048; decide, by show _ ≤ 84000; decide, by show cells + 0 ≤ 601024; omega, by show slots + 0 ≤ 7293034; omega⟩ rfl dL_law_622 (fun H1 locs1 hw1 hS1 _ _ => ?_)
    refine lv_istore (lv' := [(5, .int 0), (4, .int x4), (3, .ref (G.2.2 (30, 0, 0))), (2, .ref (G.2.2 (6, 0, 0))), (1, .ref (G.2.2 (0, 0, 0))), (0, .ref b)]) B.1 B.2.1 dL_law_625 hl (by decide) rfl (fun ls hl => ?_)
    refine lv_aload_n B.1 B.2.1 dL_law_627 rfl (lv_at hl 3 rfl) ?_
    refine lv_aload_n B.1 B.2.1 dL_law_628 rfl (lv_at hl 5 rfl) ?_
    refine lv_iload B.1 B.2.1 dL_law_629 (lv_at hl 1 rfl) ?_
    refine lv_iconst (v := 1) B.1 B.2.1 dL_law_631 (by decide) ?_
    refine lv_iadd B.1 B.2.1 dL_law_632 ?_
    refine va_sld B.1 B.2.1 hX hbl (Nat.not_le.mpr hbl) hS1 hi1 dL_law_633 ?_
    refine lv_aload_n B.1 B.2.1 dL_law_634 rfl (lv_at hl 5 rfl) ?_
    refine lv_iload B.1 B.2.1 dL_law_635 (lv_at hl 1 rfl) ?_
    refine lv_iconst (v := 2) B.1 B.2.1 dL_law_637 (by decide) ?_
    refine lv_iadd B.1 B.2.1 dL_law_638 ?_
    refine va_sld B.1 B.2.1 hX hbl (Nat.not_le.mpr hbl) hS1 hi2 dL_law_639 ?_
    refine mb_xV (as := [.inl (xs (x4 + 1).toNatClampNeg), .inl (xs (x4 + 2).toNatClampNeg)]) (n := 2) (d2 := 4) (ci := 6) (N := 16) (rest := []) B hS1 hw1 hl.1 ⟨⟨by decide, by decide⟩, trivial, trivial, trivial⟩ (Nat.le_of_ble_eq_true rfl) (C_X6_berth hst B.2.2.2.2.2.2.2.1 e6) (mb_gV wl_L_133 mi_X6_berth ms_X6_berth mn_X6 mc_X6_berth) (by decide +kernel) rfl rfl rfl ⟨by show 8 + 4 + 1 ≤ 2048; decide, by show _ ≤ 84000; decide, by show cells + 0 + 0 ≤ 601024; omega, by show slots + 0 + 0 ≤ 7293034; omega⟩ rfl dL_law_640 (fun v1 H1c locs1c hv1 _ hw1c hS1c _ _ => ?_) (fun E9 ce9 q9 H9 locs9 hv9 _ _ _ _ _ _ _ => by cases hv9)
    cases hv1
    refine lv_istore (lv' := [(6, .int v), (5, .int 0), (4, .int x4), (3, .ref (G.2.2 (30, 0, 0))), (2, .ref (G.2.2 (6, 0, 0))), (1, .ref (G.2.2 (0, 0, 0))), (0, .ref b)]) B.1 B.2.1 dL_law_643 hl (by decide) rfl (fun ls hl => ?_)
    refine lv_aload_n B.1 B.2.1 dL_law_645 rfl (lv_at hl 4 rfl) ?_
    refine mb_xV (as := []) (n := 0) (d2 := 0) (ci := 6) (N := 16) (rest := []) B hS1c hw1c hl.1 ⟨⟨by decide, by decide⟩, trivial⟩ (Nat.le_of_ble_eq_true rfl) (C_X6_thrown hst B.2.2.2.2.2.2.2.1 (show F_X6_thrown _ = some (.inl (some (.inl (h3.1 6 0 0 4))), h3) from rfl)) (mb_gV wl_L_109 mi_X6_thrown ms_X6_thrown mn_X6 mc_X6_thrown) (by decide +kernel) rfl rfl rfl ⟨by show 8 + 0 + 1 ≤ 2048; decide, by show _ ≤ 84000; decide, by show cells + 0 + 0 ≤ 601024; omega, by show slots + 0 + 0 ≤ 7293034; omega⟩ rfl dL_law_646 (fun v2 H2c locs2c hv2 _ hw2c hS2c _ _ => ?_) (fun E9 ce9 q9 H9 locs9 hv9 _ _ _ _ _ _ _ => by cases hv9)
    cases hv2
    refine lv_iload B.1 B.2.1 dL_law_649 (lv_at hl 1 rfl) ?_
    refine lv_icmp_eq (tgt := 656) B.1 B.2.1 dL_law_651 (by decide) (fun _ => ?_) (fun z9 => absurd eT z9)
    refine lv_iload B.1 B.2.1 dL_law_656 (lv_at hl 1 rfl) ?_
    refine lv_if_ne (tgt := 673) B.1 B.2.1 dL_law_658 (by decide) (fun z9 => absurd rfl z9) (fun _ => ?_)
    refine lv_aload_n B.1 B.2.1 dL_law_661 rfl (lv_at hl 3 rfl) ?_
    refine lv_iconst (v := 0) B.1 B.2.1 dL_law_662 (by decide) ?_
    refine mb_outld B hw2c dL_law_663 ?_
    refine lv_iload B.1 B.2.1 dL_law_664 (lv_at hl 0 rfl) ?_
    refine lv_i2l B.1 B.2.1 dL_law_666 rfl ?_
    refine W.lcmp B.1 B.2.1 dL_law_667 ?_
    refine lv_if_eq (tgt := 673) B.1 B.2.1 dL_law_668 (by decide) (fun _ => ?_) (fun z9 => absurd (by rw [eO]; exact mb_lc0 _) z9)
    refine lv_goto (tgt := 1925) B.1 B.2.1 dL_law_673 (by decide) ?_
    exact kk _ _ _ _ _ _ eS hw2c hS2c (lv_sub hl [2, 3, 4, 5, 6] rfl) (by simp only [mb_mc, mb_ms]; omega) (by simp only [mb_mc, mb_ms]; omega)
  · match j, ej with
    | 0, ej =>
      cases ej
      refine lv_aload_n B.1 B.2.1 dL_law_608 rfl (lv_at hl 3 rfl) ?_
      refine lv_aload_n B.1 B.2.1 dL_law_609 rfl (lv_at hl 4 rfl) ?_
      refine lv_iload B.1 B.2.1 dL_law_610 (lv_at hl 0 rfl) ?_
      refine lv_iconst (v := 1) B.1 B.2.1 dL_law_612 (by decide) ?_
      refine lv_iadd B.1 B.2.1 dL_law_613 ?_
      refine va_sld B.1 B.2.1 hX hbl (Nat.not_le.mpr hbl) hS hi1 dL_law_614 ?_
      refine lv_aload_n B.1 B.2.1 dL_law_615 rfl (lv_at hl 4 rfl) ?_
      refine lv_iload B.1 B.2.1 dL_law_616 (lv_at hl 0 rfl) ?_
      refine lv_iconst (v := 2) B.1 B.2.1 dL_law_618 (by decide) ?_
      refine lv_iadd B.1 B.2.1 dL_law_619 ?_
      refine va_sld B.1 B.2.1 hX hbl (Nat.not_le.mpr hbl) hS hi2 dL_law_620 ?_
      refine lv_aload_n B.1 B.2.1 dL_law_621 rfl (lv_at hl 1 rfl) ?_
      refine mb_xH (as := [mb_F 0 0 0, .inl (xs (x4 + 1).toNatClampNeg), .inl (xs (x4 + 2).toNatClampNeg), mb_F 30 0 0]) (n := 4) (mc := 1) (ms := 6) (rest := []) B hS hw hl.1 ⟨⟨by decide, by decide⟩, trivial, trivial, ⟨by decide, by decide⟩, trivial⟩ (Nat.zero_le _) (H_berth_t1 hst B.2.2.2.2.2.2.2.1 e5) wl_L_131 mt_L_berth mn_L mw_L_berth (by decide +kernel) rfl ⟨by show 8 + 4 + 1 ≤ 2048; decide, by show _ ≤ 84000; decide, by show cells + 1 ≤ 601024; omega, by show slots + 6 ≤ 7293034; omega⟩ rfl dL_law_622 (fun H1 locs1 hw1 hS1 _ _ => ?_)
      refine lv_istore (lv' := [(5, .int 1), (4, .int x4), (3, .ref (G.2.2 (30, 0, 0))), (2, .ref (G.2.2 (6, 0, 0))), (1, .ref (G.2.2 (0, 0, 0))), (0, .ref b)]) B.1 B.2.1 dL_law_625 hl (by decide) rfl (fun ls hl => ?_)
      refine lv_aload_n B.1 B.2.1 dL_law_627 rfl (lv_at hl 3 rfl) ?_
      refine lv_aload_n B.1 B.2.1 dL_law_628 rfl (lv_at hl 5 rfl) ?_
      refine lv_iload B.1 B.2.1 dL_law_629 (lv_at hl 1 rfl) ?_
      refine lv_iconst (v := 1) B.1 B.2.1 dL_law_631 (by decide) ?_
      refine lv_iadd B.1 B.2.1 dL_law_632 ?_
      refine va_sld B.1 B.2.1 hX hbl (Nat.not_le.mpr hbl) hS1 hi1 dL_law_633 ?_
      refine lv_aload_n B.1 B.2.1 dL_law_634 rfl (lv_at hl 5 rfl) ?_
      refine lv_iload B.1 B.2.1 dL_law_635 (lv_at hl 1 rfl) ?_
      refine lv_iconst (v := 2) B.1 B.2.1 dL_law_637 (by decide) ?_
      refine lv_iadd B.1 B.2.1 dL_law_638 ?_
      refine va_sld B.1 B.2.1 hX hbl (Nat.not_le.mpr hbl) hS1 hi2 dL_law_639 ?_
      refine mb_xV (as := [.inl (xs (x4 + 1).toNatClampNeg), .inl (xs (x4 + 2).toNatClampNeg)]) (n := 2) (d2 := 4) (ci := 6) (N := 16) (rest := []) B hS1 hw1 hl.1 ⟨⟨by decide, by decide⟩, trivial, trivial, trivial⟩ (Nat.le_of_ble_eq_true rfl) (C_X6_berth hst B.2.2.2.2.2.2.2.1 e6) (mb_gV wl_L_133 mi_X6_berth ms_X6_berth mn_X6 mc_X6_berth) (by decide +kernel) rfl rfl rfl ⟨by show 8 + 4 + 1 ≤ 2048; decide, by show _ ≤ 84000; decide, by show cells + 1 + 0 ≤ 601024; omega, by show slots + 6 + 0 ≤ 7293034; omega⟩ rfl dL_law_640 (fun v1 H1c locs1c hv1 _ hw1c hS1c _ _ => ?_) (fun E9 ce9 q9 H9 locs9 hv9 _ _ _ _ _ _ _ => by cases hv9)
      cases hv1
      refine lv_istore (lv' := [(6, .int b9), (5, .int 1), (4, .int x4), (3, .ref (G.2.2 (30, 0, 0))), (2, .ref (G.2.2 (6, 0, 0))), (1, .ref (G.2.2 (0, 0, 0))), (0, .ref b)]) B.1 B.2.1 dL_law_643 hl (by decide) rfl (fun ls hl => ?_)
      refine lv_aload_n B.1 B.2.1 dL_law_645 rfl (lv_at hl 4 rfl) ?_
      refine mb_xV (as := []) (n := 0) (d2 := 0) (ci := 6) (N := 16) (rest := []) B hS1c hw1c hl.1 ⟨⟨by decide, by decide⟩, trivial⟩ (Nat.le_of_ble_eq_true rfl) (C_X6_thrown hst B.2.2.2.2.2.2.2.1 (show F_X6_thrown _ = some (.inl (some (.inl (h3.1 6 0 0 4))), h3) from rfl)) (mb_gV wl_L_109 mi_X6_thrown ms_X6_thrown mn_X6 mc_X6_thrown) (by decide +kernel) rfl rfl rfl ⟨by show 8 + 0 + 1 ≤ 2048; decide, by show _ ≤ 84000; decide, by show cells + 1 + 0 ≤ 601024; omega, by show slots + 6 + 0 ≤ 7293034; omega⟩ rfl dL_law_646 (fun v2 H2c locs2c hv2 _ hw2c hS2c _ _ => ?_) (fun E9 ce9 q9 H9 locs9 hv9 _ _ _ _ _ _ _ => by cases hv9)
      cases hv2
      refine lv_iload B.1 B.2.1 dL_law_649 (lv_at hl 1 rfl) ?_
      refine lv_icmp_eq (tgt := 656) B.1 B.2.1 dL_law_651 (by decide) (fun _ => ?_) (fun z9 => absurd eT z9)
      refine lv_iload B.1 B.2.1 dL_law_656 (lv_at hl 1 rfl) ?_
      refine lv_if_ne (tgt := 673) B.1 B.2.1 dL_law_658 (by decide) (fun _ => ?_) (fun z9 => absurd z9 (by decide))
      refine lv_goto (tgt := 1925) B.1 B.2.1 dL_law_673 (by decide) ?_
      exact kk _ _ _ _ _ _ eS hw2c hS2c (lv_sub hl [2, 3, 4, 5, 6] rfl) (by simp only [mb_mc, mb_ms]; omega) (by simp only [mb_mc, mb_ms]; omega)
    | 1, ej =>
      cases ej
      refine lv_aload_n B.1 B.2.1 dL_law_608 rfl (lv_at hl 3 rfl) ?_
      refine lv_aload_n B.1 B.2.1 dL_law_609 rfl (lv_at hl 4 rfl) ?_
      refine lv_iload B.1 B.2.1 dL_law_610 (lv_at hl 0 rfl) ?_
      refine lv_iconst (v := 1) B.1 B.2.1 dL_law_612 (by decide) ?_
      refine lv_iadd B.1 B.2.1 dL_law_613 ?_
      refine va_sld B.1 B.2.1 hX hbl (Nat.not_le.mpr hbl) hS hi1 dL_law_614 ?_
      refine lv_aload_n B.1 B.2.1 dL_law_615 rfl (lv_at hl 4 rfl) ?_
      refine lv_iload B.1 B.2.1 dL_law_616 (lv_at hl 0 rfl) ?_
      refine lv_iconst (v := 2) B.1 B.2.1 dL_law_618 (by decide) ?_
      refine lv_iadd B.1 B.2.1 dL_law_619 ?_
      refine va_sld B.1 B.2.1 hX hbl (Nat.not_le.mpr hbl) hS hi2 dL_law_620 ?_
      refine lv_aload_n B.1 B.2.1 dL_law_621 rfl (lv_at hl 1 rfl) ?_
      refine mb_xH (as := [mb_F 0 0 0, .inl (xs (x4 + 1).toNatClampNeg), .inl (xs (x4 + 2).toNatClampNeg), mb_F 30 0 0]) (n := 4) (mc := 1) (ms := 6) (rest := []) B hS hw hl.1 ⟨⟨by decide, by decide⟩, trivial, trivial, ⟨by decide, by decide⟩, trivial⟩ (Nat.zero_le _) (H_berth_t2 hst B.2.2.2.2.2.2.2.1 e5) wl_L_131 mt_L_berth mn_L mw_L_berth (by decide +kernel) rfl ⟨by show 8 + 4 + 1 ≤ 2048; decide, by show _ ≤ 84000; decide, by show cells + 1 ≤ 601024; omega, by show slots + 6 ≤ 7293034; omega⟩ rfl dL_law_622 (fun H1 locs1 hw1 hS1 _ _ => ?_)
      refine lv_istore (lv' := [(5, .int 2), (4, .int x4), (3, .ref (G.2.2 (30, 0, 0))), (2, .ref (G.2.2 (6, 0, 0))), (1, .ref (G.2.2 (0, 0, 0))), (0, .ref b)]) B.1 B.2.1 dL_law_625 hl (by decide) rfl (fun ls hl => ?_)
      refine lv_aload_n B.1 B.2.1 dL_law_627 rfl (lv_at hl 3 rfl) ?_
      refine lv_aload_n B.1 B.2.1 dL_law_628 rfl (lv_at hl 5 rfl) ?_
      refine lv_iload B.1 B.2.1 dL_law_629 (lv_at hl 1 rfl) ?_
      refine lv_iconst (v := 1) B.1 B.2.1 dL_law_631 (by decide) ?_
      refine lv_iadd B.1 B.2.1 dL_law_632 ?_
      refine va_sld B.1 B.2.1 hX hbl (Nat.not_le.mpr hbl) hS1 hi1 dL_law_633 ?_
      refine lv_aload_n B.1 B.2.1 dL_law_634 rfl (lv_at hl 5 rfl) ?_
      refine lv_iload B.1 B.2.1 dL_law_635 (lv_at hl 1 rfl) ?_
      refine lv_iconst (v := 2) B.1 B.2.1 dL_law_637 (by decide) ?_
      refine lv_iadd B.1 B.2.1 dL_law_638 ?_
      refine va_sld B.1 B.2.1 hX hbl (Nat.not_le.mpr hbl) hS1 hi2 dL_law_639 ?_
      refine mb_xV (as := [.inl (xs (x4 + 1).toNatClampNeg), .inl (xs (x4 + 2).toNatClampNeg)]) (n := 2) (d2 := 4) (ci := 6) (N := 16) (rest := []) B hS1 hw1 hl.1 ⟨⟨by decide, by decide⟩, trivial, trivial, trivial⟩ (Nat.le_of_ble_eq_true rfl) (C_X6_berth hst B.2.2.2.2.2.2.2.1 e6) (mb_gV wl_L_133 mi_X6_berth ms_X6_berth mn_X6 mc_X6_berth) (by decide +kernel) rfl rfl rfl ⟨by show 8 + 4 + 1 ≤ 2048; decide, by show _ ≤ 84000; decide, by show cells + 1 + 0 ≤ 601024; omega, by show slots + 6 + 0 ≤ 7293034; omega⟩ rfl dL_law_640 (fun v1 H1c locs1c hv1 _ hw1c hS1c _ _ => ?_) (fun E9 ce9 q9 H9 locs9 hv9 _ _ _ _ _ _ _ => by cases hv9)
      cases hv1
      refine lv_istore (lv' := [(6, .int b9), (5, .int 2), (4, .int x4), (3, .ref (G.2.2 (30, 0, 0))), (2, .ref (G.2.2 (6, 0, 0))), (1, .ref (G.2.2 (0, 0, 0))), (0, .ref b)]) B.1 B.2.1 dL_law_643 hl (by decide) rfl (fun ls hl => ?_)
      refine lv_aload_n B.1 B.2.1 dL_law_645 rfl (lv_at hl 4 rfl) ?_
      refine mb_xV (as := []) (n := 0) (d2 := 0) (ci := 6) (N := 16) (rest := []) B hS1c hw1c hl.1 ⟨⟨by decide, by decide⟩, trivial⟩ (Nat.le_of_ble_eq_true rfl) (C_X6_thrown hst B.2.2.2.2.2.2.2.1 (show F_X6_thrown _ = some (.inl (some (.inl (h3.1 6 0 0 4))), h3) from rfl)) (mb_gV wl_L_109 mi_X6_thrown ms_X6_thrown mn_X6 mc_X6_thrown) (by decide +kernel) rfl rfl rfl ⟨by show 8 + 0 + 1 ≤ 2048; decide, by show _ ≤ 84000; decide, by show cells + 1 + 0 ≤ 601024; omega, by show slots + 6 + 0 ≤ 7293034; omega⟩ rfl dL_law_646 (fun v2 H2c locs2c hv2 _ hw2c hS2c _ _ => ?_) (fun E9 ce9 q9 H9 locs9 hv9 _ _ _ _ _ _ _ => by cases hv9)
      cases hv2
      refine lv_iload B.1 B.2.1 dL_law_649 (lv_at hl 1 rfl) ?_
      refine lv_icmp_eq (tgt := 656) B.1 B.2.1 dL_law_651 (by decide) (fun _ => ?_) (fun z9 => absurd eT z9)
      refine lv_iload B.1 B.2.1 dL_law_656 (lv_at hl 1 rfl) ?_
      refine lv_if_ne (tgt := 673) B.1 B.2.1 dL_law_658 (by decide) (fun _ => ?_) (fun z9 => absurd z9 (by decide))
      refine lv_goto (tgt := 1925) B.1 B.2.1 dL_law_673 (by decide) ?_
      exact kk _ _ _ _ _ _ eS hw2c hS2c (lv_sub hl [2, 3, 4, 5, 6] rfl) (by simp only [mb_mc, mb_ms]; omega) (by simp only [mb_mc, mb_ms]; omega)
    | k9 + 2, ej => simp at ej
set_option maxRecDepth 100000 in
set_option maxHeartbeats 4000000 in
theorem lc_7 (hst : l.stackTraces = false) (B : mb_Lx p l s m #[Value.ref b] c G RL code 7 (mb_A9 s)) (hX : va_X b L xs s s.heap) (hbl : b < s.heap.size) (hS : va_S (mb_A9 s) s.heap H locs) (hw : mb_wd G h H) (hl : lv_has ls 7 [(4, .int x4), (3, .ref (G.2.2 (30, 0, 0))), (2, .ref (G.2.2 (6, 0, 0))), (1, .ref (G.2.2 (0, 0, 0))), (0, .ref b)]) (hc : cells + 1 ≤ 601024) (hs : slots + 6 ≤ 7293034) (hi1 : vp_in (x4 + 1) L) (hi2 : vp_in (x4 + 2) L) (hps : mb_PI ["java/lang/IndexOutOfBoundsException", "java/lang/IllegalArgumentException"] (F_X5_boat (xs (x4 + 1).toNatClampNeg) (xs (x4 + 2).toNatClampNeg) h) (F_X6_boat (xs (x4 + 1).toNatClampNeg) (xs (x4 + 2).toNatClampNeg)) S)
    (kk : ∀ (h3 : mb_AH) (H3 : Heap) (locs3 : List Loc) (ls3 : Array Slot) (cells3 slots3 : Nat), S h3 → mb_wd G h3 H3 → va_S (mb_A9 s) s.heap H3 locs3 → lv_has ls3 7 [(4, .int x4), (3, .ref (G.2.2 (30, 0, 0))), (2, .ref (G.2.2 (6, 0, 0))), (1, .ref (G.2.2 (0, 0, 0))), (0, .ref b)] → cells3 ≤ cells + 1 → slots3 ≤ slots + 6 → W p l e room_1 s m #[Value.ref b] below meth c H3 locs3 cells3 slots3 Q (F0 m 1925 ls3 [])) : W p l e room_1 s m #[Value.ref b] below meth c H locs cells slots Q (F0 m 676 ls []) := by
  rcases hps with ⟨v, h1, h3, e5, e6, eT, eO, eS⟩ | ⟨j, E, h1, b9, h3, ej, e5, e6, eT, eS⟩
  · refine lv_aload_n B.1 B.2.1 dL_law_676 rfl (lv_at hl 3 rfl) ?_
    refine lv_aload_n B.1 B.2.1 dL_law_677 rfl (lv_at hl 4 rfl) ?_
    refine lv_iload B.1 B.2.1 dL_law_678 (lv_at hl 0 rfl) ?_
    refine lv_iconst (v := 1) B.1 B.2.1 dL_law_680 (by decide) ?_
    refine lv_iadd B.1 B.2.1 dL_law_681 ?_
    refine va_sld B.1 B.2.1 hX hbl (Nat.not_le.mpr hbl) hS hi1 dL_law_682 ?_
    refine lv_aload_n B.1 B.2.1 dL_law_683 rfl (lv_at hl 4 rfl) ?_
    refine lv_iload B.1 B.2.1 dL_law_684 (lv_at hl 0 rfl) ?_
    refine lv_iconst (v := 2) B.1 B.2.1 dL_law_686 (by decide) ?_
    refine lv_iadd B.1 B.2.1 dL_law_687 ?_
    refine va_sld B.1 B.2.1 hX hbl (Nat.not_le.mpr hbl) hS hi2 dL_law_688 ?_
    refine lv_aload_n B.1 B.2.1 dL_law_689 rfl (lv_at hl 1 rfl) ?_
    refine mb_xH (as := [mb_F 0 0 0, .inl (xs (x4 + 1).toNatClampNeg), .inl (xs (x4 + 2).toNatClampNeg), mb_F 30 0 0]) (n := 4) (mc := 0) (ms := 0) (rest := []) B hS hw hl.1 ⟨⟨by decide, by decide⟩, trivial, trivial, ⟨by decide, by decide⟩, trivial⟩ (Nat.zero_le _) (H_boat_r hst B.2.2.2.2.2.2.2.1 e5) wl_L_134 mt_L_boat mn_L mw_L_boat (by decide +kernel) rfl ⟨by show 8 + 4 + 1 ≤ 2048; decide, by show _ ≤ 84000; decide, by show cells + 0 ≤ 601024; omega, by show slots + 0 ≤ 7293034; omega⟩ rfl dL_law_690 (fun H1 locs1 hw1 hS1 _ _ => ?_)
    refine lv_istore (lv' := [(5, .int 0), (4, .int x4), (3, .ref (G.2.2 (30, 0, 0))), (2, .ref (G.2.2 (6, 0, 0))), (1, .ref (G.2.2 (0, 0, 0))), (0, .ref b)]) B.1 B.2.1 dL_law_693 hl (by decide) rfl (fun ls hl => ?_)
    refine lv_aload_n B.1 B.2.1 dL_law_695 rfl (lv_at hl 3 rfl) ?_
    refine lv_aload_n B.1 B.2.1 dL_law_696 rfl (lv_at hl 5 rfl) ?_
    refine lv_iload B.1 B.2.1 dL_law_697 (lv_at hl 1 rfl) ?_
    refine lv_iconst (v := 1) B.1 B.2.1 dL_law_699 (by decide) ?_
    refine lv_iadd B.1 B.2.1 dL_law_700 ?_
    refine va_sld B.1 B.2.1 hX hbl (Nat.not_le.mpr hbl) hS1 hi1 dL_law_701 ?_
    refine lv_aload_n B.1 B.2.1 dL_law_702 rfl (lv_at hl 5 rfl) ?_
    refine lv_iload B.1 B.2.1 dL_law_703 (lv_at hl 1 rfl) ?_
    refine lv_iconst (v := 2) B.1 B.2.1 dL_law_705 (by decide) ?_
    refine lv_iadd B.1 B.2.1 dL_law_706 ?_
    refine va_sld B.1 B.2.1 hX hbl (Nat.not_le.mpr hbl) hS1 hi2 dL_law_707 ?_
    refine mb_xV (as := [.inl (xs (x4 + 1).toNatClampNeg), .inl (xs (x4 + 2).toNatClampNeg)]) (n := 2) (d2 := 4) (ci := 6) (N := 16) (rest := []) B hS1 hw1 hl.1 ⟨⟨by decide, by decide⟩, trivial, trivial, trivial⟩ (Nat.le_of_ble_eq_true rfl) (C_X6_boat hst B.2.2.2.2.2.2.2.1 e6) (mb_gV wl_L_136 mi_X6_boat ms_X6_boat mn_X6 mc_X6_boat) (by decide +kernel) rfl rfl rfl ⟨by show 8 + 4 + 1 ≤ 2048; decide, by show _ ≤ 84000; decide, by show cells + 0 + 0 ≤ 601024; omega, by show slots + 0 + 0 ≤ 7293034; omega⟩ rfl dL_law_708 (fun v1 H1c locs1c hv1 _ hw1c hS1c _ _ => ?_) (fun E9 ce9 q9 H9 locs9 hv9 _ _ _ _ _ _ _ => by cases hv9)
    cases hv1
    refine lv_istore (lv' := [(6, .int v), (5, .int 0), (4, .int x4), (3, .ref (G.2.2 (30, 0, 0))), (2, .ref (G.2.2 (6, 0, 0))), (1, .ref (G.2.2 (0, 0, 0))), (0, .ref b)]) B.1 B.2.1 dL_law_711 hl (by decide) rfl (fun ls hl => ?_)
    refine lv_aload_n B.1 B.2.1 dL_law_713 rfl (lv_at hl 4 rfl) ?_
    refine mb_xV (as := []) (n := 0) (d2 := 0) (ci := 6) (N := 16) (rest := []) B hS1c hw1c hl.1 ⟨⟨by decide, by decide⟩, trivial⟩ (Nat.le_of_ble_eq_true rfl) (C_X6_thrown hst B.2.2.2.2.2.2.2.1 (show F_X6_thrown _ = some (.inl (some (.inl (h3.1 6 0 0 4))), h3) from rfl)) (mb_gV wl_L_109 mi_X6_thrown ms_X6_thrown mn_X6 mc_X6_thrown) (by decide +kernel) rfl rfl rfl ⟨by show 8 + 0 + 1 ≤ 2048; decide, by show _ ≤ 84000; decide, by show cells + 0 + 0 ≤ 601024; omega, by show slots + 0 + 0 ≤ 7293034; omega⟩ rfl dL_law_714 (fun v2 H2c locs2c hv2 _ hw2c hS2c _ _ => ?_) (fun E9 ce9 q9 H9 locs9 hv9 _ _ _ _ _ _ _ => by cases hv9)
    cases hv2
    refine lv_iload B.1 B.2.1 dL_law_717 (lv_at hl 1 rfl) ?_
    refine lv_icmp_eq (tgt := 724) B.1 B.2.1 dL_law_719 (by decide) (fun _ => ?_) (fun z9 => absurd eT z9)
    refine lv_iload B.1 B.2.1 dL_law_724 (lv_at hl 1 rfl) ?_
    refine lv_if_ne (tgt := 741) B.1 B.2.1 dL_law_726 (by decide) (fun z9 => absurd rfl z9) (fun _ => ?_)
    refine lv_aload_n B.1 B.2.1 dL_law_729 rfl (lv_at hl 3 rfl) ?_
    refine lv_iconst (v := 0) B.1 B.2.1 dL_law_730 (by decide) ?_
    refine mb_outld B hw2c dL_law_731 ?_
    refine lv_iload B.1 B.2.1 dL_law_732 (lv_at hl 0 rfl) ?_
    refine lv_i2l B.1 B.2.1 dL_law_734 rfl ?_
    refine W.lcmp B.1 B.2.1 dL_law_735 ?_
    refine lv_if_eq (tgt := 741) B.1 B.2.1 dL_law_736 (by decide) (fun _ => ?_) (fun z9 => absurd (by rw [eO]; exact mb_lc0 _) z9)
    refine lv_goto (tgt := 1925) B.1 B.2.1 dL_law_741 (by decide) ?_
    exact kk _ _ _ _ _ _ eS hw2c hS2c (lv_sub hl [2, 3, 4, 5, 6] rfl) (by simp only [mb_mc, mb_ms]; omega) (by simp only [mb_mc, mb_ms]; omega)
  · match j, ej with
    | 0, ej =>
      cases ej
      refine lv_aload_n B.1 B.2.1 dL_law_676 rfl (lv_at hl 3 rfl) ?_
      refine lv_aload_n B.1 B.2.1 dL_law_677 rfl (lv_at hl 4 rfl) ?_
      refine lv_iload B.1 B.2.1 dL_law_678 (lv_at hl 0 rfl) ?_
      refine lv_iconst (v := 1) B.1 B.2.1 dL_law_680 (by decide) ?_
      refine lv_iadd B.1 B.2.1 dL_law_681 ?_
      refine va_sld B.1 B.2.1 hX hbl (Nat.not_le.mpr hbl) hS hi1 dL_law_682 ?_
      refine lv_aload_n B.1 B.2.1 dL_law_683 rfl (lv_at hl 4 rfl) ?_
      refine lv_iload B.1 B.2.1 dL_law_684 (lv_at hl 0 rfl) ?_
      refine lv_iconst (v := 2) B.1 B.2.1 dL_law_686 (by decide) ?_
      refine lv_iadd B.1 B.2.1 dL_law_687 ?_
      refine va_sld B.1 B.2.1 hX hbl (Nat.not_le.mpr hbl) hS hi2 dL_law_688 ?_
      refine lv_aload_n B.1 B.2.1 dL_law_689 rfl (lv_at hl 1 rfl) ?_
      refine mb_xH (as := [mb_F 0 0 0, .inl (xs (x4 + 1).toNatClampNeg), .inl (xs (x4 + 2).toNatClampNeg), mb_F 30 0 0]) (n := 4) (mc := 1) (ms := 6) (rest := []) B hS hw hl.1 ⟨⟨by decide, by decide⟩, trivial, trivial, ⟨by decide, by decide⟩, trivial⟩ (Nat.zero_le _) (H_boat_t1 hst B.2.2.2.2.2.2.2.1 e5) wl_L_134 mt_L_boat mn_L mw_L_boat (by decide +kernel) rfl ⟨by show 8 + 4 + 1 ≤ 2048; decide, by show _ ≤ 84000; decide, by show cells + 1 ≤ 601024; omega, by show slots + 6 ≤ 7293034; omega⟩ rfl dL_law_690 (fun H1 locs1 hw1 hS1 _ _ => ?_)
      refine lv_istore (lv' := [(5, .int 1), (4, .int x4), (3, .ref (G.2.2 (30, 0, 0))), (2, .ref (G.2.2 (6, 0, 0))), (1, .ref (G.2.2 (0, 0, 0))), (0, .ref b)]) B.1 B.2.1 dL_law_693 hl (by decide) rfl (fun ls hl => ?_)
      refine lv_aload_n B.1 B.2.1 dL_law_695 rfl (lv_at hl 3 rfl) ?_
      refine lv_aload_n B.1 B.2.1 dL_law_696 rfl (lv_at hl 5 rfl) ?_
      refine lv_iload B.1 B.2.1 dL_law_697 (lv_at hl 1 rfl) ?_
      refine lv_iconst (v := 1) B.1 B.2.1 dL_law_699 (by decide) ?_
      refine lv_iadd B.1 B.2.1 dL_law_700 ?_
      refine va_sld B.1 B.2.1 hX hbl (Nat.not_le.mpr hbl) hS1 hi1 dL_law_701 ?_
      refine lv_aload_n B.1 B.2.1 dL_law_702 rfl (lv_at hl 5 rfl) ?_
      refine lv_iload B.1 B.2.1 dL_law_703 (lv_at hl 1 rfl) ?_
      refine lv_iconst (v := 2) B.1 B.2.1 dL_law_705 (by decide) ?_
      refine lv_iadd B.1 B.2.1 dL_law_706 ?_
      refine va_sld B.1 B.2.1 hX hbl (Nat.not_le.mpr hbl) hS1 hi2 dL_law_707 ?_
      refine mb_xV (as := [.inl (xs (x4 + 1).toNatClampNeg), .inl (xs (x4 + 2).toNatClampNeg)]) (n := 2) (d2 := 4) (ci := 6) (N := 16) (rest := []) B hS1 hw1 hl.1 ⟨⟨by decide, by decide⟩, trivial, trivial, trivial⟩ (Nat.le_of_ble_eq_true rfl) (C_X6_boat hst B.2.2.2.2.2.2.2.1 e6) (mb_gV wl_L_136 mi_X6_boat ms_X6_boat mn_X6 mc_X6_boat) (by decide +kernel) rfl rfl rfl ⟨by show 8 + 4 + 1 ≤ 2048; decide, by show _ ≤ 84000; decide, by show cells + 1 + 0 ≤ 601024; omega, by show slots + 6 + 0 ≤ 7293034; omega⟩ rfl dL_law_708 (fun v1 H1c locs1c hv1 _ hw1c hS1c _ _ => ?_) (fun E9 ce9 q9 H9 locs9 hv9 _ _ _ _ _ _ _ => by cases hv9)
      cases hv1
      refine lv_istore (lv' := [(6, .int b9), (5, .int 1), (4, .int x4), (3, .ref (G.2.2 (30, 0, 0))), (2, .ref (G.2.2 (6, 0, 0))), (1, .ref (G.2.2 (0, 0, 0))), (0, .ref b)]) B.1 B.2.1 dL_law_711 hl (by decide) rfl (fun ls hl => ?_)
      refine lv_aload_n B.1 B.2.1 dL_law_713 rfl (lv_at hl 4 rfl) ?_
      refine mb_xV (as := []) (n := 0) (d2 := 0) (ci := 6) (N := 16) (rest := []) B hS1c hw1c hl.1 ⟨⟨by decide, by decide⟩, trivial⟩ (Nat.le_of_ble_eq_true rfl) (C_X6_thrown hst B.2.2.2.2.2.2.2.1 (show F_X6_thrown _ = some (.inl (some (.inl (h3.1 6 0 0 4))), h3) from rfl)) (mb_gV wl_L_109 mi_X6_thrown ms_X6_thrown mn_X6 mc_X6_thrown) (by decide +kernel) rfl rfl rfl ⟨by show 8 + 0 + 1 ≤ 2048; decide, by show _ ≤ 84000; decide, by show cells + 1 + 0 ≤ 601024; omega, by show slots + 6 + 0 ≤ 7293034; omega⟩ rfl dL_law_714 (fun v2 H2c locs2c hv2 _ hw2c hS2c _ _ => ?_) (fun E9 ce9 q9 H9 locs9 hv9 _ _ _ _ _ _ _ => by cases hv9)
      cases hv2
      refine lv_iload B.1 B.2.1 dL_law_717 (lv_at hl 1 rfl) ?_
      refine lv_icmp_eq (tgt := 724) B.1 B.2.1 dL_law_719 (by decide) (fun _ => ?_) (fun z9 => absurd eT z9)
      refine lv_iload B.1 B.2.1 dL_law_724 (lv_at hl 1 rfl) ?_
      refine lv_if_ne (tgt := 741) B.1 B.2.1 dL_law_726 (by decide) (fun _ => ?_) (fun z9 => absurd z9 (by decide))
      refine lv_goto (tgt := 1925) B.1 B.2.1 dL_law_741 (by decide) ?_
      exact kk _ _ _ _ _ _ eS hw2c hS2c (lv_sub hl [2, 3, 4, 5, 6] rfl) (by simp only [mb_mc, mb_ms]; omega) (by simp only [mb_mc, mb_ms]; omega)
    | 1, ej =>
      cases ej
      refine lv_aload_n B.1 B.2.1 dL_law_676 rfl (lv_at hl 3 rfl) ?_
      refine lv_aload_n B.1 B.2.1 dL_law_677 rfl (lv_at hl 4 rfl) ?_
      refine lv_iload B.1 B.2.1 dL_law_678 (lv_at hl 0 rfl) ?_
      refine lv_iconst (v := 1) B.1 B.2.1 dL_law_680 (by decide) ?_
      refine lv_iadd B.1 B.2.1 dL_law_681 ?_
      refine va_sld B.1 B.2.1 hX hbl (Nat.not_le.mpr hbl) hS hi1 dL_law_682 ?_
      refine lv_aload_n B.1 B.2.1 dL_law_683 rfl (lv_at hl 4 rfl) ?_
      refine lv_iload B.1 B.2.1 dL_law_684 (lv_at hl 0 rfl) ?_
      refine lv_iconst (v := 2) B.1 B.2.1 dL_law_686 (by decide) ?_
      refine lv_iadd B.1 B.2.1 dL_law_687 ?_
      refine va_sld B.1 B.2.1 hX hbl (Nat.not_le.mpr hbl) hS hi2 dL_law_688 ?_
      refine lv_aload_n B.1 B.2.1 dL_law_689 rfl (lv_at hl 1 rfl) ?_
      refine mb_xH (as := [mb_F 0 0 0, .inl (xs (x4 + 1).toNatClampNeg), .inl (xs (x4 + 2).toNatClampNeg), mb_F 30 0 0]) (n := 4) (mc := 1) (ms := 6) (rest := []) B hS hw hl.1 ⟨⟨by decide, by decide⟩, trivial, trivial, ⟨by decide, by decide⟩, trivial⟩ (Nat.zero_le _) (H_boat_t2 hst B.2.2.2.2.2.2.2.1 e5) wl_L_134 mt_L_boat mn_L mw_L_boat (by decide +kernel) rfl ⟨by show 8 + 4 + 1 ≤ 2048; decide, by show _ ≤ 84000; decide, by show cells + 1 ≤ 601024; omega, by show slots + 6 ≤ 7293034; omega⟩ rfl dL_law_690 (fun H1 locs1 hw1 hS1 _ _ => ?_)
      refine lv_istore (lv' := [(5, .int 2), (4, .int x4), (3, .ref (G.2.2 (30, 0, 0))), (2, .ref (G.2.2 (6, 0, 0))), (1, .ref (G.2.2 (0, 0, 0))), (0, .ref b)]) B.1 B.2.1 dL_law_693 hl (by decide) rfl (fun ls hl => ?_)
      refine lv_aload_n B.1 B.2.1 dL_law_695 rfl (lv_at hl 3 rfl) ?_
      refine lv_aload_n B.1 B.2.1 dL_law_696 rfl (lv_at hl 5 rfl) ?_
      refine lv_iload B.1 B.2.1 dL_law_697 (lv_at hl 1 rfl) ?_
      refine lv_iconst (v := 1) B.1 B.2.1 dL_law_699 (by decide) ?_
      refine lv_iadd B.1 B.2.1 dL_law_700 ?_
      refine va_sld B.1 B.2.1 hX hbl (Nat.not_le.mpr hbl) hS1 hi1 dL_law_701 ?_
      refine lv_aload_n B.1 B.2.1 dL_law_702 rfl (lv_at hl 5 rfl) ?_
      refine lv_iload B.1 B.2.1 dL_law_703 (lv_at hl 1 rfl) ?_
      refine lv_iconst (v := 2) B.1 B.2.1 dL_law_705 (by decide) ?_
      refine lv_iadd B.1 B.2.1 dL_law_706 ?_
      refine va_sld B.1 B.2.1 hX hbl (Nat.not_le.mpr hbl) hS1 hi2 dL_law_707 ?_
      refine mb_xV (as := [.inl (xs (x4 + 1).toNatClampNeg), .inl (xs (x4 + 2).toNatClampNeg)]) (n := 2) (d2 := 4) (ci := 6) (N := 16) (rest := []) B hS1 hw1 hl.1 ⟨⟨by decide, by decide⟩, trivial, trivial, trivial⟩ (Nat.le_of_ble_eq_true rfl) (C_X6_boat hst B.2.2.2.2.2.2.2.1 e6) (mb_gV wl_L_136 mi_X6_boat ms_X6_boat mn_X6 mc_X6_boat) (by decide +kernel) rfl rfl rfl ⟨by show 8 + 4 + 1 ≤ 2048; decide, by show _ ≤ 84000; decide, by show cells + 1 + 0 ≤ 601024; omega, by show slots + 6 + 0 ≤ 7293034; omega⟩ rfl dL_law_708 (fun v1 H1c locs1c hv1 _ hw1c hS1c _ _ => ?_) (fun E9 ce9 q9 H9 locs9 hv9 _ _ _ _ _ _ _ => by cases hv9)
      cases hv1
      refine lv_istore (lv' := [(6, .int b9), (5, .int 2), (4, .int x4), (3, .ref (G.2.2 (30, 0, 0))), (2, .ref (G.2.2 (6, 0, 0))), (1, .ref (G.2.2 (0, 0, 0))), (0, .ref b)]) B.1 B.2.1 dL_law_711 hl (by decide) rfl (fun ls hl => ?_)
      refine lv_aload_n B.1 B.2.1 dL_law_713 rfl (lv_at hl 4 rfl) ?_
      refine mb_xV (as := []) (n := 0) (d2 := 0) (ci := 6) (N := 16) (rest := []) B hS1c hw1c hl.1 ⟨⟨by decide, by decide⟩, trivial⟩ (Nat.le_of_ble_eq_true rfl) (C_X6_thrown hst B.2.2.2.2.2.2.2.1 (show F_X6_thrown _ = some (.inl (some (.inl (h3.1 6 0 0 4))), h3) from rfl)) (mb_gV wl_L_109 mi_X6_thrown ms_X6_thrown mn_X6 mc_X6_thrown) (by decide +kernel) rfl rfl rfl ⟨by show 8 + 0 + 1 ≤ 2048; decide, by show _ ≤ 84000; decide, by show cells + 1 + 0 ≤ 601024; omega, by show slots + 6 + 0 ≤ 7293034; omega⟩ rfl dL_law_714 (fun v2 H2c locs2c hv2 _ hw2c hS2c _ _ => ?_) (fun E9 ce9 q9 H9 locs9 hv9 _ _ _ _ _ _ _ => by cases hv9)
      cases hv2
      refine lv_iload B.1 B.2.1 dL_law_717 (lv_at hl 1 rfl) ?_
      refine lv_icmp_eq (tgt := 724) B.1 B.2.1 dL_law_719 (by decide) (fun _ => ?_) (fun z9 => absurd eT z9)
      refine lv_iload B.1 B.2.1 dL_law_724 (lv_at hl 1 rfl) ?_
      refine lv_if_ne (tgt := 741) B.1 B.2.1 dL_law_726 (by decide) (fun _ => ?_) (fun z9 => absurd z9 (by decide))
      refine lv_goto (tgt := 1925) B.1 B.2.1 dL_law_741 (by decide) ?_
      exact kk _ _ _ _ _ _ eS hw2c hS2c (lv_sub hl [2, 3, 4, 5, 6] rfl) (by simp only [mb_mc, mb_ms]; omega) (by simp only [mb_mc, mb_ms]; omega)
    | k9 + 2, ej => simp at ej
set_option maxRecDepth 100000 in
set_option maxHeartbeats 4000000 in
theorem lc_8 (hst : l.stackTraces = false) (B : mb_Lx p l s m #[Value.ref b] c G RL code 7 (mb_A9 s)) (hX : va_X b L xs s s.heap) (hbl : b < s.heap.size) (hS : va_S (mb_A9 s) s.heap H locs) (hw : mb_wd G h H) (hl : lv_has ls 7 [(4, .int x4), (3, .ref (G.2.2 (30, 0, 0))), (2, .ref (G.2.2 (6, 0, 0))), (1, .ref (G.2.2 (0, 0, 0))), (0, .ref b)]) (hc : cells + 1 ≤ 601024) (hs : slots + 6 ≤ 7293034) (hi1 : vp_in (x4 + 1) L) (hi2 : vp_in (x4 + 2) L) (hps : mb_PZ ["java/lang/IndexOutOfBoundsException"] (F_X5_fits (xs (x4 + 1).toNatClampNeg) (xs (x4 + 2).toNatClampNeg) h) (F_X6_fits (xs (x4 + 1).toNatClampNeg) (xs (x4 + 2).toNatClampNeg)) S)
    (kk : ∀ (h3 : mb_AH) (H3 : Heap) (locs3 : List Loc) (ls3 : Array Slot) (cells3 slots3 : Nat), S h3 → mb_wd G h3 H3 → va_S (mb_A9 s) s.heap H3 locs3 → lv_has ls3 7 [(4, .int x4), (3, .ref (G.2.2 (30, 0, 0))), (2, .ref (G.2.2 (6, 0, 0))), (1, .ref (G.2.2 (0, 0, 0))), (0, .ref b)] → cells3 ≤ cells + 1 → slots3 ≤ slots + 6 → W p l e room_1 s m #[Value.ref b] below meth c H3 locs3 cells3 slots3 Q (F0 m 1925 ls3 [])) : W p l e room_1 s m #[Value.ref b] below meth c H locs cells slots Q (F0 m 744 ls []) := by
  rcases hps with ⟨h1, h3, e5, e6, eT, eO, eS⟩ | ⟨h1, h3, e5, e6, eT, eO, eS⟩ | ⟨j, E, h1, b9, h3, ej, e5, e6, eT, eS⟩
  · refine lv_aload_n B.1 B.2.1 dL_law_744 rfl (lv_at hl 3 rfl) ?_
    refine lv_aload_n B.1 B.2.1 dL_law_745 rfl (lv_at hl 4 rfl) ?_
    refine lv_iload B.1 B.2.1 dL_law_746 (lv_at hl 0 rfl) ?_
    refine lv_iconst (v := 1) B.1 B.2.1 dL_law_748 (by decide) ?_
    refine lv_iadd B.1 B.2.1 dL_law_749 ?_
    refine va_sld B.1 B.2.1 hX hbl (Nat.not_le.mpr hbl) hS hi1 dL_law_750 ?_
    refine lv_aload_n B.1 B.2.1 dL_law_751 rfl (lv_at hl 4 rfl) ?_
    refine lv_iload B.1 B.2.1 dL_law_752 (lv_at hl 0 rfl) ?_
    refine lv_iconst (v := 2) B.1 B.2.1 dL_law_754 (by decide) ?_
    refine lv_iadd B.1 B.2.1 dL_law_755 ?_
    refine va_sld B.1 B.2.1 hX hbl (Nat.not_le.mpr hbl) hS hi2 dL_law_756 ?_
    refine lv_aload_n B.1 B.2.1 dL_law_757 rfl (lv_at hl 1 rfl) ?_
    refine mb_xH (as := [mb_F 0 0 0, .inl (xs (x4 + 1).toNatClampNeg), .inl (xs (x4 + 2).toNatClampNeg), mb_F 30 0 0]) (n := 4) (mc := 0) (ms := 0) (rest := []) B hS hw hl.1 ⟨⟨by decide, by decide⟩, trivial, trivial, ⟨by decide, by decide⟩, trivial⟩ (Nat.zero_le _) (H_fits_r0 hst B.2.2.2.2.2.2.2.1 e5) wl_L_137 mt_L_fits mn_L mw_L_fits (by decide +kernel) rfl ⟨by show 8 + 3 + 1 ≤ 2048; decide, by show _ ≤ 84000; decide, by show cells + 0 ≤ 601024; omega, by show slots + 0 ≤ 7293034; omega⟩ rfl dL_law_758 (fun H1 locs1 hw1 hS1 _ _ => ?_)
    refine lv_istore (lv' := [(5, .int 0), (4, .int x4), (3, .ref (G.2.2 (30, 0, 0))), (2, .ref (G.2.2 (6, 0, 0))), (1, .ref (G.2.2 (0, 0, 0))), (0, .ref b)]) B.1 B.2.1 dL_law_761 hl (by decide) rfl (fun ls hl => ?_)
    refine lv_aload_n B.1 B.2.1 dL_law_763 rfl (lv_at hl 3 rfl) ?_
    refine lv_aload_n B.1 B.2.1 dL_law_764 rfl (lv_at hl 5 rfl) ?_
    refine lv_iload B.1 B.2.1 dL_law_765 (lv_at hl 1 rfl) ?_
    refine lv_iconst (v := 1) B.1 B.2.1 dL_law_767 (by decide) ?_
    refine lv_iadd B.1 B.2.1 dL_law_768 ?_
    refine va_sld B.1 B.2.1 hX hbl (Nat.not_le.mpr hbl) hS1 hi1 dL_law_769 ?_
    refine lv_aload_n B.1 B.2.1 dL_law_770 rfl (lv_at hl 5 rfl) ?_
    refine lv_iload B.1 B.2.1 dL_law_771 (lv_at hl 1 rfl) ?_
    refine lv_iconst (v := 2) B.1 B.2.1 dL_law_773 (by decide) ?_
    refine lv_iadd B.1 B.2.1 dL_law_774 ?_
    refine va_sld B.1 B.2.1 hX hbl (Nat.not_le.mpr hbl) hS1 hi2 dL_law_775 ?_
    refine mb_xV (as := [.inl (xs (x4 + 1).toNatClampNeg), .inl (xs (x4 + 2).toNatClampNeg)]) (n := 2) (d2 := 3) (ci := 6) (N := 16) (rest := []) B hS1 hw1 hl.1 ⟨⟨by decide, by decide⟩, trivial, trivial, trivial⟩ (Nat.le_of_ble_eq_true rfl) (C_X6_fits hst B.2.2.2.2.2.2.2.1 e6) (mb_gV wl_L_139 mi_X6_fits ms_X6_fits mn_X6 mc_X6_fits) (by decide +kernel) rfl rfl rfl ⟨by show 8 + 3 + 1 ≤ 2048; decide, by show _ ≤ 84000; decide, by show cells + 0 + 0 ≤ 601024; omega, by show slots + 0 + 0 ≤ 7293034; omega⟩ rfl dL_law_776 (fun v1 H1c locs1c hv1 _ hw1c hS1c _ _ => ?_) (fun E9 ce9 q9 H9 locs9 hv9 _ _ _ _ _ _ _ => by cases hv9)
    cases hv1
    refine lv_istore (lv' := [(6, .int 0), (5, .int 0), (4, .int x4), (3, .ref (G.2.2 (30, 0, 0))), (2, .ref (G.2.2 (6, 0, 0))), (1, .ref (G.2.2 (0, 0, 0))), (0, .ref b)]) B.1 B.2.1 dL_law_779 hl (by decide) rfl (fun ls hl => ?_)
    refine lv_aload_n B.1 B.2.1 dL_law_781 rfl (lv_at hl 4 rfl) ?_
    refine mb_xV (as := []) (n := 0) (d2 := 0) (ci := 6) (N := 16) (rest := []) B hS1c hw1c hl.1 ⟨⟨by decide, by decide⟩, trivial⟩ (Nat.le_of_ble_eq_true rfl) (C_X6_thrown hst B.2.2.2.2.2.2.2.1 (show F_X6_thrown _ = some (.inl (some (.inl (h3.1 6 0 0 4))), h3) from rfl)) (mb_gV wl_L_109 mi_X6_thrown ms_X6_thrown mn_X6 mc_X6_thrown) (by decide +kernel) rfl rfl rfl ⟨by show 8 + 0 + 1 ≤ 2048; decide, by show _ ≤ 84000; decide, by show cells + 0 + 0 ≤ 601024; omega, by show slots + 0 + 0 ≤ 7293034; omega⟩ rfl dL_law_782 (fun v2 H2c locs2c hv2 _ hw2c hS2c _ _ => ?_) (fun E9 ce9 q9 H9 locs9 hv9 _ _ _ _ _ _ _ => by cases hv9)
    cases hv2
    refine lv_iload B.1 B.2.1 dL_law_785 (lv_at hl 1 rfl) ?_
    refine lv_icmp_eq (tgt := 792) B.1 B.2.1 dL_law_787 (by decide) (fun _ => ?_) (fun z9 => absurd eT z9)
    refine lv_iload B.1 B.2.1 dL_law_792 (lv_at hl 1 rfl) ?_
    refine lv_if_ne (tgt := 816) B.1 B.2.1 dL_law_794 (by decide) (fun z9 => absurd rfl z9) (fun _ => ?_)
    refine lv_aload_n B.1 B.2.1 dL_law_797 rfl (lv_at hl 3 rfl) ?_
    refine lv_iconst (v := 0) B.1 B.2.1 dL_law_798 (by decide) ?_
    refine mb_outld B hw2c dL_law_799 ?_
    refine lv_iload B.1 B.2.1 dL_law_800 (lv_at hl 0 rfl) ?_
    refine lv_if_eq (tgt := 809) B.1 B.2.1 dL_law_802 (by decide) (fun _ => ?_) (fun z9 => absurd rfl z9)
    refine lv_lconst (v := 0) B.1 B.2.1 dL_law_809 (by decide) ?_
    refine W.lcmp B.1 B.2.1 dL_law_810 ?_
    refine lv_if_eq (tgt := 816) B.1 B.2.1 dL_law_811 (by decide) (fun _ => ?_) (fun z9 => absurd (by rw [eO]; exact mb_lc0 _) z9)
    refine lv_goto (tgt := 1925) B.1 B.2.1 dL_law_816 (by decide) ?_
    exact kk _ _ _ _ _ _ eS hw2c hS2c (lv_sub hl [2, 3, 4, 5, 6] rfl) (by simp only [mb_mc, mb_ms]; omega) (by simp only [mb_mc, mb_ms]; omega)
  · refine lv_aload_n B.1 B.2.1 dL_law_744 rfl (lv_at hl 3 rfl) ?_
    refine lv_aload_n B.1 B.2.1 dL_law_745 rfl (lv_at hl 4 rfl) ?_
    refine lv_iload B.1 B.2.1 dL_law_746 (lv_at hl 0 rfl) ?_
    refine lv_iconst (v := 1) B.1 B.2.1 dL_law_748 (by decide) ?_
    refine lv_iadd B.1 B.2.1 dL_law_749 ?_
    refine va_sld B.1 B.2.1 hX hbl (Nat.not_le.mpr hbl) hS hi1 dL_law_750 ?_
    refine lv_aload_n B.1 B.2.1 dL_law_751 rfl (lv_at hl 4 rfl) ?_
    refine lv_iload B.1 B.2.1 dL_law_752 (lv_at hl 0 rfl) ?_
    refine lv_iconst (v := 2) B.1 B.2.1 dL_law_754 (by decide) ?_
    refine lv_iadd B.1 B.2.1 dL_law_755 ?_
    refine va_sld B.1 B.2.1 hX hbl (Nat.not_le.mpr hbl) hS hi2 dL_law_756 ?_
    refine lv_aload_n B.1 B.2.1 dL_law_757 rfl (lv_at hl 1 rfl) ?_
    refine mb_xH (as := [mb_F 0 0 0, .inl (xs (x4 + 1).toNatClampNeg), .inl (xs (x4 + 2).toNatClampNeg), mb_F 30 0 0]) (n := 4) (mc := 0) (ms := 0) (rest := []) B hS hw hl.1 ⟨⟨by decide, by decide⟩, trivial, trivial, ⟨by decide, by decide⟩, trivial⟩ (Nat.zero_le _) (H_fits_r1 hst B.2.2.2.2.2.2.2.1 e5) wl_L_137 mt_L_fits mn_L mw_L_fits (by decide +kernel) rfl ⟨by show 8 + 3 + 1 ≤ 2048; decide, by show _ ≤ 84000; decide, by show cells + 0 ≤ 601024; omega, by show slots + 0 ≤ 7293034; omega⟩ rfl dL_law_758 (fun H1 locs1 hw1 hS1 _ _ => ?_)
    refine lv_istore (lv' := [(5, .int 0), (4, .int x4), (3, .ref (G.2.2 (30, 0, 0))), (2, .ref (G.2.2 (6, 0, 0))), (1, .ref (G.2.2 (0, 0, 0))), (0, .ref b)]) B.1 B.2.1 dL_law_761 hl (by decide) rfl (fun ls hl => ?_)
    refine lv_aload_n B.1 B.2.1 dL_law_763 rfl (lv_at hl 3 rfl) ?_
    refine lv_aload_n B.1 B.2.1 dL_law_764 rfl (lv_at hl 5 rfl) ?_
    refine lv_iload B.1 B.2.1 dL_law_765 (lv_at hl 1 rfl) ?_
    refine lv_iconst (v := 1) B.1 B.2.1 dL_law_767 (by decide) ?_
    refine lv_iadd B.1 B.2.1 dL_law_768 ?_
    refine va_sld B.1 B.2.1 hX hbl (Nat.not_le.mpr hbl) hS1 hi1 dL_law_769 ?_
    refine lv_aload_n B.1 B.2.1 dL_law_770 rfl (lv_at hl 5 rfl) ?_
    refine lv_iload B.1 B.2.1 dL_law_771 (lv_at hl 1 rfl) ?_
    refine lv_iconst (v := 2) B.1 B.2.1 dL_law_773 (by decide) ?_
    refine lv_iadd B.1 B.2.1 dL_law_774 ?_
    refine va_sld B.1 B.2.1 hX hbl (Nat.not_le.mpr hbl) hS1 hi2 dL_law_775 ?_
    refine mb_xV (as := [.inl (xs (x4 + 1).toNatClampNeg), .inl (xs (x4 + 2).toNatClampNeg)]) (n := 2) (d2 := 3) (ci := 6) (N := 16) (rest := []) B hS1 hw1 hl.1 ⟨⟨by decide, by decide⟩, trivial, trivial, trivial⟩ (Nat.le_of_ble_eq_true rfl) (C_X6_fits hst B.2.2.2.2.2.2.2.1 e6) (mb_gV wl_L_139 mi_X6_fits ms_X6_fits mn_X6 mc_X6_fits) (by decide +kernel) rfl rfl rfl ⟨by show 8 + 3 + 1 ≤ 2048; decide, by show _ ≤ 84000; decide, by show cells + 0 + 0 ≤ 601024; omega, by show slots + 0 + 0 ≤ 7293034; omega⟩ rfl dL_law_776 (fun v1 H1c locs1c hv1 _ hw1c hS1c _ _ => ?_) (fun E9 ce9 q9 H9 locs9 hv9 _ _ _ _ _ _ _ => by cases hv9)
    cases hv1
    refine lv_istore (lv' := [(6, .int 1), (5, .int 0), (4, .int x4), (3, .ref (G.2.2 (30, 0, 0))), (2, .ref (G.2.2 (6, 0, 0))), (1, .ref (G.2.2 (0, 0, 0))), (0, .ref b)]) B.1 B.2.1 dL_law_779 hl (by decide) rfl (fun ls hl => ?_)
    refine lv_aload_n B.1 B.2.1 dL_law_781 rfl (lv_at hl 4 rfl) ?_
    refine mb_xV (as := []) (n := 0) (d2 := 0) (ci := 6) (N := 16) (rest := []) B hS1c hw1c hl.1 ⟨⟨by decide, by decide⟩, trivial⟩ (Nat.le_of_ble_eq_true rfl) (C_X6_thrown hst B.2.2.2.2.2.2.2.1 (show F_X6_thrown _ = some (.inl (some (.inl (h3.1 6 0 0 4))), h3) from rfl)) (mb_gV wl_L_109 mi_X6_thrown ms_X6_thrown mn_X6 mc_X6_thrown) (by decide +kernel) rfl rfl rfl ⟨by show 8 + 0 + 1 ≤ 2048; decide, by show _ ≤ 84000; decide, by show cells + 0 + 0 ≤ 601024; omega, by show slots + 0 + 0 ≤ 7293034; omega⟩ rfl dL_law_782 (fun v2 H2c locs2c hv2 _ hw2c hS2c _ _ => ?_) (fun E9 ce9 q9 H9 locs9 hv9 _ _ _ _ _ _ _ => by cases hv9)
    cases hv2
    refine lv_iload B.1 B.2.1 dL_law_785 (lv_at hl 1 rfl) ?_
    refine lv_icmp_eq (tgt := 792) B.1 B.2.1 dL_law_787 (by decide) (fun _ => ?_) (fun z9 => absurd eT z9)
    refine lv_iload B.1 B.2.1 dL_law_792 (lv_at hl 1 rfl) ?_
    refine lv_if_ne (tgt := 816) B.1 B.2.1 dL_law_794 (by decide) (fun z9 => absurd rfl z9) (fun _ => ?_)
    refine lv_aload_n B.1 B.2.1 dL_law_797 rfl (lv_at hl 3 rfl) ?_
    refine lv_iconst (v := 0) B.1 B.2.1 dL_law_798 (by decide) ?_
    refine mb_outld B hw2c dL_law_799 ?_
    refine lv_iload B.1 B.2.1 dL_law_800 (lv_at hl 0 rfl) ?_
    refine lv_if_eq (tgt := 809) B.1 B.2.1 dL_law_802 (by decide) (fun z9 => absurd z9 (by decide)) (fun _ => ?_)
    refine lv_lconst (v := 1) B.1 B.2.1 dL_law_805 (by decide) ?_
    refine lv_goto (tgt := 810) B.1 B.2.1 dL_law_806 (by decide) ?_
    refine W.lcmp B.1 B.2.1 dL_law_810 ?_
    refine lv_if_eq (tgt := 816) B.1 B.2.1 dL_law_811 (by decide) (fun _ => ?_) (fun z9 => absurd (by rw [eO]; exact mb_lc0 _) z9)
    refine lv_goto (tgt := 1925) B.1 B.2.1 dL_law_816 (by decide) ?_
    exact kk _ _ _ _ _ _ eS hw2c hS2c (lv_sub hl [2, 3, 4, 5, 6] rfl) (by simp only [mb_mc, mb_ms]; omega) (by simp only [mb_mc, mb_ms]; omega)
  · match j, ej with
    | 0, ej =>
      cases ej
      refine lv_aload_n B.1 B.2.1 dL_law_744 rfl (lv_at hl 3 rfl) ?_
      refine lv_aload_n B.1 B.2.1 dL_law_745 rfl (lv_at hl 4 rfl) ?_
      refine lv_iload B.1 B.2.1 dL_law_746 (lv_at hl 0 rfl) ?_
      refine lv_iconst (v := 1) B.1 B.2.1 dL_law_748 (by decide) ?_
      refine lv_iadd B.1 B.2.1 dL_law_749 ?_
      refine va_sld B.1 B.2.1 hX hbl (Nat.not_le.mpr hbl) hS hi1 dL_law_750 ?_
      refine lv_aload_n B.1 B.2.1 dL_law_751 rfl (lv_at hl 4 rfl) ?_
      refine lv_iload B.1 B.2.1 dL_law_752 (lv_at hl 0 rfl) ?_
      refine lv_iconst (v := 2) B.1 B.2.1 dL_law_754 (by decide) ?_
      refine lv_iadd B.1 B.2.1 dL_law_755 ?_
      refine va_sld B.1 B.2.1 hX hbl (Nat.not_le.mpr hbl) hS hi2 dL_law_756 ?_
      refine lv_aload_n B.1 B.2.1 dL_law_757 rfl (lv_at hl 1 rfl) ?_
      refine mb_xH (as := [mb_F 0 0 0, .inl (xs (x4 + 1).toNatClampNeg), .inl (xs (x4 + 2).toNatClampNeg), mb_F 30 0 0]) (n := 4) (mc := 1) (ms := 6) (rest := []) B hS hw hl.1 ⟨⟨by decide, by decide⟩, trivial, trivial, ⟨by decide, by decide⟩, trivial⟩ (Nat.zero_le _) (H_fits_t1 hst B.2.2.2.2.2.2.2.1 e5) wl_L_137 mt_L_fits mn_L mw_L_fits (by decide +kernel) rfl ⟨by show 8 + 3 + 1 ≤ 2048; decide, by show _ ≤ 84000; decide, by show cells + 1 ≤ 601024; omega, by show slots + 6 ≤ 7293034; omega⟩ rfl dL_law_758 (fun H1 locs1 hw1 hS1 _ _ => ?_)
      refine lv_istore (lv' := [(5, .int 1), (4, .int x4), (3, .ref (G.2.2 (30, 0, 0))), (2, .ref (G.2.2 (6, 0, 0))), (1, .ref (G.2.2 (0, 0, 0))), (0, .ref b)]) B.1 B.2.1 dL_law_761 hl (by decide) rfl (fun ls hl => ?_)
      refine lv_aload_n B.1 B.2.1 dL_law_763 rfl (lv_at hl 3 rfl) ?_
      refine lv_aload_n B.1 B.2.1 dL_law_764 rfl (lv_at hl 5 rfl) ?_
      refine lv_iload B.1 B.2.1 dL_law_765 (lv_at hl 1 rfl) ?_
      refine lv_iconst (v := 1) B.1 B.2.1 dL_law_767 (by decide) ?_
      refine lv_iadd B.1 B.2.1 dL_law_768 ?_
      refine va_sld B.1 B.2.1 hX hbl (Nat.not_le.mpr hbl) hS1 hi1 dL_law_769 ?_
      refine lv_aload_n B.1 B.2.1 dL_law_770 rfl (lv_at hl 5 rfl) ?_
      refine lv_iload B.1 B.2.1 dL_law_771 (lv_at hl 1 rfl) ?_
      refine lv_iconst (v := 2) B.1 B.2.1 dL_law_773 (by decide) ?_
      refine lv_iadd B.1 B.2.1 dL_law_774 ?_
      refine va_sld B.1 B.2.1 hX hbl (Nat.not_le.mpr hbl) hS1 hi2 dL_law_775 ?_
      refine mb_xV (as := [.inl (xs (x4 + 1).toNatClampNeg), .inl (xs (x4 + 2).toNatClampNeg)]) (n := 2) (d2 := 3) (ci := 6) (N := 16) (rest := []) B hS1 hw1 hl.1 ⟨⟨by decide, by decide⟩, trivial, trivial, trivial⟩ (Nat.le_of_ble_eq_true rfl) (C_X6_fits hst B.2.2.2.2.2.2.2.1 e6) (mb_gV wl_L_139 mi_X6_fits ms_X6_fits mn_X6 mc_X6_fits) (by decide +kernel) rfl rfl rfl ⟨by show 8 + 3 + 1 ≤ 2048; decide, by show _ ≤ 84000; decide, by show cells + 1 + 0 ≤ 601024; omega, by show slots + 6 + 0 ≤ 7293034; omega⟩ rfl dL_law_776 (fun v1 H1c locs1c hv1 _ hw1c hS1c _ _ => ?_) (fun E9 ce9 q9 H9 locs9 hv9 _ _ _ _ _ _ _ => by cases hv9)
      cases hv1
      refine lv_istore (lv' := [(6, .int b9), (5, .int 1), (4, .int x4), (3, .ref (G.2.2 (30, 0, 0))), (2, .ref (G.2.2 (6, 0, 0))), (1, .ref (G.2.2 (0, 0, 0))), (0, .ref b)]) B.1 B.2.1 dL_law_779 hl (by decide) rfl (fun ls hl => ?_)
      refine lv_aload_n B.1 B.2.1 dL_law_781 rfl (lv_at hl 4 rfl) ?_
      refine mb_xV (as := []) (n := 0) (d2 := 0) (ci := 6) (N := 16) (rest := []) B hS1c hw1c hl.1 ⟨⟨by decide, by decide⟩, trivial⟩ (Nat.le_of_ble_eq_true rfl) (C_X6_thrown hst B.2.2.2.2.2.2.2.1 (show F_X6_thrown _ = some (.inl (some (.inl (h3.1 6 0 0 4))), h3) from rfl)) (mb_gV wl_L_109 mi_X6_thrown ms_X6_thrown mn_X6 mc_X6_thrown) (by decide +kernel) rfl rfl rfl ⟨by show 8 + 0 + 1 ≤ 2048; decide, by show _ ≤ 84000; decide, by show cells + 1 + 0 ≤ 601024; omega, by show slots + 6 + 0 ≤ 7293034; omega⟩ rfl dL_law_782 (fun v2 H2c locs2c hv2 _ hw2c hS2c _ _ => ?_) (fun E9 ce9 q9 H9 locs9 hv9 _ _ _ _ _ _ _ => by cases hv9)
      cases hv2
      refine lv_iload B.1 B.2.1 dL_law_785 (lv_at hl 1 rfl) ?_
      refine lv_icmp_eq (tgt := 792) B.1 B.2.1 dL_law_787 (by decide) (fun _ => ?_) (fun z9 => absurd eT z9)
      refine lv_iload B.1 B.2.1 dL_law_792 (lv_at hl 1 rfl) ?_
      refine lv_if_ne (tgt := 816) B.1 B.2.1 dL_law_794 (by decide) (fun _ => ?_) (fun z9 => absurd z9 (by decide))
      refine lv_goto (tgt := 1925) B.1 B.2.1 dL_law_816 (by decide) ?_
      exact kk _ _ _ _ _ _ eS hw2c hS2c (lv_sub hl [2, 3, 4, 5, 6] rfl) (by simp only [mb_mc, mb_ms]; omega) (by simp only [mb_mc, mb_ms]; omega)
    | k9 + 1, ej => simp at ej
set_option maxRecDepth 100000 in
set_option maxHeartbeats 4000000 in
theorem lc_9 (hst : l.stackTraces = false) (B : mb_Lx p l s m #[Value.ref b] c G RL code 7 (mb_A9 s)) (hX : va_X b L xs s s.heap) (hbl : b < s.heap.size) (hS : va_S (mb_A9 s) s.heap H locs) (hw : mb_wd G h H) (hl : lv_has ls 7 [(4, .int x4), (3, .ref (G.2.2 (30, 0, 0))), (2, .ref (G.2.2 (6, 0, 0))), (1, .ref (G.2.2 (0, 0, 0))), (0, .ref b)]) (hc : cells + 1 ≤ 601024) (hs : slots + 6 ≤ 7293034) (hi1 : vp_in (x4 + 1) L) (hps : mb_PI ["java/lang/IllegalArgumentException"] (F_X5_info (xs (x4 + 1).toNatClampNeg) h) (F_X6_info (xs (x4 + 1).toNatClampNeg)) S)
    (kk : ∀ (h3 : mb_AH) (H3 : Heap) (locs3 : List Loc) (ls3 : Array Slot) (cells3 slots3 : Nat), S h3 → mb_wd G h3 H3 → va_S (mb_A9 s) s.heap H3 locs3 → lv_has ls3 7 [(4, .int x4), (3, .ref (G.2.2 (30, 0, 0))), (2, .ref (G.2.2 (6, 0, 0))), (1, .ref (G.2.2 (0, 0, 0))), (0, .ref b)] → cells3 ≤ cells + 1 → slots3 ≤ slots + 6 → W p l e room_1 s m #[Value.ref b] below meth c H3 locs3 cells3 slots3 Q (F0 m 1925 ls3 [])) : W p l e room_1 s m #[Value.ref b] below meth c H locs cells slots Q (F0 m 819 ls []) := by
  rcases hps with ⟨v, h1, h3, e5, e6, eT, eO, eS⟩ | ⟨j, E, h1, b9, h3, ej, e5, e6, eT, eS⟩
  · refine lv_aload_n B.1 B.2.1 dL_law_819 rfl (lv_at hl 3 rfl) ?_
    refine lv_aload_n B.1 B.2.1 dL_law_820 rfl (lv_at hl 4 rfl) ?_
    refine lv_iload B.1 B.2.1 dL_law_821 (lv_at hl 0 rfl) ?_
    refine lv_iconst (v := 1) B.1 B.2.1 dL_law_823 (by decide) ?_
    refine lv_iadd B.1 B.2.1 dL_law_824 ?_
    refine va_sld B.1 B.2.1 hX hbl (Nat.not_le.mpr hbl) hS hi1 dL_law_825 ?_
    refine lv_aload_n B.1 B.2.1 dL_law_826 rfl (lv_at hl 1 rfl) ?_
    refine mb_xH (as := [mb_F 0 0 0, .inl (xs (x4 + 1).toNatClampNeg), mb_F 30 0 0]) (n := 3) (mc := 0) (ms := 0) (rest := []) B hS hw hl.1 ⟨⟨by decide, by decide⟩, trivial, ⟨by decide, by decide⟩, trivial⟩ (Nat.zero_le _) (H_info_r hst B.2.2.2.2.2.2.2.1 e5) wl_L_140 mt_L_info mn_L mw_L_info (by decide +kernel) rfl ⟨by show 8 + 5 + 1 ≤ 2048; decide, by show _ ≤ 84000; decide, by show cells + 0 ≤ 601024; omega, by show slots + 0 ≤ 7293034; omega⟩ rfl dL_law_827 (fun H1 locs1 hw1 hS1 _ _ => ?_)
    refine lv_istore (lv' := [(5, .int 0), (4, .int x4), (3, .ref (G.2.2 (30, 0, 0))), (2, .ref (G.2.2 (6, 0, 0))), (1, .ref (G.2.2 (0, 0, 0))), (0, .ref b)]) B.1 B.2.1 dL_law_830 hl (by decide) rfl (fun ls hl => ?_)
    refine lv_aload_n B.1 B.2.1 dL_law_832 rfl (lv_at hl 3 rfl) ?_
    refine lv_aload_n B.1 B.2.1 dL_law_833 rfl (lv_at hl 5 rfl) ?_
    refine lv_iload B.1 B.2.1 dL_law_834 (lv_at hl 1 rfl) ?_
    refine lv_iconst (v := 1) B.1 B.2.1 dL_law_836 (by decide) ?_
    refine lv_iadd B.1 B.2.1 dL_law_837 ?_
    refine va_sld B.1 B.2.1 hX hbl (Nat.not_le.mpr hbl) hS1 hi1 dL_law_838 ?_
    refine mb_xV (as := [.inl (xs (x4 + 1).toNatClampNeg)]) (n := 1) (d2 := 4) (ci := 6) (N := 16) (rest := []) B hS1 hw1 hl.1 ⟨⟨by decide, by decide⟩, trivial, trivial⟩ (Nat.le_of_ble_eq_true rfl) (C_X6_info hst B.2.2.2.2.2.2.2.1 e6) (mb_gV wl_L_142 mi_X6_info ms_X6_info mn_X6 mc_X6_info) (by decide +kernel) rfl rfl rfl ⟨by show 8 + 4 + 1 ≤ 2048; decide, by show _ ≤ 84000; decide, by show cells + 0 + 0 ≤ 601024; omega, by show slots + 0 + 0 ≤ 7293034; omega⟩ rfl dL_law_839 (fun v1 H1c locs1c hv1 _ hw1c hS1c _ _ => ?_) (fun E9 ce9 q9 H9 locs9 hv9 _ _ _ _ _ _ _ => by cases hv9)
    cases hv1
    refine lv_istore (lv' := [(6, .int v), (5, .int 0), (4, .int x4), (3, .ref (G.2.2 (30, 0, 0))), (2, .ref (G.2.2 (6, 0, 0))), (1, .ref (G.2.2 (0, 0, 0))), (0, .ref b)]) B.1 B.2.1 dL_law_842 hl (by decide) rfl (fun ls hl => ?_)
    refine lv_aload_n B.1 B.2.1 dL_law_844 rfl (lv_at hl 4 rfl) ?_
    refine mb_xV (as := []) (n := 0) (d2 := 0) (ci := 6) (N := 16) (rest := []) B hS1c hw1c hl.1 ⟨⟨by decide, by decide⟩, trivial⟩ (Nat.le_of_ble_eq_true rfl) (C_X6_thrown hst B.2.2.2.2.2.2.2.1 (show F_X6_thrown _ = some (.inl (some (.inl (h3.1 6 0 0 4))), h3) from rfl)) (mb_gV wl_L_109 mi_X6_thrown ms_X6_thrown mn_X6 mc_X6_thrown) (by decide +kernel) rfl rfl rfl ⟨by show 8 + 0 + 1 ≤ 2048; decide, by show _ ≤ 84000; decide, by show cells + 0 + 0 ≤ 601024; omega, by show slots + 0 + 0 ≤ 7293034; omega⟩ rfl dL_law_845 (fun v2 H2c locs2c hv2 _ hw2c hS2c _ _ => ?_) (fun E9 ce9 q9 H9 locs9 hv9 _ _ _ _ _ _ _ => by cases hv9)
    cases hv2
    refine lv_iload B.1 B.2.1 dL_law_848 (lv_at hl 1 rfl) ?_
    refine lv_icmp_eq (tgt := 855) B.1 B.2.1 dL_law_850 (by decide) (fun _ => ?_) (fun z9 => absurd eT z9)
    refine lv_iload B.1 B.2.1 dL_law_855 (lv_at hl 1 rfl) ?_
    refine lv_if_ne (tgt := 872) B.1 B.2.1 dL_law_857 (by decide) (fun z9 => absurd rfl z9) (fun _ => ?_)
    refine lv_aload_n B.1 B.2.1 dL_law_860 rfl (lv_at hl 3 rfl) ?_
    refine lv_iconst (v := 0) B.1 B.2.1 dL_law_861 (by decide) ?_
    refine mb_outld B hw2c dL_law_862 ?_
    refine lv_iload B.1 B.2.1 dL_law_863 (lv_at hl 0 rfl) ?_
    refine lv_i2l B.1 B.2.1 dL_law_865 rfl ?_
    refine W.lcmp B.1 B.2.1 dL_law_866 ?_
    refine lv_if_eq (tgt := 872) B.1 B.2.1 dL_law_867 (by decide) (fun _ => ?_) (fun z9 => absurd (by rw [eO]; exact mb_lc0 _) z9)
    refine lv_goto (tgt := 1925) B.1 B.2.1 dL_law_872 (by decide) ?_
    exact kk _ _ _ _ _ _ eS hw2c hS2c (lv_sub hl [2, 3, 4, 5, 6] rfl) (by simp only [mb_mc, mb_ms]; omega) (by simp only [mb_mc, mb_ms]; omega)
  · match j, ej with
    | 0, ej =>
      cases ej
      refine lv_aload_n B.1 B.2.1 dL_law_819 rfl (lv_at hl 3 rfl) ?_
      refine lv_aload_n B.1 B.2.1 dL_law_820 rfl (lv_at hl 4 rfl) ?_
      refine lv_iload B.1 B.2.1 dL_law_821 (lv_at hl 0 rfl) ?_
      refine lv_iconst (v := 1) B.1 B.2.1 dL_law_823 (by decide) ?_
      refine lv_iadd B.1 B.2.1 dL_law_824 ?_
      refine va_sld B.1 B.2.1 hX hbl (Nat.not_le.mpr hbl) hS hi1 dL_law_825 ?_
      refine lv_aload_n B.1 B.2.1 dL_law_826 rfl (lv_at hl 1 rfl) ?_
      refine mb_xH (as := [mb_F 0 0 0, .inl (xs (x4 + 1).toNatClampNeg), mb_F 30 0 0]) (n := 3) (mc := 1) (ms := 6) (rest := []) B hS hw hl.1 ⟨⟨by decide, by decide⟩, trivial, ⟨by decide, by decide⟩, trivial⟩ (Nat.zero_le _) (H_info_t1 hst B.2.2.2.2.2.2.2.1 e5) wl_L_140 mt_L_info mn_L mw_L_info (by decide +kernel) rfl ⟨by show 8 + 5 + 1 ≤ 2048; decide, by show _ ≤ 84000; decide, by show cells + 1 ≤ 601024; omega, by show slots + 6 ≤ 7293034; omega⟩ rfl dL_law_827 (fun H1 locs1 hw1 hS1 _ _ => ?_)
      refine lv_istore (lv' := [(5, .int 1), (4, .int x4), (3, .ref (G.2.2 (30, 0, 0))), (2, .ref (G.2.2 (6, 0, 0))), (1, .ref (G.2.2 (0, 0, 0))), (0, .ref b)]) B.1 B.2.1 dL_law_830 hl (by decide) rfl (fun ls hl => ?_)
      refine lv_aload_n B.1 B.2.1 dL_law_832 rfl (lv_at hl 3 rfl) ?_
      refine lv_aload_n B.1 B.2.1 dL_law_833 rfl (lv_at hl 5 rfl) ?_
      refine lv_iload B.1 B.2.1 dL_law_834 (lv_at hl 1 rfl) ?_
      refine lv_iconst (v := 1) B.1 B.2.1 dL_law_836 (by decide) ?_
      refine lv_iadd B.1 B.2.1 dL_law_837 ?_
      refine va_sld B.1 B.2.1 hX hbl (Nat.not_le.mpr hbl) hS1 hi1 dL_law_838 ?_
      refine mb_xV (as := [.inl (xs (x4 + 1).toNatClampNeg)]) (n := 1) (d2 := 4) (ci := 6) (N := 16) (rest := []) B hS1 hw1 hl.1 ⟨⟨by decide, by decide⟩, trivial, trivial⟩ (Nat.le_of_ble_eq_true rfl) (C_X6_info hst B.2.2.2.2.2.2.2.1 e6) (mb_gV wl_L_142 mi_X6_info ms_X6_info mn_X6 mc_X6_info) (by decide +kernel) rfl rfl rfl ⟨by show 8 + 4 + 1 ≤ 2048; decide, by show _ ≤ 84000; decide, by show cells + 1 + 0 ≤ 601024; omega, by show slots + 6 + 0 ≤ 7293034; omega⟩ rfl dL_law_839 (fun v1 H1c locs1c hv1 _ hw1c hS1c _ _ => ?_) (fun E9 ce9 q9 H9 locs9 hv9 _ _ _ _ _ _ _ => by cases hv9)
      cases hv1
      refine lv_istore (lv' := [(6, .int b9), (5, .int 1), (4, .int x4), (3, .ref (G.2.2 (30, 0, 0))), (2, .ref (G.2.2 (6, 0, 0))), (1, .ref (G.2.2 (0, 0, 0))), (0, .ref b)]) B.1 B.2.1 dL_law_842 hl (by decide) rfl (fun ls hl => ?_)
      refine lv_aload_n B.1 B.2.1 dL_law_844 rfl (lv_at hl 4 rfl) ?_
      refine mb_xV (as := []) (n := 0) (d2 := 0) (ci := 6) (N := 16) (rest := []) B hS1c hw1c hl.1 ⟨⟨by decide, by decide⟩, trivial⟩ (Nat.le_of_ble_eq_true rfl) (C_X6_thrown hst B.2.2.2.2.2.2.2.1 (show F_X6_thrown _ = some (.inl (some (.inl (h3.1 6 0 0 4))), h3) from rfl)) (mb_gV wl_L_109 mi_X6_thrown ms_X6_thrown mn_X6 mc_X6_thrown) (by decide +kernel) rfl rfl rfl ⟨by show 8 + 0 + 1 ≤ 2048; decide, by show _ ≤ 84000; decide, by show cells + 1 + 0 ≤ 601024; omega, by show slots + 6 + 0 ≤ 7293034; omega⟩ rfl dL_law_845 (fun v2 H2c locs2c hv2 _ hw2c hS2c _ _ => ?_) (fun E9 ce9 q9 H9 locs9 hv9 _ _ _ _ _ _ _ => by cases hv9)
      cases hv2
      refine lv_iload B.1 B.2.1 dL_law_848 (lv_at hl 1 rfl) ?_
      refine lv_icmp_eq (tgt := 855) B.1 B.2.1 dL_law_850 (by decide) (fun _ => ?_) (fun z9 => absurd eT z9)
      refine lv_iload B.1 B.2.1 dL_law_855 (lv_at hl 1 rfl) ?_
      refine lv_if_ne (tgt := 872) B.1 B.2.1 dL_law_857 (by decide) (fun _ => ?_) (fun z9 => absurd z9 (by decide))
      refine lv_goto (tgt := 1925) B.1 B.2.1 dL_law_872 (by decide) ?_
      exact kk _ _ _ _ _ _ eS hw2c hS2c (lv_sub hl [2, 3, 4, 5, 6] rfl) (by simp only [mb_mc, mb_ms]; omega) (by simp only [mb_mc, mb_ms]; omega)
    | k9 + 1, ej => simp at ej
set_option maxRecDepth 100000 in
set_option maxHeartbeats 4000000 in
theorem lc_10 (hst : l.stackTraces = false) (B : mb_Lx p l s m #[Value.ref b] c G RL code 7 (mb_A9 s)) (hX : va_X b L xs s s.heap) (hbl : b < s.heap.size) (hS : va_S (mb_A9 s) s.heap H locs) (hw : mb_wd G h H) (hl : lv_has ls 7 [(4, .int x4), (3, .ref (G.2.2 (30, 0, 0))), (2, .ref (G.2.2 (6, 0, 0))), (1, .ref (G.2.2 (0, 0, 0))), (0, .ref b)]) (hc : cells + 1 ≤ 601024) (hs : slots + 6 ≤ 7293034) (hi1 : vp_in (x4 + 1) L) (hi2 : vp_in (x4 + 2) L) (hps : mb_PI ["java/lang/IndexOutOfBoundsException", "java/lang/IllegalStateException"] (F_X5_place (xs (x4 + 1).toNatClampNeg) (xs (x4 + 2).toNatClampNeg) h) (F_X6_place (xs (x4 + 1).toNatClampNeg) (xs (x4 + 2).toNatClampNeg)) S)
    (kk : ∀ (h3 : mb_AH) (H3 : Heap) (locs3 : List Loc) (ls3 : Array Slot) (cells3 slots3 : Nat), S h3 → mb_wd G h3 H3 → va_S (mb_A9 s) s.heap H3 locs3 → lv_has ls3 7 [(4, .int x4), (3, .ref (G.2.2 (30, 0, 0))), (2, .ref (G.2.2 (6, 0, 0))), (1, .ref (G.2.2 (0, 0, 0))), (0, .ref b)] → cells3 ≤ cells + 1 → slots3 ≤ slots + 6 → W p l e room_1 s m #[Value.ref b] below meth c H3 locs3 cells3 slots3 Q (F0 m 1925 ls3 [])) : W p l e room_1 s m #[Value.ref b] below meth c H locs cells slots Q (F0 m 875 ls []) := by
  rcases hps with ⟨v, h1, h3, e5, e6, eT, eO, eS⟩ | ⟨j, E, h1, b9, h3, ej, e5, e6, eT, eS⟩
  · refine lv_aload_n B.1 B.2.1 dL_law_875 rfl (lv_at hl 3 rfl) ?_
    refine lv_aload_n B.1 B.2.1 dL_law_876 rfl (lv_at hl 4 rfl) ?_
    refine lv_iload B.1 B.2.1 dL_law_877 (lv_at hl 0 rfl) ?_
    refine lv_iconst (v := 1) B.1 B.2.1 dL_law_879 (by decide) ?_
    refine lv_iadd B.1 B.2.1 dL_law_880 ?_
    refine va_sld B.1 B.2.1 hX hbl (Nat.not_le.mpr hbl) hS hi1 dL_law_881 ?_
    refine lv_aload_n B.1 B.2.1 dL_law_882 rfl (lv_at hl 4 rfl) ?_
    refine lv_iload B.1 B.2.1 dL_law_883 (lv_at hl 0 rfl) ?_
    refine lv_iconst (v := 2) B.1 B.2.1 dL_law_885 (by decide) ?_
    refine lv_iadd B.1 B.2.1 dL_law_886 ?_
    refine va_sld B.1 B.2.1 hX hbl (Nat.not_le.mpr hbl) hS hi2 dL_law_887 ?_
    refine lv_aload_n B.1 B.2.1 dL_law_888 rfl (lv_at hl 1 rfl) ?_
    refine mb_xH (as := [mb_F 0 0 0, .inl (xs (x4 + 1).toNatClampNeg), .inl (xs (x4 + 2).toNatClampNeg), mb_F 30 0 0]) (n := 4) (mc := 0) (ms := 0) (rest := []) B hS hw hl.1 ⟨⟨by decide, by decide⟩, trivial, trivial, ⟨by decide, by decide⟩, trivial⟩ (Nat.zero_le _) (H_place_r hst B.2.2.2.2.2.2.2.1 e5) wl_L_143 mt_L_place mn_L mw_L_place (by decide +kernel) rfl ⟨by show 8 + 5 + 1 ≤ 2048; decide, by show _ ≤ 84000; decide, by show cells + 0 ≤ 601024; omega, by show slots + 0 ≤ 7293034; omega⟩ rfl dL_law_889 (fun H1 locs1 hw1 hS1 _ _ => ?_)
    refine lv_istore (lv' := [(5, .int 0), (4, .int x4), (3, .ref (G.2.2 (30, 0, 0))), (2, .ref (G.2.2 (6, 0, 0))), (1, .ref (G.2.2 (0, 0, 0))), (0, .ref b)]) B.1 B.2.1 dL_law_892 hl (by decide) rfl (fun ls hl => ?_)
    refine lv_aload_n B.1 B.2.1 dL_law_894 rfl (lv_at hl 3 rfl) ?_
    refine lv_aload_n B.1 B.2.1 dL_law_895 rfl (lv_at hl 5 rfl) ?_
    refine lv_iload B.1 B.2.1 dL_law_896 (lv_at hl 1 rfl) ?_
    refine lv_iconst (v := 1) B.1 B.2.1 dL_law_898 (by decide) ?_
    refine lv_iadd B.1 B.2.1 dL_law_899 ?_
    refine va_sld B.1 B.2.1 hX hbl (Nat.not_le.mpr hbl) hS1 hi1 dL_law_900 ?_
    refine lv_aload_n B.1 B.2.1 dL_law_901 rfl (lv_at hl 5 rfl) ?_
    refine lv_iload B.1 B.2.1 dL_law_902 (lv_at hl 1 rfl) ?_
    refine lv_iconst (v := 2) B.1 B.2.1 dL_law_904 (by decide) ?_
    refine lv_iadd B.1 B.2.1 dL_law_905 ?_
    refine va_sld B.1 B.2.1 hX hbl (Nat.not_le.mpr hbl) hS1 hi2 dL_law_906 ?_
    refine mb_xV (as := [.inl (xs (x4 + 1).toNatClampNeg), .inl (xs (x4 + 2).toNatClampNeg)]) (n := 2) (d2 := 3) (ci := 6) (N := 16) (rest := []) B hS1 hw1 hl.1 ⟨⟨by decide, by decide⟩, trivial, trivial, trivial⟩ (Nat.le_of_ble_eq_true rfl) (C_X6_place hst B.2.2.2.2.2.2.2.1 e6) (mb_gV wl_L_145 mi_X6_place ms_X6_place mn_X6 mc_X6_place) (by decide +kernel) rfl rfl rfl ⟨by show 8 + 3 + 1 ≤ 2048; decide, by show _ ≤ 84000; decide, by show cells + 0 + 0 ≤ 601024; omega, by show slots + 0 + 0 ≤ 7293034; omega⟩ rfl dL_law_907 (fun v1 H1c locs1c hv1 _ hw1c hS1c _ _ => ?_) (fun E9 ce9 q9 H9 locs9 hv9 _ _ _ _ _ _ _ => by cases hv9)
    cases hv1
    refine lv_istore (lv' := [(6, .int v), (5, .int 0), (4, .int x4), (3, .ref (G.2.2 (30, 0, 0))), (2, .ref (G.2.2 (6, 0, 0))), (1, .ref (G.2.2 (0, 0, 0))), (0, .ref b)]) B.1 B.2.1 dL_law_910 hl (by decide) rfl (fun ls hl => ?_)
    refine lv_aload_n B.1 B.2.1 dL_law_912 rfl (lv_at hl 4 rfl) ?_
    refine mb_xV (as := []) (n := 0) (d2 := 0) (ci := 6) (N := 16) (rest := []) B hS1c hw1c hl.1 ⟨⟨by decide, by decide⟩, trivial⟩ (Nat.le_of_ble_eq_true rfl) (C_X6_thrown hst B.2.2.2.2.2.2.2.1 (show F_X6_thrown _ = some (.inl (some (.inl (h3.1 6 0 0 4))), h3) from rfl)) (mb_gV wl_L_109 mi_X6_thrown ms_X6_thrown mn_X6 mc_X6_thrown) (by decide +kernel) rfl rfl rfl ⟨by show 8 + 0 + 1 ≤ 2048; decide, by show _ ≤ 84000; decide, by show cells + 0 + 0 ≤ 601024; omega, by show slots + 0 + 0 ≤ 7293034; omega⟩ rfl dL_law_913 (fun v2 H2c locs2c hv2 _ hw2c hS2c _ _ => ?_) (fun E9 ce9 q9 H9 locs9 hv9 _ _ _ _ _ _ _ => by cases hv9)
    cases hv2
    refine lv_iload B.1 B.2.1 dL_law_916 (lv_at hl 1 rfl) ?_
    refine lv_icmp_eq (tgt := 923) B.1 B.2.1 dL_law_918 (by decide) (fun _ => ?_) (fun z9 => absurd eT z9)
    refine lv_iload B.1 B.2.1 dL_law_923 (lv_at hl 1 rfl) ?_
    refine lv_if_ne (tgt := 940) B.1 B.2.1 dL_law_925 (by decide) (fun z9 => absurd rfl z9) (fun _ => ?_)
    refine lv_aload_n B.1 B.2.1 dL_law_928 rfl (lv_at hl 3 rfl) ?_
    refine lv_iconst (v := 0) B.1 B.2.1 dL_law_929 (by decide) ?_
    refine mb_outld B hw2c dL_law_930 ?_
    refine lv_iload B.1 B.2.1 dL_law_931 (lv_at hl 0 rfl) ?_
    refine lv_i2l B.1 B.2.1 dL_law_933 rfl ?_
    refine W.lcmp B.1 B.2.1 dL_law_934 ?_
    refine lv_if_eq (tgt := 940) B.1 B.2.1 dL_law_935 (by decide) (fun _ => ?_) (fun z9 => absurd (by rw [eO]; exact mb_lc0 _) z9)
    refine lv_goto (tgt := 1925) B.1 B.2.1 dL_law_940 (by decide) ?_
    exact kk _ _ _ _ _ _ eS hw2c hS2c (lv_sub hl [2, 3, 4, 5, 6] rfl) (by simp only [mb_mc, mb_ms]; omega) (by simp only [mb_mc, mb_ms]; omega)
  · match j, ej with
    | 0, ej =>
      cases ej
      refine lv_aload_n B.1 B.2.1 dL_law_875 rfl (lv_at hl 3 rfl) ?_
      refine lv_aload_n B.1 B.2.1 dL_law_876 rfl (lv_at hl 4 rfl) ?_
      refine lv_iload B.1 B.2.1 dL_law_877 (lv_at hl 0 rfl) ?_
      refine lv_iconst (v := 1) B.1 B.2.1 dL_law_879 (by decide) ?_
      refine lv_iadd B.1 B.2.1 dL_law_880 ?_
      refine va_sld B.1 B.2.1 hX hbl (Nat.not_le.mpr hbl) hS hi1 dL_law_881 ?_
      refine lv_aload_n B.1 B.2.1 dL_law_882 rfl (lv_at hl 4 rfl) ?_
      refine lv_iload B.1 B.2.1 dL_law_883 (lv_at hl 0 rfl) ?_
      refine lv_iconst (v := 2) B.1 B.2.1 dL_law_885 (by decide) ?_
      refine lv_iadd B.1 B.2.1 dL_law_886 ?_
      refine va_sld B.1 B.2.1 hX hbl (Nat.not_le.mpr hbl) hS hi2 dL_law_887 ?_
      refine lv_aload_n B.1 B.2.1 dL_law_888 rfl (lv_at hl 1 rfl) ?_
      refine mb_xH (as := [mb_F 0 0 0, .inl (xs (x4 + 1).toNatClampNeg), .inl (xs (x4 + 2).toNatClampNeg), mb_F 30 0 0]) (n := 4) (mc := 1) (ms := 6) (rest := []) B hS hw hl.1 ⟨⟨by decide, by decide⟩, trivial, trivial, ⟨by decide, by decide⟩, trivial⟩ (Nat.zero_le _) (H_place_t1 hst B.2.2.2.2.2.2.2.1 e5) wl_L_143 mt_L_place mn_L mw_L_place (by decide +kernel) rfl ⟨by show 8 + 5 + 1 ≤ 2048; decide, by show _ ≤ 84000; decide, by show cells + 1 ≤ 601024; omega, by show slots + 6 ≤ 7293034; omega⟩ rfl dL_law_889 (fun H1 locs1 hw1 hS1 _ _ => ?_)
      refine lv_istore (lv' := [(5, .int 1), (4, .int x4), (3, .ref (G.2.2 (30, 0, 0))), (2, .ref (G.2.2 (6, 0, 0))), (1, .ref (G.2.2 (0, 0, 0))), (0, .ref b)]) B.1 B.2.1 dL_law_892 hl (by decide) rfl (fun ls hl => ?_)
      refine lv_aload_n B.1 B.2.1 dL_law_894 rfl (lv_at hl 3 rfl) ?_
      refine lv_aload_n B.1 B.2.1 dL_law_895 rfl (lv_at hl 5 rfl) ?_
      refine lv_iload B.1 B.2.1 dL_law_896 (lv_at hl 1 rfl) ?_
      refine lv_iconst (v := 1) B.1 B.2.1 dL_law_898 (by decide) ?_
      refine lv_iadd B.1 B.2.1 dL_law_899 ?_
      refine va_sld B.1 B.2.1 hX hbl (Nat.not_le.mpr hbl) hS1 hi1 dL_law_900 ?_
      refine lv_aload_n B.1 B.2.1 dL_law_901 rfl (lv_at hl 5 rfl) ?_
      refine lv_iload B.1 B.2.1 dL_law_902 (lv_at hl 1 rfl) ?_
      refine lv_iconst (v := 2) B.1 B.2.1 dL_law_904 (by decide) ?_
      refine lv_iadd B.1 B.2.1 dL_law_905 ?_
      refine va_sld B.1 B.2.1 hX hbl (Nat.not_le.mpr hbl) hS1 hi2 dL_law_906 ?_
      refine mb_xV (as := [.inl (xs (x4 + 1).toNatClampNeg), .inl (xs (x4 + 2).toNatClampNeg)]) (n := 2) (d2 := 3) (ci := 6) (N := 16) (rest := []) B hS1 hw1 hl.1 ⟨⟨by decide, by decide⟩, trivial, trivial, trivial⟩ (Nat.le_of_ble_eq_true rfl) (C_X6_place hst B.2.2.2.2.2.2.2.1 e6) (mb_gV wl_L_145 mi_X6_place ms_X6_place mn_X6 mc_X6_place) (by decide +kernel) rfl rfl rfl ⟨by show 8 + 3 + 1 ≤ 2048; decide, by show _ ≤ 84000; decide, by show cells + 1 + 0 ≤ 601024; omega, by show slots + 6 + 0 ≤ 7293034; omega⟩ rfl dL_law_907 (fun v1 H1c locs1c hv1 _ hw1c hS1c _ _ => ?_) (fun E9 ce9 q9 H9 locs9 hv9 _ _ _ _ _ _ _ => by cases hv9)
      cases hv1
      refine lv_istore (lv' := [(6, .int b9), (5, .int 1), (4, .int x4), (3, .ref (G.2.2 (30, 0, 0))), (2, .ref (G.2.2 (6, 0, 0))), (1, .ref (G.2.2 (0, 0, 0))), (0, .ref b)]) B.1 B.2.1 dL_law_910 hl (by decide) rfl (fun ls hl => ?_)
      refine lv_aload_n B.1 B.2.1 dL_law_912 rfl (lv_at hl 4 rfl) ?_
      refine mb_xV (as := []) (n := 0) (d2 := 0) (ci := 6) (N := 16) (rest := []) B hS1c hw1c hl.1 ⟨⟨by decide, by decide⟩, trivial⟩ (Nat.le_of_ble_eq_true rfl) (C_X6_thrown hst B.2.2.2.2.2.2.2.1 (show F_X6_thrown _ = some (.inl (some (.inl (h3.1 6 0 0 4))), h3) from rfl)) (mb_gV wl_L_109 mi_X6_thrown ms_X6_thrown mn_X6 mc_X6_thrown) (by decide +kernel) rfl rfl rfl ⟨by show 8 + 0 + 1 ≤ 2048; decide, by show _ ≤ 84000; decide, by show cells + 1 + 0 ≤ 601024; omega, by show slots + 6 + 0 ≤ 7293034; omega⟩ rfl dL_law_913 (fun v2 H2c locs2c hv2 _ hw2c hS2c _ _ => ?_) (fun E9 ce9 q9 H9 locs9 hv9 _ _ _ _ _ _ _ => by cases hv9)
      cases hv2
      refine lv_iload B.1 B.2.1 dL_law_916 (lv_at hl 1 rfl) ?_
      refine lv_icmp_eq (tgt := 923) B.1 B.2.1 dL_law_918 (by decide) (fun _ => ?_) (fun z9 => absurd eT z9)
      refine lv_iload B.1 B.2.1 dL_law_923 (lv_at hl 1 rfl) ?_
      refine lv_if_ne (tgt := 940) B.1 B.2.1 dL_law_925 (by decide) (fun _ => ?_) (fun z9 => absurd z9 (by decide))
      refine lv_goto (tgt := 1925) B.1 B.2.1 dL_law_940 (by decide) ?_
      exact kk _ _ _ _ _ _ eS hw2c hS2c (lv_sub hl [2, 3, 4, 5, 6] rfl) (by simp only [mb_mc, mb_ms]; omega) (by simp only [mb_mc, mb_ms]; omega)
    | 1, ej =>
      cases ej
      refine lv_aload_n B.1 B.2.1 dL_law_875 rfl (lv_at hl 3 rfl) ?_
      refine lv_aload_n B.1 B.2.1 dL_law_876 rfl (lv_at hl 4 rfl) ?_
      refine lv_iload B.1 B.2.1 dL_law_877 (lv_at hl 0 rfl) ?_
      refine lv_iconst (v := 1) B.1 B.2.1 dL_law_879 (by decide) ?_
      refine lv_iadd B.1 B.2.1 dL_law_880 ?_
      refine va_sld B.1 B.2.1 hX hbl (Nat.not_le.mpr hbl) hS hi1 dL_law_881 ?_
      refine lv_aload_n B.1 B.2.1 dL_law_882 rfl (lv_at hl 4 rfl) ?_
      refine lv_iload B.1 B.2.1 dL_law_883 (lv_at hl 0 rfl) ?_
      refine lv_iconst (v := 2) B.1 B.2.1 dL_law_885 (by decide) ?_
      refine lv_iadd B.1 B.2.1 dL_law_886 ?_
      refine va_sld B.1 B.2.1 hX hbl (Nat.not_le.mpr hbl) hS hi2 dL_law_887 ?_
      refine lv_aload_n B.1 B.2.1 dL_law_888 rfl (lv_at hl 1 rfl) ?_
      refine mb_xH (as := [mb_F 0 0 0, .inl (xs (x4 + 1).toNatClampNeg), .inl (xs (x4 + 2).toNatClampNeg), mb_F 30 0 0]) (n := 4) (mc := 1) (ms := 6) (rest := []) B hS hw hl.1 ⟨⟨by decide, by decide⟩, trivial, trivial, ⟨by decide, by decide⟩, trivial⟩ (Nat.zero_le _) (H_place_t2 hst B.2.2.2.2.2.2.2.1 e5) wl_L_143 mt_L_place mn_L mw_L_place (by decide +kernel) rfl ⟨by show 8 + 5 + 1 ≤ 2048; decide, by show _ ≤ 84000; decide, by show cells + 1 ≤ 601024; omega, by show slots + 6 ≤ 7293034; omega⟩ rfl dL_law_889 (fun H1 locs1 hw1 hS1 _ _ => ?_)
      refine lv_istore (lv' := [(5, .int 2), (4, .int x4), (3, .ref (G.2.2 (30, 0, 0))), (2, .ref (G.2.2 (6, 0, 0))), (1, .ref (G.2.2 (0, 0, 0))), (0, .ref b)]) B.1 B.2.1 dL_law_892 hl (by decide) rfl (fun ls hl => ?_)
      refine lv_aload_n B.1 B.2.1 dL_law_894 rfl (lv_at hl 3 rfl) ?_
      refine lv_aload_n B.1 B.2.1 dL_law_895 rfl (lv_at hl 5 rfl) ?_
      refine lv_iload B.1 B.2.1 dL_law_896 (lv_at hl 1 rfl) ?_
      refine lv_iconst (v := 1) B.1 B.2.1 dL_law_898 (by decide) ?_
      refine lv_iadd B.1 B.2.1 dL_law_899 ?_
      refine va_sld B.1 B.2.1 hX hbl (Nat.not_le.mpr hbl) hS1 hi1 dL_law_900 ?_
      refine lv_aload_n B.1 B.2.1 dL_law_901 rfl (lv_at hl 5 rfl) ?_
      refine lv_iload B.1 B.2.1 dL_law_902 (lv_at hl 1 rfl) ?_
      refine lv_iconst (v := 2) B.1 B.2.1 dL_law_904 (by decide) ?_
      refine lv_iadd B.1 B.2.1 dL_law_905 ?_
      refine va_sld B.1 B.2.1 hX hbl (Nat.not_le.mpr hbl) hS1 hi2 dL_law_906 ?_
      refine mb_xV (as := [.inl (xs (x4 + 1).toNatClampNeg), .inl (xs (x4 + 2).toNatClampNeg)]) (n := 2) (d2 := 3) (ci := 6) (N := 16) (rest := []) B hS1 hw1 hl.1 ⟨⟨by decide, by decide⟩, trivial, trivial, trivial⟩ (Nat.le_of_ble_eq_true rfl) (C_X6_place hst B.2.2.2.2.2.2.2.1 e6) (mb_gV wl_L_145 mi_X6_place ms_X6_place mn_X6 mc_X6_place) (by decide +kernel) rfl rfl rfl ⟨by show 8 + 3 + 1 ≤ 2048; decide, by show _ ≤ 84000; decide, by show cells + 1 + 0 ≤ 601024; omega, by show slots + 6 + 0 ≤ 7293034; omega⟩ rfl dL_law_907 (fun v1 H1c locs1c hv1 _ hw1c hS1c _ _ => ?_) (fun E9 ce9 q9 H9 locs9 hv9 _ _ _ _ _ _ _ => by cases hv9)
      cases hv1
      refine lv_istore (lv' := [(6, .int b9), (5, .int 2), (4, .int x4), (3, .ref (G.2.2 (30, 0, 0))), (2, .ref (G.2.2 (6, 0, 0))), (1, .ref (G.2.2 (0, 0, 0))), (0, .ref b)]) B.1 B.2.1 dL_law_910 hl (by decide) rfl (fun ls hl => ?_)
      refine lv_aload_n B.1 B.2.1 dL_law_912 rfl (lv_at hl 4 rfl) ?_
      refine mb_xV (as := []) (n := 0) (d2 := 0) (ci := 6) (N := 16) (rest := []) B hS1c hw1c hl.1 ⟨⟨by decide, by decide⟩, trivial⟩ (Nat.le_of_ble_eq_true rfl) (C_X6_thrown hst B.2.2.2.2.2.2.2.1 (show F_X6_thrown _ = some (.inl (some (.inl (h3.1 6 0 0 4))), h3) from rfl)) (mb_gV wl_L_109 mi_X6_thrown ms_X6_thrown mn_X6 mc_X6_thrown) (by decide +kernel) rfl rfl rfl ⟨by show 8 + 0 + 1 ≤ 2048; decide, by show _ ≤ 84000; decide, by show cells + 1 + 0 ≤ 601024; omega, by show slots + 6 + 0 ≤ 7293034; omega⟩ rfl dL_law_913 (fun v2 H2c locs2c hv2 _ hw2c hS2c _ _ => ?_) (fun E9 ce9 q9 H9 locs9 hv9 _ _ _ _ _ _ _ => by cases hv9)
      cases hv2
      refine lv_iload B.1 B.2.1 dL_law_916 (lv_at hl 1 rfl) ?_
      refine lv_icmp_eq (tgt := 923) B.1 B.2.1 dL_law_918 (by decide) (fun _ => ?_) (fun z9 => absurd eT z9)
      refine lv_iload B.1 B.2.1 dL_law_923 (lv_at hl 1 rfl) ?_
      refine lv_if_ne (tgt := 940) B.1 B.2.1 dL_law_925 (by decide) (fun _ => ?_) (fun z9 => absurd z9 (by decide))
      refine lv_goto (tgt := 1925) B.1 B.2.1 dL_law_940 (by decide) ?_
      exact kk _ _ _ _ _ _ eS hw2c hS2c (lv_sub hl [2, 3, 4, 5, 6] rfl) (by simp only [mb_mc, mb_ms]; omega) (by simp only [mb_mc, mb_ms]; omega)
    | k9 + 2, ej => simp at ej
set_option maxRecDepth 100000 in
set_option maxHeartbeats 4000000 in
theorem lc_11 (hst : l.stackTraces = false) (B : mb_Lx p l s m #[Value.ref b] c G RL code 7 (mb_A9 s)) (hX : va_X b L xs s s.heap) (hbl : b < s.heap.size) (hS : va_S (mb_A9 s) s.heap H locs) (hw : mb_wd G h H) (hl : lv_has ls 7 [(4, .int x4), (3, .ref (G.2.2 (30, 0, 0))), (2, .ref (G.2.2 (6, 0, 0))), (1, .ref (G.2.2 (0, 0, 0))), (0, .ref b)]) (hc : cells + 1 ≤ 601024) (hs : slots + 6 ≤ 7293034) (hi1 : vp_in (x4 + 1) L) (hps : mb_PI ["java/lang/IndexOutOfBoundsException", "java/lang/IllegalStateException"] (F_X5_leave (xs (x4 + 1).toNatClampNeg) h) (F_X6_leave (xs (x4 + 1).toNatClampNeg)) S)
    (kk : ∀ (h3 : mb_AH) (H3 : Heap) (locs3 : List Loc) (ls3 : Array Slot) (cells3 slots3 : Nat), S h3 → mb_wd G h3 H3 → va_S (mb_A9 s) s.heap H3 locs3 → lv_has ls3 7 [(4, .int x4), (3, .ref (G.2.2 (30, 0, 0))), (2, .ref (G.2.2 (6, 0, 0))), (1, .ref (G.2.2 (0, 0, 0))), (0, .ref b)] → cells3 ≤ cells + 1 → slots3 ≤ slots + 6 → W p l e room_1 s m #[Value.ref b] below meth c H3 locs3 cells3 slots3 Q (F0 m 1925 ls3 [])) : W p l e room_1 s m #[Value.ref b] below meth c H locs cells slots Q (F0 m 943 ls []) := by
  rcases hps with ⟨v, h1, h3, e5, e6, eT, eO, eS⟩ | ⟨j, E, h1, b9, h3, ej, e5, e6, eT, eS⟩
  · refine lv_aload_n B.1 B.2.1 dL_law_943 rfl (lv_at hl 3 rfl) ?_
    refine lv_aload_n B.1 B.2.1 dL_law_944 rfl (lv_at hl 4 rfl) ?_
    refine lv_iload B.1 B.2.1 dL_law_945 (lv_at hl 0 rfl) ?_
    refine lv_iconst (v := 1) B.1 B.2.1 dL_law_947 (by decide) ?_
    refine lv_iadd B.1 B.2.1 dL_law_948 ?_
    refine va_sld B.1 B.2.1 hX hbl (Nat.not_le.mpr hbl) hS hi1 dL_law_949 ?_
    refine lv_aload_n B.1 B.2.1 dL_law_950 rfl (lv_at hl 1 rfl) ?_
    refine mb_xH (as := [mb_F 0 0 0, .inl (xs (x4 + 1).toNatClampNeg), mb_F 30 0 0]) (n := 3) (mc := 0) (ms := 0) (rest := []) B hS hw hl.1 ⟨⟨by decide, by decide⟩, trivial, ⟨by decide, by decide⟩, trivial⟩ (Nat.zero_le _) (H_leave_r hst B.2.2.2.2.2.2.2.1 e5) wl_L_146 mt_L_leave mn_L mw_L_leave (by decide +kernel) rfl ⟨by show 8 + 5 + 1 ≤ 2048; decide, by show _ ≤ 84000; decide, by show cells + 0 ≤ 601024; omega, by show slots + 0 ≤ 7293034; omega⟩ rfl dL_law_951 (fun H1 locs1 hw1 hS1 _ _ => ?_)
    refine lv_istore (lv' := [(5, .int 0), (4, .int x4), (3, .ref (G.2.2 (30, 0, 0))), (2, .ref (G.2.2 (6, 0, 0))), (1, .ref (G.2.2 (0, 0, 0))), (0, .ref b)]) B.1 B.2.1 dL_law_954 hl (by decide) rfl (fun ls hl => ?_)
    refine lv_aload_n B.1 B.2.1 dL_law_956 rfl (lv_at hl 3 rfl) ?_
    refine lv_aload_n B.1 B.2.1 dL_law_957 rfl (lv_at hl 5 rfl) ?_
    refine lv_iload B.1 B.2.1 dL_law_958 (lv_at hl 1 rfl) ?_
    refine lv_iconst (v := 1) B.1 B.2.1 dL_law_960 (by decide) ?_
    refine lv_iadd B.1 B.2.1 dL_law_961 ?_
    refine va_sld B.1 B.2.1 hX hbl (Nat.not_le.mpr hbl) hS1 hi1 dL_law_962 ?_
    refine mb_xV (as := [.inl (xs (x4 + 1).toNatClampNeg)]) (n := 1) (d2 := 2) (ci := 6) (N := 16) (rest := []) B hS1 hw1 hl.1 ⟨⟨by decide, by decide⟩, trivial, trivial⟩ (Nat.le_of_ble_eq_true rfl) (C_X6_leave hst B.2.2.2.2.2.2.2.1 e6) (mb_gV wl_L_148 mi_X6_leave ms_X6_leave mn_X6 mc_X6_leave) (by decide +kernel) rfl rfl rfl ⟨by show 8 + 2 + 1 ≤ 2048; decide, by show _ ≤ 84000; decide, by show cells + 0 + 0 ≤ 601024; omega, by show slots + 0 + 0 ≤ 7293034; omega⟩ rfl dL_law_963 (fun v1 H1c locs1c hv1 _ hw1c hS1c _ _ => ?_) (fun E9 ce9 q9 H9 locs9 hv9 _ _ _ _ _ _ _ => by cases hv9)
    cases hv1
    refine lv_istore (lv' := [(6, .int v), (5, .int 0), (4, .int x4), (3, .ref (G.2.2 (30, 0, 0))), (2, .ref (G.2.2 (6, 0, 0))), (1, .ref (G.2.2 (0, 0, 0))), (0, .ref b)]) B.1 B.2.1 dL_law_966 hl (by decide) rfl (fun ls hl => ?_)
    refine lv_aload_n B.1 B.2.1 dL_law_968 rfl (lv_at hl 4 rfl) ?_
    refine mb_xV (as := []) (n := 0) (d2 := 0) (ci := 6) (N := 16) (rest := []) B hS1c hw1c hl.1 ⟨⟨by decide, by decide⟩, trivial⟩ (Nat.le_of_ble_eq_true rfl) (C_X6_thrown hst B.2.2.2.2.2.2.2.1 (show F_X6_thrown _ = some (.inl (some (.inl (h3.1 6 0 0 4))), h3) from rfl)) (mb_gV wl_L_109 mi_X6_thrown ms_X6_thrown mn_X6 mc_X6_thrown) (by decide +kernel) rfl rfl rfl ⟨by show 8 + 0 + 1 ≤ 2048; decide, by show _ ≤ 84000; decide, by show cells + 0 + 0 ≤ 601024; omega, by show slots + 0 + 0 ≤ 7293034; omega⟩ rfl dL_law_969 (fun v2 H2c locs2c hv2 _ hw2c hS2c _ _ => ?_) (fun E9 ce9 q9 H9 locs9 hv9 _ _ _ _ _ _ _ => by cases hv9)
    cases hv2
    refine lv_iload B.1 B.2.1 dL_law_972 (lv_at hl 1 rfl) ?_
    refine lv_icmp_eq (tgt := 979) B.1 B.2.1 dL_law_974 (by decide) (fun _ => ?_) (fun z9 => absurd eT z9)
    refine lv_iload B.1 B.2.1 dL_law_979 (lv_at hl 1 rfl) ?_
    refine lv_if_ne (tgt := 996) B.1 B.2.1 dL_law_981 (by decide) (fun z9 => absurd rfl z9) (fun _ => ?_)
    refine lv_aload_n B.1 B.2.1 dL_law_984 rfl (lv_at hl 3 rfl) ?_
    refine lv_iconst (v := 0) B.1 B.2.1 dL_law_985 (by decide) ?_
    refine mb_outld B hw2c dL_law_986 ?_
    refine lv_iload B.1 B.2.1 dL_law_987 (lv_at hl 0 rfl) ?_
    refine lv_i2l B.1 B.2.1 dL_law_989 rfl ?_
    refine W.lcmp B.1 B.2.1 dL_law_990 ?_
    refine lv_if_eq (tgt := 996) B.1 B.2.1 dL_law_991 (by decide) (fun _ => ?_) (fun z9 => absurd (by rw [eO]; exact mb_lc0 _) z9)
    refine lv_goto (tgt := 1925) B.1 B.2.1 dL_law_996 (by decide) ?_
    exact kk _ _ _ _ _ _ eS hw2c hS2c (lv_sub hl [2, 3, 4, 5, 6] rfl) (by simp only [mb_mc, mb_ms]; omega) (by simp only [mb_mc, mb_ms]; omega)
  · match j, ej with
    | 0, ej =>
      cases ej
      refine lv_aload_n B.1 B.2.1 dL_law_943 rfl (lv_at hl 3 rfl) ?_
      refine lv_aload_n B.1 B.2.1 dL_law_944 rfl (lv_at hl 4 rfl) ?_
      refine lv_iload B.1 B.2.1 dL_law_945 (lv_at hl 0 rfl) ?_
      refine lv_iconst (v := 1) B.1 B.2.1 dL_law_947 (by decide) ?_
      refine lv_iadd B.1 B.2.1 dL_law_948 ?_
      refine va_sld B.1 B.2.1 hX hbl (Nat.not_le.mpr hbl) hS hi1 dL_law_949 ?_
      refine lv_aload_n B.1 B.2.1 dL_law_950 rfl (lv_at hl 1 rfl) ?_
      refine mb_xH (as := [mb_F 0 0 0, .inl (xs (x4 + 1).toNatClampNeg), mb_F 30 0 0]) (n := 3) (mc := 1) (ms := 6) (rest := []) B hS hw hl.1 ⟨⟨by decide, by decide⟩, trivial, ⟨by decide, by decide⟩, trivial⟩ (Nat.zero_le _) (H_leave_t1 hst B.2.2.2.2.2.2.2.1 e5) wl_L_146 mt_L_leave mn_L mw_L_leave (by decide +kernel) rfl ⟨by show 8 + 5 + 1 ≤ 2048; decide, by show _ ≤ 84000; decide, by show cells + 1 ≤ 601024; omega, by show slots + 6 ≤ 7293034; omega⟩ rfl dL_law_951 (fun H1 locs1 hw1 hS1 _ _ => ?_)
      refine lv_istore (lv' := [(5, .int 1), (4, .int x4), (3, .ref (G.2.2 (30, 0, 0))), (2, .ref (G.2.2 (6, 0, 0))), (1, .ref (G.2.2 (0, 0, 0))), (0, .ref b)]) B.1 B.2.1 dL_law_954 hl (by decide) rfl (fun ls hl => ?_)
      refine lv_aload_n B.1 B.2.1 dL_law_956 rfl (lv_at hl 3 rfl) ?_
      refine lv_aload_n B.1 B.2.1 dL_law_957 rfl (lv_at hl 5 rfl) ?_
      refine lv_iload B.1 B.2.1 dL_law_958 (lv_at hl 1 rfl) ?_
      refine lv_iconst (v := 1) B.1 B.2.1 dL_law_960 (by decide) ?_
      refine lv_iadd B.1 B.2.1 dL_law_961 ?_
      refine va_sld B.1 B.2.1 hX hbl (Nat.not_le.mpr hbl) hS1 hi1 dL_law_962 ?_
      refine mb_xV (as := [.inl (xs (x4 + 1).toNatClampNeg)]) (n := 1) (d2 := 2) (ci := 6) (N := 16) (rest := []) B hS1 hw1 hl.1 ⟨⟨by decide, by decide⟩, trivial, trivial⟩ (Nat.le_of_ble_eq_true rfl) (C_X6_leave hst B.2.2.2.2.2.2.2.1 e6) (mb_gV wl_L_148 mi_X6_leave ms_X6_leave mn_X6 mc_X6_leave) (by decide +kernel) rfl rfl rfl ⟨by show 8 + 2 + 1 ≤ 2048; decide, by show _ ≤ 84000; decide, by show cells + 1 + 0 ≤ 601024; omega, by show slots + 6 + 0 ≤ 7293034; omega⟩ rfl dL_law_963 (fun v1 H1c locs1c hv1 _ hw1c hS1c _ _ => ?_) (fun E9 ce9 q9 H9 locs9 hv9 _ _ _ _ _ _ _ => by cases hv9)
      cases hv1
      refine lv_istore (lv' := [(6, .int b9), (5, .int 1), (4, .int x4), (3, .ref (G.2.2 (30, 0, 0))), (2, .ref (G.2.2 (6, 0, 0))), (1, .ref (G.2.2 (0, 0, 0))), (0, .ref b)]) B.1 B.2.1 dL_law_966 hl (by decide) rfl (fun ls hl => ?_)
      refine lv_aload_n B.1 B.2.1 dL_law_968 rfl (lv_at hl 4 rfl) ?_
      refine mb_xV (as := []) (n := 0) (d2 := 0) (ci := 6) (N := 16) (rest := []) B hS1c hw1c hl.1 ⟨⟨by decide, by decide⟩, trivial⟩ (Nat.le_of_ble_eq_true rfl) (C_X6_thrown hst B.2.2.2.2.2.2.2.1 (show F_X6_thrown _ = some (.inl (some (.inl (h3.1 6 0 0 4))), h3) from rfl)) (mb_gV wl_L_109 mi_X6_thrown ms_X6_thrown mn_X6 mc_X6_thrown) (by decide +kernel) rfl rfl rfl ⟨by show 8 + 0 + 1 ≤ 2048; decide, by show _ ≤ 84000; decide, by show cells + 1 + 0 ≤ 601024; omega, by show slots + 6 + 0 ≤ 7293034; omega⟩ rfl dL_law_969 (fun v2 H2c locs2c hv2 _ hw2c hS2c _ _ => ?_) (fun E9 ce9 q9 H9 locs9 hv9 _ _ _ _ _ _ _ => by cases hv9)
      cases hv2
      refine lv_iload B.1 B.2.1 dL_law_972 (lv_at hl 1 rfl) ?_
      refine lv_icmp_eq (tgt := 979) B.1 B.2.1 dL_law_974 (by decide) (fun _ => ?_) (fun z9 => absurd eT z9)
      refine lv_iload B.1 B.2.1 dL_law_979 (lv_at hl 1 rfl) ?_
      refine lv_if_ne (tgt := 996) B.1 B.2.1 dL_law_981 (by decide) (fun _ => ?_) (fun z9 => absurd z9 (by decide))
      refine lv_goto (tgt := 1925) B.1 B.2.1 dL_law_996 (by decide) ?_
      exact kk _ _ _ _ _ _ eS hw2c hS2c (lv_sub hl [2, 3, 4, 5, 6] rfl) (by simp only [mb_mc, mb_ms]; omega) (by simp only [mb_mc, mb_ms]; omega)
    | 1, ej =>
      cases ej
      refine lv_aload_n B.1 B.2.1 dL_law_943 rfl (lv_at hl 3 rfl) ?_
      refine lv_aload_n B.1 B.2.1 dL_law_944 rfl (lv_at hl 4 rfl) ?_
      refine lv_iload B.1 B.2.1 dL_law_945 (lv_at hl 0 rfl) ?_
      refine lv_iconst (v := 1) B.1 B.2.1 dL_law_947 (by decide) ?_
      refine lv_iadd B.1 B.2.1 dL_law_948 ?_
      refine va_sld B.1 B.2.1 hX hbl (Nat.not_le.mpr hbl) hS hi1 dL_law_949 ?_
      refine lv_aload_n B.1 B.2.1 dL_law_950 rfl (lv_at hl 1 rfl) ?_
      refine mb_xH (as := [mb_F 0 0 0, .inl (xs (x4 + 1).toNatClampNeg), mb_F 30 0 0]) (n := 3) (mc := 1) (ms := 6) (rest := []) B hS hw hl.1 ⟨⟨by decide, by decide⟩, trivial, ⟨by decide, by decide⟩, trivial⟩ (Nat.zero_le _) (H_leave_t2 hst B.2.2.2.2.2.2.2.1 e5) wl_L_146 mt_L_leave mn_L mw_L_leave (by decide +kernel) rfl ⟨by show 8 + 5 + 1 ≤ 2048; decide, by show _ ≤ 84000; decide, by show cells + 1 ≤ 601024; omega, by show slots + 6 ≤ 7293034; omega⟩ rfl dL_law_951 (fun H1 locs1 hw1 hS1 _ _ => ?_)
      refine lv_istore (lv' := [(5, .int 2), (4, .int x4), (3, .ref (G.2.2 (30, 0, 0))), (2, .ref (G.2.2 (6, 0, 0))), (1, .ref (G.2.2 (0, 0, 0))), (0, .ref b)]) B.1 B.2.1 dL_law_954 hl (by decide) rfl (fun ls hl => ?_)
      refine lv_aload_n B.1 B.2.1 dL_law_956 rfl (lv_at hl 3 rfl) ?_
      refine lv_aload_n B.1 B.2.1 dL_law_957 rfl (lv_at hl 5 rfl) ?_
      refine lv_iload B.1 B.2.1 dL_law_958 (lv_at hl 1 rfl) ?_
      refine lv_iconst (v := 1) B.1 B.2.1 dL_law_960 (by decide) ?_
      refine lv_iadd B.1 B.2.1 dL_law_961 ?_
      refine va_sld B.1 B.2.1 hX hbl (Nat.not_le.mpr hbl) hS1 hi1 dL_law_962 ?_
      refine mb_xV (as := [.inl (xs (x4 + 1).toNatClampNeg)]) (n := 1) (d2 := 2) (ci := 6) (N := 16) (rest := []) B hS1 hw1 hl.1 ⟨⟨by decide, by decide⟩, trivial, trivial⟩ (Nat.le_of_ble_eq_true rfl) (C_X6_leave hst B.2.2.2.2.2.2.2.1 e6) (mb_gV wl_L_148 mi_X6_leave ms_X6_leave mn_X6 mc_X6_leave) (by decide +kernel) rfl rfl rfl ⟨by show 8 + 2 + 1 ≤ 2048; decide, by show _ ≤ 84000; decide, by show cells + 1 + 0 ≤ 601024; omega, by show slots + 6 + 0 ≤ 7293034; omega⟩ rfl dL_law_963 (fun v1 H1c locs1c hv1 _ hw1c hS1c _ _ => ?_) (fun E9 ce9 q9 H9 locs9 hv9 _ _ _ _ _ _ _ => by cases hv9)
      cases hv1
      refine lv_istore (lv' := [(6, .int b9), (5, .int 2), (4, .int x4), (3, .ref (G.2.2 (30, 0, 0))), (2, .ref (G.2.2 (6, 0, 0))), (1, .ref (G.2.2 (0, 0, 0))), (0, .ref b)]) B.1 B.2.1 dL_law_966 hl (by decide) rfl (fun ls hl => ?_)
      refine lv_aload_n B.1 B.2.1 dL_law_968 rfl (lv_at hl 4 rfl) ?_
      refine mb_xV (as := []) (n := 0) (d2 := 0) (ci := 6) (N := 16) (rest := []) B hS1c hw1c hl.1 ⟨⟨by decide, by decide⟩, trivial⟩ (Nat.le_of_ble_eq_true rfl) (C_X6_thrown hst B.2.2.2.2.2.2.2.1 (show F_X6_thrown _ = some (.inl (some (.inl (h3.1 6 0 0 4))), h3) from rfl)) (mb_gV wl_L_109 mi_X6_thrown ms_X6_thrown mn_X6 mc_X6_thrown) (by decide +kernel) rfl rfl rfl ⟨by show 8 + 0 + 1 ≤ 2048; decide, by show _ ≤ 84000; decide, by show cells + 1 + 0 ≤ 601024; omega, by show slots + 6 + 0 ≤ 7293034; omega⟩ rfl dL_law_969 (fun v2 H2c locs2c hv2 _ hw2c hS2c _ _ => ?_) (fun E9 ce9 q9 H9 locs9 hv9 _ _ _ _ _ _ _ => by cases hv9)
      cases hv2
      refine lv_iload B.1 B.2.1 dL_law_972 (lv_at hl 1 rfl) ?_
      refine lv_icmp_eq (tgt := 979) B.1 B.2.1 dL_law_974 (by decide) (fun _ => ?_) (fun z9 => absurd eT z9)
      refine lv_iload B.1 B.2.1 dL_law_979 (lv_at hl 1 rfl) ?_
      refine lv_if_ne (tgt := 996) B.1 B.2.1 dL_law_981 (by decide) (fun _ => ?_) (fun z9 => absurd z9 (by decide))
      refine lv_goto (tgt := 1925) B.1 B.2.1 dL_law_996 (by decide) ?_
      exact kk _ _ _ _ _ _ eS hw2c hS2c (lv_sub hl [2, 3, 4, 5, 6] rfl) (by simp only [mb_mc, mb_ms]; omega) (by simp only [mb_mc, mb_ms]; omega)
    | k9 + 2, ej => simp at ej
set_option maxRecDepth 100000 in
set_option maxHeartbeats 4000000 in
theorem lc_12 (hst : l.stackTraces = false) (B : mb_Lx p l s m #[Value.ref b] c G RL code 7 (mb_A9 s)) (hX : va_X b L xs s s.heap) (hbl : b < s.heap.size) (hS : va_S (mb_A9 s) s.heap H locs) (hw : mb_wd G h H) (hl : lv_has ls 7 [(4, .int x4), (3, .ref (G.2.2 (30, 0, 0))), (2, .ref (G.2.2 (6, 0, 0))), (1, .ref (G.2.2 (0, 0, 0))), (0, .ref b)]) (hc : cells + 1 ≤ 601024) (hs : slots + 6 ≤ 7293034) (hi1 : vp_in (x4 + 1) L) (hi2 : vp_in (x4 + 2) L) (hps : mb_PI ["java/lang/IndexOutOfBoundsException", "java/lang/IllegalArgumentException", "java/lang/IllegalStateException"] (F_X5_change (xs (x4 + 1).toNatClampNeg) (xs (x4 + 2).toNatClampNeg) h) (F_X6_change (xs (x4 + 1).toNatClampNeg) (xs (x4 + 2).toNatClampNeg)) S)
    (kk : ∀ (h3 : mb_AH) (H3 : Heap) (locs3 : List Loc) (ls3 : Array Slot) (cells3 slots3 : Nat), S h3 → mb_wd G h3 H3 → va_S (mb_A9 s) s.heap H3 locs3 → lv_has ls3 7 [(4, .int x4), (3, .ref (G.2.2 (30, 0, 0))), (2, .ref (G.2.2 (6, 0, 0))), (1, .ref (G.2.2 (0, 0, 0))), (0, .ref b)] → cells3 ≤ cells + 1 → slots3 ≤ slots + 6 → W p l e room_1 s m #[Value.ref b] below meth c H3 locs3 cells3 slots3 Q (F0 m 1925 ls3 [])) : W p l e room_1 s m #[Value.ref b] below meth c H locs cells slots Q (F0 m 999 ls []) := by
  rcases hps with ⟨v, h1, h3, e5, e6, eT, eO, eS⟩ | ⟨j, E, h1, b9, h3, ej, e5, e6, eT, eS⟩
  · refine lv_aload_n B.1 B.2.1 dL_law_999 rfl (lv_at hl 3 rfl) ?_
    refine lv_aload_n B.1 B.2.1 dL_law_1000 rfl (lv_at hl 4 rfl) ?_
    refine lv_iload B.1 B.2.1 dL_law_1001 (lv_at hl 0 rfl) ?_
    refine lv_iconst (v := 1) B.1 B.2.1 dL_law_1003 (by decide) ?_
    refine lv_iadd B.1 B.2.1 dL_law_1004 ?_
    refine va_sld B.1 B.2.1 hX hbl (Nat.not_le.mpr hbl) hS hi1 dL_law_1005 ?_
    refine lv_aload_n B.1 B.2.1 dL_law_1006 rfl (lv_at hl 4 rfl) ?_
    refine lv_iload B.1 B.2.1 dL_law_1007 (lv_at hl 0 rfl) ?_
    refine lv_iconst (v := 2) B.1 B.2.1 dL_law_1009 (by decide) ?_
    refine lv_iadd B.1 B.2.1 dL_law_1010 ?_
    refine va_sld B.1 B.2.1 hX hbl (Nat.not_le.mpr hbl) hS hi2 dL_law_1011 ?_
    refine lv_aload_n B.1 B.2.1 dL_law_1012 rfl (lv_at hl 1 rfl) ?_
    refine mb_xH (as := [mb_F 0 0 0, .inl (xs (x4 + 1).toNatClampNeg), .inl (xs (x4 + 2).toNatClampNeg), mb_F 30 0 0]) (n := 4) (mc := 0) (ms := 0) (rest := []) B hS hw hl.1 ⟨⟨by decide, by decide⟩, trivial, trivial, ⟨by decide, by decide⟩, trivial⟩ (Nat.zero_le _) (H_change_r hst B.2.2.2.2.2.2.2.1 e5) wl_L_149 mt_L_change mn_L mw_L_change (by decide +kernel) rfl ⟨by show 8 + 5 + 1 ≤ 2048; decide, by show _ ≤ 84000; decide, by show cells + 0 ≤ 601024; omega, by show slots + 0 ≤ 7293034; omega⟩ rfl dL_law_1013 (fun H1 locs1 hw1 hS1 _ _ => ?_)
    refine lv_istore (lv' := [(5, .int 0), (4, .int x4), (3, .ref (G.2.2 (30, 0, 0))), (2, .ref (G.2.2 (6, 0, 0))), (1, .ref (G.2.2 (0, 0, 0))), (0, .ref b)]) B.1 B.2.1 dL_law_1016 hl (by decide) rfl (fun ls hl => ?_)
    refine lv_aload_n B.1 B.2.1 dL_law_1018 rfl (lv_at hl 3 rfl) ?_
    refine lv_aload_n B.1 B.2.1 dL_law_1019 rfl (lv_at hl 5 rfl) ?_
    refine lv_iload B.1 B.2.1 dL_law_1020 (lv_at hl 1 rfl) ?_
    refine lv_iconst (v := 1) B.1 B.2.1 dL_law_1022 (by decide) ?_
    refine lv_iadd B.1 B.2.1 dL_law_1023 ?_
    refine va_sld B.1 B.2.1 hX hbl (Nat.not_le.mpr hbl) hS1 hi1 dL_law_1024 ?_
    refine lv_aload_n B.1 B.2.1 dL_law_1025 rfl (lv_at hl 5 rfl) ?_
    refine lv_iload B.1 B.2.1 dL_law_1026 (lv_at hl 1 rfl) ?_
    refine lv_iconst (v := 2) B.1 B.2.1 dL_law_1028 (by decide) ?_
    refine lv_iadd B.1 B.2.1 dL_law_1029 ?_
    refine va_sld B.1 B.2.1 hX hbl (Nat.not_le.mpr hbl) hS1 hi2 dL_law_1030 ?_
    refine mb_xV (as := [.inl (xs (x4 + 1).toNatClampNeg), .inl (xs (x4 + 2).toNatClampNeg)]) (n := 2) (d2 := 4) (ci := 6) (N := 16) (rest := []) B hS1 hw1 hl.1 ⟨⟨by decide, by decide⟩, trivial, trivial, trivial⟩ (Nat.le_of_ble_eq_true rfl) (C_X6_change hst B.2.2.2.2.2.2.2.1 e6) (mb_gV wl_L_151 mi_X6_change ms_X6_change mn_X6 mc_X6_change) (by decide +kernel) rfl rfl rfl ⟨by show 8 + 4 + 1 ≤ 2048; decide, by show _ ≤ 84000; decide, by show cells + 0 + 0 ≤ 601024; omega, by show slots + 0 + 0 ≤ 7293034; omega⟩ rfl dL_law_1031 (fun v1 H1c locs1c hv1 _ hw1c hS1c _ _ => ?_) (fun E9 ce9 q9 H9 locs9 hv9 _ _ _ _ _ _ _ => by cases hv9)
    cases hv1
    refine lv_istore (lv' := [(6, .int v), (5, .int 0), (4, .int x4), (3, .ref (G.2.2 (30, 0, 0))), (2, .ref (G.2.2 (6, 0, 0))), (1, .ref (G.2.2 (0, 0, 0))), (0, .ref b)]) B.1 B.2.1 dL_law_1034 hl (by decide) rfl (fun ls hl => ?_)
    refine lv_aload_n B.1 B.2.1 dL_law_1036 rfl (lv_at hl 4 rfl) ?_
    refine mb_xV (as := []) (n := 0) (d2 := 0) (ci := 6) (N := 16) (rest := []) B hS1c hw1c hl.1 ⟨⟨by decide, by decide⟩, trivial⟩ (Nat.le_of_ble_eq_true rfl) (C_X6_thrown hst B.2.2.2.2.2.2.2.1 (show F_X6_thrown _ = some (.inl (some (.inl (h3.1 6 0 0 4))), h3) from rfl)) (mb_gV wl_L_109 mi_X6_thrown ms_X6_thrown mn_X6 mc_X6_thrown) (by decide +kernel) rfl rfl rfl ⟨by show 8 + 0 + 1 ≤ 2048; decide, by show _ ≤ 84000; decide, by show cells + 0 + 0 ≤ 601024; omega, by show slots + 0 + 0 ≤ 7293034; omega⟩ rfl dL_law_1037 (fun v2 H2c locs2c hv2 _ hw2c hS2c _ _ => ?_) (fun E9 ce9 q9 H9 locs9 hv9 _ _ _ _ _ _ _ => by cases hv9)
    cases hv2
    refine lv_iload B.1 B.2.1 dL_law_1040 (lv_at hl 1 rfl) ?_
    refine lv_icmp_eq (tgt := 1047) B.1 B.2.1 dL_law_1042 (by decide) (fun _ => ?_) (fun z9 => absurd eT z9)
    refine lv_iload B.1 B.2.1 dL_law_1047 (lv_at hl 1 rfl) ?_
    refine lv_if_ne (tgt := 1064) B.1 B.2.1 dL_law_1049 (by decide) (fun z9 => absurd rfl z9) (fun _ => ?_)
    refine lv_aload_n B.1 B.2.1 dL_law_1052 rfl (lv_at hl 3 rfl) ?_
    refine lv_iconst (v := 0) B.1 B.2.1 dL_law_1053 (by decide) ?_
    refine mb_outld B hw2c dL_law_1054 ?_
    refine lv_iload B.1 B.2.1 dL_law_1055 (lv_at hl 0 rfl) ?_
    refine lv_i2l B.1 B.2.1 dL_law_1057 rfl ?_
    refine W.lcmp B.1 B.2.1 dL_law_1058 ?_
    refine lv_if_eq (tgt := 1064) B.1 B.2.1 dL_law_1059 (by decide) (fun _ => ?_) (fun z9 => absurd (by rw [eO]; exact mb_lc0 _) z9)
    refine lv_goto (tgt := 1925) B.1 B.2.1 dL_law_1064 (by decide) ?_
    exact kk _ _ _ _ _ _ eS hw2c hS2c (lv_sub hl [2, 3, 4, 5, 6] rfl) (by simp only [mb_mc, mb_ms]; omega) (by simp only [mb_mc, mb_ms]; omega)
  · match j, ej with
    | 0, ej =>
      cases ej
      refine lv_aload_n B.1 B.2.1 dL_law_999 rfl (lv_at hl 3 rfl) ?_
      refine lv_aload_n B.1 B.2.1 dL_law_1000 rfl (lv_at hl 4 rfl) ?_
      refine lv_iload B.1 B.2.1 dL_law_1001 (lv_at hl 0 rfl) ?_
      refine lv_iconst (v := 1) B.1 B.2.1 dL_law_1003 (by decide) ?_
      refine lv_iadd B.1 B.2.1 dL_law_1004 ?_
      refine va_sld B.1 B.2.1 hX hbl (Nat.not_le.mpr hbl) hS hi1 dL_law_1005 ?_
      refine lv_aload_n B.1 B.2.1 dL_law_1006 rfl (lv_at hl 4 rfl) ?_
      refine lv_iload B.1 B.2.1 dL_law_1007 (lv_at hl 0 rfl) ?_
      refine lv_iconst (v := 2) B.1 B.2.1 dL_law_1009 (by decide) ?_
      refine lv_iadd B.1 B.2.1 dL_law_1010 ?_
      refine va_sld B.1 B.2.1 hX hbl (Nat.not_le.mpr hbl) hS hi2 dL_law_1011 ?_
      refine lv_aload_n B.1 B.2.1 dL_law_1012 rfl (lv_at hl 1 rfl) ?_
      refine mb_xH (as := [mb_F 0 0 0, .inl (xs (x4 + 1).toNatClampNeg), .inl (xs (x4 + 2).toNatClampNeg), mb_F 30 0 0]) (n := 4) (mc := 1) (ms := 6) (rest := []) B hS hw hl.1 ⟨⟨by decide, by decide⟩, trivial, trivial, ⟨by decide, by decide⟩, trivial⟩ (Nat.zero_le _) (H_change_t1 hst B.2.2.2.2.2.2.2.1 e5) wl_L_149 mt_L_change mn_L mw_L_change (by decide +kernel) rfl ⟨by show 8 + 5 + 1 ≤ 2048; decide, by show _ ≤ 84000; decide, by show cells + 1 ≤ 601024; omega, by show slots + 6 ≤ 7293034; omega⟩ rfl dL_law_1013 (fun H1 locs1 hw1 hS1 _ _ => ?_)
      refine lv_istore (lv' := [(5, .int 1), (4, .int x4), (3, .ref (G.2.2 (30, 0, 0))), (2, .ref (G.2.2 (6, 0, 0))), (1, .ref (G.2.2 (0, 0, 0))), (0, .ref b)]) B.1 B.2.1 dL_law_1016 hl (by decide) rfl (fun ls hl => ?_)
      refine lv_aload_n B.1 B.2.1 dL_law_1018 rfl (lv_at hl 3 rfl) ?_
      refine lv_aload_n B.1 B.2.1 dL_law_1019 rfl (lv_at hl 5 rfl) ?_
      refine lv_iload B.1 B.2.1 dL_law_1020 (lv_at hl 1 rfl) ?_
      refine lv_iconst (v := 1) B.1 B.2.1 dL_law_1022 (by decide) ?_
      refine lv_iadd B.1 B.2.1 dL_law_1023 ?_
      refine va_sld B.1 B.2.1 hX hbl (Nat.not_le.mpr hbl) hS1 hi1 dL_law_1024 ?_
      refine lv_aload_n B.1 B.2.1 dL_law_1025 rfl (lv_at hl 5 rfl) ?_
      refine lv_iload B.1 B.2.1 dL_law_1026 (lv_at hl 1 rfl) ?_
      refine lv_iconst (v := 2) B.1 B.2.1 dL_law_1028 (by decide) ?_
      refine lv_iadd B.1 B.2.1 dL_law_1029 ?_
      refine va_sld B.1 B.2.1 hX hbl (Nat.not_le.mpr hbl) hS1 hi2 dL_law_1030 ?_
      refine mb_xV (as := [.inl (xs (x4 + 1).toNatClampNeg), .inl (xs (x4 + 2).toNatClampNeg)]) (n := 2) (d2 := 4) (ci := 6) (N := 16) (rest := []) B hS1 hw1 hl.1 ⟨⟨by decide, by decide⟩, trivial, trivial, trivial⟩ (Nat.le_of_ble_eq_true rfl) (C_X6_change hst B.2.2.2.2.2.2.2.1 e6) (mb_gV wl_L_151 mi_X6_change ms_X6_change mn_X6 mc_X6_change) (by decide +kernel) rfl rfl rfl ⟨by show 8 + 4 + 1 ≤ 2048; decide, by show _ ≤ 84000; decide, by show cells + 1 + 0 ≤ 601024; omega, by show slots + 6 + 0 ≤ 7293034; omega⟩ rfl dL_law_1031 (fun v1 H1c locs1c hv1 _ hw1c hS1c _ _ => ?_) (fun E9 ce9 q9 H9 locs9 hv9 _ _ _ _ _ _ _ => by cases hv9)
      cases hv1
      refine lv_istore (lv' := [(6, .int b9), (5, .int 1), (4, .int x4), (3, .ref (G.2.2 (30, 0, 0))), (2, .ref (G.2.2 (6, 0, 0))), (1, .ref (G.2.2 (0, 0, 0))), (0, .ref b)]) B.1 B.2.1 dL_law_1034 hl (by decide) rfl (fun ls hl => ?_)
      refine lv_aload_n B.1 B.2.1 dL_law_1036 rfl (lv_at hl 4 rfl) ?_
      refine mb_xV (as := []) (n := 0) (d2 := 0) (ci := 6) (N := 16) (rest := []) B hS1c hw1c hl.1 ⟨⟨by decide, by decide⟩, trivial⟩ (Nat.le_of_ble_eq_true rfl) (C_X6_thrown hst B.2.2.2.2.2.2.2.1 (show F_X6_thrown _ = some (.inl (some (.inl (h3.1 6 0 0 4))), h3) from rfl)) (mb_gV wl_L_109 mi_X6_thrown ms_X6_thrown mn_X6 mc_X6_thrown) (by decide +kernel) rfl rfl rfl ⟨by show 8 + 0 + 1 ≤ 2048; decide, by show _ ≤ 84000; decide, by show cells + 1 + 0 ≤ 601024; omega, by show slots + 6 + 0 ≤ 7293034; omega⟩ rfl dL_law_1037 (fun v2 H2c locs2c hv2 _ hw2c hS2c _ _ => ?_) (fun E9 ce9 q9 H9 locs9 hv9 _ _ _ _ _ _ _ => by cases hv9)
      cases hv2
      refine lv_iload B.1 B.2.1 dL_law_1040 (lv_at hl 1 rfl) ?_
      refine lv_icmp_eq (tgt := 1047) B.1 B.2.1 dL_law_1042 (by decide) (fun _ => ?_) (fun z9 => absurd eT z9)
      refine lv_iload B.1 B.2.1 dL_law_1047 (lv_at hl 1 rfl) ?_
      refine lv_if_ne (tgt := 1064) B.1 B.2.1 dL_law_1049 (by decide) (fun _ => ?_) (fun z9 => absurd z9 (by decide))
      refine lv_goto (tgt := 1925) B.1 B.2.1 dL_law_1064 (by decide) ?_
      exact kk _ _ _ _ _ _ eS hw2c hS2c (lv_sub hl [2, 3, 4, 5, 6] rfl) (by simp only [mb_mc, mb_ms]; omega) (by simp only [mb_mc, mb_ms]; omega)
    | 1, ej =>
      cases ej
      refine lv_aload_n B.1 B.2.1 dL_law_999 rfl (lv_at hl 3 rfl) ?_
      refine lv_aload_n B.1 B.2.1 dL_law_1000 rfl (lv_at hl 4 rfl) ?_
      refine lv_iload B.1 B.2.1 dL_law_1001 (lv_at hl 0 rfl) ?_
      refine lv_iconst (v := 1) B.1 B.2.1 dL_law_1003 (by decide) ?_
      refine lv_iadd B.1 B.2.1 dL_law_1004 ?_
      refine va_sld B.1 B.2.1 hX hbl (Nat.not_le.mpr hbl) hS hi1 dL_law_1005 ?_
      refine lv_aload_n B.1 B.2.1 dL_law_1006 rfl (lv_at hl 4 rfl) ?_
      refine lv_iload B.1 B.2.1 dL_law_1007 (lv_at hl 0 rfl) ?_
      refine lv_iconst (v := 2) B.1 B.2.1 dL_law_1009 (by decide) ?_
      refine lv_iadd B.1 B.2.1 dL_law_1010 ?_
      refine va_sld B.1 B.2.1 hX hbl (Nat.not_le.mpr hbl) hS hi2 dL_law_1011 ?_
      refine lv_aload_n B.1 B.2.1 dL_law_1012 rfl (lv_at hl 1 rfl) ?_
      refine mb_xH (as := [mb_F 0 0 0, .inl (xs (x4 + 1).toNatClampNeg), .inl (xs (x4 + 2).toNatClampNeg), mb_F 30 0 0]) (n := 4) (mc := 1) (ms := 6) (rest := []) B hS hw hl.1 ⟨⟨by decide, by decide⟩, trivial, trivial, ⟨by decide, by decide⟩, trivial⟩ (Nat.zero_le _) (H_change_t2 hst B.2.2.2.2.2.2.2.1 e5) wl_L_149 mt_L_change mn_L mw_L_change (by decide +kernel) rfl ⟨by show 8 + 5 + 1 ≤ 2048; decide, by show _ ≤ 84000; decide, by show cells + 1 ≤ 601024; omega, by show slots + 6 ≤ 7293034; omega⟩ rfl dL_law_1013 (fun H1 locs1 hw1 hS1 _ _ => ?_)
      refine lv_istore (lv' := [(5, .int 2), (4, .int x4), (3, .ref (G.2.2 (30, 0, 0))), (2, .ref (G.2.2 (6, 0, 0))), (1, .ref (G.2.2 (0, 0, 0))), (0, .ref b)]) B.1 B.2.1 dL_law_1016 hl (by decide) rfl (fun ls hl => ?_)
      refine lv_aload_n B.1 B.2.1 dL_law_1018 rfl (lv_at hl 3 rfl) ?_
      refine lv_aload_n B.1 B.2.1 dL_law_1019 rfl (lv_at hl 5 rfl) ?_
      refine lv_iload B.1 B.2.1 dL_law_1020 (lv_at hl 1 rfl) ?_
      refine lv_iconst (v := 1) B.1 B.2.1 dL_law_1022 (by decide) ?_
      refine lv_iadd B.1 B.2.1 dL_law_1023 ?_
      refine va_sld B.1 B.2.1 hX hbl (Nat.not_le.mpr hbl) hS1 hi1 dL_law_1024 ?_
      refine lv_aload_n B.1 B.2.1 dL_law_1025 rfl (lv_at hl 5 rfl) ?_
      refine lv_iload B.1 B.2.1 dL_law_1026 (lv_at hl 1 rfl) ?_
      refine lv_iconst (v := 2) B.1 B.2.1 dL_law_1028 (by decide) ?_
      refine lv_iadd B.1 B.2.1 dL_law_1029 ?_
      refine va_sld B.1 B.2.1 hX hbl (Nat.not_le.mpr hbl) hS1 hi2 dL_law_1030 ?_
      refine mb_xV (as := [.inl (xs (x4 + 1).toNatClampNeg), .inl (xs (x4 + 2).toNatClampNeg)]) (n := 2) (d2 := 4) (ci := 6) (N := 16) (rest := []) B hS1 hw1 hl.1 ⟨⟨by decide, by decide⟩, trivial, trivial, trivial⟩ (Nat.le_of_ble_eq_true rfl) (C_X6_change hst B.2.2.2.2.2.2.2.1 e6) (mb_gV wl_L_151 mi_X6_change ms_X6_change mn_X6 mc_X6_change) (by decide +kernel) rfl rfl rfl ⟨by show 8 + 4 + 1 ≤ 2048; decide, by show _ ≤ 84000; decide, by show cells + 1 + 0 ≤ 601024; omega, by show slots + 6 + 0 ≤ 7293034; omega⟩ rfl dL_law_1031 (fun v1 H1c locs1c hv1 _ hw1c hS1c _ _ => ?_) (fun E9 ce9 q9 H9 locs9 hv9 _ _ _ _ _ _ _ => by cases hv9)
      cases hv1
      refine lv_istore (lv' := [(6, .int b9), (5, .int 2), (4, .int x4), (3, .ref (G.2.2 (30, 0, 0))), (2, .ref (G.2.2 (6, 0, 0))), (1, .ref (G.2.2 (0, 0, 0))), (0, .ref b)]) B.1 B.2.1 dL_law_1034 hl (by decide) rfl (fun ls hl => ?_)
      refine lv_aload_n B.1 B.2.1 dL_law_1036 rfl (lv_at hl 4 rfl) ?_
      refine mb_xV (as := []) (n := 0) (d2 := 0) (ci := 6) (N := 16) (rest := []) B hS1c hw1c hl.1 ⟨⟨by decide, by decide⟩, trivial⟩ (Nat.le_of_ble_eq_true rfl) (C_X6_thrown hst B.2.2.2.2.2.2.2.1 (show F_X6_thrown _ = some (.inl (some (.inl (h3.1 6 0 0 4))), h3) from rfl)) (mb_gV wl_L_109 mi_X6_thrown ms_X6_thrown mn_X6 mc_X6_thrown) (by decide +kernel) rfl rfl rfl ⟨by show 8 + 0 + 1 ≤ 2048; decide, by show _ ≤ 84000; decide, by show cells + 1 + 0 ≤ 601024; omega, by show slots + 6 + 0 ≤ 7293034; omega⟩ rfl dL_law_1037 (fun v2 H2c locs2c hv2 _ hw2c hS2c _ _ => ?_) (fun E9 ce9 q9 H9 locs9 hv9 _ _ _ _ _ _ _ => by cases hv9)
      cases hv2
      refine lv_iload B.1 B.2.1 dL_law_1040 (lv_at hl 1 rfl) ?_
      refine lv_icmp_eq (tgt := 1047) B.1 B.2.1 dL_law_1042 (by decide) (fun _ => ?_) (fun z9 => absurd eT z9)
      refine lv_iload B.1 B.2.1 dL_law_1047 (lv_at hl 1 rfl) ?_
      refine lv_if_ne (tgt := 1064) B.1 B.2.1 dL_law_1049 (by decide) (fun _ => ?_) (fun z9 => absurd z9 (by decide))
      refine lv_goto (tgt := 1925) B.1 B.2.1 dL_law_1064 (by decide) ?_
      exact kk _ _ _ _ _ _ eS hw2c hS2c (lv_sub hl [2, 3, 4, 5, 6] rfl) (by simp only [mb_mc, mb_ms]; omega) (by simp only [mb_mc, mb_ms]; omega)
    | 2, ej =>
      cases ej
      refine lv_aload_n B.1 B.2.1 dL_law_999 rfl (lv_at hl 3 rfl) ?_
      refine lv_aload_n B.1 B.2.1 dL_law_1000 rfl (lv_at hl 4 rfl) ?_
      refine lv_iload B.1 B.2.1 dL_law_1001 (lv_at hl 0 rfl) ?_
      refine lv_iconst (v := 1) B.1 B.2.1 dL_law_1003 (by decide) ?_
      refine lv_iadd B.1 B.2.1 dL_law_1004 ?_
      refine va_sld B.1 B.2.1 hX hbl (Nat.not_le.mpr hbl) hS hi1 dL_law_1005 ?_
      refine lv_aload_n B.1 B.2.1 dL_law_1006 rfl (lv_at hl 4 rfl) ?_
      refine lv_iload B.1 B.2.1 dL_law_1007 (lv_at hl 0 rfl) ?_
      refine lv_iconst (v := 2) B.1 B.2.1 dL_law_1009 (by decide) ?_
      refine lv_iadd B.1 B.2.1 dL_law_1010 ?_
      refine va_sld B.1 B.2.1 hX hbl (Nat.not_le.mpr hbl) hS hi2 dL_law_1011 ?_
      refine lv_aload_n B.1 B.2.1 dL_law_1012 rfl (lv_at hl 1 rfl) ?_
      refine mb_xH (as := [mb_F 0 0 0, .inl (xs (x4 + 1).toNatClampNeg), .inl (xs (x4 + 2).toNatClampNeg), mb_F 30 0 0]) (n := 4) (mc := 1) (ms := 6) (rest := []) B hS hw hl.1 ⟨⟨by decide, by decide⟩, trivial, trivial, ⟨by decide, by decide⟩, trivial⟩ (Nat.zero_le _) (H_change_t3 hst B.2.2.2.2.2.2.2.1 e5) wl_L_149 mt_L_change mn_L mw_L_change (by decide +kernel) rfl ⟨by show 8 + 5 + 1 ≤ 2048; decide, by show _ ≤ 84000; decide, by show cells + 1 ≤ 601024; omega, by show slots + 6 ≤ 7293034; omega⟩ rfl dL_law_1013 (fun H1 locs1 hw1 hS1 _ _ => ?_)
      refine lv_istore (lv' := [(5, .int 3), (4, .int x4), (3, .ref (G.2.2 (30, 0, 0))), (2, .ref (G.2.2 (6, 0, 0))), (1, .ref (G.2.2 (0, 0, 0))), (0, .ref b)]) B.1 B.2.1 dL_law_1016 hl (by decide) rfl (fun ls hl => ?_)
      refine lv_aload_n B.1 B.2.1 dL_law_1018 rfl (lv_at hl 3 rfl) ?_
      refine lv_aload_n B.1 B.2.1 dL_law_1019 rfl (lv_at hl 5 rfl) ?_
      refine lv_iload B.1 B.2.1 dL_law_1020 (lv_at hl 1 rfl) ?_
      refine lv_iconst (v := 1) B.1 B.2.1 dL_law_1022 (by decide) ?_
      refine lv_iadd B.1 B.2.1 dL_law_1023 ?_
      refine va_sld B.1 B.2.1 hX hbl (Nat.not_le.mpr hbl) hS1 hi1 dL_law_1024 ?_
      refine lv_aload_n B.1 B.2.1 dL_law_1025 rfl (lv_at hl 5 rfl) ?_
      refine lv_iload B.1 B.2.1 dL_law_1026 (lv_at hl 1 rfl) ?_
      refine lv_iconst (v := 2) B.1 B.2.1 dL_law_1028 (by decide) ?_
      refine lv_iadd B.1 B.2.1 dL_law_1029 ?_
      refine va_sld B.1 B.2.1 hX hbl (Nat.not_le.mpr hbl) hS1 hi2 dL_law_1030 ?_
      refine mb_xV (as := [.inl (xs (x4 + 1).toNatClampNeg), .inl (xs (x4 + 2).toNatClampNeg)]) (n := 2) (d2 := 4) (ci := 6) (N := 16) (rest := []) B hS1 hw1 hl.1 ⟨⟨by decide, by decide⟩, trivial, trivial, trivial⟩ (Nat.le_of_ble_eq_true rfl) (C_X6_change hst B.2.2.2.2.2.2.2.1 e6) (mb_gV wl_L_151 mi_X6_change ms_X6_change mn_X6 mc_X6_change) (by decide +kernel) rfl rfl rfl ⟨by show 8 + 4 + 1 ≤ 2048; decide, by show _ ≤ 84000; decide, by show cells + 1 + 0 ≤ 601024; omega, by show slots + 6 + 0 ≤ 7293034; omega⟩ rfl dL_law_1031 (fun v1 H1c locs1c hv1 _ hw1c hS1c _ _ => ?_) (fun E9 ce9 q9 H9 locs9 hv9 _ _ _ _ _ _ _ => by cases hv9)
      cases hv1
      refine lv_istore (lv' := [(6, .int b9), (5, .int 3), (4, .int x4), (3, .ref (G.2.2 (30, 0, 0))), (2, .ref (G.2.2 (6, 0, 0))), (1, .ref (G.2.2 (0, 0, 0))), (0, .ref b)]) B.1 B.2.1 dL_law_1034 hl (by decide) rfl (fun ls hl => ?_)
      refine lv_aload_n B.1 B.2.1 dL_law_1036 rfl (lv_at hl 4 rfl) ?_
      refine mb_xV (as := []) (n := 0) (d2 := 0) (ci := 6) (N := 16) (rest := []) B hS1c hw1c hl.1 ⟨⟨by decide, by decide⟩, trivial⟩ (Nat.le_of_ble_eq_true rfl) (C_X6_thrown hst B.2.2.2.2.2.2.2.1 (show F_X6_thrown _ = some (.inl (some (.inl (h3.1 6 0 0 4))), h3) from rfl)) (mb_gV wl_L_109 mi_X6_thrown ms_X6_thrown mn_X6 mc_X6_thrown) (by decide +kernel) rfl rfl rfl ⟨by show 8 + 0 + 1 ≤ 2048; decide, by show _ ≤ 84000; decide, by show cells + 1 + 0 ≤ 601024; omega, by show slots + 6 + 0 ≤ 7293034; omega⟩ rfl dL_law_1037 (fun v2 H2c locs2c hv2 _ hw2c hS2c _ _ => ?_) (fun E9 ce9 q9 H9 locs9 hv9 _ _ _ _ _ _ _ => by cases hv9)
      cases hv2
      refine lv_iload B.1 B.2.1 dL_law_1040 (lv_at hl 1 rfl) ?_
      refine lv_icmp_eq (tgt := 1047) B.1 B.2.1 dL_law_1042 (by decide) (fun _ => ?_) (fun z9 => absurd eT z9)
      refine lv_iload B.1 B.2.1 dL_law_1047 (lv_at hl 1 rfl) ?_
      refine lv_if_ne (tgt := 1064) B.1 B.2.1 dL_law_1049 (by decide) (fun _ => ?_) (fun z9 => absurd z9 (by decide))
      refine lv_goto (tgt := 1925) B.1 B.2.1 dL_law_1064 (by decide) ?_
      exact kk _ _ _ _ _ _ eS hw2c hS2c (lv_sub hl [2, 3, 4, 5, 6] rfl) (by simp only [mb_mc, mb_ms]; omega) (by simp only [mb_mc, mb_ms]; omega)
    | k9 + 3, ej => simp at ej
set_option maxRecDepth 100000 in
set_option maxHeartbeats 4000000 in
theorem lc_13 (hst : l.stackTraces = false) (B : mb_Lx p l s m #[Value.ref b] c G RL code 7 (mb_A9 s)) (hX : va_X b L xs s s.heap) (hbl : b < s.heap.size) (hS : va_S (mb_A9 s) s.heap H locs) (hw : mb_wd G h H) (hl : lv_has ls 7 [(4, .int x4), (3, .ref (G.2.2 (30, 0, 0))), (2, .ref (G.2.2 (6, 0, 0))), (1, .ref (G.2.2 (0, 0, 0))), (0, .ref b)]) (hc : cells + 1 ≤ 601024) (hs : slots + 6 ≤ 7293034) (hi1 : vp_in (x4 + 1) L) (hps : mb_PI ["java/lang/IndexOutOfBoundsException", "java/lang/IllegalStateException"] (F_X5_await (xs (x4 + 1).toNatClampNeg) h) (F_X6_await (xs (x4 + 1).toNatClampNeg)) S)
    (kk : ∀ (h3 : mb_AH) (H3 : Heap) (locs3 : List Loc) (ls3 : Array Slot) (cells3 slots3 : Nat), S h3 → mb_wd G h3 H3 → va_S (mb_A9 s) s.heap H3 locs3 → lv_has ls3 7 [(4, .int x4), (3, .ref (G.2.2 (30, 0, 0))), (2, .ref (G.2.2 (6, 0, 0))), (1, .ref (G.2.2 (0, 0, 0))), (0, .ref b)] → cells3 ≤ cells + 1 → slots3 ≤ slots + 6 → W p l e room_1 s m #[Value.ref b] below meth c H3 locs3 cells3 slots3 Q (F0 m 1925 ls3 [])) : W p l e room_1 s m #[Value.ref b] below meth c H locs cells slots Q (F0 m 1067 ls []) := by
  rcases hps with ⟨v, h1, h3, e5, e6, eT, eO, eS⟩ | ⟨j, E, h1, b9, h3, ej, e5, e6, eT, eS⟩
  · refine lv_aload_n B.1 B.2.1 dL_law_1067 rfl (lv_at hl 3 rfl) ?_
    refine lv_aload_n B.1 B.2.1 dL_law_1068 rfl (lv_at hl 4 rfl) ?_
    refine lv_iload B.1 B.2.1 dL_law_1069 (lv_at hl 0 rfl) ?_
    refine lv_iconst (v := 1) B.1 B.2.1 dL_law_1071 (by decide) ?_
    refine lv_iadd B.1 B.2.1 dL_law_1072 ?_
    refine va_sld B.1 B.2.1 hX hbl (Nat.not_le.mpr hbl) hS hi1 dL_law_1073 ?_
    refine lv_aload_n B.1 B.2.1 dL_law_1074 rfl (lv_at hl 1 rfl) ?_
    refine mb_xH (as := [mb_F 0 0 0, .inl (xs (x4 + 1).toNatClampNeg), mb_F 30 0 0]) (n := 3) (mc := 0) (ms := 0) (rest := []) B hS hw hl.1 ⟨⟨by decide, by decide⟩, trivial, ⟨by decide, by decide⟩, trivial⟩ (Nat.zero_le _) (H_await_r hst B.2.2.2.2.2.2.2.1 e5) wl_L_152 mt_L_await mn_L mw_L_await (by decide +kernel) rfl ⟨by show 8 + 5 + 1 ≤ 2048; decide, by show _ ≤ 84000; decide, by show cells + 0 ≤ 601024; omega, by show slots + 0 ≤ 7293034; omega⟩ rfl dL_law_1075 (fun H1 locs1 hw1 hS1 _ _ => ?_)
    refine lv_istore (lv' := [(5, .int 0), (4, .int x4), (3, .ref (G.2.2 (30, 0, 0))), (2, .ref (G.2.2 (6, 0, 0))), (1, .ref (G.2.2 (0, 0, 0))), (0, .ref b)]) B.1 B.2.1 dL_law_1078 hl (by decide) rfl (fun ls hl => ?_)
    refine lv_aload_n B.1 B.2.1 dL_law_1080 rfl (lv_at hl 3 rfl) ?_
    refine lv_aload_n B.1 B.2.1 dL_law_1081 rfl (lv_at hl 5 rfl) ?_
    refine lv_iload B.1 B.2.1 dL_law_1082 (lv_at hl 1 rfl) ?_
    refine lv_iconst (v := 1) B.1 B.2.1 dL_law_1084 (by decide) ?_
    refine lv_iadd B.1 B.2.1 dL_law_1085 ?_
    refine va_sld B.1 B.2.1 hX hbl (Nat.not_le.mpr hbl) hS1 hi1 dL_law_1086 ?_
    refine mb_xV (as := [.inl (xs (x4 + 1).toNatClampNeg)]) (n := 1) (d2 := 3) (ci := 6) (N := 16) (rest := []) B hS1 hw1 hl.1 ⟨⟨by decide, by decide⟩, trivial, trivial⟩ (Nat.le_of_ble_eq_true rfl) (C_X6_await hst B.2.2.2.2.2.2.2.1 e6) (mb_gV wl_L_154 mi_X6_await ms_X6_await mn_X6 mc_X6_await) (by decide +kernel) rfl rfl rfl ⟨by show 8 + 3 + 1 ≤ 2048; decide, by show _ ≤ 84000; decide, by show cells + 0 + 0 ≤ 601024; omega, by show slots + 0 + 0 ≤ 7293034; omega⟩ rfl dL_law_1087 (fun v1 H1c locs1c hv1 _ hw1c hS1c _ _ => ?_) (fun E9 ce9 q9 H9 locs9 hv9 _ _ _ _ _ _ _ => by cases hv9)
    cases hv1
    refine lv_istore (lv' := [(6, .int v), (5, .int 0), (4, .int x4), (3, .ref (G.2.2 (30, 0, 0))), (2, .ref (G.2.2 (6, 0, 0))), (1, .ref (G.2.2 (0, 0, 0))), (0, .ref b)]) B.1 B.2.1 dL_law_1090 hl (by decide) rfl (fun ls hl => ?_)
    refine lv_aload_n B.1 B.2.1 dL_law_1092 rfl (lv_at hl 4 rfl) ?_
    refine mb_xV (as := []) (n := 0) (d2 := 0) (ci := 6) (N := 16) (rest := []) B hS1c hw1c hl.1 ⟨⟨by decide, by decide⟩, trivial⟩ (Nat.le_of_ble_eq_true rfl) (C_X6_thrown hst B.2.2.2.2.2.2.2.1 (show F_X6_thrown _ = some (.inl (some (.inl (h3.1 6 0 0 4))), h3) from rfl)) (mb_gV wl_L_109 mi_X6_thrown ms_X6_thrown mn_X6 mc_X6_thrown) (by decide +kernel) rfl rfl rfl ⟨by show 8 + 0 + 1 ≤ 2048; decide, by show _ ≤ 84000; decide, by show cells + 0 + 0 ≤ 601024; omega, by show slots + 0 + 0 ≤ 7293034; omega⟩ rfl dL_law_1093 (fun v2 H2c locs2c hv2 _ hw2c hS2c _ _ => ?_) (fun E9 ce9 q9 H9 locs9 hv9 _ _ _ _ _ _ _ => by cases hv9)
    cases hv2
    refine lv_iload B.1 B.2.1 dL_law_1096 (lv_at hl 1 rfl) ?_
    refine lv_icmp_eq (tgt := 1103) B.1 B.2.1 dL_law_1098 (by decide) (fun _ => ?_) (fun z9 => absurd eT z9)
    refine lv_iload B.1 B.2.1 dL_law_1103 (lv_at hl 1 rfl) ?_
    refine lv_if_ne (tgt := 1120) B.1 B.2.1 dL_law_1105 (by decide) (fun z9 => absurd rfl z9) (fun _ => ?_)
    refine lv_aload_n B.1 B.2.1 dL_law_1108 rfl (lv_at hl 3 rfl) ?_
    refine lv_iconst (v := 0) B.1 B.2.1 dL_law_1109 (by decide) ?_
    refine mb_outld B hw2c dL_law_1110 ?_
    refine lv_iload B.1 B.2.1 dL_law_1111 (lv_at hl 0 rfl) ?_
    refine lv_i2l B.1 B.2.1 dL_law_1113 rfl ?_
    refine W.lcmp B.1 B.2.1 dL_law_1114 ?_
    refine lv_if_eq (tgt := 1120) B.1 B.2.1 dL_law_1115 (by decide) (fun _ => ?_) (fun z9 => absurd (by rw [eO]; exact mb_lc0 _) z9)
    refine lv_goto (tgt := 1925) B.1 B.2.1 dL_law_1120 (by decide) ?_
    exact kk _ _ _ _ _ _ eS hw2c hS2c (lv_sub hl [2, 3, 4, 5, 6] rfl) (by simp only [mb_mc, mb_ms]; omega) (by simp only [mb_mc, mb_ms]; omega)
  · match j, ej with
    | 0, ej =>
      cases ej
      refine lv_aload_n B.1 B.2.1 dL_law_1067 rfl (lv_at hl 3 rfl) ?_
      refine lv_aload_n B.1 B.2.1 dL_law_1068 rfl (lv_at hl 4 rfl) ?_
      refine lv_iload B.1 B.2.1 dL_law_1069 (lv_at hl 0 rfl) ?_
      refine lv_iconst (v := 1) B.1 B.2.1 dL_law_1071 (by decide) ?_
      refine lv_iadd B.1 B.2.1 dL_law_1072 ?_
      refine va_sld B.1 B.2.1 hX hbl (Nat.not_le.mpr hbl) hS hi1 dL_law_1073 ?_
      refine lv_aload_n B.1 B.2.1 dL_law_1074 rfl (lv_at hl 1 rfl) ?_
      refine mb_xH (as := [mb_F 0 0 0, .inl (xs (x4 + 1).toNatClampNeg), mb_F 30 0 0]) (n := 3) (mc := 1) (ms := 6) (rest := []) B hS hw hl.1 ⟨⟨by decide, by decide⟩, trivial, ⟨by decide, by decide⟩, trivial⟩ (Nat.zero_le _) (H_await_t1 hst B.2.2.2.2.2.2.2.1 e5) wl_L_152 mt_L_await mn_L mw_L_await (by decide +kernel) rfl ⟨by show 8 + 5 + 1 ≤ 2048; decide, by show _ ≤ 84000; decide, by show cells + 1 ≤ 601024; omega, by show slots + 6 ≤ 7293034; omega⟩ rfl dL_law_1075 (fun H1 locs1 hw1 hS1 _ _ => ?_)
      refine lv_istore (lv' := [(5, .int 1), (4, .int x4), (3, .ref (G.2.2 (30, 0, 0))), (2, .ref (G.2.2 (6, 0, 0))), (1, .ref (G.2.2 (0, 0, 0))), (0, .ref b)]) B.1 B.2.1 dL_law_1078 hl (by decide) rfl (fun ls hl => ?_)
      refine lv_aload_n B.1 B.2.1 dL_law_1080 rfl (lv_at hl 3 rfl) ?_
      refine lv_aload_n B.1 B.2.1 dL_law_1081 rfl (lv_at hl 5 rfl) ?_
      refine lv_iload B.1 B.2.1 dL_law_1082 (lv_at hl 1 rfl) ?_
      refine lv_iconst (v := 1) B.1 B.2.1 dL_law_1084 (by decide) ?_
      refine lv_iadd B.1 B.2.1 dL_law_1085 ?_
      refine va_sld B.1 B.2.1 hX hbl (Nat.not_le.mpr hbl) hS1 hi1 dL_law_1086 ?_
      refine mb_xV (as := [.inl (xs (x4 + 1).toNatClampNeg)]) (n := 1) (d2 := 3) (ci := 6) (N := 16) (rest := []) B hS1 hw1 hl.1 ⟨⟨by decide, by decide⟩, trivial, trivial⟩ (Nat.le_of_ble_eq_true rfl) (C_X6_await hst B.2.2.2.2.2.2.2.1 e6) (mb_gV wl_L_154 mi_X6_await ms_X6_await mn_X6 mc_X6_await) (by decide +kernel) rfl rfl rfl ⟨by show 8 + 3 + 1 ≤ 2048; decide, by show _ ≤ 84000; decide, by show cells + 1 + 0 ≤ 601024; omega, by show slots + 6 + 0 ≤ 7293034; omega⟩ rfl dL_law_1087 (fun v1 H1c locs1c hv1 _ hw1c hS1c _ _ => ?_) (fun E9 ce9 q9 H9 locs9 hv9 _ _ _ _ _ _ _ => by cases hv9)
      cases hv1
      refine lv_istore (lv' := [(6, .int b9), (5, .int 1), (4, .int x4), (3, .ref (G.2.2 (30, 0, 0))), (2, .ref (G.2.2 (6, 0, 0))), (1, .ref (G.2.2 (0, 0, 0))), (0, .ref b)]) B.1 B.2.1 dL_law_1090 hl (by decide) rfl (fun ls hl => ?_)
      refine lv_aload_n B.1 B.2.1 dL_law_1092 rfl (lv_at hl 4 rfl) ?_
      refine mb_xV (as := []) (n := 0) (d2 := 0) (ci := 6) (N := 16) (rest := []) B hS1c hw1c hl.1 ⟨⟨by decide, by decide⟩, trivial⟩ (Nat.le_of_ble_eq_true rfl) (C_X6_thrown hst B.2.2.2.2.2.2.2.1 (show F_X6_thrown _ = some (.inl (some (.inl (h3.1 6 0 0 4))), h3) from rfl)) (mb_gV wl_L_109 mi_X6_thrown ms_X6_thrown mn_X6 mc_X6_thrown) (by decide +kernel) rfl rfl rfl ⟨by show 8 + 0 + 1 ≤ 2048; decide, by show _ ≤ 84000; decide, by show cells + 1 + 0 ≤ 601024; omega, by show slots + 6 + 0 ≤ 7293034; omega⟩ rfl dL_law_1093 (fun v2 H2c locs2c hv2 _ hw2c hS2c _ _ => ?_) (fun E9 ce9 q9 H9 locs9 hv9 _ _ _ _ _ _ _ => by cases hv9)
      cases hv2
      refine lv_iload B.1 B.2.1 dL_law_1096 (lv_at hl 1 rfl) ?_
      refine lv_icmp_eq (tgt := 1103) B.1 B.2.1 dL_law_1098 (by decide) (fun _ => ?_) (fun z9 => absurd eT z9)
      refine lv_iload B.1 B.2.1 dL_law_1103 (lv_at hl 1 rfl) ?_
      refine lv_if_ne (tgt := 1120) B.1 B.2.1 dL_law_1105 (by decide) (fun _ => ?_) (fun z9 => absurd z9 (by decide))
      refine lv_goto (tgt := 1925) B.1 B.2.1 dL_law_1120 (by decide) ?_
      exact kk _ _ _ _ _ _ eS hw2c hS2c (lv_sub hl [2, 3, 4, 5, 6] rfl) (by simp only [mb_mc, mb_ms]; omega) (by simp only [mb_mc, mb_ms]; omega)
    | 1, ej =>
      cases ej
      refine lv_aload_n B.1 B.2.1 dL_law_1067 rfl (lv_at hl 3 rfl) ?_
      refine lv_aload_n B.1 B.2.1 dL_law_1068 rfl (lv_at hl 4 rfl) ?_
      refine lv_iload B.1 B.2.1 dL_law_1069 (lv_at hl 0 rfl) ?_
      refine lv_iconst (v := 1) B.1 B.2.1 dL_law_1071 (by decide) ?_
      refine lv_iadd B.1 B.2.1 dL_law_1072 ?_
      refine va_sld B.1 B.2.1 hX hbl (Nat.not_le.mpr hbl) hS hi1 dL_law_1073 ?_
      refine lv_aload_n B.1 B.2.1 dL_law_1074 rfl (lv_at hl 1 rfl) ?_
      refine mb_xH (as := [mb_F 0 0 0, .inl (xs (x4 + 1).toNatClampNeg), mb_F 30 0 0]) (n := 3) (mc := 1) (ms := 6) (rest := []) B hS hw hl.1 ⟨⟨by decide, by decide⟩, trivial, ⟨by decide, by decide⟩, trivial⟩ (Nat.zero_le _) (H_await_t2 hst B.2.2.2.2.2.2.2.1 e5) wl_L_152 mt_L_await mn_L mw_L_await (by decide +kernel) rfl ⟨by show 8 + 5 + 1 ≤ 2048; decide, by show _ ≤ 84000; decide, by show cells + 1 ≤ 601024; omega, by show slots + 6 ≤ 7293034; omega⟩ rfl dL_law_1075 (fun H1 locs1 hw1 hS1 _ _ => ?_)
      refine lv_istore (lv' := [(5, .int 2), (4, .int x4), (3, .ref (G.2.2 (30, 0, 0))), (2, .ref (G.2.2 (6, 0, 0))), (1, .ref (G.2.2 (0, 0, 0))), (0, .ref b)]) B.1 B.2.1 dL_law_1078 hl (by decide) rfl (fun ls hl => ?_)
      refine lv_aload_n B.1 B.2.1 dL_law_1080 rfl (lv_at hl 3 rfl) ?_
      refine lv_aload_n B.1 B.2.1 dL_law_1081 rfl (lv_at hl 5 rfl) ?_
      refine lv_iload B.1 B.2.1 dL_law_1082 (lv_at hl 1 rfl) ?_
      refine lv_iconst (v := 1) B.1 B.2.1 dL_law_1084 (by decide) ?_
      refine lv_iadd B.1 B.2.1 dL_law_1085 ?_
      refine va_sld B.1 B.2.1 hX hbl (Nat.not_le.mpr hbl) hS1 hi1 dL_law_1086 ?_
      refine mb_xV (as := [.inl (xs (x4 + 1).toNatClampNeg)]) (n := 1) (d2 := 3) (ci := 6) (N := 16) (rest := []) B hS1 hw1 hl.1 ⟨⟨by decide, by decide⟩, trivial, trivial⟩ (Nat.le_of_ble_eq_true rfl) (C_X6_await hst B.2.2.2.2.2.2.2.1 e6) (mb_gV wl_L_154 mi_X6_await ms_X6_await mn_X6 mc_X6_await) (by decide +kernel) rfl rfl rfl ⟨by show 8 + 3 + 1 ≤ 2048; decide, by show _ ≤ 84000; decide, by show cells + 1 + 0 ≤ 601024; omega, by show slots + 6 + 0 ≤ 7293034; omega⟩ rfl dL_law_1087 (fun v1 H1c locs1c hv1 _ hw1c hS1c _ _ => ?_) (fun E9 ce9 q9 H9 locs9 hv9 _ _ _ _ _ _ _ => by cases hv9)
      cases hv1
      refine lv_istore (lv' := [(6, .int b9), (5, .int 2), (4, .int x4), (3, .ref (G.2.2 (30, 0, 0))), (2, .ref (G.2.2 (6, 0, 0))), (1, .ref (G.2.2 (0, 0, 0))), (0, .ref b)]) B.1 B.2.1 dL_law_1090 hl (by decide) rfl (fun ls hl => ?_)
      refine lv_aload_n B.1 B.2.1 dL_law_1092 rfl (lv_at hl 4 rfl) ?_
      refine mb_xV (as := []) (n := 0) (d2 := 0) (ci := 6) (N := 16) (rest := []) B hS1c hw1c hl.1 ⟨⟨by decide, by decide⟩, trivial⟩ (Nat.le_of_ble_eq_true rfl) (C_X6_thrown hst B.2.2.2.2.2.2.2.1 (show F_X6_thrown _ = some (.inl (some (.inl (h3.1 6 0 0 4))), h3) from rfl)) (mb_gV wl_L_109 mi_X6_thrown ms_X6_thrown mn_X6 mc_X6_thrown) (by decide +kernel) rfl rfl rfl ⟨by show 8 + 0 + 1 ≤ 2048; decide, by show _ ≤ 84000; decide, by show cells + 1 + 0 ≤ 601024; omega, by show slots + 6 + 0 ≤ 7293034; omega⟩ rfl dL_law_1093 (fun v2 H2c locs2c hv2 _ hw2c hS2c _ _ => ?_) (fun E9 ce9 q9 H9 locs9 hv9 _ _ _ _ _ _ _ => by cases hv9)
      cases hv2
      refine lv_iload B.1 B.2.1 dL_law_1096 (lv_at hl 1 rfl) ?_
      refine lv_icmp_eq (tgt := 1103) B.1 B.2.1 dL_law_1098 (by decide) (fun _ => ?_) (fun z9 => absurd eT z9)
      refine lv_iload B.1 B.2.1 dL_law_1103 (lv_at hl 1 rfl) ?_
      refine lv_if_ne (tgt := 1120) B.1 B.2.1 dL_law_1105 (by decide) (fun _ => ?_) (fun z9 => absurd z9 (by decide))
      refine lv_goto (tgt := 1925) B.1 B.2.1 dL_law_1120 (by decide) ?_
      exact kk _ _ _ _ _ _ eS hw2c hS2c (lv_sub hl [2, 3, 4, 5, 6] rfl) (by simp only [mb_mc, mb_ms]; omega) (by simp only [mb_mc, mb_ms]; omega)
    | k9 + 2, ej => simp at ej
set_option maxRecDepth 100000 in
set_option maxHeartbeats 4000000 in
theorem lc_14 (hst : l.stackTraces = false) (B : mb_Lx p l s m #[Value.ref b] c G RL code 7 (mb_A9 s)) (hX : va_X b L xs s s.heap) (hbl : b < s.heap.size) (hS : va_S (mb_A9 s) s.heap H locs) (hw : mb_wd G h H) (hl : lv_has ls 7 [(4, .int x4), (3, .ref (G.2.2 (30, 0, 0))), (2, .ref (G.2.2 (6, 0, 0))), (1, .ref (G.2.2 (0, 0, 0))), (0, .ref b)]) (hc : cells + 1 ≤ 601024) (hs : slots + 6 ≤ 7293034) (hi1 : vp_in (x4 + 1) L) (hps : mb_PI ["java/lang/IndexOutOfBoundsException", "java/lang/IllegalStateException"] (F_X5_offer (xs (x4 + 1).toNatClampNeg) h) (F_X6_offer (xs (x4 + 1).toNatClampNeg)) S)
    (kk : ∀ (h3 : mb_AH) (H3 : Heap) (locs3 : List Loc) (ls3 : Array Slot) (cells3 slots3 : Nat), S h3 → mb_wd G h3 H3 → va_S (mb_A9 s) s.heap H3 locs3 → lv_has ls3 7 [(4, .int x4), (3, .ref (G.2.2 (30, 0, 0))), (2, .ref (G.2.2 (6, 0, 0))), (1, .ref (G.2.2 (0, 0, 0))), (0, .ref b)] → cells3 ≤ cells + 1 → slots3 ≤ slots + 6 → W p l e room_1 s m #[Value.ref b] below meth c H3 locs3 cells3 slots3 Q (F0 m 1925 ls3 [])) : W p l e room_1 s m #[Value.ref b] below meth c H locs cells slots Q (F0 m 1123 ls []) := by
  rcases hps with ⟨v, h1, h3, e5, e6, eT, eO, eS⟩ | ⟨j, E, h1, b9, h3, ej, e5, e6, eT, eS⟩
  · refine lv_aload_n B.1 B.2.1 dL_law_1123 rfl (lv_at hl 3 rfl) ?_
    refine lv_aload_n B.1 B.2.1 dL_law_1124 rfl (lv_at hl 4 rfl) ?_
    refine lv_iload B.1 B.2.1 dL_law_1125 (lv_at hl 0 rfl) ?_
    refine lv_iconst (v := 1) B.1 B.2.1 dL_law_1127 (by decide) ?_
    refine lv_iadd B.1 B.2.1 dL_law_1128 ?_
    refine va_sld B.1 B.2.1 hX hbl (Nat.not_le.mpr hbl) hS hi1 dL_law_1129 ?_
    refine lv_aload_n B.1 B.2.1 dL_law_1130 rfl (lv_at hl 1 rfl) ?_
    refine mb_xH (as := [mb_F 0 0 0, .inl (xs (x4 + 1).toNatClampNeg), mb_F 30 0 0]) (n := 3) (mc := 0) (ms := 0) (rest := []) B hS hw hl.1 ⟨⟨by decide, by decide⟩, trivial, ⟨by decide, by decide⟩, trivial⟩ (Nat.zero_le _) (H_offer_r hst B.2.2.2.2.2.2.2.1 e5) wl_L_155 mt_L_offer mn_L mw_L_offer (by decide +kernel) rfl ⟨by show 8 + 5 + 1 ≤ 2048; decide, by show _ ≤ 84000; decide, by show cells + 0 ≤ 601024; omega, by show slots + 0 ≤ 7293034; omega⟩ rfl dL_law_1131 (fun H1 locs1 hw1 hS1 _ _ => ?_)
    refine lv_istore (lv' := [(5, .int 0), (4, .int x4), (3, .ref (G.2.2 (30, 0, 0))), (2, .ref (G.2.2 (6, 0, 0))), (1, .ref (G.2.2 (0, 0, 0))), (0, .ref b)]) B.1 B.2.1 dL_law_1134 hl (by decide) rfl (fun ls hl => ?_)
    refine lv_aload_n B.1 B.2.1 dL_law_1136 rfl (lv_at hl 3 rfl) ?_
    refine lv_aload_n B.1 B.2.1 dL_law_1137 rfl (lv_at hl 5 rfl) ?_
    refine lv_iload B.1 B.2.1 dL_law_1138 (lv_at hl 1 rfl) ?_
    refine lv_iconst (v := 1) B.1 B.2.1 dL_law_1140 (by decide) ?_
    refine lv_iadd B.1 B.2.1 dL_law_1141 ?_
    refine va_sld B.1 B.2.1 hX hbl (Nat.not_le.mpr hbl) hS1 hi1 dL_law_1142 ?_
    refine mb_xV (as := [.inl (xs (x4 + 1).toNatClampNeg)]) (n := 1) (d2 := 4) (ci := 6) (N := 16) (rest := []) B hS1 hw1 hl.1 ⟨⟨by decide, by decide⟩, trivial, trivial⟩ (Nat.le_of_ble_eq_true rfl) (C_X6_offer hst B.2.2.2.2.2.2.2.1 e6) (mb_gV wl_L_157 mi_X6_offer ms_X6_offer mn_X6 mc_X6_offer) (by decide +kernel) rfl rfl rfl ⟨by show 8 + 4 + 1 ≤ 2048; decide, by show _ ≤ 84000; decide, by show cells + 0 + 0 ≤ 601024; omega, by show slots + 0 + 0 ≤ 7293034; omega⟩ rfl dL_law_1143 (fun v1 H1c locs1c hv1 _ hw1c hS1c _ _ => ?_) (fun E9 ce9 q9 H9 locs9 hv9 _ _ _ _ _ _ _ => by cases hv9)
    cases hv1
    refine lv_istore (lv' := [(6, .int v), (5, .int 0), (4, .int x4), (3, .ref (G.2.2 (30, 0, 0))), (2, .ref (G.2.2 (6, 0, 0))), (1, .ref (G.2.2 (0, 0, 0))), (0, .ref b)]) B.1 B.2.1 dL_law_1146 hl (by decide) rfl (fun ls hl => ?_)
    refine lv_aload_n B.1 B.2.1 dL_law_1148 rfl (lv_at hl 4 rfl) ?_
    refine mb_xV (as := []) (n := 0) (d2 := 0) (ci := 6) (N := 16) (rest := []) B hS1c hw1c hl.1 ⟨⟨by decide, by decide⟩, trivial⟩ (Nat.le_of_ble_eq_true rfl) (C_X6_thrown hst B.2.2.2.2.2.2.2.1 (show F_X6_thrown _ = some (.inl (some (.inl (h3.1 6 0 0 4))), h3) from rfl)) (mb_gV wl_L_109 mi_X6_thrown ms_X6_thrown mn_X6 mc_X6_thrown) (by decide +kernel) rfl rfl rfl ⟨by show 8 + 0 + 1 ≤ 2048; decide, by show _ ≤ 84000; decide, by show cells + 0 + 0 ≤ 601024; omega, by show slots + 0 + 0 ≤ 7293034; omega⟩ rfl dL_law_1149 (fun v2 H2c locs2c hv2 _ hw2c hS2c _ _ => ?_) (fun E9 ce9 q9 H9 locs9 hv9 _ _ _ _ _ _ _ => by cases hv9)
    cases hv2
    refine lv_iload B.1 B.2.1 dL_law_1152 (lv_at hl 1 rfl) ?_
    refine lv_icmp_eq (tgt := 1159) B.1 B.2.1 dL_law_1154 (by decide) (fun _ => ?_) (fun z9 => absurd eT z9)
    refine lv_iload B.1 B.2.1 dL_law_1159 (lv_at hl 1 rfl) ?_
    refine lv_if_ne (tgt := 1176) B.1 B.2.1 dL_law_1161 (by decide) (fun z9 => absurd rfl z9) (fun _ => ?_)
    refine lv_aload_n B.1 B.2.1 dL_law_1164 rfl (lv_at hl 3 rfl) ?_
    refine lv_iconst (v := 0) B.1 B.2.1 dL_law_1165 (by decide) ?_
    refine mb_outld B hw2c dL_law_1166 ?_
    refine lv_iload B.1 B.2.1 dL_law_1167 (lv_at hl 0 rfl) ?_
    refine lv_i2l B.1 B.2.1 dL_law_1169 rfl ?_
    refine W.lcmp B.1 B.2.1 dL_law_1170 ?_
    refine lv_if_eq (tgt := 1176) B.1 B.2.1 dL_law_1171 (by decide) (fun _ => ?_) (fun z9 => absurd (by rw [eO]; exact mb_lc0 _) z9)
    refine lv_goto (tgt := 1925) B.1 B.2.1 dL_law_1176 (by decide) ?_
    exact kk _ _ _ _ _ _ eS hw2c hS2c (lv_sub hl [2, 3, 4, 5, 6] rfl) (by simp only [mb_mc, mb_ms]; omega) (by simp only [mb_mc, mb_ms]; omega)
  · match j, ej with
    | 0, ej =>
      cases ej
      refine lv_aload_n B.1 B.2.1 dL_law_1123 rfl (lv_at hl 3 rfl) ?_
      refine lv_aload_n B.1 B.2.1 dL_law_1124 rfl (lv_at hl 4 rfl) ?_
      refine lv_iload B.1 B.2.1 dL_law_1125 (lv_at hl 0 rfl) ?_
      refine lv_iconst (v := 1) B.1 B.2.1 dL_law_1127 (by decide) ?_
      refine lv_iadd B.1 B.2.1 dL_law_1128 ?_
      refine va_sld B.1 B.2.1 hX hbl (Nat.not_le.mpr hbl) hS hi1 dL_law_1129 ?_
      refine lv_aload_n B.1 B.2.1 dL_law_1130 rfl (lv_at hl 1 rfl) ?_
      refine mb_xH (as := [mb_F 0 0 0, .inl (xs (x4 + 1).toNatClampNeg), mb_F 30 0 0]) (n := 3) (mc := 1) (ms := 6) (rest := []) B hS hw hl.1 ⟨⟨by decide, by decide⟩, trivial, ⟨by decide, by decide⟩, trivial⟩ (Nat.zero_le _) (H_offer_t1 hst B.2.2.2.2.2.2.2.1 e5) wl_L_155 mt_L_offer mn_L mw_L_offer (by decide +kernel) rfl ⟨by show 8 + 5 + 1 ≤ 2048; decide, by show _ ≤ 84000; decide, by show cells + 1 ≤ 601024; omega, by show slots + 6 ≤ 7293034; omega⟩ rfl dL_law_1131 (fun H1 locs1 hw1 hS1 _ _ => ?_)
      refine lv_istore (lv' := [(5, .int 1), (4, .int x4), (3, .ref (G.2.2 (30, 0, 0))), (2, .ref (G.2.2 (6, 0, 0))), (1, .ref (G.2.2 (0, 0, 0))), (0, .ref b)]) B.1 B.2.1 dL_law_1134 hl (by decide) rfl (fun ls hl => ?_)
      refine lv_aload_n B.1 B.2.1 dL_law_1136 rfl (lv_at hl 3 rfl) ?_
      refine lv_aload_n B.1 B.2.1 dL_law_1137 rfl (lv_at hl 5 rfl) ?_
      refine lv_iload B.1 B.2.1 dL_law_1138 (lv_at hl 1 rfl) ?_
      refine lv_iconst (v := 1) B.1 B.2.1 dL_law_1140 (by decide) ?_
      refine lv_iadd B.1 B.2.1 dL_law_1141 ?_
      refine va_sld B.1 B.2.1 hX hbl (Nat.not_le.mpr hbl) hS1 hi1 dL_law_1142 ?_
      refine mb_xV (as := [.inl (xs (x4 + 1).toNatClampNeg)]) (n := 1) (d2 := 4) (ci := 6) (N := 16) (rest := []) B hS1 hw1 hl.1 ⟨⟨by decide, by decide⟩, trivial, trivial⟩ (Nat.le_of_ble_eq_true rfl) (C_X6_offer hst B.2.2.2.2.2.2.2.1 e6) (mb_gV wl_L_157 mi_X6_offer ms_X6_offer mn_X6 mc_X6_offer) (by decide +kernel) rfl rfl rfl ⟨by show 8 + 4 + 1 ≤ 2048; decide, by show _ ≤ 84000; decide, by show cells + 1 + 0 ≤ 601024; omega, by show slots + 6 + 0 ≤ 7293034; omega⟩ rfl dL_law_1143 (fun v1 H1c locs1c hv1 _ hw1c hS1c _ _ => ?_) (fun E9 ce9 q9 H9 locs9 hv9 _ _ _ _ _ _ _ => by cases hv9)
      cases hv1
      refine lv_istore (lv' := [(6, .int b9), (5, .int 1), (4, .int x4), (3, .ref (G.2.2 (30, 0, 0))), (2, .ref (G.2.2 (6, 0, 0))), (1, .ref (G.2.2 (0, 0, 0))), (0, .ref b)]) B.1 B.2.1 dL_law_1146 hl (by decide) rfl (fun ls hl => ?_)
      refine lv_aload_n B.1 B.2.1 dL_law_1148 rfl (lv_at hl 4 rfl) ?_
      refine mb_xV (as := []) (n := 0) (d2 := 0) (ci := 6) (N := 16) (rest := []) B hS1c hw1c hl.1 ⟨⟨by decide, by decide⟩, trivial⟩ (Nat.le_of_ble_eq_true rfl) (C_X6_thrown hst B.2.2.2.2.2.2.2.1 (show F_X6_thrown _ = some (.inl (some (.inl (h3.1 6 0 0 4))), h3) from rfl)) (mb_gV wl_L_109 mi_X6_thrown ms_X6_thrown mn_X6 mc_X6_thrown) (by decide +kernel) rfl rfl rfl ⟨by show 8 + 0 + 1 ≤ 2048; decide, by show _ ≤ 84000; decide, by show cells + 1 + 0 ≤ 601024; omega, by show slots + 6 + 0 ≤ 7293034; omega⟩ rfl dL_law_1149 (fun v2 H2c locs2c hv2 _ hw2c hS2c _ _ => ?_) (fun E9 ce9 q9 H9 locs9 hv9 _ _ _ _ _ _ _ => by cases hv9)
      cases hv2
      refine lv_iload B.1 B.2.1 dL_law_1152 (lv_at hl 1 rfl) ?_
      refine lv_icmp_eq (tgt := 1159) B.1 B.2.1 dL_law_1154 (by decide) (fun _ => ?_) (fun z9 => absurd eT z9)
      refine lv_iload B.1 B.2.1 dL_law_1159 (lv_at hl 1 rfl) ?_
      refine lv_if_ne (tgt := 1176) B.1 B.2.1 dL_law_1161 (by decide) (fun _ => ?_) (fun z9 => absurd z9 (by decide))
      refine lv_goto (tgt := 1925) B.1 B.2.1 dL_law_1176 (by decide) ?_
      exact kk _ _ _ _ _ _ eS hw2c hS2c (lv_sub hl [2, 3, 4, 5, 6] rfl) (by simp only [mb_mc, mb_ms]; omega) (by simp only [mb_mc, mb_ms]; omega)
    | 1, ej =>
      cases ej
      refine lv_aload_n B.1 B.2.1 dL_law_1123 rfl (lv_at hl 3 rfl) ?_
      refine lv_aload_n B.1 B.2.1 dL_law_1124 rfl (lv_at hl 4 rfl) ?_
      refine lv_iload B.1 B.2.1 dL_law_1125 (lv_at hl 0 rfl) ?_
      refine lv_iconst (v := 1) B.1 B.2.1 dL_law_1127 (by decide) ?_
      refine lv_iadd B.1 B.2.1 dL_law_1128 ?_
      refine va_sld B.1 B.2.1 hX hbl (Nat.not_le.mpr hbl) hS hi1 dL_law_1129 ?_
      refine lv_aload_n B.1 B.2.1 dL_law_1130 rfl (lv_at hl 1 rfl) ?_
      refine mb_xH (as := [mb_F 0 0 0, .inl (xs (x4 + 1).toNatClampNeg), mb_F 30 0 0]) (n := 3) (mc := 1) (ms := 6) (rest := []) B hS hw hl.1 ⟨⟨by decide, by decide⟩, trivial, ⟨by decide, by decide⟩, trivial⟩ (Nat.zero_le _) (H_offer_t2 hst B.2.2.2.2.2.2.2.1 e5) wl_L_155 mt_L_offer mn_L mw_L_offer (by decide +kernel) rfl ⟨by show 8 + 5 + 1 ≤ 2048; decide, by show _ ≤ 84000; decide, by show cells + 1 ≤ 601024; omega, by show slots + 6 ≤ 7293034; omega⟩ rfl dL_law_1131 (fun H1 locs1 hw1 hS1 _ _ => ?_)
      refine lv_istore (lv' := [(5, .int 2), (4, .int x4), (3, .ref (G.2.2 (30, 0, 0))), (2, .ref (G.2.2 (6, 0, 0))), (1, .ref (G.2.2 (0, 0, 0))), (0, .ref b)]) B.1 B.2.1 dL_law_1134 hl (by decide) rfl (fun ls hl => ?_)
      refine lv_aload_n B.1 B.2.1 dL_law_1136 rfl (lv_at hl 3 rfl) ?_
      refine lv_aload_n B.1 B.2.1 dL_law_1137 rfl (lv_at hl 5 rfl) ?_
      refine lv_iload B.1 B.2.1 dL_law_1138 (lv_at hl 1 rfl) ?_
      refine lv_iconst (v := 1) B.1 B.2.1 dL_law_1140 (by decide) ?_
      refine lv_iadd B.1 B.2.1 dL_law_1141 ?_
      refine va_sld B.1 B.2.1 hX hbl (Nat.not_le.mpr hbl) hS1 hi1 dL_law_1142 ?_
      refine mb_xV (as := [.inl (xs (x4 + 1).toNatClampNeg)]) (n := 1) (d2 := 4) (ci := 6) (N := 16) (rest := []) B hS1 hw1 hl.1 ⟨⟨by decide, by decide⟩, trivial, trivial⟩ (Nat.le_of_ble_eq_true rfl) (C_X6_offer hst B.2.2.2.2.2.2.2.1 e6) (mb_gV wl_L_157 mi_X6_offer ms_X6_offer mn_X6 mc_X6_offer) (by decide +kernel) rfl rfl rfl ⟨by show 8 + 4 + 1 ≤ 2048; decide, by show _ ≤ 84000; decide, by show cells + 1 + 0 ≤ 601024; omega, by show slots + 6 + 0 ≤ 7293034; omega⟩ rfl dL_law_1143 (fun v1 H1c locs1c hv1 _ hw1c hS1c _ _ => ?_) (fun E9 ce9 q9 H9 locs9 hv9 _ _ _ _ _ _ _ => by cases hv9)
      cases hv1
      refine lv_istore (lv' := [(6, .int b9), (5, .int 2), (4, .int x4), (3, .ref (G.2.2 (30, 0, 0))), (2, .ref (G.2.2 (6, 0, 0))), (1, .ref (G.2.2 (0, 0, 0))), (0, .ref b)]) B.1 B.2.1 dL_law_1146 hl (by decide) rfl (fun ls hl => ?_)
      refine lv_aload_n B.1 B.2.1 dL_law_1148 rfl (lv_at hl 4 rfl) ?_
      refine mb_xV (as := []) (n := 0) (d2 := 0) (ci := 6) (N := 16) (rest := []) B hS1c hw1c hl.1 ⟨⟨by decide, by decide⟩, trivial⟩ (Nat.le_of_ble_eq_true rfl) (C_X6_thrown hst B.2.2.2.2.2.2.2.1 (show F_X6_thrown _ = some (.inl (some (.inl (h3.1 6 0 0 4))), h3) from rfl)) (mb_gV wl_L_109 mi_X6_thrown ms_X6_thrown mn_X6 mc_X6_thrown) (by decide +kernel) rfl rfl rfl ⟨by show 8 + 0 + 1 ≤ 2048; decide, by show _ ≤ 84000; decide, by show cells + 1 + 0 ≤ 601024; omega, by show slots + 6 + 0 ≤ 7293034; omega⟩ rfl dL_law_1149 (fun v2 H2c locs2c hv2 _ hw2c hS2c _ _ => ?_) (fun E9 ce9 q9 H9 locs9 hv9 _ _ _ _ _ _ _ => by cases hv9)
      cases hv2
      refine lv_iload B.1 B.2.1 dL_law_1152 (lv_at hl 1 rfl) ?_
      refine lv_icmp_eq (tgt := 1159) B.1 B.2.1 dL_law_1154 (by decide) (fun _ => ?_) (fun z9 => absurd eT z9)
      refine lv_iload B.1 B.2.1 dL_law_1159 (lv_at hl 1 rfl) ?_
      refine lv_if_ne (tgt := 1176) B.1 B.2.1 dL_law_1161 (by decide) (fun _ => ?_) (fun z9 => absurd z9 (by decide))
      refine lv_goto (tgt := 1925) B.1 B.2.1 dL_law_1176 (by decide) ?_
      exact kk _ _ _ _ _ _ eS hw2c hS2c (lv_sub hl [2, 3, 4, 5, 6] rfl) (by simp only [mb_mc, mb_ms]; omega) (by simp only [mb_mc, mb_ms]; omega)
    | k9 + 2, ej => simp at ej
set_option maxRecDepth 100000 in
set_option maxHeartbeats 4000000 in
theorem lc_15 (hst : l.stackTraces = false) (B : mb_Lx p l s m #[Value.ref b] c G RL code 7 (mb_A9 s)) (hX : va_X b L xs s s.heap) (hbl : b < s.heap.size) (hS : va_S (mb_A9 s) s.heap H locs) (hw : mb_wd G h H) (hl : lv_has ls 7 [(4, .int x4), (3, .ref (G.2.2 (30, 0, 0))), (2, .ref (G.2.2 (6, 0, 0))), (1, .ref (G.2.2 (0, 0, 0))), (0, .ref b)]) (hc : cells + 1 ≤ 601024) (hs : slots + 6 ≤ 7293034) (hi1 : vp_in (x4 + 1) L) (hps : mb_PP (F_X5_waiting (xs (x4 + 1).toNatClampNeg) h) (F_X6_waiting (xs (x4 + 1).toNatClampNeg)) S)
    (kk : ∀ (h3 : mb_AH) (H3 : Heap) (locs3 : List Loc) (ls3 : Array Slot) (cells3 slots3 : Nat), S h3 → mb_wd G h3 H3 → va_S (mb_A9 s) s.heap H3 locs3 → lv_has ls3 7 [(4, .int x4), (3, .ref (G.2.2 (30, 0, 0))), (2, .ref (G.2.2 (6, 0, 0))), (1, .ref (G.2.2 (0, 0, 0))), (0, .ref b)] → cells3 ≤ cells + 1 → slots3 ≤ slots + 6 → W p l e room_1 s m #[Value.ref b] below meth c H3 locs3 cells3 slots3 Q (F0 m 1925 ls3 [])) : W p l e room_1 s m #[Value.ref b] below meth c H locs cells slots Q (F0 m 1179 ls []) := by
  obtain ⟨v, h1, h3, e5, e6, eS⟩ := hps
  refine lv_aload_n B.1 B.2.1 dL_law_1179 rfl (lv_at hl 3 rfl) ?_
  refine lv_aload_n B.1 B.2.1 dL_law_1180 rfl (lv_at hl 4 rfl) ?_
  refine lv_iload B.1 B.2.1 dL_law_1181 (lv_at hl 0 rfl) ?_
  refine lv_iconst (v := 1) B.1 B.2.1 dL_law_1183 (by decide) ?_
  refine lv_iadd B.1 B.2.1 dL_law_1184 ?_
  refine va_sld B.1 B.2.1 hX hbl (Nat.not_le.mpr hbl) hS hi1 dL_law_1185 ?_
  refine mb_xV (as := [.inl (xs (x4 + 1).toNatClampNeg)]) (n := 1) (d2 := 4) (ci := 5) (N := 6) (rest := []) B hS hw hl.1 ⟨⟨by decide, by decide⟩, trivial, trivial⟩ (Nat.le_of_ble_eq_true rfl) (C_X5_waiting hst B.2.2.2.2.2.2.2.1 e5) (mb_gV wl_L_158 mi_X5_waiting ms_X5_waiting mn_X5 mc_X5_waiting) (by decide +kernel) rfl rfl rfl ⟨by show 8 + 4 + 1 ≤ 2048; decide, by show _ ≤ 84000; decide, by show cells + 0 ≤ 601024; omega, by show slots + 0 ≤ 7293034; omega⟩ rfl dL_law_1186 (fun v1 H1c locs1c hv1 _ hw1c hS1c _ _ => ?_) (fun E9 ce9 q9 H9 locs9 hv9 _ _ _ _ _ _ _ => by cases hv9)
  cases hv1
  refine lv_aload_n B.1 B.2.1 dL_law_1189 rfl (lv_at hl 2 rfl) ?_
  refine lv_aload_n B.1 B.2.1 dL_law_1190 rfl (lv_at hl 4 rfl) ?_
  refine lv_iload B.1 B.2.1 dL_law_1191 (lv_at hl 0 rfl) ?_
  refine lv_iconst (v := 1) B.1 B.2.1 dL_law_1193 (by decide) ?_
  refine lv_iadd B.1 B.2.1 dL_law_1194 ?_
  refine va_sld B.1 B.2.1 hX hbl (Nat.not_le.mpr hbl) hS1c hi1 dL_law_1195 ?_
  refine mb_xV (as := [.inl (xs (x4 + 1).toNatClampNeg)]) (n := 1) (d2 := 4) (ci := 6) (N := 16) (rest := [.int v]) B hS1c hw1c hl.1 ⟨⟨by decide, by decide⟩, trivial, trivial⟩ (Nat.le_of_ble_eq_true rfl) (C_X6_waiting hst B.2.2.2.2.2.2.2.1 e6) (mb_gV wl_L_161 mi_X6_waiting ms_X6_waiting mn_X6 mc_X6_waiting) (by decide +kernel) rfl rfl rfl ⟨by show 8 + 4 + 1 ≤ 2048; decide, by show _ ≤ 84000; decide, by show cells + 0 ≤ 601024; omega, by show slots + 0 ≤ 7293034; omega⟩ rfl dL_law_1196 (fun v2 H2c locs2c hv2 _ hw2c hS2c _ _ => ?_) (fun E9 ce9 q9 H9 locs9 hv9 _ _ _ _ _ _ _ => by cases hv9)
  cases hv2
  refine lv_icmp_eq (tgt := 1925) B.1 B.2.1 dL_law_1199 (by decide) (fun _ => ?_) (fun z9 => absurd rfl z9)
  exact kk _ _ _ _ _ _ eS hw2c hS2c (lv_sub hl [0, 1, 2, 3, 4] rfl) (by simp only [mb_mc, mb_ms]; omega) (by simp only [mb_mc, mb_ms]; omega)
set_option maxRecDepth 100000 in
set_option maxHeartbeats 4000000 in
theorem lc_16 (hst : l.stackTraces = false) (B : mb_Lx p l s m #[Value.ref b] c G RL code 7 (mb_A9 s)) (hX : va_X b L xs s s.heap) (hbl : b < s.heap.size) (hS : va_S (mb_A9 s) s.heap H locs) (hw : mb_wd G h H) (hl : lv_has ls 7 [(4, .int x4), (3, .ref (G.2.2 (30, 0, 0))), (2, .ref (G.2.2 (6, 0, 0))), (1, .ref (G.2.2 (0, 0, 0))), (0, .ref b)]) (hc : cells + 1 ≤ 601024) (hs : slots + 6 ≤ 7293034) (hi1 : vp_in (x4 + 1) L) (hps : mb_PI ["java/lang/IndexOutOfBoundsException"] (F_X5_bestBerth (xs (x4 + 1).toNatClampNeg) h) (F_X6_bestBerth (xs (x4 + 1).toNatClampNeg)) S)
    (kk : ∀ (h3 : mb_AH) (H3 : Heap) (locs3 : List Loc) (ls3 : Array Slot) (cells3 slots3 : Nat), S h3 → mb_wd G h3 H3 → va_S (mb_A9 s) s.heap H3 locs3 → lv_has ls3 7 [(4, .int x4), (3, .ref (G.2.2 (30, 0, 0))), (2, .ref (G.2.2 (6, 0, 0))), (1, .ref (G.2.2 (0, 0, 0))), (0, .ref b)] → cells3 ≤ cells + 1 → slots3 ≤ slots + 6 → W p l e room_1 s m #[Value.ref b] below meth c H3 locs3 cells3 slots3 Q (F0 m 1925 ls3 [])) : W p l e room_1 s m #[Value.ref b] below meth c H locs cells slots Q (F0 m 1204 ls []) := by
  rcases hps with ⟨v, h1, h3, e5, e6, eT, eO, eS⟩ | ⟨j, E, h1, b9, h3, ej, e5, e6, eT, eS⟩
  · refine lv_aload_n B.1 B.2.1 dL_law_1204 rfl (lv_at hl 3 rfl) ?_
    refine lv_aload_n B.1 B.2.1 dL_law_1205 rfl (lv_at hl 4 rfl) ?_
    refine lv_iload B.1 B.2.1 dL_law_1206 (lv_at hl 0 rfl) ?_
    refine lv_iconst (v := 1) B.1 B.2.1 dL_law_1208 (by decide) ?_
    refine lv_iadd B.1 B.2.1 dL_law_1209 ?_
    refine va_sld B.1 B.2.1 hX hbl (Nat.not_le.mpr hbl) hS hi1 dL_law_1210 ?_
    refine lv_aload_n B.1 B.2.1 dL_law_1211 rfl (lv_at hl 1 rfl) ?_
    refine mb_xH (as := [mb_F 0 0 0, .inl (xs (x4 + 1).toNatClampNeg), mb_F 30 0 0]) (n := 3) (mc := 0) (ms := 0) (rest := []) B hS hw hl.1 ⟨⟨by decide, by decide⟩, trivial, ⟨by decide, by decide⟩, trivial⟩ (Nat.zero_le _) (H_bestBerth_r hst B.2.2.2.2.2.2.2.1 e5) wl_L_162 mt_L_bestBerth mn_L mw_L_bestBerth (by decide +kernel) rfl ⟨by show 8 + 4 + 1 ≤ 2048; decide, by show _ ≤ 84000; decide, by show cells + 0 ≤ 601024; omega, by show slots + 0 ≤ 7293034; omega⟩ rfl dL_law_1212 (fun H1 locs1 hw1 hS1 _ _ => ?_)
    refine lv_istore (lv' := [(5, .int 0), (4, .int x4), (3, .ref (G.2.2 (30, 0, 0))), (2, .ref (G.2.2 (6, 0, 0))), (1, .ref (G.2.2 (0, 0, 0))), (0, .ref b)]) B.1 B.2.1 dL_law_1215 hl (by decide) rfl (fun ls hl => ?_)
    refine lv_aload_n B.1 B.2.1 dL_law_1217 rfl (lv_at hl 3 rfl) ?_
    refine lv_aload_n B.1 B.2.1 dL_law_1218 rfl (lv_at hl 5 rfl) ?_
    refine lv_iload B.1 B.2.1 dL_law_1219 (lv_at hl 1 rfl) ?_
    refine lv_iconst (v := 1) B.1 B.2.1 dL_law_1221 (by decide) ?_
    refine lv_iadd B.1 B.2.1 dL_law_1222 ?_
    refine va_sld B.1 B.2.1 hX hbl (Nat.not_le.mpr hbl) hS1 hi1 dL_law_1223 ?_
    refine mb_xV (as := [.inl (xs (x4 + 1).toNatClampNeg)]) (n := 1) (d2 := 4) (ci := 6) (N := 16) (rest := []) B hS1 hw1 hl.1 ⟨⟨by decide, by decide⟩, trivial, trivial⟩ (Nat.le_of_ble_eq_true rfl) (C_X6_bestBerth hst B.2.2.2.2.2.2.2.1 e6) (mb_gV wl_L_164 mi_X6_bestBerth ms_X6_bestBerth mn_X6 mc_X6_bestBerth) (by decide +kernel) rfl rfl rfl ⟨by show 8 + 4 + 1 ≤ 2048; decide, by show _ ≤ 84000; decide, by show cells + 0 + 0 ≤ 601024; omega, by show slots + 0 + 0 ≤ 7293034; omega⟩ rfl dL_law_1224 (fun v1 H1c locs1c hv1 _ hw1c hS1c _ _ => ?_) (fun E9 ce9 q9 H9 locs9 hv9 _ _ _ _ _ _ _ => by cases hv9)
    cases hv1
    refine lv_istore (lv' := [(6, .int v), (5, .int 0), (4, .int x4), (3, .ref (G.2.2 (30, 0, 0))), (2, .ref (G.2.2 (6, 0, 0))), (1, .ref (G.2.2 (0, 0, 0))), (0, .ref b)]) B.1 B.2.1 dL_law_1227 hl (by decide) rfl (fun ls hl => ?_)
    refine lv_aload_n B.1 B.2.1 dL_law_1229 rfl (lv_at hl 4 rfl) ?_
    refine mb_xV (as := []) (n := 0) (d2 := 0) (ci := 6) (N := 16) (rest := []) B hS1c hw1c hl.1 ⟨⟨by decide, by decide⟩, trivial⟩ (Nat.le_of_ble_eq_true rfl) (C_X6_thrown hst B.2.2.2.2.2.2.2.1 (show F_X6_thrown _ = some (.inl (some (.inl (h3.1 6 0 0 4))), h3) from rfl)) (mb_gV wl_L_109 mi_X6_thrown ms_X6_thrown mn_X6 mc_X6_thrown) (by decide +kernel) rfl rfl rfl ⟨by show 8 + 0 + 1 ≤ 2048; decide, by show _ ≤ 84000; decide, by show cells + 0 + 0 ≤ 601024; omega, by show slots + 0 + 0 ≤ 7293034; omega⟩ rfl dL_law_1230 (fun v2 H2c locs2c hv2 _ hw2c hS2c _ _ => ?_) (fun E9 ce9 q9 H9 locs9 hv9 _ _ _ _ _ _ _ => by cases hv9)
    cases hv2
    refine lv_iload B.1 B.2.1 dL_law_1233 (lv_at hl 1 rfl) ?_
    refine lv_icmp_eq (tgt := 1240) B.1 B.2.1 dL_law_1235 (by decide) (fun _ => ?_) (fun z9 => absurd eT z9)
    refine lv_iload B.1 B.2.1 dL_law_1240 (lv_at hl 1 rfl) ?_
    refine lv_if_ne (tgt := 1257) B.1 B.2.1 dL_law_1242 (by decide) (fun z9 => absurd rfl z9) (fun _ => ?_)
    refine lv_aload_n B.1 B.2.1 dL_law_1245 rfl (lv_at hl 3 rfl) ?_
    refine lv_iconst (v := 0) B.1 B.2.1 dL_law_1246 (by decide) ?_
    refine mb_outld B hw2c dL_law_1247 ?_
    refine lv_iload B.1 B.2.1 dL_law_1248 (lv_at hl 0 rfl) ?_
    refine lv_i2l B.1 B.2.1 dL_law_1250 rfl ?_
    refine W.lcmp B.1 B.2.1 dL_law_1251 ?_
    refine lv_if_eq (tgt := 1257) B.1 B.2.1 dL_law_1252 (by decide) (fun _ => ?_) (fun z9 => absurd (by rw [eO]; exact mb_lc0 _) z9)
    refine lv_goto (tgt := 1925) B.1 B.2.1 dL_law_1257 (by decide) ?_
    exact kk _ _ _ _ _ _ eS hw2c hS2c (lv_sub hl [2, 3, 4, 5, 6] rfl) (by simp only [mb_mc, mb_ms]; omega) (by simp only [mb_mc, mb_ms]; omega)
  · match j, ej with
    | 0, ej =>
      cases ej
      refine lv_aload_n B.1 B.2.1 dL_law_1204 rfl (lv_at hl 3 rfl) ?_
      refine lv_aload_n B.1 B.2.1 dL_law_1205 rfl (lv_at hl 4 rfl) ?_
      refine lv_iload B.1 B.2.1 dL_law_1206 (lv_at hl 0 rfl) ?_
      refine lv_iconst (v := 1) B.1 B.2.1 dL_law_1208 (by decide) ?_
      refine lv_iadd B.1 B.2.1 dL_law_1209 ?_
      refine va_sld B.1 B.2.1 hX hbl (Nat.not_le.mpr hbl) hS hi1 dL_law_1210 ?_
      refine lv_aload_n B.1 B.2.1 dL_law_1211 rfl (lv_at hl 1 rfl) ?_
      refine mb_xH (as := [mb_F 0 0 0, .inl (xs (x4 + 1).toNatClampNeg), mb_F 30 0 0]) (n := 3) (mc := 1) (ms := 6) (rest := []) B hS hw hl.1 ⟨⟨by decide, by decide⟩, trivial, ⟨by decide, by decide⟩, trivial⟩ (Nat.zero_le _) (H_bestBerth_t1 hst B.2.2.2.2.2.2.2.1 e5) wl_L_162 mt_L_bestBerth mn_L mw_L_bestBerth (by decide +kernel) rfl ⟨by show 8 + 4 + 1 ≤ 2048; decide, by show _ ≤ 84000; decide, by show cells + 1 ≤ 601024; omega, by show slots + 6 ≤ 7293034; omega⟩ rfl dL_law_1212 (fun H1 locs1 hw1 hS1 _ _ => ?_)
      refine lv_istore (lv' := [(5, .int 1), (4, .int x4), (3, .ref (G.2.2 (30, 0, 0))), (2, .ref (G.2.2 (6, 0, 0))), (1, .ref (G.2.2 (0, 0, 0))), (0, .ref b)]) B.1 B.2.1 dL_law_1215 hl (by decide) rfl (fun ls hl => ?_)
      refine lv_aload_n B.1 B.2.1 dL_law_1217 rfl (lv_at hl 3 rfl) ?_
      refine lv_aload_n B.1 B.2.1 dL_law_1218 rfl (lv_at hl 5 rfl) ?_
      refine lv_iload B.1 B.2.1 dL_law_1219 (lv_at hl 1 rfl) ?_
      refine lv_iconst (v := 1) B.1 B.2.1 dL_law_1221 (by decide) ?_
      refine lv_iadd B.1 B.2.1 dL_law_1222 ?_
      refine va_sld B.1 B.2.1 hX hbl (Nat.not_le.mpr hbl) hS1 hi1 dL_law_1223 ?_
      refine mb_xV (as := [.inl (xs (x4 + 1).toNatClampNeg)]) (n := 1) (d2 := 4) (ci := 6) (N := 16) (rest := []) B hS1 hw1 hl.1 ⟨⟨by decide, by decide⟩, trivial, trivial⟩ (Nat.le_of_ble_eq_true rfl) (C_X6_bestBerth hst B.2.2.2.2.2.2.2.1 e6) (mb_gV wl_L_164 mi_X6_bestBerth ms_X6_bestBerth mn_X6 mc_X6_bestBerth) (by decide +kernel) rfl rfl rfl ⟨by show 8 + 4 + 1 ≤ 2048; decide, by show _ ≤ 84000; decide, by show cells + 1 + 0 ≤ 601024; omega, by show slots + 6 + 0 ≤ 7293034; omega⟩ rfl dL_law_1224 (fun v1 H1c locs1c hv1 _ hw1c hS1c _ _ => ?_) (fun E9 ce9 q9 H9 locs9 hv9 _ _ _ _ _ _ _ => by cases hv9)
      cases hv1
      refine lv_istore (lv' := [(6, .int b9), (5, .int 1), (4, .int x4), (3, .ref (G.2.2 (30, 0, 0))), (2, .ref (G.2.2 (6, 0, 0))), (1, .ref (G.2.2 (0, 0, 0))), (0, .ref b)]) B.1 B.2.1 dL_law_1227 hl (by decide) rfl (fun ls hl => ?_)
      refine lv_aload_n B.1 B.2.1 dL_law_1229 rfl (lv_at hl 4 rfl) ?_
      refine mb_xV (as := []) (n := 0) (d2 := 0) (ci := 6) (N := 16) (rest := []) B hS1c hw1c hl.1 ⟨⟨by decide, by decide⟩, trivial⟩ (Nat.le_of_ble_eq_true rfl) (C_X6_thrown hst B.2.2.2.2.2.2.2.1 (show F_X6_thrown _ = some (.inl (some (.inl (h3.1 6 0 0 4))), h3) from rfl)) (mb_gV wl_L_109 mi_X6_thrown ms_X6_thrown mn_X6 mc_X6_thrown) (by decide +kernel) rfl rfl rfl ⟨by show 8 + 0 + 1 ≤ 2048; decide, by show _ ≤ 84000; decide, by show cells + 1 + 0 ≤ 601024; omega, by show slots + 6 + 0 ≤ 7293034; omega⟩ rfl dL_law_1230 (fun v2 H2c locs2c hv2 _ hw2c hS2c _ _ => ?_) (fun E9 ce9 q9 H9 locs9 hv9 _ _ _ _ _ _ _ => by cases hv9)
      cases hv2
      refine lv_iload B.1 B.2.1 dL_law_1233 (lv_at hl 1 rfl) ?_
      refine lv_icmp_eq (tgt := 1240) B.1 B.2.1 dL_law_1235 (by decide) (fun _ => ?_) (fun z9 => absurd eT z9)
      refine lv_iload B.1 B.2.1 dL_law_1240 (lv_at hl 1 rfl) ?_
      refine lv_if_ne (tgt := 1257) B.1 B.2.1 dL_law_1242 (by decide) (fun _ => ?_) (fun z9 => absurd z9 (by decide))
      refine lv_goto (tgt := 1925) B.1 B.2.1 dL_law_1257 (by decide) ?_
      exact kk _ _ _ _ _ _ eS hw2c hS2c (lv_sub hl [2, 3, 4, 5, 6] rfl) (by simp only [mb_mc, mb_ms]; omega) (by simp only [mb_mc, mb_ms]; omega)
    | k9 + 1, ej => simp at ej
set_option maxRecDepth 100000 in
set_option maxHeartbeats 4000000 in
theorem lc_17 (hst : l.stackTraces = false) (B : mb_Lx p l s m #[Value.ref b] c G RL code 7 (mb_A9 s)) (hX : va_X b L xs s s.heap) (hbl : b < s.heap.size) (hS : va_S (mb_A9 s) s.heap H locs) (hw : mb_wd G h H) (hl : lv_has ls 7 [(4, .int x4), (3, .ref (G.2.2 (30, 0, 0))), (2, .ref (G.2.2 (6, 0, 0))), (1, .ref (G.2.2 (0, 0, 0))), (0, .ref b)]) (hc : cells + 1 ≤ 601024) (hs : slots + 6 ≤ 7293034) (hi1 : vp_in (x4 + 1) L) (hps : mb_PI ["java/lang/IllegalArgumentException", "java/lang/IllegalStateException"] (F_X5_pass (xs (x4 + 1).toNatClampNeg) h) (F_X6_pass (xs (x4 + 1).toNatClampNeg)) S)
    (kk : ∀ (h3 : mb_AH) (H3 : Heap) (locs3 : List Loc) (ls3 : Array Slot) (cells3 slots3 : Nat), S h3 → mb_wd G h3 H3 → va_S (mb_A9 s) s.heap H3 locs3 → lv_has ls3 7 [(4, .int x4), (3, .ref (G.2.2 (30, 0, 0))), (2, .ref (G.2.2 (6, 0, 0))), (1, .ref (G.2.2 (0, 0, 0))), (0, .ref b)] → cells3 ≤ cells + 1 → slots3 ≤ slots + 6 → W p l e room_1 s m #[Value.ref b] below meth c H3 locs3 cells3 slots3 Q (F0 m 1925 ls3 [])) : W p l e room_1 s m #[Value.ref b] below meth c H locs cells slots Q (F0 m 1260 ls []) := by
  rcases hps with ⟨v, h1, h3, e5, e6, eT, eO, eS⟩ | ⟨j, E, h1, b9, h3, ej, e5, e6, eT, eS⟩
  · refine lv_aload_n B.1 B.2.1 dL_law_1260 rfl (lv_at hl 3 rfl) ?_
    refine lv_aload_n B.1 B.2.1 dL_law_1261 rfl (lv_at hl 4 rfl) ?_
    refine lv_iload B.1 B.2.1 dL_law_1262 (lv_at hl 0 rfl) ?_
    refine lv_iconst (v := 1) B.1 B.2.1 dL_law_1264 (by decide) ?_
    refine lv_iadd B.1 B.2.1 dL_law_1265 ?_
    refine va_sld B.1 B.2.1 hX hbl (Nat.not_le.mpr hbl) hS hi1 dL_law_1266 ?_
    refine lv_aload_n B.1 B.2.1 dL_law_1267 rfl (lv_at hl 1 rfl) ?_
    refine mb_xH (as := [mb_F 0 0 0, .inl (xs (x4 + 1).toNatClampNeg), mb_F 30 0 0]) (n := 3) (mc := 0) (ms := 0) (rest := []) B hS hw hl.1 ⟨⟨by decide, by decide⟩, trivial, ⟨by decide, by decide⟩, trivial⟩ (Nat.zero_le _) (H_pass_r hst B.2.2.2.2.2.2.2.1 e5) wl_L_165 mt_L_pass mn_L mw_L_pass (by decide +kernel) rfl ⟨by show 8 + 26 + 1 ≤ 2048; decide, by show _ ≤ 84000; decide, by show cells + 0 ≤ 601024; omega, by show slots + 0 ≤ 7293034; omega⟩ rfl dL_law_1268 (fun H1 locs1 hw1 hS1 _ _ => ?_)
    refine lv_istore (lv' := [(5, .int 0), (4, .int x4), (3, .ref (G.2.2 (30, 0, 0))), (2, .ref (G.2.2 (6, 0, 0))), (1, .ref (G.2.2 (0, 0, 0))), (0, .ref b)]) B.1 B.2.1 dL_law_1271 hl (by decide) rfl (fun ls hl => ?_)
    refine lv_aload_n B.1 B.2.1 dL_law_1273 rfl (lv_at hl 3 rfl) ?_
    refine lv_aload_n B.1 B.2.1 dL_law_1274 rfl (lv_at hl 5 rfl) ?_
    refine lv_iload B.1 B.2.1 dL_law_1275 (lv_at hl 1 rfl) ?_
    refine lv_iconst (v := 1) B.1 B.2.1 dL_law_1277 (by decide) ?_
    refine lv_iadd B.1 B.2.1 dL_law_1278 ?_
    refine va_sld B.1 B.2.1 hX hbl (Nat.not_le.mpr hbl) hS1 hi1 dL_law_1279 ?_
    refine mb_xV (as := [.inl (xs (x4 + 1).toNatClampNeg)]) (n := 1) (d2 := 7) (ci := 6) (N := 16) (rest := []) B hS1 hw1 hl.1 ⟨⟨by decide, by decide⟩, trivial, trivial⟩ (Nat.le_of_ble_eq_true rfl) (C_X6_pass hst B.2.2.2.2.2.2.2.1 e6) (mb_gV wl_L_167 mi_X6_pass ms_X6_pass mn_X6 mc_X6_pass) (by decide +kernel) rfl rfl rfl ⟨by show 8 + 7 + 1 ≤ 2048; decide, by show _ ≤ 84000; decide, by show cells + 0 + 0 ≤ 601024; omega, by show slots + 0 + 0 ≤ 7293034; omega⟩ rfl dL_law_1280 (fun v1 H1c locs1c hv1 _ hw1c hS1c _ _ => ?_) (fun E9 ce9 q9 H9 locs9 hv9 _ _ _ _ _ _ _ => by cases hv9)
    cases hv1
    refine lv_istore (lv' := [(6, .int v), (5, .int 0), (4, .int x4), (3, .ref (G.2.2 (30, 0, 0))), (2, .ref (G.2.2 (6, 0, 0))), (1, .ref (G.2.2 (0, 0, 0))), (0, .ref b)]) B.1 B.2.1 dL_law_1283 hl (by decide) rfl (fun ls hl => ?_)
    refine lv_aload_n B.1 B.2.1 dL_law_1285 rfl (lv_at hl 4 rfl) ?_
    refine mb_xV (as := []) (n := 0) (d2 := 0) (ci := 6) (N := 16) (rest := []) B hS1c hw1c hl.1 ⟨⟨by decide, by decide⟩, trivial⟩ (Nat.le_of_ble_eq_true rfl) (C_X6_thrown hst B.2.2.2.2.2.2.2.1 (show F_X6_thrown _ = some (.inl (some (.inl (h3.1 6 0 0 4))), h3) from rfl)) (mb_gV wl_L_109 mi_X6_thrown ms_X6_thrown mn_X6 mc_X6_thrown) (by decide +kernel) rfl rfl rfl ⟨by show 8 + 0 + 1 ≤ 2048; decide, by show _ ≤ 84000; decide, by show cells + 0 + 0 ≤ 601024; omega, by show slots + 0 + 0 ≤ 7293034; omega⟩ rfl dL_law_1286 (fun v2 H2c locs2c hv2 _ hw2c hS2c _ _ => ?_) (fun E9 ce9 q9 H9 locs9 hv9 _ _ _ _ _ _ _ => by cases hv9)
    cases hv2
    refine lv_iload B.1 B.2.1 dL_law_1289 (lv_at hl 1 rfl) ?_
    refine lv_icmp_eq (tgt := 1296) B.1 B.2.1 dL_law_1291 (by decide) (fun _ => ?_) (fun z9 => absurd eT z9)
    refine lv_iload B.1 B.2.1 dL_law_1296 (lv_at hl 1 rfl) ?_
    refine lv_if_ne (tgt := 1313) B.1 B.2.1 dL_law_1298 (by decide) (fun z9 => absurd rfl z9) (fun _ => ?_)
    refine lv_aload_n B.1 B.2.1 dL_law_1301 rfl (lv_at hl 3 rfl) ?_
    refine lv_iconst (v := 0) B.1 B.2.1 dL_law_1302 (by decide) ?_
    refine mb_outld B hw2c dL_law_1303 ?_
    refine lv_iload B.1 B.2.1 dL_law_1304 (lv_at hl 0 rfl) ?_
    refine lv_i2l B.1 B.2.1 dL_law_1306 rfl ?_
    refine W.lcmp B.1 B.2.1 dL_law_1307 ?_
    refine lv_if_eq (tgt := 1313) B.1 B.2.1 dL_law_1308 (by decide) (fun _ => ?_) (fun z9 => absurd (by rw [eO]; exact mb_lc0 _) z9)
    refine lv_goto (tgt := 1925) B.1 B.2.1 dL_law_1313 (by decide) ?_
    exact kk _ _ _ _ _ _ eS hw2c hS2c (lv_sub hl [2, 3, 4, 5, 6] rfl) (by simp only [mb_mc, mb_ms]; omega) (by simp only [mb_mc, mb_ms]; omega)
  · match j, ej with
    | 0, ej =>
      cases ej
      refine lv_aload_n B.1 B.2.1 dL_law_1260 rfl (lv_at hl 3 rfl) ?_
      refine lv_aload_n B.1 B.2.1 dL_law_1261 rfl (lv_at hl 4 rfl) ?_
      refine lv_iload B.1 B.2.1 dL_law_1262 (lv_at hl 0 rfl) ?_
      refine lv_iconst (v := 1) B.1 B.2.1 dL_law_1264 (by decide) ?_
      refine lv_iadd B.1 B.2.1 dL_law_1265 ?_
      refine va_sld B.1 B.2.1 hX hbl (Nat.not_le.mpr hbl) hS hi1 dL_law_1266 ?_
      refine lv_aload_n B.1 B.2.1 dL_law_1267 rfl (lv_at hl 1 rfl) ?_
      refine mb_xH (as := [mb_F 0 0 0, .inl (xs (x4 + 1).toNatClampNeg), mb_F 30 0 0]) (n := 3) (mc := 1) (ms := 6) (rest := []) B hS hw hl.1 ⟨⟨by decide, by decide⟩, trivial, ⟨by decide, by decide⟩, trivial⟩ (Nat.zero_le _) (H_pass_t1 hst B.2.2.2.2.2.2.2.1 e5) wl_L_165 mt_L_pass mn_L mw_L_pass (by decide +kernel) rfl ⟨by show 8 + 26 + 1 ≤ 2048; decide, by show _ ≤ 84000; decide, by show cells + 1 ≤ 601024; omega, by show slots + 6 ≤ 7293034; omega⟩ rfl dL_law_1268 (fun H1 locs1 hw1 hS1 _ _ => ?_)
      refine lv_istore (lv' := [(5, .int 1), (4, .int x4), (3, .ref (G.2.2 (30, 0, 0))), (2, .ref (G.2.2 (6, 0, 0))), (1, .ref (G.2.2 (0, 0, 0))), (0, .ref b)]) B.1 B.2.1 dL_law_1271 hl (by decide) rfl (fun ls hl => ?_)
      refine lv_aload_n B.1 B.2.1 dL_law_1273 rfl (lv_at hl 3 rfl) ?_
      refine lv_aload_n B.1 B.2.1 dL_law_1274 rfl (lv_at hl 5 rfl) ?_
      refine lv_iload B.1 B.2.1 dL_law_1275 (lv_at hl 1 rfl) ?_
      refine lv_iconst (v := 1) B.1 B.2.1 dL_law_1277 (by decide) ?_
      refine lv_iadd B.1 B.2.1 dL_law_1278 ?_
      refine va_sld B.1 B.2.1 hX hbl (Nat.not_le.mpr hbl) hS1 hi1 dL_law_1279 ?_
      refine mb_xV (as := [.inl (xs (x4 + 1).toNatClampNeg)]) (n := 1) (d2 := 7) (ci := 6) (N := 16) (rest := []) B hS1 hw1 hl.1 ⟨⟨by decide, by decide⟩, trivial, trivial⟩ (Nat.le_of_ble_eq_true rfl) (C_X6_pass hst B.2.2.2.2.2.2.2.1 e6) (mb_gV wl_L_167 mi_X6_pass ms_X6_pass mn_X6 mc_X6_pass) (by decide +kernel) rfl rfl rfl ⟨by show 8 + 7 + 1 ≤ 2048; decide, by show _ ≤ 84000; decide, by show cells + 1 + 0 ≤ 601024; omega, by show slots + 6 + 0 ≤ 7293034; omega⟩ rfl dL_law_1280 (fun v1 H1c locs1c hv1 _ hw1c hS1c _ _ => ?_) (fun E9 ce9 q9 H9 locs9 hv9 _ _ _ _ _ _ _ => by cases hv9)
      cases hv1
      refine lv_istore (lv' := [(6, .int b9), (5, .int 1), (4, .int x4), (3, .ref (G.2.2 (30, 0, 0))), (2, .ref (G.2.2 (6, 0, 0))), (1, .ref (G.2.2 (0, 0, 0))), (0, .ref b)]) B.1 B.2.1 dL_law_1283 hl (by decide) rfl (fun ls hl => ?_)
      refine lv_aload_n B.1 B.2.1 dL_law_1285 rfl (lv_at hl 4 rfl) ?_
      refine mb_xV (as := []) (n := 0) (d2 := 0) (ci := 6) (N := 16) (rest := []) B hS1c hw1c hl.1 ⟨⟨by decide, by decide⟩, trivial⟩ (Nat.le_of_ble_eq_true rfl) (C_X6_thrown hst B.2.2.2.2.2.2.2.1 (show F_X6_thrown _ = some (.inl (some (.inl (h3.1 6 0 0 4))), h3) from rfl)) (mb_gV wl_L_109 mi_X6_thrown ms_X6_thrown mn_X6 mc_X6_thrown) (by decide +kernel) rfl rfl rfl ⟨by show 8 + 0 + 1 ≤ 2048; decide, by show _ ≤ 84000; decide, by show cells + 1 + 0 ≤ 601024; omega, by show slots + 6 + 0 ≤ 7293034; omega⟩ rfl dL_law_1286 (fun v2 H2c locs2c hv2 _ hw2c hS2c _ _ => ?_) (fun E9 ce9 q9 H9 locs9 hv9 _ _ _ _ _ _ _ => by cases hv9)
      cases hv2
      refine lv_iload B.1 B.2.1 dL_law_1289 (lv_at hl 1 rfl) ?_
      refine lv_icmp_eq (tgt := 1296) B.1 B.2.1 dL_law_1291 (by decide) (fun _ => ?_) (fun z9 => absurd eT z9)
      refine lv_iload B.1 B.2.1 dL_law_1296 (lv_at hl 1 rfl) ?_
      refine lv_if_ne (tgt := 1313) B.1 B.2.1 dL_law_1298 (by decide) (fun _ => ?_) (fun z9 => absurd z9 (by decide))
      refine lv_goto (tgt := 1925) B.1 B.2.1 dL_law_1313 (by decide) ?_
      exact kk _ _ _ _ _ _ eS hw2c hS2c (lv_sub hl [2, 3, 4, 5, 6] rfl) (by simp only [mb_mc, mb_ms]; omega) (by simp only [mb_mc, mb_ms]; omega)
    | 1, ej =>
      cases ej
      refine lv_aload_n B.1 B.2.1 dL_law_1260 rfl (lv_at hl 3 rfl) ?_
      refine lv_aload_n B.1 B.2.1 dL_law_1261 rfl (lv_at hl 4 rfl) ?_
      refine lv_iload B.1 B.2.1 dL_law_1262 (lv_at hl 0 rfl) ?_
      refine lv_iconst (v := 1) B.1 B.2.1 dL_law_1264 (by decide) ?_
      refine lv_iadd B.1 B.2.1 dL_law_1265 ?_
      refine va_sld B.1 B.2.1 hX hbl (Nat.not_le.mpr hbl) hS hi1 dL_law_1266 ?_
      refine lv_aload_n B.1 B.2.1 dL_law_1267 rfl (lv_at hl 1 rfl) ?_
      refine mb_xH (as := [mb_F 0 0 0, .inl (xs (x4 + 1).toNatClampNeg), mb_F 30 0 0]) (n := 3) (mc := 1) (ms := 6) (rest := []) B hS hw hl.1 ⟨⟨by decide, by decide⟩, trivial, ⟨by decide, by decide⟩, trivial⟩ (Nat.zero_le _) (H_pass_t2 hst B.2.2.2.2.2.2.2.1 e5) wl_L_165 mt_L_pass mn_L mw_L_pass (by decide +kernel) rfl ⟨by show 8 + 26 + 1 ≤ 2048; decide, by show _ ≤ 84000; decide, by show cells + 1 ≤ 601024; omega, by show slots + 6 ≤ 7293034; omega⟩ rfl dL_law_1268 (fun H1 locs1 hw1 hS1 _ _ => ?_)
      refine lv_istore (lv' := [(5, .int 2), (4, .int x4), (3, .ref (G.2.2 (30, 0, 0))), (2, .ref (G.2.2 (6, 0, 0))), (1, .ref (G.2.2 (0, 0, 0))), (0, .ref b)]) B.1 B.2.1 dL_law_1271 hl (by decide) rfl (fun ls hl => ?_)
      refine lv_aload_n B.1 B.2.1 dL_law_1273 rfl (lv_at hl 3 rfl) ?_
      refine lv_aload_n B.1 B.2.1 dL_law_1274 rfl (lv_at hl 5 rfl) ?_
      refine lv_iload B.1 B.2.1 dL_law_1275 (lv_at hl 1 rfl) ?_
      refine lv_iconst (v := 1) B.1 B.2.1 dL_law_1277 (by decide) ?_
      refine lv_iadd B.1 B.2.1 dL_law_1278 ?_
      refine va_sld B.1 B.2.1 hX hbl (Nat.not_le.mpr hbl) hS1 hi1 dL_law_1279 ?_
      refine mb_xV (as := [.inl (xs (x4 + 1).toNatClampNeg)]) (n := 1) (d2 := 7) (ci := 6) (N := 16) (rest := []) B hS1 hw1 hl.1 ⟨⟨by decide, by decide⟩, trivial, trivial⟩ (Nat.le_of_ble_eq_true rfl) (C_X6_pass hst B.2.2.2.2.2.2.2.1 e6) (mb_gV wl_L_167 mi_X6_pass ms_X6_pass mn_X6 mc_X6_pass) (by decide +kernel) rfl rfl rfl ⟨by show 8 + 7 + 1 ≤ 2048; decide, by show _ ≤ 84000; decide, by show cells + 1 + 0 ≤ 601024; omega, by show slots + 6 + 0 ≤ 7293034; omega⟩ rfl dL_law_1280 (fun v1 H1c locs1c hv1 _ hw1c hS1c _ _ => ?_) (fun E9 ce9 q9 H9 locs9 hv9 _ _ _ _ _ _ _ => by cases hv9)
      cases hv1
      refine lv_istore (lv' := [(6, .int b9), (5, .int 2), (4, .int x4), (3, .ref (G.2.2 (30, 0, 0))), (2, .ref (G.2.2 (6, 0, 0))), (1, .ref (G.2.2 (0, 0, 0))), (0, .ref b)]) B.1 B.2.1 dL_law_1283 hl (by decide) rfl (fun ls hl => ?_)
      refine lv_aload_n B.1 B.2.1 dL_law_1285 rfl (lv_at hl 4 rfl) ?_
      refine mb_xV (as := []) (n := 0) (d2 := 0) (ci := 6) (N := 16) (rest := []) B hS1c hw1c hl.1 ⟨⟨by decide, by decide⟩, trivial⟩ (Nat.le_of_ble_eq_true rfl) (C_X6_thrown hst B.2.2.2.2.2.2.2.1 (show F_X6_thrown _ = some (.inl (some (.inl (h3.1 6 0 0 4))), h3) from rfl)) (mb_gV wl_L_109 mi_X6_thrown ms_X6_thrown mn_X6 mc_X6_thrown) (by decide +kernel) rfl rfl rfl ⟨by show 8 + 0 + 1 ≤ 2048; decide, by show _ ≤ 84000; decide, by show cells + 1 + 0 ≤ 601024; omega, by show slots + 6 + 0 ≤ 7293034; omega⟩ rfl dL_law_1286 (fun v2 H2c locs2c hv2 _ hw2c hS2c _ _ => ?_) (fun E9 ce9 q9 H9 locs9 hv9 _ _ _ _ _ _ _ => by cases hv9)
      cases hv2
      refine lv_iload B.1 B.2.1 dL_law_1289 (lv_at hl 1 rfl) ?_
      refine lv_icmp_eq (tgt := 1296) B.1 B.2.1 dL_law_1291 (by decide) (fun _ => ?_) (fun z9 => absurd eT z9)
      refine lv_iload B.1 B.2.1 dL_law_1296 (lv_at hl 1 rfl) ?_
      refine lv_if_ne (tgt := 1313) B.1 B.2.1 dL_law_1298 (by decide) (fun _ => ?_) (fun z9 => absurd z9 (by decide))
      refine lv_goto (tgt := 1925) B.1 B.2.1 dL_law_1313 (by decide) ?_
      exact kk _ _ _ _ _ _ eS hw2c hS2c (lv_sub hl [2, 3, 4, 5, 6] rfl) (by simp only [mb_mc, mb_ms]; omega) (by simp only [mb_mc, mb_ms]; omega)
    | k9 + 2, ej => simp at ej
set_option maxRecDepth 100000 in
set_option maxHeartbeats 4000000 in
theorem lc_18 (hst : l.stackTraces = false) (B : mb_Lx p l s m #[Value.ref b] c G RL code 7 (mb_A9 s)) (hX : va_X b L xs s s.heap) (hbl : b < s.heap.size) (hS : va_S (mb_A9 s) s.heap H locs) (hw : mb_wd G h H) (hl : lv_has ls 7 [(4, .int x4), (3, .ref (G.2.2 (30, 0, 0))), (2, .ref (G.2.2 (6, 0, 0))), (1, .ref (G.2.2 (0, 0, 0))), (0, .ref b)]) (hc : cells + 1 ≤ 601024) (hs : slots + 6 ≤ 7293034) (hi1 : vp_in (x4 + 1) L) (hi2 : vp_in (x4 + 2) L) (hps : mb_PI ["java/lang/IndexOutOfBoundsException", "java/lang/IllegalArgumentException"] (F_X5_pay (xs (x4 + 1).toNatClampNeg) (xs (x4 + 2).toNatClampNeg) h) (F_X6_pay (xs (x4 + 1).toNatClampNeg) (xs (x4 + 2).toNatClampNeg)) S)
    (kk : ∀ (h3 : mb_AH) (H3 : Heap) (locs3 : List Loc) (ls3 : Array Slot) (cells3 slots3 : Nat), S h3 → mb_wd G h3 H3 → va_S (mb_A9 s) s.heap H3 locs3 → lv_has ls3 7 [(4, .int x4), (3, .ref (G.2.2 (30, 0, 0))), (2, .ref (G.2.2 (6, 0, 0))), (1, .ref (G.2.2 (0, 0, 0))), (0, .ref b)] → cells3 ≤ cells + 1 → slots3 ≤ slots + 6 → W p l e room_1 s m #[Value.ref b] below meth c H3 locs3 cells3 slots3 Q (F0 m 1925 ls3 [])) : W p l e room_1 s m #[Value.ref b] below meth c H locs cells slots Q (F0 m 1316 ls []) := by
  rcases hps with ⟨v, h1, h3, e5, e6, eT, eO, eS⟩ | ⟨j, E, h1, b9, h3, ej, e5, e6, eT, eS⟩
  · refine lv_aload_n B.1 B.2.1 dL_law_1316 rfl (lv_at hl 3 rfl) ?_
    refine lv_aload_n B.1 B.2.1 dL_law_1317 rfl (lv_at hl 4 rfl) ?_
    refine lv_iload B.1 B.2.1 dL_law_1318 (lv_at hl 0 rfl) ?_
    refine lv_iconst (v := 1) B.1 B.2.1 dL_law_1320 (by decide) ?_
    refine lv_iadd B.1 B.2.1 dL_law_1321 ?_
    refine va_sld B.1 B.2.1 hX hbl (Nat.not_le.mpr hbl) hS hi1 dL_law_1322 ?_
    refine lv_aload_n B.1 B.2.1 dL_law_1323 rfl (lv_at hl 4 rfl) ?_
    refine lv_iload B.1 B.2.1 dL_law_1324 (lv_at hl 0 rfl) ?_
    refine lv_iconst (v := 2) B.1 B.2.1 dL_law_1326 (by decide) ?_
    refine lv_iadd B.1 B.2.1 dL_law_1327 ?_
    refine va_sld B.1 B.2.1 hX hbl (Nat.not_le.mpr hbl) hS hi2 dL_law_1328 ?_
    refine lv_aload_n B.1 B.2.1 dL_law_1329 rfl (lv_at hl 1 rfl) ?_
    refine mb_xH (as := [mb_F 0 0 0, .inl (xs (x4 + 1).toNatClampNeg), .inl (xs (x4 + 2).toNatClampNeg), mb_F 30 0 0]) (n := 4) (mc := 0) (ms := 0) (rest := []) B hS hw hl.1 ⟨⟨by decide, by decide⟩, trivial, trivial, ⟨by decide, by decide⟩, trivial⟩ (Nat.zero_le _) (H_pay_r hst B.2.2.2.2.2.2.2.1 e5) wl_L_168 mt_L_pay mn_L mw_L_pay (by decide +kernel) rfl ⟨by show 8 + 5 + 1 ≤ 2048; decide, by show _ ≤ 84000; decide, by show cells + 0 ≤ 601024; omega, by show slots + 0 ≤ 7293034; omega⟩ rfl dL_law_1330 (fun H1 locs1 hw1 hS1 _ _ => ?_)
    refine lv_istore (lv' := [(5, .int 0), (4, .int x4), (3, .ref (G.2.2 (30, 0, 0))), (2, .ref (G.2.2 (6, 0, 0))), (1, .ref (G.2.2 (0, 0, 0))), (0, .ref b)]) B.1 B.2.1 dL_law_1333 hl (by decide) rfl (fun ls hl => ?_)
    refine lv_aload_n B.1 B.2.1 dL_law_1335 rfl (lv_at hl 3 rfl) ?_
    refine lv_aload_n B.1 B.2.1 dL_law_1336 rfl (lv_at hl 5 rfl) ?_
    refine lv_iload B.1 B.2.1 dL_law_1337 (lv_at hl 1 rfl) ?_
    refine lv_iconst (v := 1) B.1 B.2.1 dL_law_1339 (by decide) ?_
    refine lv_iadd B.1 B.2.1 dL_law_1340 ?_
    refine va_sld B.1 B.2.1 hX hbl (Nat.not_le.mpr hbl) hS1 hi1 dL_law_1341 ?_
    refine lv_aload_n B.1 B.2.1 dL_law_1342 rfl (lv_at hl 5 rfl) ?_
    refine lv_iload B.1 B.2.1 dL_law_1343 (lv_at hl 1 rfl) ?_
    refine lv_iconst (v := 2) B.1 B.2.1 dL_law_1345 (by decide) ?_
    refine lv_iadd B.1 B.2.1 dL_law_1346 ?_
    refine va_sld B.1 B.2.1 hX hbl (Nat.not_le.mpr hbl) hS1 hi2 dL_law_1347 ?_
    refine mb_xV (as := [.inl (xs (x4 + 1).toNatClampNeg), .inl (xs (x4 + 2).toNatClampNeg)]) (n := 2) (d2 := 2) (ci := 6) (N := 16) (rest := []) B hS1 hw1 hl.1 ⟨⟨by decide, by decide⟩, trivial, trivial, trivial⟩ (Nat.le_of_ble_eq_true rfl) (C_X6_pay hst B.2.2.2.2.2.2.2.1 e6) (mb_gV wl_L_170 mi_X6_pay ms_X6_pay mn_X6 mc_X6_pay) (by decide +kernel) rfl rfl rfl ⟨by show 8 + 2 + 1 ≤ 2048; decide, by show _ ≤ 84000; decide, by show cells + 0 + 0 ≤ 601024; omega, by show slots + 0 + 0 ≤ 7293034; omega⟩ rfl dL_law_1348 (fun v1 H1c locs1c hv1 _ hw1c hS1c _ _ => ?_) (fun E9 ce9 q9 H9 locs9 hv9 _ _ _ _ _ _ _ => by cases hv9)
    cases hv1
    refine lv_istore (lv' := [(6, .int v), (5, .int 0), (4, .int x4), (3, .ref (G.2.2 (30, 0, 0))), (2, .ref (G.2.2 (6, 0, 0))), (1, .ref (G.2.2 (0, 0, 0))), (0, .ref b)]) B.1 B.2.1 dL_law_1351 hl (by decide) rfl (fun ls hl => ?_)
    refine lv_aload_n B.1 B.2.1 dL_law_1353 rfl (lv_at hl 4 rfl) ?_
    refine mb_xV (as := []) (n := 0) (d2 := 0) (ci := 6) (N := 16) (rest := []) B hS1c hw1c hl.1 ⟨⟨by decide, by decide⟩, trivial⟩ (Nat.le_of_ble_eq_true rfl) (C_X6_thrown hst B.2.2.2.2.2.2.2.1 (show F_X6_thrown _ = some (.inl (some (.inl (h3.1 6 0 0 4))), h3) from rfl)) (mb_gV wl_L_109 mi_X6_thrown ms_X6_thrown mn_X6 mc_X6_thrown) (by decide +kernel) rfl rfl rfl ⟨by show 8 + 0 + 1 ≤ 2048; decide, by show _ ≤ 84000; decide, by show cells + 0 + 0 ≤ 601024; omega, by show slots + 0 + 0 ≤ 7293034; omega⟩ rfl dL_law_1354 (fun v2 H2c locs2c hv2 _ hw2c hS2c _ _ => ?_) (fun E9 ce9 q9 H9 locs9 hv9 _ _ _ _ _ _ _ => by cases hv9)
    cases hv2
    refine lv_iload B.1 B.2.1 dL_law_1357 (lv_at hl 1 rfl) ?_
    refine lv_icmp_eq (tgt := 1364) B.1 B.2.1 dL_law_1359 (by decide) (fun _ => ?_) (fun z9 => absurd eT z9)
    refine lv_iload B.1 B.2.1 dL_law_1364 (lv_at hl 1 rfl) ?_
    refine lv_if_ne (tgt := 1381) B.1 B.2.1 dL_law_1366 (by decide) (fun z9 => absurd rfl z9) (fun _ => ?_)
    refine lv_aload_n B.1 B.2.1 dL_law_1369 rfl (lv_at hl 3 rfl) ?_
    refine lv_iconst (v := 0) B.1 B.2.1 dL_law_1370 (by decide) ?_
    refine mb_outld B hw2c dL_law_1371 ?_
    refine lv_iload B.1 B.2.1 dL_law_1372 (lv_at hl 0 rfl) ?_
    refine lv_i2l B.1 B.2.1 dL_law_1374 rfl ?_
    refine W.lcmp B.1 B.2.1 dL_law_1375 ?_
    refine lv_if_eq (tgt := 1381) B.1 B.2.1 dL_law_1376 (by decide) (fun _ => ?_) (fun z9 => absurd (by rw [eO]; exact mb_lc0 _) z9)
    refine lv_goto (tgt := 1925) B.1 B.2.1 dL_law_1381 (by decide) ?_
    exact kk _ _ _ _ _ _ eS hw2c hS2c (lv_sub hl [2, 3, 4, 5, 6] rfl) (by simp only [mb_mc, mb_ms]; omega) (by simp only [mb_mc, mb_ms]; omega)
  · match j, ej with
    | 0, ej =>
      cases ej
      refine lv_aload_n B.1 B.2.1 dL_law_1316 rfl (lv_at hl 3 rfl) ?_
      refine lv_aload_n B.1 B.2.1 dL_law_1317 rfl (lv_at hl 4 rfl) ?_
      refine lv_iload B.1 B.2.1 dL_law_1318 (lv_at hl 0 rfl) ?_
      refine lv_iconst (v := 1) B.1 B.2.1 dL_law_1320 (by decide) ?_
      refine lv_iadd B.1 B.2.1 dL_law_1321 ?_
      refine va_sld B.1 B.2.1 hX hbl (Nat.not_le.mpr hbl) hS hi1 dL_law_1322 ?_
      refine lv_aload_n B.1 B.2.1 dL_law_1323 rfl (lv_at hl 4 rfl) ?_
      refine lv_iload B.1 B.2.1 dL_law_1324 (lv_at hl 0 rfl) ?_
      refine lv_iconst (v := 2) B.1 B.2.1 dL_law_1326 (by decide) ?_
      refine lv_iadd B.1 B.2.1 dL_law_1327 ?_
      refine va_sld B.1 B.2.1 hX hbl (Nat.not_le.mpr hbl) hS hi2 dL_law_1328 ?_
      refine lv_aload_n B.1 B.2.1 dL_law_1329 rfl (lv_at hl 1 rfl) ?_
      refine mb_xH (as := [mb_F 0 0 0, .inl (xs (x4 + 1).toNatClampNeg), .inl (xs (x4 + 2).toNatClampNeg), mb_F 30 0 0]) (n := 4) (mc := 1) (ms := 6) (rest := []) B hS hw hl.1 ⟨⟨by decide, by decide⟩, trivial, trivial, ⟨by decide, by decide⟩, trivial⟩ (Nat.zero_le _) (H_pay_t1 hst B.2.2.2.2.2.2.2.1 e5) wl_L_168 mt_L_pay mn_L mw_L_pay (by decide +kernel) rfl ⟨by show 8 + 5 + 1 ≤ 2048; decide, by show _ ≤ 84000; decide, by show cells + 1 ≤ 601024; omega, by show slots + 6 ≤ 7293034; omega⟩ rfl dL_law_1330 (fun H1 locs1 hw1 hS1 _ _ => ?_)
      refine lv_istore (lv' := [(5, .int 1), (4, .int x4), (3, .ref (G.2.2 (30, 0, 0))), (2, .ref (G.2.2 (6, 0, 0))), (1, .ref (G.2.2 (0, 0, 0))), (0, .ref b)]) B.1 B.2.1 dL_law_1333 hl (by decide) rfl (fun ls hl => ?_)
      refine lv_aload_n B.1 B.2.1 dL_law_1335 rfl (lv_at hl 3 rfl) ?_
      refine lv_aload_n B.1 B.2.1 dL_law_1336 rfl (lv_at hl 5 rfl) ?_
      refine lv_iload B.1 B.2.1 dL_law_1337 (lv_at hl 1 rfl) ?_
      refine lv_iconst (v := 1) B.1 B.2.1 dL_law_1339 (by decide) ?_
      refine lv_iadd B.1 B.2.1 dL_law_1340 ?_
      refine va_sld B.1 B.2.1 hX hbl (Nat.not_le.mpr hbl) hS1 hi1 dL_law_1341 ?_
      refine lv_aload_n B.1 B.2.1 dL_law_1342 rfl (lv_at hl 5 rfl) ?_
      refine lv_iload B.1 B.2.1 dL_law_1343 (lv_at hl 1 rfl) ?_
      refine lv_iconst (v := 2) B.1 B.2.1 dL_law_1345 (by decide) ?_
      refine lv_iadd B.1 B.2.1 dL_law_1346 ?_
      refine va_sld B.1 B.2.1 hX hbl (Nat.not_le.mpr hbl) hS1 hi2 dL_law_1347 ?_
      refine mb_xV (as := [.inl (xs (x4 + 1).toNatClampNeg), .inl (xs (x4 + 2).toNatClampNeg)]) (n := 2) (d2 := 2) (ci := 6) (N := 16) (rest := []) B hS1 hw1 hl.1 ⟨⟨by decide, by decide⟩, trivial, trivial, trivial⟩ (Nat.le_of_ble_eq_true rfl) (C_X6_pay hst B.2.2.2.2.2.2.2.1 e6) (mb_gV wl_L_170 mi_X6_pay ms_X6_pay mn_X6 mc_X6_pay) (by decide +kernel) rfl rfl rfl ⟨by show 8 + 2 + 1 ≤ 2048; decide, by show _ ≤ 84000; decide, by show cells + 1 + 0 ≤ 601024; omega, by show slots + 6 + 0 ≤ 7293034; omega⟩ rfl dL_law_1348 (fun v1 H1c locs1c hv1 _ hw1c hS1c _ _ => ?_) (fun E9 ce9 q9 H9 locs9 hv9 _ _ _ _ _ _ _ => by cases hv9)
      cases hv1
      refine lv_istore (lv' := [(6, .int b9), (5, .int 1), (4, .int x4), (3, .ref (G.2.2 (30, 0, 0))), (2, .ref (G.2.2 (6, 0, 0))), (1, .ref (G.2.2 (0, 0, 0))), (0, .ref b)]) B.1 B.2.1 dL_law_1351 hl (by decide) rfl (fun ls hl => ?_)
      refine lv_aload_n B.1 B.2.1 dL_law_1353 rfl (lv_at hl 4 rfl) ?_
      refine mb_xV (as := []) (n := 0) (d2 := 0) (ci := 6) (N := 16) (rest := []) B hS1c hw1c hl.1 ⟨⟨by decide, by decide⟩, trivial⟩ (Nat.le_of_ble_eq_true rfl) (C_X6_thrown hst B.2.2.2.2.2.2.2.1 (show F_X6_thrown _ = some (.inl (some (.inl (h3.1 6 0 0 4))), h3) from rfl)) (mb_gV wl_L_109 mi_X6_thrown ms_X6_thrown mn_X6 mc_X6_thrown) (by decide +kernel) rfl rfl rfl ⟨by show 8 + 0 + 1 ≤ 2048; decide, by show _ ≤ 84000; decide, by show cells + 1 + 0 ≤ 601024; omega, by show slots + 6 + 0 ≤ 7293034; omega⟩ rfl dL_law_1354 (fun v2 H2c locs2c hv2 _ hw2c hS2c _ _ => ?_) (fun E9 ce9 q9 H9 locs9 hv9 _ _ _ _ _ _ _ => by cases hv9)
      cases hv2
      refine lv_iload B.1 B.2.1 dL_law_1357 (lv_at hl 1 rfl) ?_
      refine lv_icmp_eq (tgt := 1364) B.1 B.2.1 dL_law_1359 (by decide) (fun _ => ?_) (fun z9 => absurd eT z9)
      refine lv_iload B.1 B.2.1 dL_law_1364 (lv_at hl 1 rfl) ?_
      refine lv_if_ne (tgt := 1381) B.1 B.2.1 dL_law_1366 (by decide) (fun _ => ?_) (fun z9 => absurd z9 (by decide))
      refine lv_goto (tgt := 1925) B.1 B.2.1 dL_law_1381 (by decide) ?_
      exact kk _ _ _ _ _ _ eS hw2c hS2c (lv_sub hl [2, 3, 4, 5, 6] rfl) (by simp only [mb_mc, mb_ms]; omega) (by simp only [mb_mc, mb_ms]; omega)
    | 1, ej =>
      cases ej
      refine lv_aload_n B.1 B.2.1 dL_law_1316 rfl (lv_at hl 3 rfl) ?_
      refine lv_aload_n B.1 B.2.1 dL_law_1317 rfl (lv_at hl 4 rfl) ?_
      refine lv_iload B.1 B.2.1 dL_law_1318 (lv_at hl 0 rfl) ?_
      refine lv_iconst (v := 1) B.1 B.2.1 dL_law_1320 (by decide) ?_
      refine lv_iadd B.1 B.2.1 dL_law_1321 ?_
      refine va_sld B.1 B.2.1 hX hbl (Nat.not_le.mpr hbl) hS hi1 dL_law_1322 ?_
      refine lv_aload_n B.1 B.2.1 dL_law_1323 rfl (lv_at hl 4 rfl) ?_
      refine lv_iload B.1 B.2.1 dL_law_1324 (lv_at hl 0 rfl) ?_
      refine lv_iconst (v := 2) B.1 B.2.1 dL_law_1326 (by decide) ?_
      refine lv_iadd B.1 B.2.1 dL_law_1327 ?_
      refine va_sld B.1 B.2.1 hX hbl (Nat.not_le.mpr hbl) hS hi2 dL_law_1328 ?_
      refine lv_aload_n B.1 B.2.1 dL_law_1329 rfl (lv_at hl 1 rfl) ?_
      refine mb_xH (as := [mb_F 0 0 0, .inl (xs (x4 + 1).toNatClampNeg), .inl (xs (x4 + 2).toNatClampNeg), mb_F 30 0 0]) (n := 4) (mc := 1) (ms := 6) (rest := []) B hS hw hl.1 ⟨⟨by decide, by decide⟩, trivial, trivial, ⟨by decide, by decide⟩, trivial⟩ (Nat.zero_le _) (H_pay_t2 hst B.2.2.2.2.2.2.2.1 e5) wl_L_168 mt_L_pay mn_L mw_L_pay (by decide +kernel) rfl ⟨by show 8 + 5 + 1 ≤ 2048; decide, by show _ ≤ 84000; decide, by show cells + 1 ≤ 601024; omega, by show slots + 6 ≤ 7293034; omega⟩ rfl dL_law_1330 (fun H1 locs1 hw1 hS1 _ _ => ?_)
      refine lv_istore (lv' := [(5, .int 2), (4, .int x4), (3, .ref (G.2.2 (30, 0, 0))), (2, .ref (G.2.2 (6, 0, 0))), (1, .ref (G.2.2 (0, 0, 0))), (0, .ref b)]) B.1 B.2.1 dL_law_1333 hl (by decide) rfl (fun ls hl => ?_)
      refine lv_aload_n B.1 B.2.1 dL_law_1335 rfl (lv_at hl 3 rfl) ?_
      refine lv_aload_n B.1 B.2.1 dL_law_1336 rfl (lv_at hl 5 rfl) ?_
      refine lv_iload B.1 B.2.1 dL_law_1337 (lv_at hl 1 rfl) ?_
      refine lv_iconst (v := 1) B.1 B.2.1 dL_law_1339 (by decide) ?_
      refine lv_iadd B.1 B.2.1 dL_law_1340 ?_
      refine va_sld B.1 B.2.1 hX hbl (Nat.not_le.mpr hbl) hS1 hi1 dL_law_1341 ?_
      refine lv_aload_n B.1 B.2.1 dL_law_1342 rfl (lv_at hl 5 rfl) ?_
      refine lv_iload B.1 B.2.1 dL_law_1343 (lv_at hl 1 rfl) ?_
      refine lv_iconst (v := 2) B.1 B.2.1 dL_law_1345 (by decide) ?_
      refine lv_iadd B.1 B.2.1 dL_law_1346 ?_
      refine va_sld B.1 B.2.1 hX hbl (Nat.not_le.mpr hbl) hS1 hi2 dL_law_1347 ?_
      refine mb_xV (as := [.inl (xs (x4 + 1).toNatClampNeg), .inl (xs (x4 + 2).toNatClampNeg)]) (n := 2) (d2 := 2) (ci := 6) (N := 16) (rest := []) B hS1 hw1 hl.1 ⟨⟨by decide, by decide⟩, trivial, trivial, trivial⟩ (Nat.le_of_ble_eq_true rfl) (C_X6_pay hst B.2.2.2.2.2.2.2.1 e6) (mb_gV wl_L_170 mi_X6_pay ms_X6_pay mn_X6 mc_X6_pay) (by decide +kernel) rfl rfl rfl ⟨by show 8 + 2 + 1 ≤ 2048; decide, by show _ ≤ 84000; decide, by show cells + 1 + 0 ≤ 601024; omega, by show slots + 6 + 0 ≤ 7293034; omega⟩ rfl dL_law_1348 (fun v1 H1c locs1c hv1 _ hw1c hS1c _ _ => ?_) (fun E9 ce9 q9 H9 locs9 hv9 _ _ _ _ _ _ _ => by cases hv9)
      cases hv1
      refine lv_istore (lv' := [(6, .int b9), (5, .int 2), (4, .int x4), (3, .ref (G.2.2 (30, 0, 0))), (2, .ref (G.2.2 (6, 0, 0))), (1, .ref (G.2.2 (0, 0, 0))), (0, .ref b)]) B.1 B.2.1 dL_law_1351 hl (by decide) rfl (fun ls hl => ?_)
      refine lv_aload_n B.1 B.2.1 dL_law_1353 rfl (lv_at hl 4 rfl) ?_
      refine mb_xV (as := []) (n := 0) (d2 := 0) (ci := 6) (N := 16) (rest := []) B hS1c hw1c hl.1 ⟨⟨by decide, by decide⟩, trivial⟩ (Nat.le_of_ble_eq_true rfl) (C_X6_thrown hst B.2.2.2.2.2.2.2.1 (show F_X6_thrown _ = some (.inl (some (.inl (h3.1 6 0 0 4))), h3) from rfl)) (mb_gV wl_L_109 mi_X6_thrown ms_X6_thrown mn_X6 mc_X6_thrown) (by decide +kernel) rfl rfl rfl ⟨by show 8 + 0 + 1 ≤ 2048; decide, by show _ ≤ 84000; decide, by show cells + 1 + 0 ≤ 601024; omega, by show slots + 6 + 0 ≤ 7293034; omega⟩ rfl dL_law_1354 (fun v2 H2c locs2c hv2 _ hw2c hS2c _ _ => ?_) (fun E9 ce9 q9 H9 locs9 hv9 _ _ _ _ _ _ _ => by cases hv9)
      cases hv2
      refine lv_iload B.1 B.2.1 dL_law_1357 (lv_at hl 1 rfl) ?_
      refine lv_icmp_eq (tgt := 1364) B.1 B.2.1 dL_law_1359 (by decide) (fun _ => ?_) (fun z9 => absurd eT z9)
      refine lv_iload B.1 B.2.1 dL_law_1364 (lv_at hl 1 rfl) ?_
      refine lv_if_ne (tgt := 1381) B.1 B.2.1 dL_law_1366 (by decide) (fun _ => ?_) (fun z9 => absurd z9 (by decide))
      refine lv_goto (tgt := 1925) B.1 B.2.1 dL_law_1381 (by decide) ?_
      exact kk _ _ _ _ _ _ eS hw2c hS2c (lv_sub hl [2, 3, 4, 5, 6] rfl) (by simp only [mb_mc, mb_ms]; omega) (by simp only [mb_mc, mb_ms]; omega)
    | k9 + 2, ej => simp at ej
set_option maxRecDepth 100000 in
set_option maxHeartbeats 4000000 in
theorem lc_19 (hst : l.stackTraces = false) (B : mb_Lx p l s m #[Value.ref b] c G RL code 7 (mb_A9 s)) (hX : va_X b L xs s s.heap) (hbl : b < s.heap.size) (hS : va_S (mb_A9 s) s.heap H locs) (hw : mb_wd G h H) (hl : lv_has ls 7 [(4, .int x4), (3, .ref (G.2.2 (30, 0, 0))), (2, .ref (G.2.2 (6, 0, 0))), (1, .ref (G.2.2 (0, 0, 0))), (0, .ref b)]) (hc : cells + 1 ≤ 601024) (hs : slots + 6 ≤ 7293034) (hi1 : vp_in (x4 + 1) L) (hi2 : vp_in (x4 + 2) L) (hps : mb_PI ["java/lang/IndexOutOfBoundsException", "java/lang/IllegalArgumentException", "java/lang/IllegalStateException"] (F_X5_charge (xs (x4 + 1).toNatClampNeg) (xs (x4 + 2).toNatClampNeg) h) (F_X6_charge (xs (x4 + 1).toNatClampNeg) (xs (x4 + 2).toNatClampNeg)) S)
    (kk : ∀ (h3 : mb_AH) (H3 : Heap) (locs3 : List Loc) (ls3 : Array Slot) (cells3 slots3 : Nat), S h3 → mb_wd G h3 H3 → va_S (mb_A9 s) s.heap H3 locs3 → lv_has ls3 7 [(4, .int x4), (3, .ref (G.2.2 (30, 0, 0))), (2, .ref (G.2.2 (6, 0, 0))), (1, .ref (G.2.2 (0, 0, 0))), (0, .ref b)] → cells3 ≤ cells + 1 → slots3 ≤ slots + 6 → W p l e room_1 s m #[Value.ref b] below meth c H3 locs3 cells3 slots3 Q (F0 m 1925 ls3 [])) : W p l e room_1 s m #[Value.ref b] below meth c H locs cells slots Q (F0 m 1384 ls []) := by
  rcases hps with ⟨v, h1, h3, e5, e6, eT, eO, eS⟩ | ⟨j, E, h1, b9, h3, ej, e5, e6, eT, eS⟩
  · refine lv_aload_n B.1 B.2.1 dL_law_1384 rfl (lv_at hl 3 rfl) ?_
    refine lv_aload_n B.1 B.2.1 dL_law_1385 rfl (lv_at hl 4 rfl) ?_
    refine lv_iload B.1 B.2.1 dL_law_1386 (lv_at hl 0 rfl) ?_
    refine lv_iconst (v := 1) B.1 B.2.1 dL_law_1388 (by decide) ?_
    refine lv_iadd B.1 B.2.1 dL_law_1389 ?_
    refine va_sld B.1 B.2.1 hX hbl (Nat.not_le.mpr hbl) hS hi1 dL_law_1390 ?_
    refine lv_aload_n B.1 B.2.1 dL_law_1391 rfl (lv_at hl 4 rfl) ?_
    refine lv_iload B.1 B.2.1 dL_law_1392 (lv_at hl 0 rfl) ?_
    refine lv_iconst (v := 2) B.1 B.2.1 dL_law_1394 (by decide) ?_
    refine lv_iadd B.1 B.2.1 dL_law_1395 ?_
    refine va_sld B.1 B.2.1 hX hbl (Nat.not_le.mpr hbl) hS hi2 dL_law_1396 ?_
    refine lv_aload_n B.1 B.2.1 dL_law_1397 rfl (lv_at hl 1 rfl) ?_
    refine mb_xH (as := [mb_F 0 0 0, .inl (xs (x4 + 1).toNatClampNeg), .inl (xs (x4 + 2).toNatClampNeg), mb_F 30 0 0]) (n := 4) (mc := 0) (ms := 0) (rest := []) B hS hw hl.1 ⟨⟨by decide, by decide⟩, trivial, trivial, ⟨by decide, by decide⟩, trivial⟩ (Nat.zero_le _) (H_charge_r hst B.2.2.2.2.2.2.2.1 e5) wl_L_171 mt_L_charge mn_L mw_L_charge (by decide +kernel) rfl ⟨by show 8 + 5 + 1 ≤ 2048; decide, by show _ ≤ 84000; decide, by show cells + 0 ≤ 601024; omega, by show slots + 0 ≤ 7293034; omega⟩ rfl dL_law_1398 (fun H1 locs1 hw1 hS1 _ _ => ?_)
    refine lv_istore (lv' := [(5, .int 0), (4, .int x4), (3, .ref (G.2.2 (30, 0, 0))), (2, .ref (G.2.2 (6, 0, 0))), (1, .ref (G.2.2 (0, 0, 0))), (0, .ref b)]) B.1 B.2.1 dL_law_1401 hl (by decide) rfl (fun ls hl => ?_)
    refine lv_aload_n B.1 B.2.1 dL_law_1403 rfl (lv_at hl 3 rfl) ?_
    refine lv_aload_n B.1 B.2.1 dL_law_1404 rfl (lv_at hl 5 rfl) ?_
    refine lv_iload B.1 B.2.1 dL_law_1405 (lv_at hl 1 rfl) ?_
    refine lv_iconst (v := 1) B.1 B.2.1 dL_law_1407 (by decide) ?_
    refine lv_iadd B.1 B.2.1 dL_law_1408 ?_
    refine va_sld B.1 B.2.1 hX hbl (Nat.not_le.mpr hbl) hS1 hi1 dL_law_1409 ?_
    refine lv_aload_n B.1 B.2.1 dL_law_1410 rfl (lv_at hl 5 rfl) ?_
    refine lv_iload B.1 B.2.1 dL_law_1411 (lv_at hl 1 rfl) ?_
    refine lv_iconst (v := 2) B.1 B.2.1 dL_law_1413 (by decide) ?_
    refine lv_iadd B.1 B.2.1 dL_law_1414 ?_
    refine va_sld B.1 B.2.1 hX hbl (Nat.not_le.mpr hbl) hS1 hi2 dL_law_1415 ?_
    refine mb_xV (as := [.inl (xs (x4 + 1).toNatClampNeg), .inl (xs (x4 + 2).toNatClampNeg)]) (n := 2) (d2 := 2) (ci := 6) (N := 16) (rest := []) B hS1 hw1 hl.1 ⟨⟨by decide, by decide⟩, trivial, trivial, trivial⟩ (Nat.le_of_ble_eq_true rfl) (C_X6_charge hst B.2.2.2.2.2.2.2.1 e6) (mb_gV wl_L_173 mi_X6_charge ms_X6_charge mn_X6 mc_X6_charge) (by decide +kernel) rfl rfl rfl ⟨by show 8 + 2 + 1 ≤ 2048; decide, by show _ ≤ 84000; decide, by show cells + 0 + 0 ≤ 601024; omega, by show slots + 0 + 0 ≤ 7293034; omega⟩ rfl dL_law_1416 (fun v1 H1c locs1c hv1 _ hw1c hS1c _ _ => ?_) (fun E9 ce9 q9 H9 locs9 hv9 _ _ _ _ _ _ _ => by cases hv9)
    cases hv1
    refine lv_istore (lv' := [(6, .int v), (5, .int 0), (4, .int x4), (3, .ref (G.2.2 (30, 0, 0))), (2, .ref (G.2.2 (6, 0, 0))), (1, .ref (G.2.2 (0, 0, 0))), (0, .ref b)]) B.1 B.2.1 dL_law_1419 hl (by decide) rfl (fun ls hl => ?_)
    refine lv_aload_n B.1 B.2.1 dL_law_1421 rfl (lv_at hl 4 rfl) ?_
    refine mb_xV (as := []) (n := 0) (d2 := 0) (ci := 6) (N := 16) (rest := []) B hS1c hw1c hl.1 ⟨⟨by decide, by decide⟩, trivial⟩ (Nat.le_of_ble_eq_true rfl) (C_X6_thrown hst B.2.2.2.2.2.2.2.1 (show F_X6_thrown _ = some (.inl (some (.inl (h3.1 6 0 0 4))), h3) from rfl)) (mb_gV wl_L_109 mi_X6_thrown ms_X6_thrown mn_X6 mc_X6_thrown) (by decide +kernel) rfl rfl rfl ⟨by show 8 + 0 + 1 ≤ 2048; decide, by show _ ≤ 84000; decide, by show cells + 0 + 0 ≤ 601024; omega, by show slots + 0 + 0 ≤ 7293034; omega⟩ rfl dL_law_1422 (fun v2 H2c locs2c hv2 _ hw2c hS2c _ _ => ?_) (fun E9 ce9 q9 H9 locs9 hv9 _ _ _ _ _ _ _ => by cases hv9)
    cases hv2
    refine lv_iload B.1 B.2.1 dL_law_1425 (lv_at hl 1 rfl) ?_
    refine lv_icmp_eq (tgt := 1432) B.1 B.2.1 dL_law_1427 (by decide) (fun _ => ?_) (fun z9 => absurd eT z9)
    refine lv_iload B.1 B.2.1 dL_law_1432 (lv_at hl 1 rfl) ?_
    refine lv_if_ne (tgt := 1449) B.1 B.2.1 dL_law_1434 (by decide) (fun z9 => absurd rfl z9) (fun _ => ?_)
    refine lv_aload_n B.1 B.2.1 dL_law_1437 rfl (lv_at hl 3 rfl) ?_
    refine lv_iconst (v := 0) B.1 B.2.1 dL_law_1438 (by decide) ?_
    refine mb_outld B hw2c dL_law_1439 ?_
    refine lv_iload B.1 B.2.1 dL_law_1440 (lv_at hl 0 rfl) ?_
    refine lv_i2l B.1 B.2.1 dL_law_1442 rfl ?_
    refine W.lcmp B.1 B.2.1 dL_law_1443 ?_
    refine lv_if_eq (tgt := 1449) B.1 B.2.1 dL_law_1444 (by decide) (fun _ => ?_) (fun z9 => absurd (by rw [eO]; exact mb_lc0 _) z9)
    refine lv_goto (tgt := 1925) B.1 B.2.1 dL_law_1449 (by decide) ?_
    exact kk _ _ _ _ _ _ eS hw2c hS2c (lv_sub hl [2, 3, 4, 5, 6] rfl) (by simp only [mb_mc, mb_ms]; omega) (by simp only [mb_mc, mb_ms]; omega)
  · match j, ej with
    | 0, ej =>
      cases ej
      refine lv_aload_n B.1 B.2.1 dL_law_1384 rfl (lv_at hl 3 rfl) ?_
      refine lv_aload_n B.1 B.2.1 dL_law_1385 rfl (lv_at hl 4 rfl) ?_
      refine lv_iload B.1 B.2.1 dL_law_1386 (lv_at hl 0 rfl) ?_
      refine lv_iconst (v := 1) B.1 B.2.1 dL_law_1388 (by decide) ?_
      refine lv_iadd B.1 B.2.1 dL_law_1389 ?_
      refine va_sld B.1 B.2.1 hX hbl (Nat.not_le.mpr hbl) hS hi1 dL_law_1390 ?_
      refine lv_aload_n B.1 B.2.1 dL_law_1391 rfl (lv_at hl 4 rfl) ?_
      refine lv_iload B.1 B.2.1 dL_law_1392 (lv_at hl 0 rfl) ?_
      refine lv_iconst (v := 2) B.1 B.2.1 dL_law_1394 (by decide) ?_
      refine lv_iadd B.1 B.2.1 dL_law_1395 ?_
      refine va_sld B.1 B.2.1 hX hbl (Nat.not_le.mpr hbl) hS hi2 dL_law_1396 ?_
      refine lv_aload_n B.1 B.2.1 dL_law_1397 rfl (lv_at hl 1 rfl) ?_
      refine mb_xH (as := [mb_F 0 0 0, .inl (xs (x4 + 1).toNatClampNeg), .inl (xs (x4 + 2).toNatClampNeg), mb_F 30 0 0]) (n := 4) (mc := 1) (ms := 6) (rest := []) B hS hw hl.1 ⟨⟨by decide, by decide⟩, trivial, trivial, ⟨by decide, by decide⟩, trivial⟩ (Nat.zero_le _) (H_charge_t1 hst B.2.2.2.2.2.2.2.1 e5) wl_L_171 mt_L_charge mn_L mw_L_charge (by decide +kernel) rfl ⟨by show 8 + 5 + 1 ≤ 2048; decide, by show _ ≤ 84000; decide, by show cells + 1 ≤ 601024; omega, by show slots + 6 ≤ 7293034; omega⟩ rfl dL_law_1398 (fun H1 locs1 hw1 hS1 _ _ => ?_)
      refine lv_istore (lv' := [(5, .int 1), (4, .int x4), (3, .ref (G.2.2 (30, 0, 0))), (2, .ref (G.2.2 (6, 0, 0))), (1, .ref (G.2.2 (0, 0, 0))), (0, .ref b)]) B.1 B.2.1 dL_law_1401 hl (by decide) rfl (fun ls hl => ?_)
      refine lv_aload_n B.1 B.2.1 dL_law_1403 rfl (lv_at hl 3 rfl) ?_
      refine lv_aload_n B.1 B.2.1 dL_law_1404 rfl (lv_at hl 5 rfl) ?_
      refine lv_iload B.1 B.2.1 dL_law_1405 (lv_at hl 1 rfl) ?_
      refine lv_iconst (v := 1) B.1 B.2.1 dL_law_1407 (by decide) ?_
      refine lv_iadd B.1 B.2.1 dL_law_1408 ?_
      refine va_sld B.1 B.2.1 hX hbl (Nat.not_le.mpr hbl) hS1 hi1 dL_law_1409 ?_
      refine lv_aload_n B.1 B.2.1 dL_law_1410 rfl (lv_at hl 5 rfl) ?_
      refine lv_iload B.1 B.2.1 dL_law_1411 (lv_at hl 1 rfl) ?_
      refine lv_iconst (v := 2) B.1 B.2.1 dL_law_1413 (by decide) ?_
      refine lv_iadd B.1 B.2.1 dL_law_1414 ?_
      refine va_sld B.1 B.2.1 hX hbl (Nat.not_le.mpr hbl) hS1 hi2 dL_law_1415 ?_
      refine mb_xV (as := [.inl (xs (x4 + 1).toNatClampNeg), .inl (xs (x4 + 2).toNatClampNeg)]) (n := 2) (d2 := 2) (ci := 6) (N := 16) (rest := []) B hS1 hw1 hl.1 ⟨⟨by decide, by decide⟩, trivial, trivial, trivial⟩ (Nat.le_of_ble_eq_true rfl) (C_X6_charge hst B.2.2.2.2.2.2.2.1 e6) (mb_gV wl_L_173 mi_X6_charge ms_X6_charge mn_X6 mc_X6_charge) (by decide +kernel) rfl rfl rfl ⟨by show 8 + 2 + 1 ≤ 2048; decide, by show _ ≤ 84000; decide, by show cells + 1 + 0 ≤ 601024; omega, by show slots + 6 + 0 ≤ 7293034; omega⟩ rfl dL_law_1416 (fun v1 H1c locs1c hv1 _ hw1c hS1c _ _ => ?_) (fun E9 ce9 q9 H9 locs9 hv9 _ _ _ _ _ _ _ => by cases hv9)
      cases hv1
      refine lv_istore (lv' := [(6, .int b9), (5, .int 1), (4, .int x4), (3, .ref (G.2.2 (30, 0, 0))), (2, .ref (G.2.2 (6, 0, 0))), (1, .ref (G.2.2 (0, 0, 0))), (0, .ref b)]) B.1 B.2.1 dL_law_1419 hl (by decide) rfl (fun ls hl => ?_)
      refine lv_aload_n B.1 B.2.1 dL_law_1421 rfl (lv_at hl 4 rfl) ?_
      refine mb_xV (as := []) (n := 0) (d2 := 0) (ci := 6) (N := 16) (rest := []) B hS1c hw1c hl.1 ⟨⟨by decide, by decide⟩, trivial⟩ (Nat.le_of_ble_eq_true rfl) (C_X6_thrown hst B.2.2.2.2.2.2.2.1 (show F_X6_thrown _ = some (.inl (some (.inl (h3.1 6 0 0 4))), h3) from rfl)) (mb_gV wl_L_109 mi_X6_thrown ms_X6_thrown mn_X6 mc_X6_thrown) (by decide +kernel) rfl rfl rfl ⟨by show 8 + 0 + 1 ≤ 2048; decide, by show _ ≤ 84000; decide, by show cells + 1 + 0 ≤ 601024; omega, by show slots + 6 + 0 ≤ 7293034; omega⟩ rfl dL_law_1422 (fun v2 H2c locs2c hv2 _ hw2c hS2c _ _ => ?_) (fun E9 ce9 q9 H9 locs9 hv9 _ _ _ _ _ _ _ => by cases hv9)
      cases hv2
      refine lv_iload B.1 B.2.1 dL_law_1425 (lv_at hl 1 rfl) ?_
      refine lv_icmp_eq (tgt := 1432) B.1 B.2.1 dL_law_1427 (by decide) (fun _ => ?_) (fun z9 => absurd eT z9)
      refine lv_iload B.1 B.2.1 dL_law_1432 (lv_at hl 1 rfl) ?_
      refine lv_if_ne (tgt := 1449) B.1 B.2.1 dL_law_1434 (by decide) (fun _ => ?_) (fun z9 => absurd z9 (by decide))
      refine lv_goto (tgt := 1925) B.1 B.2.1 dL_law_1449 (by decide) ?_
      exact kk _ _ _ _ _ _ eS hw2c hS2c (lv_sub hl [2, 3, 4, 5, 6] rfl) (by simp only [mb_mc, mb_ms]; omega) (by simp only [mb_mc, mb_ms]; omega)
    | 1, ej =>
      cases ej
      refine lv_aload_n B.1 B.2.1 dL_law_1384 rfl (lv_at hl 3 rfl) ?_
      refine lv_aload_n B.1 B.2.1 dL_law_1385 rfl (lv_at hl 4 rfl) ?_
      refine lv_iload B.1 B.2.1 dL_law_1386 (lv_at hl 0 rfl) ?_
      refine lv_iconst (v := 1) B.1 B.2.1 dL_law_1388 (by decide) ?_
      refine lv_iadd B.1 B.2.1 dL_law_1389 ?_
      refine va_sld B.1 B.2.1 hX hbl (Nat.not_le.mpr hbl) hS hi1 dL_law_1390 ?_
      refine lv_aload_n B.1 B.2.1 dL_law_1391 rfl (lv_at hl 4 rfl) ?_
      refine lv_iload B.1 B.2.1 dL_law_1392 (lv_at hl 0 rfl) ?_
      refine lv_iconst (v := 2) B.1 B.2.1 dL_law_1394 (by decide) ?_
      refine lv_iadd B.1 B.2.1 dL_law_1395 ?_
      refine va_sld B.1 B.2.1 hX hbl (Nat.not_le.mpr hbl) hS hi2 dL_law_1396 ?_
      refine lv_aload_n B.1 B.2.1 dL_law_1397 rfl (lv_at hl 1 rfl) ?_
      refine mb_xH (as := [mb_F 0 0 0, .inl (xs (x4 + 1).toNatClampNeg), .inl (xs (x4 + 2).toNatClampNeg), mb_F 30 0 0]) (n := 4) (mc := 1) (ms := 6) (rest := []) B hS hw hl.1 ⟨⟨by decide, by decide⟩, trivial, trivial, ⟨by decide, by decide⟩, trivial⟩ (Nat.zero_le _) (H_charge_t2 hst B.2.2.2.2.2.2.2.1 e5) wl_L_171 mt_L_charge mn_L mw_L_charge (by decide +kernel) rfl ⟨by show 8 + 5 + 1 ≤ 2048; decide, by show _ ≤ 84000; decide, by show cells + 1 ≤ 601024; omega, by show slots + 6 ≤ 7293034; omega⟩ rfl dL_law_1398 (fun H1 locs1 hw1 hS1 _ _ => ?_)
      refine lv_istore (lv' := [(5, .int 2), (4, .int x4), (3, .ref (G.2.2 (30, 0, 0))), (2, .ref (G.2.2 (6, 0, 0))), (1, .ref (G.2.2 (0, 0, 0))), (0, .ref b)]) B.1 B.2.1 dL_law_1401 hl (by decide) rfl (fun ls hl => ?_)
      refine lv_aload_n B.1 B.2.1 dL_law_1403 rfl (lv_at hl 3 rfl) ?_
      refine lv_aload_n B.1 B.2.1 dL_law_1404 rfl (lv_at hl 5 rfl) ?_
      refine lv_iload B.1 B.2.1 dL_law_1405 (lv_at hl 1 rfl) ?_
      refine lv_iconst (v := 1) B.1 B.2.1 dL_law_1407 (by decide) ?_
      refine lv_iadd B.1 B.2.1 dL_law_1408 ?_
      refine va_sld B.1 B.2.1 hX hbl (Nat.not_le.mpr hbl) hS1 hi1 dL_law_1409 ?_
      refine lv_aload_n B.1 B.2.1 dL_law_1410 rfl (lv_at hl 5 rfl) ?_
      refine lv_iload B.1 B.2.1 dL_law_1411 (lv_at hl 1 rfl) ?_
      refine lv_iconst (v := 2) B.1 B.2.1 dL_law_1413 (by decide) ?_
      refine lv_iadd B.1 B.2.1 dL_law_1414 ?_
      refine va_sld B.1 B.2.1 hX hbl (Nat.not_le.mpr hbl) hS1 hi2 dL_law_1415 ?_
      refine mb_xV (as := [.inl (xs (x4 + 1).toNatClampNeg), .inl (xs (x4 + 2).toNatClampNeg)]) (n := 2) (d2 := 2) (ci := 6) (N := 16) (rest := []) B hS1 hw1 hl.1 ⟨⟨by decide, by decide⟩, trivial, trivial, trivial⟩ (Nat.le_of_ble_eq_true rfl) (C_X6_charge hst B.2.2.2.2.2.2.2.1 e6) (mb_gV wl_L_173 mi_X6_charge ms_X6_charge mn_X6 mc_X6_charge) (by decide +kernel) rfl rfl rfl ⟨by show 8 + 2 + 1 ≤ 2048; decide, by show _ ≤ 84000; decide, by show cells + 1 + 0 ≤ 601024; omega, by show slots + 6 + 0 ≤ 7293034; omega⟩ rfl dL_law_1416 (fun v1 H1c locs1c hv1 _ hw1c hS1c _ _ => ?_) (fun E9 ce9 q9 H9 locs9 hv9 _ _ _ _ _ _ _ => by cases hv9)
      cases hv1
      refine lv_istore (lv' := [(6, .int b9), (5, .int 2), (4, .int x4), (3, .ref (G.2.2 (30, 0, 0))), (2, .ref (G.2.2 (6, 0, 0))), (1, .ref (G.2.2 (0, 0, 0))), (0, .ref b)]) B.1 B.2.1 dL_law_1419 hl (by decide) rfl (fun ls hl => ?_)
      refine lv_aload_n B.1 B.2.1 dL_law_1421 rfl (lv_at hl 4 rfl) ?_
      refine mb_xV (as := []) (n := 0) (d2 := 0) (ci := 6) (N := 16) (rest := []) B hS1c hw1c hl.1 ⟨⟨by decide, by decide⟩, trivial⟩ (Nat.le_of_ble_eq_true rfl) (C_X6_thrown hst B.2.2.2.2.2.2.2.1 (show F_X6_thrown _ = some (.inl (some (.inl (h3.1 6 0 0 4))), h3) from rfl)) (mb_gV wl_L_109 mi_X6_thrown ms_X6_thrown mn_X6 mc_X6_thrown) (by decide +kernel) rfl rfl rfl ⟨by show 8 + 0 + 1 ≤ 2048; decide, by show _ ≤ 84000; decide, by show cells + 1 + 0 ≤ 601024; omega, by show slots + 6 + 0 ≤ 7293034; omega⟩ rfl dL_law_1422 (fun v2 H2c locs2c hv2 _ hw2c hS2c _ _ => ?_) (fun E9 ce9 q9 H9 locs9 hv9 _ _ _ _ _ _ _ => by cases hv9)
      cases hv2
      refine lv_iload B.1 B.2.1 dL_law_1425 (lv_at hl 1 rfl) ?_
      refine lv_icmp_eq (tgt := 1432) B.1 B.2.1 dL_law_1427 (by decide) (fun _ => ?_) (fun z9 => absurd eT z9)
      refine lv_iload B.1 B.2.1 dL_law_1432 (lv_at hl 1 rfl) ?_
      refine lv_if_ne (tgt := 1449) B.1 B.2.1 dL_law_1434 (by decide) (fun _ => ?_) (fun z9 => absurd z9 (by decide))
      refine lv_goto (tgt := 1925) B.1 B.2.1 dL_law_1449 (by decide) ?_
      exact kk _ _ _ _ _ _ eS hw2c hS2c (lv_sub hl [2, 3, 4, 5, 6] rfl) (by simp only [mb_mc, mb_ms]; omega) (by simp only [mb_mc, mb_ms]; omega)
    | 2, ej =>
      cases ej
      refine lv_aload_n B.1 B.2.1 dL_law_1384 rfl (lv_at hl 3 rfl) ?_
      refine lv_aload_n B.1 B.2.1 dL_law_1385 rfl (lv_at hl 4 rfl) ?_
      refine lv_iload B.1 B.2.1 dL_law_1386 (lv_at hl 0 rfl) ?_
      refine lv_iconst (v := 1) B.1 B.2.1 dL_law_1388 (by decide) ?_
      refine lv_iadd B.1 B.2.1 dL_law_1389 ?_
      refine va_sld B.1 B.2.1 hX hbl (Nat.not_le.mpr hbl) hS hi1 dL_law_1390 ?_
      refine lv_aload_n B.1 B.2.1 dL_law_1391 rfl (lv_at hl 4 rfl) ?_
      refine lv_iload B.1 B.2.1 dL_law_1392 (lv_at hl 0 rfl) ?_
      refine lv_iconst (v := 2) B.1 B.2.1 dL_law_1394 (by decide) ?_
      refine lv_iadd B.1 B.2.1 dL_law_1395 ?_
      refine va_sld B.1 B.2.1 hX hbl (Nat.not_le.mpr hbl) hS hi2 dL_law_1396 ?_
      refine lv_aload_n B.1 B.2.1 dL_law_1397 rfl (lv_at hl 1 rfl) ?_
      refine mb_xH (as := [mb_F 0 0 0, .inl (xs (x4 + 1).toNatClampNeg), .inl (xs (x4 + 2).toNatClampNeg), mb_F 30 0 0]) (n := 4) (mc := 1) (ms := 6) (rest := []) B hS hw hl.1 ⟨⟨by decide, by decide⟩, trivial, trivial, ⟨by decide, by decide⟩, trivial⟩ (Nat.zero_le _) (H_charge_t3 hst B.2.2.2.2.2.2.2.1 e5) wl_L_171 mt_L_charge mn_L mw_L_charge (by decide +kernel) rfl ⟨by show 8 + 5 + 1 ≤ 2048; decide, by show _ ≤ 84000; decide, by show cells + 1 ≤ 601024; omega, by show slots + 6 ≤ 7293034; omega⟩ rfl dL_law_1398 (fun H1 locs1 hw1 hS1 _ _ => ?_)
      refine lv_istore (lv' := [(5, .int 3), (4, .int x4), (3, .ref (G.2.2 (30, 0, 0))), (2, .ref (G.2.2 (6, 0, 0))), (1, .ref (G.2.2 (0, 0, 0))), (0, .ref b)]) B.1 B.2.1 dL_law_1401 hl (by decide) rfl (fun ls hl => ?_)
      refine lv_aload_n B.1 B.2.1 dL_law_1403 rfl (lv_at hl 3 rfl) ?_
      refine lv_aload_n B.1 B.2.1 dL_law_1404 rfl (lv_at hl 5 rfl) ?_
      refine lv_iload B.1 B.2.1 dL_law_1405 (lv_at hl 1 rfl) ?_
      refine lv_iconst (v := 1) B.1 B.2.1 dL_law_1407 (by decide) ?_
      refine lv_iadd B.1 B.2.1 dL_law_1408 ?_
      refine va_sld B.1 B.2.1 hX hbl (Nat.not_le.mpr hbl) hS1 hi1 dL_law_1409 ?_
      refine lv_aload_n B.1 B.2.1 dL_law_1410 rfl (lv_at hl 5 rfl) ?_
      refine lv_iload B.1 B.2.1 dL_law_1411 (lv_at hl 1 rfl) ?_
      refine lv_iconst (v := 2) B.1 B.2.1 dL_law_1413 (by decide) ?_
      refine lv_iadd B.1 B.2.1 dL_law_1414 ?_
      refine va_sld B.1 B.2.1 hX hbl (Nat.not_le.mpr hbl) hS1 hi2 dL_law_1415 ?_
      refine mb_xV (as := [.inl (xs (x4 + 1).toNatClampNeg), .inl (xs (x4 + 2).toNatClampNeg)]) (n := 2) (d2 := 2) (ci := 6) (N := 16) (rest := []) B hS1 hw1 hl.1 ⟨⟨by decide, by decide⟩, trivial, trivial, trivial⟩ (Nat.le_of_ble_eq_true rfl) (C_X6_charge hst B.2.2.2.2.2.2.2.1 e6) (mb_gV wl_L_173 mi_X6_charge ms_X6_charge mn_X6 mc_X6_charge) (by decide +kernel) rfl rfl rfl ⟨by show 8 + 2 + 1 ≤ 2048; decide, by show _ ≤ 84000; decide, by show cells + 1 + 0 ≤ 601024; omega, by show slots + 6 + 0 ≤ 7293034; omega⟩ rfl dL_law_1416 (fun v1 H1c locs1c hv1 _ hw1c hS1c _ _ => ?_) (fun E9 ce9 q9 H9 locs9 hv9 _ _ _ _ _ _ _ => by cases hv9)
      cases hv1
      refine lv_istore (lv' := [(6, .int b9), (5, .int 3), (4, .int x4), (3, .ref (G.2.2 (30, 0, 0))), (2, .ref (G.2.2 (6, 0, 0))), (1, .ref (G.2.2 (0, 0, 0))), (0, .ref b)]) B.1 B.2.1 dL_law_1419 hl (by decide) rfl (fun ls hl => ?_)
      refine lv_aload_n B.1 B.2.1 dL_law_1421 rfl (lv_at hl 4 rfl) ?_
      refine mb_xV (as := []) (n := 0) (d2 := 0) (ci := 6) (N := 16) (rest := []) B hS1c hw1c hl.1 ⟨⟨by decide, by decide⟩, trivial⟩ (Nat.le_of_ble_eq_true rfl) (C_X6_thrown hst B.2.2.2.2.2.2.2.1 (show F_X6_thrown _ = some (.inl (some (.inl (h3.1 6 0 0 4))), h3) from rfl)) (mb_gV wl_L_109 mi_X6_thrown ms_X6_thrown mn_X6 mc_X6_thrown) (by decide +kernel) rfl rfl rfl ⟨by show 8 + 0 + 1 ≤ 2048; decide, by show _ ≤ 84000; decide, by show cells + 1 + 0 ≤ 601024; omega, by show slots + 6 + 0 ≤ 7293034; omega⟩ rfl dL_law_1422 (fun v2 H2c locs2c hv2 _ hw2c hS2c _ _ => ?_) (fun E9 ce9 q9 H9 locs9 hv9 _ _ _ _ _ _ _ => by cases hv9)
      cases hv2
      refine lv_iload B.1 B.2.1 dL_law_1425 (lv_at hl 1 rfl) ?_
      refine lv_icmp_eq (tgt := 1432) B.1 B.2.1 dL_law_1427 (by decide) (fun _ => ?_) (fun z9 => absurd eT z9)
      refine lv_iload B.1 B.2.1 dL_law_1432 (lv_at hl 1 rfl) ?_
      refine lv_if_ne (tgt := 1449) B.1 B.2.1 dL_law_1434 (by decide) (fun _ => ?_) (fun z9 => absurd z9 (by decide))
      refine lv_goto (tgt := 1925) B.1 B.2.1 dL_law_1449 (by decide) ?_
      exact kk _ _ _ _ _ _ eS hw2c hS2c (lv_sub hl [2, 3, 4, 5, 6] rfl) (by simp only [mb_mc, mb_ms]; omega) (by simp only [mb_mc, mb_ms]; omega)
    | k9 + 3, ej => simp at ej
set_option maxRecDepth 100000 in
set_option maxHeartbeats 4000000 in
theorem lc_20 (hst : l.stackTraces = false) (B : mb_Lx p l s m #[Value.ref b] c G RL code 7 (mb_A9 s)) (hX : va_X b L xs s s.heap) (hbl : b < s.heap.size) (hS : va_S (mb_A9 s) s.heap H locs) (hw : mb_wd G h H) (hl : lv_has ls 7 [(4, .int x4), (3, .ref (G.2.2 (30, 0, 0))), (2, .ref (G.2.2 (6, 0, 0))), (1, .ref (G.2.2 (0, 0, 0))), (0, .ref b)]) (hc : cells + 1 ≤ 601024) (hs : slots + 6 ≤ 7293034)  (hps : mb_PL (F_X5_owed  h) (F_X6_owed) S)
    (kk : ∀ (h3 : mb_AH) (H3 : Heap) (locs3 : List Loc) (ls3 : Array Slot) (cells3 slots3 : Nat), S h3 → mb_wd G h3 H3 → va_S (mb_A9 s) s.heap H3 locs3 → lv_has ls3 7 [(4, .int x4), (3, .ref (G.2.2 (30, 0, 0))), (2, .ref (G.2.2 (6, 0, 0))), (1, .ref (G.2.2 (0, 0, 0))), (0, .ref b)] → cells3 ≤ cells + 1 → slots3 ≤ slots + 6 → W p l e room_1 s m #[Value.ref b] below meth c H3 locs3 cells3 slots3 Q (F0 m 1925 ls3 [])) : W p l e room_1 s m #[Value.ref b] below meth c H locs cells slots Q (F0 m 1452 ls []) := by
  obtain ⟨v, h1, h3, e5, e6, eS⟩ := hps
  refine lv_aload_n B.1 B.2.1 dL_law_1452 rfl (lv_at hl 3 rfl) ?_
  refine mb_xV (as := []) (n := 0) (d2 := 1) (ci := 5) (N := 6) (rest := []) B hS hw hl.1 ⟨⟨by decide, by decide⟩, trivial⟩ (Nat.le_of_ble_eq_true rfl) (C_X5_owed hst B.2.2.2.2.2.2.2.1 e5) (mb_gV wl_L_174 mi_X5_owed ms_X5_owed mn_X5 mc_X5_owed) (by decide +kernel) rfl rfl rfl ⟨by show 8 + 1 + 1 ≤ 2048; decide, by show _ ≤ 84000; decide, by show cells + 0 ≤ 601024; omega, by show slots + 0 ≤ 7293034; omega⟩ rfl dL_law_1453 (fun v1 H1c locs1c hv1 _ hw1c hS1c _ _ => ?_) (fun E9 ce9 q9 H9 locs9 hv9 _ _ _ _ _ _ _ => by cases hv9)
  cases hv1
  refine lv_aload_n B.1 B.2.1 dL_law_1456 rfl (lv_at hl 2 rfl) ?_
  refine mb_xV (as := []) (n := 0) (d2 := 2) (ci := 6) (N := 16) (rest := [.long v]) B hS1c hw1c hl.1 ⟨⟨by decide, by decide⟩, trivial⟩ (Nat.le_of_ble_eq_true rfl) (C_X6_owed hst B.2.2.2.2.2.2.2.1 e6) (mb_gV wl_L_178 mi_X6_owed ms_X6_owed mn_X6 mc_X6_owed) (by decide +kernel) rfl rfl rfl ⟨by show 8 + 2 + 1 ≤ 2048; decide, by show _ ≤ 84000; decide, by show cells + 0 ≤ 601024; omega, by show slots + 0 ≤ 7293034; omega⟩ rfl dL_law_1457 (fun v2 H2c locs2c hv2 _ hw2c hS2c _ _ => ?_) (fun E9 ce9 q9 H9 locs9 hv9 _ _ _ _ _ _ _ => by cases hv9)
  cases hv2
  refine W.lcmp B.1 B.2.1 dL_law_1460 ?_
  refine lv_if_eq (tgt := 1925) B.1 B.2.1 dL_law_1461 (by decide) (fun _ => ?_) (fun z9 => absurd (mb_lc0 _) z9)
  exact kk _ _ _ _ _ _ eS hw2c hS2c (lv_sub hl [0, 1, 2, 3, 4] rfl) (by simp only [mb_mc, mb_ms]; omega) (by simp only [mb_mc, mb_ms]; omega)
set_option maxRecDepth 100000 in
set_option maxHeartbeats 4000000 in
theorem lc_21 (hst : l.stackTraces = false) (B : mb_Lx p l s m #[Value.ref b] c G RL code 7 (mb_A9 s)) (hX : va_X b L xs s s.heap) (hbl : b < s.heap.size) (hS : va_S (mb_A9 s) s.heap H locs) (hw : mb_wd G h H) (hl : lv_has ls 7 [(4, .int x4), (3, .ref (G.2.2 (30, 0, 0))), (2, .ref (G.2.2 (6, 0, 0))), (1, .ref (G.2.2 (0, 0, 0))), (0, .ref b)]) (hc : cells + 1 ≤ 601024) (hs : slots + 6 ≤ 7293034)  (hps : mb_PL (F_X5_paid  h) (F_X6_paid) S)
    (kk : ∀ (h3 : mb_AH) (H3 : Heap) (locs3 : List Loc) (ls3 : Array Slot) (cells3 slots3 : Nat), S h3 → mb_wd G h3 H3 → va_S (mb_A9 s) s.heap H3 locs3 → lv_has ls3 7 [(4, .int x4), (3, .ref (G.2.2 (30, 0, 0))), (2, .ref (G.2.2 (6, 0, 0))), (1, .ref (G.2.2 (0, 0, 0))), (0, .ref b)] → cells3 ≤ cells + 1 → slots3 ≤ slots + 6 → W p l e room_1 s m #[Value.ref b] below meth c H3 locs3 cells3 slots3 Q (F0 m 1925 ls3 [])) : W p l e room_1 s m #[Value.ref b] below meth c H locs cells slots Q (F0 m 1466 ls []) := by
  obtain ⟨v, h1, h3, e5, e6, eS⟩ := hps
  refine lv_aload_n B.1 B.2.1 dL_law_1466 rfl (lv_at hl 3 rfl) ?_
  refine mb_xV (as := []) (n := 0) (d2 := 0) (ci := 5) (N := 6) (rest := []) B hS hw hl.1 ⟨⟨by decide, by decide⟩, trivial⟩ (Nat.le_of_ble_eq_true rfl) (C_X5_paid hst B.2.2.2.2.2.2.2.1 e5) (mb_gV wl_L_179 mi_X5_paid ms_X5_paid mn_X5 mc_X5_paid) (by decide +kernel) rfl rfl rfl ⟨by show 8 + 0 + 1 ≤ 2048; decide, by show _ ≤ 84000; decide, by show cells + 0 ≤ 601024; omega, by show slots + 0 ≤ 7293034; omega⟩ rfl dL_law_1467 (fun v1 H1c locs1c hv1 _ hw1c hS1c _ _ => ?_) (fun E9 ce9 q9 H9 locs9 hv9 _ _ _ _ _ _ _ => by cases hv9)
  cases hv1
  refine lv_aload_n B.1 B.2.1 dL_law_1470 rfl (lv_at hl 2 rfl) ?_
  refine mb_xV (as := []) (n := 0) (d2 := 1) (ci := 6) (N := 16) (rest := [.long v]) B hS1c hw1c hl.1 ⟨⟨by decide, by decide⟩, trivial⟩ (Nat.le_of_ble_eq_true rfl) (C_X6_paid hst B.2.2.2.2.2.2.2.1 e6) (mb_gV wl_L_182 mi_X6_paid ms_X6_paid mn_X6 mc_X6_paid) (by decide +kernel) rfl rfl rfl ⟨by show 8 + 1 + 1 ≤ 2048; decide, by show _ ≤ 84000; decide, by show cells + 0 ≤ 601024; omega, by show slots + 0 ≤ 7293034; omega⟩ rfl dL_law_1471 (fun v2 H2c locs2c hv2 _ hw2c hS2c _ _ => ?_) (fun E9 ce9 q9 H9 locs9 hv9 _ _ _ _ _ _ _ => by cases hv9)
  cases hv2
  refine W.lcmp B.1 B.2.1 dL_law_1474 ?_
  refine lv_if_eq (tgt := 1925) B.1 B.2.1 dL_law_1475 (by decide) (fun _ => ?_) (fun z9 => absurd (mb_lc0 _) z9)
  exact kk _ _ _ _ _ _ eS hw2c hS2c (lv_sub hl [0, 1, 2, 3, 4] rfl) (by simp only [mb_mc, mb_ms]; omega) (by simp only [mb_mc, mb_ms]; omega)
set_option maxRecDepth 100000 in
set_option maxHeartbeats 4000000 in
theorem lc_22 (hst : l.stackTraces = false) (B : mb_Lx p l s m #[Value.ref b] c G RL code 7 (mb_A9 s)) (hX : va_X b L xs s s.heap) (hbl : b < s.heap.size) (hS : va_S (mb_A9 s) s.heap H locs) (hw : mb_wd G h H) (hl : lv_has ls 7 [(4, .int x4), (3, .ref (G.2.2 (30, 0, 0))), (2, .ref (G.2.2 (6, 0, 0))), (1, .ref (G.2.2 (0, 0, 0))), (0, .ref b)]) (hc : cells + 1 ≤ 601024) (hs : slots + 6 ≤ 7293034) (hi1 : vp_in (x4 + 1) L) (hi2 : vp_in (x4 + 2) L) (hps : mb_PI ["java/lang/IndexOutOfBoundsException", "java/lang/IllegalArgumentException"] (F_X5_owesAfter (xs (x4 + 1).toNatClampNeg) (xs (x4 + 2).toNatClampNeg) h) (F_X6_owesAfter (xs (x4 + 1).toNatClampNeg) (xs (x4 + 2).toNatClampNeg)) S)
    (kk : ∀ (h3 : mb_AH) (H3 : Heap) (locs3 : List Loc) (ls3 : Array Slot) (cells3 slots3 : Nat), S h3 → mb_wd G h3 H3 → va_S (mb_A9 s) s.heap H3 locs3 → lv_has ls3 7 [(4, .int x4), (3, .ref (G.2.2 (30, 0, 0))), (2, .ref (G.2.2 (6, 0, 0))), (1, .ref (G.2.2 (0, 0, 0))), (0, .ref b)] → cells3 ≤ cells + 1 → slots3 ≤ slots + 6 → W p l e room_1 s m #[Value.ref b] below meth c H3 locs3 cells3 slots3 Q (F0 m 1925 ls3 [])) : W p l e room_1 s m #[Value.ref b] below meth c H locs cells slots Q (F0 m 1480 ls []) := by
  rcases hps with ⟨v, h1, h3, e5, e6, eT, eO, eS⟩ | ⟨j, E, h1, b9, h3, ej, e5, e6, eT, eS⟩
  · refine lv_aload_n B.1 B.2.1 dL_law_1480 rfl (lv_at hl 3 rfl) ?_
    refine lv_aload_n B.1 B.2.1 dL_law_1481 rfl (lv_at hl 4 rfl) ?_
    refine lv_iload B.1 B.2.1 dL_law_1482 (lv_at hl 0 rfl) ?_
    refine lv_iconst (v := 1) B.1 B.2.1 dL_law_1484 (by decide) ?_
    refine lv_iadd B.1 B.2.1 dL_law_1485 ?_
    refine va_sld B.1 B.2.1 hX hbl (Nat.not_le.mpr hbl) hS hi1 dL_law_1486 ?_
    refine lv_aload_n B.1 B.2.1 dL_law_1487 rfl (lv_at hl 4 rfl) ?_
    refine lv_iload B.1 B.2.1 dL_law_1488 (lv_at hl 0 rfl) ?_
    refine lv_iconst (v := 2) B.1 B.2.1 dL_law_1490 (by decide) ?_
    refine lv_iadd B.1 B.2.1 dL_law_1491 ?_
    refine va_sld B.1 B.2.1 hX hbl (Nat.not_le.mpr hbl) hS hi2 dL_law_1492 ?_
    refine lv_aload_n B.1 B.2.1 dL_law_1493 rfl (lv_at hl 1 rfl) ?_
    refine mb_xH (as := [mb_F 0 0 0, .inl (xs (x4 + 1).toNatClampNeg), .inl (xs (x4 + 2).toNatClampNeg), mb_F 30 0 0]) (n := 4) (mc := 0) (ms := 0) (rest := []) B hS hw hl.1 ⟨⟨by decide, by decide⟩, trivial, trivial, ⟨by decide, by decide⟩, trivial⟩ (Nat.zero_le _) (H_owesAfter_r hst B.2.2.2.2.2.2.2.1 e5) wl_L_183 mt_L_owesAfter mn_L mw_L_owesAfter (by decide +kernel) rfl ⟨by show 8 + 26 + 1 ≤ 2048; decide, by show _ ≤ 84000; decide, by show cells + 0 ≤ 601024; omega, by show slots + 0 ≤ 7293034; omega⟩ rfl dL_law_1494 (fun H1 locs1 hw1 hS1 _ _ => ?_)
    refine lv_istore (lv' := [(5, .int 0), (4, .int x4), (3, .ref (G.2.2 (30, 0, 0))), (2, .ref (G.2.2 (6, 0, 0))), (1, .ref (G.2.2 (0, 0, 0))), (0, .ref b)]) B.1 B.2.1 dL_law_1497 hl (by decide) rfl (fun ls hl => ?_)
    refine lv_aload_n B.1 B.2.1 dL_law_1499 rfl (lv_at hl 3 rfl) ?_
    refine lv_aload_n B.1 B.2.1 dL_law_1500 rfl (lv_at hl 5 rfl) ?_
    refine lv_iload B.1 B.2.1 dL_law_1501 (lv_at hl 1 rfl) ?_
    refine lv_iconst (v := 1) B.1 B.2.1 dL_law_1503 (by decide) ?_
    refine lv_iadd B.1 B.2.1 dL_law_1504 ?_
    refine va_sld B.1 B.2.1 hX hbl (Nat.not_le.mpr hbl) hS1 hi1 dL_law_1505 ?_
    refine lv_aload_n B.1 B.2.1 dL_law_1506 rfl (lv_at hl 5 rfl) ?_
    refine lv_iload B.1 B.2.1 dL_law_1507 (lv_at hl 1 rfl) ?_
    refine lv_iconst (v := 2) B.1 B.2.1 dL_law_1509 (by decide) ?_
    refine lv_iadd B.1 B.2.1 dL_law_1510 ?_
    refine va_sld B.1 B.2.1 hX hbl (Nat.not_le.mpr hbl) hS1 hi2 dL_law_1511 ?_
    refine mb_xV (as := [.inl (xs (x4 + 1).toNatClampNeg), .inl (xs (x4 + 2).toNatClampNeg)]) (n := 2) (d2 := 7) (ci := 6) (N := 16) (rest := []) B hS1 hw1 hl.1 ⟨⟨by decide, by decide⟩, trivial, trivial, trivial⟩ (Nat.le_of_ble_eq_true rfl) (C_X6_owesAfter hst B.2.2.2.2.2.2.2.1 e6) (mb_gV wl_L_185 mi_X6_owesAfter ms_X6_owesAfter mn_X6 mc_X6_owesAfter) (by decide +kernel) rfl rfl rfl ⟨by show 8 + 7 + 1 ≤ 2048; decide, by show _ ≤ 84000; decide, by show cells + 0 + 0 ≤ 601024; omega, by show slots + 0 + 0 ≤ 7293034; omega⟩ rfl dL_law_1512 (fun v1 H1c locs1c hv1 _ hw1c hS1c _ _ => ?_) (fun E9 ce9 q9 H9 locs9 hv9 _ _ _ _ _ _ _ => by cases hv9)
    cases hv1
    refine lv_istore (lv' := [(6, .int v), (5, .int 0), (4, .int x4), (3, .ref (G.2.2 (30, 0, 0))), (2, .ref (G.2.2 (6, 0, 0))), (1, .ref (G.2.2 (0, 0, 0))), (0, .ref b)]) B.1 B.2.1 dL_law_1515 hl (by decide) rfl (fun ls hl => ?_)
    refine lv_aload_n B.1 B.2.1 dL_law_1517 rfl (lv_at hl 4 rfl) ?_
    refine mb_xV (as := []) (n := 0) (d2 := 0) (ci := 6) (N := 16) (rest := []) B hS1c hw1c hl.1 ⟨⟨by decide, by decide⟩, trivial⟩ (Nat.le_of_ble_eq_true rfl) (C_X6_thrown hst B.2.2.2.2.2.2.2.1 (show F_X6_thrown _ = some (.inl (some (.inl (h3.1 6 0 0 4))), h3) from rfl)) (mb_gV wl_L_109 mi_X6_thrown ms_X6_thrown mn_X6 mc_X6_thrown) (by decide +kernel) rfl rfl rfl ⟨by show 8 + 0 + 1 ≤ 2048; decide, by show _ ≤ 84000; decide, by show cells + 0 + 0 ≤ 601024; omega, by show slots + 0 + 0 ≤ 7293034; omega⟩ rfl dL_law_1518 (fun v2 H2c locs2c hv2 _ hw2c hS2c _ _ => ?_) (fun E9 ce9 q9 H9 locs9 hv9 _ _ _ _ _ _ _ => by cases hv9)
    cases hv2
    refine lv_iload B.1 B.2.1 dL_law_1521 (lv_at hl 1 rfl) ?_
    refine lv_icmp_eq (tgt := 1528) B.1 B.2.1 dL_law_1523 (by decide) (fun _ => ?_) (fun z9 => absurd eT z9)
    refine lv_iload B.1 B.2.1 dL_law_1528 (lv_at hl 1 rfl) ?_
    refine lv_if_ne (tgt := 1545) B.1 B.2.1 dL_law_1530 (by decide) (fun z9 => absurd rfl z9) (fun _ => ?_)
    refine lv_aload_n B.1 B.2.1 dL_law_1533 rfl (lv_at hl 3 rfl) ?_
    refine lv_iconst (v := 0) B.1 B.2.1 dL_law_1534 (by decide) ?_
    refine mb_outld B hw2c dL_law_1535 ?_
    refine lv_iload B.1 B.2.1 dL_law_1536 (lv_at hl 0 rfl) ?_
    refine lv_i2l B.1 B.2.1 dL_law_1538 rfl ?_
    refine W.lcmp B.1 B.2.1 dL_law_1539 ?_
    refine lv_if_eq (tgt := 1545) B.1 B.2.1 dL_law_1540 (by decide) (fun _ => ?_) (fun z9 => absurd (by rw [eO]; exact mb_lc0 _) z9)
    refine lv_goto (tgt := 1925) B.1 B.2.1 dL_law_1545 (by decide) ?_
    exact kk _ _ _ _ _ _ eS hw2c hS2c (lv_sub hl [2, 3, 4, 5, 6] rfl) (by simp only [mb_mc, mb_ms]; omega) (by simp only [mb_mc, mb_ms]; omega)
  · match j, ej with
    | 0, ej =>
      cases ej
      refine lv_aload_n B.1 B.2.1 dL_law_1480 rfl (lv_at hl 3 rfl) ?_
      refine lv_aload_n B.1 B.2.1 dL_law_1481 rfl (lv_at hl 4 rfl) ?_
      refine lv_iload B.1 B.2.1 dL_law_1482 (lv_at hl 0 rfl) ?_
      refine lv_iconst (v := 1) B.1 B.2.1 dL_law_1484 (by decide) ?_
      refine lv_iadd B.1 B.2.1 dL_law_1485 ?_
      refine va_sld B.1 B.2.1 hX hbl (Nat.not_le.mpr hbl) hS hi1 dL_law_1486 ?_
      refine lv_aload_n B.1 B.2.1 dL_law_1487 rfl (lv_at hl 4 rfl) ?_
      refine lv_iload B.1 B.2.1 dL_law_1488 (lv_at hl 0 rfl) ?_
      refine lv_iconst (v := 2) B.1 B.2.1 dL_law_1490 (by decide) ?_
      refine lv_iadd B.1 B.2.1 dL_law_1491 ?_
      refine va_sld B.1 B.2.1 hX hbl (Nat.not_le.mpr hbl) hS hi2 dL_law_1492 ?_
      refine lv_aload_n B.1 B.2.1 dL_law_1493 rfl (lv_at hl 1 rfl) ?_
      refine mb_xH (as := [mb_F 0 0 0, .inl (xs (x4 + 1).toNatClampNeg), .inl (xs (x4 + 2).toNatClampNeg), mb_F 30 0 0]) (n := 4) (mc := 1) (ms := 6) (rest := []) B hS hw hl.1 ⟨⟨by decide, by decide⟩, trivial, trivial, ⟨by decide, by decide⟩, trivial⟩ (Nat.zero_le _) (H_owesAfter_t1 hst B.2.2.2.2.2.2.2.1 e5) wl_L_183 mt_L_owesAfter mn_L mw_L_owesAfter (by decide +kernel) rfl ⟨by show 8 + 26 + 1 ≤ 2048; decide, by show _ ≤ 84000; decide, by show cells + 1 ≤ 601024; omega, by show slots + 6 ≤ 7293034; omega⟩ rfl dL_law_1494 (fun H1 locs1 hw1 hS1 _ _ => ?_)
      refine lv_istore (lv' := [(5, .int 1), (4, .int x4), (3, .ref (G.2.2 (30, 0, 0))), (2, .ref (G.2.2 (6, 0, 0))), (1, .ref (G.2.2 (0, 0, 0))), (0, .ref b)]) B.1 B.2.1 dL_law_1497 hl (by decide) rfl (fun ls hl => ?_)
      refine lv_aload_n B.1 B.2.1 dL_law_1499 rfl (lv_at hl 3 rfl) ?_
      refine lv_aload_n B.1 B.2.1 dL_law_1500 rfl (lv_at hl 5 rfl) ?_
      refine lv_iload B.1 B.2.1 dL_law_1501 (lv_at hl 1 rfl) ?_
      refine lv_iconst (v := 1) B.1 B.2.1 dL_law_1503 (by decide) ?_
      refine lv_iadd B.1 B.2.1 dL_law_1504 ?_
      refine va_sld B.1 B.2.1 hX hbl (Nat.not_le.mpr hbl) hS1 hi1 dL_law_1505 ?_
      refine lv_aload_n B.1 B.2.1 dL_law_1506 rfl (lv_at hl 5 rfl) ?_
      refine lv_iload B.1 B.2.1 dL_law_1507 (lv_at hl 1 rfl) ?_
      refine lv_iconst (v := 2) B.1 B.2.1 dL_law_1509 (by decide) ?_
      refine lv_iadd B.1 B.2.1 dL_law_1510 ?_
      refine va_sld B.1 B.2.1 hX hbl (Nat.not_le.mpr hbl) hS1 hi2 dL_law_1511 ?_
      refine mb_xV (as := [.inl (xs (x4 + 1).toNatClampNeg), .inl (xs (x4 + 2).toNatClampNeg)]) (n := 2) (d2 := 7) (ci := 6) (N := 16) (rest := []) B hS1 hw1 hl.1 ⟨⟨by decide, by decide⟩, trivial, trivial, trivial⟩ (Nat.le_of_ble_eq_true rfl) (C_X6_owesAfter hst B.2.2.2.2.2.2.2.1 e6) (mb_gV wl_L_185 mi_X6_owesAfter ms_X6_owesAfter mn_X6 mc_X6_owesAfter) (by decide +kernel) rfl rfl rfl ⟨by show 8 + 7 + 1 ≤ 2048; decide, by show _ ≤ 84000; decide, by show cells + 1 + 0 ≤ 601024; omega, by show slots + 6 + 0 ≤ 7293034; omega⟩ rfl dL_law_1512 (fun v1 H1c locs1c hv1 _ hw1c hS1c _ _ => ?_) (fun E9 ce9 q9 H9 locs9 hv9 _ _ _ _ _ _ _ => by cases hv9)
      cases hv1
      refine lv_istore (lv' := [(6, .int b9), (5, .int 1), (4, .int x4), (3, .ref (G.2.2 (30, 0, 0))), (2, .ref (G.2.2 (6, 0, 0))), (1, .ref (G.2.2 (0, 0, 0))), (0, .ref b)]) B.1 B.2.1 dL_law_1515 hl (by decide) rfl (fun ls hl => ?_)
      refine lv_aload_n B.1 B.2.1 dL_law_1517 rfl (lv_at hl 4 rfl) ?_
      refine mb_xV (as := []) (n := 0) (d2 := 0) (ci := 6) (N := 16) (rest := []) B hS1c hw1c hl.1 ⟨⟨by decide, by decide⟩, trivial⟩ (Nat.le_of_ble_eq_true rfl) (C_X6_thrown hst B.2.2.2.2.2.2.2.1 (show F_X6_thrown _ = some (.inl (some (.inl (h3.1 6 0 0 4))), h3) from rfl)) (mb_gV wl_L_109 mi_X6_thrown ms_X6_thrown mn_X6 mc_X6_thrown) (by decide +kernel) rfl rfl rfl ⟨by show 8 + 0 + 1 ≤ 2048; decide, by show _ ≤ 84000; decide, by show cells + 1 + 0 ≤ 601024; omega, by show slots + 6 + 0 ≤ 7293034; omega⟩ rfl dL_law_1518 (fun v2 H2c locs2c hv2 _ hw2c hS2c _ _ => ?_) (fun E9 ce9 q9 H9 locs9 hv9 _ _ _ _ _ _ _ => by cases hv9)
      cases hv2
      refine lv_iload B.1 B.2.1 dL_law_1521 (lv_at hl 1 rfl) ?_
      refine lv_icmp_eq (tgt := 1528) B.1 B.2.1 dL_law_1523 (by decide) (fun _ => ?_) (fun z9 => absurd eT z9)
      refine lv_iload B.1 B.2.1 dL_law_1528 (lv_at hl 1 rfl) ?_
      refine lv_if_ne (tgt := 1545) B.1 B.2.1 dL_law_1530 (by decide) (fun _ => ?_) (fun z9 => absurd z9 (by decide))
      refine lv_goto (tgt := 1925) B.1 B.2.1 dL_law_1545 (by decide) ?_
      exact kk _ _ _ _ _ _ eS hw2c hS2c (lv_sub hl [2, 3, 4, 5, 6] rfl) (by simp only [mb_mc, mb_ms]; omega) (by simp only [mb_mc, mb_ms]; omega)
    | 1, ej =>
      cases ej
      refine lv_aload_n B.1 B.2.1 dL_law_1480 rfl (lv_at hl 3 rfl) ?_
      refine lv_aload_n B.1 B.2.1 dL_law_1481 rfl (lv_at hl 4 rfl) ?_
      refine lv_iload B.1 B.2.1 dL_law_1482 (lv_at hl 0 rfl) ?_
      refine lv_iconst (v := 1) B.1 B.2.1 dL_law_1484 (by decide) ?_
      refine lv_iadd B.1 B.2.1 dL_law_1485 ?_
      refine va_sld B.1 B.2.1 hX hbl (Nat.not_le.mpr hbl) hS hi1 dL_law_1486 ?_
      refine lv_aload_n B.1 B.2.1 dL_law_1487 rfl (lv_at hl 4 rfl) ?_
      refine lv_iload B.1 B.2.1 dL_law_1488 (lv_at hl 0 rfl) ?_
      refine lv_iconst (v := 2) B.1 B.2.1 dL_law_1490 (by decide) ?_
      refine lv_iadd B.1 B.2.1 dL_law_1491 ?_
      refine va_sld B.1 B.2.1 hX hbl (Nat.not_le.mpr hbl) hS hi2 dL_law_1492 ?_
      refine lv_aload_n B.1 B.2.1 dL_law_1493 rfl (lv_at hl 1 rfl) ?_
      refine mb_xH (as := [mb_F 0 0 0, .inl (xs (x4 + 1).toNatClampNeg), .inl (xs (x4 + 2).toNatClampNeg), mb_F 30 0 0]) (n := 4) (mc := 1) (ms := 6) (rest := []) B hS hw hl.1 ⟨⟨by decide, by decide⟩, trivial, trivial, ⟨by decide, by decide⟩, trivial⟩ (Nat.zero_le _) (H_owesAfter_t2 hst B.2.2.2.2.2.2.2.1 e5) wl_L_183 mt_L_owesAfter mn_L mw_L_owesAfter (by decide +kernel) rfl ⟨by show 8 + 26 + 1 ≤ 2048; decide, by show _ ≤ 84000; decide, by show cells + 1 ≤ 601024; omega, by show slots + 6 ≤ 7293034; omega⟩ rfl dL_law_1494 (fun H1 locs1 hw1 hS1 _ _ => ?_)
      refine lv_istore (lv' := [(5, .int 2), (4, .int x4), (3, .ref (G.2.2 (30, 0, 0))), (2, .ref (G.2.2 (6, 0, 0))), (1, .ref (G.2.2 (0, 0, 0))), (0, .ref b)]) B.1 B.2.1 dL_law_1497 hl (by decide) rfl (fun ls hl => ?_)
      refine lv_aload_n B.1 B.2.1 dL_law_1499 rfl (lv_at hl 3 rfl) ?_
      refine lv_aload_n B.1 B.2.1 dL_law_1500 rfl (lv_at hl 5 rfl) ?_
      refine lv_iload B.1 B.2.1 dL_law_1501 (lv_at hl 1 rfl) ?_
      refine lv_iconst (v := 1) B.1 B.2.1 dL_law_1503 (by decide) ?_
      refine lv_iadd B.1 B.2.1 dL_law_1504 ?_
      refine va_sld B.1 B.2.1 hX hbl (Nat.not_le.mpr hbl) hS1 hi1 dL_law_1505 ?_
      refine lv_aload_n B.1 B.2.1 dL_law_1506 rfl (lv_at hl 5 rfl) ?_
      refine lv_iload B.1 B.2.1 dL_law_1507 (lv_at hl 1 rfl) ?_
      refine lv_iconst (v := 2) B.1 B.2.1 dL_law_1509 (by decide) ?_
      refine lv_iadd B.1 B.2.1 dL_law_1510 ?_
      refine va_sld B.1 B.2.1 hX hbl (Nat.not_le.mpr hbl) hS1 hi2 dL_law_1511 ?_
      refine mb_xV (as := [.inl (xs (x4 + 1).toNatClampNeg), .inl (xs (x4 + 2).toNatClampNeg)]) (n := 2) (d2 := 7) (ci := 6) (N := 16) (rest := []) B hS1 hw1 hl.1 ⟨⟨by decide, by decide⟩, trivial, trivial, trivial⟩ (Nat.le_of_ble_eq_true rfl) (C_X6_owesAfter hst B.2.2.2.2.2.2.2.1 e6) (mb_gV wl_L_185 mi_X6_owesAfter ms_X6_owesAfter mn_X6 mc_X6_owesAfter) (by decide +kernel) rfl rfl rfl ⟨by show 8 + 7 + 1 ≤ 2048; decide, by show _ ≤ 84000; decide, by show cells + 1 + 0 ≤ 601024; omega, by show slots + 6 + 0 ≤ 7293034; omega⟩ rfl dL_law_1512 (fun v1 H1c locs1c hv1 _ hw1c hS1c _ _ => ?_) (fun E9 ce9 q9 H9 locs9 hv9 _ _ _ _ _ _ _ => by cases hv9)
      cases hv1
      refine lv_istore (lv' := [(6, .int b9), (5, .int 2), (4, .int x4), (3, .ref (G.2.2 (30, 0, 0))), (2, .ref (G.2.2 (6, 0, 0))), (1, .ref (G.2.2 (0, 0, 0))), (0, .ref b)]) B.1 B.2.1 dL_law_1515 hl (by decide) rfl (fun ls hl => ?_)
      refine lv_aload_n B.1 B.2.1 dL_law_1517 rfl (lv_at hl 4 rfl) ?_
      refine mb_xV (as := []) (n := 0) (d2 := 0) (ci := 6) (N := 16) (rest := []) B hS1c hw1c hl.1 ⟨⟨by decide, by decide⟩, trivial⟩ (Nat.le_of_ble_eq_true rfl) (C_X6_thrown hst B.2.2.2.2.2.2.2.1 (show F_X6_thrown _ = some (.inl (some (.inl (h3.1 6 0 0 4))), h3) from rfl)) (mb_gV wl_L_109 mi_X6_thrown ms_X6_thrown mn_X6 mc_X6_thrown) (by decide +kernel) rfl rfl rfl ⟨by show 8 + 0 + 1 ≤ 2048; decide, by show _ ≤ 84000; decide, by show cells + 1 + 0 ≤ 601024; omega, by show slots + 6 + 0 ≤ 7293034; omega⟩ rfl dL_law_1518 (fun v2 H2c locs2c hv2 _ hw2c hS2c _ _ => ?_) (fun E9 ce9 q9 H9 locs9 hv9 _ _ _ _ _ _ _ => by cases hv9)
      cases hv2
      refine lv_iload B.1 B.2.1 dL_law_1521 (lv_at hl 1 rfl) ?_
      refine lv_icmp_eq (tgt := 1528) B.1 B.2.1 dL_law_1523 (by decide) (fun _ => ?_) (fun z9 => absurd eT z9)
      refine lv_iload B.1 B.2.1 dL_law_1528 (lv_at hl 1 rfl) ?_
      refine lv_if_ne (tgt := 1545) B.1 B.2.1 dL_law_1530 (by decide) (fun _ => ?_) (fun z9 => absurd z9 (by decide))
      refine lv_goto (tgt := 1925) B.1 B.2.1 dL_law_1545 (by decide) ?_
      exact kk _ _ _ _ _ _ eS hw2c hS2c (lv_sub hl [2, 3, 4, 5, 6] rfl) (by simp only [mb_mc, mb_ms]; omega) (by simp only [mb_mc, mb_ms]; omega)
    | k9 + 2, ej => simp at ej
set_option maxRecDepth 100000 in
set_option maxHeartbeats 4000000 in
theorem lc_23 (hst : l.stackTraces = false) (B : mb_Lx p l s m #[Value.ref b] c G RL code 7 (mb_A9 s)) (hX : va_X b L xs s s.heap) (hbl : b < s.heap.size) (hS : va_S (mb_A9 s) s.heap H locs) (hw : mb_wd G h H) (hl : lv_has ls 7 [(4, .int x4), (3, .ref (G.2.2 (30, 0, 0))), (2, .ref (G.2.2 (6, 0, 0))), (1, .ref (G.2.2 (0, 0, 0))), (0, .ref b)]) (hc : cells + 1 ≤ 601024) (hs : slots + 6 ≤ 7293034) (hi1 : vp_in (x4 + 1) L) (hps : mb_PI ["java/lang/IndexOutOfBoundsException"] (F_X5_groundsIn (xs (x4 + 1).toNatClampNeg) h) (F_X6_groundsIn (xs (x4 + 1).toNatClampNeg)) S)
    (kk : ∀ (h3 : mb_AH) (H3 : Heap) (locs3 : List Loc) (ls3 : Array Slot) (cells3 slots3 : Nat), S h3 → mb_wd G h3 H3 → va_S (mb_A9 s) s.heap H3 locs3 → lv_has ls3 7 [(4, .int x4), (3, .ref (G.2.2 (30, 0, 0))), (2, .ref (G.2.2 (6, 0, 0))), (1, .ref (G.2.2 (0, 0, 0))), (0, .ref b)] → cells3 ≤ cells + 1 → slots3 ≤ slots + 6 → W p l e room_1 s m #[Value.ref b] below meth c H3 locs3 cells3 slots3 Q (F0 m 1925 ls3 [])) : W p l e room_1 s m #[Value.ref b] below meth c H locs cells slots Q (F0 m 1548 ls []) := by
  rcases hps with ⟨v, h1, h3, e5, e6, eT, eO, eS⟩ | ⟨j, E, h1, b9, h3, ej, e5, e6, eT, eS⟩
  · refine lv_aload_n B.1 B.2.1 dL_law_1548 rfl (lv_at hl 3 rfl) ?_
    refine lv_aload_n B.1 B.2.1 dL_law_1549 rfl (lv_at hl 4 rfl) ?_
    refine lv_iload B.1 B.2.1 dL_law_1550 (lv_at hl 0 rfl) ?_
    refine lv_iconst (v := 1) B.1 B.2.1 dL_law_1552 (by decide) ?_
    refine lv_iadd B.1 B.2.1 dL_law_1553 ?_
    refine va_sld B.1 B.2.1 hX hbl (Nat.not_le.mpr hbl) hS hi1 dL_law_1554 ?_
    refine lv_aload_n B.1 B.2.1 dL_law_1555 rfl (lv_at hl 1 rfl) ?_
    refine mb_xH (as := [mb_F 0 0 0, .inl (xs (x4 + 1).toNatClampNeg), mb_F 30 0 0]) (n := 3) (mc := 0) (ms := 0) (rest := []) B hS hw hl.1 ⟨⟨by decide, by decide⟩, trivial, ⟨by decide, by decide⟩, trivial⟩ (Nat.zero_le _) (H_groundsIn_r hst B.2.2.2.2.2.2.2.1 e5) wl_L_186 mt_L_groundsIn mn_L mw_L_groundsIn (by decide +kernel) rfl ⟨by show 8 + 4 + 1 ≤ 2048; decide, by show _ ≤ 84000; decide, by show cells + 0 ≤ 601024; omega, by show slots + 0 ≤ 7293034; omega⟩ rfl dL_law_1556 (fun H1 locs1 hw1 hS1 _ _ => ?_)
    refine lv_istore (lv' := [(5, .int 0), (4, .int x4), (3, .ref (G.2.2 (30, 0, 0))), (2, .ref (G.2.2 (6, 0, 0))), (1, .ref (G.2.2 (0, 0, 0))), (0, .ref b)]) B.1 B.2.1 dL_law_1559 hl (by decide) rfl (fun ls hl => ?_)
    refine lv_aload_n B.1 B.2.1 dL_law_1561 rfl (lv_at hl 3 rfl) ?_
    refine lv_aload_n B.1 B.2.1 dL_law_1562 rfl (lv_at hl 5 rfl) ?_
    refine lv_iload B.1 B.2.1 dL_law_1563 (lv_at hl 1 rfl) ?_
    refine lv_iconst (v := 1) B.1 B.2.1 dL_law_1565 (by decide) ?_
    refine lv_iadd B.1 B.2.1 dL_law_1566 ?_
    refine va_sld B.1 B.2.1 hX hbl (Nat.not_le.mpr hbl) hS1 hi1 dL_law_1567 ?_
    refine mb_xV (as := [.inl (xs (x4 + 1).toNatClampNeg)]) (n := 1) (d2 := 3) (ci := 6) (N := 16) (rest := []) B hS1 hw1 hl.1 ⟨⟨by decide, by decide⟩, trivial, trivial⟩ (Nat.le_of_ble_eq_true rfl) (C_X6_groundsIn hst B.2.2.2.2.2.2.2.1 e6) (mb_gV wl_L_188 mi_X6_groundsIn ms_X6_groundsIn mn_X6 mc_X6_groundsIn) (by decide +kernel) rfl rfl rfl ⟨by show 8 + 3 + 1 ≤ 2048; decide, by show _ ≤ 84000; decide, by show cells + 0 + 0 ≤ 601024; omega, by show slots + 0 + 0 ≤ 7293034; omega⟩ rfl dL_law_1568 (fun v1 H1c locs1c hv1 _ hw1c hS1c _ _ => ?_) (fun E9 ce9 q9 H9 locs9 hv9 _ _ _ _ _ _ _ => by cases hv9)
    cases hv1
    refine lv_istore (lv' := [(6, .int v), (5, .int 0), (4, .int x4), (3, .ref (G.2.2 (30, 0, 0))), (2, .ref (G.2.2 (6, 0, 0))), (1, .ref (G.2.2 (0, 0, 0))), (0, .ref b)]) B.1 B.2.1 dL_law_1571 hl (by decide) rfl (fun ls hl => ?_)
    refine lv_aload_n B.1 B.2.1 dL_law_1573 rfl (lv_at hl 4 rfl) ?_
    refine mb_xV (as := []) (n := 0) (d2 := 0) (ci := 6) (N := 16) (rest := []) B hS1c hw1c hl.1 ⟨⟨by decide, by decide⟩, trivial⟩ (Nat.le_of_ble_eq_true rfl) (C_X6_thrown hst B.2.2.2.2.2.2.2.1 (show F_X6_thrown _ = some (.inl (some (.inl (h3.1 6 0 0 4))), h3) from rfl)) (mb_gV wl_L_109 mi_X6_thrown ms_X6_thrown mn_X6 mc_X6_thrown) (by decide +kernel) rfl rfl rfl ⟨by show 8 + 0 + 1 ≤ 2048; decide, by show _ ≤ 84000; decide, by show cells + 0 + 0 ≤ 601024; omega, by show slots + 0 + 0 ≤ 7293034; omega⟩ rfl dL_law_1574 (fun v2 H2c locs2c hv2 _ hw2c hS2c _ _ => ?_) (fun E9 ce9 q9 H9 locs9 hv9 _ _ _ _ _ _ _ => by cases hv9)
    cases hv2
    refine lv_iload B.1 B.2.1 dL_law_1577 (lv_at hl 1 rfl) ?_
    refine lv_icmp_eq (tgt := 1584) B.1 B.2.1 dL_law_1579 (by decide) (fun _ => ?_) (fun z9 => absurd eT z9)
    refine lv_iload B.1 B.2.1 dL_law_1584 (lv_at hl 1 rfl) ?_
    refine lv_if_ne (tgt := 1601) B.1 B.2.1 dL_law_1586 (by decide) (fun z9 => absurd rfl z9) (fun _ => ?_)
    refine lv_aload_n B.1 B.2.1 dL_law_1589 rfl (lv_at hl 3 rfl) ?_
    refine lv_iconst (v := 0) B.1 B.2.1 dL_law_1590 (by decide) ?_
    refine mb_outld B hw2c dL_law_1591 ?_
    refine lv_iload B.1 B.2.1 dL_law_1592 (lv_at hl 0 rfl) ?_
    refine lv_i2l B.1 B.2.1 dL_law_1594 rfl ?_
    refine W.lcmp B.1 B.2.1 dL_law_1595 ?_
    refine lv_if_eq (tgt := 1601) B.1 B.2.1 dL_law_1596 (by decide) (fun _ => ?_) (fun z9 => absurd (by rw [eO]; exact mb_lc0 _) z9)
    refine lv_goto (tgt := 1925) B.1 B.2.1 dL_law_1601 (by decide) ?_
    exact kk _ _ _ _ _ _ eS hw2c hS2c (lv_sub hl [2, 3, 4, 5, 6] rfl) (by simp only [mb_mc, mb_ms]; omega) (by simp only [mb_mc, mb_ms]; omega)
  · match j, ej with
    | 0, ej =>
      cases ej
      refine lv_aload_n B.1 B.2.1 dL_law_1548 rfl (lv_at hl 3 rfl) ?_
      refine lv_aload_n B.1 B.2.1 dL_law_1549 rfl (lv_at hl 4 rfl) ?_
      refine lv_iload B.1 B.2.1 dL_law_1550 (lv_at hl 0 rfl) ?_
      refine lv_iconst (v := 1) B.1 B.2.1 dL_law_1552 (by decide) ?_
      refine lv_iadd B.1 B.2.1 dL_law_1553 ?_
      refine va_sld B.1 B.2.1 hX hbl (Nat.not_le.mpr hbl) hS hi1 dL_law_1554 ?_
      refine lv_aload_n B.1 B.2.1 dL_law_1555 rfl (lv_at hl 1 rfl) ?_
      refine mb_xH (as := [mb_F 0 0 0, .inl (xs (x4 + 1).toNatClampNeg), mb_F 30 0 0]) (n := 3) (mc := 1) (ms := 6) (rest := []) B hS hw hl.1 ⟨⟨by decide, by decide⟩, trivial, ⟨by decide, by decide⟩, trivial⟩ (Nat.zero_le _) (H_groundsIn_t1 hst B.2.2.2.2.2.2.2.1 e5) wl_L_186 mt_L_groundsIn mn_L mw_L_groundsIn (by decide +kernel) rfl ⟨by show 8 + 4 + 1 ≤ 2048; decide, by show _ ≤ 84000; decide, by show cells + 1 ≤ 601024; omega, by show slots + 6 ≤ 7293034; omega⟩ rfl dL_law_1556 (fun H1 locs1 hw1 hS1 _ _ => ?_)
      refine lv_istore (lv' := [(5, .int 1), (4, .int x4), (3, .ref (G.2.2 (30, 0, 0))), (2, .ref (G.2.2 (6, 0, 0))), (1, .ref (G.2.2 (0, 0, 0))), (0, .ref b)]) B.1 B.2.1 dL_law_1559 hl (by decide) rfl (fun ls hl => ?_)
      refine lv_aload_n B.1 B.2.1 dL_law_1561 rfl (lv_at hl 3 rfl) ?_
      refine lv_aload_n B.1 B.2.1 dL_law_1562 rfl (lv_at hl 5 rfl) ?_
      refine lv_iload B.1 B.2.1 dL_law_1563 (lv_at hl 1 rfl) ?_
      refine lv_iconst (v := 1) B.1 B.2.1 dL_law_1565 (by decide) ?_
      refine lv_iadd B.1 B.2.1 dL_law_1566 ?_
      refine va_sld B.1 B.2.1 hX hbl (Nat.not_le.mpr hbl) hS1 hi1 dL_law_1567 ?_
      refine mb_xV (as := [.inl (xs (x4 + 1).toNatClampNeg)]) (n := 1) (d2 := 3) (ci := 6) (N := 16) (rest := []) B hS1 hw1 hl.1 ⟨⟨by decide, by decide⟩, trivial, trivial⟩ (Nat.le_of_ble_eq_true rfl) (C_X6_groundsIn hst B.2.2.2.2.2.2.2.1 e6) (mb_gV wl_L_188 mi_X6_groundsIn ms_X6_groundsIn mn_X6 mc_X6_groundsIn) (by decide +kernel) rfl rfl rfl ⟨by show 8 + 3 + 1 ≤ 2048; decide, by show _ ≤ 84000; decide, by show cells + 1 + 0 ≤ 601024; omega, by show slots + 6 + 0 ≤ 7293034; omega⟩ rfl dL_law_1568 (fun v1 H1c locs1c hv1 _ hw1c hS1c _ _ => ?_) (fun E9 ce9 q9 H9 locs9 hv9 _ _ _ _ _ _ _ => by cases hv9)
      cases hv1
      refine lv_istore (lv' := [(6, .int b9), (5, .int 1), (4, .int x4), (3, .ref (G.2.2 (30, 0, 0))), (2, .ref (G.2.2 (6, 0, 0))), (1, .ref (G.2.2 (0, 0, 0))), (0, .ref b)]) B.1 B.2.1 dL_law_1571 hl (by decide) rfl (fun ls hl => ?_)
      refine lv_aload_n B.1 B.2.1 dL_law_1573 rfl (lv_at hl 4 rfl) ?_
      refine mb_xV (as := []) (n := 0) (d2 := 0) (ci := 6) (N := 16) (rest := []) B hS1c hw1c hl.1 ⟨⟨by decide, by decide⟩, trivial⟩ (Nat.le_of_ble_eq_true rfl) (C_X6_thrown hst B.2.2.2.2.2.2.2.1 (show F_X6_thrown _ = some (.inl (some (.inl (h3.1 6 0 0 4))), h3) from rfl)) (mb_gV wl_L_109 mi_X6_thrown ms_X6_thrown mn_X6 mc_X6_thrown) (by decide +kernel) rfl rfl rfl ⟨by show 8 + 0 + 1 ≤ 2048; decide, by show _ ≤ 84000; decide, by show cells + 1 + 0 ≤ 601024; omega, by show slots + 6 + 0 ≤ 7293034; omega⟩ rfl dL_law_1574 (fun v2 H2c locs2c hv2 _ hw2c hS2c _ _ => ?_) (fun E9 ce9 q9 H9 locs9 hv9 _ _ _ _ _ _ _ => by cases hv9)
      cases hv2
      refine lv_iload B.1 B.2.1 dL_law_1577 (lv_at hl 1 rfl) ?_
      refine lv_icmp_eq (tgt := 1584) B.1 B.2.1 dL_law_1579 (by decide) (fun _ => ?_) (fun z9 => absurd eT z9)
      refine lv_iload B.1 B.2.1 dL_law_1584 (lv_at hl 1 rfl) ?_
      refine lv_if_ne (tgt := 1601) B.1 B.2.1 dL_law_1586 (by decide) (fun _ => ?_) (fun z9 => absurd z9 (by decide))
      refine lv_goto (tgt := 1925) B.1 B.2.1 dL_law_1601 (by decide) ?_
      exact kk _ _ _ _ _ _ eS hw2c hS2c (lv_sub hl [2, 3, 4, 5, 6] rfl) (by simp only [mb_mc, mb_ms]; omega) (by simp only [mb_mc, mb_ms]; omega)
    | k9 + 1, ej => simp at ej
set_option maxRecDepth 100000 in
set_option maxHeartbeats 4000000 in
theorem lc_24 (hst : l.stackTraces = false) (B : mb_Lx p l s m #[Value.ref b] c G RL code 7 (mb_A9 s)) (hX : va_X b L xs s s.heap) (hbl : b < s.heap.size) (hS : va_S (mb_A9 s) s.heap H locs) (hw : mb_wd G h H) (hl : lv_has ls 7 [(4, .int x4), (3, .ref (G.2.2 (30, 0, 0))), (2, .ref (G.2.2 (6, 0, 0))), (1, .ref (G.2.2 (0, 0, 0))), (0, .ref b)]) (hc : cells + 1 ≤ 601024) (hs : slots + 6 ≤ 7293034) (hi1 : vp_in (x4 + 1) L) (hps : mb_PI ["java/lang/IndexOutOfBoundsException", "java/lang/IllegalStateException"] (F_X5_winterBerth (xs (x4 + 1).toNatClampNeg) h) (F_X6_winterBerth (xs (x4 + 1).toNatClampNeg)) S)
    (kk : ∀ (h3 : mb_AH) (H3 : Heap) (locs3 : List Loc) (ls3 : Array Slot) (cells3 slots3 : Nat), S h3 → mb_wd G h3 H3 → va_S (mb_A9 s) s.heap H3 locs3 → lv_has ls3 7 [(4, .int x4), (3, .ref (G.2.2 (30, 0, 0))), (2, .ref (G.2.2 (6, 0, 0))), (1, .ref (G.2.2 (0, 0, 0))), (0, .ref b)] → cells3 ≤ cells + 1 → slots3 ≤ slots + 6 → W p l e room_1 s m #[Value.ref b] below meth c H3 locs3 cells3 slots3 Q (F0 m 1925 ls3 [])) : W p l e room_1 s m #[Value.ref b] below meth c H locs cells slots Q (F0 m 1604 ls []) := by
  rcases hps with ⟨v, h1, h3, e5, e6, eT, eO, eS⟩ | ⟨j, E, h1, b9, h3, ej, e5, e6, eT, eS⟩
  · refine lv_aload_n B.1 B.2.1 dL_law_1604 rfl (lv_at hl 3 rfl) ?_
    refine lv_aload_n B.1 B.2.1 dL_law_1605 rfl (lv_at hl 4 rfl) ?_
    refine lv_iload B.1 B.2.1 dL_law_1606 (lv_at hl 0 rfl) ?_
    refine lv_iconst (v := 1) B.1 B.2.1 dL_law_1608 (by decide) ?_
    refine lv_iadd B.1 B.2.1 dL_law_1609 ?_
    refine va_sld B.1 B.2.1 hX hbl (Nat.not_le.mpr hbl) hS hi1 dL_law_1610 ?_
    refine lv_aload_n B.1 B.2.1 dL_law_1611 rfl (lv_at hl 1 rfl) ?_
    refine mb_xH (as := [mb_F 0 0 0, .inl (xs (x4 + 1).toNatClampNeg), mb_F 30 0 0]) (n := 3) (mc := 0) (ms := 0) (rest := []) B hS hw hl.1 ⟨⟨by decide, by decide⟩, trivial, ⟨by decide, by decide⟩, trivial⟩ (Nat.zero_le _) (H_winterBerth_r hst B.2.2.2.2.2.2.2.1 e5) wl_L_189 mt_L_winterBerth mn_L mw_L_winterBerth (by decide +kernel) rfl ⟨by show 8 + 26 + 1 ≤ 2048; decide, by show _ ≤ 84000; decide, by show cells + 0 ≤ 601024; omega, by show slots + 0 ≤ 7293034; omega⟩ rfl dL_law_1612 (fun H1 locs1 hw1 hS1 _ _ => ?_)
    refine lv_istore (lv' := [(5, .int 0), (4, .int x4), (3, .ref (G.2.2 (30, 0, 0))), (2, .ref (G.2.2 (6, 0, 0))), (1, .ref (G.2.2 (0, 0, 0))), (0, .ref b)]) B.1 B.2.1 dL_law_1615 hl (by decide) rfl (fun ls hl => ?_)
    refine lv_aload_n B.1 B.2.1 dL_law_1617 rfl (lv_at hl 3 rfl) ?_
    refine lv_aload_n B.1 B.2.1 dL_law_1618 rfl (lv_at hl 5 rfl) ?_
    refine lv_iload B.1 B.2.1 dL_law_1619 (lv_at hl 1 rfl) ?_
    refine lv_iconst (v := 1) B.1 B.2.1 dL_law_1621 (by decide) ?_
    refine lv_iadd B.1 B.2.1 dL_law_1622 ?_
    refine va_sld B.1 B.2.1 hX hbl (Nat.not_le.mpr hbl) hS1 hi1 dL_law_1623 ?_
    refine mb_xV (as := [.inl (xs (x4 + 1).toNatClampNeg)]) (n := 1) (d2 := 6) (ci := 6) (N := 16) (rest := []) B hS1 hw1 hl.1 ⟨⟨by decide, by decide⟩, trivial, trivial⟩ (Nat.le_of_ble_eq_true rfl) (C_X6_winterBerth hst B.2.2.2.2.2.2.2.1 e6) (mb_gV wl_L_191 mi_X6_winterBerth ms_X6_winterBerth mn_X6 mc_X6_winterBerth) (by decide +kernel) rfl rfl rfl ⟨by show 8 + 6 + 1 ≤ 2048; decide, by show _ ≤ 84000; decide, by show cells + 0 + 0 ≤ 601024; omega, by show slots + 0 + 0 ≤ 7293034; omega⟩ rfl dL_law_1624 (fun v1 H1c locs1c hv1 _ hw1c hS1c _ _ => ?_) (fun E9 ce9 q9 H9 locs9 hv9 _ _ _ _ _ _ _ => by cases hv9)
    cases hv1
    refine lv_istore (lv' := [(6, .int v), (5, .int 0), (4, .int x4), (3, .ref (G.2.2 (30, 0, 0))), (2, .ref (G.2.2 (6, 0, 0))), (1, .ref (G.2.2 (0, 0, 0))), (0, .ref b)]) B.1 B.2.1 dL_law_1627 hl (by decide) rfl (fun ls hl => ?_)
    refine lv_aload_n B.1 B.2.1 dL_law_1629 rfl (lv_at hl 4 rfl) ?_
    refine mb_xV (as := []) (n := 0) (d2 := 0) (ci := 6) (N := 16) (rest := []) B hS1c hw1c hl.1 ⟨⟨by decide, by decide⟩, trivial⟩ (Nat.le_of_ble_eq_true rfl) (C_X6_thrown hst B.2.2.2.2.2.2.2.1 (show F_X6_thrown _ = some (.inl (some (.inl (h3.1 6 0 0 4))), h3) from rfl)) (mb_gV wl_L_109 mi_X6_thrown ms_X6_thrown mn_X6 mc_X6_thrown) (by decide +kernel) rfl rfl rfl ⟨by show 8 + 0 + 1 ≤ 2048; decide, by show _ ≤ 84000; decide, by show cells + 0 + 0 ≤ 601024; omega, by show slots + 0 + 0 ≤ 7293034; omega⟩ rfl dL_law_1630 (fun v2 H2c locs2c hv2 _ hw2c hS2c _ _ => ?_) (fun E9 ce9 q9 H9 locs9 hv9 _ _ _ _ _ _ _ => by cases hv9)
    cases hv2
    refine lv_iload B.1 B.2.1 dL_law_1633 (lv_at hl 1 rfl) ?_
    refine lv_icmp_eq (tgt := 1640) B.1 B.2.1 dL_law_1635 (by decide) (fun _ => ?_) (fun z9 => absurd eT z9)
    refine lv_iload B.1 B.2.1 dL_law_1640 (lv_at hl 1 rfl) ?_
    refine lv_if_ne (tgt := 1657) B.1 B.2.1 dL_law_1642 (by decide) (fun z9 => absurd rfl z9) (fun _ => ?_)
    refine lv_aload_n B.1 B.2.1 dL_law_1645 rfl (lv_at hl 3 rfl) ?_
    refine lv_iconst (v := 0) B.1 B.2.1 dL_law_1646 (by decide) ?_
    refine mb_outld B hw2c dL_law_1647 ?_
    refine lv_iload B.1 B.2.1 dL_law_1648 (lv_at hl 0 rfl) ?_
    refine lv_i2l B.1 B.2.1 dL_law_1650 rfl ?_
    refine W.lcmp B.1 B.2.1 dL_law_1651 ?_
    refine lv_if_eq (tgt := 1657) B.1 B.2.1 dL_law_1652 (by decide) (fun _ => ?_) (fun z9 => absurd (by rw [eO]; exact mb_lc0 _) z9)
    refine lv_goto (tgt := 1925) B.1 B.2.1 dL_law_1657 (by decide) ?_
    exact kk _ _ _ _ _ _ eS hw2c hS2c (lv_sub hl [2, 3, 4, 5, 6] rfl) (by simp only [mb_mc, mb_ms]; omega) (by simp only [mb_mc, mb_ms]; omega)
  · match j, ej with
    | 0, ej =>
      cases ej
      refine lv_aload_n B.1 B.2.1 dL_law_1604 rfl (lv_at hl 3 rfl) ?_
      refine lv_aload_n B.1 B.2.1 dL_law_1605 rfl (lv_at hl 4 rfl) ?_
      refine lv_iload B.1 B.2.1 dL_law_1606 (lv_at hl 0 rfl) ?_
      refine lv_iconst (v := 1) B.1 B.2.1 dL_law_1608 (by decide) ?_
      refine lv_iadd B.1 B.2.1 dL_law_1609 ?_
      refine va_sld B.1 B.2.1 hX hbl (Nat.not_le.mpr hbl) hS hi1 dL_law_1610 ?_
      refine lv_aload_n B.1 B.2.1 dL_law_1611 rfl (lv_at hl 1 rfl) ?_
      refine mb_xH (as := [mb_F 0 0 0, .inl (xs (x4 + 1).toNatClampNeg), mb_F 30 0 0]) (n := 3) (mc := 1) (ms := 6) (rest := []) B hS hw hl.1 ⟨⟨by decide, by decide⟩, trivial, ⟨by decide, by decide⟩, trivial⟩ (Nat.zero_le _) (H_winterBerth_t1 hst B.2.2.2.2.2.2.2.1 e5) wl_L_189 mt_L_winterBerth mn_L mw_L_winterBerth (by decide +kernel) rfl ⟨by show 8 + 26 + 1 ≤ 2048; decide, by show _ ≤ 84000; decide, by show cells + 1 ≤ 601024; omega, by show slots + 6 ≤ 7293034; omega⟩ rfl dL_law_1612 (fun H1 locs1 hw1 hS1 _ _ => ?_)
      refine lv_istore (lv' := [(5, .int 1), (4, .int x4), (3, .ref (G.2.2 (30, 0, 0))), (2, .ref (G.2.2 (6, 0, 0))), (1, .ref (G.2.2 (0, 0, 0))), (0, .ref b)]) B.1 B.2.1 dL_law_1615 hl (by decide) rfl (fun ls hl => ?_)
      refine lv_aload_n B.1 B.2.1 dL_law_1617 rfl (lv_at hl 3 rfl) ?_
      refine lv_aload_n B.1 B.2.1 dL_law_1618 rfl (lv_at hl 5 rfl) ?_
      refine lv_iload B.1 B.2.1 dL_law_1619 (lv_at hl 1 rfl) ?_
      refine lv_iconst (v := 1) B.1 B.2.1 dL_law_1621 (by decide) ?_
      refine lv_iadd B.1 B.2.1 dL_law_1622 ?_
      refine va_sld B.1 B.2.1 hX hbl (Nat.not_le.mpr hbl) hS1 hi1 dL_law_1623 ?_
      refine mb_xV (as := [.inl (xs (x4 + 1).toNatClampNeg)]) (n := 1) (d2 := 6) (ci := 6) (N := 16) (rest := []) B hS1 hw1 hl.1 ⟨⟨by decide, by decide⟩, trivial, trivial⟩ (Nat.le_of_ble_eq_true rfl) (C_X6_winterBerth hst B.2.2.2.2.2.2.2.1 e6) (mb_gV wl_L_191 mi_X6_winterBerth ms_X6_winterBerth mn_X6 mc_X6_winterBerth) (by decide +kernel) rfl rfl rfl ⟨by show 8 + 6 + 1 ≤ 2048; decide, by show _ ≤ 84000; decide, by show cells + 1 + 0 ≤ 601024; omega, by show slots + 6 + 0 ≤ 7293034; omega⟩ rfl dL_law_1624 (fun v1 H1c locs1c hv1 _ hw1c hS1c _ _ => ?_) (fun E9 ce9 q9 H9 locs9 hv9 _ _ _ _ _ _ _ => by cases hv9)
      cases hv1
      refine lv_istore (lv' := [(6, .int b9), (5, .int 1), (4, .int x4), (3, .ref (G.2.2 (30, 0, 0))), (2, .ref (G.2.2 (6, 0, 0))), (1, .ref (G.2.2 (0, 0, 0))), (0, .ref b)]) B.1 B.2.1 dL_law_1627 hl (by decide) rfl (fun ls hl => ?_)
      refine lv_aload_n B.1 B.2.1 dL_law_1629 rfl (lv_at hl 4 rfl) ?_
      refine mb_xV (as := []) (n := 0) (d2 := 0) (ci := 6) (N := 16) (rest := []) B hS1c hw1c hl.1 ⟨⟨by decide, by decide⟩, trivial⟩ (Nat.le_of_ble_eq_true rfl) (C_X6_thrown hst B.2.2.2.2.2.2.2.1 (show F_X6_thrown _ = some (.inl (some (.inl (h3.1 6 0 0 4))), h3) from rfl)) (mb_gV wl_L_109 mi_X6_thrown ms_X6_thrown mn_X6 mc_X6_thrown) (by decide +kernel) rfl rfl rfl ⟨by show 8 + 0 + 1 ≤ 2048; decide, by show _ ≤ 84000; decide, by show cells + 1 + 0 ≤ 601024; omega, by show slots + 6 + 0 ≤ 7293034; omega⟩ rfl dL_law_1630 (fun v2 H2c locs2c hv2 _ hw2c hS2c _ _ => ?_) (fun E9 ce9 q9 H9 locs9 hv9 _ _ _ _ _ _ _ => by cases hv9)
      cases hv2
      refine lv_iload B.1 B.2.1 dL_law_1633 (lv_at hl 1 rfl) ?_
      refine lv_icmp_eq (tgt := 1640) B.1 B.2.1 dL_law_1635 (by decide) (fun _ => ?_) (fun z9 => absurd eT z9)
      refine lv_iload B.1 B.2.1 dL_law_1640 (lv_at hl 1 rfl) ?_
      refine lv_if_ne (tgt := 1657) B.1 B.2.1 dL_law_1642 (by decide) (fun _ => ?_) (fun z9 => absurd z9 (by decide))
      refine lv_goto (tgt := 1925) B.1 B.2.1 dL_law_1657 (by decide) ?_
      exact kk _ _ _ _ _ _ eS hw2c hS2c (lv_sub hl [2, 3, 4, 5, 6] rfl) (by simp only [mb_mc, mb_ms]; omega) (by simp only [mb_mc, mb_ms]; omega)
    | 1, ej =>
      cases ej
      refine lv_aload_n B.1 B.2.1 dL_law_1604 rfl (lv_at hl 3 rfl) ?_
      refine lv_aload_n B.1 B.2.1 dL_law_1605 rfl (lv_at hl 4 rfl) ?_
      refine lv_iload B.1 B.2.1 dL_law_1606 (lv_at hl 0 rfl) ?_
      refine lv_iconst (v := 1) B.1 B.2.1 dL_law_1608 (by decide) ?_
      refine lv_iadd B.1 B.2.1 dL_law_1609 ?_
      refine va_sld B.1 B.2.1 hX hbl (Nat.not_le.mpr hbl) hS hi1 dL_law_1610 ?_
      refine lv_aload_n B.1 B.2.1 dL_law_1611 rfl (lv_at hl 1 rfl) ?_
      refine mb_xH (as := [mb_F 0 0 0, .inl (xs (x4 + 1).toNatClampNeg), mb_F 30 0 0]) (n := 3) (mc := 1) (ms := 6) (rest := []) B hS hw hl.1 ⟨⟨by decide, by decide⟩, trivial, ⟨by decide, by decide⟩, trivial⟩ (Nat.zero_le _) (H_winterBerth_t2 hst B.2.2.2.2.2.2.2.1 e5) wl_L_189 mt_L_winterBerth mn_L mw_L_winterBerth (by decide +kernel) rfl ⟨by show 8 + 26 + 1 ≤ 2048; decide, by show _ ≤ 84000; decide, by show cells + 1 ≤ 601024; omega, by show slots + 6 ≤ 7293034; omega⟩ rfl dL_law_1612 (fun H1 locs1 hw1 hS1 _ _ => ?_)
      refine lv_istore (lv' := [(5, .int 2), (4, .int x4), (3, .ref (G.2.2 (30, 0, 0))), (2, .ref (G.2.2 (6, 0, 0))), (1, .ref (G.2.2 (0, 0, 0))), (0, .ref b)]) B.1 B.2.1 dL_law_1615 hl (by decide) rfl (fun ls hl => ?_)
      refine lv_aload_n B.1 B.2.1 dL_law_1617 rfl (lv_at hl 3 rfl) ?_
      refine lv_aload_n B.1 B.2.1 dL_law_1618 rfl (lv_at hl 5 rfl) ?_
      refine lv_iload B.1 B.2.1 dL_law_1619 (lv_at hl 1 rfl) ?_
      refine lv_iconst (v := 1) B.1 B.2.1 dL_law_1621 (by decide) ?_
      refine lv_iadd B.1 B.2.1 dL_law_1622 ?_
      refine va_sld B.1 B.2.1 hX hbl (Nat.not_le.mpr hbl) hS1 hi1 dL_law_1623 ?_
      refine mb_xV (as := [.inl (xs (x4 + 1).toNatClampNeg)]) (n := 1) (d2 := 6) (ci := 6) (N := 16) (rest := []) B hS1 hw1 hl.1 ⟨⟨by decide, by decide⟩, trivial, trivial⟩ (Nat.le_of_ble_eq_true rfl) (C_X6_winterBerth hst B.2.2.2.2.2.2.2.1 e6) (mb_gV wl_L_191 mi_X6_winterBerth ms_X6_winterBerth mn_X6 mc_X6_winterBerth) (by decide +kernel) rfl rfl rfl ⟨by show 8 + 6 + 1 ≤ 2048; decide, by show _ ≤ 84000; decide, by show cells + 1 + 0 ≤ 601024; omega, by show slots + 6 + 0 ≤ 7293034; omega⟩ rfl dL_law_1624 (fun v1 H1c locs1c hv1 _ hw1c hS1c _ _ => ?_) (fun E9 ce9 q9 H9 locs9 hv9 _ _ _ _ _ _ _ => by cases hv9)
      cases hv1
      refine lv_istore (lv' := [(6, .int b9), (5, .int 2), (4, .int x4), (3, .ref (G.2.2 (30, 0, 0))), (2, .ref (G.2.2 (6, 0, 0))), (1, .ref (G.2.2 (0, 0, 0))), (0, .ref b)]) B.1 B.2.1 dL_law_1627 hl (by decide) rfl (fun ls hl => ?_)
      refine lv_aload_n B.1 B.2.1 dL_law_1629 rfl (lv_at hl 4 rfl) ?_
      refine mb_xV (as := []) (n := 0) (d2 := 0) (ci := 6) (N := 16) (rest := []) B hS1c hw1c hl.1 ⟨⟨by decide, by decide⟩, trivial⟩ (Nat.le_of_ble_eq_true rfl) (C_X6_thrown hst B.2.2.2.2.2.2.2.1 (show F_X6_thrown _ = some (.inl (some (.inl (h3.1 6 0 0 4))), h3) from rfl)) (mb_gV wl_L_109 mi_X6_thrown ms_X6_thrown mn_X6 mc_X6_thrown) (by decide +kernel) rfl rfl rfl ⟨by show 8 + 0 + 1 ≤ 2048; decide, by show _ ≤ 84000; decide, by show cells + 1 + 0 ≤ 601024; omega, by show slots + 6 + 0 ≤ 7293034; omega⟩ rfl dL_law_1630 (fun v2 H2c locs2c hv2 _ hw2c hS2c _ _ => ?_) (fun E9 ce9 q9 H9 locs9 hv9 _ _ _ _ _ _ _ => by cases hv9)
      cases hv2
      refine lv_iload B.1 B.2.1 dL_law_1633 (lv_at hl 1 rfl) ?_
      refine lv_icmp_eq (tgt := 1640) B.1 B.2.1 dL_law_1635 (by decide) (fun _ => ?_) (fun z9 => absurd eT z9)
      refine lv_iload B.1 B.2.1 dL_law_1640 (lv_at hl 1 rfl) ?_
      refine lv_if_ne (tgt := 1657) B.1 B.2.1 dL_law_1642 (by decide) (fun _ => ?_) (fun z9 => absurd z9 (by decide))
      refine lv_goto (tgt := 1925) B.1 B.2.1 dL_law_1657 (by decide) ?_
      exact kk _ _ _ _ _ _ eS hw2c hS2c (lv_sub hl [2, 3, 4, 5, 6] rfl) (by simp only [mb_mc, mb_ms]; omega) (by simp only [mb_mc, mb_ms]; omega)
    | k9 + 2, ej => simp at ej
set_option maxRecDepth 100000 in
set_option maxHeartbeats 4000000 in
theorem lc_25 (hst : l.stackTraces = false) (B : mb_Lx p l s m #[Value.ref b] c G RL code 7 (mb_A9 s)) (hX : va_X b L xs s s.heap) (hbl : b < s.heap.size) (hS : va_S (mb_A9 s) s.heap H locs) (hw : mb_wd G h H) (hl : lv_has ls 7 [(4, .int x4), (3, .ref (G.2.2 (30, 0, 0))), (2, .ref (G.2.2 (6, 0, 0))), (1, .ref (G.2.2 (0, 0, 0))), (0, .ref b)]) (hc : cells + 1 ≤ 601024) (hs : slots + 6 ≤ 7293034)  (hps : mb_PI ["java/lang/IllegalStateException"] (F_X5_wouldGoAshore h) (F_X6_wouldGoAshore ) S)
    (kk : ∀ (h3 : mb_AH) (H3 : Heap) (locs3 : List Loc) (ls3 : Array Slot) (cells3 slots3 : Nat), S h3 → mb_wd G h3 H3 → va_S (mb_A9 s) s.heap H3 locs3 → lv_has ls3 7 [(4, .int x4), (3, .ref (G.2.2 (30, 0, 0))), (2, .ref (G.2.2 (6, 0, 0))), (1, .ref (G.2.2 (0, 0, 0))), (0, .ref b)] → cells3 ≤ cells + 1 → slots3 ≤ slots + 6 → W p l e room_1 s m #[Value.ref b] below meth c H3 locs3 cells3 slots3 Q (F0 m 1925 ls3 [])) : W p l e room_1 s m #[Value.ref b] below meth c H locs cells slots Q (F0 m 1660 ls []) := by
  rcases hps with ⟨v, h1, h3, e5, e6, eT, eO, eS⟩ | ⟨j, E, h1, b9, h3, ej, e5, e6, eT, eS⟩
  · refine lv_aload_n B.1 B.2.1 dL_law_1660 rfl (lv_at hl 3 rfl) ?_
    refine lv_aload_n B.1 B.2.1 dL_law_1661 rfl (lv_at hl 1 rfl) ?_
    refine mb_xH (as := [mb_F 0 0 0, mb_F 30 0 0]) (n := 2) (mc := 0) (ms := 0) (rest := []) B hS hw hl.1 ⟨⟨by decide, by decide⟩, ⟨by decide, by decide⟩, trivial⟩ (Nat.zero_le _) (H_wouldGoAshore_r hst B.2.2.2.2.2.2.2.1 e5) wl_L_192 mt_L_wouldGoAshore mn_L mw_L_wouldGoAshore (by decide +kernel) rfl ⟨by show 8 + 26 + 1 ≤ 2048; decide, by show _ ≤ 84000; decide, by show cells + 0 ≤ 601024; omega, by show slots + 0 ≤ 7293034; omega⟩ rfl dL_law_1662 (fun H1 locs1 hw1 hS1 _ _ => ?_)
    refine lv_istore (lv' := [(5, .int 0), (4, .int x4), (3, .ref (G.2.2 (30, 0, 0))), (2, .ref (G.2.2 (6, 0, 0))), (1, .ref (G.2.2 (0, 0, 0))), (0, .ref b)]) B.1 B.2.1 dL_law_1665 hl (by decide) rfl (fun ls hl => ?_)
    refine lv_aload_n B.1 B.2.1 dL_law_1667 rfl (lv_at hl 3 rfl) ?_
    refine mb_xV (as := []) (n := 0) (d2 := 6) (ci := 6) (N := 16) (rest := []) B hS1 hw1 hl.1 ⟨⟨by decide, by decide⟩, trivial⟩ (Nat.le_of_ble_eq_true rfl) (C_X6_wouldGoAshore hst B.2.2.2.2.2.2.2.1 e6) (mb_gV wl_L_194 mi_X6_wouldGoAshore ms_X6_wouldGoAshore mn_X6 mc_X6_wouldGoAshore) (by decide +kernel) rfl rfl rfl ⟨by show 8 + 6 + 1 ≤ 2048; decide, by show _ ≤ 84000; decide, by show cells + 0 + 0 ≤ 601024; omega, by show slots + 0 + 0 ≤ 7293034; omega⟩ rfl dL_law_1668 (fun v1 H1c locs1c hv1 _ hw1c hS1c _ _ => ?_) (fun E9 ce9 q9 H9 locs9 hv9 _ _ _ _ _ _ _ => by cases hv9)
    cases hv1
    refine lv_istore (lv' := [(6, .int v), (5, .int 0), (4, .int x4), (3, .ref (G.2.2 (30, 0, 0))), (2, .ref (G.2.2 (6, 0, 0))), (1, .ref (G.2.2 (0, 0, 0))), (0, .ref b)]) B.1 B.2.1 dL_law_1671 hl (by decide) rfl (fun ls hl => ?_)
    refine lv_aload_n B.1 B.2.1 dL_law_1673 rfl (lv_at hl 4 rfl) ?_
    refine mb_xV (as := []) (n := 0) (d2 := 0) (ci := 6) (N := 16) (rest := []) B hS1c hw1c hl.1 ⟨⟨by decide, by decide⟩, trivial⟩ (Nat.le_of_ble_eq_true rfl) (C_X6_thrown hst B.2.2.2.2.2.2.2.1 (show F_X6_thrown _ = some (.inl (some (.inl (h3.1 6 0 0 4))), h3) from rfl)) (mb_gV wl_L_109 mi_X6_thrown ms_X6_thrown mn_X6 mc_X6_thrown) (by decide +kernel) rfl rfl rfl ⟨by show 8 + 0 + 1 ≤ 2048; decide, by show _ ≤ 84000; decide, by show cells + 0 + 0 ≤ 601024; omega, by show slots + 0 + 0 ≤ 7293034; omega⟩ rfl dL_law_1674 (fun v2 H2c locs2c hv2 _ hw2c hS2c _ _ => ?_) (fun E9 ce9 q9 H9 locs9 hv9 _ _ _ _ _ _ _ => by cases hv9)
    cases hv2
    refine lv_iload B.1 B.2.1 dL_law_1677 (lv_at hl 1 rfl) ?_
    refine lv_icmp_eq (tgt := 1684) B.1 B.2.1 dL_law_1679 (by decide) (fun _ => ?_) (fun z9 => absurd eT z9)
    refine lv_iload B.1 B.2.1 dL_law_1684 (lv_at hl 1 rfl) ?_
    refine lv_if_ne (tgt := 1701) B.1 B.2.1 dL_law_1686 (by decide) (fun z9 => absurd rfl z9) (fun _ => ?_)
    refine lv_aload_n B.1 B.2.1 dL_law_1689 rfl (lv_at hl 3 rfl) ?_
    refine lv_iconst (v := 0) B.1 B.2.1 dL_law_1690 (by decide) ?_
    refine mb_outld B hw2c dL_law_1691 ?_
    refine lv_iload B.1 B.2.1 dL_law_1692 (lv_at hl 0 rfl) ?_
    refine lv_i2l B.1 B.2.1 dL_law_1694 rfl ?_
    refine W.lcmp B.1 B.2.1 dL_law_1695 ?_
    refine lv_if_eq (tgt := 1701) B.1 B.2.1 dL_law_1696 (by decide) (fun _ => ?_) (fun z9 => absurd (by rw [eO]; exact mb_lc0 _) z9)
    refine lv_goto (tgt := 1925) B.1 B.2.1 dL_law_1701 (by decide) ?_
    exact kk _ _ _ _ _ _ eS hw2c hS2c (lv_sub hl [2, 3, 4, 5, 6] rfl) (by simp only [mb_mc, mb_ms]; omega) (by simp only [mb_mc, mb_ms]; omega)
  · match j, ej with
    | 0, ej =>
      cases ej
      refine lv_aload_n B.1 B.2.1 dL_law_1660 rfl (lv_at hl 3 rfl) ?_
      refine lv_aload_n B.1 B.2.1 dL_law_1661 rfl (lv_at hl 1 rfl) ?_
      refine mb_xH (as := [mb_F 0 0 0, mb_F 30 0 0]) (n := 2) (mc := 1) (ms := 6) (rest := []) B hS hw hl.1 ⟨⟨by decide, by decide⟩, ⟨by decide, by decide⟩, trivial⟩ (Nat.zero_le _) (H_wouldGoAshore_t1 hst B.2.2.2.2.2.2.2.1 e5) wl_L_192 mt_L_wouldGoAshore mn_L mw_L_wouldGoAshore (by decide +kernel) rfl ⟨by show 8 + 26 + 1 ≤ 2048; decide, by show _ ≤ 84000; decide, by show cells + 1 ≤ 601024; omega, by show slots + 6 ≤ 7293034; omega⟩ rfl dL_law_1662 (fun H1 locs1 hw1 hS1 _ _ => ?_)
      refine lv_istore (lv' := [(5, .int 1), (4, .int x4), (3, .ref (G.2.2 (30, 0, 0))), (2, .ref (G.2.2 (6, 0, 0))), (1, .ref (G.2.2 (0, 0, 0))), (0, .ref b)]) B.1 B.2.1 dL_law_1665 hl (by decide) rfl (fun ls hl => ?_)
      refine lv_aload_n B.1 B.2.1 dL_law_1667 rfl (lv_at hl 3 rfl) ?_
      refine mb_xV (as := []) (n := 0) (d2 := 6) (ci := 6) (N := 16) (rest := []) B hS1 hw1 hl.1 ⟨⟨by decide, by decide⟩, trivial⟩ (Nat.le_of_ble_eq_true rfl) (C_X6_wouldGoAshore hst B.2.2.2.2.2.2.2.1 e6) (mb_gV wl_L_194 mi_X6_wouldGoAshore ms_X6_wouldGoAshore mn_X6 mc_X6_wouldGoAshore) (by decide +kernel) rfl rfl rfl ⟨by show 8 + 6 + 1 ≤ 2048; decide, by show _ ≤ 84000; decide, by show cells + 1 + 0 ≤ 601024; omega, by show slots + 6 + 0 ≤ 7293034; omega⟩ rfl dL_law_1668 (fun v1 H1c locs1c hv1 _ hw1c hS1c _ _ => ?_) (fun E9 ce9 q9 H9 locs9 hv9 _ _ _ _ _ _ _ => by cases hv9)
      cases hv1
      refine lv_istore (lv' := [(6, .int b9), (5, .int 1), (4, .int x4), (3, .ref (G.2.2 (30, 0, 0))), (2, .ref (G.2.2 (6, 0, 0))), (1, .ref (G.2.2 (0, 0, 0))), (0, .ref b)]) B.1 B.2.1 dL_law_1671 hl (by decide) rfl (fun ls hl => ?_)
      refine lv_aload_n B.1 B.2.1 dL_law_1673 rfl (lv_at hl 4 rfl) ?_
      refine mb_xV (as := []) (n := 0) (d2 := 0) (ci := 6) (N := 16) (rest := []) B hS1c hw1c hl.1 ⟨⟨by decide, by decide⟩, trivial⟩ (Nat.le_of_ble_eq_true rfl) (C_X6_thrown hst B.2.2.2.2.2.2.2.1 (show F_X6_thrown _ = some (.inl (some (.inl (h3.1 6 0 0 4))), h3) from rfl)) (mb_gV wl_L_109 mi_X6_thrown ms_X6_thrown mn_X6 mc_X6_thrown) (by decide +kernel) rfl rfl rfl ⟨by show 8 + 0 + 1 ≤ 2048; decide, by show _ ≤ 84000; decide, by show cells + 1 + 0 ≤ 601024; omega, by show slots + 6 + 0 ≤ 7293034; omega⟩ rfl dL_law_1674 (fun v2 H2c locs2c hv2 _ hw2c hS2c _ _ => ?_) (fun E9 ce9 q9 H9 locs9 hv9 _ _ _ _ _ _ _ => by cases hv9)
      cases hv2
      refine lv_iload B.1 B.2.1 dL_law_1677 (lv_at hl 1 rfl) ?_
      refine lv_icmp_eq (tgt := 1684) B.1 B.2.1 dL_law_1679 (by decide) (fun _ => ?_) (fun z9 => absurd eT z9)
      refine lv_iload B.1 B.2.1 dL_law_1684 (lv_at hl 1 rfl) ?_
      refine lv_if_ne (tgt := 1701) B.1 B.2.1 dL_law_1686 (by decide) (fun _ => ?_) (fun z9 => absurd z9 (by decide))
      refine lv_goto (tgt := 1925) B.1 B.2.1 dL_law_1701 (by decide) ?_
      exact kk _ _ _ _ _ _ eS hw2c hS2c (lv_sub hl [2, 3, 4, 5, 6] rfl) (by simp only [mb_mc, mb_ms]; omega) (by simp only [mb_mc, mb_ms]; omega)
    | k9 + 1, ej => simp at ej
set_option maxRecDepth 100000 in
set_option maxHeartbeats 4000000 in
theorem lc_26 (hst : l.stackTraces = false) (B : mb_Lx p l s m #[Value.ref b] c G RL code 7 (mb_A9 s)) (hX : va_X b L xs s s.heap) (hbl : b < s.heap.size) (hS : va_S (mb_A9 s) s.heap H locs) (hw : mb_wd G h H) (hl : lv_has ls 7 [(4, .int x4), (3, .ref (G.2.2 (30, 0, 0))), (2, .ref (G.2.2 (6, 0, 0))), (1, .ref (G.2.2 (0, 0, 0))), (0, .ref b)]) (hc : cells + 1 ≤ 601024) (hs : slots + 6 ≤ 7293034)  (hps : mb_PP (F_X5_greatestClearance  h) (F_X6_greatestClearance) S)
    (kk : ∀ (h3 : mb_AH) (H3 : Heap) (locs3 : List Loc) (ls3 : Array Slot) (cells3 slots3 : Nat), S h3 → mb_wd G h3 H3 → va_S (mb_A9 s) s.heap H3 locs3 → lv_has ls3 7 [(4, .int x4), (3, .ref (G.2.2 (30, 0, 0))), (2, .ref (G.2.2 (6, 0, 0))), (1, .ref (G.2.2 (0, 0, 0))), (0, .ref b)] → cells3 ≤ cells + 1 → slots3 ≤ slots + 6 → W p l e room_1 s m #[Value.ref b] below meth c H3 locs3 cells3 slots3 Q (F0 m 1925 ls3 [])) : W p l e room_1 s m #[Value.ref b] below meth c H locs cells slots Q (F0 m 1704 ls []) := by
  obtain ⟨v, h1, h3, e5, e6, eS⟩ := hps
  refine lv_aload_n B.1 B.2.1 dL_law_1704 rfl (lv_at hl 3 rfl) ?_
  refine mb_xV (as := []) (n := 0) (d2 := 2) (ci := 5) (N := 6) (rest := []) B hS hw hl.1 ⟨⟨by decide, by decide⟩, trivial⟩ (Nat.le_of_ble_eq_true rfl) (C_X5_greatestClearance hst B.2.2.2.2.2.2.2.1 e5) (mb_gV wl_L_195 mi_X5_greatestClearance ms_X5_greatestClearance mn_X5 mc_X5_greatestClearance) (by decide +kernel) rfl rfl rfl ⟨by show 8 + 2 + 1 ≤ 2048; decide, by show _ ≤ 84000; decide, by show cells + 0 ≤ 601024; omega, by show slots + 0 ≤ 7293034; omega⟩ rfl dL_law_1705 (fun v1 H1c locs1c hv1 _ hw1c hS1c _ _ => ?_) (fun E9 ce9 q9 H9 locs9 hv9 _ _ _ _ _ _ _ => by cases hv9)
  cases hv1
  refine lv_aload_n B.1 B.2.1 dL_law_1708 rfl (lv_at hl 2 rfl) ?_
  refine mb_xV (as := []) (n := 0) (d2 := 3) (ci := 6) (N := 16) (rest := [.int v]) B hS1c hw1c hl.1 ⟨⟨by decide, by decide⟩, trivial⟩ (Nat.le_of_ble_eq_true rfl) (C_X6_greatestClearance hst B.2.2.2.2.2.2.2.1 e6) (mb_gV wl_L_198 mi_X6_greatestClearance ms_X6_greatestClearance mn_X6 mc_X6_greatestClearance) (by decide +kernel) rfl rfl rfl ⟨by show 8 + 3 + 1 ≤ 2048; decide, by show _ ≤ 84000; decide, by show cells + 0 ≤ 601024; omega, by show slots + 0 ≤ 7293034; omega⟩ rfl dL_law_1709 (fun v2 H2c locs2c hv2 _ hw2c hS2c _ _ => ?_) (fun E9 ce9 q9 H9 locs9 hv9 _ _ _ _ _ _ _ => by cases hv9)
  cases hv2
  refine lv_icmp_eq (tgt := 1925) B.1 B.2.1 dL_law_1712 (by decide) (fun _ => ?_) (fun z9 => absurd rfl z9)
  exact kk _ _ _ _ _ _ eS hw2c hS2c (lv_sub hl [0, 1, 2, 3, 4] rfl) (by simp only [mb_mc, mb_ms]; omega) (by simp only [mb_mc, mb_ms]; omega)
set_option maxRecDepth 100000 in
set_option maxHeartbeats 4000000 in
theorem lc_27 (hst : l.stackTraces = false) (B : mb_Lx p l s m #[Value.ref b] c G RL code 7 (mb_A9 s)) (hX : va_X b L xs s s.heap) (hbl : b < s.heap.size) (hS : va_S (mb_A9 s) s.heap H locs) (hw : mb_wd G h H) (hl : lv_has ls 7 [(4, .int x4), (3, .ref (G.2.2 (30, 0, 0))), (2, .ref (G.2.2 (6, 0, 0))), (1, .ref (G.2.2 (0, 0, 0))), (0, .ref b)]) (hc : cells + 1 ≤ 601024) (hs : slots + 6 ≤ 7293034) (hi1 : vp_in (x4 + 1) L) (hi2 : vp_in (x4 + 2) L) (hps : mb_PI ["java/lang/IndexOutOfBoundsException"] (F_X5_missingDepth (xs (x4 + 1).toNatClampNeg) (xs (x4 + 2).toNatClampNeg) h) (F_X6_missingDepth (xs (x4 + 1).toNatClampNeg) (xs (x4 + 2).toNatClampNeg)) S)
    (kk : ∀ (h3 : mb_AH) (H3 : Heap) (locs3 : List Loc) (ls3 : Array Slot) (cells3 slots3 : Nat), S h3 → mb_wd G h3 H3 → va_S (mb_A9 s) s.heap H3 locs3 → lv_has ls3 7 [(4, .int x4), (3, .ref (G.2.2 (30, 0, 0))), (2, .ref (G.2.2 (6, 0, 0))), (1, .ref (G.2.2 (0, 0, 0))), (0, .ref b)] → cells3 ≤ cells + 1 → slots3 ≤ slots + 6 → W p l e room_1 s m #[Value.ref b] below meth c H3 locs3 cells3 slots3 Q (F0 m 1925 ls3 [])) : W p l e room_1 s m #[Value.ref b] below meth c H locs cells slots Q (F0 m 1717 ls []) := by
  rcases hps with ⟨v, h1, h3, e5, e6, eT, eO, eS⟩ | ⟨j, E, h1, b9, h3, ej, e5, e6, eT, eS⟩
  · refine lv_aload_n B.1 B.2.1 dL_law_1717 rfl (lv_at hl 3 rfl) ?_
    refine lv_aload_n B.1 B.2.1 dL_law_1718 rfl (lv_at hl 4 rfl) ?_
    refine lv_iload B.1 B.2.1 dL_law_1719 (lv_at hl 0 rfl) ?_
    refine lv_iconst (v := 1) B.1 B.2.1 dL_law_1721 (by decide) ?_
    refine lv_iadd B.1 B.2.1 dL_law_1722 ?_
    refine va_sld B.1 B.2.1 hX hbl (Nat.not_le.mpr hbl) hS hi1 dL_law_1723 ?_
    refine lv_aload_n B.1 B.2.1 dL_law_1724 rfl (lv_at hl 4 rfl) ?_
    refine lv_iload B.1 B.2.1 dL_law_1725 (lv_at hl 0 rfl) ?_
    refine lv_iconst (v := 2) B.1 B.2.1 dL_law_1727 (by decide) ?_
    refine lv_iadd B.1 B.2.1 dL_law_1728 ?_
    refine va_sld B.1 B.2.1 hX hbl (Nat.not_le.mpr hbl) hS hi2 dL_law_1729 ?_
    refine lv_aload_n B.1 B.2.1 dL_law_1730 rfl (lv_at hl 1 rfl) ?_
    refine mb_xH (as := [mb_F 0 0 0, .inl (xs (x4 + 1).toNatClampNeg), .inl (xs (x4 + 2).toNatClampNeg), mb_F 30 0 0]) (n := 4) (mc := 0) (ms := 0) (rest := []) B hS hw hl.1 ⟨⟨by decide, by decide⟩, trivial, trivial, ⟨by decide, by decide⟩, trivial⟩ (Nat.zero_le _) (H_missingDepth_r hst B.2.2.2.2.2.2.2.1 e5) wl_L_199 mt_L_missingDepth mn_L mw_L_missingDepth (by decide +kernel) rfl ⟨by show 8 + 2 + 1 ≤ 2048; decide, by show _ ≤ 84000; decide, by show cells + 0 ≤ 601024; omega, by show slots + 0 ≤ 7293034; omega⟩ rfl dL_law_1731 (fun H1 locs1 hw1 hS1 _ _ => ?_)
    refine lv_istore (lv' := [(5, .int 0), (4, .int x4), (3, .ref (G.2.2 (30, 0, 0))), (2, .ref (G.2.2 (6, 0, 0))), (1, .ref (G.2.2 (0, 0, 0))), (0, .ref b)]) B.1 B.2.1 dL_law_1734 hl (by decide) rfl (fun ls hl => ?_)
    refine lv_aload_n B.1 B.2.1 dL_law_1736 rfl (lv_at hl 3 rfl) ?_
    refine lv_aload_n B.1 B.2.1 dL_law_1737 rfl (lv_at hl 5 rfl) ?_
    refine lv_iload B.1 B.2.1 dL_law_1738 (lv_at hl 1 rfl) ?_
    refine lv_iconst (v := 1) B.1 B.2.1 dL_law_1740 (by decide) ?_
    refine lv_iadd B.1 B.2.1 dL_law_1741 ?_
    refine va_sld B.1 B.2.1 hX hbl (Nat.not_le.mpr hbl) hS1 hi1 dL_law_1742 ?_
    refine lv_aload_n B.1 B.2.1 dL_law_1743 rfl (lv_at hl 5 rfl) ?_
    refine lv_iload B.1 B.2.1 dL_law_1744 (lv_at hl 1 rfl) ?_
    refine lv_iconst (v := 2) B.1 B.2.1 dL_law_1746 (by decide) ?_
    refine lv_iadd B.1 B.2.1 dL_law_1747 ?_
    refine va_sld B.1 B.2.1 hX hbl (Nat.not_le.mpr hbl) hS1 hi2 dL_law_1748 ?_
    refine mb_xV (as := [.inl (xs (x4 + 1).toNatClampNeg), .inl (xs (x4 + 2).toNatClampNeg)]) (n := 2) (d2 := 3) (ci := 6) (N := 16) (rest := []) B hS1 hw1 hl.1 ⟨⟨by decide, by decide⟩, trivial, trivial, trivial⟩ (Nat.le_of_ble_eq_true rfl) (C_X6_missingDepth hst B.2.2.2.2.2.2.2.1 e6) (mb_gV wl_L_201 mi_X6_missingDepth ms_X6_missingDepth mn_X6 mc_X6_missingDepth) (by decide +kernel) rfl rfl rfl ⟨by show 8 + 3 + 1 ≤ 2048; decide, by show _ ≤ 84000; decide, by show cells + 0 + 0 ≤ 601024; omega, by show slots + 0 + 0 ≤ 7293034; omega⟩ rfl dL_law_1749 (fun v1 H1c locs1c hv1 _ hw1c hS1c _ _ => ?_) (fun E9 ce9 q9 H9 locs9 hv9 _ _ _ _ _ _ _ => by cases hv9)
    cases hv1
    refine lv_istore (lv' := [(6, .int v), (5, .int 0), (4, .int x4), (3, .ref (G.2.2 (30, 0, 0))), (2, .ref (G.2.2 (6, 0, 0))), (1, .ref (G.2.2 (0, 0, 0))), (0, .ref b)]) B.1 B.2.1 dL_law_1752 hl (by decide) rfl (fun ls hl => ?_)
    refine lv_aload_n B.1 B.2.1 dL_law_1754 rfl (lv_at hl 4 rfl) ?_
    refine mb_xV (as := []) (n := 0) (d2 := 0) (ci := 6) (N := 16) (rest := []) B hS1c hw1c hl.1 ⟨⟨by decide, by decide⟩, trivial⟩ (Nat.le_of_ble_eq_true rfl) (C_X6_thrown hst B.2.2.2.2.2.2.2.1 (show F_X6_thrown _ = some (.inl (some (.inl (h3.1 6 0 0 4))), h3) from rfl)) (mb_gV wl_L_109 mi_X6_thrown ms_X6_thrown mn_X6 mc_X6_thrown) (by decide +kernel) rfl rfl rfl ⟨by show 8 + 0 + 1 ≤ 2048; decide, by show _ ≤ 84000; decide, by show cells + 0 + 0 ≤ 601024; omega, by show slots + 0 + 0 ≤ 7293034; omega⟩ rfl dL_law_1755 (fun v2 H2c locs2c hv2 _ hw2c hS2c _ _ => ?_) (fun E9 ce9 q9 H9 locs9 hv9 _ _ _ _ _ _ _ => by cases hv9)
    cases hv2
    refine lv_iload B.1 B.2.1 dL_law_1758 (lv_at hl 1 rfl) ?_
    refine lv_icmp_eq (tgt := 1765) B.1 B.2.1 dL_law_1760 (by decide) (fun _ => ?_) (fun z9 => absurd eT z9)
    refine lv_iload B.1 B.2.1 dL_law_1765 (lv_at hl 1 rfl) ?_
    refine lv_if_ne (tgt := 1782) B.1 B.2.1 dL_law_1767 (by decide) (fun z9 => absurd rfl z9) (fun _ => ?_)
    refine lv_aload_n B.1 B.2.1 dL_law_1770 rfl (lv_at hl 3 rfl) ?_
    refine lv_iconst (v := 0) B.1 B.2.1 dL_law_1771 (by decide) ?_
    refine mb_outld B hw2c dL_law_1772 ?_
    refine lv_iload B.1 B.2.1 dL_law_1773 (lv_at hl 0 rfl) ?_
    refine lv_i2l B.1 B.2.1 dL_law_1775 rfl ?_
    refine W.lcmp B.1 B.2.1 dL_law_1776 ?_
    refine lv_if_eq (tgt := 1782) B.1 B.2.1 dL_law_1777 (by decide) (fun _ => ?_) (fun z9 => absurd (by rw [eO]; exact mb_lc0 _) z9)
    refine lv_goto (tgt := 1925) B.1 B.2.1 dL_law_1782 (by decide) ?_
    exact kk _ _ _ _ _ _ eS hw2c hS2c (lv_sub hl [2, 3, 4, 5, 6] rfl) (by simp only [mb_mc, mb_ms]; omega) (by simp only [mb_mc, mb_ms]; omega)
  · match j, ej with
    | 0, ej =>
      cases ej
      refine lv_aload_n B.1 B.2.1 dL_law_1717 rfl (lv_at hl 3 rfl) ?_
      refine lv_aload_n B.1 B.2.1 dL_law_1718 rfl (lv_at hl 4 rfl) ?_
      refine lv_iload B.1 B.2.1 dL_law_1719 (lv_at hl 0 rfl) ?_
      refine lv_iconst (v := 1) B.1 B.2.1 dL_law_1721 (by decide) ?_
      refine lv_iadd B.1 B.2.1 dL_law_1722 ?_
      refine va_sld B.1 B.2.1 hX hbl (Nat.not_le.mpr hbl) hS hi1 dL_law_1723 ?_
      refine lv_aload_n B.1 B.2.1 dL_law_1724 rfl (lv_at hl 4 rfl) ?_
      refine lv_iload B.1 B.2.1 dL_law_1725 (lv_at hl 0 rfl) ?_
      refine lv_iconst (v := 2) B.1 B.2.1 dL_law_1727 (by decide) ?_
      refine lv_iadd B.1 B.2.1 dL_law_1728 ?_
      refine va_sld B.1 B.2.1 hX hbl (Nat.not_le.mpr hbl) hS hi2 dL_law_1729 ?_
      refine lv_aload_n B.1 B.2.1 dL_law_1730 rfl (lv_at hl 1 rfl) ?_
      refine mb_xH (as := [mb_F 0 0 0, .inl (xs (x4 + 1).toNatClampNeg), .inl (xs (x4 + 2).toNatClampNeg), mb_F 30 0 0]) (n := 4) (mc := 1) (ms := 6) (rest := []) B hS hw hl.1 ⟨⟨by decide, by decide⟩, trivial, trivial, ⟨by decide, by decide⟩, trivial⟩ (Nat.zero_le _) (H_missingDepth_t1 hst B.2.2.2.2.2.2.2.1 e5) wl_L_199 mt_L_missingDepth mn_L mw_L_missingDepth (by decide +kernel) rfl ⟨by show 8 + 2 + 1 ≤ 2048; decide, by show _ ≤ 84000; decide, by show cells + 1 ≤ 601024; omega, by show slots + 6 ≤ 7293034; omega⟩ rfl dL_law_1731 (fun H1 locs1 hw1 hS1 _ _ => ?_)
      refine lv_istore (lv' := [(5, .int 1), (4, .int x4), (3, .ref (G.2.2 (30, 0, 0))), (2, .ref (G.2.2 (6, 0, 0))), (1, .ref (G.2.2 (0, 0, 0))), (0, .ref b)]) B.1 B.2.1 dL_law_1734 hl (by decide) rfl (fun ls hl => ?_)
      refine lv_aload_n B.1 B.2.1 dL_law_1736 rfl (lv_at hl 3 rfl) ?_
      refine lv_aload_n B.1 B.2.1 dL_law_1737 rfl (lv_at hl 5 rfl) ?_
      refine lv_iload B.1 B.2.1 dL_law_1738 (lv_at hl 1 rfl) ?_
      refine lv_iconst (v := 1) B.1 B.2.1 dL_law_1740 (by decide) ?_
      refine lv_iadd B.1 B.2.1 dL_law_1741 ?_
      refine va_sld B.1 B.2.1 hX hbl (Nat.not_le.mpr hbl) hS1 hi1 dL_law_1742 ?_
      refine lv_aload_n B.1 B.2.1 dL_law_1743 rfl (lv_at hl 5 rfl) ?_
      refine lv_iload B.1 B.2.1 dL_law_1744 (lv_at hl 1 rfl) ?_
      refine lv_iconst (v := 2) B.1 B.2.1 dL_law_1746 (by decide) ?_
      refine lv_iadd B.1 B.2.1 dL_law_1747 ?_
      refine va_sld B.1 B.2.1 hX hbl (Nat.not_le.mpr hbl) hS1 hi2 dL_law_1748 ?_
      refine mb_xV (as := [.inl (xs (x4 + 1).toNatClampNeg), .inl (xs (x4 + 2).toNatClampNeg)]) (n := 2) (d2 := 3) (ci := 6) (N := 16) (rest := []) B hS1 hw1 hl.1 ⟨⟨by decide, by decide⟩, trivial, trivial, trivial⟩ (Nat.le_of_ble_eq_true rfl) (C_X6_missingDepth hst B.2.2.2.2.2.2.2.1 e6) (mb_gV wl_L_201 mi_X6_missingDepth ms_X6_missingDepth mn_X6 mc_X6_missingDepth) (by decide +kernel) rfl rfl rfl ⟨by show 8 + 3 + 1 ≤ 2048; decide, by show _ ≤ 84000; decide, by show cells + 1 + 0 ≤ 601024; omega, by show slots + 6 + 0 ≤ 7293034; omega⟩ rfl dL_law_1749 (fun v1 H1c locs1c hv1 _ hw1c hS1c _ _ => ?_) (fun E9 ce9 q9 H9 locs9 hv9 _ _ _ _ _ _ _ => by cases hv9)
      cases hv1
      refine lv_istore (lv' := [(6, .int b9), (5, .int 1), (4, .int x4), (3, .ref (G.2.2 (30, 0, 0))), (2, .ref (G.2.2 (6, 0, 0))), (1, .ref (G.2.2 (0, 0, 0))), (0, .ref b)]) B.1 B.2.1 dL_law_1752 hl (by decide) rfl (fun ls hl => ?_)
      refine lv_aload_n B.1 B.2.1 dL_law_1754 rfl (lv_at hl 4 rfl) ?_
      refine mb_xV (as := []) (n := 0) (d2 := 0) (ci := 6) (N := 16) (rest := []) B hS1c hw1c hl.1 ⟨⟨by decide, by decide⟩, trivial⟩ (Nat.le_of_ble_eq_true rfl) (C_X6_thrown hst B.2.2.2.2.2.2.2.1 (show F_X6_thrown _ = some (.inl (some (.inl (h3.1 6 0 0 4))), h3) from rfl)) (mb_gV wl_L_109 mi_X6_thrown ms_X6_thrown mn_X6 mc_X6_thrown) (by decide +kernel) rfl rfl rfl ⟨by show 8 + 0 + 1 ≤ 2048; decide, by show _ ≤ 84000; decide, by show cells + 1 + 0 ≤ 601024; omega, by show slots + 6 + 0 ≤ 7293034; omega⟩ rfl dL_law_1755 (fun v2 H2c locs2c hv2 _ hw2c hS2c _ _ => ?_) (fun E9 ce9 q9 H9 locs9 hv9 _ _ _ _ _ _ _ => by cases hv9)
      cases hv2
      refine lv_iload B.1 B.2.1 dL_law_1758 (lv_at hl 1 rfl) ?_
      refine lv_icmp_eq (tgt := 1765) B.1 B.2.1 dL_law_1760 (by decide) (fun _ => ?_) (fun z9 => absurd eT z9)
      refine lv_iload B.1 B.2.1 dL_law_1765 (lv_at hl 1 rfl) ?_
      refine lv_if_ne (tgt := 1782) B.1 B.2.1 dL_law_1767 (by decide) (fun _ => ?_) (fun z9 => absurd z9 (by decide))
      refine lv_goto (tgt := 1925) B.1 B.2.1 dL_law_1782 (by decide) ?_
      exact kk _ _ _ _ _ _ eS hw2c hS2c (lv_sub hl [2, 3, 4, 5, 6] rfl) (by simp only [mb_mc, mb_ms]; omega) (by simp only [mb_mc, mb_ms]; omega)
    | k9 + 1, ej => simp at ej
set_option maxRecDepth 100000 in
set_option maxHeartbeats 4000000 in
theorem lc_28 (hst : l.stackTraces = false) (B : mb_Lx p l s m #[Value.ref b] c G RL code 7 (mb_A9 s)) (hX : va_X b L xs s s.heap) (hbl : b < s.heap.size) (hS : va_S (mb_A9 s) s.heap H locs) (hw : mb_wd G h H) (hl : lv_has ls 7 [(4, .int x4), (3, .ref (G.2.2 (30, 0, 0))), (2, .ref (G.2.2 (6, 0, 0))), (1, .ref (G.2.2 (0, 0, 0))), (0, .ref b)]) (hc : cells + 1 ≤ 601024) (hs : slots + 6 ≤ 7293034) (hi1 : vp_in (x4 + 1) L) (hps : mb_PI ["java/lang/IllegalArgumentException", "java/lang/IllegalStateException"] (F_X5_type (xs (x4 + 1).toNatClampNeg) h) (F_X6_type (xs (x4 + 1).toNatClampNeg)) S)
    (kk : ∀ (h3 : mb_AH) (H3 : Heap) (locs3 : List Loc) (ls3 : Array Slot) (cells3 slots3 : Nat), S h3 → mb_wd G h3 H3 → va_S (mb_A9 s) s.heap H3 locs3 → lv_has ls3 7 [(4, .int x4), (3, .ref (G.2.2 (30, 0, 0))), (2, .ref (G.2.2 (6, 0, 0))), (1, .ref (G.2.2 (0, 0, 0))), (0, .ref b)] → cells3 ≤ cells + 1 → slots3 ≤ slots + 6 → W p l e room_1 s m #[Value.ref b] below meth c H3 locs3 cells3 slots3 Q (F0 m 1925 ls3 [])) : W p l e room_1 s m #[Value.ref b] below meth c H locs cells slots Q (F0 m 1785 ls []) := by
  rcases hps with ⟨v, h1, h3, e5, e6, eT, eO, eS⟩ | ⟨j, E, h1, b9, h3, ej, e5, e6, eT, eS⟩
  · refine lv_aload_n B.1 B.2.1 dL_law_1785 rfl (lv_at hl 3 rfl) ?_
    refine lv_aload_n B.1 B.2.1 dL_law_1786 rfl (lv_at hl 4 rfl) ?_
    refine lv_iload B.1 B.2.1 dL_law_1787 (lv_at hl 0 rfl) ?_
    refine lv_iconst (v := 1) B.1 B.2.1 dL_law_1789 (by decide) ?_
    refine lv_iadd B.1 B.2.1 dL_law_1790 ?_
    refine va_sld B.1 B.2.1 hX hbl (Nat.not_le.mpr hbl) hS hi1 dL_law_1791 ?_
    refine lv_aload_n B.1 B.2.1 dL_law_1792 rfl (lv_at hl 1 rfl) ?_
    refine mb_xH (as := [mb_F 0 0 0, .inl (xs (x4 + 1).toNatClampNeg), mb_F 30 0 0]) (n := 3) (mc := 0) (ms := 0) (rest := []) B hS hw hl.1 ⟨⟨by decide, by decide⟩, trivial, ⟨by decide, by decide⟩, trivial⟩ (Nat.zero_le _) (H_type_r hst B.2.2.2.2.2.2.2.1 e5) wl_L_202 mt_L_type mn_L mw_L_type (by decide +kernel) rfl ⟨by show 8 + 2 + 1 ≤ 2048; decide, by show _ ≤ 84000; decide, by show cells + 0 ≤ 601024; omega, by show slots + 0 ≤ 7293034; omega⟩ rfl dL_law_1793 (fun H1 locs1 hw1 hS1 _ _ => ?_)
    refine lv_istore (lv' := [(5, .int 0), (4, .int x4), (3, .ref (G.2.2 (30, 0, 0))), (2, .ref (G.2.2 (6, 0, 0))), (1, .ref (G.2.2 (0, 0, 0))), (0, .ref b)]) B.1 B.2.1 dL_law_1796 hl (by decide) rfl (fun ls hl => ?_)
    refine lv_aload_n B.1 B.2.1 dL_law_1798 rfl (lv_at hl 3 rfl) ?_
    refine lv_aload_n B.1 B.2.1 dL_law_1799 rfl (lv_at hl 5 rfl) ?_
    refine lv_iload B.1 B.2.1 dL_law_1800 (lv_at hl 1 rfl) ?_
    refine lv_iconst (v := 1) B.1 B.2.1 dL_law_1802 (by decide) ?_
    refine lv_iadd B.1 B.2.1 dL_law_1803 ?_
    refine va_sld B.1 B.2.1 hX hbl (Nat.not_le.mpr hbl) hS1 hi1 dL_law_1804 ?_
    refine mb_xV (as := [.inl (xs (x4 + 1).toNatClampNeg)]) (n := 1) (d2 := 1) (ci := 6) (N := 16) (rest := []) B hS1 hw1 hl.1 ⟨⟨by decide, by decide⟩, trivial, trivial⟩ (Nat.le_of_ble_eq_true rfl) (C_X6_type hst B.2.2.2.2.2.2.2.1 e6) (mb_gV wl_L_204 mi_X6_type ms_X6_type mn_X6 mc_X6_type) (by decide +kernel) rfl rfl rfl ⟨by show 8 + 1 + 1 ≤ 2048; decide, by show _ ≤ 84000; decide, by show cells + 0 + 0 ≤ 601024; omega, by show slots + 0 + 0 ≤ 7293034; omega⟩ rfl dL_law_1805 (fun v1 H1c locs1c hv1 _ hw1c hS1c _ _ => ?_) (fun E9 ce9 q9 H9 locs9 hv9 _ _ _ _ _ _ _ => by cases hv9)
    cases hv1
    refine lv_istore (lv' := [(6, .int v), (5, .int 0), (4, .int x4), (3, .ref (G.2.2 (30, 0, 0))), (2, .ref (G.2.2 (6, 0, 0))), (1, .ref (G.2.2 (0, 0, 0))), (0, .ref b)]) B.1 B.2.1 dL_law_1808 hl (by decide) rfl (fun ls hl => ?_)
    refine lv_aload_n B.1 B.2.1 dL_law_1810 rfl (lv_at hl 4 rfl) ?_
    refine mb_xV (as := []) (n := 0) (d2 := 0) (ci := 6) (N := 16) (rest := []) B hS1c hw1c hl.1 ⟨⟨by decide, by decide⟩, trivial⟩ (Nat.le_of_ble_eq_true rfl) (C_X6_thrown hst B.2.2.2.2.2.2.2.1 (show F_X6_thrown _ = some (.inl (some (.inl (h3.1 6 0 0 4))), h3) from rfl)) (mb_gV wl_L_109 mi_X6_thrown ms_X6_thrown mn_X6 mc_X6_thrown) (by decide +kernel) rfl rfl rfl ⟨by show 8 + 0 + 1 ≤ 2048; decide, by show _ ≤ 84000; decide, by show cells + 0 + 0 ≤ 601024; omega, by show slots + 0 + 0 ≤ 7293034; omega⟩ rfl dL_law_1811 (fun v2 H2c locs2c hv2 _ hw2c hS2c _ _ => ?_) (fun E9 ce9 q9 H9 locs9 hv9 _ _ _ _ _ _ _ => by cases hv9)
    cases hv2
    refine lv_iload B.1 B.2.1 dL_law_1814 (lv_at hl 1 rfl) ?_
    refine lv_icmp_eq (tgt := 1821) B.1 B.2.1 dL_law_1816 (by decide) (fun _ => ?_) (fun z9 => absurd eT z9)
    refine lv_iload B.1 B.2.1 dL_law_1821 (lv_at hl 1 rfl) ?_
    refine lv_if_ne (tgt := 1838) B.1 B.2.1 dL_law_1823 (by decide) (fun z9 => absurd rfl z9) (fun _ => ?_)
    refine lv_aload_n B.1 B.2.1 dL_law_1826 rfl (lv_at hl 3 rfl) ?_
    refine lv_iconst (v := 0) B.1 B.2.1 dL_law_1827 (by decide) ?_
    refine mb_outld B hw2c dL_law_1828 ?_
    refine lv_iload B.1 B.2.1 dL_law_1829 (lv_at hl 0 rfl) ?_
    refine lv_i2l B.1 B.2.1 dL_law_1831 rfl ?_
    refine W.lcmp B.1 B.2.1 dL_law_1832 ?_
    refine lv_if_eq (tgt := 1838) B.1 B.2.1 dL_law_1833 (by decide) (fun _ => ?_) (fun z9 => absurd (by rw [eO]; exact mb_lc0 _) z9)
    refine lv_goto (tgt := 1925) B.1 B.2.1 dL_law_1838 (by decide) ?_
    exact kk _ _ _ _ _ _ eS hw2c hS2c (lv_sub hl [2, 3, 4, 5, 6] rfl) (by simp only [mb_mc, mb_ms]; omega) (by simp only [mb_mc, mb_ms]; omega)
  · match j, ej with
    | 0, ej =>
      cases ej
      refine lv_aload_n B.1 B.2.1 dL_law_1785 rfl (lv_at hl 3 rfl) ?_
      refine lv_aload_n B.1 B.2.1 dL_law_1786 rfl (lv_at hl 4 rfl) ?_
      refine lv_iload B.1 B.2.1 dL_law_1787 (lv_at hl 0 rfl) ?_
      refine lv_iconst (v := 1) B.1 B.2.1 dL_law_1789 (by decide) ?_
      refine lv_iadd B.1 B.2.1 dL_law_1790 ?_
      refine va_sld B.1 B.2.1 hX hbl (Nat.not_le.mpr hbl) hS hi1 dL_law_1791 ?_
      refine lv_aload_n B.1 B.2.1 dL_law_1792 rfl (lv_at hl 1 rfl) ?_
      refine mb_xH (as := [mb_F 0 0 0, .inl (xs (x4 + 1).toNatClampNeg), mb_F 30 0 0]) (n := 3) (mc := 1) (ms := 6) (rest := []) B hS hw hl.1 ⟨⟨by decide, by decide⟩, trivial, ⟨by decide, by decide⟩, trivial⟩ (Nat.zero_le _) (H_type_t1 hst B.2.2.2.2.2.2.2.1 e5) wl_L_202 mt_L_type mn_L mw_L_type (by decide +kernel) rfl ⟨by show 8 + 2 + 1 ≤ 2048; decide, by show _ ≤ 84000; decide, by show cells + 1 ≤ 601024; omega, by show slots + 6 ≤ 7293034; omega⟩ rfl dL_law_1793 (fun H1 locs1 hw1 hS1 _ _ => ?_)
      refine lv_istore (lv' := [(5, .int 1), (4, .int x4), (3, .ref (G.2.2 (30, 0, 0))), (2, .ref (G.2.2 (6, 0, 0))), (1, .ref (G.2.2 (0, 0, 0))), (0, .ref b)]) B.1 B.2.1 dL_law_1796 hl (by decide) rfl (fun ls hl => ?_)
      refine lv_aload_n B.1 B.2.1 dL_law_1798 rfl (lv_at hl 3 rfl) ?_
      refine lv_aload_n B.1 B.2.1 dL_law_1799 rfl (lv_at hl 5 rfl) ?_
      refine lv_iload B.1 B.2.1 dL_law_1800 (lv_at hl 1 rfl) ?_
      refine lv_iconst (v := 1) B.1 B.2.1 dL_law_1802 (by decide) ?_
      refine lv_iadd B.1 B.2.1 dL_law_1803 ?_
      refine va_sld B.1 B.2.1 hX hbl (Nat.not_le.mpr hbl) hS1 hi1 dL_law_1804 ?_
      refine mb_xV (as := [.inl (xs (x4 + 1).toNatClampNeg)]) (n := 1) (d2 := 1) (ci := 6) (N := 16) (rest := []) B hS1 hw1 hl.1 ⟨⟨by decide, by decide⟩, trivial, trivial⟩ (Nat.le_of_ble_eq_true rfl) (C_X6_type hst B.2.2.2.2.2.2.2.1 e6) (mb_gV wl_L_204 mi_X6_type ms_X6_type mn_X6 mc_X6_type) (by decide +kernel) rfl rfl rfl ⟨by show 8 + 1 + 1 ≤ 2048; decide, by show _ ≤ 84000; decide, by show cells + 1 + 0 ≤ 601024; omega, by show slots + 6 + 0 ≤ 7293034; omega⟩ rfl dL_law_1805 (fun v1 H1c locs1c hv1 _ hw1c hS1c _ _ => ?_) (fun E9 ce9 q9 H9 locs9 hv9 _ _ _ _ _ _ _ => by cases hv9)
      cases hv1
      refine lv_istore (lv' := [(6, .int b9), (5, .int 1), (4, .int x4), (3, .ref (G.2.2 (30, 0, 0))), (2, .ref (G.2.2 (6, 0, 0))), (1, .ref (G.2.2 (0, 0, 0))), (0, .ref b)]) B.1 B.2.1 dL_law_1808 hl (by decide) rfl (fun ls hl => ?_)
      refine lv_aload_n B.1 B.2.1 dL_law_1810 rfl (lv_at hl 4 rfl) ?_
      refine mb_xV (as := []) (n := 0) (d2 := 0) (ci := 6) (N := 16) (rest := []) B hS1c hw1c hl.1 ⟨⟨by decide, by decide⟩, trivial⟩ (Nat.le_of_ble_eq_true rfl) (C_X6_thrown hst B.2.2.2.2.2.2.2.1 (show F_X6_thrown _ = some (.inl (some (.inl (h3.1 6 0 0 4))), h3) from rfl)) (mb_gV wl_L_109 mi_X6_thrown ms_X6_thrown mn_X6 mc_X6_thrown) (by decide +kernel) rfl rfl rfl ⟨by show 8 + 0 + 1 ≤ 2048; decide, by show _ ≤ 84000; decide, by show cells + 1 + 0 ≤ 601024; omega, by show slots + 6 + 0 ≤ 7293034; omega⟩ rfl dL_law_1811 (fun v2 H2c locs2c hv2 _ hw2c hS2c _ _ => ?_) (fun E9 ce9 q9 H9 locs9 hv9 _ _ _ _ _ _ _ => by cases hv9)
      cases hv2
      refine lv_iload B.1 B.2.1 dL_law_1814 (lv_at hl 1 rfl) ?_
      refine lv_icmp_eq (tgt := 1821) B.1 B.2.1 dL_law_1816 (by decide) (fun _ => ?_) (fun z9 => absurd eT z9)
      refine lv_iload B.1 B.2.1 dL_law_1821 (lv_at hl 1 rfl) ?_
      refine lv_if_ne (tgt := 1838) B.1 B.2.1 dL_law_1823 (by decide) (fun _ => ?_) (fun z9 => absurd z9 (by decide))
      refine lv_goto (tgt := 1925) B.1 B.2.1 dL_law_1838 (by decide) ?_
      exact kk _ _ _ _ _ _ eS hw2c hS2c (lv_sub hl [2, 3, 4, 5, 6] rfl) (by simp only [mb_mc, mb_ms]; omega) (by simp only [mb_mc, mb_ms]; omega)
    | 1, ej =>
      cases ej
      refine lv_aload_n B.1 B.2.1 dL_law_1785 rfl (lv_at hl 3 rfl) ?_
      refine lv_aload_n B.1 B.2.1 dL_law_1786 rfl (lv_at hl 4 rfl) ?_
      refine lv_iload B.1 B.2.1 dL_law_1787 (lv_at hl 0 rfl) ?_
      refine lv_iconst (v := 1) B.1 B.2.1 dL_law_1789 (by decide) ?_
      refine lv_iadd B.1 B.2.1 dL_law_1790 ?_
      refine va_sld B.1 B.2.1 hX hbl (Nat.not_le.mpr hbl) hS hi1 dL_law_1791 ?_
      refine lv_aload_n B.1 B.2.1 dL_law_1792 rfl (lv_at hl 1 rfl) ?_
      refine mb_xH (as := [mb_F 0 0 0, .inl (xs (x4 + 1).toNatClampNeg), mb_F 30 0 0]) (n := 3) (mc := 1) (ms := 6) (rest := []) B hS hw hl.1 ⟨⟨by decide, by decide⟩, trivial, ⟨by decide, by decide⟩, trivial⟩ (Nat.zero_le _) (H_type_t2 hst B.2.2.2.2.2.2.2.1 e5) wl_L_202 mt_L_type mn_L mw_L_type (by decide +kernel) rfl ⟨by show 8 + 2 + 1 ≤ 2048; decide, by show _ ≤ 84000; decide, by show cells + 1 ≤ 601024; omega, by show slots + 6 ≤ 7293034; omega⟩ rfl dL_law_1793 (fun H1 locs1 hw1 hS1 _ _ => ?_)
      refine lv_istore (lv' := [(5, .int 2), (4, .int x4), (3, .ref (G.2.2 (30, 0, 0))), (2, .ref (G.2.2 (6, 0, 0))), (1, .ref (G.2.2 (0, 0, 0))), (0, .ref b)]) B.1 B.2.1 dL_law_1796 hl (by decide) rfl (fun ls hl => ?_)
      refine lv_aload_n B.1 B.2.1 dL_law_1798 rfl (lv_at hl 3 rfl) ?_
      refine lv_aload_n B.1 B.2.1 dL_law_1799 rfl (lv_at hl 5 rfl) ?_
      refine lv_iload B.1 B.2.1 dL_law_1800 (lv_at hl 1 rfl) ?_
      refine lv_iconst (v := 1) B.1 B.2.1 dL_law_1802 (by decide) ?_
      refine lv_iadd B.1 B.2.1 dL_law_1803 ?_
      refine va_sld B.1 B.2.1 hX hbl (Nat.not_le.mpr hbl) hS1 hi1 dL_law_1804 ?_
      refine mb_xV (as := [.inl (xs (x4 + 1).toNatClampNeg)]) (n := 1) (d2 := 1) (ci := 6) (N := 16) (rest := []) B hS1 hw1 hl.1 ⟨⟨by decide, by decide⟩, trivial, trivial⟩ (Nat.le_of_ble_eq_true rfl) (C_X6_type hst B.2.2.2.2.2.2.2.1 e6) (mb_gV wl_L_204 mi_X6_type ms_X6_type mn_X6 mc_X6_type) (by decide +kernel) rfl rfl rfl ⟨by show 8 + 1 + 1 ≤ 2048; decide, by show _ ≤ 84000; decide, by show cells + 1 + 0 ≤ 601024; omega, by show slots + 6 + 0 ≤ 7293034; omega⟩ rfl dL_law_1805 (fun v1 H1c locs1c hv1 _ hw1c hS1c _ _ => ?_) (fun E9 ce9 q9 H9 locs9 hv9 _ _ _ _ _ _ _ => by cases hv9)
      cases hv1
      refine lv_istore (lv' := [(6, .int b9), (5, .int 2), (4, .int x4), (3, .ref (G.2.2 (30, 0, 0))), (2, .ref (G.2.2 (6, 0, 0))), (1, .ref (G.2.2 (0, 0, 0))), (0, .ref b)]) B.1 B.2.1 dL_law_1808 hl (by decide) rfl (fun ls hl => ?_)
      refine lv_aload_n B.1 B.2.1 dL_law_1810 rfl (lv_at hl 4 rfl) ?_
      refine mb_xV (as := []) (n := 0) (d2 := 0) (ci := 6) (N := 16) (rest := []) B hS1c hw1c hl.1 ⟨⟨by decide, by decide⟩, trivial⟩ (Nat.le_of_ble_eq_true rfl) (C_X6_thrown hst B.2.2.2.2.2.2.2.1 (show F_X6_thrown _ = some (.inl (some (.inl (h3.1 6 0 0 4))), h3) from rfl)) (mb_gV wl_L_109 mi_X6_thrown ms_X6_thrown mn_X6 mc_X6_thrown) (by decide +kernel) rfl rfl rfl ⟨by show 8 + 0 + 1 ≤ 2048; decide, by show _ ≤ 84000; decide, by show cells + 1 + 0 ≤ 601024; omega, by show slots + 6 + 0 ≤ 7293034; omega⟩ rfl dL_law_1811 (fun v2 H2c locs2c hv2 _ hw2c hS2c _ _ => ?_) (fun E9 ce9 q9 H9 locs9 hv9 _ _ _ _ _ _ _ => by cases hv9)
      cases hv2
      refine lv_iload B.1 B.2.1 dL_law_1814 (lv_at hl 1 rfl) ?_
      refine lv_icmp_eq (tgt := 1821) B.1 B.2.1 dL_law_1816 (by decide) (fun _ => ?_) (fun z9 => absurd eT z9)
      refine lv_iload B.1 B.2.1 dL_law_1821 (lv_at hl 1 rfl) ?_
      refine lv_if_ne (tgt := 1838) B.1 B.2.1 dL_law_1823 (by decide) (fun _ => ?_) (fun z9 => absurd z9 (by decide))
      refine lv_goto (tgt := 1925) B.1 B.2.1 dL_law_1838 (by decide) ?_
      exact kk _ _ _ _ _ _ eS hw2c hS2c (lv_sub hl [2, 3, 4, 5, 6] rfl) (by simp only [mb_mc, mb_ms]; omega) (by simp only [mb_mc, mb_ms]; omega)
    | k9 + 2, ej => simp at ej
set_option maxRecDepth 100000 in
set_option maxHeartbeats 4000000 in
theorem lc_29 (hst : l.stackTraces = false) (B : mb_Lx p l s m #[Value.ref b] c G RL code 7 (mb_A9 s)) (hX : va_X b L xs s s.heap) (hbl : b < s.heap.size) (hS : va_S (mb_A9 s) s.heap H locs) (hw : mb_wd G h H) (hl : lv_has ls 7 [(4, .int x4), (3, .ref (G.2.2 (30, 0, 0))), (2, .ref (G.2.2 (6, 0, 0))), (1, .ref (G.2.2 (0, 0, 0))), (0, .ref b)]) (hc : cells + 1 ≤ 601024) (hs : slots + 6 ≤ 7293034)  (hps : mb_PP (F_X5_clearText  h) (F_X6_clearText) S)
    (kk : ∀ (h3 : mb_AH) (H3 : Heap) (locs3 : List Loc) (ls3 : Array Slot) (cells3 slots3 : Nat), S h3 → mb_wd G h3 H3 → va_S (mb_A9 s) s.heap H3 locs3 → lv_has ls3 7 [(4, .int x4), (3, .ref (G.2.2 (30, 0, 0))), (2, .ref (G.2.2 (6, 0, 0))), (1, .ref (G.2.2 (0, 0, 0))), (0, .ref b)] → cells3 ≤ cells + 1 → slots3 ≤ slots + 6 → W p l e room_1 s m #[Value.ref b] below meth c H3 locs3 cells3 slots3 Q (F0 m 1925 ls3 [])) : W p l e room_1 s m #[Value.ref b] below meth c H locs cells slots Q (F0 m 1841 ls []) := by
  obtain ⟨v, h1, h3, e5, e6, eS⟩ := hps
  refine lv_aload_n B.1 B.2.1 dL_law_1841 rfl (lv_at hl 3 rfl) ?_
  refine mb_xV (as := []) (n := 0) (d2 := 0) (ci := 5) (N := 6) (rest := []) B hS hw hl.1 ⟨⟨by decide, by decide⟩, trivial⟩ (Nat.le_of_ble_eq_true rfl) (C_X5_clearText hst B.2.2.2.2.2.2.2.1 e5) (mb_gV wl_L_205 mi_X5_clearText ms_X5_clearText mn_X5 mc_X5_clearText) (by decide +kernel) rfl rfl rfl ⟨by show 8 + 0 + 1 ≤ 2048; decide, by show _ ≤ 84000; decide, by show cells + 0 ≤ 601024; omega, by show slots + 0 ≤ 7293034; omega⟩ rfl dL_law_1842 (fun v1 H1c locs1c hv1 _ hw1c hS1c _ _ => ?_) (fun E9 ce9 q9 H9 locs9 hv9 _ _ _ _ _ _ _ => by cases hv9)
  cases hv1
  refine lv_aload_n B.1 B.2.1 dL_law_1845 rfl (lv_at hl 2 rfl) ?_
  refine mb_xV (as := []) (n := 0) (d2 := 0) (ci := 6) (N := 16) (rest := [.int v]) B hS1c hw1c hl.1 ⟨⟨by decide, by decide⟩, trivial⟩ (Nat.le_of_ble_eq_true rfl) (C_X6_clearText hst B.2.2.2.2.2.2.2.1 e6) (mb_gV wl_L_208 mi_X6_clearText ms_X6_clearText mn_X6 mc_X6_clearText) (by decide +kernel) rfl rfl rfl ⟨by show 8 + 0 + 1 ≤ 2048; decide, by show _ ≤ 84000; decide, by show cells + 0 ≤ 601024; omega, by show slots + 0 ≤ 7293034; omega⟩ rfl dL_law_1846 (fun v2 H2c locs2c hv2 _ hw2c hS2c _ _ => ?_) (fun E9 ce9 q9 H9 locs9 hv9 _ _ _ _ _ _ _ => by cases hv9)
  cases hv2
  refine lv_icmp_eq (tgt := 1925) B.1 B.2.1 dL_law_1849 (by decide) (fun _ => ?_) (fun z9 => absurd rfl z9)
  exact kk _ _ _ _ _ _ eS hw2c hS2c (lv_sub hl [0, 1, 2, 3, 4] rfl) (by simp only [mb_mc, mb_ms]; omega) (by simp only [mb_mc, mb_ms]; omega)
set_option maxRecDepth 100000 in
set_option maxHeartbeats 4000000 in
theorem lc_30 (hst : l.stackTraces = false) (B : mb_Lx p l s m #[Value.ref b] c G RL code 7 (mb_A9 s)) (hX : va_X b L xs s s.heap) (hbl : b < s.heap.size) (hS : va_S (mb_A9 s) s.heap H locs) (hw : mb_wd G h H) (hl : lv_has ls 7 [(4, .int x4), (3, .ref (G.2.2 (30, 0, 0))), (2, .ref (G.2.2 (6, 0, 0))), (1, .ref (G.2.2 (0, 0, 0))), (0, .ref b)]) (hc : cells + 1 ≤ 601024) (hs : slots + 6 ≤ 7293034)  (hps : mb_PP (F_X5_fault  h) (F_X6_fault) S)
    (kk : ∀ (h3 : mb_AH) (H3 : Heap) (locs3 : List Loc) (ls3 : Array Slot) (cells3 slots3 : Nat), S h3 → mb_wd G h3 H3 → va_S (mb_A9 s) s.heap H3 locs3 → lv_has ls3 7 [(4, .int x4), (3, .ref (G.2.2 (30, 0, 0))), (2, .ref (G.2.2 (6, 0, 0))), (1, .ref (G.2.2 (0, 0, 0))), (0, .ref b)] → cells3 ≤ cells + 1 → slots3 ≤ slots + 6 → W p l e room_1 s m #[Value.ref b] below meth c H3 locs3 cells3 slots3 Q (F0 m 1925 ls3 [])) : W p l e room_1 s m #[Value.ref b] below meth c H locs cells slots Q (F0 m 1854 ls []) := by
  obtain ⟨v, h1, h3, e5, e6, eS⟩ := hps
  refine lv_aload_n B.1 B.2.1 dL_law_1854 rfl (lv_at hl 3 rfl) ?_
  refine mb_xV (as := []) (n := 0) (d2 := 2) (ci := 5) (N := 6) (rest := []) B hS hw hl.1 ⟨⟨by decide, by decide⟩, trivial⟩ (Nat.le_of_ble_eq_true rfl) (C_X5_fault hst B.2.2.2.2.2.2.2.1 e5) (mb_gV wl_L_209 mi_X5_fault ms_X5_fault mn_X5 mc_X5_fault) (by decide +kernel) rfl rfl rfl ⟨by show 8 + 2 + 1 ≤ 2048; decide, by show _ ≤ 84000; decide, by show cells + 0 ≤ 601024; omega, by show slots + 0 ≤ 7293034; omega⟩ rfl dL_law_1855 (fun v1 H1c locs1c hv1 _ hw1c hS1c _ _ => ?_) (fun E9 ce9 q9 H9 locs9 hv9 _ _ _ _ _ _ _ => by cases hv9)
  cases hv1
  refine lv_aload_n B.1 B.2.1 dL_law_1858 rfl (lv_at hl 2 rfl) ?_
  refine mb_xV (as := []) (n := 0) (d2 := 4) (ci := 6) (N := 16) (rest := [.int v]) B hS1c hw1c hl.1 ⟨⟨by decide, by decide⟩, trivial⟩ (Nat.le_of_ble_eq_true rfl) (C_X6_fault hst B.2.2.2.2.2.2.2.1 e6) (mb_gV wl_L_212 mi_X6_fault ms_X6_fault mn_X6 mc_X6_fault) (by decide +kernel) rfl rfl rfl ⟨by show 8 + 4 + 1 ≤ 2048; decide, by show _ ≤ 84000; decide, by show cells + 0 ≤ 601024; omega, by show slots + 0 ≤ 7293034; omega⟩ rfl dL_law_1859 (fun v2 H2c locs2c hv2 _ hw2c hS2c _ _ => ?_) (fun E9 ce9 q9 H9 locs9 hv9 _ _ _ _ _ _ _ => by cases hv9)
  cases hv2
  refine lv_icmp_eq (tgt := 1925) B.1 B.2.1 dL_law_1862 (by decide) (fun _ => ?_) (fun z9 => absurd rfl z9)
  exact kk _ _ _ _ _ _ eS hw2c hS2c (lv_sub hl [0, 1, 2, 3, 4] rfl) (by simp only [mb_mc, mb_ms]; omega) (by simp only [mb_mc, mb_ms]; omega)
set_option maxRecDepth 100000 in
set_option maxHeartbeats 4000000 in
theorem lc_31 (hst : l.stackTraces = false) (B : mb_Lx p l s m #[Value.ref b] c G RL code 7 (mb_A9 s)) (hX : va_X b L xs s s.heap) (hbl : b < s.heap.size) (hS : va_S (mb_A9 s) s.heap H locs) (hw : mb_wd G h H) (hl : lv_has ls 7 [(4, .int x4), (3, .ref (G.2.2 (30, 0, 0))), (2, .ref (G.2.2 (6, 0, 0))), (1, .ref (G.2.2 (0, 0, 0))), (0, .ref b)]) (hc : cells + 1 ≤ 601024) (hs : slots + 6 ≤ 7293034)  (hps : mb_PI ["java/lang/IllegalStateException"] (F_X5_undo h) (F_X6_undo ) S)
    (kk : ∀ (h3 : mb_AH) (H3 : Heap) (locs3 : List Loc) (ls3 : Array Slot) (cells3 slots3 : Nat), S h3 → mb_wd G h3 H3 → va_S (mb_A9 s) s.heap H3 locs3 → lv_has ls3 7 [(4, .int x4), (3, .ref (G.2.2 (30, 0, 0))), (2, .ref (G.2.2 (6, 0, 0))), (1, .ref (G.2.2 (0, 0, 0))), (0, .ref b)] → cells3 ≤ cells + 1 → slots3 ≤ slots + 6 → W p l e room_1 s m #[Value.ref b] below meth c H3 locs3 cells3 slots3 Q (F0 m 1925 ls3 [])) : W p l e room_1 s m #[Value.ref b] below meth c H locs cells slots Q (F0 m 1867 ls []) := by
  rcases hps with ⟨v, h1, h3, e5, e6, eT, eO, eS⟩ | ⟨j, E, h1, b9, h3, ej, e5, e6, eT, eS⟩
  · refine lv_aload_n B.1 B.2.1 dL_law_1867 rfl (lv_at hl 3 rfl) ?_
    refine lv_aload_n B.1 B.2.1 dL_law_1868 rfl (lv_at hl 1 rfl) ?_
    refine mb_xH (as := [mb_F 0 0 0, mb_F 30 0 0]) (n := 2) (mc := 0) (ms := 0) (rest := []) B hS hw hl.1 ⟨⟨by decide, by decide⟩, ⟨by decide, by decide⟩, trivial⟩ (Nat.zero_le _) (H_undo_r hst B.2.2.2.2.2.2.2.1 e5) wl_L_213 mt_L_undo mn_L mw_L_undo (by decide +kernel) rfl ⟨by show 8 + 4 + 1 ≤ 2048; decide, by show _ ≤ 84000; decide, by show cells + 0 ≤ 601024; omega, by show slots + 0 ≤ 7293034; omega⟩ rfl dL_law_1869 (fun H1 locs1 hw1 hS1 _ _ => ?_)
    refine lv_istore (lv' := [(5, .int 0), (4, .int x4), (3, .ref (G.2.2 (30, 0, 0))), (2, .ref (G.2.2 (6, 0, 0))), (1, .ref (G.2.2 (0, 0, 0))), (0, .ref b)]) B.1 B.2.1 dL_law_1872 hl (by decide) rfl (fun ls hl => ?_)
    refine lv_aload_n B.1 B.2.1 dL_law_1874 rfl (lv_at hl 3 rfl) ?_
    refine mb_xV (as := []) (n := 0) (d2 := 1) (ci := 6) (N := 16) (rest := []) B hS1 hw1 hl.1 ⟨⟨by decide, by decide⟩, trivial⟩ (Nat.le_of_ble_eq_true rfl) (C_X6_undo hst B.2.2.2.2.2.2.2.1 e6) (mb_gV wl_L_215 mi_X6_undo ms_X6_undo mn_X6 mc_X6_undo) (by decide +kernel) rfl rfl rfl ⟨by show 8 + 1 + 1 ≤ 2048; decide, by show _ ≤ 84000; decide, by show cells + 0 + 0 ≤ 601024; omega, by show slots + 0 + 0 ≤ 7293034; omega⟩ rfl dL_law_1875 (fun v1 H1c locs1c hv1 _ hw1c hS1c _ _ => ?_) (fun E9 ce9 q9 H9 locs9 hv9 _ _ _ _ _ _ _ => by cases hv9)
    cases hv1
    refine lv_istore (lv' := [(6, .int v), (5, .int 0), (4, .int x4), (3, .ref (G.2.2 (30, 0, 0))), (2, .ref (G.2.2 (6, 0, 0))), (1, .ref (G.2.2 (0, 0, 0))), (0, .ref b)]) B.1 B.2.1 dL_law_1878 hl (by decide) rfl (fun ls hl => ?_)
    refine lv_aload_n B.1 B.2.1 dL_law_1880 rfl (lv_at hl 4 rfl) ?_
    refine mb_xV (as := []) (n := 0) (d2 := 0) (ci := 6) (N := 16) (rest := []) B hS1c hw1c hl.1 ⟨⟨by decide, by decide⟩, trivial⟩ (Nat.le_of_ble_eq_true rfl) (C_X6_thrown hst B.2.2.2.2.2.2.2.1 (show F_X6_thrown _ = some (.inl (some (.inl (h3.1 6 0 0 4))), h3) from rfl)) (mb_gV wl_L_109 mi_X6_thrown ms_X6_thrown mn_X6 mc_X6_thrown) (by decide +kernel) rfl rfl rfl ⟨by show 8 + 0 + 1 ≤ 2048; decide, by show _ ≤ 84000; decide, by show cells + 0 + 0 ≤ 601024; omega, by show slots + 0 + 0 ≤ 7293034; omega⟩ rfl dL_law_1881 (fun v2 H2c locs2c hv2 _ hw2c hS2c _ _ => ?_) (fun E9 ce9 q9 H9 locs9 hv9 _ _ _ _ _ _ _ => by cases hv9)
    cases hv2
    refine lv_iload B.1 B.2.1 dL_law_1884 (lv_at hl 1 rfl) ?_
    refine lv_icmp_eq (tgt := 1891) B.1 B.2.1 dL_law_1886 (by decide) (fun _ => ?_) (fun z9 => absurd eT z9)
    refine lv_iload B.1 B.2.1 dL_law_1891 (lv_at hl 1 rfl) ?_
    refine lv_if_ne (tgt := 1908) B.1 B.2.1 dL_law_1893 (by decide) (fun z9 => absurd rfl z9) (fun _ => ?_)
    refine lv_aload_n B.1 B.2.1 dL_law_1896 rfl (lv_at hl 3 rfl) ?_
    refine lv_iconst (v := 0) B.1 B.2.1 dL_law_1897 (by decide) ?_
    refine mb_outld B hw2c dL_law_1898 ?_
    refine lv_iload B.1 B.2.1 dL_law_1899 (lv_at hl 0 rfl) ?_
    refine lv_i2l B.1 B.2.1 dL_law_1901 rfl ?_
    refine W.lcmp B.1 B.2.1 dL_law_1902 ?_
    refine lv_if_eq (tgt := 1908) B.1 B.2.1 dL_law_1903 (by decide) (fun _ => ?_) (fun z9 => absurd (by rw [eO]; exact mb_lc0 _) z9)
    refine lv_goto (tgt := 1925) B.1 B.2.1 dL_law_1908 (by decide) ?_
    exact kk _ _ _ _ _ _ eS hw2c hS2c (lv_sub hl [2, 3, 4, 5, 6] rfl) (by simp only [mb_mc, mb_ms]; omega) (by simp only [mb_mc, mb_ms]; omega)
  · match j, ej with
    | 0, ej =>
      cases ej
      refine lv_aload_n B.1 B.2.1 dL_law_1867 rfl (lv_at hl 3 rfl) ?_
      refine lv_aload_n B.1 B.2.1 dL_law_1868 rfl (lv_at hl 1 rfl) ?_
      refine mb_xH (as := [mb_F 0 0 0, mb_F 30 0 0]) (n := 2) (mc := 1) (ms := 6) (rest := []) B hS hw hl.1 ⟨⟨by decide, by decide⟩, ⟨by decide, by decide⟩, trivial⟩ (Nat.zero_le _) (H_undo_t1 hst B.2.2.2.2.2.2.2.1 e5) wl_L_213 mt_L_undo mn_L mw_L_undo (by decide +kernel) rfl ⟨by show 8 + 4 + 1 ≤ 2048; decide, by show _ ≤ 84000; decide, by show cells + 1 ≤ 601024; omega, by show slots + 6 ≤ 7293034; omega⟩ rfl dL_law_1869 (fun H1 locs1 hw1 hS1 _ _ => ?_)
      refine lv_istore (lv' := [(5, .int 1), (4, .int x4), (3, .ref (G.2.2 (30, 0, 0))), (2, .ref (G.2.2 (6, 0, 0))), (1, .ref (G.2.2 (0, 0, 0))), (0, .ref b)]) B.1 B.2.1 dL_law_1872 hl (by decide) rfl (fun ls hl => ?_)
      refine lv_aload_n B.1 B.2.1 dL_law_1874 rfl (lv_at hl 3 rfl) ?_
      refine mb_xV (as := []) (n := 0) (d2 := 1) (ci := 6) (N := 16) (rest := []) B hS1 hw1 hl.1 ⟨⟨by decide, by decide⟩, trivial⟩ (Nat.le_of_ble_eq_true rfl) (C_X6_undo hst B.2.2.2.2.2.2.2.1 e6) (mb_gV wl_L_215 mi_X6_undo ms_X6_undo mn_X6 mc_X6_undo) (by decide +kernel) rfl rfl rfl ⟨by show 8 + 1 + 1 ≤ 2048; decide, by show _ ≤ 84000; decide, by show cells + 1 + 0 ≤ 601024; omega, by show slots + 6 + 0 ≤ 7293034; omega⟩ rfl dL_law_1875 (fun v1 H1c locs1c hv1 _ hw1c hS1c _ _ => ?_) (fun E9 ce9 q9 H9 locs9 hv9 _ _ _ _ _ _ _ => by cases hv9)
      cases hv1
      refine lv_istore (lv' := [(6, .int b9), (5, .int 1), (4, .int x4), (3, .ref (G.2.2 (30, 0, 0))), (2, .ref (G.2.2 (6, 0, 0))), (1, .ref (G.2.2 (0, 0, 0))), (0, .ref b)]) B.1 B.2.1 dL_law_1878 hl (by decide) rfl (fun ls hl => ?_)
      refine lv_aload_n B.1 B.2.1 dL_law_1880 rfl (lv_at hl 4 rfl) ?_
      refine mb_xV (as := []) (n := 0) (d2 := 0) (ci := 6) (N := 16) (rest := []) B hS1c hw1c hl.1 ⟨⟨by decide, by decide⟩, trivial⟩ (Nat.le_of_ble_eq_true rfl) (C_X6_thrown hst B.2.2.2.2.2.2.2.1 (show F_X6_thrown _ = some (.inl (some (.inl (h3.1 6 0 0 4))), h3) from rfl)) (mb_gV wl_L_109 mi_X6_thrown ms_X6_thrown mn_X6 mc_X6_thrown) (by decide +kernel) rfl rfl rfl ⟨by show 8 + 0 + 1 ≤ 2048; decide, by show _ ≤ 84000; decide, by show cells + 1 + 0 ≤ 601024; omega, by show slots + 6 + 0 ≤ 7293034; omega⟩ rfl dL_law_1881 (fun v2 H2c locs2c hv2 _ hw2c hS2c _ _ => ?_) (fun E9 ce9 q9 H9 locs9 hv9 _ _ _ _ _ _ _ => by cases hv9)
      cases hv2
      refine lv_iload B.1 B.2.1 dL_law_1884 (lv_at hl 1 rfl) ?_
      refine lv_icmp_eq (tgt := 1891) B.1 B.2.1 dL_law_1886 (by decide) (fun _ => ?_) (fun z9 => absurd eT z9)
      refine lv_iload B.1 B.2.1 dL_law_1891 (lv_at hl 1 rfl) ?_
      refine lv_if_ne (tgt := 1908) B.1 B.2.1 dL_law_1893 (by decide) (fun _ => ?_) (fun z9 => absurd z9 (by decide))
      refine lv_goto (tgt := 1925) B.1 B.2.1 dL_law_1908 (by decide) ?_
      exact kk _ _ _ _ _ _ eS hw2c hS2c (lv_sub hl [2, 3, 4, 5, 6] rfl) (by simp only [mb_mc, mb_ms]; omega) (by simp only [mb_mc, mb_ms]; omega)
    | k9 + 1, ej => simp at ej
set_option maxRecDepth 100000 in
set_option maxHeartbeats 4000000 in
theorem lc_32 (hst : l.stackTraces = false) (B : mb_Lx p l s m #[Value.ref b] c G RL code 7 (mb_A9 s)) (hX : va_X b L xs s s.heap) (hbl : b < s.heap.size) (hS : va_S (mb_A9 s) s.heap H locs) (hw : mb_wd G h H) (hl : lv_has ls 7 [(4, .int x4), (3, .ref (G.2.2 (30, 0, 0))), (2, .ref (G.2.2 (6, 0, 0))), (1, .ref (G.2.2 (0, 0, 0))), (0, .ref b)]) (hc : cells + 1 ≤ 601024) (hs : slots + 6 ≤ 7293034)  (hps : mb_PL (F_X5_checksum  h) (F_X6_checksum) S)
    (kk : ∀ (h3 : mb_AH) (H3 : Heap) (locs3 : List Loc) (ls3 : Array Slot) (cells3 slots3 : Nat), S h3 → mb_wd G h3 H3 → va_S (mb_A9 s) s.heap H3 locs3 → lv_has ls3 7 [(4, .int x4), (3, .ref (G.2.2 (30, 0, 0))), (2, .ref (G.2.2 (6, 0, 0))), (1, .ref (G.2.2 (0, 0, 0))), (0, .ref b)] → cells3 ≤ cells + 1 → slots3 ≤ slots + 6 → W p l e room_1 s m #[Value.ref b] below meth c H3 locs3 cells3 slots3 Q (F0 m 1925 ls3 [])) : W p l e room_1 s m #[Value.ref b] below meth c H locs cells slots Q (F0 m 1911 ls []) := by
  obtain ⟨v, h1, h3, e5, e6, eS⟩ := hps
  refine lv_aload_n B.1 B.2.1 dL_law_1911 rfl (lv_at hl 3 rfl) ?_
  refine mb_xV (as := []) (n := 0) (d2 := 5) (ci := 5) (N := 6) (rest := []) B hS hw hl.1 ⟨⟨by decide, by decide⟩, trivial⟩ (Nat.le_of_ble_eq_true rfl) (C_X5_checksum hst B.2.2.2.2.2.2.2.1 e5) (mb_gV wl_L_216 mi_X5_checksum ms_X5_checksum mn_X5 mc_X5_checksum) (by decide +kernel) rfl rfl rfl ⟨by show 8 + 5 + 1 ≤ 2048; decide, by show _ ≤ 84000; decide, by show cells + 0 ≤ 601024; omega, by show slots + 0 ≤ 7293034; omega⟩ rfl dL_law_1912 (fun v1 H1c locs1c hv1 _ hw1c hS1c _ _ => ?_) (fun E9 ce9 q9 H9 locs9 hv9 _ _ _ _ _ _ _ => by cases hv9)
  cases hv1
  refine lv_aload_n B.1 B.2.1 dL_law_1915 rfl (lv_at hl 2 rfl) ?_
  refine mb_xV (as := []) (n := 0) (d2 := 4) (ci := 6) (N := 16) (rest := [.long v]) B hS1c hw1c hl.1 ⟨⟨by decide, by decide⟩, trivial⟩ (Nat.le_of_ble_eq_true rfl) (C_X6_checksum hst B.2.2.2.2.2.2.2.1 e6) (mb_gV wl_L_219 mi_X6_checksum ms_X6_checksum mn_X6 mc_X6_checksum) (by decide +kernel) rfl rfl rfl ⟨by show 8 + 4 + 1 ≤ 2048; decide, by show _ ≤ 84000; decide, by show cells + 0 ≤ 601024; omega, by show slots + 0 ≤ 7293034; omega⟩ rfl dL_law_1916 (fun v2 H2c locs2c hv2 _ hw2c hS2c _ _ => ?_) (fun E9 ce9 q9 H9 locs9 hv9 _ _ _ _ _ _ _ => by cases hv9)
  cases hv2
  refine W.lcmp B.1 B.2.1 dL_law_1919 ?_
  refine lv_if_eq (tgt := 1925) B.1 B.2.1 dL_law_1920 (by decide) (fun _ => ?_) (fun z9 => absurd (mb_lc0 _) z9)
  exact kk _ _ _ _ _ _ eS hw2c hS2c (lv_sub hl [0, 1, 2, 3, 4] rfl) (by simp only [mb_mc, mb_ms]; omega) (by simp only [mb_mc, mb_ms]; omega)
end MBL

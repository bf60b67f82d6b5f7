/-! WHERE THE WORDS STAND (written by wip/whole/gen_hints.py) -/
def fli (c idx : Nat) : Nat :=
  (bif Nat.ble 4 c then
   (bif Nat.ble 6 c then
    (bif Nat.ble 7 c then (bif Nat.ble 8 c then (bif Nat.beq c 8 then (bif Nat.ble 57 idx then (bif Nat.ble 78 idx then (bif Nat.ble 93 idx then (bif Nat.ble 144 idx then (bif Nat.ble 173 idx then (bif Nat.beq idx 173 then 814 else 0) else (bif Nat.beq idx 144 then 817 else 0)) else (bif Nat.ble 138 idx then (bif Nat.beq idx 138 then 804 else 0) else (bif Nat.beq idx 93 then 798 else 0))) else (bif Nat.ble 84 idx then (bif Nat.ble 90 idx then (bif Nat.beq idx 90 then 794 else 0) else (bif Nat.beq idx 84 then 820 else 0)) else (bif Nat.ble 81 idx then (bif Nat.beq idx 81 then 819 else 0) else (bif Nat.beq idx 78 then 818 else 0)))) else (bif Nat.ble 66 idx then (bif Nat.ble 72 idx then (bif Nat.ble 75 idx then (bif Nat.beq idx 75 then 816 else 0) else (bif Nat.beq idx 72 then 815 else 0)) else (bif Nat.ble 69 idx then (bif Nat.beq idx 69 then 813 else 0) else (bif Nat.beq idx 66 then 812 else 0))) else (bif Nat.ble 60 idx then (bif Nat.ble 63 idx then (bif Nat.beq idx 63 then 811 else 0) else (bif Nat.beq idx 60 then 810 else 0)) else (bif Nat.beq idx 57 then 809 else 0)))) else (bif Nat.ble 33 idx then (bif Nat.ble 45 idx then (bif Nat.ble 51 idx then (bif Nat.ble 54 idx then (bif Nat.beq idx 54 then 808 else 0) else (bif Nat.beq idx 51 then 807 else 0)) else (bif Nat.ble 48 idx then (bif Nat.beq idx 48 then 806 else 0) else (bif Nat.beq idx 45 then 805 else 0))) else (bif Nat.ble 39 idx then (bif Nat.ble 42 idx then (bif Nat.beq idx 42 then 803 else 0) else (bif Nat.beq idx 39 then 802 else 0)) else (bif Nat.ble 36 idx then (bif Nat.beq idx 36 then 801 else 0) else (bif Nat.beq idx 33 then 800 else 0)))) else (bif Nat.ble 19 idx then (bif Nat.ble 27 idx then (bif Nat.ble 30 idx then (bif Nat.beq idx 30 then 799 else 0) else (bif Nat.beq idx 27 then 797 else 0)) else (bif Nat.ble 23 idx then (bif Nat.beq idx 23 then 796 else 0) else (bif Nat.beq idx 19 then 795 else 0))) else (bif Nat.ble 13 idx then (bif Nat.ble 16 idx then (bif Nat.beq idx 16 then 793 else 0) else (bif Nat.beq idx 13 then 792 else 0)) else (bif Nat.beq idx 3 then 791 else 0))))) else 0) else (bif Nat.beq c 7 then (bif Nat.ble 149 idx then (bif Nat.ble 205 idx then (bif Nat.ble 221 idx then (bif Nat.ble 227 idx then (bif Nat.ble 230 idx then (bif Nat.beq idx 230 then 147 else 0) else (bif Nat.beq idx 227 then 145 else 0)) else (bif Nat.beq idx 221 then 143 else 0)) else (bif Nat.ble 215 idx then (bif Nat.ble 218 idx then (bif Nat.beq idx 218 then 140 else 0) else (bif Nat.beq idx 215 then 138 else 0)) else (bif Nat.beq idx 205 then 136 else 0))) else (bif Nat.ble 161 idx then (bif Nat.ble 167 idx then (bif Nat.ble 189 idx then (bif Nat.beq idx 189 then 287 else 0) else (bif Nat.beq idx 167 then 253 else 0)) else (bif Nat.beq idx 161 then 209 else 0)) else (bif Nat.ble 153 idx then (bif Nat.ble 158 idx then (bif Nat.beq idx 158 then 80 else 0) else (bif Nat.beq idx 153 then 150 else 0)) else (bif Nat.beq idx 149 then 181 else 0)))) else (bif Nat.ble 57 idx then (bif Nat.ble 114 idx then (bif Nat.ble 131 idx then (bif Nat.ble 143 idx then (bif Nat.beq idx 143 then 187 else 0) else (bif Nat.beq idx 131 then 223 else 0)) else (bif Nat.beq idx 114 then 185 else 0)) else (bif Nat.ble 61 idx then (bif Nat.ble 88 idx then (bif Nat.beq idx 88 then 82 else 0) else (bif Nat.beq idx 61 then 320 else 0)) else (bif Nat.beq idx 57 then 319 else 0))) else (bif Nat.ble 37 idx then (bif Nat.ble 44 idx then (bif Nat.ble 53 idx then (bif Nat.beq idx 53 then 318 else 0) else (bif Nat.beq idx 44 then 317 else 0)) else (bif Nat.beq idx 37 then 316 else 0)) else (bif Nat.ble 21 idx then (bif Nat.ble 30 idx then (bif Nat.beq idx 30 then 315 else 0) else (bif Nat.beq idx 21 then 314 else 0)) else (bif Nat.beq idx 12 then 313 else 0))))) else 0)) else (bif Nat.beq c 6 then (bif Nat.ble 35 idx then (bif Nat.ble 79 idx then (bif Nat.ble 93 idx then (bif Nat.ble 99 idx then (bif Nat.beq idx 99 then 156 else 0) else (bif Nat.beq idx 93 then 110 else 0)) else (bif Nat.beq idx 79 then 146 else 0)) else (bif Nat.ble 54 idx then (bif Nat.ble 76 idx then (bif Nat.beq idx 76 then 144 else 0) else (bif Nat.beq idx 54 then 152 else 0)) else (bif Nat.beq idx 35 then 84 else 0))) else (bif Nat.ble 23 idx then (bif Nat.ble 29 idx then (bif Nat.ble 32 idx then (bif Nat.beq idx 32 then 141 else 0) else (bif Nat.beq idx 29 then 139 else 0)) else (bif Nat.beq idx 23 then 137 else 0)) else (bif Nat.ble 15 idx then (bif Nat.ble 19 idx then (bif Nat.beq idx 19 then 107 else 0) else (bif Nat.beq idx 15 then 109 else 0)) else (bif Nat.beq idx 9 then 108 else 0)))) else 0))
   else
    (bif Nat.ble 5 c then (bif Nat.beq c 5 then (bif Nat.ble 106 idx then (bif Nat.ble 140 idx then (bif Nat.ble 150 idx then (bif Nat.ble 156 idx then (bif Nat.ble 162 idx then (bif Nat.beq idx 162 then 219 else 0) else (bif Nat.beq idx 156 then 215 else 0)) else (bif Nat.ble 153 idx then (bif Nat.beq idx 153 then 211 else 0) else (bif Nat.beq idx 150 then 217 else 0))) else (bif Nat.ble 143 idx then (bif Nat.ble 147 idx then (bif Nat.beq idx 147 then 213 else 0) else (bif Nat.beq idx 143 then 224 else 0)) else (bif Nat.beq idx 140 then 157 else 0))) else (bif Nat.ble 124 idx then (bif Nat.ble 134 idx then (bif Nat.ble 137 idx then (bif Nat.beq idx 137 then 154 else 0) else (bif Nat.beq idx 134 then 86 else 0)) else (bif Nat.ble 127 idx then (bif Nat.beq idx 127 then 260 else 0) else (bif Nat.beq idx 124 then 256 else 0))) else (bif Nat.ble 109 idx then (bif Nat.ble 121 idx then (bif Nat.beq idx 121 then 258 else 0) else (bif Nat.beq idx 109 then 226 else 0)) else (bif Nat.beq idx 106 then 221 else 0)))) else (bif Nat.ble 55 idx then (bif Nat.ble 87 idx then (bif Nat.ble 96 idx then (bif Nat.ble 101 idx then (bif Nat.beq idx 101 then 208 else 0) else (bif Nat.beq idx 96 then 135 else 0)) else (bif Nat.ble 92 idx then (bif Nat.beq idx 92 then 180 else 0) else (bif Nat.beq idx 87 then 184 else 0))) else (bif Nat.ble 59 idx then (bif Nat.ble 62 idx then (bif Nat.beq idx 62 then 291 else 0) else (bif Nat.beq idx 59 then 290 else 0)) else (bif Nat.beq idx 55 then 289 else 0))) else (bif Nat.ble 21 idx then (bif Nat.ble 29 idx then (bif Nat.ble 33 idx then (bif Nat.beq idx 33 then 284 else 0) else (bif Nat.beq idx 29 then 283 else 0)) else (bif Nat.ble 25 idx then (bif Nat.beq idx 25 then 282 else 0) else (bif Nat.beq idx 21 then 281 else 0))) else (bif Nat.ble 15 idx then (bif Nat.ble 18 idx then (bif Nat.beq idx 18 then 288 else 0) else (bif Nat.beq idx 15 then 286 else 0)) else (bif Nat.beq idx 9 then 285 else 0))))) else 0) else (bif Nat.beq c 4 then (bif Nat.ble 15 idx then (bif Nat.ble 19 idx then (bif Nat.beq idx 19 then 155 else 0) else (bif Nat.beq idx 15 then 151 else 0)) else (bif Nat.beq idx 9 then 148 else 0)) else 0)))
  else
   (bif Nat.ble 2 c then (bif Nat.ble 3 c then (bif Nat.beq c 3 then (bif Nat.ble 18 idx then (bif Nat.ble 21 idx then (bif Nat.ble 24 idx then (bif Nat.beq idx 24 then 252 else 0) else (bif Nat.beq idx 21 then 259 else 0)) else (bif Nat.beq idx 18 then 257 else 0)) else (bif Nat.ble 15 idx then (bif Nat.beq idx 15 then 255 else 0) else (bif Nat.beq idx 9 then 254 else 0))) else 0) else (bif Nat.beq c 2 then (bif Nat.ble 18 idx then (bif Nat.ble 21 idx then (bif Nat.ble 25 idx then (bif Nat.beq idx 25 then 88 else 0) else (bif Nat.beq idx 21 then 87 else 0)) else (bif Nat.beq idx 18 then 83 else 0)) else (bif Nat.ble 15 idx then (bif Nat.beq idx 15 then 81 else 0) else (bif Nat.beq idx 9 then 78 else 0))) else 0)) else (bif Nat.ble 1 c then (bif Nat.beq c 1 then (bif Nat.ble 24 idx then (bif Nat.ble 30 idx then (bif Nat.ble 34 idx then (bif Nat.ble 37 idx then (bif Nat.beq idx 37 then 207 else 0) else (bif Nat.beq idx 34 then 225 else 0)) else (bif Nat.beq idx 30 then 222 else 0)) else (bif Nat.ble 27 idx then (bif Nat.beq idx 27 then 220 else 0) else (bif Nat.beq idx 24 then 218 else 0))) else (bif Nat.ble 18 idx then (bif Nat.ble 21 idx then (bif Nat.beq idx 21 then 216 else 0) else (bif Nat.beq idx 18 then 214 else 0)) else (bif Nat.ble 15 idx then (bif Nat.beq idx 15 then 212 else 0) else (bif Nat.beq idx 9 then 210 else 0)))) else 0) else (bif Nat.beq c 0 then (bif Nat.ble 37 idx then (bif Nat.ble 52 idx then (bif Nat.ble 59 idx then (bif Nat.ble 76 idx then (bif Nat.beq idx 76 then 142 else 0) else (bif Nat.beq idx 59 then 153 else 0)) else (bif Nat.beq idx 52 then 85 else 0)) else (bif Nat.ble 40 idx then (bif Nat.ble 49 idx then (bif Nat.beq idx 49 then 149 else 0) else (bif Nat.beq idx 40 then 79 else 0)) else (bif Nat.beq idx 37 then 134 else 0))) else (bif Nat.ble 25 idx then (bif Nat.ble 29 idx then (bif Nat.ble 34 idx then (bif Nat.beq idx 34 then 183 else 0) else (bif Nat.beq idx 29 then 178 else 0)) else (bif Nat.beq idx 25 then 177 else 0)) else (bif Nat.ble 17 idx then (bif Nat.ble 21 idx then (bif Nat.beq idx 21 then 186 else 0) else (bif Nat.beq idx 17 then 182 else 0)) else (bif Nat.beq idx 11 then 179 else 0)))) else 0))))
def mti (c idx : Nat) : Nat × Nat × Nat :=
  (bif Nat.ble 5 c then
   (bif Nat.ble 7 c then (bif Nat.ble 8 c then (bif Nat.beq c 8 then (bif Nat.ble 179 idx then (bif Nat.ble 211 idx then (bif Nat.ble 229 idx then (bif Nat.ble 235 idx then (bif Nat.ble 238 idx then (bif Nat.ble 241 idx then (bif Nat.beq idx 241 then (1105, 1107, 46) else (0, 0, 0)) else (bif Nat.beq idx 238 then (1097, 1099, 45) else (0, 0, 0))) else (bif Nat.beq idx 235 then (1089, 1091, 44) else (0, 0, 0))) else (bif Nat.ble 232 idx then (bif Nat.beq idx 232 then (1085, 1087, 43) else (0, 0, 0)) else (bif Nat.beq idx 229 then (1081, 1083, 42) else (0, 0, 0)))) else (bif Nat.ble 218 idx then (bif Nat.ble 221 idx then (bif Nat.ble 224 idx then (bif Nat.beq idx 224 then (1060, 1062, 41) else (0, 0, 0)) else (bif Nat.beq idx 221 then (1052, 1054, 40) else (0, 0, 0))) else (bif Nat.beq idx 218 then (1048, 1050, 39) else (0, 0, 0))) else (bif Nat.ble 215 idx then (bif Nat.beq idx 215 then (976, 978, 24) else (0, 0, 0)) else (bif Nat.beq idx 211 then (984, 986, 26) else (0, 0, 0))))) else (bif Nat.ble 195 idx then (bif Nat.ble 201 idx then (bif Nat.ble 205 idx then (bif Nat.ble 208 idx then (bif Nat.beq idx 208 then (980, 982, 25) else (0, 0, 0)) else (bif Nat.beq idx 205 then (1040, 1042, 38) else (0, 0, 0))) else (bif Nat.beq idx 201 then (992, 994, 28) else (0, 0, 0))) else (bif Nat.ble 198 idx then (bif Nat.beq idx 198 then (988, 990, 27) else (0, 0, 0)) else (bif Nat.beq idx 195 then (1032, 1034, 36) else (0, 0, 0)))) else (bif Nat.ble 186 idx then (bif Nat.ble 189 idx then (bif Nat.ble 192 idx then (bif Nat.beq idx 192 then (1028, 1030, 35) else (0, 0, 0)) else (bif Nat.beq idx 189 then (1021, 1023, 34) else (0, 0, 0))) else (bif Nat.beq idx 186 then (1008, 1010, 32) else (0, 0, 0))) else (bif Nat.ble 183 idx then (bif Nat.beq idx 183 then (1004, 1006, 31) else (0, 0, 0)) else (bif Nat.beq idx 179 then (996, 998, 29) else (0, 0, 0)))))) else (bif Nat.ble 141 idx then (bif Nat.ble 160 idx then (bif Nat.ble 166 idx then (bif Nat.ble 170 idx then (bif Nat.ble 176 idx then (bif Nat.beq idx 176 then (1036, 1038, 37) else (0, 0, 0)) else (bif Nat.beq idx 170 then (1025, 1026, 0) else (0, 0, 0))) else (bif Nat.beq idx 166 then (1012, 1014, 33) else (0, 0, 0))) else (bif Nat.ble 163 idx then (bif Nat.beq idx 163 then (1016, 1017, 0) else (0, 0, 0)) else (bif Nat.beq idx 160 then (1020, 430, 431) else (0, 0, 0)))) else (bif Nat.ble 151 idx then (bif Nat.ble 154 idx then (bif Nat.ble 157 idx then (bif Nat.beq idx 157 then (1019, 427, 428) else (0, 0, 0)) else (bif Nat.beq idx 154 then (1000, 1002, 30) else (0, 0, 0))) else (bif Nat.beq idx 151 then (968, 970, 23) else (0, 0, 0))) else (bif Nat.ble 147 idx then (bif Nat.beq idx 147 then (964, 966, 22) else (0, 0, 0)) else (bif Nat.beq idx 141 then (952, 954, 21) else (0, 0, 0))))) else (bif Nat.ble 113 idx then (bif Nat.ble 122 idx then (bif Nat.ble 126 idx then (bif Nat.ble 134 idx then (bif Nat.beq idx 134 then (929, 930, 0) else (0, 0, 0)) else (bif Nat.beq idx 126 then (919, 921, 19) else (0, 0, 0))) else (bif Nat.beq idx 122 then (923, 925, 20) else (0, 0, 0))) else (bif Nat.ble 118 idx then (bif Nat.beq idx 118 then (911, 912, 0) else (0, 0, 0)) else (bif Nat.beq idx 113 then (906, 383, 384) else (0, 0, 0)))) else (bif Nat.ble 104 idx then (bif Nat.ble 108 idx then (bif Nat.beq idx 108 then (894, 896, 18) else (0, 0, 0)) else (bif Nat.beq idx 104 then (898, 899, 0) else (0, 0, 0))) else (bif Nat.ble 96 idx then (bif Nat.beq idx 96 then (887, 888, 0) else (0, 0, 0)) else (bif Nat.beq idx 87 then (787, 789, 17) else (0, 0, 0))))))) else (0, 0, 0)) else (bif Nat.beq c 7 then (bif Nat.ble 140 idx then (bif Nat.ble 196 idx then (bif Nat.ble 224 idx then (bif Nat.ble 243 idx then (bif Nat.ble 246 idx then (bif Nat.ble 249 idx then (bif Nat.beq idx 249 then (682, 683, 684) else (0, 0, 0)) else (bif Nat.beq idx 246 then (681, 670, 671) else (0, 0, 0))) else (bif Nat.beq idx 243 then (764, 765, 766) else (0, 0, 0))) else (bif Nat.ble 233 idx then (bif Nat.beq idx 233 then (660, 661, 662) else (0, 0, 0)) else (bif Nat.beq idx 224 then (659, 599, 600) else (0, 0, 0)))) else (bif Nat.ble 202 idx then (bif Nat.ble 208 idx then (bif Nat.ble 211 idx then (bif Nat.beq idx 211 then (650, 651, 652) else (0, 0, 0)) else (bif Nat.beq idx 208 then (642, 644, 13) else (0, 0, 0))) else (bif Nat.beq idx 202 then (623, 578, 579) else (0, 0, 0))) else (bif Nat.ble 199 idx then (bif Nat.beq idx 199 then (619, 620, 621) else (0, 0, 0)) else (bif Nat.beq idx 196 then (628, 629, 630) else (0, 0, 0))))) else (bif Nat.ble 176 idx then (bif Nat.ble 183 idx then (bif Nat.ble 186 idx then (bif Nat.ble 192 idx then (bif Nat.beq idx 192 then (615, 616, 617) else (0, 0, 0)) else (bif Nat.beq idx 186 then (570, 571, 572) else (0, 0, 0))) else (bif Nat.beq idx 183 then (565, 404, 405) else (0, 0, 0))) else (bif Nat.ble 180 idx then (bif Nat.beq idx 180 then (564, 375, 376) else (0, 0, 0)) else (bif Nat.beq idx 176 then (560, 561, 562) else (0, 0, 0)))) else (bif Nat.ble 164 idx then (bif Nat.ble 170 idx then (bif Nat.ble 173 idx then (bif Nat.beq idx 173 then (556, 557, 558) else (0, 0, 0)) else (bif Nat.beq idx 170 then (555, 484, 485) else (0, 0, 0))) else (bif Nat.beq idx 164 then (547, 548, 549) else (0, 0, 0))) else (bif Nat.ble 146 idx then (bif Nat.beq idx 146 then (539, 540, 541) else (0, 0, 0)) else (bif Nat.beq idx 140 then (527, 528, 529) else (0, 0, 0)))))) else (bif Nat.ble 103 idx then (bif Nat.ble 124 idx then (bif Nat.ble 128 idx then (bif Nat.ble 135 idx then (bif Nat.ble 139 idx then (bif Nat.beq idx 139 then (523, 524, 525) else (0, 0, 0)) else (bif Nat.beq idx 135 then (392, 393, 0) else (0, 0, 0))) else (bif Nat.beq idx 128 then (515, 516, 517) else (0, 0, 0))) else (bif Nat.ble 125 idx then (bif Nat.beq idx 125 then (507, 508, 509) else (0, 0, 0)) else (bif Nat.beq idx 124 then (503, 504, 505) else (0, 0, 0)))) else (bif Nat.ble 111 idx then (bif Nat.ble 117 idx then (bif Nat.ble 121 idx then (bif Nat.beq idx 121 then (491, 492, 0) else (0, 0, 0)) else (bif Nat.beq idx 117 then (494, 495, 496) else (0, 0, 0))) else (bif Nat.beq idx 111 then (488, 489, 0) else (0, 0, 0))) else (bif Nat.ble 107 idx then (bif Nat.beq idx 107 then (479, 480, 481) else (0, 0, 0)) else (bif Nat.beq idx 103 then (399, 400, 401) else (0, 0, 0))))) else (bif Nat.ble 80 idx then (bif Nat.ble 91 idx then (bif Nat.ble 96 idx then (bif Nat.ble 99 idx then (bif Nat.beq idx 99 then (395, 396, 397) else (0, 0, 0)) else (bif Nat.beq idx 96 then (389, 390, 0) else (0, 0, 0))) else (bif Nat.beq idx 91 then (382, 383, 384) else (0, 0, 0))) else (bif Nat.ble 84 idx then (bif Nat.beq idx 84 then (370, 371, 372) else (0, 0, 0)) else (bif Nat.beq idx 80 then (366, 367, 368) else (0, 0, 0)))) else (bif Nat.ble 72 idx then (bif Nat.ble 73 idx then (bif Nat.ble 76 idx then (bif Nat.beq idx 76 then (362, 363, 364) else (0, 0, 0)) else (bif Nat.beq idx 73 then (354, 355, 356) else (0, 0, 0))) else (bif Nat.beq idx 72 then (350, 351, 352) else (0, 0, 0))) else (bif Nat.ble 69 idx then (bif Nat.beq idx 69 then (346, 347, 348) else (0, 0, 0)) else (bif Nat.beq idx 65 then (342, 343, 344) else (0, 0, 0))))))) else (0, 0, 0))) else (bif Nat.ble 6 c then (bif Nat.beq c 6 then (bif Nat.ble 70 idx then (bif Nat.ble 90 idx then (bif Nat.ble 102 idx then (bif Nat.ble 106 idx then (bif Nat.beq idx 106 then (467, 468, 469) else (0, 0, 0)) else (bif Nat.beq idx 102 then (463, 465, 5) else (0, 0, 0))) else (bif Nat.ble 96 idx then (bif Nat.beq idx 96 then (451, 452, 453) else (0, 0, 0)) else (bif Nat.beq idx 90 then (471, 473, 6) else (0, 0, 0)))) else (bif Nat.ble 82 idx then (bif Nat.ble 86 idx then (bif Nat.beq idx 86 then (459, 461, 4) else (0, 0, 0)) else (bif Nat.beq idx 82 then (455, 457, 3) else (0, 0, 0))) else (bif Nat.ble 73 idx then (bif Nat.beq idx 73 then (438, 439, 440) else (0, 0, 0)) else (bif Nat.beq idx 70 then (432, 383, 384) else (0, 0, 0))))) else (bif Nat.ble 57 idx then (bif Nat.ble 63 idx then (bif Nat.ble 67 idx then (bif Nat.beq idx 67 then (422, 423, 424) else (0, 0, 0)) else (bif Nat.beq idx 63 then (447, 449, 2) else (0, 0, 0))) else (bif Nat.ble 60 idx then (bif Nat.beq idx 60 then (654, 404, 405) else (0, 0, 0)) else (bif Nat.beq idx 57 then (434, 436, 1) else (0, 0, 0)))) else (bif Nat.ble 44 idx then (bif Nat.ble 48 idx then (bif Nat.beq idx 48 then (433, 430, 431) else (0, 0, 0)) else (bif Nat.beq idx 44 then (418, 420, 0) else (0, 0, 0))) else (bif Nat.beq idx 40 then (414, 415, 416) else (0, 0, 0))))) else (0, 0, 0)) else (bif Nat.beq c 5 then (bif Nat.ble 118 idx then (bif Nat.ble 172 idx then (bif Nat.ble 180 idx then (bif Nat.ble 183 idx then (bif Nat.ble 186 idx then (bif Nat.beq idx 186 then (768, 620, 621) else (0, 0, 0)) else (bif Nat.beq idx 183 then (673, 675, 15) else (0, 0, 0))) else (bif Nat.beq idx 180 then (669, 670, 671) else (0, 0, 0))) else (bif Nat.ble 176 idx then (bif Nat.beq idx 176 then (664, 666, 14) else (0, 0, 0)) else (bif Nat.beq idx 172 then (668, 571, 572) else (0, 0, 0)))) else (bif Nat.ble 159 idx then (bif Nat.ble 165 idx then (bif Nat.ble 169 idx then (bif Nat.beq idx 169 then (636, 452, 453) else (0, 0, 0)) else (bif Nat.beq idx 165 then (632, 634, 12) else (0, 0, 0))) else (bif Nat.beq idx 159 then (610, 404, 405) else (0, 0, 0))) else (bif Nat.ble 130 idx then (bif Nat.beq idx 130 then (602, 604, 10) else (0, 0, 0)) else (bif Nat.beq idx 118 then (598, 599, 600) else (0, 0, 0))))) else (bif Nat.ble 73 idx then (bif Nat.ble 81 idx then (bif Nat.ble 84 idx then (bif Nat.ble 112 idx then (bif Nat.beq idx 112 then (594, 595, 596) else (0, 0, 0)) else (bif Nat.beq idx 84 then (606, 608, 11) else (0, 0, 0))) else (bif Nat.beq idx 81 then (590, 592, 9) else (0, 0, 0))) else (bif Nat.ble 76 idx then (bif Nat.beq idx 76 then (589, 383, 384) else (0, 0, 0)) else (bif Nat.beq idx 73 then (585, 587, 8) else (0, 0, 0)))) else (bif Nat.ble 49 idx then (bif Nat.ble 65 idx then (bif Nat.ble 69 idx then (bif Nat.beq idx 69 then (581, 583, 7) else (0, 0, 0)) else (bif Nat.beq idx 65 then (577, 578, 579) else (0, 0, 0))) else (bif Nat.beq idx 49 then (574, 0, 0) else (0, 0, 0))) else (bif Nat.ble 43 idx then (bif Nat.beq idx 43 then (498, 375, 376) else (0, 0, 0)) else (bif Nat.beq idx 37 then (278, 279, 0) else (0, 0, 0)))))) else (0, 0, 0))))
  else
   (bif Nat.ble 2 c then (bif Nat.ble 4 c then (bif Nat.beq c 4 then (bif Nat.beq idx 22 then (442, 415, 416) else (0, 0, 0)) else (0, 0, 0)) else (bif Nat.beq c 2 then (bif Nat.ble 36 idx then (bif Nat.ble 42 idx then (bif Nat.beq idx 42 then (429, 430, 431) else (0, 0, 0)) else (bif Nat.beq idx 36 then (426, 427, 428) else (0, 0, 0))) else (bif Nat.ble 32 idx then (bif Nat.beq idx 32 then (483, 484, 485) else (0, 0, 0)) else (bif Nat.beq idx 28 then (487, 363, 364) else (0, 0, 0)))) else (0, 0, 0))) else (bif Nat.beq c 0 then (bif Nat.ble 63 idx then (bif Nat.ble 67 idx then (bif Nat.ble 73 idx then (bif Nat.beq idx 73 then (443, 444, 445) else (0, 0, 0)) else (bif Nat.beq idx 67 then (410, 411, 412) else (0, 0, 0))) else (bif Nat.beq idx 63 then (407, 408, 0) else (0, 0, 0))) else (bif Nat.ble 55 idx then (bif Nat.beq idx 55 then (403, 404, 405) else (0, 0, 0)) else (bif Nat.beq idx 45 then (374, 375, 376) else (0, 0, 0)))) else (0, 0, 0))))
def cdi (k : Nat) : Nat × Nat :=
  (bif Nat.ble 73 k then
   (bif Nat.ble 109 k then
    (bif Nat.ble 127 k then
     (bif Nat.ble 136 k then
      (bif Nat.ble 141 k then
       (bif Nat.ble 143 k then
        (bif Nat.ble 144 k then (bif Nat.ble 145 k then (bif Nat.beq k 145 then (280, 56) else (0, 0)) else (bif Nat.beq k 144 then (1116, 57) else (0, 0))) else (bif Nat.beq k 143 then (1112, 57) else (0, 0)))
       else
        (bif Nat.ble 142 k then (bif Nat.beq k 142 then (1104, 57) else (0, 0)) else (bif Nat.beq k 141 then (1108, 57) else (0, 0))))
      else
       (bif Nat.ble 138 k then
        (bif Nat.ble 139 k then (bif Nat.ble 140 k then (bif Nat.beq k 140 then (1096, 57) else (0, 0)) else (bif Nat.beq k 139 then (1079, 57) else (0, 0))) else (bif Nat.beq k 138 then (1088, 57) else (0, 0)))
       else
        (bif Nat.ble 137 k then (bif Nat.beq k 137 then (1092, 57) else (0, 0)) else (bif Nat.beq k 136 then (1075, 57) else (0, 0)))))
     else
      (bif Nat.ble 131 k then
       (bif Nat.ble 133 k then
        (bif Nat.ble 134 k then (bif Nat.ble 135 k then (bif Nat.beq k 135 then (1071, 57) else (0, 0)) else (bif Nat.beq k 134 then (1067, 57) else (0, 0))) else (bif Nat.beq k 133 then (1059, 57) else (0, 0)))
       else
        (bif Nat.ble 132 k then (bif Nat.beq k 132 then (1063, 57) else (0, 0)) else (bif Nat.beq k 131 then (1047, 57) else (0, 0))))
      else
       (bif Nat.ble 129 k then (bif Nat.ble 130 k then (bif Nat.beq k 130 then (1051, 57) else (0, 0)) else (bif Nat.beq k 129 then (1055, 57) else (0, 0))) else (bif Nat.ble 128 k then (bif Nat.beq k 128 then (975, 57) else (0, 0)) else (bif Nat.beq k 127 then (979, 57) else (0, 0))))))
    else
     (bif Nat.ble 118 k then
      (bif Nat.ble 122 k then
       (bif Nat.ble 124 k then
        (bif Nat.ble 125 k then (bif Nat.ble 126 k then (bif Nat.beq k 126 then (987, 57) else (0, 0)) else (bif Nat.beq k 125 then (1043, 57) else (0, 0))) else (bif Nat.beq k 124 then (991, 57) else (0, 0)))
       else
        (bif Nat.ble 123 k then (bif Nat.beq k 123 then (983, 57) else (0, 0)) else (bif Nat.beq k 122 then (995, 57) else (0, 0))))
      else
       (bif Nat.ble 120 k then (bif Nat.ble 121 k then (bif Nat.beq k 121 then (1007, 57) else (0, 0)) else (bif Nat.beq k 120 then (1035, 57) else (0, 0))) else (bif Nat.ble 119 k then (bif Nat.beq k 119 then (1039, 57) else (0, 0)) else (bif Nat.beq k 118 then (1031, 57) else (0, 0)))))
     else
      (bif Nat.ble 113 k then
       (bif Nat.ble 115 k then
        (bif Nat.ble 116 k then (bif Nat.ble 117 k then (bif Nat.beq k 117 then (1024, 57) else (0, 0)) else (bif Nat.beq k 116 then (1011, 57) else (0, 0))) else (bif Nat.beq k 115 then (1015, 57) else (0, 0)))
       else
        (bif Nat.ble 114 k then (bif Nat.beq k 114 then (1084, 57) else (0, 0)) else (bif Nat.beq k 113 then (1027, 57) else (0, 0))))
      else
       (bif Nat.ble 111 k then (bif Nat.ble 112 k then (bif Nat.beq k 112 then (1018, 57) else (0, 0)) else (bif Nat.beq k 111 then (999, 57) else (0, 0))) else (bif Nat.ble 110 k then (bif Nat.beq k 110 then (963, 57) else (0, 0)) else (bif Nat.beq k 109 then (1003, 57) else (0, 0)))))))
   else
    (bif Nat.ble 91 k then
     (bif Nat.ble 100 k then
      (bif Nat.ble 104 k then
       (bif Nat.ble 106 k then
        (bif Nat.ble 107 k then (bif Nat.ble 108 k then (bif Nat.beq k 108 then (971, 57) else (0, 0)) else (bif Nat.beq k 107 then (967, 57) else (0, 0))) else (bif Nat.beq k 106 then (959, 57) else (0, 0)))
       else
        (bif Nat.ble 105 k then (bif Nat.beq k 105 then (951, 57) else (0, 0)) else (bif Nat.beq k 104 then (955, 57) else (0, 0))))
      else
       (bif Nat.ble 102 k then (bif Nat.ble 103 k then (bif Nat.beq k 103 then (947, 57) else (0, 0)) else (bif Nat.beq k 102 then (943, 57) else (0, 0))) else (bif Nat.ble 101 k then (bif Nat.beq k 101 then (939, 57) else (0, 0)) else (bif Nat.beq k 100 then (935, 57) else (0, 0)))))
     else
      (bif Nat.ble 95 k then
       (bif Nat.ble 97 k then
        (bif Nat.ble 98 k then (bif Nat.ble 99 k then (bif Nat.beq k 99 then (918, 57) else (0, 0)) else (bif Nat.beq k 98 then (931, 57) else (0, 0))) else (bif Nat.beq k 97 then (922, 57) else (0, 0)))
       else
        (bif Nat.ble 96 k then (bif Nat.beq k 96 then (910, 57) else (0, 0)) else (bif Nat.beq k 95 then (904, 57) else (0, 0))))
      else
       (bif Nat.ble 93 k then (bif Nat.ble 94 k then (bif Nat.beq k 94 then (893, 57) else (0, 0)) else (bif Nat.beq k 93 then (897, 57) else (0, 0))) else (bif Nat.ble 92 k then (bif Nat.beq k 92 then (885, 57) else (0, 0)) else (bif Nat.beq k 91 then (900, 57) else (0, 0))))))
    else
     (bif Nat.ble 82 k then
      (bif Nat.ble 86 k then
       (bif Nat.ble 88 k then
        (bif Nat.ble 89 k then (bif Nat.ble 90 k then (bif Nat.beq k 90 then (913, 57) else (0, 0)) else (bif Nat.beq k 89 then (926, 57) else (0, 0))) else (bif Nat.beq k 88 then (790, 57) else (0, 0)))
       else
        (bif Nat.ble 87 k then (bif Nat.beq k 87 then (1100, 57) else (0, 0)) else (bif Nat.beq k 86 then (889, 57) else (0, 0))))
      else
       (bif Nat.ble 84 k then (bif Nat.ble 85 k then (bif Nat.beq k 85 then (780, 57) else (0, 0)) else (bif Nat.beq k 84 then (490, 48) else (0, 0))) else (bif Nat.ble 83 k then (bif Nat.beq k 83 then (493, 48) else (0, 0)) else (bif Nat.beq k 82 then (391, 48) else (0, 0)))))
     else
      (bif Nat.ble 77 k then
       (bif Nat.ble 79 k then
        (bif Nat.ble 80 k then (bif Nat.ble 81 k then (bif Nat.beq k 81 then (394, 48) else (0, 0)) else (bif Nat.beq k 80 then (645, 48) else (0, 0))) else (bif Nat.beq k 79 then (775, 48) else (0, 0)))
       else
        (bif Nat.ble 78 k then (bif Nat.beq k 78 then (689, 48) else (0, 0)) else (bif Nat.beq k 77 then (680, 48) else (0, 0))))
      else
       (bif Nat.ble 75 k then (bif Nat.ble 76 k then (bif Nat.beq k 76 then (697, 48) else (0, 0)) else (bif Nat.beq k 75 then (658, 48) else (0, 0))) else (bif Nat.ble 74 k then (bif Nat.beq k 74 then (649, 48) else (0, 0)) else (bif Nat.beq k 73 then (641, 48) else (0, 0))))))))
  else
   (bif Nat.ble 36 k then
    (bif Nat.ble 54 k then
     (bif Nat.ble 63 k then
      (bif Nat.ble 68 k then
       (bif Nat.ble 70 k then
        (bif Nat.ble 71 k then (bif Nat.ble 72 k then (bif Nat.beq k 72 then (618, 48) else (0, 0)) else (bif Nat.beq k 71 then (627, 48) else (0, 0))) else (bif Nat.beq k 70 then (614, 48) else (0, 0)))
       else
        (bif Nat.ble 69 k then (bif Nat.beq k 69 then (569, 48) else (0, 0)) else (bif Nat.beq k 68 then (554, 48) else (0, 0))))
      else
       (bif Nat.ble 65 k then
        (bif Nat.ble 66 k then (bif Nat.ble 67 k then (bif Nat.beq k 67 then (546, 48) else (0, 0)) else (bif Nat.beq k 66 then (538, 48) else (0, 0))) else (bif Nat.beq k 65 then (534, 48) else (0, 0)))
       else
        (bif Nat.ble 64 k then (bif Nat.beq k 64 then (522, 48) else (0, 0)) else (bif Nat.beq k 63 then (514, 48) else (0, 0)))))
     else
      (bif Nat.ble 58 k then
       (bif Nat.ble 60 k then
        (bif Nat.ble 61 k then (bif Nat.ble 62 k then (bif Nat.beq k 62 then (502, 48) else (0, 0)) else (bif Nat.beq k 61 then (478, 48) else (0, 0))) else (bif Nat.beq k 60 then (388, 48) else (0, 0)))
       else
        (bif Nat.ble 59 k then (bif Nat.beq k 59 then (381, 48) else (0, 0)) else (bif Nat.beq k 58 then (361, 48) else (0, 0))))
      else
       (bif Nat.ble 56 k then (bif Nat.ble 57 k then (bif Nat.beq k 57 then (341, 48) else (0, 0)) else (bif Nat.beq k 56 then (466, 50) else (0, 0))) else (bif Nat.ble 55 k then (bif Nat.beq k 55 then (474, 50) else (0, 0)) else (bif Nat.beq k 54 then (462, 50) else (0, 0))))))
    else
     (bif Nat.ble 45 k then
      (bif Nat.ble 49 k then
       (bif Nat.ble 51 k then
        (bif Nat.ble 52 k then (bif Nat.ble 53 k then (bif Nat.beq k 53 then (458, 50) else (0, 0)) else (bif Nat.beq k 52 then (450, 50) else (0, 0))) else (bif Nat.beq k 51 then (446, 50) else (0, 0)))
       else
        (bif Nat.ble 50 k then (bif Nat.beq k 50 then (437, 50) else (0, 0)) else (bif Nat.beq k 49 then (421, 50) else (0, 0))))
      else
       (bif Nat.ble 47 k then (bif Nat.ble 48 k then (bif Nat.beq k 48 then (653, 50) else (0, 0)) else (bif Nat.beq k 47 then (413, 50) else (0, 0))) else (bif Nat.ble 46 k then (bif Nat.beq k 46 then (685, 55) else (0, 0)) else (bif Nat.beq k 45 then (767, 55) else (0, 0)))))
     else
      (bif Nat.ble 40 k then
       (bif Nat.ble 42 k then
        (bif Nat.ble 43 k then (bif Nat.ble 44 k then (bif Nat.beq k 44 then (663, 55) else (0, 0)) else (bif Nat.beq k 43 then (667, 55) else (0, 0))) else (bif Nat.beq k 42 then (676, 55) else (0, 0)))
       else
        (bif Nat.ble 41 k then (bif Nat.beq k 41 then (672, 55) else (0, 0)) else (bif Nat.beq k 40 then (635, 55) else (0, 0))))
      else
       (bif Nat.ble 38 k then (bif Nat.ble 39 k then (bif Nat.beq k 39 then (631, 55) else (0, 0)) else (bif Nat.beq k 38 then (622, 55) else (0, 0))) else (bif Nat.ble 37 k then (bif Nat.beq k 37 then (609, 55) else (0, 0)) else (bif Nat.beq k 36 then (605, 55) else (0, 0)))))))
   else
    (bif Nat.ble 18 k then
     (bif Nat.ble 27 k then
      (bif Nat.ble 31 k then
       (bif Nat.ble 33 k then
        (bif Nat.ble 34 k then (bif Nat.ble 35 k then (bif Nat.beq k 35 then (593, 55) else (0, 0)) else (bif Nat.beq k 34 then (588, 55) else (0, 0))) else (bif Nat.beq k 33 then (584, 55) else (0, 0)))
       else
        (bif Nat.ble 32 k then (bif Nat.beq k 32 then (580, 55) else (0, 0)) else (bif Nat.beq k 31 then (573, 55) else (0, 0))))
      else
       (bif Nat.ble 29 k then (bif Nat.ble 30 k then (bif Nat.beq k 30 then (497, 55) else (0, 0)) else (bif Nat.beq k 29 then (357, 55) else (0, 0))) else (bif Nat.ble 28 k then (bif Nat.beq k 28 then (441, 52) else (0, 0)) else (bif Nat.beq k 27 then (417, 52) else (0, 0)))))
     else
      (bif Nat.ble 22 k then
       (bif Nat.ble 24 k then
        (bif Nat.ble 25 k then (bif Nat.ble 26 k then (bif Nat.beq k 26 then (406, 52) else (0, 0)) else (bif Nat.beq k 25 then (597, 54) else (0, 0))) else (bif Nat.beq k 24 then (530, 54) else (0, 0)))
       else
        (bif Nat.ble 23 k then (bif Nat.beq k 23 then (526, 54) else (0, 0)) else (bif Nat.beq k 22 then (470, 49) else (0, 0))))
      else
       (bif Nat.ble 20 k then (bif Nat.ble 21 k then (bif Nat.beq k 21 then (425, 49) else (0, 0)) else (bif Nat.beq k 20 then (454, 49) else (0, 0))) else (bif Nat.ble 19 k then (bif Nat.beq k 19 then (377, 49) else (0, 0)) else (bif Nat.beq k 18 then (482, 49) else (0, 0))))))
    else
     (bif Nat.ble 9 k then
      (bif Nat.ble 13 k then
       (bif Nat.ble 15 k then
        (bif Nat.ble 16 k then (bif Nat.ble 17 k then (bif Nat.beq k 17 then (486, 49) else (0, 0)) else (bif Nat.beq k 16 then (365, 49) else (0, 0))) else (bif Nat.beq k 15 then (345, 49) else (0, 0)))
       else
        (bif Nat.ble 14 k then (bif Nat.beq k 14 then (550, 53) else (0, 0)) else (bif Nat.beq k 13 then (510, 53) else (0, 0))))
      else
       (bif Nat.ble 11 k then (bif Nat.ble 12 k then (bif Nat.beq k 12 then (518, 53) else (0, 0)) else (bif Nat.beq k 11 then (506, 53) else (0, 0))) else (bif Nat.ble 10 k then (bif Nat.beq k 10 then (353, 53) else (0, 0)) else (bif Nat.beq k 9 then (409, 51) else (0, 0)))))
     else
      (bif Nat.ble 4 k then
       (bif Nat.ble 6 k then
        (bif Nat.ble 7 k then (bif Nat.ble 8 k then (bif Nat.beq k 8 then (601, 51) else (0, 0)) else (bif Nat.beq k 7 then (563, 51) else (0, 0))) else (bif Nat.beq k 6 then (402, 51) else (0, 0)))
       else
        (bif Nat.ble 5 k then (bif Nat.beq k 5 then (373, 51) else (0, 0)) else (bif Nat.beq k 4 then (398, 51) else (0, 0))))
      else
       (bif Nat.ble 2 k then (bif Nat.ble 3 k then (bif Nat.beq k 3 then (542, 51) else (0, 0)) else (bif Nat.beq k 2 then (369, 51) else (0, 0))) else (bif Nat.ble 1 k then (bif Nat.beq k 1 then (559, 51) else (0, 0)) else (bif Nat.beq k 0 then (349, 51) else (0, 0)))))))))
abbrev mai : Nat := 58
abbrev cpi : Nat × Nat × Nat := (576, 575, 59)
def lyi : List (List Nat) := [[188, 190, 192, 194, 196, 198], [227, 229, 231, 233, 235, 237, 239, 241, 243], [89, 91, 93, 95, 97], [261, 263, 265, 267, 269], [158, 160, 162, 164, 166, 168, 170, 172, 174], [292, 294, 296, 298, 300, 302, 304, 306, 308, 310], [111, 113, 115, 117], [321, 323, 325, 327, 329, 331, 333, 335], [821, 823, 825, 827, 829, 831, 833, 835, 837, 839, 841, 843, 845, 847, 849, 851, 853, 855, 857, 859, 861, 863, 865, 867, 869, 871, 873, 875, 877, 879]]

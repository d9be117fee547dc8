/-! THE LAW: its switch, printed by a program -/
theorem lw_d0 : lw_dB (lw_code 5 21 25 (1466)) 236 = true := by decide +kernel
theorem lw_k0 : lw_ck 651 21 123 6 = true ∧ lw_ck 1801 25 177 6 = true := ⟨by decide +kernel, by decide +kernel⟩
theorem lw_d1 : lw_dB (lw_code 1 26 30 (1441)) 309 = true := by decide +kernel
theorem lw_k1 : lw_ck 659 26 125 2 = true ∧ lw_ck 1805 30 201 2 = true := ⟨by decide +kernel, by decide +kernel⟩
theorem lw_d2 : lw_dB (lw_code 1 31 34 (1416)) 334 = true := by decide +kernel
theorem lw_k2 : lw_ck 865 31 126 2 = true ∧ lw_ck 1927 34 202 2 = true := ⟨by decide +kernel, by decide +kernel⟩
theorem lw_d3 : lw_dB (lw_code 2 35 38 (1379)) 359 = true := by decide +kernel
theorem lw_k3 : lw_ck 869 35 127 3 = true ∧ lw_ck 1931 38 203 3 = true := ⟨by decide +kernel, by decide +kernel⟩
theorem lw_d5 : lw_dB (lw_code 2 49 52 (1274)) 464 = true := by decide +kernel
theorem lw_k5 : lw_ck 875 49 129 3 = true ∧ lw_ck 1947 52 237 3 = true := ⟨by decide +kernel, by decide +kernel⟩
theorem lw_d6 : lw_dB (lw_code 2 53 56 (1237)) 501 = true := by decide +kernel
theorem lw_k6 : lw_ck 907 53 130 3 = true ∧ lw_ck 1963 56 238 3 = true := ⟨by decide +kernel, by decide +kernel⟩
theorem lw_d7 : lw_dB (lw_codeJ 2 57 61 (1199)) 538 = true := by decide +kernel
theorem lw_k7 : lw_ck 912 57 131 3 = true ∧ lw_ck 1971 61 239 3 = true := ⟨by decide +kernel, by decide +kernel⟩
theorem lw_d8 : lw_dB (lw_code 2 62 65 (1162)) 576 = true := by decide +kernel
theorem lw_k8 : lw_ck 986 62 132 3 = true ∧ lw_ck 2009 65 240 3 = true := ⟨by decide +kernel, by decide +kernel⟩
theorem lw_d9 : lw_dB (lw_code 2 66 70 (1125)) 613 = true := by decide +kernel
theorem lw_k9 : lw_ck 1031 66 133 3 = true ∧ lw_ck 2029 70 241 3 = true := ⟨by decide +kernel, by decide +kernel⟩
theorem lw_d10 : lw_dB (lw_code 3 71 75 (1076)) 650 = true := by decide +kernel
theorem lw_k10 : lw_ck 1039 71 134 4 = true ∧ lw_ck 2033 75 242 4 = true := ⟨by decide +kernel, by decide +kernel⟩
theorem lw_d11 : lw_dB (lw_code 1 76 79 (1051)) 699 = true := by decide +kernel
theorem lw_k11 : lw_ck 1056 76 135 2 = true ∧ lw_ck 2037 79 246 2 = true := ⟨by decide +kernel, by decide +kernel⟩
theorem lw_d12 : lw_dB (lw_code 1 80 83 (1026)) 724 = true := by decide +kernel
theorem lw_k12 : lw_ck 1074 80 136 2 = true ∧ lw_ck 2045 83 247 2 = true := ⟨by decide +kernel, by decide +kernel⟩
theorem lw_d13 : lw_dB (lw_code 1 84 87 (1001)) 749 = true := by decide +kernel
theorem lw_k13 : lw_ck 1083 84 137 2 = true ∧ lw_ck 2053 87 248 2 = true := ⟨by decide +kernel, by decide +kernel⟩
theorem lw_d14 : lw_dB (lw_code 0 88 91 (988)) 774 = true := by decide +kernel
theorem lw_k14 : lw_ck 1093 88 138 1 = true ∧ lw_ck 2061 91 251 1 = true := ⟨by decide +kernel, by decide +kernel⟩
theorem lw_d15 : lw_dB (lw_code 0 92 95 (975)) 787 = true := by decide +kernel
theorem lw_k15 : lw_ck 1112 92 139 1 = true ∧ lw_ck 2077 95 252 1 = true := ⟨by decide +kernel, by decide +kernel⟩
theorem lw_d16 : lw_dB (lw_code 1 96 99 (950)) 800 = true := by decide +kernel
theorem lw_k16 : lw_ck 1126 96 140 2 = true ∧ lw_ck 2085 99 253 2 = true := ⟨by decide +kernel, by decide +kernel⟩
theorem lw_d17 : lw_dB (lw_code 2 100 103 (913)) 825 = true := by decide +kernel
theorem lw_k17 : lw_ck 1130 100 141 3 = true ∧ lw_ck 2089 103 254 3 = true := ⟨by decide +kernel, by decide +kernel⟩
theorem lw_d18 : lw_dB (lw_code 0 104 107 (900)) 862 = true := by decide +kernel
theorem lw_k18 : lw_ck 1139 104 142 1 = true ∧ lw_ck 2097 107 255 1 = true := ⟨by decide +kernel, by decide +kernel⟩
theorem lw_d19 : lw_dB (lw_code 4 108 112 (839)) 875 = true := by decide +kernel
theorem lw_k19 : lw_ck 1143 108 143 5 = true ∧ lw_ck 2101 112 257 5 = true := ⟨by decide +kernel, by decide +kernel⟩
theorem lw_d20 : lw_dB (lw_code 1 113 116 (814)) 936 = true := by decide +kernel
theorem lw_k20 : lw_ck 1151 113 144 2 = true ∧ lw_ck 2109 116 258 2 = true := ⟨by decide +kernel, by decide +kernel⟩
theorem lw_d21 : lw_dB (lw_code 1 117 121 (789)) 961 = true := by decide +kernel
theorem lw_k21 : lw_ck 1159 117 145 2 = true ∧ lw_ck 2113 121 259 2 = true := ⟨by decide +kernel, by decide +kernel⟩
theorem lw_d22 : lw_dB (lw_code 0 122 125 (776)) 986 = true := by decide +kernel
theorem lw_k22 : lw_ck 1163 122 146 1 = true ∧ lw_ck 2117 125 261 1 = true := ⟨by decide +kernel, by decide +kernel⟩
theorem lw_d23 : lw_dB (lw_code 0 126 129 (763)) 999 = true := by decide +kernel
theorem lw_k23 : lw_ck 1185 126 147 1 = true ∧ lw_ck 2125 129 265 1 = true := ⟨by decide +kernel, by decide +kernel⟩
theorem lw_d24 : lw_dB (lw_code 1 130 133 (738)) 1012 = true := by decide +kernel
theorem lw_k24 : lw_ck 1205 130 148 2 = true ∧ lw_ck 2141 133 266 2 = true := ⟨by decide +kernel, by decide +kernel⟩
theorem lw_d25 : lw_dB (lw_code 1 134 137 (713)) 1037 = true := by decide +kernel
theorem lw_k25 : lw_ck 1209 134 149 2 = true ∧ lw_ck 2145 137 268 2 = true := ⟨by decide +kernel, by decide +kernel⟩
theorem lw_d26 : lw_dB (lw_code 2 138 141 (676)) 1062 = true := by decide +kernel
theorem lw_k26 : lw_ck 1214 138 150 3 = true ∧ lw_ck 2153 141 269 3 = true := ⟨by decide +kernel, by decide +kernel⟩
theorem lw_d27 : lw_dB (lw_code 3 142 145 (627)) 1099 = true := by decide +kernel
theorem lw_k27 : lw_ck 1218 142 151 4 = true ∧ lw_ck 2157 145 272 4 = true := ⟨by decide +kernel, by decide +kernel⟩
theorem lw_d28 : lw_dB (lw_code 3 146 149 (578)) 1148 = true := by decide +kernel
theorem lw_k28 : lw_ck 1241 146 152 4 = true ∧ lw_ck 2169 149 274 4 = true := ⟨by decide +kernel, by decide +kernel⟩
theorem lw_d29 : lw_dB (lw_code 3 150 153 (529)) 1197 = true := by decide +kernel
theorem lw_k29 : lw_ck 1245 150 153 4 = true ∧ lw_ck 2177 153 278 4 = true := ⟨by decide +kernel, by decide +kernel⟩
theorem lw_d30 : lw_dB (lw_code 3 154 157 (480)) 1246 = true := by decide +kernel
theorem lw_k30 : lw_ck 1267 154 155 4 = true ∧ lw_ck 2191 157 279 4 = true := ⟨by decide +kernel, by decide +kernel⟩
theorem lw_d31 : lw_dB (lw_code 2 158 161 (443)) 1295 = true := by decide +kernel
theorem lw_k31 : lw_ck 1271 158 156 3 = true ∧ lw_ck 2195 161 284 3 = true := ⟨by decide +kernel, by decide +kernel⟩
theorem lw_d32 : lw_dB (lw_code 3 162 165 (394)) 1332 = true := by decide +kernel
theorem lw_k32 : lw_ck 1287 162 157 4 = true ∧ lw_ck 2215 165 285 4 = true := ⟨by decide +kernel, by decide +kernel⟩
theorem lw_d33 : lw_dB (lw_codeJ 1 166 170 (368)) 1381 = true := by decide +kernel
theorem lw_k33 : lw_ck 1291 166 158 2 = true ∧ lw_ck 2219 170 287 2 = true := ⟨by decide +kernel, by decide +kernel⟩
theorem lw_d34 : lw_dB (lw_codeU 0 173 177 (311)) 1407 = true := by decide +kernel
theorem lw_k34 : lw_ck 1301 173 159 2 = true ∧ lw_ck 2228 177 291 2 = true := ⟨by decide +kernel, by decide +kernel⟩
theorem lw_d35 : lw_dB (lw_codeU 1 178 182 (242)) 1464 = true := by decide +kernel
theorem lw_k35 : lw_ck 1324 178 160 3 = true ∧ lw_ck 2244 182 292 3 = true := ⟨by decide +kernel, by decide +kernel⟩
theorem lw_d36 : lw_dB (lw_code 1 183 186 (217)) 1533 = true := by decide +kernel
theorem lw_k36 : lw_ck 1328 183 161 2 = true ∧ lw_ck 2248 186 294 2 = true := ⟨by decide +kernel, by decide +kernel⟩
theorem lw_d37 : lw_dB (lw_code 0 187 190 (204)) 1558 = true := by decide +kernel
theorem lw_k37 : lw_ck 1344 187 162 1 = true ∧ lw_ck 2264 190 296 1 = true := ⟨by decide +kernel, by decide +kernel⟩
theorem lw_d38 : lw_dB (lw_code 1 191 194 (179)) 1571 = true := by decide +kernel
theorem lw_k38 : lw_ck 1352 191 163 2 = true ∧ lw_ck 2272 194 297 2 = true := ⟨by decide +kernel, by decide +kernel⟩
theorem lw_d39 : lw_dB (lw_code 4 195 198 (118)) 1596 = true := by decide +kernel
theorem lw_k39 : lw_ck 1356 195 164 5 = true ∧ lw_ck 2276 198 298 5 = true := ⟨by decide +kernel, by decide +kernel⟩
theorem lw_d40 : lw_dB (lw_code 3 199 202 (69)) 1657 = true := by decide +kernel
theorem lw_k40 : lw_ck 1360 199 165 4 = true ∧ lw_ck 2280 202 299 4 = true := ⟨by decide +kernel, by decide +kernel⟩
theorem lw_d41 : lw_dB (lw_code 0 203 206 (56)) 1706 = true := by decide +kernel
theorem lw_k41 : lw_ck 1374 203 167 1 = true ∧ lw_ck 2284 206 303 1 = true := ⟨by decide +kernel, by decide +kernel⟩
theorem lw_d42 : lw_dB (lw_code 0 207 210 (43)) 1719 = true := by decide +kernel
theorem lw_k42 : lw_ck 1383 207 168 1 = true ∧ lw_ck 2292 210 304 1 = true := ⟨by decide +kernel, by decide +kernel⟩
theorem lw_d43 : lw_dB (lw_code 0 211 214 (30)) 1732 = true := by decide +kernel
theorem lw_k43 : lw_ck 1387 211 169 1 = true ∧ lw_ck 2296 214 305 1 = true := ⟨by decide +kernel, by decide +kernel⟩
theorem lw_d44 : lw_dB (lw_code 1 215 218 (5)) 1745 = true := by decide +kernel
theorem lw_k44 : lw_ck 1391 215 170 2 = true ∧ lw_ck 2300 218 307 2 = true := ⟨by decide +kernel, by decide +kernel⟩

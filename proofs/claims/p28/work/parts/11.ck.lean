/-! every method's check; the fetch is bounded by the method's size -/
def qa_sz (mi : Nat) : Nat := cond (Nat.ble 157 mi) (cond (Nat.ble 236 mi) (cond (Nat.ble 275 mi) (cond (Nat.ble 295 mi) (cond (Nat.ble 305 mi) (cond (Nat.ble 310 mi) (cond (Nat.ble 312 mi) (cond (Nat.ble 313 mi) (cond (Nat.ble 314 mi) (cond (Nat.beq mi 314) (2053) (0)) (cond (Nat.beq mi 313) (107) (0))) (cond (Nat.beq mi 312) (61) (0))) (cond (Nat.ble 311 mi) (cond (Nat.beq mi 311) (66) (0)) (cond (Nat.beq mi 310) (53) (0)))) (cond (Nat.ble 307 mi) (cond (Nat.ble 308 mi) (cond (Nat.ble 309 mi) (cond (Nat.beq mi 309) (64) (0)) (cond (Nat.beq mi 308) (91) (0))) (cond (Nat.beq mi 307) (106) (0))) (cond (Nat.ble 306 mi) (cond (Nat.beq mi 306) (117) (0)) (cond (Nat.beq mi 305) (42) (0))))) (cond (Nat.ble 300 mi) (cond (Nat.ble 302 mi) (cond (Nat.ble 303 mi) (cond (Nat.ble 304 mi) (cond (Nat.beq mi 304) (152) (0)) (cond (Nat.beq mi 303) (144) (0))) (cond (Nat.beq mi 302) (54) (0))) (cond (Nat.ble 301 mi) (cond (Nat.beq mi 301) (28) (0)) (cond (Nat.beq mi 300) (49) (0)))) (cond (Nat.ble 297 mi) (cond (Nat.ble 298 mi) (cond (Nat.ble 299 mi) (cond (Nat.beq mi 299) (71) (0)) (cond (Nat.beq mi 298) (37) (0))) (cond (Nat.beq mi 297) (121) (0))) (cond (Nat.ble 296 mi) (cond (Nat.beq mi 296) (67) (0)) (cond (Nat.beq mi 295) (65) (0)))))) (cond (Nat.ble 285 mi) (cond (Nat.ble 290 mi) (cond (Nat.ble 292 mi) (cond (Nat.ble 293 mi) (cond (Nat.ble 294 mi) (cond (Nat.beq mi 294) (76) (0)) (cond (Nat.beq mi 293) (114) (0))) (cond (Nat.beq mi 292) (92) (0))) (cond (Nat.ble 291 mi) (cond (Nat.beq mi 291) (85) (0)) (cond (Nat.beq mi 290) (99) (0)))) (cond (Nat.ble 287 mi) (cond (Nat.ble 288 mi) (cond (Nat.ble 289 mi) (cond (Nat.beq mi 289) (134) (0)) (cond (Nat.beq mi 288) (29) (0))) (cond (Nat.beq mi 287) (136) (0))) (cond (Nat.ble 286 mi) (cond (Nat.beq mi 286) (254) (0)) (cond (Nat.beq mi 285) (51) (0))))) (cond (Nat.ble 280 mi) (cond (Nat.ble 282 mi) (cond (Nat.ble 283 mi) (cond (Nat.ble 284 mi) (cond (Nat.beq mi 284) (107) (0)) (cond (Nat.beq mi 283) (115) (0))) (cond (Nat.beq mi 282) (32) (0))) (cond (Nat.ble 281 mi) (cond (Nat.beq mi 281) (112) (0)) (cond (Nat.beq mi 280) (91) (0)))) (cond (Nat.ble 277 mi) (cond (Nat.ble 278 mi) (cond (Nat.ble 279 mi) (cond (Nat.beq mi 279) (49) (0)) (cond (Nat.beq mi 278) (32) (0))) (cond (Nat.beq mi 277) (71) (0))) (cond (Nat.ble 276 mi) (cond (Nat.beq mi 276) (52) (0)) (cond (Nat.beq mi 275) (237) (0))))))) (cond (Nat.ble 255 mi) (cond (Nat.ble 265 mi) (cond (Nat.ble 270 mi) (cond (Nat.ble 272 mi) (cond (Nat.ble 273 mi) (cond (Nat.ble 274 mi) (cond (Nat.beq mi 274) (37) (0)) (cond (Nat.beq mi 273) (159) (0))) (cond (Nat.beq mi 272) (70) (0))) (cond (Nat.ble 271 mi) (cond (Nat.beq mi 271) (59) (0)) (cond (Nat.beq mi 270) (49) (0)))) (cond (Nat.ble 267 mi) (cond (Nat.ble 268 mi) (cond (Nat.ble 269 mi) (cond (Nat.beq mi 269) (38) (0)) (cond (Nat.beq mi 268) (28) (0))) (cond (Nat.beq mi 267) (29) (0))) (cond (Nat.ble 266 mi) (cond (Nat.beq mi 266) (44) (0)) (cond (Nat.beq mi 265) (44) (0))))) (cond (Nat.ble 260 mi) (cond (Nat.ble 262 mi) (cond (Nat.ble 263 mi) (cond (Nat.ble 264 mi) (cond (Nat.beq mi 264) (48) (0)) (cond (Nat.beq mi 263) (24) (0))) (cond (Nat.beq mi 262) (93) (0))) (cond (Nat.ble 261 mi) (cond (Nat.beq mi 261) (105) (0)) (cond (Nat.beq mi 260) (7) (0)))) (cond (Nat.ble 257 mi) (cond (Nat.ble 258 mi) (cond (Nat.ble 259 mi) (cond (Nat.beq mi 259) (143) (0)) (cond (Nat.beq mi 258) (31) (0))) (cond (Nat.beq mi 257) (168) (0))) (cond (Nat.ble 256 mi) (cond (Nat.beq mi 256) (31) (0)) (cond (Nat.beq mi 255) (33) (0)))))) (cond (Nat.ble 245 mi) (cond (Nat.ble 250 mi) (cond (Nat.ble 252 mi) (cond (Nat.ble 253 mi) (cond (Nat.ble 254 mi) (cond (Nat.beq mi 254) (34) (0)) (cond (Nat.beq mi 253) (278) (0))) (cond (Nat.beq mi 252) (29) (0))) (cond (Nat.ble 251 mi) (cond (Nat.beq mi 251) (156) (0)) (cond (Nat.beq mi 250) (285) (0)))) (cond (Nat.ble 247 mi) (cond (Nat.ble 248 mi) (cond (Nat.ble 249 mi) (cond (Nat.beq mi 249) (122) (0)) (cond (Nat.beq mi 248) (29) (0))) (cond (Nat.beq mi 247) (33) (0))) (cond (Nat.ble 246 mi) (cond (Nat.beq mi 246) (51) (0)) (cond (Nat.beq mi 245) (50) (0))))) (cond (Nat.ble 240 mi) (cond (Nat.ble 242 mi) (cond (Nat.ble 243 mi) (cond (Nat.ble 244 mi) (cond (Nat.beq mi 244) (108) (0)) (cond (Nat.beq mi 243) (15) (0))) (cond (Nat.beq mi 242) (91) (0))) (cond (Nat.ble 241 mi) (cond (Nat.beq mi 241) (58) (0)) (cond (Nat.beq mi 240) (105) (0)))) (cond (Nat.ble 238 mi) (cond (Nat.ble 239 mi) (cond (Nat.beq mi 239) (12) (0)) (cond (Nat.beq mi 238) (12) (0))) (cond (Nat.ble 237 mi) (cond (Nat.beq mi 237) (12) (0)) (cond (Nat.beq mi 236) (143) (0)))))))) (cond (Nat.ble 196 mi) (cond (Nat.ble 216 mi) (cond (Nat.ble 226 mi) (cond (Nat.ble 231 mi) (cond (Nat.ble 233 mi) (cond (Nat.ble 234 mi) (cond (Nat.ble 235 mi) (cond (Nat.beq mi 235) (42) (0)) (cond (Nat.beq mi 234) (144) (0))) (cond (Nat.beq mi 233) (103) (0))) (cond (Nat.ble 232 mi) (cond (Nat.beq mi 232) (251) (0)) (cond (Nat.beq mi 231) (42) (0)))) (cond (Nat.ble 228 mi) (cond (Nat.ble 229 mi) (cond (Nat.ble 230 mi) (cond (Nat.beq mi 230) (109) (0)) (cond (Nat.beq mi 229) (81) (0))) (cond (Nat.beq mi 228) (178) (0))) (cond (Nat.ble 227 mi) (cond (Nat.beq mi 227) (162) (0)) (cond (Nat.beq mi 226) (15) (0))))) (cond (Nat.ble 221 mi) (cond (Nat.ble 223 mi) (cond (Nat.ble 224 mi) (cond (Nat.ble 225 mi) (cond (Nat.beq mi 225) (48) (0)) (cond (Nat.beq mi 224) (25) (0))) (cond (Nat.beq mi 223) (35) (0))) (cond (Nat.ble 222 mi) (cond (Nat.beq mi 222) (279) (0)) (cond (Nat.beq mi 221) (13) (0)))) (cond (Nat.ble 218 mi) (cond (Nat.ble 219 mi) (cond (Nat.ble 220 mi) (cond (Nat.beq mi 220) (46) (0)) (cond (Nat.beq mi 219) (42) (0))) (cond (Nat.beq mi 218) (95) (0))) (cond (Nat.ble 217 mi) (cond (Nat.beq mi 217) (73) (0)) (cond (Nat.beq mi 216) (24) (0)))))) (cond (Nat.ble 206 mi) (cond (Nat.ble 211 mi) (cond (Nat.ble 213 mi) (cond (Nat.ble 214 mi) (cond (Nat.ble 215 mi) (cond (Nat.beq mi 215) (84) (0)) (cond (Nat.beq mi 214) (84) (0))) (cond (Nat.beq mi 213) (90) (0))) (cond (Nat.ble 212 mi) (cond (Nat.beq mi 212) (64) (0)) (cond (Nat.beq mi 211) (41) (0)))) (cond (Nat.ble 208 mi) (cond (Nat.ble 209 mi) (cond (Nat.ble 210 mi) (cond (Nat.beq mi 210) (34) (0)) (cond (Nat.beq mi 209) (84) (0))) (cond (Nat.beq mi 208) (62) (0))) (cond (Nat.ble 207 mi) (cond (Nat.beq mi 207) (18) (0)) (cond (Nat.beq mi 206) (24) (0))))) (cond (Nat.ble 201 mi) (cond (Nat.ble 203 mi) (cond (Nat.ble 204 mi) (cond (Nat.ble 205 mi) (cond (Nat.beq mi 205) (27) (0)) (cond (Nat.beq mi 204) (25) (0))) (cond (Nat.beq mi 203) (21) (0))) (cond (Nat.ble 202 mi) (cond (Nat.beq mi 202) (120) (0)) (cond (Nat.beq mi 201) (65) (0)))) (cond (Nat.ble 198 mi) (cond (Nat.ble 199 mi) (cond (Nat.ble 200 mi) (cond (Nat.beq mi 200) (239) (0)) (cond (Nat.beq mi 199) (15) (0))) (cond (Nat.beq mi 198) (16) (0))) (cond (Nat.ble 197 mi) (cond (Nat.beq mi 197) (31) (0)) (cond (Nat.beq mi 196) (68) (0))))))) (cond (Nat.ble 176 mi) (cond (Nat.ble 186 mi) (cond (Nat.ble 191 mi) (cond (Nat.ble 193 mi) (cond (Nat.ble 194 mi) (cond (Nat.ble 195 mi) (cond (Nat.beq mi 195) (33) (0)) (cond (Nat.beq mi 194) (89) (0))) (cond (Nat.beq mi 193) (14) (0))) (cond (Nat.ble 192 mi) (cond (Nat.beq mi 192) (49) (0)) (cond (Nat.beq mi 191) (61) (0)))) (cond (Nat.ble 188 mi) (cond (Nat.ble 189 mi) (cond (Nat.ble 190 mi) (cond (Nat.beq mi 190) (48) (0)) (cond (Nat.beq mi 189) (63) (0))) (cond (Nat.beq mi 188) (50) (0))) (cond (Nat.ble 187 mi) (cond (Nat.beq mi 187) (87) (0)) (cond (Nat.beq mi 186) (38) (0))))) (cond (Nat.ble 181 mi) (cond (Nat.ble 183 mi) (cond (Nat.ble 184 mi) (cond (Nat.ble 185 mi) (cond (Nat.beq mi 185) (52) (0)) (cond (Nat.beq mi 184) (10) (0))) (cond (Nat.beq mi 183) (60) (0))) (cond (Nat.ble 182 mi) (cond (Nat.beq mi 182) (62) (0)) (cond (Nat.beq mi 181) (102) (0)))) (cond (Nat.ble 178 mi) (cond (Nat.ble 179 mi) (cond (Nat.ble 180 mi) (cond (Nat.beq mi 180) (36) (0)) (cond (Nat.beq mi 179) (23) (0))) (cond (Nat.beq mi 178) (24) (0))) (cond (Nat.ble 177 mi) (cond (Nat.beq mi 177) (67) (0)) (cond (Nat.beq mi 176) (42) (0)))))) (cond (Nat.ble 166 mi) (cond (Nat.ble 171 mi) (cond (Nat.ble 173 mi) (cond (Nat.ble 174 mi) (cond (Nat.ble 175 mi) (cond (Nat.beq mi 175) (23) (0)) (cond (Nat.beq mi 174) (65) (0))) (cond (Nat.beq mi 173) (48) (0))) (cond (Nat.ble 172 mi) (cond (Nat.beq mi 172) (31) (0)) (cond (Nat.beq mi 171) (31) (0)))) (cond (Nat.ble 168 mi) (cond (Nat.ble 169 mi) (cond (Nat.ble 170 mi) (cond (Nat.beq mi 170) (41) (0)) (cond (Nat.beq mi 169) (22) (0))) (cond (Nat.beq mi 168) (30) (0))) (cond (Nat.ble 167 mi) (cond (Nat.beq mi 167) (77) (0)) (cond (Nat.beq mi 166) (23) (0))))) (cond (Nat.ble 161 mi) (cond (Nat.ble 163 mi) (cond (Nat.ble 164 mi) (cond (Nat.ble 165 mi) (cond (Nat.beq mi 165) (23) (0)) (cond (Nat.beq mi 164) (28) (0))) (cond (Nat.beq mi 163) (38) (0))) (cond (Nat.ble 162 mi) (cond (Nat.beq mi 162) (60) (0)) (cond (Nat.beq mi 161) (10) (0)))) (cond (Nat.ble 159 mi) (cond (Nat.ble 160 mi) (cond (Nat.beq mi 160) (109) (0)) (cond (Nat.beq mi 159) (30) (0))) (cond (Nat.ble 158 mi) (cond (Nat.beq mi 158) (7) (0)) (cond (Nat.beq mi 157) (16) (0))))))))) (cond (Nat.ble 78 mi) (cond (Nat.ble 117 mi) (cond (Nat.ble 137 mi) (cond (Nat.ble 147 mi) (cond (Nat.ble 152 mi) (cond (Nat.ble 154 mi) (cond (Nat.ble 155 mi) (cond (Nat.ble 156 mi) (cond (Nat.beq mi 156) (19) (0)) (cond (Nat.beq mi 155) (27) (0))) (cond (Nat.beq mi 154) (20) (0))) (cond (Nat.ble 153 mi) (cond (Nat.beq mi 153) (19) (0)) (cond (Nat.beq mi 152) (19) (0)))) (cond (Nat.ble 149 mi) (cond (Nat.ble 150 mi) (cond (Nat.ble 151 mi) (cond (Nat.beq mi 151) (19) (0)) (cond (Nat.beq mi 150) (24) (0))) (cond (Nat.beq mi 149) (24) (0))) (cond (Nat.ble 148 mi) (cond (Nat.beq mi 148) (24) (0)) (cond (Nat.beq mi 147) (109) (0))))) (cond (Nat.ble 142 mi) (cond (Nat.ble 144 mi) (cond (Nat.ble 145 mi) (cond (Nat.ble 146 mi) (cond (Nat.beq mi 146) (60) (0)) (cond (Nat.beq mi 145) (31) (0))) (cond (Nat.beq mi 144) (9) (0))) (cond (Nat.ble 143 mi) (cond (Nat.beq mi 143) (15) (0)) (cond (Nat.beq mi 142) (236) (0)))) (cond (Nat.ble 139 mi) (cond (Nat.ble 140 mi) (cond (Nat.ble 141 mi) (cond (Nat.beq mi 141) (66) (0)) (cond (Nat.beq mi 140) (20) (0))) (cond (Nat.beq mi 139) (76) (0))) (cond (Nat.ble 138 mi) (cond (Nat.beq mi 138) (73) (0)) (cond (Nat.beq mi 137) (64) (0)))))) (cond (Nat.ble 127 mi) (cond (Nat.ble 132 mi) (cond (Nat.ble 134 mi) (cond (Nat.ble 135 mi) (cond (Nat.ble 136 mi) (cond (Nat.beq mi 136) (62) (0)) (cond (Nat.beq mi 135) (29) (0))) (cond (Nat.beq mi 134) (48) (0))) (cond (Nat.ble 133 mi) (cond (Nat.beq mi 133) (65) (0)) (cond (Nat.beq mi 132) (79) (0)))) (cond (Nat.ble 129 mi) (cond (Nat.ble 130 mi) (cond (Nat.ble 131 mi) (cond (Nat.beq mi 131) (74) (0)) (cond (Nat.beq mi 130) (72) (0))) (cond (Nat.beq mi 129) (62) (0))) (cond (Nat.ble 128 mi) (cond (Nat.beq mi 128) (74) (0)) (cond (Nat.beq mi 127) (67) (0))))) (cond (Nat.ble 122 mi) (cond (Nat.ble 124 mi) (cond (Nat.ble 125 mi) (cond (Nat.ble 126 mi) (cond (Nat.beq mi 126) (59) (0)) (cond (Nat.beq mi 125) (62) (0))) (cond (Nat.beq mi 124) (64) (0))) (cond (Nat.ble 123 mi) (cond (Nat.beq mi 123) (16) (0)) (cond (Nat.beq mi 122) (43) (0)))) (cond (Nat.ble 119 mi) (cond (Nat.ble 120 mi) (cond (Nat.ble 121 mi) (cond (Nat.beq mi 121) (23) (0)) (cond (Nat.beq mi 120) (18) (0))) (cond (Nat.beq mi 119) (97) (0))) (cond (Nat.ble 118 mi) (cond (Nat.beq mi 118) (22) (0)) (cond (Nat.beq mi 117) (13) (0))))))) (cond (Nat.ble 97 mi) (cond (Nat.ble 107 mi) (cond (Nat.ble 112 mi) (cond (Nat.ble 114 mi) (cond (Nat.ble 115 mi) (cond (Nat.ble 116 mi) (cond (Nat.beq mi 116) (11) (0)) (cond (Nat.beq mi 115) (11) (0))) (cond (Nat.beq mi 114) (87) (0))) (cond (Nat.ble 113 mi) (cond (Nat.beq mi 113) (6) (0)) (cond (Nat.beq mi 112) (5) (0)))) (cond (Nat.ble 109 mi) (cond (Nat.ble 110 mi) (cond (Nat.ble 111 mi) (cond (Nat.beq mi 111) (5) (0)) (cond (Nat.beq mi 110) (21) (0))) (cond (Nat.beq mi 109) (58) (0))) (cond (Nat.ble 108 mi) (cond (Nat.beq mi 108) (30) (0)) (cond (Nat.beq mi 107) (77) (0))))) (cond (Nat.ble 102 mi) (cond (Nat.ble 104 mi) (cond (Nat.ble 105 mi) (cond (Nat.ble 106 mi) (cond (Nat.beq mi 106) (14) (0)) (cond (Nat.beq mi 105) (38) (0))) (cond (Nat.beq mi 104) (47) (0))) (cond (Nat.ble 103 mi) (cond (Nat.beq mi 103) (20) (0)) (cond (Nat.beq mi 102) (30) (0)))) (cond (Nat.ble 99 mi) (cond (Nat.ble 100 mi) (cond (Nat.ble 101 mi) (cond (Nat.beq mi 101) (53) (0)) (cond (Nat.beq mi 100) (38) (0))) (cond (Nat.beq mi 99) (35) (0))) (cond (Nat.ble 98 mi) (cond (Nat.beq mi 98) (47) (0)) (cond (Nat.beq mi 97) (115) (0)))))) (cond (Nat.ble 87 mi) (cond (Nat.ble 92 mi) (cond (Nat.ble 94 mi) (cond (Nat.ble 95 mi) (cond (Nat.ble 96 mi) (cond (Nat.beq mi 96) (28) (0)) (cond (Nat.beq mi 95) (25) (0))) (cond (Nat.beq mi 94) (30) (0))) (cond (Nat.ble 93 mi) (cond (Nat.beq mi 93) (13) (0)) (cond (Nat.beq mi 92) (31) (0)))) (cond (Nat.ble 89 mi) (cond (Nat.ble 90 mi) (cond (Nat.ble 91 mi) (cond (Nat.beq mi 91) (89) (0)) (cond (Nat.beq mi 90) (73) (0))) (cond (Nat.beq mi 89) (5) (0))) (cond (Nat.ble 88 mi) (cond (Nat.beq mi 88) (76) (0)) (cond (Nat.beq mi 87) (32) (0))))) (cond (Nat.ble 82 mi) (cond (Nat.ble 84 mi) (cond (Nat.ble 85 mi) (cond (Nat.ble 86 mi) (cond (Nat.beq mi 86) (5) (0)) (cond (Nat.beq mi 85) (13) (0))) (cond (Nat.beq mi 84) (60) (0))) (cond (Nat.ble 83 mi) (cond (Nat.beq mi 83) (65) (0)) (cond (Nat.beq mi 82) (51) (0)))) (cond (Nat.ble 80 mi) (cond (Nat.ble 81 mi) (cond (Nat.beq mi 81) (36) (0)) (cond (Nat.beq mi 80) (61) (0))) (cond (Nat.ble 79 mi) (cond (Nat.beq mi 79) (134) (0)) (cond (Nat.beq mi 78) (25) (0)))))))) (cond (Nat.ble 39 mi) (cond (Nat.ble 58 mi) (cond (Nat.ble 68 mi) (cond (Nat.ble 73 mi) (cond (Nat.ble 75 mi) (cond (Nat.ble 76 mi) (cond (Nat.ble 77 mi) (cond (Nat.beq mi 77) (166) (0)) (cond (Nat.beq mi 76) (148) (0))) (cond (Nat.beq mi 75) (31) (0))) (cond (Nat.ble 74 mi) (cond (Nat.beq mi 74) (274) (0)) (cond (Nat.beq mi 73) (96) (0)))) (cond (Nat.ble 70 mi) (cond (Nat.ble 71 mi) (cond (Nat.ble 72 mi) (cond (Nat.beq mi 72) (70) (0)) (cond (Nat.beq mi 71) (70) (0))) (cond (Nat.beq mi 70) (24) (0))) (cond (Nat.ble 69 mi) (cond (Nat.beq mi 69) (39) (0)) (cond (Nat.beq mi 68) (168) (0))))) (cond (Nat.ble 63 mi) (cond (Nat.ble 65 mi) (cond (Nat.ble 66 mi) (cond (Nat.ble 67 mi) (cond (Nat.beq mi 67) (59) (0)) (cond (Nat.beq mi 66) (59) (0))) (cond (Nat.beq mi 65) (20) (0))) (cond (Nat.ble 64 mi) (cond (Nat.beq mi 64) (131) (0)) (cond (Nat.beq mi 63) (55) (0)))) (cond (Nat.ble 60 mi) (cond (Nat.ble 61 mi) (cond (Nat.ble 62 mi) (cond (Nat.beq mi 62) (48) (0)) (cond (Nat.beq mi 61) (31) (0))) (cond (Nat.beq mi 60) (71) (0))) (cond (Nat.ble 59 mi) (cond (Nat.beq mi 59) (47) (0)) (cond (Nat.beq mi 58) (39) (0)))))) (cond (Nat.ble 48 mi) (cond (Nat.ble 53 mi) (cond (Nat.ble 55 mi) (cond (Nat.ble 56 mi) (cond (Nat.ble 57 mi) (cond (Nat.beq mi 57) (38) (0)) (cond (Nat.beq mi 56) (64) (0))) (cond (Nat.beq mi 55) (20) (0))) (cond (Nat.ble 54 mi) (cond (Nat.beq mi 54) (51) (0)) (cond (Nat.beq mi 53) (152) (0)))) (cond (Nat.ble 50 mi) (cond (Nat.ble 51 mi) (cond (Nat.ble 52 mi) (cond (Nat.beq mi 52) (7) (0)) (cond (Nat.beq mi 51) (8) (0))) (cond (Nat.beq mi 50) (16) (0))) (cond (Nat.ble 49 mi) (cond (Nat.beq mi 49) (27) (0)) (cond (Nat.beq mi 48) (77) (0))))) (cond (Nat.ble 43 mi) (cond (Nat.ble 45 mi) (cond (Nat.ble 46 mi) (cond (Nat.ble 47 mi) (cond (Nat.beq mi 47) (49) (0)) (cond (Nat.beq mi 46) (32) (0))) (cond (Nat.beq mi 45) (28) (0))) (cond (Nat.ble 44 mi) (cond (Nat.beq mi 44) (5) (0)) (cond (Nat.beq mi 43) (6) (0)))) (cond (Nat.ble 41 mi) (cond (Nat.ble 42 mi) (cond (Nat.beq mi 42) (29) (0)) (cond (Nat.beq mi 41) (104) (0))) (cond (Nat.ble 40 mi) (cond (Nat.beq mi 40) (35) (0)) (cond (Nat.beq mi 39) (66) (0))))))) (cond (Nat.ble 19 mi) (cond (Nat.ble 29 mi) (cond (Nat.ble 34 mi) (cond (Nat.ble 36 mi) (cond (Nat.ble 37 mi) (cond (Nat.ble 38 mi) (cond (Nat.beq mi 38) (44) (0)) (cond (Nat.beq mi 37) (36) (0))) (cond (Nat.beq mi 36) (24) (0))) (cond (Nat.ble 35 mi) (cond (Nat.beq mi 35) (38) (0)) (cond (Nat.beq mi 34) (24) (0)))) (cond (Nat.ble 31 mi) (cond (Nat.ble 32 mi) (cond (Nat.ble 33 mi) (cond (Nat.beq mi 33) (32) (0)) (cond (Nat.beq mi 32) (32) (0))) (cond (Nat.beq mi 31) (77) (0))) (cond (Nat.ble 30 mi) (cond (Nat.beq mi 30) (44) (0)) (cond (Nat.beq mi 29) (29) (0))))) (cond (Nat.ble 24 mi) (cond (Nat.ble 26 mi) (cond (Nat.ble 27 mi) (cond (Nat.ble 28 mi) (cond (Nat.beq mi 28) (67) (0)) (cond (Nat.beq mi 27) (112) (0))) (cond (Nat.beq mi 26) (70) (0))) (cond (Nat.ble 25 mi) (cond (Nat.beq mi 25) (92) (0)) (cond (Nat.beq mi 24) (30) (0)))) (cond (Nat.ble 21 mi) (cond (Nat.ble 22 mi) (cond (Nat.ble 23 mi) (cond (Nat.beq mi 23) (55) (0)) (cond (Nat.beq mi 22) (55) (0))) (cond (Nat.beq mi 21) (17) (0))) (cond (Nat.ble 20 mi) (cond (Nat.beq mi 20) (26) (0)) (cond (Nat.beq mi 19) (36) (0)))))) (cond (Nat.ble 9 mi) (cond (Nat.ble 14 mi) (cond (Nat.ble 16 mi) (cond (Nat.ble 17 mi) (cond (Nat.ble 18 mi) (cond (Nat.beq mi 18) (46) (0)) (cond (Nat.beq mi 17) (149) (0))) (cond (Nat.beq mi 16) (65) (0))) (cond (Nat.ble 15 mi) (cond (Nat.beq mi 15) (18) (0)) (cond (Nat.beq mi 14) (84) (0)))) (cond (Nat.ble 11 mi) (cond (Nat.ble 12 mi) (cond (Nat.ble 13 mi) (cond (Nat.beq mi 13) (86) (0)) (cond (Nat.beq mi 12) (60) (0))) (cond (Nat.beq mi 11) (32) (0))) (cond (Nat.ble 10 mi) (cond (Nat.beq mi 10) (5) (0)) (cond (Nat.beq mi 9) (5) (0))))) (cond (Nat.ble 4 mi) (cond (Nat.ble 6 mi) (cond (Nat.ble 7 mi) (cond (Nat.ble 8 mi) (cond (Nat.beq mi 8) (13) (0)) (cond (Nat.beq mi 7) (65) (0))) (cond (Nat.beq mi 6) (69) (0))) (cond (Nat.ble 5 mi) (cond (Nat.beq mi 5) (78) (0)) (cond (Nat.beq mi 4) (65) (0)))) (cond (Nat.ble 2 mi) (cond (Nat.ble 3 mi) (cond (Nat.beq mi 3) (84) (0)) (cond (Nat.beq mi 2) (59) (0))) (cond (Nat.ble 1 mi) (cond (Nat.beq mi 1) (5) (0)) (cond (Nat.beq mi 0) (16) (0)))))))))
theorem qa_cka0 : ∀ c, 0 ≤ c → c < 20 → qa_ckm c (qa_sz c) = true := by
  intro c h1 h2
  rcases (show c = 0 ∨ c = 1 ∨ c = 2 ∨ c = 3 ∨ c = 4 ∨ c = 5 ∨ c = 6 ∨ c = 7 ∨ c = 8 ∨ c = 9 ∨ c = 10 ∨ c = 11 ∨ c = 12 ∨ c = 13 ∨ c = 14 ∨ c = 15 ∨ c = 16 ∨ c = 17 ∨ c = 18 ∨ c = 19 by omega) with rfl | rfl | rfl | rfl | rfl | rfl | rfl | rfl | rfl | rfl | rfl | rfl | rfl | rfl | rfl | rfl | rfl | rfl | rfl | rfl
  · exact qk_0
  · exact qk_1
  · exact qk_2
  · exact qk_3
  · exact qk_4
  · exact qk_5
  · exact qk_6
  · exact qk_7
  · exact qk_8
  · exact qk_9
  · exact qk_10
  · exact qk_11
  · exact qk_12
  · exact qk_13
  · exact qk_14
  · exact qk_15
  · exact qk_16
  · exact qk_17
  · exact qk_18
  · exact qk_19
theorem qa_cka1 : ∀ c, 20 ≤ c → c < 40 → qa_ckm c (qa_sz c) = true := by
  intro c h1 h2
  rcases (show c = 20 ∨ c = 21 ∨ c = 22 ∨ c = 23 ∨ c = 24 ∨ c = 25 ∨ c = 26 ∨ c = 27 ∨ c = 28 ∨ c = 29 ∨ c = 30 ∨ c = 31 ∨ c = 32 ∨ c = 33 ∨ c = 34 ∨ c = 35 ∨ c = 36 ∨ c = 37 ∨ c = 38 ∨ c = 39 by omega) with rfl | rfl | rfl | rfl | rfl | rfl | rfl | rfl | rfl | rfl | rfl | rfl | rfl | rfl | rfl | rfl | rfl | rfl | rfl | rfl
  · exact qk_20
  · exact qk_21
  · exact qk_22
  · exact qk_23
  · exact qk_24
  · exact qk_25
  · exact qk_26
  · exact qk_27
  · exact qk_28
  · exact qk_29
  · exact qk_30
  · exact qk_31
  · exact qk_32
  · exact qk_33
  · exact qk_34
  · exact qk_35
  · exact qk_36
  · exact qk_37
  · exact qk_38
  · exact qk_39
theorem qa_cka2 : ∀ c, 40 ≤ c → c < 60 → qa_ckm c (qa_sz c) = true := by
  intro c h1 h2
  rcases (show c = 40 ∨ c = 41 ∨ c = 42 ∨ c = 43 ∨ c = 44 ∨ c = 45 ∨ c = 46 ∨ c = 47 ∨ c = 48 ∨ c = 49 ∨ c = 50 ∨ c = 51 ∨ c = 52 ∨ c = 53 ∨ c = 54 ∨ c = 55 ∨ c = 56 ∨ c = 57 ∨ c = 58 ∨ c = 59 by omega) with rfl | rfl | rfl | rfl | rfl | rfl | rfl | rfl | rfl | rfl | rfl | rfl | rfl | rfl | rfl | rfl | rfl | rfl | rfl | rfl
  · exact qk_40
  · exact qk_41
  · exact qk_42
  · exact qk_43
  · exact qk_44
  · exact qk_45
  · exact qk_46
  · exact qk_47
  · exact qk_48
  · exact qk_49
  · exact qk_50
  · exact qk_51
  · exact qk_52
  · exact qk_53
  · exact qk_54
  · exact qk_55
  · exact qk_56
  · exact qk_57
  · exact qk_58
  · exact qk_59
theorem qa_cka3 : ∀ c, 60 ≤ c → c < 80 → qa_ckm c (qa_sz c) = true := by
  intro c h1 h2
  rcases (show c = 60 ∨ c = 61 ∨ c = 62 ∨ c = 63 ∨ c = 64 ∨ c = 65 ∨ c = 66 ∨ c = 67 ∨ c = 68 ∨ c = 69 ∨ c = 70 ∨ c = 71 ∨ c = 72 ∨ c = 73 ∨ c = 74 ∨ c = 75 ∨ c = 76 ∨ c = 77 ∨ c = 78 ∨ c = 79 by omega) with rfl | rfl | rfl | rfl | rfl | rfl | rfl | rfl | rfl | rfl | rfl | rfl | rfl | rfl | rfl | rfl | rfl | rfl | rfl | rfl
  · exact qk_60
  · exact qk_61
  · exact qk_62
  · exact qk_63
  · exact qk_64
  · exact qk_65
  · exact qk_66
  · exact qk_67
  · exact qk_68
  · exact qk_69
  · exact qk_70
  · exact qk_71
  · exact qk_72
  · exact qk_73
  · exact qk_74
  · exact qk_75
  · exact qk_76
  · exact qk_77
  · exact qk_78
  · exact qk_79
theorem qa_cka4 : ∀ c, 80 ≤ c → c < 100 → qa_ckm c (qa_sz c) = true := by
  intro c h1 h2
  rcases (show c = 80 ∨ c = 81 ∨ c = 82 ∨ c = 83 ∨ c = 84 ∨ c = 85 ∨ c = 86 ∨ c = 87 ∨ c = 88 ∨ c = 89 ∨ c = 90 ∨ c = 91 ∨ c = 92 ∨ c = 93 ∨ c = 94 ∨ c = 95 ∨ c = 96 ∨ c = 97 ∨ c = 98 ∨ c = 99 by omega) with rfl | rfl | rfl | rfl | rfl | rfl | rfl | rfl | rfl | rfl | rfl | rfl | rfl | rfl | rfl | rfl | rfl | rfl | rfl | rfl
  · exact qk_80
  · exact qk_81
  · exact qk_82
  · exact qk_83
  · exact qk_84
  · exact qk_85
  · exact qk_86
  · exact qk_87
  · exact qk_88
  · exact qk_89
  · exact qk_90
  · exact qk_91
  · exact qk_92
  · exact qk_93
  · exact qk_94
  · exact qk_95
  · exact qk_96
  · exact qk_97
  · exact qk_98
  · exact qk_99
theorem qa_cka5 : ∀ c, 100 ≤ c → c < 120 → qa_ckm c (qa_sz c) = true := by
  intro c h1 h2
  rcases (show c = 100 ∨ c = 101 ∨ c = 102 ∨ c = 103 ∨ c = 104 ∨ c = 105 ∨ c = 106 ∨ c = 107 ∨ c = 108 ∨ c = 109 ∨ c = 110 ∨ c = 111 ∨ c = 112 ∨ c = 113 ∨ c = 114 ∨ c = 115 ∨ c = 116 ∨ c = 117 ∨ c = 118 ∨ c = 119 by omega) with rfl | rfl | rfl | rfl | rfl | rfl | rfl | rfl | rfl | rfl | rfl | rfl | rfl | rfl | rfl | rfl | rfl | rfl | rfl | rfl
  · exact qk_100
  · exact qk_101
  · exact qk_102
  · exact qk_103
  · exact qk_104
  · exact qk_105
  · exact qk_106
  · exact qk_107
  · exact qk_108
  · exact qk_109
  · exact qk_110
  · exact qk_111
  · exact qk_112
  · exact qk_113
  · exact qk_114
  · exact qk_115
  · exact qk_116
  · exact qk_117
  · exact qk_118
  · exact qk_119
theorem qa_cka6 : ∀ c, 120 ≤ c → c < 140 → qa_ckm c (qa_sz c) = true := by
  intro c h1 h2
  rcases (show c = 120 ∨ c = 121 ∨ c = 122 ∨ c = 123 ∨ c = 124 ∨ c = 125 ∨ c = 126 ∨ c = 127 ∨ c = 128 ∨ c = 129 ∨ c = 130 ∨ c = 131 ∨ c = 132 ∨ c = 133 ∨ c = 134 ∨ c = 135 ∨ c = 136 ∨ c = 137 ∨ c = 138 ∨ c = 139 by omega) with rfl | rfl | rfl | rfl | rfl | rfl | rfl | rfl | rfl | rfl | rfl | rfl | rfl | rfl | rfl | rfl | rfl | rfl | rfl | rfl
  · exact qk_120
  · exact qk_121
  · exact qk_122
  · exact qk_123
  · exact qk_124
  · exact qk_125
  · exact qk_126
  · exact qk_127
  · exact qk_128
  · exact qk_129
  · exact qk_130
  · exact qk_131
  · exact qk_132
  · exact qk_133
  · exact qk_134
  · exact qk_135
  · exact qk_136
  · exact qk_137
  · exact qk_138
  · exact qk_139
theorem qa_cka7 : ∀ c, 140 ≤ c → c < 160 → qa_ckm c (qa_sz c) = true := by
  intro c h1 h2
  rcases (show c = 140 ∨ c = 141 ∨ c = 142 ∨ c = 143 ∨ c = 144 ∨ c = 145 ∨ c = 146 ∨ c = 147 ∨ c = 148 ∨ c = 149 ∨ c = 150 ∨ c = 151 ∨ c = 152 ∨ c = 153 ∨ c = 154 ∨ c = 155 ∨ c = 156 ∨ c = 157 ∨ c = 158 ∨ c = 159 by omega) with rfl | rfl | rfl | rfl | rfl | rfl | rfl | rfl | rfl | rfl | rfl | rfl | rfl | rfl | rfl | rfl | rfl | rfl | rfl | rfl
  · exact qk_140
  · exact qk_141
  · exact qk_142
  · exact qk_143
  · exact qk_144
  · exact qk_145
  · exact qk_146
  · exact qk_147
  · exact qk_148
  · exact qk_149
  · exact qk_150
  · exact qk_151
  · exact qk_152
  · exact qk_153
  · exact qk_154
  · exact qk_155
  · exact qk_156
  · exact qk_157
  · exact qk_158
  · exact qk_159
theorem qa_cka8 : ∀ c, 160 ≤ c → c < 180 → qa_ckm c (qa_sz c) = true := by
  intro c h1 h2
  rcases (show c = 160 ∨ c = 161 ∨ c = 162 ∨ c = 163 ∨ c = 164 ∨ c = 165 ∨ c = 166 ∨ c = 167 ∨ c = 168 ∨ c = 169 ∨ c = 170 ∨ c = 171 ∨ c = 172 ∨ c = 173 ∨ c = 174 ∨ c = 175 ∨ c = 176 ∨ c = 177 ∨ c = 178 ∨ c = 179 by omega) with rfl | rfl | rfl | rfl | rfl | rfl | rfl | rfl | rfl | rfl | rfl | rfl | rfl | rfl | rfl | rfl | rfl | rfl | rfl | rfl
  · exact qk_160
  · exact qk_161
  · exact qk_162
  · exact qk_163
  · exact qk_164
  · exact qk_165
  · exact qk_166
  · exact qk_167
  · exact qk_168
  · exact qk_169
  · exact qk_170
  · exact qk_171
  · exact qk_172
  · exact qk_173
  · exact qk_174
  · exact qk_175
  · exact qk_176
  · exact qk_177
  · exact qk_178
  · exact qk_179
theorem qa_cka9 : ∀ c, 180 ≤ c → c < 200 → qa_ckm c (qa_sz c) = true := by
  intro c h1 h2
  rcases (show c = 180 ∨ c = 181 ∨ c = 182 ∨ c = 183 ∨ c = 184 ∨ c = 185 ∨ c = 186 ∨ c = 187 ∨ c = 188 ∨ c = 189 ∨ c = 190 ∨ c = 191 ∨ c = 192 ∨ c = 193 ∨ c = 194 ∨ c = 195 ∨ c = 196 ∨ c = 197 ∨ c = 198 ∨ c = 199 by omega) with rfl | rfl | rfl | rfl | rfl | rfl | rfl | rfl | rfl | rfl | rfl | rfl | rfl | rfl | rfl | rfl | rfl | rfl | rfl | rfl
  · exact qk_180
  · exact qk_181
  · exact qk_182
  · exact qk_183
  · exact qk_184
  · exact qk_185
  · exact qk_186
  · exact qk_187
  · exact qk_188
  · exact qk_189
  · exact qk_190
  · exact qk_191
  · exact qk_192
  · exact qk_193
  · exact qk_194
  · exact qk_195
  · exact qk_196
  · exact qk_197
  · exact qk_198
  · exact qk_199
theorem qa_cka10 : ∀ c, 200 ≤ c → c < 220 → qa_ckm c (qa_sz c) = true := by
  intro c h1 h2
  rcases (show c = 200 ∨ c = 201 ∨ c = 202 ∨ c = 203 ∨ c = 204 ∨ c = 205 ∨ c = 206 ∨ c = 207 ∨ c = 208 ∨ c = 209 ∨ c = 210 ∨ c = 211 ∨ c = 212 ∨ c = 213 ∨ c = 214 ∨ c = 215 ∨ c = 216 ∨ c = 217 ∨ c = 218 ∨ c = 219 by omega) with rfl | rfl | rfl | rfl | rfl | rfl | rfl | rfl | rfl | rfl | rfl | rfl | rfl | rfl | rfl | rfl | rfl | rfl | rfl | rfl
  · exact qk_200
  · exact qk_201
  · exact qk_202
  · exact qk_203
  · exact qk_204
  · exact qk_205
  · exact qk_206
  · exact qk_207
  · exact qk_208
  · exact qk_209
  · exact qk_210
  · exact qk_211
  · exact qk_212
  · exact qk_213
  · exact qk_214
  · exact qk_215
  · exact qk_216
  · exact qk_217
  · exact qk_218
  · exact qk_219
theorem qa_cka11 : ∀ c, 220 ≤ c → c < 240 → qa_ckm c (qa_sz c) = true := by
  intro c h1 h2
  rcases (show c = 220 ∨ c = 221 ∨ c = 222 ∨ c = 223 ∨ c = 224 ∨ c = 225 ∨ c = 226 ∨ c = 227 ∨ c = 228 ∨ c = 229 ∨ c = 230 ∨ c = 231 ∨ c = 232 ∨ c = 233 ∨ c = 234 ∨ c = 235 ∨ c = 236 ∨ c = 237 ∨ c = 238 ∨ c = 239 by omega) with rfl | rfl | rfl | rfl | rfl | rfl | rfl | rfl | rfl | rfl | rfl | rfl | rfl | rfl | rfl | rfl | rfl | rfl | rfl | rfl
  · exact qk_220
  · exact qk_221
  · exact qk_222
  · exact qk_223
  · exact qk_224
  · exact qk_225
  · exact qk_226
  · exact qk_227
  · exact qk_228
  · exact qk_229
  · exact qk_230
  · exact qk_231
  · exact qk_232
  · exact qk_233
  · exact qk_234
  · exact qk_235
  · exact qk_236
  · exact qk_237
  · exact qk_238
  · exact qk_239
theorem qa_cka12 : ∀ c, 240 ≤ c → c < 260 → qa_ckm c (qa_sz c) = true := by
  intro c h1 h2
  rcases (show c = 240 ∨ c = 241 ∨ c = 242 ∨ c = 243 ∨ c = 244 ∨ c = 245 ∨ c = 246 ∨ c = 247 ∨ c = 248 ∨ c = 249 ∨ c = 250 ∨ c = 251 ∨ c = 252 ∨ c = 253 ∨ c = 254 ∨ c = 255 ∨ c = 256 ∨ c = 257 ∨ c = 258 ∨ c = 259 by omega) with rfl | rfl | rfl | rfl | rfl | rfl | rfl | rfl | rfl | rfl | rfl | rfl | rfl | rfl | rfl | rfl | rfl | rfl | rfl | rfl
  · exact qk_240
  · exact qk_241
  · exact qk_242
  · exact qk_243
  · exact qk_244
  · exact qk_245
  · exact qk_246
  · exact qk_247
  · exact qk_248
  · exact qk_249
  · exact qk_250
  · exact qk_251
  · exact qk_252
  · exact qk_253
  · exact qk_254
  · exact qk_255
  · exact qk_256
  · exact qk_257
  · exact qk_258
  · exact qk_259
theorem qa_cka13 : ∀ c, 260 ≤ c → c < 280 → qa_ckm c (qa_sz c) = true := by
  intro c h1 h2
  rcases (show c = 260 ∨ c = 261 ∨ c = 262 ∨ c = 263 ∨ c = 264 ∨ c = 265 ∨ c = 266 ∨ c = 267 ∨ c = 268 ∨ c = 269 ∨ c = 270 ∨ c = 271 ∨ c = 272 ∨ c = 273 ∨ c = 274 ∨ c = 275 ∨ c = 276 ∨ c = 277 ∨ c = 278 ∨ c = 279 by omega) with rfl | rfl | rfl | rfl | rfl | rfl | rfl | rfl | rfl | rfl | rfl | rfl | rfl | rfl | rfl | rfl | rfl | rfl | rfl | rfl
  · exact qk_260
  · exact qk_261
  · exact qk_262
  · exact qk_263
  · exact qk_264
  · exact qk_265
  · exact qk_266
  · exact qk_267
  · exact qk_268
  · exact qk_269
  · exact qk_270
  · exact qk_271
  · exact qk_272
  · exact qk_273
  · exact qk_274
  · exact qk_275
  · exact qk_276
  · exact qk_277
  · exact qk_278
  · exact qk_279
theorem qa_cka14 : ∀ c, 280 ≤ c → c < 300 → qa_ckm c (qa_sz c) = true := by
  intro c h1 h2
  rcases (show c = 280 ∨ c = 281 ∨ c = 282 ∨ c = 283 ∨ c = 284 ∨ c = 285 ∨ c = 286 ∨ c = 287 ∨ c = 288 ∨ c = 289 ∨ c = 290 ∨ c = 291 ∨ c = 292 ∨ c = 293 ∨ c = 294 ∨ c = 295 ∨ c = 296 ∨ c = 297 ∨ c = 298 ∨ c = 299 by omega) with rfl | rfl | rfl | rfl | rfl | rfl | rfl | rfl | rfl | rfl | rfl | rfl | rfl | rfl | rfl | rfl | rfl | rfl | rfl | rfl
  · exact qk_280
  · exact qk_281
  · exact qk_282
  · exact qk_283
  · exact qk_284
  · exact qk_285
  · exact qk_286
  · exact qk_287
  · exact qk_288
  · exact qk_289
  · exact qk_290
  · exact qk_291
  · exact qk_292
  · exact qk_293
  · exact qk_294
  · exact qk_295
  · exact qk_296
  · exact qk_297
  · exact qk_298
  · exact qk_299
theorem qa_cka15 : ∀ c, 300 ≤ c → c < 314 → qa_ckm c (qa_sz c) = true := by
  intro c h1 h2
  rcases (show c = 300 ∨ c = 301 ∨ c = 302 ∨ c = 303 ∨ c = 304 ∨ c = 305 ∨ c = 306 ∨ c = 307 ∨ c = 308 ∨ c = 309 ∨ c = 310 ∨ c = 311 ∨ c = 312 ∨ c = 313 by omega) with rfl | rfl | rfl | rfl | rfl | rfl | rfl | rfl | rfl | rfl | rfl | rfl | rfl | rfl
  · exact qk_300
  · exact qk_301
  · exact qk_302
  · exact qk_303
  · exact qk_304
  · exact qk_305
  · exact qk_306
  · exact qk_307
  · exact qk_308
  · exact qk_309
  · exact qk_310
  · exact qk_311
  · exact qk_312
  · exact qk_313
theorem qa_ck0 : ∀ c, c < 314 → qa_ckm c (qa_sz c) = true := by
  intro c h
  rcases (show c / 20 = 0 ∨ c / 20 = 1 ∨ c / 20 = 2 ∨ c / 20 = 3 ∨ c / 20 = 4 ∨ c / 20 = 5 ∨ c / 20 = 6 ∨ c / 20 = 7 ∨ c / 20 = 8 ∨ c / 20 = 9 ∨ c / 20 = 10 ∨ c / 20 = 11 ∨ c / 20 = 12 ∨ c / 20 = 13 ∨ c / 20 = 14 ∨ c / 20 = 15 by omega) with q | q | q | q | q | q | q | q | q | q | q | q | q | q | q | q
  · exact qa_cka0 c (by omega) (by omega)
  · exact qa_cka1 c (by omega) (by omega)
  · exact qa_cka2 c (by omega) (by omega)
  · exact qa_cka3 c (by omega) (by omega)
  · exact qa_cka4 c (by omega) (by omega)
  · exact qa_cka5 c (by omega) (by omega)
  · exact qa_cka6 c (by omega) (by omega)
  · exact qa_cka7 c (by omega) (by omega)
  · exact qa_cka8 c (by omega) (by omega)
  · exact qa_cka9 c (by omega) (by omega)
  · exact qa_cka10 c (by omega) (by omega)
  · exact qa_cka11 c (by omega) (by omega)
  · exact qa_cka12 c (by omega) (by omega)
  · exact qa_cka13 c (by omega) (by omega)
  · exact qa_cka14 c (by omega) (by omega)
  · exact qa_cka15 c (by omega) (by omega)
theorem qa_ckL : ∀ pc e, pc < 2053 → qa_body 314 pc = some e → qa_chk 314 pc e = true := by
  intro pc e h he
  have key : ∀ a n, qa_ckr 314 a n = true → a ≤ pc → pc < a + n → qa_chk 314 pc e = true := by
    intro a n h1 h2 h3
    have h4 := List.all_eq_true.mp h1 (pc - a) (List.mem_range.mpr (by omega))
    rw [show a + (pc - a) = pc by omega, he] at h4
    exact h4
  rcases (show pc / 60 = 0 ∨ pc / 60 = 1 ∨ pc / 60 = 2 ∨ pc / 60 = 3 ∨ pc / 60 = 4 ∨ pc / 60 = 5 ∨ pc / 60 = 6 ∨ pc / 60 = 7 ∨ pc / 60 = 8 ∨ pc / 60 = 9 ∨ pc / 60 = 10 ∨ pc / 60 = 11 ∨ pc / 60 = 12 ∨ pc / 60 = 13 ∨ pc / 60 = 14 ∨ pc / 60 = 15 ∨ pc / 60 = 16 ∨ pc / 60 = 17 ∨ pc / 60 = 18 ∨ pc / 60 = 19 ∨ pc / 60 = 20 ∨ pc / 60 = 21 ∨ pc / 60 = 22 ∨ pc / 60 = 23 ∨ pc / 60 = 24 ∨ pc / 60 = 25 ∨ pc / 60 = 26 ∨ pc / 60 = 27 ∨ pc / 60 = 28 ∨ pc / 60 = 29 ∨ pc / 60 = 30 ∨ pc / 60 = 31 ∨ pc / 60 = 32 ∨ pc / 60 = 33 ∨ pc / 60 = 34 by omega) with q | q | q | q | q | q | q | q | q | q | q | q | q | q | q | q | q | q | q | q | q | q | q | q | q | q | q | q | q | q | q | q | q | q | q
  · exact key 0 60 qk_314_0 (by omega) (by omega)
  · exact key 60 60 qk_314_60 (by omega) (by omega)
  · exact key 120 60 qk_314_120 (by omega) (by omega)
  · exact key 180 60 qk_314_180 (by omega) (by omega)
  · exact key 240 60 qk_314_240 (by omega) (by omega)
  · exact key 300 60 qk_314_300 (by omega) (by omega)
  · exact key 360 60 qk_314_360 (by omega) (by omega)
  · exact key 420 60 qk_314_420 (by omega) (by omega)
  · exact key 480 60 qk_314_480 (by omega) (by omega)
  · exact key 540 60 qk_314_540 (by omega) (by omega)
  · exact key 600 60 qk_314_600 (by omega) (by omega)
  · exact key 660 60 qk_314_660 (by omega) (by omega)
  · exact key 720 60 qk_314_720 (by omega) (by omega)
  · exact key 780 60 qk_314_780 (by omega) (by omega)
  · exact key 840 60 qk_314_840 (by omega) (by omega)
  · exact key 900 60 qk_314_900 (by omega) (by omega)
  · exact key 960 60 qk_314_960 (by omega) (by omega)
  · exact key 1020 60 qk_314_1020 (by omega) (by omega)
  · exact key 1080 60 qk_314_1080 (by omega) (by omega)
  · exact key 1140 60 qk_314_1140 (by omega) (by omega)
  · exact key 1200 60 qk_314_1200 (by omega) (by omega)
  · exact key 1260 60 qk_314_1260 (by omega) (by omega)
  · exact key 1320 60 qk_314_1320 (by omega) (by omega)
  · exact key 1380 60 qk_314_1380 (by omega) (by omega)
  · exact key 1440 60 qk_314_1440 (by omega) (by omega)
  · exact key 1500 60 qk_314_1500 (by omega) (by omega)
  · exact key 1560 60 qk_314_1560 (by omega) (by omega)
  · exact key 1620 60 qk_314_1620 (by omega) (by omega)
  · exact key 1680 60 qk_314_1680 (by omega) (by omega)
  · exact key 1740 60 qk_314_1740 (by omega) (by omega)
  · exact key 1800 60 qk_314_1800 (by omega) (by omega)
  · exact key 1860 60 qk_314_1860 (by omega) (by omega)
  · exact key 1920 60 qk_314_1920 (by omega) (by omega)
  · exact key 1980 60 qk_314_1980 (by omega) (by omega)
  · exact key 2040 13 qk_314_2040 (by omega) (by omega)
def qa_ft (mi pc : Nat) : Option LEnt := match Nat.blt pc (qa_sz mi) with | true => qa_body mi pc | false => none
theorem qa_ft_chk {mi pc : Nat} {e : LEnt} (hm : mi < 315) (h : qa_ft mi pc = some e) : qa_chk mi pc e = true := by
  unfold qa_ft at h
  cases hb : Nat.blt pc (qa_sz mi) with
  | false => rw [hb] at h; cases h
  | true =>
    rw [hb] at h
    have hlt := qa_blt' hb
    by_cases h9 : mi < 314
    · have h4 := List.all_eq_true.mp (qa_ck0 mi h9) pc (List.mem_range.mpr hlt)
      have h : qa_body mi pc = some e := h
      rw [h] at h4
      exact h4
    · have h8 : mi = 314 := by omega
      subst h8
      exact qa_ckL pc e hlt h
def qa_cm (ph : Bool) (W : Nat → Nat → Nat → Nat → Nat → LLoc → LStk → LMem → LPost → Prop) (d c : Nat) (args : List LV) (s : LMem) (Q : LPost) : Prop := match Nat.ble 1000 c with
  | true => (match ph with | true => False | false => qa_intr c args s Q)
  | false => (match Nat.ble (qa_exp args).length (qa_mL c) with
    | false => False
    | true => (match d with | 0 => False | d + 1 => W d c (qa_cst c).1 (qa_cst c).2 0 (qa_mk args (qa_mL c)) [] s Q))
/-- THE LIGHT MACHINE (it: whether calls by what they do are barred) -/
def qa_wy (ph it : Bool) : Nat → Nat → Nat → Nat → Nat → Nat → LLoc → LStk → LMem → LPost → Prop
  | 0 => fun _ _ _ _ _ _ _ _ _ => False
  | f + 1 => fun d mi bc bs pc loc st s Q => match qa_ft mi pc with
    | none => False
    | some e => qa_sem (fun bc bs pc loc st s => qa_wy ph it f d mi bc bs pc loc st s Q) (fun c args s Q' => qa_cm it (qa_wy ph it f) d c args s Q') Q (qa_ins ph mi bc bs e pc loc st s)
abbrev qa_wq (ph : Bool) : Nat → Nat → Nat → Nat → Nat → Nat → LLoc → LStk → LMem → LPost → Prop := qa_wy ph ph

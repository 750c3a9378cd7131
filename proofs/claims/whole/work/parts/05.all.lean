/-! All methods. -/
def am_tb0 : List (List (Nat × Instr × Nat)) := [am_t0, am_t1, am_t2, am_t3, am_t4, am_t5, am_t6, am_t7, am_t8, am_t9, am_t10, am_t11, am_t12, am_t13, am_t14, am_t15, am_t16, am_t17, am_t18, am_t19, am_t20, am_t21, am_t22, am_t23, am_t24, am_t25, am_t26, am_t27, am_t28, am_t29, am_t30, am_t31, am_t32, am_t33, am_t34, am_t35, am_t36, am_t37, am_t38, am_t39, am_t40, am_t41, am_t42, am_t43, am_t44, am_t45, am_t46, am_t47, am_t48, am_t49]
def am_tb1 : List (List (Nat × Instr × Nat)) := [am_t50, am_t51, am_t52, am_t53, am_t54, am_t55, am_t56, am_t57, am_t58, am_t59, am_t60, am_t61, am_t62, am_t63, am_t64, am_t65, am_t66, am_t67, am_t68, am_t69, am_t70, am_t71, am_t72, am_t73, am_t74, am_t75, am_t76, am_t77, am_t78, am_t79, am_t80, am_t81, am_t82, am_t83, am_t84, am_t85, am_t86, am_t87, am_t88, am_t89, am_t90, am_t91, am_t92, am_t93, am_t94, am_t95, am_t96, am_t97, am_t98, am_t99]
def am_tb2 : List (List (Nat × Instr × Nat)) := [am_t100, am_t101, am_t102, am_t103, am_t104, am_t105, am_t106, am_t107, am_t108, am_t109, am_t110, am_t111, am_t112, am_t113, am_t114, am_t115, am_t116, am_t117, am_t118, am_t119, am_t120, am_t121, am_t122, am_t123, am_t124, am_t125, am_t126, am_t127, am_t128, am_t129, am_t130, am_t131, am_t132, am_t133, am_t134, am_t135, am_t136, am_t137, am_t138, am_t139, am_t140, am_t141, am_t142, am_t143, am_t144, am_t145, am_t146, am_t147, am_t148, am_t149]
def am_tb3 : List (List (Nat × Instr × Nat)) := [am_t150, am_t151, am_t152, am_t153, am_t154, am_t155, am_t156, am_t157, am_t158, am_t159, am_t160, am_t161, am_t162, am_t163, am_t164, am_t165, am_t166, am_t167, am_t168, am_t169, am_t170, am_t171, am_t172, am_t173, am_t174, am_t175, am_t176, am_t177, am_t178, am_t179, am_t180, am_t181, am_t182, am_t183, am_t184, am_t185, am_t186, am_t187, am_t188, am_t189, am_t190, am_t191, am_t192, am_t193, am_t194, am_t195, am_t196, am_t197, am_t198, am_t199]
def am_tb4 : List (List (Nat × Instr × Nat)) := [am_t200, am_t201, am_t202, am_t203, am_t204, am_t205, am_t206, am_t207, am_t208, am_t209, am_t210, am_t211, am_t212, am_t213, am_t214, am_t215, am_t216, am_t217, am_t218, am_t219, am_t220, am_t221, am_t222, am_t223, am_t224, am_t225, am_t226, am_t227, am_t228, am_t229, am_t230, am_t231, am_t232, am_t233, am_t234, am_t235, am_t236, am_t237, am_t238, am_t239, am_t240, am_t241, am_t242, am_t243, am_t244, am_t245, am_t246, am_t247, am_t248, am_t249]
def am_tb5 : List (List (Nat × Instr × Nat)) := [am_t250, am_t251, am_t252, am_t253, am_t254, am_t255, am_t256, am_t257, am_t258, am_t259, am_t260, am_t261, am_t262, am_t263, am_t264, am_t265, am_t266, am_t267, am_t268, am_t269, am_t270, am_t271, am_t272, am_t273, am_t274, am_t275, am_t276, am_t277, am_t278, am_t279, am_t280, am_t281, am_t282, am_t283, am_t284, am_t285, am_t286, am_t287, am_t288, am_t289, am_t290, am_t291, am_t292, am_t293, am_t294, am_t295, am_t296, am_t297, am_t298, am_t299]
def am_tb6 : List (List (Nat × Instr × Nat)) := [am_t300, am_t301, am_t302]
def am_tb : List (List (Nat × Instr × Nat)) := am_tb0 ++ (am_tb1 ++ (am_tb2 ++ (am_tb3 ++ (am_tb4 ++ (am_tb5 ++ (am_tb6))))))
def am_tab (j : Nat) : List (Nat × Instr × Nat) := am_tb.getD j []
def am_at (j pc : Nat) : Option (Instr × Nat) := ((am_tab j).find? (fun q => q.1 == pc)).map (·.2)
theorem am_tab0 : am_tab 0 = am_t0 := rfl
theorem am_tab1 : am_tab 1 = am_t1 := rfl
theorem am_tab2 : am_tab 2 = am_t2 := rfl
theorem am_tab3 : am_tab 3 = am_t3 := rfl
theorem am_tab4 : am_tab 4 = am_t4 := rfl
theorem am_tab5 : am_tab 5 = am_t5 := rfl
theorem am_tab6 : am_tab 6 = am_t6 := rfl
theorem am_tab7 : am_tab 7 = am_t7 := rfl
theorem am_tab8 : am_tab 8 = am_t8 := rfl
theorem am_tab9 : am_tab 9 = am_t9 := rfl
theorem am_tab10 : am_tab 10 = am_t10 := rfl
theorem am_tab11 : am_tab 11 = am_t11 := rfl
theorem am_tab12 : am_tab 12 = am_t12 := rfl
theorem am_tab13 : am_tab 13 = am_t13 := rfl
theorem am_tab14 : am_tab 14 = am_t14 := rfl
theorem am_tab15 : am_tab 15 = am_t15 := rfl
theorem am_tab16 : am_tab 16 = am_t16 := rfl
theorem am_tab17 : am_tab 17 = am_t17 := rfl
theorem am_tab18 : am_tab 18 = am_t18 := rfl
theorem am_tab19 : am_tab 19 = am_t19 := rfl
theorem am_tab20 : am_tab 20 = am_t20 := rfl
theorem am_tab21 : am_tab 21 = am_t21 := rfl
theorem am_tab22 : am_tab 22 = am_t22 := rfl
theorem am_tab23 : am_tab 23 = am_t23 := rfl
theorem am_tab24 : am_tab 24 = am_t24 := rfl
theorem am_tab25 : am_tab 25 = am_t25 := rfl
theorem am_tab26 : am_tab 26 = am_t26 := rfl
theorem am_tab27 : am_tab 27 = am_t27 := rfl
theorem am_tab28 : am_tab 28 = am_t28 := rfl
theorem am_tab29 : am_tab 29 = am_t29 := rfl
theorem am_tab30 : am_tab 30 = am_t30 := rfl
theorem am_tab31 : am_tab 31 = am_t31 := rfl
theorem am_tab32 : am_tab 32 = am_t32 := rfl
theorem am_tab33 : am_tab 33 = am_t33 := rfl
theorem am_tab34 : am_tab 34 = am_t34 := rfl
theorem am_tab35 : am_tab 35 = am_t35 := rfl
theorem am_tab36 : am_tab 36 = am_t36 := rfl
theorem am_tab37 : am_tab 37 = am_t37 := rfl
theorem am_tab38 : am_tab 38 = am_t38 := rfl
theorem am_tab39 : am_tab 39 = am_t39 := rfl
theorem am_tab40 : am_tab 40 = am_t40 := rfl
theorem am_tab41 : am_tab 41 = am_t41 := rfl
theorem am_tab42 : am_tab 42 = am_t42 := rfl
theorem am_tab43 : am_tab 43 = am_t43 := rfl
theorem am_tab44 : am_tab 44 = am_t44 := rfl
theorem am_tab45 : am_tab 45 = am_t45 := rfl
theorem am_tab46 : am_tab 46 = am_t46 := rfl
theorem am_tab47 : am_tab 47 = am_t47 := rfl
theorem am_tab48 : am_tab 48 = am_t48 := rfl
theorem am_tab49 : am_tab 49 = am_t49 := rfl
theorem am_tab50 : am_tab 50 = am_t50 := rfl
theorem am_tab51 : am_tab 51 = am_t51 := rfl
theorem am_tab52 : am_tab 52 = am_t52 := rfl
theorem am_tab53 : am_tab 53 = am_t53 := rfl
theorem am_tab54 : am_tab 54 = am_t54 := rfl
theorem am_tab55 : am_tab 55 = am_t55 := rfl
theorem am_tab56 : am_tab 56 = am_t56 := rfl
theorem am_tab57 : am_tab 57 = am_t57 := rfl
theorem am_tab58 : am_tab 58 = am_t58 := rfl
theorem am_tab59 : am_tab 59 = am_t59 := rfl
theorem am_tab60 : am_tab 60 = am_t60 := rfl
theorem am_tab61 : am_tab 61 = am_t61 := rfl
theorem am_tab62 : am_tab 62 = am_t62 := rfl
theorem am_tab63 : am_tab 63 = am_t63 := rfl
theorem am_tab64 : am_tab 64 = am_t64 := rfl
theorem am_tab65 : am_tab 65 = am_t65 := rfl
theorem am_tab66 : am_tab 66 = am_t66 := rfl
theorem am_tab67 : am_tab 67 = am_t67 := rfl
theorem am_tab68 : am_tab 68 = am_t68 := rfl
theorem am_tab69 : am_tab 69 = am_t69 := rfl
theorem am_tab70 : am_tab 70 = am_t70 := rfl
theorem am_tab71 : am_tab 71 = am_t71 := rfl
theorem am_tab72 : am_tab 72 = am_t72 := rfl
theorem am_tab73 : am_tab 73 = am_t73 := rfl
theorem am_tab74 : am_tab 74 = am_t74 := rfl
theorem am_tab75 : am_tab 75 = am_t75 := rfl
theorem am_tab76 : am_tab 76 = am_t76 := rfl
theorem am_tab77 : am_tab 77 = am_t77 := rfl
theorem am_tab78 : am_tab 78 = am_t78 := rfl
theorem am_tab79 : am_tab 79 = am_t79 := rfl
theorem am_tab80 : am_tab 80 = am_t80 := rfl
theorem am_tab81 : am_tab 81 = am_t81 := rfl
theorem am_tab82 : am_tab 82 = am_t82 := rfl
theorem am_tab83 : am_tab 83 = am_t83 := rfl
theorem am_tab84 : am_tab 84 = am_t84 := rfl
theorem am_tab85 : am_tab 85 = am_t85 := rfl
theorem am_tab86 : am_tab 86 = am_t86 := rfl
theorem am_tab87 : am_tab 87 = am_t87 := rfl
theorem am_tab88 : am_tab 88 = am_t88 := rfl
theorem am_tab89 : am_tab 89 = am_t89 := rfl
theorem am_tab90 : am_tab 90 = am_t90 := rfl
theorem am_tab91 : am_tab 91 = am_t91 := rfl
theorem am_tab92 : am_tab 92 = am_t92 := rfl
theorem am_tab93 : am_tab 93 = am_t93 := rfl
theorem am_tab94 : am_tab 94 = am_t94 := rfl
theorem am_tab95 : am_tab 95 = am_t95 := rfl
theorem am_tab96 : am_tab 96 = am_t96 := rfl
theorem am_tab97 : am_tab 97 = am_t97 := rfl
theorem am_tab98 : am_tab 98 = am_t98 := rfl
theorem am_tab99 : am_tab 99 = am_t99 := rfl
theorem am_tab100 : am_tab 100 = am_t100 := rfl
theorem am_tab101 : am_tab 101 = am_t101 := rfl
theorem am_tab102 : am_tab 102 = am_t102 := rfl
theorem am_tab103 : am_tab 103 = am_t103 := rfl
theorem am_tab104 : am_tab 104 = am_t104 := rfl
theorem am_tab105 : am_tab 105 = am_t105 := rfl
theorem am_tab106 : am_tab 106 = am_t106 := rfl
theorem am_tab107 : am_tab 107 = am_t107 := rfl
theorem am_tab108 : am_tab 108 = am_t108 := rfl
theorem am_tab109 : am_tab 109 = am_t109 := rfl
theorem am_tab110 : am_tab 110 = am_t110 := rfl
theorem am_tab111 : am_tab 111 = am_t111 := rfl
theorem am_tab112 : am_tab 112 = am_t112 := rfl
theorem am_tab113 : am_tab 113 = am_t113 := rfl
theorem am_tab114 : am_tab 114 = am_t114 := rfl
theorem am_tab115 : am_tab 115 = am_t115 := rfl
theorem am_tab116 : am_tab 116 = am_t116 := rfl
theorem am_tab117 : am_tab 117 = am_t117 := rfl
theorem am_tab118 : am_tab 118 = am_t118 := rfl
theorem am_tab119 : am_tab 119 = am_t119 := rfl
theorem am_tab120 : am_tab 120 = am_t120 := rfl
theorem am_tab121 : am_tab 121 = am_t121 := rfl
theorem am_tab122 : am_tab 122 = am_t122 := rfl
theorem am_tab123 : am_tab 123 = am_t123 := rfl
theorem am_tab124 : am_tab 124 = am_t124 := rfl
theorem am_tab125 : am_tab 125 = am_t125 := rfl
theorem am_tab126 : am_tab 126 = am_t126 := rfl
theorem am_tab127 : am_tab 127 = am_t127 := rfl
theorem am_tab128 : am_tab 128 = am_t128 := rfl
theorem am_tab129 : am_tab 129 = am_t129 := rfl
theorem am_tab130 : am_tab 130 = am_t130 := rfl
theorem am_tab131 : am_tab 131 = am_t131 := rfl
theorem am_tab132 : am_tab 132 = am_t132 := rfl
theorem am_tab133 : am_tab 133 = am_t133 := rfl
theorem am_tab134 : am_tab 134 = am_t134 := rfl
theorem am_tab135 : am_tab 135 = am_t135 := rfl
theorem am_tab136 : am_tab 136 = am_t136 := rfl
theorem am_tab137 : am_tab 137 = am_t137 := rfl
theorem am_tab138 : am_tab 138 = am_t138 := rfl
theorem am_tab139 : am_tab 139 = am_t139 := rfl
theorem am_tab140 : am_tab 140 = am_t140 := rfl
theorem am_tab141 : am_tab 141 = am_t141 := rfl
theorem am_tab142 : am_tab 142 = am_t142 := rfl
theorem am_tab143 : am_tab 143 = am_t143 := rfl
theorem am_tab144 : am_tab 144 = am_t144 := rfl
theorem am_tab145 : am_tab 145 = am_t145 := rfl
theorem am_tab146 : am_tab 146 = am_t146 := rfl
theorem am_tab147 : am_tab 147 = am_t147 := rfl
theorem am_tab148 : am_tab 148 = am_t148 := rfl
theorem am_tab149 : am_tab 149 = am_t149 := rfl
theorem am_tab150 : am_tab 150 = am_t150 := rfl
theorem am_tab151 : am_tab 151 = am_t151 := rfl
theorem am_tab152 : am_tab 152 = am_t152 := rfl
theorem am_tab153 : am_tab 153 = am_t153 := rfl
theorem am_tab154 : am_tab 154 = am_t154 := rfl
theorem am_tab155 : am_tab 155 = am_t155 := rfl
theorem am_tab156 : am_tab 156 = am_t156 := rfl
theorem am_tab157 : am_tab 157 = am_t157 := rfl
theorem am_tab158 : am_tab 158 = am_t158 := rfl
theorem am_tab159 : am_tab 159 = am_t159 := rfl
theorem am_tab160 : am_tab 160 = am_t160 := rfl
theorem am_tab161 : am_tab 161 = am_t161 := rfl
theorem am_tab162 : am_tab 162 = am_t162 := rfl
theorem am_tab163 : am_tab 163 = am_t163 := rfl
theorem am_tab164 : am_tab 164 = am_t164 := rfl
theorem am_tab165 : am_tab 165 = am_t165 := rfl
theorem am_tab166 : am_tab 166 = am_t166 := rfl
theorem am_tab167 : am_tab 167 = am_t167 := rfl
theorem am_tab168 : am_tab 168 = am_t168 := rfl
theorem am_tab169 : am_tab 169 = am_t169 := rfl
theorem am_tab170 : am_tab 170 = am_t170 := rfl
theorem am_tab171 : am_tab 171 = am_t171 := rfl
theorem am_tab172 : am_tab 172 = am_t172 := rfl
theorem am_tab173 : am_tab 173 = am_t173 := rfl
theorem am_tab174 : am_tab 174 = am_t174 := rfl
theorem am_tab175 : am_tab 175 = am_t175 := rfl
theorem am_tab176 : am_tab 176 = am_t176 := rfl
theorem am_tab177 : am_tab 177 = am_t177 := rfl
theorem am_tab178 : am_tab 178 = am_t178 := rfl
theorem am_tab179 : am_tab 179 = am_t179 := rfl
theorem am_tab180 : am_tab 180 = am_t180 := rfl
theorem am_tab181 : am_tab 181 = am_t181 := rfl
theorem am_tab182 : am_tab 182 = am_t182 := rfl
theorem am_tab183 : am_tab 183 = am_t183 := rfl
theorem am_tab184 : am_tab 184 = am_t184 := rfl
theorem am_tab185 : am_tab 185 = am_t185 := rfl
theorem am_tab186 : am_tab 186 = am_t186 := rfl
theorem am_tab187 : am_tab 187 = am_t187 := rfl
theorem am_tab188 : am_tab 188 = am_t188 := rfl
theorem am_tab189 : am_tab 189 = am_t189 := rfl
theorem am_tab190 : am_tab 190 = am_t190 := rfl
theorem am_tab191 : am_tab 191 = am_t191 := rfl
theorem am_tab192 : am_tab 192 = am_t192 := rfl
theorem am_tab193 : am_tab 193 = am_t193 := rfl
theorem am_tab194 : am_tab 194 = am_t194 := rfl
theorem am_tab195 : am_tab 195 = am_t195 := rfl
theorem am_tab196 : am_tab 196 = am_t196 := rfl
theorem am_tab197 : am_tab 197 = am_t197 := rfl
theorem am_tab198 : am_tab 198 = am_t198 := rfl
theorem am_tab199 : am_tab 199 = am_t199 := rfl
theorem am_tab200 : am_tab 200 = am_t200 := rfl
theorem am_tab201 : am_tab 201 = am_t201 := rfl
theorem am_tab202 : am_tab 202 = am_t202 := rfl
theorem am_tab203 : am_tab 203 = am_t203 := rfl
theorem am_tab204 : am_tab 204 = am_t204 := rfl
theorem am_tab205 : am_tab 205 = am_t205 := rfl
theorem am_tab206 : am_tab 206 = am_t206 := rfl
theorem am_tab207 : am_tab 207 = am_t207 := rfl
theorem am_tab208 : am_tab 208 = am_t208 := rfl
theorem am_tab209 : am_tab 209 = am_t209 := rfl
theorem am_tab210 : am_tab 210 = am_t210 := rfl
theorem am_tab211 : am_tab 211 = am_t211 := rfl
theorem am_tab212 : am_tab 212 = am_t212 := rfl
theorem am_tab213 : am_tab 213 = am_t213 := rfl
theorem am_tab214 : am_tab 214 = am_t214 := rfl
theorem am_tab215 : am_tab 215 = am_t215 := rfl
theorem am_tab216 : am_tab 216 = am_t216 := rfl
theorem am_tab217 : am_tab 217 = am_t217 := rfl
theorem am_tab218 : am_tab 218 = am_t218 := rfl
theorem am_tab219 : am_tab 219 = am_t219 := rfl
theorem am_tab220 : am_tab 220 = am_t220 := rfl
theorem am_tab221 : am_tab 221 = am_t221 := rfl
theorem am_tab222 : am_tab 222 = am_t222 := rfl
theorem am_tab223 : am_tab 223 = am_t223 := rfl
theorem am_tab224 : am_tab 224 = am_t224 := rfl
theorem am_tab225 : am_tab 225 = am_t225 := rfl
theorem am_tab226 : am_tab 226 = am_t226 := rfl
theorem am_tab227 : am_tab 227 = am_t227 := rfl
theorem am_tab228 : am_tab 228 = am_t228 := rfl
theorem am_tab229 : am_tab 229 = am_t229 := rfl
theorem am_tab230 : am_tab 230 = am_t230 := rfl
theorem am_tab231 : am_tab 231 = am_t231 := rfl
theorem am_tab232 : am_tab 232 = am_t232 := rfl
theorem am_tab233 : am_tab 233 = am_t233 := rfl
theorem am_tab234 : am_tab 234 = am_t234 := rfl
theorem am_tab235 : am_tab 235 = am_t235 := rfl
theorem am_tab236 : am_tab 236 = am_t236 := rfl
theorem am_tab237 : am_tab 237 = am_t237 := rfl
theorem am_tab238 : am_tab 238 = am_t238 := rfl
theorem am_tab239 : am_tab 239 = am_t239 := rfl
theorem am_tab240 : am_tab 240 = am_t240 := rfl
theorem am_tab241 : am_tab 241 = am_t241 := rfl
theorem am_tab242 : am_tab 242 = am_t242 := rfl
theorem am_tab243 : am_tab 243 = am_t243 := rfl
theorem am_tab244 : am_tab 244 = am_t244 := rfl
theorem am_tab245 : am_tab 245 = am_t245 := rfl
theorem am_tab246 : am_tab 246 = am_t246 := rfl
theorem am_tab247 : am_tab 247 = am_t247 := rfl
theorem am_tab248 : am_tab 248 = am_t248 := rfl
theorem am_tab249 : am_tab 249 = am_t249 := rfl
theorem am_tab250 : am_tab 250 = am_t250 := rfl
theorem am_tab251 : am_tab 251 = am_t251 := rfl
theorem am_tab252 : am_tab 252 = am_t252 := rfl
theorem am_tab253 : am_tab 253 = am_t253 := rfl
theorem am_tab254 : am_tab 254 = am_t254 := rfl
theorem am_tab255 : am_tab 255 = am_t255 := rfl
theorem am_tab256 : am_tab 256 = am_t256 := rfl
theorem am_tab257 : am_tab 257 = am_t257 := rfl
theorem am_tab258 : am_tab 258 = am_t258 := rfl
theorem am_tab259 : am_tab 259 = am_t259 := rfl
theorem am_tab260 : am_tab 260 = am_t260 := rfl
theorem am_tab261 : am_tab 261 = am_t261 := rfl
theorem am_tab262 : am_tab 262 = am_t262 := rfl
theorem am_tab263 : am_tab 263 = am_t263 := rfl
theorem am_tab264 : am_tab 264 = am_t264 := rfl
theorem am_tab265 : am_tab 265 = am_t265 := rfl
theorem am_tab266 : am_tab 266 = am_t266 := rfl
theorem am_tab267 : am_tab 267 = am_t267 := rfl
theorem am_tab268 : am_tab 268 = am_t268 := rfl
theorem am_tab269 : am_tab 269 = am_t269 := rfl
theorem am_tab270 : am_tab 270 = am_t270 := rfl
theorem am_tab271 : am_tab 271 = am_t271 := rfl
theorem am_tab272 : am_tab 272 = am_t272 := rfl
theorem am_tab273 : am_tab 273 = am_t273 := rfl
theorem am_tab274 : am_tab 274 = am_t274 := rfl
theorem am_tab275 : am_tab 275 = am_t275 := rfl
theorem am_tab276 : am_tab 276 = am_t276 := rfl
theorem am_tab277 : am_tab 277 = am_t277 := rfl
theorem am_tab278 : am_tab 278 = am_t278 := rfl
theorem am_tab279 : am_tab 279 = am_t279 := rfl
theorem am_tab280 : am_tab 280 = am_t280 := rfl
theorem am_tab281 : am_tab 281 = am_t281 := rfl
theorem am_tab282 : am_tab 282 = am_t282 := rfl
theorem am_tab283 : am_tab 283 = am_t283 := rfl
theorem am_tab284 : am_tab 284 = am_t284 := rfl
theorem am_tab285 : am_tab 285 = am_t285 := rfl
theorem am_tab286 : am_tab 286 = am_t286 := rfl
theorem am_tab287 : am_tab 287 = am_t287 := rfl
theorem am_tab288 : am_tab 288 = am_t288 := rfl
theorem am_tab289 : am_tab 289 = am_t289 := rfl
theorem am_tab290 : am_tab 290 = am_t290 := rfl
theorem am_tab291 : am_tab 291 = am_t291 := rfl
theorem am_tab292 : am_tab 292 = am_t292 := rfl
theorem am_tab293 : am_tab 293 = am_t293 := rfl
theorem am_tab294 : am_tab 294 = am_t294 := rfl
theorem am_tab295 : am_tab 295 = am_t295 := rfl
theorem am_tab296 : am_tab 296 = am_t296 := rfl
theorem am_tab297 : am_tab 297 = am_t297 := rfl
theorem am_tab298 : am_tab 298 = am_t298 := rfl
theorem am_tab299 : am_tab 299 = am_t299 := rfl
theorem am_tab300 : am_tab 300 = am_t300 := rfl
theorem am_tab301 : am_tab 301 = am_t301 := rfl
theorem am_tab302 : am_tab 302 = am_t302 := rfl
def am_okzP : Nat → List (List (Nat × Instr × Nat)) → Prop
  | _, [] => True
  | b, t :: r => (∀ q ∈ t, am_ok b q.1 q.2.1 q.2.2) ∧ am_okzP (b + 1) r
theorem am_okz_c {b : Nat} {t : List (Nat × Instr × Nat)} {r : List (List (Nat × Instr × Nat))} (h1 : ∀ q ∈ t, am_ok b q.1 q.2.1 q.2.2) (h2 : am_okzP (b + 1) r) : am_okzP b (t :: r) := ⟨h1, h2⟩
theorem am_okz_n {b : Nat} : am_okzP b [] := trivial
theorem am_okz_get : ∀ (l : List (List (Nat × Instr × Nat))) (b i : Nat), am_okzP b l → ∀ q ∈ l.getD i [], am_ok (b + i) q.1 q.2.1 q.2.2
  | [], b, i, _, q, hq => absurd hq (by simp)
  | t :: r, b, 0, h, q, hq => h.1 q (by simpa using hq)
  | t :: r, b, i + 1, h, q, hq => by
    have := am_okz_get r (b + 1) i h.2 q (by simpa using hq)
    rw [show b + 1 + i = b + (i + 1) by omega] at this
    exact this
theorem am_okz_app : ∀ (l r : List (List (Nat × Instr × Nat))) (b : Nat), am_okzP b l → am_okzP (b + l.length) r → am_okzP b (l ++ r)
  | [], r, b, _, h => h
  | t :: l, r, b, h, h2 => ⟨h.1, am_okz_app l r (b + 1) h.2 (by rw [show b + 1 + l.length = b + (t :: l).length by simp; omega]; exact h2)⟩
theorem am_okz0 : am_okzP 0 am_tb0 := show am_okzP 0 [am_t0, am_t1, am_t2, am_t3, am_t4, am_t5, am_t6, am_t7, am_t8, am_t9, am_t10, am_t11, am_t12, am_t13, am_t14, am_t15, am_t16, am_t17, am_t18, am_t19, am_t20, am_t21, am_t22, am_t23, am_t24, am_t25, am_t26, am_t27, am_t28, am_t29, am_t30, am_t31, am_t32, am_t33, am_t34, am_t35, am_t36, am_t37, am_t38, am_t39, am_t40, am_t41, am_t42, am_t43, am_t44, am_t45, am_t46, am_t47, am_t48, am_t49] from am_okz_c (b := 0) am_ot0 (am_okz_c (b := 1) am_ot1 (am_okz_c (b := 2) am_ot2 (am_okz_c (b := 3) am_ot3 (am_okz_c (b := 4) am_ot4 (am_okz_c (b := 5) am_ot5 (am_okz_c (b := 6) am_ot6 (am_okz_c (b := 7) am_ot7 (am_okz_c (b := 8) am_ot8 (am_okz_c (b := 9) am_ot9 (am_okz_c (b := 10) am_ot10 (am_okz_c (b := 11) am_ot11 (am_okz_c (b := 12) am_ot12 (am_okz_c (b := 13) am_ot13 (am_okz_c (b := 14) am_ot14 (am_okz_c (b := 15) am_ot15 (am_okz_c (b := 16) am_ot16 (am_okz_c (b := 17) am_ot17 (am_okz_c (b := 18) am_ot18 (am_okz_c (b := 19) am_ot19 (am_okz_c (b := 20) am_ot20 (am_okz_c (b := 21) am_ot21 (am_okz_c (b := 22) am_ot22 (am_okz_c (b := 23) am_ot23 (am_okz_c (b := 24) am_ot24 (am_okz_c (b := 25) am_ot25 (am_okz_c (b := 26) am_ot26 (am_okz_c (b := 27) am_ot27 (am_okz_c (b := 28) am_ot28 (am_okz_c (b := 29) am_ot29 (am_okz_c (b := 30) am_ot30 (am_okz_c (b := 31) am_ot31 (am_okz_c (b := 32) am_ot32 (am_okz_c (b := 33) am_ot33 (am_okz_c (b := 34) am_ot34 (am_okz_c (b := 35) am_ot35 (am_okz_c (b := 36) am_ot36 (am_okz_c (b := 37) am_ot37 (am_okz_c (b := 38) am_ot38 (am_okz_c (b := 39) am_ot39 (am_okz_c (b := 40) am_ot40 (am_okz_c (b := 41) am_ot41 (am_okz_c (b := 42) am_ot42 (am_okz_c (b := 43) am_ot43 (am_okz_c (b := 44) am_ot44 (am_okz_c (b := 45) am_ot45 (am_okz_c (b := 46) am_ot46 (am_okz_c (b := 47) am_ot47 (am_okz_c (b := 48) am_ot48 (am_okz_c (b := 49) am_ot49 (am_okz_n))))))))))))))))))))))))))))))))))))))))))))))))))
theorem am_okz1 : am_okzP 50 am_tb1 := show am_okzP 50 [am_t50, am_t51, am_t52, am_t53, am_t54, am_t55, am_t56, am_t57, am_t58, am_t59, am_t60, am_t61, am_t62, am_t63, am_t64, am_t65, am_t66, am_t67, am_t68, am_t69, am_t70, am_t71, am_t72, am_t73, am_t74, am_t75, am_t76, am_t77, am_t78, am_t79, am_t80, am_t81, am_t82, am_t83, am_t84, am_t85, am_t86, am_t87, am_t88, am_t89, am_t90, am_t91, am_t92, am_t93, am_t94, am_t95, am_t96, am_t97, am_t98, am_t99] from am_okz_c (b := 50) am_ot50 (am_okz_c (b := 51) am_ot51 (am_okz_c (b := 52) am_ot52 (am_okz_c (b := 53) am_ot53 (am_okz_c (b := 54) am_ot54 (am_okz_c (b := 55) am_ot55 (am_okz_c (b := 56) am_ot56 (am_okz_c (b := 57) am_ot57 (am_okz_c (b := 58) am_ot58 (am_okz_c (b := 59) am_ot59 (am_okz_c (b := 60) am_ot60 (am_okz_c (b := 61) am_ot61 (am_okz_c (b := 62) am_ot62 (am_okz_c (b := 63) am_ot63 (am_okz_c (b := 64) am_ot64 (am_okz_c (b := 65) am_ot65 (am_okz_c (b := 66) am_ot66 (am_okz_c (b := 67) am_ot67 (am_okz_c (b := 68) am_ot68 (am_okz_c (b := 69) am_ot69 (am_okz_c (b := 70) am_ot70 (am_okz_c (b := 71) am_ot71 (am_okz_c (b := 72) am_ot72 (am_okz_c (b := 73) am_ot73 (am_okz_c (b := 74) am_ot74 (am_okz_c (b := 75) am_ot75 (am_okz_c (b := 76) am_ot76 (am_okz_c (b := 77) am_ot77 (am_okz_c (b := 78) am_ot78 (am_okz_c (b := 79) am_ot79 (am_okz_c (b := 80) am_ot80 (am_okz_c (b := 81) am_ot81 (am_okz_c (b := 82) am_ot82 (am_okz_c (b := 83) am_ot83 (am_okz_c (b := 84) am_ot84 (am_okz_c (b := 85) am_ot85 (am_okz_c (b := 86) am_ot86 (am_okz_c (b := 87) am_ot87 (am_okz_c (b := 88) am_ot88 (am_okz_c (b := 89) am_ot89 (am_okz_c (b := 90) am_ot90 (am_okz_c (b := 91) am_ot91 (am_okz_c (b := 92) am_ot92 (am_okz_c (b := 93) am_ot93 (am_okz_c (b := 94) am_ot94 (am_okz_c (b := 95) am_ot95 (am_okz_c (b := 96) am_ot96 (am_okz_c (b := 97) am_ot97 (am_okz_c (b := 98) am_ot98 (am_okz_c (b := 99) am_ot99 (am_okz_n))))))))))))))))))))))))))))))))))))))))))))))))))
theorem am_okz2 : am_okzP 100 am_tb2 := show am_okzP 100 [am_t100, am_t101, am_t102, am_t103, am_t104, am_t105, am_t106, am_t107, am_t108, am_t109, am_t110, am_t111, am_t112, am_t113, am_t114, am_t115, am_t116, am_t117, am_t118, am_t119, am_t120, am_t121, am_t122, am_t123, am_t124, am_t125, am_t126, am_t127, am_t128, am_t129, am_t130, am_t131, am_t132, am_t133, am_t134, am_t135, am_t136, am_t137, am_t138, am_t139, am_t140, am_t141, am_t142, am_t143, am_t144, am_t145, am_t146, am_t147, am_t148, am_t149] from am_okz_c (b := 100) am_ot100 (am_okz_c (b := 101) am_ot101 (am_okz_c (b := 102) am_ot102 (am_okz_c (b := 103) am_ot103 (am_okz_c (b := 104) am_ot104 (am_okz_c (b := 105) am_ot105 (am_okz_c (b := 106) am_ot106 (am_okz_c (b := 107) am_ot107 (am_okz_c (b := 108) am_ot108 (am_okz_c (b := 109) am_ot109 (am_okz_c (b := 110) am_ot110 (am_okz_c (b := 111) am_ot111 (am_okz_c (b := 112) am_ot112 (am_okz_c (b := 113) am_ot113 (am_okz_c (b := 114) am_ot114 (am_okz_c (b := 115) am_ot115 (am_okz_c (b := 116) am_ot116 (am_okz_c (b := 117) am_ot117 (am_okz_c (b := 118) am_ot118 (am_okz_c (b := 119) am_ot119 (am_okz_c (b := 120) am_ot120 (am_okz_c (b := 121) am_ot121 (am_okz_c (b := 122) am_ot122 (am_okz_c (b := 123) am_ot123 (am_okz_c (b := 124) am_ot124 (am_okz_c (b := 125) am_ot125 (am_okz_c (b := 126) am_ot126 (am_okz_c (b := 127) am_ot127 (am_okz_c (b := 128) am_ot128 (am_okz_c (b := 129) am_ot129 (am_okz_c (b := 130) am_ot130 (am_okz_c (b := 131) am_ot131 (am_okz_c (b := 132) am_ot132 (am_okz_c (b := 133) am_ot133 (am_okz_c (b := 134) am_ot134 (am_okz_c (b := 135) am_ot135 (am_okz_c (b := 136) am_ot136 (am_okz_c (b := 137) am_ot137 (am_okz_c (b := 138) am_ot138 (am_okz_c (b := 139) am_ot139 (am_okz_c (b := 140) am_ot140 (am_okz_c (b := 141) am_ot141 (am_okz_c (b := 142) am_ot142 (am_okz_c (b := 143) am_ot143 (am_okz_c (b := 144) am_ot144 (am_okz_c (b := 145) am_ot145 (am_okz_c (b := 146) am_ot146 (am_okz_c (b := 147) am_ot147 (am_okz_c (b := 148) am_ot148 (am_okz_c (b := 149) am_ot149 (am_okz_n))))))))))))))))))))))))))))))))))))))))))))))))))
theorem am_okz3 : am_okzP 150 am_tb3 := show am_okzP 150 [am_t150, am_t151, am_t152, am_t153, am_t154, am_t155, am_t156, am_t157, am_t158, am_t159, am_t160, am_t161, am_t162, am_t163, am_t164, am_t165, am_t166, am_t167, am_t168, am_t169, am_t170, am_t171, am_t172, am_t173, am_t174, am_t175, am_t176, am_t177, am_t178, am_t179, am_t180, am_t181, am_t182, am_t183, am_t184, am_t185, am_t186, am_t187, am_t188, am_t189, am_t190, am_t191, am_t192, am_t193, am_t194, am_t195, am_t196, am_t197, am_t198, am_t199] from am_okz_c (b := 150) am_ot150 (am_okz_c (b := 151) am_ot151 (am_okz_c (b := 152) am_ot152 (am_okz_c (b := 153) am_ot153 (am_okz_c (b := 154) am_ot154 (am_okz_c (b := 155) am_ot155 (am_okz_c (b := 156) am_ot156 (am_okz_c (b := 157) am_ot157 (am_okz_c (b := 158) am_ot158 (am_okz_c (b := 159) am_ot159 (am_okz_c (b := 160) am_ot160 (am_okz_c (b := 161) am_ot161 (am_okz_c (b := 162) am_ot162 (am_okz_c (b := 163) am_ot163 (am_okz_c (b := 164) am_ot164 (am_okz_c (b := 165) am_ot165 (am_okz_c (b := 166) am_ot166 (am_okz_c (b := 167) am_ot167 (am_okz_c (b := 168) am_ot168 (am_okz_c (b := 169) am_ot169 (am_okz_c (b := 170) am_ot170 (am_okz_c (b := 171) am_ot171 (am_okz_c (b := 172) am_ot172 (am_okz_c (b := 173) am_ot173 (am_okz_c (b := 174) am_ot174 (am_okz_c (b := 175) am_ot175 (am_okz_c (b := 176) am_ot176 (am_okz_c (b := 177) am_ot177 (am_okz_c (b := 178) am_ot178 (am_okz_c (b := 179) am_ot179 (am_okz_c (b := 180) am_ot180 (am_okz_c (b := 181) am_ot181 (am_okz_c (b := 182) am_ot182 (am_okz_c (b := 183) am_ot183 (am_okz_c (b := 184) am_ot184 (am_okz_c (b := 185) am_ot185 (am_okz_c (b := 186) am_ot186 (am_okz_c (b := 187) am_ot187 (am_okz_c (b := 188) am_ot188 (am_okz_c (b := 189) am_ot189 (am_okz_c (b := 190) am_ot190 (am_okz_c (b := 191) am_ot191 (am_okz_c (b := 192) am_ot192 (am_okz_c (b := 193) am_ot193 (am_okz_c (b := 194) am_ot194 (am_okz_c (b := 195) am_ot195 (am_okz_c (b := 196) am_ot196 (am_okz_c (b := 197) am_ot197 (am_okz_c (b := 198) am_ot198 (am_okz_c (b := 199) am_ot199 (am_okz_n))))))))))))))))))))))))))))))))))))))))))))))))))
theorem am_okz4 : am_okzP 200 am_tb4 := show am_okzP 200 [am_t200, am_t201, am_t202, am_t203, am_t204, am_t205, am_t206, am_t207, am_t208, am_t209, am_t210, am_t211, am_t212, am_t213, am_t214, am_t215, am_t216, am_t217, am_t218, am_t219, am_t220, am_t221, am_t222, am_t223, am_t224, am_t225, am_t226, am_t227, am_t228, am_t229, am_t230, am_t231, am_t232, am_t233, am_t234, am_t235, am_t236, am_t237, am_t238, am_t239, am_t240, am_t241, am_t242, am_t243, am_t244, am_t245, am_t246, am_t247, am_t248, am_t249] from am_okz_c (b := 200) am_ot200 (am_okz_c (b := 201) am_ot201 (am_okz_c (b := 202) am_ot202 (am_okz_c (b := 203) am_ot203 (am_okz_c (b := 204) am_ot204 (am_okz_c (b := 205) am_ot205 (am_okz_c (b := 206) am_ot206 (am_okz_c (b := 207) am_ot207 (am_okz_c (b := 208) am_ot208 (am_okz_c (b := 209) am_ot209 (am_okz_c (b := 210) am_ot210 (am_okz_c (b := 211) am_ot211 (am_okz_c (b := 212) am_ot212 (am_okz_c (b := 213) am_ot213 (am_okz_c (b := 214) am_ot214 (am_okz_c (b := 215) am_ot215 (am_okz_c (b := 216) am_ot216 (am_okz_c (b := 217) am_ot217 (am_okz_c (b := 218) am_ot218 (am_okz_c (b := 219) am_ot219 (am_okz_c (b := 220) am_ot220 (am_okz_c (b := 221) am_ot221 (am_okz_c (b := 222) am_ot222 (am_okz_c (b := 223) am_ot223 (am_okz_c (b := 224) am_ot224 (am_okz_c (b := 225) am_ot225 (am_okz_c (b := 226) am_ot226 (am_okz_c (b := 227) am_ot227 (am_okz_c (b := 228) am_ot228 (am_okz_c (b := 229) am_ot229 (am_okz_c (b := 230) am_ot230 (am_okz_c (b := 231) am_ot231 (am_okz_c (b := 232) am_ot232 (am_okz_c (b := 233) am_ot233 (am_okz_c (b := 234) am_ot234 (am_okz_c (b := 235) am_ot235 (am_okz_c (b := 236) am_ot236 (am_okz_c (b := 237) am_ot237 (am_okz_c (b := 238) am_ot238 (am_okz_c (b := 239) am_ot239 (am_okz_c (b := 240) am_ot240 (am_okz_c (b := 241) am_ot241 (am_okz_c (b := 242) am_ot242 (am_okz_c (b := 243) am_ot243 (am_okz_c (b := 244) am_ot244 (am_okz_c (b := 245) am_ot245 (am_okz_c (b := 246) am_ot246 (am_okz_c (b := 247) am_ot247 (am_okz_c (b := 248) am_ot248 (am_okz_c (b := 249) am_ot249 (am_okz_n))))))))))))))))))))))))))))))))))))))))))))))))))
theorem am_okz5 : am_okzP 250 am_tb5 := show am_okzP 250 [am_t250, am_t251, am_t252, am_t253, am_t254, am_t255, am_t256, am_t257, am_t258, am_t259, am_t260, am_t261, am_t262, am_t263, am_t264, am_t265, am_t266, am_t267, am_t268, am_t269, am_t270, am_t271, am_t272, am_t273, am_t274, am_t275, am_t276, am_t277, am_t278, am_t279, am_t280, am_t281, am_t282, am_t283, am_t284, am_t285, am_t286, am_t287, am_t288, am_t289, am_t290, am_t291, am_t292, am_t293, am_t294, am_t295, am_t296, am_t297, am_t298, am_t299] from am_okz_c (b := 250) am_ot250 (am_okz_c (b := 251) am_ot251 (am_okz_c (b := 252) am_ot252 (am_okz_c (b := 253) am_ot253 (am_okz_c (b := 254) am_ot254 (am_okz_c (b := 255) am_ot255 (am_okz_c (b := 256) am_ot256 (am_okz_c (b := 257) am_ot257 (am_okz_c (b := 258) am_ot258 (am_okz_c (b := 259) am_ot259 (am_okz_c (b := 260) am_ot260 (am_okz_c (b := 261) am_ot261 (am_okz_c (b := 262) am_ot262 (am_okz_c (b := 263) am_ot263 (am_okz_c (b := 264) am_ot264 (am_okz_c (b := 265) am_ot265 (am_okz_c (b := 266) am_ot266 (am_okz_c (b := 267) am_ot267 (am_okz_c (b := 268) am_ot268 (am_okz_c (b := 269) am_ot269 (am_okz_c (b := 270) am_ot270 (am_okz_c (b := 271) am_ot271 (am_okz_c (b := 272) am_ot272 (am_okz_c (b := 273) am_ot273 (am_okz_c (b := 274) am_ot274 (am_okz_c (b := 275) am_ot275 (am_okz_c (b := 276) am_ot276 (am_okz_c (b := 277) am_ot277 (am_okz_c (b := 278) am_ot278 (am_okz_c (b := 279) am_ot279 (am_okz_c (b := 280) am_ot280 (am_okz_c (b := 281) am_ot281 (am_okz_c (b := 282) am_ot282 (am_okz_c (b := 283) am_ot283 (am_okz_c (b := 284) am_ot284 (am_okz_c (b := 285) am_ot285 (am_okz_c (b := 286) am_ot286 (am_okz_c (b := 287) am_ot287 (am_okz_c (b := 288) am_ot288 (am_okz_c (b := 289) am_ot289 (am_okz_c (b := 290) am_ot290 (am_okz_c (b := 291) am_ot291 (am_okz_c (b := 292) am_ot292 (am_okz_c (b := 293) am_ot293 (am_okz_c (b := 294) am_ot294 (am_okz_c (b := 295) am_ot295 (am_okz_c (b := 296) am_ot296 (am_okz_c (b := 297) am_ot297 (am_okz_c (b := 298) am_ot298 (am_okz_c (b := 299) am_ot299 (am_okz_n))))))))))))))))))))))))))))))))))))))))))))))))))
theorem am_okz6 : am_okzP 300 am_tb6 := show am_okzP 300 [am_t300, am_t301, am_t302] from am_okz_c (b := 300) am_ot300 (am_okz_c (b := 301) am_ot301 (am_okz_c (b := 302) am_ot302 (am_okz_n)))
theorem am_okzall : am_okzP 0 am_tb := am_okz_app _ _ _ am_okz0 (am_okz_app _ _ _ am_okz1 (am_okz_app _ _ _ am_okz2 (am_okz_app _ _ _ am_okz3 (am_okz_app _ _ _ am_okz4 (am_okz_app _ _ _ am_okz5 (am_okz6))))))
theorem am_okall (j : Nat) (q : Nat × Instr × Nat) (hq : q ∈ am_tab j) : am_ok j q.1 q.2.1 q.2.2 := by
  have := am_okz_get am_tb 0 j am_okzall q hq
  rwa [Nat.zero_add] at this

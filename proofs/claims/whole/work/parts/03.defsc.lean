def L_law_L18 (xs : Nat → Int32) (nx : Nat) (a1 : Nat) (a2 : Nat) : Nat → Int32 → Mem → Option (Int32 × Mem)
  | 0, _, _ => none
  | n + 1, x3, μ =>
      if ((Int32.ofNat nx) - 8) < x3 then
      some (1, μ)
      else
      (xsA xs nx x3).bind fun v2 =>
      if (v2 &&& 31) = Int32.ofNat 0 then
      (xsA xs nx (x3 + 1)).bind fun v4 =>
      (xsA xs nx (x3 + 2)).bind fun v5 =>
      (xsA xs nx (x3 + 3)).bind fun v6 =>
      (vO 10 a1 μ).bind fun g7 =>
      (X10_move a1 v4 v5 v6 μ).bind fun z8 =>
      (xsA xs nx (x3 + 1)).bind fun v9 =>
      (xsA xs nx (x3 + 2)).bind fun v10 =>
      (xsA xs nx (x3 + 3)).bind fun v11 =>
      (vO 11 a2 z8.2).bind fun g12 =>
      (X11_move a2 v9 v10 v11 z8.2).bind fun z13 =>
      if z8.1 = z13.1 then
      L_law_L18 xs nx a1 a2 n (x3 + 8) z13.2
      else
      some (0, z13.2)
      else
      if (v2 &&& 31) = Int32.ofNat 1 then
      (xsA xs nx (x3 + 1)).bind fun v16 =>
      (xsA xs nx (x3 + 2)).bind fun v17 =>
      (xsA xs nx (x3 + 3)).bind fun v18 =>
      (vO 10 a1 μ).bind fun g19 =>
      (X10_shows a1 v16 v17 v18 μ).bind fun z20 =>
      (xsA xs nx (x3 + 1)).bind fun v21 =>
      (xsA xs nx (x3 + 2)).bind fun v22 =>
      (xsA xs nx (x3 + 3)).bind fun v23 =>
      (vO 11 a2 z20.2).bind fun g24 =>
      (X11_shows a2 v21 v22 v23 z20.2).bind fun z25 =>
      if z20.1 = z25.1 then
      L_law_L18 xs nx a1 a2 n (x3 + 8) z25.2
      else
      some (0, z25.2)
      else
      if (v2 &&& 31) = Int32.ofNat 2 then
      (xsA xs nx (x3 + 1)).bind fun v28 =>
      (xsA xs nx (x3 + 2)).bind fun v29 =>
      (vO 10 a1 μ).bind fun g30 =>
      (X10_begins a1 v28 v29 μ).bind fun z31 =>
      (xsA xs nx (x3 + 1)).bind fun v32 =>
      (xsA xs nx (x3 + 2)).bind fun v33 =>
      (vO 11 a2 z31.2).bind fun g34 =>
      (X11_begins a2 v32 v33 z31.2).bind fun z35 =>
      if z31.1 = z35.1 then
      L_law_L18 xs nx a1 a2 n (x3 + 8) z35.2
      else
      some (0, z35.2)
      else
      if (v2 &&& 31) = Int32.ofNat 3 then
      (xsA xs nx (x3 + 1)).bind fun v38 =>
      (vO 10 a1 μ).bind fun g39 =>
      (X10_seams a1 v38 μ).bind fun z40 =>
      (xsA xs nx (x3 + 1)).bind fun v41 =>
      (vO 11 a2 z40.2).bind fun g42 =>
      (X11_seams a2 v41 z40.2).bind fun z43 =>
      if z40.1 = z43.1 then
      L_law_L18 xs nx a1 a2 n (x3 + 8) z43.2
      else
      some (0, z43.2)
      else
      if (v2 &&& 31) = Int32.ofNat 4 then
      (xsA xs nx (x3 + 1)).bind fun v46 =>
      (xsA xs nx (x3 + 2)).bind fun v47 =>
      (vO 10 a1 μ).bind fun g48 =>
      (X10_sign a1 v46 v47 μ).bind fun z49 =>
      (xsA xs nx (x3 + 1)).bind fun v50 =>
      (xsA xs nx (x3 + 2)).bind fun v51 =>
      (vO 11 a2 z49.2).bind fun g52 =>
      (X11_sign a2 v50 v51 z49.2).bind fun z53 =>
      if z49.1 = z53.1 then
      L_law_L18 xs nx a1 a2 n (x3 + 8) z53.2
      else
      some (0, z53.2)
      else
      if (v2 &&& 31) = Int32.ofNat 5 then
      (xsA xs nx (x3 + 1)).bind fun v56 =>
      (vO 10 a1 μ).bind fun g57 =>
      (X10_go a1 v56 μ).bind fun z58 =>
      (xsA xs nx (x3 + 1)).bind fun v59 =>
      (vO 11 a2 z58.2).bind fun g60 =>
      (X11_go a2 v59 z58.2).bind fun z61 =>
      if z58.1 = z61.1 then
      L_law_L18 xs nx a1 a2 n (x3 + 8) z61.2
      else
      some (0, z61.2)
      else
      if (v2 &&& 31) = Int32.ofNat 6 then
      (xsA xs nx (x3 + 1)).bind fun v64 =>
      (xsA xs nx (x3 + 2)).bind fun v65 =>
      (vO 10 a1 μ).bind fun g66 =>
      (X10_fits a1 v64 v65 μ).bind fun z67 =>
      (xsA xs nx (x3 + 1)).bind fun v68 =>
      (xsA xs nx (x3 + 2)).bind fun v69 =>
      (vO 11 a2 z67.2).bind fun g70 =>
      (X11_fits a2 v68 v69 z67.2).bind fun z71 =>
      if z67.1 = z71.1 then
      L_law_L18 xs nx a1 a2 n (x3 + 8) z71.2
      else
      some (0, z71.2)
      else
      if (v2 &&& 31) = Int32.ofNat 7 then
      (xsA xs nx (x3 + 1)).bind fun v74 =>
      (xsA xs nx (x3 + 2)).bind fun v75 =>
      (xsA xs nx (x3 + 3)).bind fun v76 =>
      (vO 10 a1 μ).bind fun g77 =>
      (X10_odds a1 v74 v75 v76 μ).bind fun z78 =>
      (xsA xs nx (x3 + 1)).bind fun v79 =>
      (xsA xs nx (x3 + 2)).bind fun v80 =>
      (xsA xs nx (x3 + 3)).bind fun v81 =>
      (vO 11 a2 z78.2).bind fun g82 =>
      (X11_odds a2 v79 v80 v81 z78.2).bind fun z83 =>
      if z78.1 = z83.1 then
      L_law_L18 xs nx a1 a2 n (x3 + 8) z83.2
      else
      some (0, z83.2)
      else
      if (v2 &&& 31) = Int32.ofNat 8 then
      (xsA xs nx (x3 + 1)).bind fun v86 =>
      (xsA xs nx (x3 + 2)).bind fun v87 =>
      (vO 10 a1 μ).bind fun g88 =>
      (X10_seam a1 v86 v87 μ).bind fun z89 =>
      (xsA xs nx (x3 + 1)).bind fun v90 =>
      (xsA xs nx (x3 + 2)).bind fun v91 =>
      (vO 11 a2 z89.2).bind fun g92 =>
      (X11_seam a2 v90 v91 z89.2).bind fun z93 =>
      if z89.1 = z93.1 then
      L_law_L18 xs nx a1 a2 n (x3 + 8) z93.2
      else
      some (0, z93.2)
      else
      if (v2 &&& 31) = Int32.ofNat 9 then
      (xsA xs nx (x3 + 1)).bind fun v96 =>
      (xsA xs nx (x3 + 2)).bind fun v97 =>
      (vO 10 a1 μ).bind fun g98 =>
      (X10_until a1 v96 v97 μ).bind fun z99 =>
      (xsA xs nx (x3 + 1)).bind fun v100 =>
      (xsA xs nx (x3 + 2)).bind fun v101 =>
      (vO 11 a2 z99.2).bind fun g102 =>
      (X11_until a2 v100 v101 z99.2).bind fun z103 =>
      if z99.1 = z103.1 then
      L_law_L18 xs nx a1 a2 n (x3 + 8) z103.2
      else
      some (0, z103.2)
      else
      if (v2 &&& 31) = Int32.ofNat 10 then
      (xsA xs nx (x3 + 1)).bind fun v106 =>
      (xsA xs nx (x3 + 2)).bind fun v107 =>
      (xsA xs nx (x3 + 3)).bind fun v108 =>
      (xsA xs nx (x3 + 4)).bind fun v109 =>
      (xsA xs nx (x3 + 5)).bind fun v110 =>
      (xsA xs nx (x3 + 6)).bind fun v111 =>
      (xsA xs nx (x3 + 7)).bind fun v112 =>
      (vO 10 a1 μ).bind fun g113 =>
      (X10_thing a1 v106 v107 v108 v109 v110 v111 v112 μ).bind fun z114 =>
      (xsA xs nx (x3 + 1)).bind fun v115 =>
      (xsA xs nx (x3 + 2)).bind fun v116 =>
      (xsA xs nx (x3 + 3)).bind fun v117 =>
      (xsA xs nx (x3 + 4)).bind fun v118 =>
      (xsA xs nx (x3 + 5)).bind fun v119 =>
      (xsA xs nx (x3 + 6)).bind fun v120 =>
      (xsA xs nx (x3 + 7)).bind fun v121 =>
      (vO 11 a2 z114.2).bind fun g122 =>
      (X11_thing a2 v115 v116 v117 v118 v119 v120 v121 z114.2).bind fun z123 =>
      if z114.1 = z123.1 then
      L_law_L18 xs nx a1 a2 n (x3 + 8) z123.2
      else
      some (0, z123.2)
      else
      if (v2 &&& 31) = Int32.ofNat 11 then
      (xsA xs nx (x3 + 1)).bind fun v126 =>
      (vO 10 a1 μ).bind fun g127 =>
      (X10_dead a1 v126 μ).bind fun z128 =>
      (xsA xs nx (x3 + 1)).bind fun v129 =>
      (vO 11 a2 z128.2).bind fun g130 =>
      (X11_dead a2 v129 z128.2).bind fun z131 =>
      if z128.1 = z131.1 then
      L_law_L18 xs nx a1 a2 n (x3 + 8) z131.2
      else
      some (0, z131.2)
      else
      if (v2 &&& 31) = Int32.ofNat 12 then
      (xsA xs nx (x3 + 1)).bind fun v134 =>
      (xsA xs nx (x3 + 2)).bind fun v135 =>
      (vO 10 a1 μ).bind fun g136 =>
      (X10_told a1 v134 v135 μ).bind fun v137 =>
      (xsA xs nx (x3 + 1)).bind fun v138 =>
      (xsA xs nx (x3 + 2)).bind fun v139 =>
      (vO 11 a2 μ).bind fun g140 =>
      (X11_told a2 v138 v139 μ).bind fun v141 =>
      if v137 = v141 then
      L_law_L18 xs nx a1 a2 n (x3 + 8) μ
      else
      some (0, μ)
      else
      if (v2 &&& 31) = Int32.ofNat 13 then
      (xsA xs nx (x3 + 1)).bind fun v144 =>
      (xsA xs nx (x3 + 2)).bind fun v145 =>
      (xsA xs nx (x3 + 3)).bind fun v146 =>
      (vO 10 a1 μ).bind fun g147 =>
      (X10_value a1 v144 v145 v146 μ).bind fun z148 =>
      (xsA xs nx (x3 + 1)).bind fun v149 =>
      (xsA xs nx (x3 + 2)).bind fun v150 =>
      (xsA xs nx (x3 + 3)).bind fun v151 =>
      (vO 11 a2 z148.2).bind fun g152 =>
      (X11_value a2 v149 v150 v151 z148.2).bind fun z153 =>
      if z148.1 = z153.1 then
      L_law_L18 xs nx a1 a2 n (x3 + 8) z153.2
      else
      some (0, z153.2)
      else
      if (v2 &&& 31) = Int32.ofNat 14 then
      (xsA xs nx (x3 + 1)).bind fun v156 =>
      (xsA xs nx (x3 + 2)).bind fun v157 =>
      (xsA xs nx (x3 + 3)).bind fun v158 =>
      (vO 10 a1 μ).bind fun g159 =>
      (X10_cost a1 v156 v157 v158 μ).bind fun z160 =>
      (xsA xs nx (x3 + 1)).bind fun v161 =>
      (xsA xs nx (x3 + 2)).bind fun v162 =>
      (xsA xs nx (x3 + 3)).bind fun v163 =>
      (vO 11 a2 z160.2).bind fun g164 =>
      (X11_cost a2 v161 v162 v163 z160.2).bind fun z165 =>
      if z160.1 = z165.1 then
      L_law_L18 xs nx a1 a2 n (x3 + 8) z165.2
      else
      some (0, z165.2)
      else
      if (v2 &&& 31) = Int32.ofNat 15 then
      (xsA xs nx (x3 + 1)).bind fun v168 =>
      (xsA xs nx (x3 + 2)).bind fun v169 =>
      (vO 10 a1 μ).bind fun g170 =>
      (X10_seen a1 v168 v169 μ).bind fun z171 =>
      (xsA xs nx (x3 + 1)).bind fun v172 =>
      (xsA xs nx (x3 + 2)).bind fun v173 =>
      (vO 11 a2 z171.2).bind fun g174 =>
      (X11_seen a2 v172 v173 z171.2).bind fun z175 =>
      if z171.1 = z175.1 then
      L_law_L18 xs nx a1 a2 n (x3 + 8) z175.2
      else
      some (0, z175.2)
      else
      if (v2 &&& 31) = Int32.ofNat 16 then
      (xsA xs nx (x3 + 1)).bind fun v178 =>
      (xsA xs nx (x3 + 2)).bind fun v179 =>
      (xsA xs nx (x3 + 3)).bind fun v180 =>
      (vO 10 a1 μ).bind fun g181 =>
      (X10_loss a1 v178 v179 v180 μ).bind fun z182 =>
      (xsA xs nx (x3 + 1)).bind fun v183 =>
      (xsA xs nx (x3 + 2)).bind fun v184 =>
      (xsA xs nx (x3 + 3)).bind fun v185 =>
      (vO 11 a2 z182.2).bind fun g186 =>
      (X11_loss a2 v183 v184 v185 z182.2).bind fun z187 =>
      if z182.1 = z187.1 then
      L_law_L18 xs nx a1 a2 n (x3 + 8) z187.2
      else
      some (0, z187.2)
      else
      if (v2 &&& 31) = Int32.ofNat 17 then
      (xsA xs nx (x3 + 1)).bind fun v190 =>
      (vO 10 a1 μ).bind fun g191 =>
      (X10_count a1 v190 μ).bind fun v192 =>
      (xsA xs nx (x3 + 1)).bind fun v193 =>
      (vO 11 a2 μ).bind fun g194 =>
      (X11_count a2 v193 μ).bind fun v195 =>
      if v192 = v195 then
      L_law_L18 xs nx a1 a2 n (x3 + 8) μ
      else
      some (0, μ)
      else
      if (v2 &&& 31) = Int32.ofNat 18 then
      (xsA xs nx (x3 + 1)).bind fun v198 =>
      (xsA xs nx (x3 + 2)).bind fun v199 =>
      (xsA xs nx (x3 + 3)).bind fun v200 =>
      (vO 10 a1 μ).bind fun g201 =>
      (X10_feed a1 v198 ((v199.toInt64 <<< ((32 : Int32).toInt64 &&& 63)) ||| (v200.toInt64 &&& 4294967295)) μ).bind fun z202 =>
      (xsA xs nx (x3 + 1)).bind fun v203 =>
      (xsA xs nx (x3 + 2)).bind fun v204 =>
      (xsA xs nx (x3 + 3)).bind fun v205 =>
      (vO 11 a2 z202.2).bind fun g206 =>
      (X11_feed a2 v203 ((v204.toInt64 <<< ((32 : Int32).toInt64 &&& 63)) ||| (v205.toInt64 &&& 4294967295)) z202.2).bind fun z207 =>
      if z202.1 = z207.1 then
      L_law_L18 xs nx a1 a2 n (x3 + 8) z207.2
      else
      some (0, z207.2)
      else
      if (v2 &&& 31) = Int32.ofNat 19 then
      (xsA xs nx (x3 + 1)).bind fun v210 =>
      (vO 10 a1 μ).bind fun g211 =>
      (X10_read a1 v210 μ).bind fun z212 =>
      (xsA xs nx (x3 + 1)).bind fun v213 =>
      (vO 11 a2 z212.2).bind fun g214 =>
      (X11_read a2 v213 z212.2).bind fun z215 =>
      if z212.1 = z215.1 then
      L_law_L18 xs nx a1 a2 n (x3 + 8) z215.2
      else
      some (0, z215.2)
      else
      if (v2 &&& 31) = Int32.ofNat 20 then
      (vO 10 a1 μ).bind fun g218 =>
      (X10_fault a1 μ).bind fun v219 =>
      (vO 11 a2 μ).bind fun g220 =>
      (X11_fault a2 μ).bind fun v221 =>
      if v219 = v221 then
      L_law_L18 xs nx a1 a2 n (x3 + 8) μ
      else
      some (0, μ)
      else
      if (v2 &&& 31) = Int32.ofNat 21 then
      (xsA xs nx (x3 + 1)).bind fun v224 =>
      (xsA xs nx (x3 + 2)).bind fun v225 =>
      (xsA xs nx (x3 + 3)).bind fun v226 =>
      (vO 10 a1 μ).bind fun g227 =>
      (X10_barred a1 v224 v225 v226 μ).bind fun z228 =>
      (xsA xs nx (x3 + 1)).bind fun v229 =>
      (xsA xs nx (x3 + 2)).bind fun v230 =>
      (xsA xs nx (x3 + 3)).bind fun v231 =>
      (vO 11 a2 z228.2).bind fun g232 =>
      (X11_barred a2 v229 v230 v231 z228.2).bind fun z233 =>
      if z228.1 = z233.1 then
      L_law_L18 xs nx a1 a2 n (x3 + 8) z233.2
      else
      some (0, z233.2)
      else
      if (v2 &&& 31) = Int32.ofNat 22 then
      (xsA xs nx (x3 + 1)).bind fun v236 =>
      (xsA xs nx (x3 + 2)).bind fun v237 =>
      (xsA xs nx (x3 + 3)).bind fun v238 =>
      (xsA xs nx (x3 + 4)).bind fun v239 =>
      (vO 10 a1 μ).bind fun g240 =>
      (X10_plan a1 v236 v237 v238 v239 μ).bind fun z241 =>
      (xsA xs nx (x3 + 1)).bind fun v242 =>
      (xsA xs nx (x3 + 2)).bind fun v243 =>
      (xsA xs nx (x3 + 3)).bind fun v244 =>
      (xsA xs nx (x3 + 4)).bind fun v245 =>
      (vO 11 a2 z241.2).bind fun g246 =>
      (X11_plan a2 v242 v243 v244 v245 z241.2).bind fun z247 =>
      if z241.1 = z247.1 then
      L_law_L18 xs nx a1 a2 n (x3 + 8) z247.2
      else
      some (0, z247.2)
      else
      if (v2 &&& 31) = Int32.ofNat 23 then
      (xsA xs nx (x3 + 1)).bind fun v250 =>
      (xsA xs nx (x3 + 2)).bind fun v251 =>
      (xsA xs nx (x3 + 3)).bind fun v252 =>
      (vO 10 a1 μ).bind fun g253 =>
      (X10_say a1 v250 v251 v252 μ).bind fun z254 =>
      (xsA xs nx (x3 + 1)).bind fun v255 =>
      (xsA xs nx (x3 + 2)).bind fun v256 =>
      (xsA xs nx (x3 + 3)).bind fun v257 =>
      (vO 11 a2 z254.2).bind fun g258 =>
      (X11_say a2 v255 v256 v257 z254.2).bind fun z259 =>
      if z254.1 = z259.1 then
      L_law_L18 xs nx a1 a2 n (x3 + 8) z259.2
      else
      some (0, z259.2)
      else
      if (v2 &&& 31) = Int32.ofNat 24 then
      (xsA xs nx (x3 + 1)).bind fun v262 =>
      (xsA xs nx (x3 + 2)).bind fun v263 =>
      (vO 10 a1 μ).bind fun g264 =>
      (X10_came a1 v262 v263 μ).bind fun z265 =>
      (xsA xs nx (x3 + 1)).bind fun v266 =>
      (xsA xs nx (x3 + 2)).bind fun v267 =>
      (vO 11 a2 z265.2).bind fun g268 =>
      (X11_came a2 v266 v267 z265.2).bind fun z269 =>
      if z265.1 = z269.1 then
      L_law_L18 xs nx a1 a2 n (x3 + 8) z269.2
      else
      some (0, z269.2)
      else
      if (v2 &&& 31) = Int32.ofNat 25 then
      (xsA xs nx (x3 + 1)).bind fun v272 =>
      (xsA xs nx (x3 + 2)).bind fun v273 =>
      (vO 10 a1 μ).bind fun g274 =>
      (X10_saying a1 v272 v273 μ).bind fun v275 =>
      (xsA xs nx (x3 + 1)).bind fun v276 =>
      (xsA xs nx (x3 + 2)).bind fun v277 =>
      (vO 11 a2 μ).bind fun g278 =>
      (X11_saying a2 v276 v277 μ).bind fun v279 =>
      if v275 = v279 then
      L_law_L18 xs nx a1 a2 n (x3 + 8) μ
      else
      some (0, μ)
      else
      if (v2 &&& 31) = Int32.ofNat 26 then
      (xsA xs nx (x3 + 1)).bind fun v282 =>
      (xsA xs nx (x3 + 2)).bind fun v283 =>
      (xsA xs nx (x3 + 3)).bind fun v284 =>
      (vO 10 a1 μ).bind fun g285 =>
      (X10_learnt a1 v282 v283 v284 μ).bind fun v286 =>
      (xsA xs nx (x3 + 1)).bind fun v287 =>
      (xsA xs nx (x3 + 2)).bind fun v288 =>
      (xsA xs nx (x3 + 3)).bind fun v289 =>
      (vO 11 a2 μ).bind fun g290 =>
      (X11_learnt a2 v287 v288 v289 μ).bind fun v291 =>
      if v286 = v291 then
      L_law_L18 xs nx a1 a2 n (x3 + 8) μ
      else
      some (0, μ)
      else
      if (v2 &&& 31) = Int32.ofNat 27 then
      (xsA xs nx (x3 + 1)).bind fun v294 =>
      (xsA xs nx (x3 + 2)).bind fun v295 =>
      (vO 10 a1 μ).bind fun g296 =>
      (X10_who a1 v294 v295 μ).bind fun z297 =>
      (xsA xs nx (x3 + 1)).bind fun v298 =>
      (xsA xs nx (x3 + 2)).bind fun v299 =>
      (vO 11 a2 z297.2).bind fun g300 =>
      (X11_who a2 v298 v299 z297.2).bind fun z301 =>
      if z297.1 = z301.1 then
      L_law_L18 xs nx a1 a2 n (x3 + 8) z301.2
      else
      some (0, z301.2)
      else
      if (v2 &&& 31) = Int32.ofNat 28 then
      (xsA xs nx (x3 + 1)).bind fun v304 =>
      (xsA xs nx (x3 + 2)).bind fun v305 =>
      (xsA xs nx (x3 + 3)).bind fun v306 =>
      (xsA xs nx (x3 + 4)).bind fun v307 =>
      (vO 10 a1 μ).bind fun g308 =>
      (X10_tried a1 v304 v305 v306 v307 μ).bind fun z309 =>
      (xsA xs nx (x3 + 1)).bind fun v310 =>
      (xsA xs nx (x3 + 2)).bind fun v311 =>
      (xsA xs nx (x3 + 3)).bind fun v312 =>
      (xsA xs nx (x3 + 4)).bind fun v313 =>
      (vO 11 a2 z309.2).bind fun g314 =>
      (X11_tried a2 v310 v311 v312 v313 z309.2).bind fun z315 =>
      if z309.1 = z315.1 then
      L_law_L18 xs nx a1 a2 n (x3 + 8) z315.2
      else
      some (0, z315.2)
      else
      L_law_L18 xs nx a1 a2 n (x3 + 8) μ
def L_law (xs : Nat → Int32) (nx : Nat) (μ : Mem) : Option (Int32 × Mem) :=
  (nO 10 (mN μ + 0) μ).bind fun μ1 =>
  (gN (mN μ + 1) μ1).bind fun g2 =>
  (X10_init (mN μ + 0) μ1).bind fun μ3 =>
  (nO 11 (mN μ + 134) μ3).bind fun μ4 =>
  (gN (mN μ + 135) μ4).bind fun g5 =>
  (X11_init (mN μ + 134) μ4).bind fun μ6 =>
  L_law_L18 xs nx (mN μ + 0) (mN μ + 134) FU 0 μ6

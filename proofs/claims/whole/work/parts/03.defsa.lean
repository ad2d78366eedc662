set_option maxRecDepth 100000 in
def X6_init (a0 : Nat) (μ : Mem) : Option Mem :=
  some μ
set_option maxRecDepth 100000 in
def X5_init (a0 : Nat) (μ : Mem) : Option Mem :=
  some μ
set_option maxRecDepth 100000 in
def X0_init (a0 : Nat) (μ : Mem) : Option Mem :=
  (nA 6 (mN μ + 0) 10 μ).bind fun μ1 =>
  (pR 0 0 a0 (mN μ + 0) μ1).bind fun μ2 =>
  (nA 5 (mN μ + 1) 40 μ2).bind fun μ3 =>
  (pR 0 1 a0 (mN μ + 1) μ3).bind fun μ4 =>
  (gR 0 0 a0 μ4).bind fun v5 =>
  (nO 6 (mN μ + 2) μ4).bind fun μ6 =>
  (gN (mN μ + 3) μ6).bind fun g7 =>
  (X6_init (mN μ + 2) μ6).bind fun μ8 =>
  (sR 6 6 v5 0 (mN μ + 2) μ8).bind fun μ9 =>
  (gR 0 0 a0 μ9).bind fun v10 =>
  (nO 6 (mN μ + 3) μ9).bind fun μ11 =>
  (gN (mN μ + 4) μ11).bind fun g12 =>
  (X6_init (mN μ + 3) μ11).bind fun μ13 =>
  (sR 6 6 v10 1 (mN μ + 3) μ13).bind fun μ14 =>
  (gR 0 0 a0 μ14).bind fun v15 =>
  (nO 6 (mN μ + 4) μ14).bind fun μ16 =>
  (gN (mN μ + 5) μ16).bind fun g17 =>
  (X6_init (mN μ + 4) μ16).bind fun μ18 =>
  (sR 6 6 v15 2 (mN μ + 4) μ18).bind fun μ19 =>
  (gR 0 0 a0 μ19).bind fun v20 =>
  (nO 6 (mN μ + 5) μ19).bind fun μ21 =>
  (gN (mN μ + 6) μ21).bind fun g22 =>
  (X6_init (mN μ + 5) μ21).bind fun μ23 =>
  (sR 6 6 v20 3 (mN μ + 5) μ23).bind fun μ24 =>
  (gR 0 0 a0 μ24).bind fun v25 =>
  (nO 6 (mN μ + 6) μ24).bind fun μ26 =>
  (gN (mN μ + 7) μ26).bind fun g27 =>
  (X6_init (mN μ + 6) μ26).bind fun μ28 =>
  (sR 6 6 v25 4 (mN μ + 6) μ28).bind fun μ29 =>
  (gR 0 0 a0 μ29).bind fun v30 =>
  (nO 6 (mN μ + 7) μ29).bind fun μ31 =>
  (gN (mN μ + 8) μ31).bind fun g32 =>
  (X6_init (mN μ + 7) μ31).bind fun μ33 =>
  (sR 6 6 v30 5 (mN μ + 7) μ33).bind fun μ34 =>
  (gR 0 0 a0 μ34).bind fun v35 =>
  (nO 6 (mN μ + 8) μ34).bind fun μ36 =>
  (gN (mN μ + 9) μ36).bind fun g37 =>
  (X6_init (mN μ + 8) μ36).bind fun μ38 =>
  (sR 6 6 v35 6 (mN μ + 8) μ38).bind fun μ39 =>
  (gR 0 0 a0 μ39).bind fun v40 =>
  (nO 6 (mN μ + 9) μ39).bind fun μ41 =>
  (gN (mN μ + 10) μ41).bind fun g42 =>
  (X6_init (mN μ + 9) μ41).bind fun μ43 =>
  (sR 6 6 v40 7 (mN μ + 9) μ43).bind fun μ44 =>
  (gR 0 0 a0 μ44).bind fun v45 =>
  (nO 6 (mN μ + 10) μ44).bind fun μ46 =>
  (gN (mN μ + 11) μ46).bind fun g47 =>
  (X6_init (mN μ + 10) μ46).bind fun μ48 =>
  (sR 6 6 v45 8 (mN μ + 10) μ48).bind fun μ49 =>
  (gR 0 0 a0 μ49).bind fun v50 =>
  (nO 6 (mN μ + 11) μ49).bind fun μ51 =>
  (gN (mN μ + 12) μ51).bind fun g52 =>
  (X6_init (mN μ + 11) μ51).bind fun μ53 =>
  (sR 6 6 v50 9 (mN μ + 11) μ53).bind fun μ54 =>
  (gR 0 1 a0 μ54).bind fun v55 =>
  (nO 5 (mN μ + 12) μ54).bind fun μ56 =>
  (gN (mN μ + 13) μ56).bind fun g57 =>
  (X5_init (mN μ + 12) μ56).bind fun μ58 =>
  (sR 5 5 v55 0 (mN μ + 12) μ58).bind fun μ59 =>
  (gR 0 1 a0 μ59).bind fun v60 =>
  (nO 5 (mN μ + 13) μ59).bind fun μ61 =>
  (gN (mN μ + 14) μ61).bind fun g62 =>
  (X5_init (mN μ + 13) μ61).bind fun μ63 =>
  (sR 5 5 v60 1 (mN μ + 13) μ63).bind fun μ64 =>
  (gR 0 1 a0 μ64).bind fun v65 =>
  (nO 5 (mN μ + 14) μ64).bind fun μ66 =>
  (gN (mN μ + 15) μ66).bind fun g67 =>
  (X5_init (mN μ + 14) μ66).bind fun μ68 =>
  (sR 5 5 v65 2 (mN μ + 14) μ68).bind fun μ69 =>
  (gR 0 1 a0 μ69).bind fun v70 =>
  (nO 5 (mN μ + 15) μ69).bind fun μ71 =>
  (gN (mN μ + 16) μ71).bind fun g72 =>
  (X5_init (mN μ + 15) μ71).bind fun μ73 =>
  (sR 5 5 v70 3 (mN μ + 15) μ73).bind fun μ74 =>
  (gR 0 1 a0 μ74).bind fun v75 =>
  (nO 5 (mN μ + 16) μ74).bind fun μ76 =>
  (gN (mN μ + 17) μ76).bind fun g77 =>
  (X5_init (mN μ + 16) μ76).bind fun μ78 =>
  (sR 5 5 v75 4 (mN μ + 16) μ78).bind fun μ79 =>
  (gR 0 1 a0 μ79).bind fun v80 =>
  (nO 5 (mN μ + 17) μ79).bind fun μ81 =>
  (gN (mN μ + 18) μ81).bind fun g82 =>
  (X5_init (mN μ + 17) μ81).bind fun μ83 =>
  (sR 5 5 v80 5 (mN μ + 17) μ83).bind fun μ84 =>
  (gR 0 1 a0 μ84).bind fun v85 =>
  (nO 5 (mN μ + 18) μ84).bind fun μ86 =>
  (gN (mN μ + 19) μ86).bind fun g87 =>
  (X5_init (mN μ + 18) μ86).bind fun μ88 =>
  (sR 5 5 v85 6 (mN μ + 18) μ88).bind fun μ89 =>
  (gR 0 1 a0 μ89).bind fun v90 =>
  (nO 5 (mN μ + 19) μ89).bind fun μ91 =>
  (gN (mN μ + 20) μ91).bind fun g92 =>
  (X5_init (mN μ + 19) μ91).bind fun μ93 =>
  (sR 5 5 v90 7 (mN μ + 19) μ93).bind fun μ94 =>
  (gR 0 1 a0 μ94).bind fun v95 =>
  (nO 5 (mN μ + 20) μ94).bind fun μ96 =>
  (gN (mN μ + 21) μ96).bind fun g97 =>
  (X5_init (mN μ + 20) μ96).bind fun μ98 =>
  (sR 5 5 v95 8 (mN μ + 20) μ98).bind fun μ99 =>
  (gR 0 1 a0 μ99).bind fun v100 =>
  (nO 5 (mN μ + 21) μ99).bind fun μ101 =>
  (gN (mN μ + 22) μ101).bind fun g102 =>
  (X5_init (mN μ + 21) μ101).bind fun μ103 =>
  (sR 5 5 v100 9 (mN μ + 21) μ103).bind fun μ104 =>
  (gR 0 1 a0 μ104).bind fun v105 =>
  (nO 5 (mN μ + 22) μ104).bind fun μ106 =>
  (gN (mN μ + 23) μ106).bind fun g107 =>
  (X5_init (mN μ + 22) μ106).bind fun μ108 =>
  (sR 5 5 v105 10 (mN μ + 22) μ108).bind fun μ109 =>
  (gR 0 1 a0 μ109).bind fun v110 =>
  (nO 5 (mN μ + 23) μ109).bind fun μ111 =>
  (gN (mN μ + 24) μ111).bind fun g112 =>
  (X5_init (mN μ + 23) μ111).bind fun μ113 =>
  (sR 5 5 v110 11 (mN μ + 23) μ113).bind fun μ114 =>
  (gR 0 1 a0 μ114).bind fun v115 =>
  (nO 5 (mN μ + 24) μ114).bind fun μ116 =>
  (gN (mN μ + 25) μ116).bind fun g117 =>
  (X5_init (mN μ + 24) μ116).bind fun μ118 =>
  (sR 5 5 v115 12 (mN μ + 24) μ118).bind fun μ119 =>
  (gR 0 1 a0 μ119).bind fun v120 =>
  (nO 5 (mN μ + 25) μ119).bind fun μ121 =>
  (gN (mN μ + 26) μ121).bind fun g122 =>
  (X5_init (mN μ + 25) μ121).bind fun μ123 =>
  (sR 5 5 v120 13 (mN μ + 25) μ123).bind fun μ124 =>
  (gR 0 1 a0 μ124).bind fun v125 =>
  (nO 5 (mN μ + 26) μ124).bind fun μ126 =>
  (gN (mN μ + 27) μ126).bind fun g127 =>
  (X5_init (mN μ + 26) μ126).bind fun μ128 =>
  (sR 5 5 v125 14 (mN μ + 26) μ128).bind fun μ129 =>
  (gR 0 1 a0 μ129).bind fun v130 =>
  (nO 5 (mN μ + 27) μ129).bind fun μ131 =>
  (gN (mN μ + 28) μ131).bind fun g132 =>
  (X5_init (mN μ + 27) μ131).bind fun μ133 =>
  (sR 5 5 v130 15 (mN μ + 27) μ133).bind fun μ134 =>
  (gR 0 1 a0 μ134).bind fun v135 =>
  (nO 5 (mN μ + 28) μ134).bind fun μ136 =>
  (gN (mN μ + 29) μ136).bind fun g137 =>
  (X5_init (mN μ + 28) μ136).bind fun μ138 =>
  (sR 5 5 v135 16 (mN μ + 28) μ138).bind fun μ139 =>
  (gR 0 1 a0 μ139).bind fun v140 =>
  (nO 5 (mN μ + 29) μ139).bind fun μ141 =>
  (gN (mN μ + 30) μ141).bind fun g142 =>
  (X5_init (mN μ + 29) μ141).bind fun μ143 =>
  (sR 5 5 v140 17 (mN μ + 29) μ143).bind fun μ144 =>
  (gR 0 1 a0 μ144).bind fun v145 =>
  (nO 5 (mN μ + 30) μ144).bind fun μ146 =>
  (gN (mN μ + 31) μ146).bind fun g147 =>
  (X5_init (mN μ + 30) μ146).bind fun μ148 =>
  (sR 5 5 v145 18 (mN μ + 30) μ148).bind fun μ149 =>
  (gR 0 1 a0 μ149).bind fun v150 =>
  (nO 5 (mN μ + 31) μ149).bind fun μ151 =>
  (gN (mN μ + 32) μ151).bind fun g152 =>
  (X5_init (mN μ + 31) μ151).bind fun μ153 =>
  (sR 5 5 v150 19 (mN μ + 31) μ153).bind fun μ154 =>
  (gR 0 1 a0 μ154).bind fun v155 =>
  (nO 5 (mN μ + 32) μ154).bind fun μ156 =>
  (gN (mN μ + 33) μ156).bind fun g157 =>
  (X5_init (mN μ + 32) μ156).bind fun μ158 =>
  (sR 5 5 v155 20 (mN μ + 32) μ158).bind fun μ159 =>
  (gR 0 1 a0 μ159).bind fun v160 =>
  (nO 5 (mN μ + 33) μ159).bind fun μ161 =>
  (gN (mN μ + 34) μ161).bind fun g162 =>
  (X5_init (mN μ + 33) μ161).bind fun μ163 =>
  (sR 5 5 v160 21 (mN μ + 33) μ163).bind fun μ164 =>
  (gR 0 1 a0 μ164).bind fun v165 =>
  (nO 5 (mN μ + 34) μ164).bind fun μ166 =>
  (gN (mN μ + 35) μ166).bind fun g167 =>
  (X5_init (mN μ + 34) μ166).bind fun μ168 =>
  (sR 5 5 v165 22 (mN μ + 34) μ168).bind fun μ169 =>
  (gR 0 1 a0 μ169).bind fun v170 =>
  (nO 5 (mN μ + 35) μ169).bind fun μ171 =>
  (gN (mN μ + 36) μ171).bind fun g172 =>
  (X5_init (mN μ + 35) μ171).bind fun μ173 =>
  (sR 5 5 v170 23 (mN μ + 35) μ173).bind fun μ174 =>
  (gR 0 1 a0 μ174).bind fun v175 =>
  (nO 5 (mN μ + 36) μ174).bind fun μ176 =>
  (gN (mN μ + 37) μ176).bind fun g177 =>
  (X5_init (mN μ + 36) μ176).bind fun μ178 =>
  (sR 5 5 v175 24 (mN μ + 36) μ178).bind fun μ179 =>
  (gR 0 1 a0 μ179).bind fun v180 =>
  (nO 5 (mN μ + 37) μ179).bind fun μ181 =>
  (gN (mN μ + 38) μ181).bind fun g182 =>
  (X5_init (mN μ + 37) μ181).bind fun μ183 =>
  (sR 5 5 v180 25 (mN μ + 37) μ183).bind fun μ184 =>
  (gR 0 1 a0 μ184).bind fun v185 =>
  (nO 5 (mN μ + 38) μ184).bind fun μ186 =>
  (gN (mN μ + 39) μ186).bind fun g187 =>
  (X5_init (mN μ + 38) μ186).bind fun μ188 =>
  (sR 5 5 v185 26 (mN μ + 38) μ188).bind fun μ189 =>
  (gR 0 1 a0 μ189).bind fun v190 =>
  (nO 5 (mN μ + 39) μ189).bind fun μ191 =>
  (gN (mN μ + 40) μ191).bind fun g192 =>
  (X5_init (mN μ + 39) μ191).bind fun μ193 =>
  (sR 5 5 v190 27 (mN μ + 39) μ193).bind fun μ194 =>
  (gR 0 1 a0 μ194).bind fun v195 =>
  (nO 5 (mN μ + 40) μ194).bind fun μ196 =>
  (gN (mN μ + 41) μ196).bind fun g197 =>
  (X5_init (mN μ + 40) μ196).bind fun μ198 =>
  (sR 5 5 v195 28 (mN μ + 40) μ198).bind fun μ199 =>
  (gR 0 1 a0 μ199).bind fun v200 =>
  (nO 5 (mN μ + 41) μ199).bind fun μ201 =>
  (gN (mN μ + 42) μ201).bind fun g202 =>
  (X5_init (mN μ + 41) μ201).bind fun μ203 =>
  (sR 5 5 v200 29 (mN μ + 41) μ203).bind fun μ204 =>
  (gR 0 1 a0 μ204).bind fun v205 =>
  (nO 5 (mN μ + 42) μ204).bind fun μ206 =>
  (gN (mN μ + 43) μ206).bind fun g207 =>
  (X5_init (mN μ + 42) μ206).bind fun μ208 =>
  (sR 5 5 v205 30 (mN μ + 42) μ208).bind fun μ209 =>
  (gR 0 1 a0 μ209).bind fun v210 =>
  (nO 5 (mN μ + 43) μ209).bind fun μ211 =>
  (gN (mN μ + 44) μ211).bind fun g212 =>
  (X5_init (mN μ + 43) μ211).bind fun μ213 =>
  (sR 5 5 v210 31 (mN μ + 43) μ213).bind fun μ214 =>
  (gR 0 1 a0 μ214).bind fun v215 =>
  (nO 5 (mN μ + 44) μ214).bind fun μ216 =>
  (gN (mN μ + 45) μ216).bind fun g217 =>
  (X5_init (mN μ + 44) μ216).bind fun μ218 =>
  (sR 5 5 v215 32 (mN μ + 44) μ218).bind fun μ219 =>
  (gR 0 1 a0 μ219).bind fun v220 =>
  (nO 5 (mN μ + 45) μ219).bind fun μ221 =>
  (gN (mN μ + 46) μ221).bind fun g222 =>
  (X5_init (mN μ + 45) μ221).bind fun μ223 =>
  (sR 5 5 v220 33 (mN μ + 45) μ223).bind fun μ224 =>
  (gR 0 1 a0 μ224).bind fun v225 =>
  (nO 5 (mN μ + 46) μ224).bind fun μ226 =>
  (gN (mN μ + 47) μ226).bind fun g227 =>
  (X5_init (mN μ + 46) μ226).bind fun μ228 =>
  (sR 5 5 v225 34 (mN μ + 46) μ228).bind fun μ229 =>
  (gR 0 1 a0 μ229).bind fun v230 =>
  (nO 5 (mN μ + 47) μ229).bind fun μ231 =>
  (gN (mN μ + 48) μ231).bind fun g232 =>
  (X5_init (mN μ + 47) μ231).bind fun μ233 =>
  (sR 5 5 v230 35 (mN μ + 47) μ233).bind fun μ234 =>
  (gR 0 1 a0 μ234).bind fun v235 =>
  (nO 5 (mN μ + 48) μ234).bind fun μ236 =>
  (gN (mN μ + 49) μ236).bind fun g237 =>
  (X5_init (mN μ + 48) μ236).bind fun μ238 =>
  (sR 5 5 v235 36 (mN μ + 48) μ238).bind fun μ239 =>
  (gR 0 1 a0 μ239).bind fun v240 =>
  (nO 5 (mN μ + 49) μ239).bind fun μ241 =>
  (gN (mN μ + 50) μ241).bind fun g242 =>
  (X5_init (mN μ + 49) μ241).bind fun μ243 =>
  (sR 5 5 v240 37 (mN μ + 49) μ243).bind fun μ244 =>
  (gR 0 1 a0 μ244).bind fun v245 =>
  (nO 5 (mN μ + 50) μ244).bind fun μ246 =>
  (gN (mN μ + 51) μ246).bind fun g247 =>
  (X5_init (mN μ + 50) μ246).bind fun μ248 =>
  (sR 5 5 v245 38 (mN μ + 50) μ248).bind fun μ249 =>
  (gR 0 1 a0 μ249).bind fun v250 =>
  (nO 5 (mN μ + 51) μ249).bind fun μ251 =>
  (gN (mN μ + 52) μ251).bind fun g252 =>
  (X5_init (mN μ + 51) μ251).bind fun μ253 =>
  (sR 5 5 v250 39 (mN μ + 51) μ253).bind fun μ254 =>
  some μ254
def X0_hasThing (a0 : Nat) (x1 : Int32) (μ : Mem) : Option Int32 :=
  ((if x1 < 0 then
  some 0
  else
  (gI 0 2 a0 μ).bind fun v2 =>
  if v2 ≤ x1 then
  some 0
  else
  some 1) : Option (Int32)).bind fun z4 =>
  (zz z4).bind fun v5 =>
  some v5
def X0_hasThings (a0 : Nat) (x1 : Int32) (μ : Mem) : Option Int32 :=
  ((if x1 ≤ 0 then
  some 0
  else
  (gI 0 2 a0 μ).bind fun v2 =>
  if ((1 : Int32) <<< (v2 &&& 31)) ≤ x1 then
  some 0
  else
  some 1) : Option (Int32)).bind fun z4 =>
  (zz z4).bind fun v5 =>
  some v5
def X0_hasSaying (a0 : Nat) (x1 : Int32) (μ : Mem) : Option Int32 :=
  ((if x1 < 0 then
  some 0
  else
  (gI 0 3 a0 μ).bind fun v2 =>
  if v2 ≤ x1 then
  some 0
  else
  some 1) : Option (Int32)).bind fun z4 =>
  (zz z4).bind fun v5 =>
  some v5
def X10_contains (x0 : Int32) (x1 : Int32) : Int32 :=
  (if ((x0 >>> (x1 &&& 31)) &&& 1) = 0 then 0 else 1)
def J6_bitCount_0f7a4 (x0 : Int32) : Int32 :=
  (((((((x0 - (((x0.toUInt32 >>> ((1 : Int32).toUInt32 &&& Int32.toUInt32 31)).toInt32) &&& 1431655765)) &&& 858993459) + ((((x0 - (((x0.toUInt32 >>> ((1 : Int32).toUInt32 &&& Int32.toUInt32 31)).toInt32) &&& 1431655765)).toUInt32 >>> ((2 : Int32).toUInt32 &&& Int32.toUInt32 31)).toInt32) &&& 858993459)) + (((((x0 - (((x0.toUInt32 >>> ((1 : Int32).toUInt32 &&& Int32.toUInt32 31)).toInt32) &&& 1431655765)) &&& 858993459) + ((((x0 - (((x0.toUInt32 >>> ((1 : Int32).toUInt32 &&& Int32.toUInt32 31)).toInt32) &&& 1431655765)).toUInt32 >>> ((2 : Int32).toUInt32 &&& Int32.toUInt32 31)).toInt32) &&& 858993459)).toUInt32 >>> ((4 : Int32).toUInt32 &&& Int32.toUInt32 31)).toInt32)) &&& 252645135) + (((((((x0 - (((x0.toUInt32 >>> ((1 : Int32).toUInt32 &&& Int32.toUInt32 31)).toInt32) &&& 1431655765)) &&& 858993459) + ((((x0 - (((x0.toUInt32 >>> ((1 : Int32).toUInt32 &&& Int32.toUInt32 31)).toInt32) &&& 1431655765)).toUInt32 >>> ((2 : Int32).toUInt32 &&& Int32.toUInt32 31)).toInt32) &&& 858993459)) + (((((x0 - (((x0.toUInt32 >>> ((1 : Int32).toUInt32 &&& Int32.toUInt32 31)).toInt32) &&& 1431655765)) &&& 858993459) + ((((x0 - (((x0.toUInt32 >>> ((1 : Int32).toUInt32 &&& Int32.toUInt32 31)).toInt32) &&& 1431655765)).toUInt32 >>> ((2 : Int32).toUInt32 &&& Int32.toUInt32 31)).toInt32) &&& 858993459)).toUInt32 >>> ((4 : Int32).toUInt32 &&& Int32.toUInt32 31)).toInt32)) &&& 252645135).toUInt32 >>> ((8 : Int32).toUInt32 &&& Int32.toUInt32 31)).toInt32)) + ((((((((x0 - (((x0.toUInt32 >>> ((1 : Int32).toUInt32 &&& Int32.toUInt32 31)).toInt32) &&& 1431655765)) &&& 858993459) + ((((x0 - (((x0.toUInt32 >>> ((1 : Int32).toUInt32 &&& Int32.toUInt32 31)).toInt32) &&& 1431655765)).toUInt32 >>> ((2 : Int32).toUInt32 &&& Int32.toUInt32 31)).toInt32) &&& 858993459)) + (((((x0 - (((x0.toUInt32 >>> ((1 : Int32).toUInt32 &&& Int32.toUInt32 31)).toInt32) &&& 1431655765)) &&& 858993459) + ((((x0 - (((x0.toUInt32 >>> ((1 : Int32).toUInt32 &&& Int32.toUInt32 31)).toInt32) &&& 1431655765)).toUInt32 >>> ((2 : Int32).toUInt32 &&& Int32.toUInt32 31)).toInt32) &&& 858993459)).toUInt32 >>> ((4 : Int32).toUInt32 &&& Int32.toUInt32 31)).toInt32)) &&& 252645135) + (((((((x0 - (((x0.toUInt32 >>> ((1 : Int32).toUInt32 &&& Int32.toUInt32 31)).toInt32) &&& 1431655765)) &&& 858993459) + ((((x0 - (((x0.toUInt32 >>> ((1 : Int32).toUInt32 &&& Int32.toUInt32 31)).toInt32) &&& 1431655765)).toUInt32 >>> ((2 : Int32).toUInt32 &&& Int32.toUInt32 31)).toInt32) &&& 858993459)) + (((((x0 - (((x0.toUInt32 >>> ((1 : Int32).toUInt32 &&& Int32.toUInt32 31)).toInt32) &&& 1431655765)) &&& 858993459) + ((((x0 - (((x0.toUInt32 >>> ((1 : Int32).toUInt32 &&& Int32.toUInt32 31)).toInt32) &&& 1431655765)).toUInt32 >>> ((2 : Int32).toUInt32 &&& Int32.toUInt32 31)).toInt32) &&& 858993459)).toUInt32 >>> ((4 : Int32).toUInt32 &&& Int32.toUInt32 31)).toInt32)) &&& 252645135).toUInt32 >>> ((8 : Int32).toUInt32 &&& Int32.toUInt32 31)).toInt32)).toUInt32 >>> ((16 : Int32).toUInt32 &&& Int32.toUInt32 31)).toInt32)) &&& 63
def X0_isTold_L7 (a0 : Nat) (x1 : Int32) (μ : Mem) : Nat → Int32 → Int32 → Int32 → Option (Int32 × Int32 × Int32)
  | 0, _, _, _ => none
  | n + 1, x2, x3, x4 =>
      (gI 0 3 a0 μ).bind fun v1 =>
      if v1 ≤ x4 then
      some ((x2, x3, x4))
      else
      (gR 0 1 a0 μ).bind fun v3 =>
      (aR 5 v3 x4 μ).bind fun v4 =>
      (gI 5 1 v4 μ).bind fun v5 =>
      ((if (X10_contains v5 x1) = 0 then
      some ((x2, x3))
      else
      (gR 0 1 a0 μ).bind fun v7 =>
      (aR 5 v7 x4 μ).bind fun v8 =>
      (gI 5 4 v8 μ).bind fun v9 =>
      (some (if v9 = 3 then x2 else x2 + 1 : Int32)).bind fun v11 =>
      (gR 0 1 a0 μ).bind fun v12 =>
      (aR 5 v12 x4 μ).bind fun v13 =>
      (gI 5 4 v13 μ).bind fun v14 =>
      if v14 = 1 then
      (gR 0 1 a0 μ).bind fun v16 =>
      (aR 5 v16 x4 μ).bind fun v17 =>
      (gI 5 0 v17 μ).bind fun v18 =>
      some ((v11, x3 ||| (1 <<< (v18 &&& 31))))
      else
      some ((v11, x3))) : Option (Int32 × Int32)).bind fun z19 =>
      X0_isTold_L7 a0 x1 μ n z19.1 z19.2 (x4 + 1)
def X0_isTold (a0 : Nat) (x1 : Int32) (μ : Mem) : Option Int32 :=
  (X0_isTold_L7 a0 x1 μ FU 0 0 0).bind fun z1 =>
  ((if z1.1 ≤ 0 then
  some 0
  else
  (gR 0 0 a0 μ).bind fun v3 =>
  (aR 6 v3 x1 μ).bind fun v4 =>
  (gI 6 1 v4 μ).bind fun v5 =>
  if v5 = 3 then
  if (J6_bitCount_0f7a4 z1.2.1) < 2 then
  some 0
  else
  some 1
  else
  some 1) : Option (Int32)).bind fun z8 =>
  (zz z8).bind fun v9 =>
  some v9
def X0_standing (a0 : Nat) (x1 : Int32) (x2 : Int32) (μ : Mem) : Option Int32 :=
  (gR 0 0 a0 μ).bind fun v1 =>
  (aR 6 v1 x1 μ).bind fun v2 =>
  (gI 6 8 v2 μ).bind fun v3 =>
  if v3 = 0 then
  (vO 0 a0 μ).bind fun g5 =>
  (X0_isTold a0 x1 μ).bind fun v6 =>
  if v6 = 0 then
  (gR 0 0 a0 μ).bind fun v8 =>
  (aR 6 v8 x1 μ).bind fun v9 =>
  (gI 6 6 v9 μ).bind fun v10 =>
  (some (if x2 ≤ v10 then 0 else 3 : Int32)).bind fun v12 =>
  some (v12)
  else
  some (1)
  else
  some (2)
def X0_thingsThatAre_L5 (a0 : Nat) (x1 : Int32) (x2 : Int32) (μ : Mem) : Nat → Int32 → Int32 → Option (Int32 × Int32)
  | 0, _, _ => none
  | n + 1, x3, x4 =>
      (gI 0 2 a0 μ).bind fun v1 =>
      if v1 ≤ x4 then
      some ((x3, x4))
      else
      (vO 0 a0 μ).bind fun g3 =>
      (X0_standing a0 x4 x2 μ).bind fun v4 =>
      (some (if v4 = x1 then x3 + 1 else x3 : Int32)).bind fun v6 =>
      X0_thingsThatAre_L5 a0 x1 x2 μ n v6 (x4 + 1)
def X0_thingsThatAre (a0 : Nat) (x1 : Int32) (x2 : Int32) (μ : Mem) : Option Int32 :=
  (X0_thingsThatAre_L5 a0 x1 x2 μ FU 0 0).bind fun z1 =>
  some (z1.1)
def X0_sayingsWith_L4 (a0 : Nat) (x1 : Int32) (μ : Mem) : Nat → Int32 → Int32 → Option (Int32 × Int32)
  | 0, _, _ => none
  | n + 1, x2, x3 =>
      (gI 0 3 a0 μ).bind fun v1 =>
      if v1 ≤ x3 then
      some ((x2, x3))
      else
      (gR 0 1 a0 μ).bind fun v3 =>
      (aR 5 v3 x3 μ).bind fun v4 =>
      (gI 5 1 v4 μ).bind fun v5 =>
      (some (if (X10_contains v5 x1) = 0 then x2 else x2 + 1 : Int32)).bind fun v7 =>
      X0_sayingsWith_L4 a0 x1 μ n v7 (x3 + 1)
def X0_sayingsWith (a0 : Nat) (x1 : Int32) (μ : Mem) : Option Int32 :=
  (X0_sayingsWith_L4 a0 x1 μ FU 0 0).bind fun z1 =>
  some (z1.1)
def X0_personsWith_L4 (a0 : Nat) (x1 : Int32) (μ : Mem) : Nat → Int32 → Int32 → Option (Int32 × Int32)
  | 0, _, _ => none
  | n + 1, x2, x3 =>
      (gI 0 3 a0 μ).bind fun v1 =>
      if v1 ≤ x3 then
      some ((x2, x3))
      else
      (gR 0 1 a0 μ).bind fun v3 =>
      (aR 5 v3 x3 μ).bind fun v4 =>
      (gI 5 1 v4 μ).bind fun v5 =>
      ((if (X10_contains v5 x1) = 0 then
      some x2
      else
      (gR 0 1 a0 μ).bind fun v7 =>
      (aR 5 v7 x3 μ).bind fun v8 =>
      (gI 5 0 v8 μ).bind fun v9 =>
      some (x2 ||| (1 <<< (v9 &&& 31)))) : Option (Int32)).bind fun z10 =>
      X0_personsWith_L4 a0 x1 μ n z10 (x3 + 1)
def X0_personsWith (a0 : Nat) (x1 : Int32) (μ : Mem) : Option Int32 :=
  (X0_personsWith_L4 a0 x1 μ FU 0 0).bind fun z1 =>
  some (z1.1)
def X0_deadThings_L4 (a0 : Nat) (μ : Mem) : Nat → Int32 → Int32 → Option (Int32 × Int32)
  | 0, _, _ => none
  | n + 1, x1, x2 =>
      (gI 0 2 a0 μ).bind fun v1 =>
      if v1 ≤ x2 then
      some ((x1, x2))
      else
      (gR 0 0 a0 μ).bind fun v3 =>
      (aR 6 v3 x2 μ).bind fun v4 =>
      (gI 6 8 v4 μ).bind fun v5 =>
      (some (if v5 = 0 then x1 else x1 ||| (1 <<< (x2 &&& 31)) : Int32)).bind fun v7 =>
      X0_deadThings_L4 a0 μ n v7 (x2 + 1)
def X0_deadThings (a0 : Nat) (μ : Mem) : Option Int32 :=
  (X0_deadThings_L4 a0 μ FU 0 0).bind fun z1 =>
  some (z1.1)
def X0_canBeSaid_L5 (a0 : Nat) (x1 : Int32) (x2 : Int32) (μ : Mem) : Nat → Int32 → Int32 → Option (Int32)
  | 0, _, _ => none
  | n + 1, x3, x4 =>
      (gI 0 2 a0 μ).bind fun v1 =>
      if v1 ≤ x4 then
      some 1
      else
      if (X10_contains x1 x4) = 0 then
      X0_canBeSaid_L5 a0 x1 x2 μ n x3 (x4 + 1)
      else
      (gR 0 0 a0 μ).bind fun v4 =>
      (aR 6 v4 x4 μ).bind fun v5 =>
      (gI 6 8 v5 μ).bind fun v6 =>
      if v6 = 0 then
      (gI 6 0 v5 μ).bind fun v8 =>
      if (X10_contains v8 x2) = 0 then
      some 0
      else
      if x3 = ((-1)) then
      (gI 6 2 v5 μ).bind fun v11 =>
      X0_canBeSaid_L5 a0 x1 x2 μ n v11 (x4 + 1)
      else
      (gI 6 2 v5 μ).bind fun v12 =>
      if x3 = v12 then
      (gI 6 2 v5 μ).bind fun v14 =>
      X0_canBeSaid_L5 a0 x1 x2 μ n v14 (x4 + 1)
      else
      some 0
      else
      some 0
def X0_canBeSaid (a0 : Nat) (x1 : Int32) (x2 : Int32) (μ : Mem) : Option Int32 :=
  X0_canBeSaid_L5 a0 x1 x2 μ FU ((-1)) 0
def X0_countSaid_L2 (a0 : Nat) (x1 : Int32) (a2 : Nat) : Nat → Int32 → Mem → Option (Int32 × Mem)
  | 0, _, _ => none
  | n + 1, x3, μ =>
      (aL a2 μ).bind fun v1 =>
      if v1 ≤ x3 then
      some ((x3, μ))
      else
      (sI a2 x3 0 μ).bind fun μ3 =>
      X0_countSaid_L2 a0 x1 a2 n (x3 + 1) μ3
def X0_countSaid_L20 (a0 : Nat) (x1 : Int32) (a2 : Nat) : Nat → Int32 → Mem → Option (Int32 × Mem)
  | 0, _, _ => none
  | n + 1, x3, μ =>
      (gI 0 3 a0 μ).bind fun v1 =>
      if v1 ≤ x3 then
      some ((x3, μ))
      else
      (gR 0 1 a0 μ).bind fun v3 =>
      (aR 5 v3 x3 μ).bind fun v4 =>
      (gI 5 3 v4 μ).bind fun v5 =>
      (gR 0 1 a0 μ).bind fun v6 =>
      (aR 5 v6 x3 μ).bind fun v7 =>
      (gI 5 0 v7 μ).bind fun v8 =>
      ((if v8 = x1 then
      if v5 < 0 then
      some μ
      else
      (aL a2 μ).bind fun v11 =>
      if v11 ≤ v5 then
      some μ
      else
      (aI a2 v5 μ).bind fun v13 =>
      (sI a2 v5 (v13 + 1) μ).bind fun μ14 =>
      some μ14
      else
      some μ) : Option (Mem)).bind fun z15 =>
      X0_countSaid_L20 a0 x1 a2 n (x3 + 1) z15
def X0_countSaid (a0 : Nat) (x1 : Int32) (a2 : Nat) (μ : Mem) : Option Mem :=
  (X0_countSaid_L2 a0 x1 a2 FU 0 μ).bind fun z1 =>
  (X0_countSaid_L20 a0 x1 a2 FU 0 z1.2).bind fun z2 =>
  some z2.2
def X0_outcomesBy_L4 (a0 : Nat) (x1 : Int32) (μ : Mem) : Nat → Int32 → Int32 → Option (Int32 × Int32)
  | 0, _, _ => none
  | n + 1, x2, x3 =>
      (gI 0 3 a0 μ).bind fun v1 =>
      if v1 ≤ x3 then
      some ((x2, x3))
      else
      (gR 0 1 a0 μ).bind fun v3 =>
      (aR 5 v3 x3 μ).bind fun v4 =>
      (gI 5 2 v4 μ).bind fun v5 =>
      ((if v5 = x1 then
      (gR 0 1 a0 μ).bind fun v7 =>
      (aR 5 v7 x3 μ).bind fun v8 =>
      (gI 5 4 v8 μ).bind fun v9 =>
      if v9 = 0 then
      some x2
      else
      some (x2 + 1)
      else
      some x2) : Option (Int32)).bind fun z11 =>
      X0_outcomesBy_L4 a0 x1 μ n z11 (x3 + 1)
def X0_outcomesBy (a0 : Nat) (x1 : Int32) (μ : Mem) : Option Int32 :=
  (X0_outcomesBy_L4 a0 x1 μ FU 0 0).bind fun z1 =>
  some (z1.1)
def X0_lookedAtBy_L4 (a0 : Nat) (x1 : Int32) (μ : Mem) : Nat → Int32 → Int32 → Option (Int32 × Int32)
  | 0, _, _ => none
  | n + 1, x2, x3 =>
      (gI 0 3 a0 μ).bind fun v1 =>
      if v1 ≤ x3 then
      some ((x2, x3))
      else
      (gR 0 1 a0 μ).bind fun v3 =>
      (aR 5 v3 x3 μ).bind fun v4 =>
      (gI 5 2 v4 μ).bind fun v5 =>
      ((if v5 = x1 then
      (gR 0 1 a0 μ).bind fun v7 =>
      (aR 5 v7 x3 μ).bind fun v8 =>
      (gI 5 4 v8 μ).bind fun v9 =>
      if v9 = 1 then
      some (x2 + 1)
      else
      some x2
      else
      some x2) : Option (Int32)).bind fun z11 =>
      X0_lookedAtBy_L4 a0 x1 μ n z11 (x3 + 1)
def X0_lookedAtBy (a0 : Nat) (x1 : Int32) (μ : Mem) : Option Int32 :=
  (X0_lookedAtBy_L4 a0 x1 μ FU 0 0).bind fun z1 =>
  some (z1.1)
set_option maxRecDepth 100000 in
def X1_init (a0 : Nat) (μ : Mem) : Option Mem :=
  some μ
def X3_alwaysFrom_L4 (a0 : Nat) (μ : Mem) : Nat → Int32 → Int32 → Option (Int32 × Int32)
  | 0, _, _ => none
  | n + 1, x1, x2 =>
      (gI 3 0 a0 μ).bind fun v1 =>
      if v1 ≤ x2 then
      some ((x1, x2))
      else
      (gR 3 1 a0 μ).bind fun v3 =>
      (aI v3 x2 μ).bind fun v4 =>
      ((if v4 = 4 then
      (gR 3 2 a0 μ).bind fun v6 =>
      (aI v6 x2 μ).bind fun v7 =>
      some (x1 ||| (1 <<< (v7 &&& 31)))
      else
      some x1) : Option (Int32)).bind fun z8 =>
      X3_alwaysFrom_L4 a0 μ n z8 (x2 + 1)
def X3_alwaysFrom (a0 : Nat) (μ : Mem) : Option Int32 :=
  (X3_alwaysFrom_L4 a0 μ FU 0 0).bind fun z1 =>
  some (z1.1)
def X3_barredKinds_L4 (a0 : Nat) (x1 : Int32) (μ : Mem) : Nat → Int32 → Int32 → Option (Int32 × Int32)
  | 0, _, _ => none
  | n + 1, x2, x3 =>
      (gI 3 0 a0 μ).bind fun v1 =>
      if v1 ≤ x3 then
      some ((x2, x3))
      else
      (gR 3 1 a0 μ).bind fun v3 =>
      (aI v3 x3 μ).bind fun v4 =>
      ((if v4 = 2 then
      (gR 3 3 a0 μ).bind fun v6 =>
      (aI v6 x3 μ).bind fun v7 =>
      if x1 ≤ v7 then
      some x2
      else
      (gR 3 2 a0 μ).bind fun v9 =>
      (aI v9 x3 μ).bind fun v10 =>
      some (x2 ||| (1 <<< (v10 &&& 31)))
      else
      some x2) : Option (Int32)).bind fun z11 =>
      X3_barredKinds_L4 a0 x1 μ n z11 (x3 + 1)
def X3_barredKinds (a0 : Nat) (x1 : Int32) (μ : Mem) : Option Int32 :=
  (X3_barredKinds_L4 a0 x1 μ FU 0 0).bind fun z1 =>
  some (z1.1)
def X3_isLikely (a0 : Nat) (x1 : Int32) (a2 : Nat) (μ : Mem) : Option Int32 :=
  (gR 3 3 a0 μ).bind fun v1 =>
  (aI v1 x1 μ).bind fun v2 =>
  ((if v2 < 0 then
  some 0
  else
  (aL a2 μ).bind fun v4 =>
  if v4 ≤ v2 then
  some 0
  else
  (aI a2 v2 μ).bind fun v6 =>
  (gR 3 4 a0 μ).bind fun v7 =>
  (aI v7 x1 μ).bind fun v8 =>
  if (lg_cmp (v6.toInt64 * 100) (v8.toInt64 * 1000000)) < 0 then
  some 0
  else
  some 1) : Option (Int32)).bind fun z10 =>
  (zz z10).bind fun v11 =>
  some v11
def X3_barredWays_L4 (a0 : Nat) (a1 : Nat) (μ : Mem) : Nat → Int32 → Int32 → Option (Int32 × Int32)
  | 0, _, _ => none
  | n + 1, x2, x3 =>
      (gI 3 0 a0 μ).bind fun v1 =>
      if v1 ≤ x3 then
      some ((x2, x3))
      else
      (gR 3 1 a0 μ).bind fun v3 =>
      (aI v3 x3 μ).bind fun v4 =>
      ((if v4 = 0 then
      (gR 3 2 a0 μ).bind fun v6 =>
      (aI v6 x3 μ).bind fun v7 =>
      some (x2 ||| (1 <<< (v7 &&& 31)))
      else
      (gR 3 1 a0 μ).bind fun v8 =>
      (aI v8 x3 μ).bind fun v9 =>
      if v9 = 1 then
      (vO 3 a0 μ).bind fun g11 =>
      (X3_isLikely a0 x3 a1 μ).bind fun v12 =>
      if v12 = 0 then
      some x2
      else
      (gR 3 2 a0 μ).bind fun v14 =>
      (aI v14 x3 μ).bind fun v15 =>
      some (x2 ||| (1 <<< (v15 &&& 31)))
      else
      some x2) : Option (Int32)).bind fun z16 =>
      X3_barredWays_L4 a0 a1 μ n z16 (x3 + 1)
def X3_barredWays (a0 : Nat) (a1 : Nat) (μ : Mem) : Option Int32 :=
  (X3_barredWays_L4 a0 a1 μ FU 0 0).bind fun z1 =>
  some (z1.1)
def X1_open_L36 (a0 : Nat) (a2 : Nat) (x5 : Int32) (x6 : Int32) : Nat → Int32 → Mem → Option (Int32 × Mem)
  | 0, _, _ => none
  | n + 1, x7, μ =>
      (gI 0 2 a2 μ).bind fun v1 =>
      if v1 ≤ x7 then
      some ((x7, μ))
      else
      (gR 0 0 a2 μ).bind fun v3 =>
      (aR 6 v3 x7 μ).bind fun v4 =>
      (gI 6 3 v4 μ).bind fun v5 =>
      ((if (X10_contains x5 v5) = 0 then
      (gR 0 0 a2 μ).bind fun v7 =>
      (aR 6 v7 x7 μ).bind fun v8 =>
      (gI 6 1 v8 μ).bind fun v9 =>
      if (X10_contains x6 v9) = 0 then
      some μ
      else
      (gI 1 1 a0 μ).bind fun v11 =>
      (pI 1 1 a0 (v11 ||| (1 <<< (x7 &&& 31))) μ).bind fun μ12 =>
      some μ12
      else
      (gI 1 0 a0 μ).bind fun v13 =>
      (pI 1 0 a0 (v13 ||| (1 <<< (x7 &&& 31))) μ).bind fun μ14 =>
      some μ14) : Option (Mem)).bind fun z15 =>
      X1_open_L36 a0 a2 x5 x6 n (x7 + 1) z15
def X1_open (a0 : Nat) (a1 : Nat) (a2 : Nat) (x3 : Int32) (a4 : Nat) (μ : Mem) : Option Mem :=
  (vO 3 a1 μ).bind fun g1 =>
  (X3_alwaysFrom a1 μ).bind fun v2 =>
  (vO 3 a1 μ).bind fun g3 =>
  (X3_barredKinds a1 x3 μ).bind fun v4 =>
  (vO 3 a1 μ).bind fun g5 =>
  (X3_barredWays a1 a4 μ).bind fun v6 =>
  (pI 1 2 a0 v6 μ).bind fun μ7 =>
  (pI 1 0 a0 0 μ7).bind fun μ8 =>
  (pI 1 1 a0 0 μ8).bind fun μ9 =>
  (X1_open_L36 a0 a2 v2 v4 FU 0 μ9).bind fun z10 =>
  some z10.2
def X1_isAlways (a0 : Nat) (x1 : Int32) (μ : Mem) : Option Int32 :=
  (gI 1 0 a0 μ).bind fun v1 =>
  (some (if (x1 &&& (v1 ^^^ ((-1)))) = 0 then 1 else 0 : Int32)).bind fun v3 =>
  (zz v3).bind fun v4 =>
  some v4
def X1_bar (a0 : Nat) (x1 : Int32) (x2 : Int32) (x3 : Int32) (μ : Mem) : Option Int32 :=
  (vO 1 a0 μ).bind fun g1 =>
  (X1_isAlways a0 x1 μ).bind fun v2 =>
  if v2 = 0 then
  (gI 1 2 a0 μ).bind fun v9 =>
  if (X10_contains v9 x2) = 0 then
  (gI 1 1 a0 μ).bind fun v11 =>
  if (x1 &&& v11) = 0 then
  (some (if v2 = 0 then if x3 = 0 then 0 else 3 else 0 : Int32)).bind fun v14 =>
  some (v14)
  else
  some (2)
  else
  some (1)
  else
  (gI 1 1 a0 μ).bind fun v4 =>
  if (x1 &&& v4) = 0 then
  (some (if v2 = 0 then if x3 = 0 then 0 else 3 else 0 : Int32)).bind fun v7 =>
  some (v7)
  else
  some (2)
set_option maxRecDepth 100000 in
def X2_init (a0 : Nat) (μ : Mem) : Option Mem :=
  (pI 2 2 a0 ((-1)) μ).bind fun μ1 =>
  (nA 1 (mN μ + 0) 160 μ1).bind fun μ2 =>
  (pR 2 3 a0 (mN μ + 0) μ2).bind fun μ3 =>
  some μ3
def X2_append (a0 : Nat) (x1 : Int32) (μ : Mem) : Option Mem :=
  (gI 2 0 a0 μ).bind fun v1 =>
  ((if (160 : Int32) ≤ v1 then
  some μ
  else
  (gR 2 3 a0 μ).bind fun v3 =>
  (gI 2 0 a0 μ).bind fun v4 =>
  (sI v3 v4 x1 μ).bind fun μ5 =>
  (gI 2 0 a0 μ5).bind fun v6 =>
  (pI 2 0 a0 (v6 + 1) μ5).bind fun μ7 =>
  some μ7) : Option (Mem)).bind fun z8 =>
  some z8
def X2_skipBlanks_L0 (a0 : Nat) : Nat → Mem → Option (Mem)
  | 0, _ => none
  | n + 1, μ =>
      (gI 2 4 a0 μ).bind fun v1 =>
      (gI 2 0 a0 μ).bind fun v2 =>
      if v2 ≤ v1 then
      some μ
      else
      (gR 2 3 a0 μ).bind fun v4 =>
      (gI 2 4 a0 μ).bind fun v5 =>
      (aI v4 v5 μ).bind fun v6 =>
      if v6 = 32 then
      (gI 2 4 a0 μ).bind fun v8 =>
      (pI 2 4 a0 (v8 + 1) μ).bind fun μ9 =>
      X2_skipBlanks_L0 a0 n μ9
      else
      some μ
def X2_skipBlanks (a0 : Nat) (μ : Mem) : Option Mem :=
  (X2_skipBlanks_L0 a0 FU μ).bind fun z1 =>
  some z1
def X2_takeWord_L18 (a0 : Nat) (w1 : Nat) (μ : Mem) : Nat → Int32 → Option (Int32)
  | 0, _ => none
  | n + 1, x2 =>
      (gI 2 0 a0 μ).bind fun v1 =>
      if v1 ≤ x2 then
      some x2
      else
      (gR 2 3 a0 μ).bind fun v3 =>
      (aI v3 x2 μ).bind fun v4 =>
      if v4 < 97 then
      some x2
      else
      (gR 2 3 a0 μ).bind fun v6 =>
      (aI v6 x2 μ).bind fun v7 =>
      if (122 : Int32) < v7 then
      some x2
      else
      X2_takeWord_L18 a0 w1 μ n (x2 + 1)
def X2_takeWord_L71 (a0 : Nat) (w1 : Nat) (x2 : Int32) (μ : Mem) : Nat → Int32 → Option (Int32 × Mem)
  | 0, _ => none
  | n + 1, x3 =>
      (sLe w1).bind fun v1 =>
      if v1 ≤ x3 then
      (pI 2 4 a0 x2 μ).bind fun μ3 =>
      some (1, μ3)
      else
      (gR 2 3 a0 μ).bind fun v4 =>
      (gI 2 4 a0 μ).bind fun v5 =>
      (aI v4 (v5 + x3) μ).bind fun v6 =>
      (sChr w1 x3).bind fun v7 =>
      if v6 = v7 then
      X2_takeWord_L71 a0 w1 x2 μ n (x3 + 1)
      else
      some (0, μ)
def X2_takeWord (a0 : Nat) (w1 : Nat) (μ : Mem) : Option (Int32 × Mem) :=
  (gI 2 1 a0 μ).bind fun v1 =>
  if v1 = 0 then
  (vO 2 a0 μ).bind fun g3 =>
  (X2_skipBlanks a0 μ).bind fun μ4 =>
  (gI 2 4 a0 μ4).bind fun v5 =>
  (X2_takeWord_L18 a0 w1 μ4 FU v5).bind fun z6 =>
  (gI 2 4 a0 μ4).bind fun v7 =>
  (sLe w1).bind fun v8 =>
  if (z6 - v7) = v8 then
  X2_takeWord_L71 a0 w1 z6 μ4 FU 0
  else
  some (0, μ4)
  else
  some (0, μ)
def X2_note (a0 : Nat) (x1 : Int32) (x2 : Int32) (μ : Mem) : Option Mem :=
  (gI 2 1 a0 μ).bind fun v1 =>
  ((if v1 = 0 then
  (pI 2 1 a0 x1 μ).bind fun μ3 =>
  (pI 2 2 a0 x2 μ3).bind fun μ4 =>
  some μ4
  else
  some μ) : Option (Mem)).bind fun z5 =>
  some z5
def X2_refuseNinth (a0 : Nat) (a1 : Nat) (x2 : Int32) (μ : Mem) : Option Mem :=
  (gI 3 0 a1 μ).bind fun v1 =>
  ((if v1 < 8 then
  some μ
  else
  (vO 2 a0 μ).bind fun g3 =>
  (X2_note a0 3 x2 μ).bind fun μ4 =>
  some μ4) : Option (Mem)).bind fun z5 =>
  some z5
def X10_within (x0 : Int32) (x1 : Int32) (x2 : Int32) : Int32 :=
  (if x0 < x1 then 0 else if x2 < x0 then 0 else 1)
def X2_takeNumber_L21 (a0 : Nat) (x1 : Int32) (x2 : Int32) (x3 : Int32) : Nat → Int32 → Mem → Option (Int32 × Mem)
  | 0, _, _ => none
  | n + 1, x4, μ =>
      (gI 2 4 a0 μ).bind fun v1 =>
      (gI 2 0 a0 μ).bind fun v2 =>
      if v2 ≤ v1 then
      some ((x4, μ))
      else
      (gR 2 3 a0 μ).bind fun v4 =>
      (gI 2 4 a0 μ).bind fun v5 =>
      (aI v4 v5 μ).bind fun v6 =>
      if v6 < 48 then
      some ((x4, μ))
      else
      (gR 2 3 a0 μ).bind fun v8 =>
      (gI 2 4 a0 μ).bind fun v9 =>
      (aI v8 v9 μ).bind fun v10 =>
      if (57 : Int32) < v10 then
      some ((x4, μ))
      else
      (gI 2 4 a0 μ).bind fun v12 =>
      ((if (3 : Int32) ≤ (v12 - x3) then
      some x4
      else
      (gR 2 3 a0 μ).bind fun v14 =>
      (gI 2 4 a0 μ).bind fun v15 =>
      (aI v14 v15 μ).bind fun v16 =>
      some (((x4 * 10) + v16) - 48)) : Option (Int32)).bind fun z17 =>
      (gI 2 4 a0 μ).bind fun v18 =>
      (pI 2 4 a0 (v18 + 1) μ).bind fun μ19 =>
      X2_takeNumber_L21 a0 x1 x2 x3 n z17 μ19
def X2_takeNumber (a0 : Nat) (x1 : Int32) (x2 : Int32) (μ : Mem) : Option (Int32 × Mem) :=
  (gI 2 1 a0 μ).bind fun v1 =>
  if v1 = 0 then
  (vO 2 a0 μ).bind fun g3 =>
  (X2_skipBlanks a0 μ).bind fun μ4 =>
  (gI 2 4 a0 μ4).bind fun v5 =>
  (X2_takeNumber_L21 a0 x1 x2 v5 FU 0 μ4).bind fun z6 =>
  (gI 2 4 a0 z6.2).bind fun v7 =>
  ((if v7 = v5 then
  (vO 2 a0 z6.2).bind fun g16 =>
  (X2_note a0 1 v5 z6.2).bind fun μ17 =>
  some μ17
  else
  (gI 2 4 a0 z6.2).bind fun v9 =>
  if (3 : Int32) < (v9 - v5) then
  (vO 2 a0 z6.2).bind fun g11 =>
  (X2_note a0 2 v5 z6.2).bind fun μ12 =>
  some μ12
  else
  if (X10_within z6.1 x1 x2) = 0 then
  (vO 2 a0 z6.2).bind fun g14 =>
  (X2_note a0 2 v5 z6.2).bind fun μ15 =>
  some μ15
  else
  some z6.2) : Option (Mem)).bind fun z18 =>
  some (z6.1, z18)
  else
  some (0, μ)
def X3_add (a0 : Nat) (x1 : Int32) (x2 : Int32) (x3 : Int32) (x4 : Int32) (μ : Mem) : Option Mem :=
  (gI 3 0 a0 μ).bind fun v1 =>
  ((if (8 : Int32) ≤ v1 then
  some μ
  else
  (gR 3 1 a0 μ).bind fun v3 =>
  (gI 3 0 a0 μ).bind fun v4 =>
  (sI v3 v4 x1 μ).bind fun μ5 =>
  (gR 3 2 a0 μ5).bind fun v6 =>
  (gI 3 0 a0 μ5).bind fun v7 =>
  (sI v6 v7 x2 μ5).bind fun μ8 =>
  (gR 3 3 a0 μ8).bind fun v9 =>
  (gI 3 0 a0 μ8).bind fun v10 =>
  (sI v9 v10 x3 μ8).bind fun μ11 =>
  (gR 3 4 a0 μ11).bind fun v12 =>
  (gI 3 0 a0 μ11).bind fun v13 =>
  (sI v12 v13 x4 μ11).bind fun μ14 =>
  (gI 3 0 a0 μ14).bind fun v15 =>
  (pI 3 0 a0 (v15 + 1) μ14).bind fun μ16 =>
  some μ16) : Option (Mem)).bind fun z17 =>
  some z17
def X2_finish (a0 : Nat) (a1 : Nat) (x2 : Int32) (x3 : Int32) (x4 : Int32) (x5 : Int32) (μ : Mem) : Option Mem :=
  (vO 2 a0 μ).bind fun g1 =>
  (X2_skipBlanks a0 μ).bind fun μ2 =>
  (gI 2 4 a0 μ2).bind fun v3 =>
  (gI 2 0 a0 μ2).bind fun v4 =>
  ((if v4 ≤ v3 then
  (gI 2 4 a0 μ2).bind fun v6 =>
  (vO 2 a0 μ2).bind fun g7 =>
  (X2_note a0 1 v6 μ2).bind fun μ8 =>
  some μ8
  else
  (gR 2 3 a0 μ2).bind fun v9 =>
  (gI 2 4 a0 μ2).bind fun v10 =>
  (aI v9 v10 μ2).bind fun v11 =>
  if v11 = 59 then
  some μ2
  else
  (gI 2 4 a0 μ2).bind fun v13 =>
  (vO 2 a0 μ2).bind fun g14 =>
  (X2_note a0 1 v13 μ2).bind fun μ15 =>
  some μ15) : Option (Mem)).bind fun z16 =>
  (gI 2 1 a0 z16).bind fun v17 =>
  ((if v17 = 0 then
  (gI 2 4 a0 z16).bind fun v19 =>
  (pI 2 4 a0 (v19 + 1) z16).bind fun μ20 =>
  (vO 3 a1 μ20).bind fun g21 =>
  (X3_add a1 x2 x3 x4 x5 μ20).bind fun μ22 =>
  some μ22
  else
  some z16) : Option (Mem)).bind fun z23 =>
  some z23
def X2_needWord (a0 : Nat) (w1 : Nat) (μ : Mem) : Option Mem :=
  (vO 2 a0 μ).bind fun g1 =>
  (X2_takeWord a0 w1 μ).bind fun z2 =>
  ((if z2.1 = 0 then
  (gI 2 4 a0 z2.2).bind fun v4 =>
  (vO 2 a0 z2.2).bind fun g5 =>
  (X2_note a0 1 v4 z2.2).bind fun μ6 =>
  some μ6
  else
  some z2.2) : Option (Mem)).bind fun z7 =>
  some z7
def X2_readNever (a0 : Nat) (a1 : Nat) (μ : Mem) : Option Mem :=
  (vO 2 a0 μ).bind fun g1 =>
  (X2_takeWord a0 1 μ).bind fun z2 =>
  ((if z2.1 = 0 then
  (vO 2 a0 z2.2).bind fun g4 =>
  (X2_needWord a0 3 z2.2).bind fun μ5 =>
  (vO 2 a0 μ5).bind fun g6 =>
  (X2_takeNumber a0 0 3 μ5).bind fun z7 =>
  (vO 2 a0 z7.2).bind fun g8 =>
  (X2_needWord a0 4 z7.2).bind fun μ9 =>
  (vO 2 a0 μ9).bind fun g10 =>
  (X2_takeNumber a0 0 60 μ9).bind fun z11 =>
  (vO 2 a0 z11.2).bind fun g12 =>
  (X2_finish a0 a1 2 z7.1 z11.1 0 z11.2).bind fun μ13 =>
  some μ13
  else
  (vO 2 a0 z2.2).bind fun g14 =>
  (X2_takeNumber a0 0 3 z2.2).bind fun z15 =>
  (vO 2 a0 z15.2).bind fun g16 =>
  (X2_takeWord a0 2 z15.2).bind fun z17 =>
  ((if z17.1 = 0 then
  (vO 2 a0 z17.2).bind fun g19 =>
  (X2_finish a0 a1 0 z15.1 0 0 z17.2).bind fun μ20 =>
  some μ20
  else
  (vO 2 a0 z17.2).bind fun g21 =>
  (X2_takeNumber a0 0 3 z17.2).bind fun z22 =>
  (vO 2 a0 z22.2).bind fun g23 =>
  (X2_takeNumber a0 0 100 z22.2).bind fun z24 =>
  (vO 2 a0 z24.2).bind fun g25 =>
  (X2_finish a0 a1 1 z15.1 z22.1 z24.1 z24.2).bind fun μ26 =>
  some μ26) : Option (Mem)).bind fun z27 =>
  some z27) : Option (Mem)).bind fun z28 =>
  some z28
def X2_readClause (a0 : Nat) (a1 : Nat) (μ : Mem) : Option Mem :=
  (gI 2 4 a0 μ).bind fun v1 =>
  (vO 2 a0 μ).bind fun g2 =>
  (X2_takeWord a0 0 μ).bind fun z3 =>
  ((if z3.1 = 0 then
  (vO 2 a0 z3.2).bind fun g5 =>
  (X2_takeWord a0 5 z3.2).bind fun z6 =>
  if z6.1 = 0 then
  (vO 2 a0 z6.2).bind fun g8 =>
  (X2_takeWord a0 7 z6.2).bind fun z9 =>
  if z9.1 = 0 then
  (gI 2 4 a0 z9.2).bind fun v11 =>
  (vO 2 a0 z9.2).bind fun g12 =>
  (X2_note a0 1 v11 z9.2).bind fun μ13 =>
  some μ13
  else
  (vO 2 a0 z9.2).bind fun g14 =>
  (X2_refuseNinth a0 a1 v1 z9.2).bind fun μ15 =>
  (vO 2 a0 μ15).bind fun g16 =>
  (X2_needWord a0 8 μ15).bind fun μ17 =>
  (vO 2 a0 μ17).bind fun g18 =>
  (X2_takeNumber a0 0 9 μ17).bind fun z19 =>
  (vO 2 a0 z19.2).bind fun g20 =>
  (X2_finish a0 a1 4 z19.1 0 0 z19.2).bind fun μ21 =>
  some μ21
  else
  (vO 2 a0 z6.2).bind fun g22 =>
  (X2_refuseNinth a0 a1 v1 z6.2).bind fun μ23 =>
  (vO 2 a0 μ23).bind fun g24 =>
  (X2_takeNumber a0 0 9 μ23).bind fun z25 =>
  (vO 2 a0 z25.2).bind fun g26 =>
  (X2_needWord a0 6 z25.2).bind fun μ27 =>
  (vO 2 a0 μ27).bind fun g28 =>
  (X2_takeNumber a0 1 60 μ27).bind fun z29 =>
  (vO 2 a0 z29.2).bind fun g30 =>
  (X2_finish a0 a1 3 z25.1 z29.1 0 z29.2).bind fun μ31 =>
  some μ31
  else
  (vO 2 a0 z3.2).bind fun g32 =>
  (X2_refuseNinth a0 a1 v1 z3.2).bind fun μ33 =>
  (vO 2 a0 μ33).bind fun g34 =>
  (X2_readNever a0 a1 μ33).bind fun μ35 =>
  some μ35) : Option (Mem)).bind fun z36 =>
  some z36
def X2_parse_L26 (a0 : Nat) (a1 : Nat) : Nat → Int32 → Mem → Option (Int32 × Mem)
  | 0, _, _ => none
  | n + 1, x2, μ =>
      if (160 : Int32) ≤ x2 then
      some ((x2, μ))
      else
      (gI 2 4 a0 μ).bind fun v2 =>
      (gI 2 0 a0 μ).bind fun v3 =>
      if v3 ≤ v2 then
      some ((x2, μ))
      else
      (gI 2 1 a0 μ).bind fun v5 =>
      if v5 = 0 then
      (vO 2 a0 μ).bind fun g7 =>
      (X2_readClause a0 a1 μ).bind fun μ8 =>
      (vO 2 a0 μ8).bind fun g9 =>
      (X2_skipBlanks a0 μ8).bind fun μ10 =>
      X2_parse_L26 a0 a1 n (x2 + 1) μ10
      else
      some ((x2, μ))
def X2_parse (a0 : Nat) (a1 : Nat) (μ : Mem) : Option Mem :=
  (pI 2 4 a0 0 μ).bind fun μ1 =>
  (pI 2 1 a0 0 μ1).bind fun μ2 =>
  (pI 2 2 a0 ((-1)) μ2).bind fun μ3 =>
  (pI 3 0 a1 0 μ3).bind fun μ4 =>
  (vO 2 a0 μ4).bind fun g5 =>
  (X2_skipBlanks a0 μ4).bind fun μ6 =>
  (X2_parse_L26 a0 a1 FU 0 μ6).bind fun z7 =>
  some z7.2
set_option maxRecDepth 100000 in
def X3_init (a0 : Nat) (μ : Mem) : Option Mem :=
  (nA 1 (mN μ + 0) 8 μ).bind fun μ1 =>
  (pR 3 1 a0 (mN μ + 0) μ1).bind fun μ2 =>
  (nA 1 (mN μ + 1) 8 μ2).bind fun μ3 =>
  (pR 3 2 a0 (mN μ + 1) μ3).bind fun μ4 =>
  (nA 1 (mN μ + 2) 8 μ4).bind fun μ5 =>
  (pR 3 3 a0 (mN μ + 2) μ5).bind fun μ6 =>
  (nA 1 (mN μ + 3) 8 μ6).bind fun μ7 =>
  (pR 3 4 a0 (mN μ + 3) μ7).bind fun μ8 =>
  some μ8
def X3_countsSayings_L2 (a0 : Nat) (μ : Mem) : Nat → Int32 → Option (Int32)
  | 0, _ => none
  | n + 1, x1 =>
      (gI 3 0 a0 μ).bind fun v1 =>
      if v1 ≤ x1 then
      some 0
      else
      (gR 3 1 a0 μ).bind fun v3 =>
      (aI v3 x1 μ).bind fun v4 =>
      if v4 = 3 then
      some 1
      else
      X3_countsSayings_L2 a0 μ n (x1 + 1)
def X3_countsSayings (a0 : Nat) (μ : Mem) : Option Int32 :=
  X3_countsSayings_L2 a0 μ FU 0
def X3_saidWithin_L9 (a0 : Nat) (x2 : Int32) (μ : Mem) : Nat → Int32 → Int32 → Option (Int32 × Int32)
  | 0, _, _ => none
  | n + 1, x3, x4 =>
      if x2 < x4 then
      some ((x3, x4))
      else
      (aL a0 μ).bind fun v2 =>
      if v2 ≤ x4 then
      some ((x3, x4))
      else
      (aI a0 x4 μ).bind fun v4 =>
      (some (x3 + v4 : Int32)).bind fun v5 =>
      X3_saidWithin_L9 a0 x2 μ n v5 (x4 + 1)
def X3_saidWithin (a0 : Nat) (x1 : Int32) (x2 : Int32) (μ : Mem) : Option Int32 :=
  (some (if (0 : Int32) < x1 then x1 else 0 : Int32)).bind fun v1 =>
  (X3_saidWithin_L9 a0 x2 μ FU 0 v1).bind fun z2 =>
  some (z2.1)
def X3_mostBars_L2 (a0 : Nat) (a1 : Nat) (x2 : Int32) (μ : Mem) : Nat → Int32 → Option (Int32)
  | 0, _ => none
  | n + 1, x3 =>
      (gI 3 0 a0 μ).bind fun v1 =>
      if v1 ≤ x3 then
      some 0
      else
      (gR 3 1 a0 μ).bind fun v3 =>
      (aI v3 x3 μ).bind fun v4 =>
      if v4 = 3 then
      (gR 3 3 a0 μ).bind fun v6 =>
      (aI v6 x3 μ).bind fun v7 =>
      (X3_saidWithin a1 ((x2 - v7) + 1) x2 μ).bind fun v8 =>
      (gR 3 2 a0 μ).bind fun v9 =>
      (aI v9 x3 μ).bind fun v10 =>
      if v8 < v10 then
      X3_mostBars_L2 a0 a1 x2 μ n (x3 + 1)
      else
      some 1
      else
      X3_mostBars_L2 a0 a1 x2 μ n (x3 + 1)
def X3_mostBars (a0 : Nat) (a1 : Nat) (x2 : Int32) (μ : Mem) : Option Int32 :=
  X3_mostBars_L2 a0 a1 x2 μ FU 0
set_option maxRecDepth 100000 in
def X4_init (a0 : Nat) (a1 : Nat) (a2 : Nat) (a3 : Nat) (μ : Mem) : Option Mem :=
  (nA 1 (mN μ + 0) 6 μ).bind fun μ1 =>
  (pR 4 1 a0 (mN μ + 0) μ1).bind fun μ2 =>
  (nA 1 (mN μ + 1) 6 μ2).bind fun μ3 =>
  (pR 4 2 a0 (mN μ + 1) μ3).bind fun μ4 =>
  (nO 1 (mN μ + 2) μ4).bind fun μ5 =>
  (gN (mN μ + 3) μ5).bind fun g6 =>
  (X1_init (mN μ + 2) μ5).bind fun μ7 =>
  (pR 4 6 a0 (mN μ + 2) μ7).bind fun μ8 =>
  (nA 1 (mN μ + 3) 6 μ8).bind fun μ9 =>
  (pR 4 7 a0 (mN μ + 3) μ9).bind fun μ10 =>
  (nA 1 (mN μ + 4) 64 μ10).bind fun μ11 =>
  (pR 4 8 a0 (mN μ + 4) μ11).bind fun μ12 =>
  (nA 1 (mN μ + 5) 64 μ12).bind fun μ13 =>
  (pR 4 9 a0 (mN μ + 5) μ13).bind fun μ14 =>
  (nA 1 (mN μ + 6) 64 μ14).bind fun μ15 =>
  (pR 4 10 a0 (mN μ + 6) μ15).bind fun μ16 =>
  (nA 1 (mN μ + 7) 4 μ16).bind fun μ17 =>
  (pR 4 11 a0 (mN μ + 7) μ17).bind fun μ18 =>
  (nA 1 (mN μ + 8) 384 μ18).bind fun μ19 =>
  (pR 4 12 a0 (mN μ + 8) μ19).bind fun μ20 =>
  (nA 1 (mN μ + 9) 384 μ20).bind fun μ21 =>
  (pR 4 13 a0 (mN μ + 9) μ21).bind fun μ22 =>
  (nA 1 (mN μ + 10) 4096 μ22).bind fun μ23 =>
  (pR 4 14 a0 (mN μ + 10) μ23).bind fun μ24 =>
  (nA 1 (mN μ + 11) 66 μ24).bind fun μ25 =>
  (pR 4 15 a0 (mN μ + 11) μ25).bind fun μ26 =>
  (pR 4 3 a0 a1 μ26).bind fun μ27 =>
  (pR 4 4 a0 a2 μ27).bind fun μ28 =>
  (pR 4 5 a0 a3 μ28).bind fun μ29 =>
  some μ29
def X4_pick_L7 (a0 : Nat) (x1 : Int32) (x2 : Int32) : Nat → Int32 → Mem → Option (Int32 × Mem)
  | 0, _, _ => none
  | n + 1, x3, μ =>
      (gR 4 5 a0 μ).bind fun v1 =>
      (gI 0 2 v1 μ).bind fun v2 =>
      if v2 ≤ x3 then
      some ((x3, μ))
      else
      (gI 4 16 a0 μ).bind fun v4 =>
      if (6 : Int32) ≤ v4 then
      some ((x3, μ))
      else
      (gR 4 5 a0 μ).bind fun v6 =>
      (gR 0 0 v6 μ).bind fun v7 =>
      (aR 6 v7 x3 μ).bind fun v8 =>
      (gI 6 0 v8 μ).bind fun v9 =>
      ((if (X10_contains v9 x1) = 0 then
      some μ
      else
      (gR 4 5 a0 μ).bind fun v11 =>
      (vO 0 v11 μ).bind fun g12 =>
      (X0_standing v11 x3 x2 μ).bind fun v13 =>
      if v13 = 0 then
      (gR 4 7 a0 μ).bind fun v15 =>
      (gI 4 16 a0 μ).bind fun v16 =>
      (sI v15 v16 x3 μ).bind fun μ17 =>
      (gI 4 16 a0 μ17).bind fun v18 =>
      (pI 4 16 a0 (v18 + 1) μ17).bind fun μ19 =>
      some μ19
      else
      some μ) : Option (Mem)).bind fun z20 =>
      X4_pick_L7 a0 x1 x2 n (x3 + 1) z20
def X4_pick_L123 (a0 : Nat) (x3 : Int32) (x4 : Int32) : Nat → Int32 → Mem → Option (Int32 × Mem)
  | 0, _, _ => none
  | n + 1, x5, μ =>
      if ((1 : Int32) <<< (x3 &&& 31)) ≤ x5 then
      some ((x5, μ))
      else
      (some (x5 ||| (1 <<< (x3 &&& 31)) : Int32)).bind fun v2 =>
      (gR 4 8 a0 μ).bind fun v3 =>
      (gR 4 8 a0 μ).bind fun v4 =>
      (aI v4 x5 μ).bind fun v5 =>
      (gR 4 7 a0 μ).bind fun v6 =>
      (aI v6 x3 μ).bind fun v7 =>
      (sI v3 v2 (v5 ||| (1 <<< (v7 &&& 31))) μ).bind fun μ8 =>
      (gR 4 9 a0 μ8).bind fun v9 =>
      ((if x5 = 0 then
      some x4
      else
      (gR 4 9 a0 μ8).bind fun v11 =>
      (aI v11 x5 μ8).bind fun v12 =>
      if v12 = x4 then
      some x4
      else
      some ((-1))) : Option (Int32)).bind fun z14 =>
      (sI v9 v2 z14 μ8).bind fun μ15 =>
      X4_pick_L123 a0 x3 x4 n (x5 + 1) μ15
def X4_pick_L93 (a0 : Nat) : Nat → Int32 → Mem → Option (Int32 × Mem)
  | 0, _, _ => none
  | n + 1, x3, μ =>
      (gI 4 16 a0 μ).bind fun v1 =>
      if v1 ≤ x3 then
      some ((x3, μ))
      else
      (gR 4 5 a0 μ).bind fun v3 =>
      (gR 0 0 v3 μ).bind fun v4 =>
      (gR 4 7 a0 μ).bind fun v5 =>
      (aI v5 x3 μ).bind fun v6 =>
      (aR 6 v4 v6 μ).bind fun v7 =>
      (gI 6 2 v7 μ).bind fun v8 =>
      (X4_pick_L123 a0 x3 v8 FU 0 μ).bind fun z9 =>
      X4_pick_L93 a0 n (x3 + 1) z9.2
def X4_pick (a0 : Nat) (x1 : Int32) (x2 : Int32) (μ : Mem) : Option Mem :=
  (pI 4 16 a0 0 μ).bind fun μ1 =>
  (X4_pick_L7 a0 x1 x2 FU 0 μ1).bind fun z2 =>
  (gR 4 8 a0 z2.2).bind fun v3 =>
  (sI v3 0 0 z2.2).bind fun μ4 =>
  (X4_pick_L93 a0 FU 0 μ4).bind fun z5 =>
  some z5.2
def X9_factor (x0 : Int32) (x1 : Int32) : Int64 :=
  (if x1 = 0 then x0.toInt64 else if x0 ≤ 0 then x0.toInt64 else 1)
def X9_signFactor (a0 : Nat) (x1 : Int32) (x2 : Int32) (x3 : Int32) (μ : Mem) : Option Int64 :=
  ((if x2 < 0 then
  some 1
  else
  if x2 < 4 then
  (gR 9 1 a0 μ).bind fun v3 =>
  (aR 7 v3 x1 μ).bind fun v4 =>
  (aI v4 x2 μ).bind fun v5 =>
  some (X9_factor v5 x3)
  else
  some 1) : Option (Int64)).bind fun z6 =>
  some (z6)
def X9_weigh_L19 (a0 : Nat) (x1 : Int32) (x2 : Int32) (x3 : Int32) (x4 : Int32) : Nat → Int32 → Mem → Option (Int32 × Mem)
  | 0, _, _ => none
  | n + 1, x5, μ =>
      if (4 : Int32) ≤ x5 then
      some ((x5, μ))
      else
      (gR 9 6 a0 μ).bind fun v2 =>
      (gR 9 2 a0 μ).bind fun v3 =>
      (aI v3 x5 μ).bind fun v4 =>
      (gR 9 3 a0 μ).bind fun v5 =>
      (aR 7 v5 x1 μ).bind fun v6 =>
      (aI v6 x4 μ).bind fun v7 =>
      (vO 9 a0 μ).bind fun g8 =>
      (X9_signFactor a0 x5 v7 x3 μ).bind fun v9 =>
      (sJ v2 x5 ((X9_factor v4 x3) * v9) μ).bind fun μ10 =>
      X9_weigh_L19 a0 x1 x2 x3 x4 n (x5 + 1) μ10
def X9_weigh_L93 (a0 : Nat) (x1 : Int32) (x2 : Int32) (x3 : Int32) (x5 : Int32) (x6 : Int32) (μ : Mem) : Nat → Int64 → Int32 → Option (Int64 × Int32)
  | 0, _, _ => none
  | n + 1, j7, x9 =>
      if (4 : Int32) ≤ x9 then
      some ((j7, x9))
      else
      (gR 9 6 a0 μ).bind fun v2 =>
      (aJ v2 x9 μ).bind fun v3 =>
      (gR 9 0 a0 μ).bind fun v4 =>
      (aR 7 v4 x9 μ).bind fun v5 =>
      (aI v5 x6 μ).bind fun v6 =>
      (some (j7 + (v3 * (X9_factor v6 x3)) : Int64)).bind fun v7 =>
      X9_weigh_L93 a0 x1 x2 x3 x5 x6 μ n v7 (x9 + 1)
def X9_weigh_L81 (a0 : Nat) (x1 : Int32) (x2 : Int32) (x3 : Int32) (x5 : Int32) : Nat → Int32 → Mem → Option (Int32 × Mem)
  | 0, _, _ => none
  | n + 1, x6, μ =>
      if (4 : Int32) ≤ x6 then
      some ((x6, μ))
      else
      (X9_weigh_L93 a0 x1 x2 x3 x5 x6 μ FU 0 0).bind fun z2 =>
      (gR 9 7 a0 μ).bind fun v3 =>
      (gR 9 3 a0 μ).bind fun v4 =>
      (aR 7 v4 x1 μ).bind fun v5 =>
      (aI v5 x5 μ).bind fun v6 =>
      (vO 9 a0 μ).bind fun g7 =>
      (X9_signFactor a0 x6 v6 x3 μ).bind fun v8 =>
      (sJ v3 x6 (z2.1 * v8) μ).bind fun μ9 =>
      X9_weigh_L81 a0 x1 x2 x3 x5 n (x6 + 1) μ9
def X9_weigh_L72 (a0 : Nat) (x1 : Int32) (x2 : Int32) (x3 : Int32) : Nat → Int32 → Mem → Option (Int32 × Mem)
  | 0, _, _ => none
  | n + 1, x5, μ =>
      if x2 < x5 then
      some ((x5, μ))
      else
      (X9_weigh_L81 a0 x1 x2 x3 x5 FU 0 μ).bind fun z2 =>
      (gR 9 6 a0 z2.2).bind fun v3 =>
      (gR 9 7 a0 z2.2).bind fun v4 =>
      (pR 9 6 a0 v4 z2.2).bind fun μ5 =>
      (pR 9 7 a0 v3 μ5).bind fun μ6 =>
      X9_weigh_L72 a0 x1 x2 x3 n (x5 + 1) μ6
def X9_weigh (a0 : Nat) (x1 : Int32) (x2 : Int32) (x3 : Int32) (μ : Mem) : Option Mem :=
  (some (if x2 ≤ 6 then 0 else x2 - 6 : Int32)).bind fun v2 =>
  (X9_weigh_L19 a0 x1 x2 x3 v2 FU 0 μ).bind fun z3 =>
  (some (v2 + 1 : Int32)).bind fun v4 =>
  (X9_weigh_L72 a0 x1 x2 x3 FU v4 z3.2).bind fun z5 =>
  some z5.2
def X9_allWeights (a0 : Nat) (μ : Mem) : Option Int64 :=
  (gR 9 6 a0 μ).bind fun v1 =>
  (aJ v1 0 μ).bind fun v2 =>
  (gR 9 6 a0 μ).bind fun v3 =>
  (aJ v3 1 μ).bind fun v4 =>
  (gR 9 6 a0 μ).bind fun v5 =>
  (aJ v5 2 μ).bind fun v6 =>
  (gR 9 6 a0 μ).bind fun v7 =>
  (aJ v7 3 μ).bind fun v8 =>
  some (((v2 + v4) + v6) + v8)
def X9_moveOn_L2 (a0 : Nat) (a1 : Nat) (a2 : Nat) : Nat → Int32 → Mem → Option (Int32 × Mem)
  | 0, _, _ => none
  | n + 1, x3, μ =>
      if (4 : Int32) ≤ x3 then
      some ((x3, μ))
      else
      (sI a2 x3 0 μ).bind fun μ2 =>
      X9_moveOn_L2 a0 a1 a2 n (x3 + 1) μ2
def X9_moveOn_L69 (a0 : Nat) (a1 : Nat) (a2 : Nat) (x3 : Int32) (x4 : Int32) : Nat → Int32 → Mem → Option (Int32 × Mem)
  | 0, _, _ => none
  | n + 1, x5, μ =>
      if (4 : Int32) ≤ x5 then
      some ((x5, μ))
      else
      (aI a2 x5 μ).bind fun v2 =>
      (aI a1 x3 μ).bind fun v3 =>
      (gR 9 0 a0 μ).bind fun v4 =>
      (aR 7 v4 x3 μ).bind fun v5 =>
      (aI v5 x5 μ).bind fun v6 =>
      (dvI (v3 * v6) x4).bind fun v7 =>
      (sI a2 x5 (v2 + v7) μ).bind fun μ8 =>
      X9_moveOn_L69 a0 a1 a2 x3 x4 n (x5 + 1) μ8
def X9_moveOn_L19 (a0 : Nat) (a1 : Nat) (a2 : Nat) : Nat → Int32 → Mem → Option (Int32 × Mem)
  | 0, _, _ => none
  | n + 1, x3, μ =>
      if (4 : Int32) ≤ x3 then
      some ((x3, μ))
      else
      (gR 9 0 a0 μ).bind fun v2 =>
      (aR 7 v2 x3 μ).bind fun v3 =>
      (aI v3 0 μ).bind fun v4 =>
      (gR 9 0 a0 μ).bind fun v5 =>
      (aR 7 v5 x3 μ).bind fun v6 =>
      (aI v6 1 μ).bind fun v7 =>
      (gR 9 0 a0 μ).bind fun v8 =>
      (aR 7 v8 x3 μ).bind fun v9 =>
      (aI v9 2 μ).bind fun v10 =>
      (gR 9 0 a0 μ).bind fun v11 =>
      (aR 7 v11 x3 μ).bind fun v12 =>
      (aI v12 3 μ).bind fun v13 =>
      (some (((v4 + v7) + v10) + v13 : Int32)).bind fun v14 =>
      ((if v14 ≤ 0 then
      some μ
      else
      (X9_moveOn_L69 a0 a1 a2 x3 v14 FU 0 μ).bind fun z16 =>
      some z16.2) : Option (Mem)).bind fun z17 =>
      X9_moveOn_L19 a0 a1 a2 n (x3 + 1) z17
def X9_moveOn (a0 : Nat) (a1 : Nat) (a2 : Nat) (μ : Mem) : Option Mem :=
  (X9_moveOn_L2 a0 a1 a2 FU 0 μ).bind fun z1 =>
  (X9_moveOn_L19 a0 a1 a2 FU 0 z1.2).bind fun z2 =>
  some z2.2
def X9_lookAhead_L16 (a0 : Nat) (x3 : Int32) (j4 : Int64) : Nat → Int32 → Mem → Option (Int32 × Mem)
  | 0, _, _ => none
  | n + 1, x6, μ =>
      if (4 : Int32) ≤ x6 then
      some ((x6, μ))
      else
      (gR 9 4 a0 μ).bind fun v2 =>
      (aR 7 v2 0 μ).bind fun v3 =>
      ((if (0 : Int32) < (lg_cmp j4 0) then
      (gR 9 6 a0 μ).bind fun v5 =>
      (aJ v5 x6 μ).bind fun v6 =>
      (dvJ (v6 * 1000000) j4).bind fun v7 =>
      some v7.toInt32
      else
      some 0) : Option (Int32)).bind fun z8 =>
      (sI v3 x6 z8 μ).bind fun μ9 =>
      X9_lookAhead_L16 a0 x3 j4 n (x6 + 1) μ9
def X9_lookAhead_L66 (a0 : Nat) (x3 : Int32) : Nat → Int32 → Mem → Option (Int32 × Mem)
  | 0, _, _ => none
  | n + 1, x6, μ =>
      if x3 < x6 then
      some ((x6, μ))
      else
      if (8 : Int32) < x6 then
      some ((x6, μ))
      else
      (gR 9 4 a0 μ).bind fun v3 =>
      (aR 7 v3 (x6 - 1) μ).bind fun v4 =>
      (gR 9 4 a0 μ).bind fun v5 =>
      (aR 7 v5 x6 μ).bind fun v6 =>
      (vO 9 a0 μ).bind fun g7 =>
      (X9_moveOn a0 v4 v6 μ).bind fun μ8 =>
      X9_lookAhead_L66 a0 x3 n (x6 + 1) μ8
def X9_lookAhead (a0 : Nat) (x1 : Int32) (x2 : Int32) (x3 : Int32) (μ : Mem) : Option Mem :=
  (vO 9 a0 μ).bind fun g1 =>
  (X9_weigh a0 x1 x2 0 μ).bind fun μ2 =>
  (vO 9 a0 μ2).bind fun g3 =>
  (X9_allWeights a0 μ2).bind fun v4 =>
  (X9_lookAhead_L16 a0 x3 v4 FU 0 μ2).bind fun z5 =>
  (X9_lookAhead_L66 a0 x3 FU 1 z5.2).bind fun z6 =>
  some z6.2
def X8_lossBy_L5 (a0 : Nat) (x1 : Int32) (a2 : Nat) (μ : Mem) : Nat → Int32 → Int32 → Option (Int32 × Int32)
  | 0, _, _ => none
  | n + 1, x3, x4 =>
      if (4 : Int32) ≤ x4 then
      some ((x3, x4))
      else
      (aI a2 x4 μ).bind fun v2 =>
      (gR 8 0 a0 μ).bind fun v3 =>
      (aR 7 v3 x1 μ).bind fun v4 =>
      (aI v4 x4 μ).bind fun v5 =>
      (dvJ (v2.toInt64 * v5.toInt64) 1000000).bind fun v6 =>
      (some (x3 + v6.toInt32 : Int32)).bind fun v7 =>
      X8_lossBy_L5 a0 x1 a2 μ n v7 (x4 + 1)
def X8_lossBy (a0 : Nat) (x1 : Int32) (a2 : Nat) (μ : Mem) : Option Int32 :=
  (X8_lossBy_L5 a0 x1 a2 μ FU 0 0).bind fun z1 =>
  some (z1.1)
def X9_seamOdds_L4 (a0 : Nat) (x1 : Int32) (μ : Mem) : Nat → Int32 → Int32 → Option (Int32 × Int32)
  | 0, _, _ => none
  | n + 1, x2, x3 =>
      if (4 : Int32) ≤ x3 then
      some ((x2, x3))
      else
      (gI 9 5 a0 μ).bind fun v2 =>
      ((if (X10_contains v2 x3) = 0 then
      some x2
      else
      (gR 9 4 a0 μ).bind fun v4 =>
      (aR 7 v4 x1 μ).bind fun v5 =>
      (aI v5 x3 μ).bind fun v6 =>
      some (x2 + v6)) : Option (Int32)).bind fun z7 =>
      X9_seamOdds_L4 a0 x1 μ n z7 (x3 + 1)
def X9_seamOdds (a0 : Nat) (x1 : Int32) (μ : Mem) : Option Int32 :=
  (X9_seamOdds_L4 a0 x1 μ FU 0 0).bind fun z1 =>
  some (z1.1)
def X6_isMust (a0 : Nat) (μ : Mem) : Option Int32 :=
  (gI 6 1 a0 μ).bind fun v1 =>
  ((if v1 = 0 then
  some 1
  else
  (gI 6 1 a0 μ).bind fun v3 =>
  if v3 = 3 then
  some 1
  else
  some 0) : Option (Int32)).bind fun z5 =>
  (zz z5).bind fun v6 =>
  some v6
def X6_valueIn (a0 : Nat) (x1 : Int32) (x2 : Int32) (μ : Mem) : Option Int32 :=
  (gI 6 8 a0 μ).bind fun v1 =>
  if v1 = 0 then
  (gI 6 6 a0 μ).bind fun v3 =>
  if x1 ≤ v3 then
  (gI 6 4 a0 μ).bind fun v5 =>
  (gI 6 5 a0 μ).bind fun v6 =>
  (gI 6 7 a0 μ).bind fun v7 =>
  (some (if (0 : Int32) < (v5 - (v6 * (x1 - v7))) then v5 - (v6 * (x1 - v7)) else 0 : Int32)).bind fun v8 =>
  (gI 6 1 a0 μ).bind fun v9 =>
  ((if v9 = 2 then
  (dvJ (v8.toInt64 * x2.toInt64) 1000000).bind fun v11 =>
  some v11.toInt32
  else
  some v8) : Option (Int32)).bind fun z12 =>
  some (z12)
  else
  some (0)
  else
  some (0)
def X6_planValueIn (a0 : Nat) (x1 : Int32) (x2 : Int32) (μ : Mem) : Option Int32 :=
  (vO 6 a0 μ).bind fun g1 =>
  (X6_isMust a0 μ).bind fun v2 =>
  ((if v2 = 0 then
  some 0
  else
  (gI 6 6 a0 μ).bind fun v4 =>
  if v4 < x1 then
  some 0
  else
  some 2000) : Option (Int32)).bind fun z6 =>
  (vO 6 a0 μ).bind fun g7 =>
  (X6_valueIn a0 x1 x2 μ).bind fun v8 =>
  some (v8 + z6)
def X4_priceSet_L27 (a0 : Nat) (x1 : Int32) (x2 : Int32) : Nat → Int32 → Mem → Option (Int32 × Mem)
  | 0, _, _ => none
  | n + 1, x3, μ =>
      if (4 : Int32) ≤ x3 then
      some ((x3, μ))
      else
      (gR 4 10 a0 μ).bind fun v2 =>
      (aI v2 x2 μ).bind fun v3 =>
      (gR 4 4 a0 μ).bind fun v4 =>
      (gR 8 1 v4 μ).bind fun v5 =>
      (aI v5 x3 μ).bind fun v6 =>
      (dvI (v3 * v6) 100).bind fun v7 =>
      (gR 4 11 a0 μ).bind fun v8 =>
      (aI v8 x3 μ).bind fun v9 =>
      (some (v7 - v9 : Int32)).bind fun v10 =>
      (gR 4 12 a0 μ).bind fun v11 =>
      (aI v11 x1 μ).bind fun v12 =>
      ((if v10 ≤ v12 then
      some μ
      else
      (gR 4 6 a0 μ).bind fun v14 =>
      (gR 4 8 a0 μ).bind fun v15 =>
      (aI v15 x2 μ).bind fun v16 =>
      (vO 1 v14 μ).bind fun g17 =>
      (X1_bar v14 v16 x3 0 μ).bind fun v18 =>
      if v18 = 0 then
      (gR 4 12 a0 μ).bind fun v20 =>
      (sI v20 x1 v10 μ).bind fun μ21 =>
      (gR 4 13 a0 μ21).bind fun v22 =>
      (sI v22 x1 x3 μ21).bind fun μ23 =>
      some μ23
      else
      some μ) : Option (Mem)).bind fun z24 =>
      X4_priceSet_L27 a0 x1 x2 n (x3 + 1) z24
def X4_priceSet (a0 : Nat) (x1 : Int32) (x2 : Int32) (μ : Mem) : Option Mem :=
  (gR 4 12 a0 μ).bind fun v1 =>
  (sI v1 x1 0 μ).bind fun μ2 =>
  (gR 4 13 a0 μ2).bind fun v3 =>
  (sI v3 x1 ((-1)) μ2).bind fun μ4 =>
  (gR 4 9 a0 μ4).bind fun v5 =>
  (aI v5 x2 μ4).bind fun v6 =>
  if v6 = ((-1)) then
  some μ4
  else
  (X4_priceSet_L27 a0 x1 x2 FU 0 μ4).bind fun z8 =>
  some z8.2
def X4_price_L25 (a0 : Nat) (x1 : Int32) (x2 : Int32) : Nat → Int32 → Mem → Option (Int32 × Mem)
  | 0, _, _ => none
  | n + 1, x4, μ =>
      if (4 : Int32) ≤ x4 then
      some ((x4, μ))
      else
      (gR 4 11 a0 μ).bind fun v2 =>
      (gR 4 4 a0 μ).bind fun v3 =>
      (gR 4 3 a0 μ).bind fun v4 =>
      (gR 9 4 v4 μ).bind fun v5 =>
      (aR 7 v5 x1 μ).bind fun v6 =>
      (vO 8 v3 μ).bind fun g7 =>
      (X8_lossBy v3 x4 v6 μ).bind fun v8 =>
      (sI v2 x4 v8 μ).bind fun μ9 =>
      X4_price_L25 a0 x1 x2 n (x4 + 1) μ9
def X4_price_L113 (a0 : Nat) (x1 : Int32) (x2 : Int32) (x4 : Int32) (x5 : Int32) : Nat → Int32 → Mem → Option (Int32 × Mem)
  | 0, _, _ => none
  | n + 1, x6, μ =>
      if ((1 : Int32) <<< (x4 &&& 31)) ≤ x6 then
      some ((x6, μ))
      else
      (gR 4 10 a0 μ).bind fun v2 =>
      (gR 4 10 a0 μ).bind fun v3 =>
      (aI v3 x6 μ).bind fun v4 =>
      (sI v2 (x6 ||| (1 <<< (x4 &&& 31))) (v4 + x5) μ).bind fun μ5 =>
      X4_price_L113 a0 x1 x2 x4 x5 n (x6 + 1) μ5
def X4_price_L72 (a0 : Nat) (x1 : Int32) (x2 : Int32) : Nat → Int32 → Mem → Option (Int32 × Mem)
  | 0, _, _ => none
  | n + 1, x4, μ =>
      (gI 4 16 a0 μ).bind fun v1 =>
      if v1 ≤ x4 then
      some ((x4, μ))
      else
      (gR 4 5 a0 μ).bind fun v3 =>
      (gR 0 0 v3 μ).bind fun v4 =>
      (gR 4 7 a0 μ).bind fun v5 =>
      (aI v5 x4 μ).bind fun v6 =>
      (aR 6 v4 v6 μ).bind fun v7 =>
      (gR 4 3 a0 μ).bind fun v8 =>
      (vO 9 v8 μ).bind fun g9 =>
      (X9_seamOdds v8 x1 μ).bind fun v10 =>
      (vO 6 v7 μ).bind fun g11 =>
      (X6_planValueIn v7 x2 v10 μ).bind fun v12 =>
      (X4_price_L113 a0 x1 x2 x4 v12 FU 0 μ).bind fun z13 =>
      X4_price_L72 a0 x1 x2 n (x4 + 1) z13.2
def X4_price_L159 (a0 : Nat) (x1 : Int32) : Nat → Int32 → Mem → Option (Int32 × Mem)
  | 0, _, _ => none
  | n + 1, x4, μ =>
      (gI 4 16 a0 μ).bind fun v1 =>
      if ((1 : Int32) <<< (v1 &&& 31)) ≤ x4 then
      some ((x4, μ))
      else
      (vO 4 a0 μ).bind fun g3 =>
      (X4_priceSet a0 ((x1 * 64) + x4) x4 μ).bind fun μ4 =>
      X4_price_L159 a0 x1 n (x4 + 1) μ4
def X4_price (a0 : Nat) (x1 : Int32) (x2 : Int32) (a3 : Nat) (μ : Mem) : Option Mem :=
  (gR 4 6 a0 μ).bind fun v1 =>
  (gR 4 5 a0 μ).bind fun v2 =>
  (gR 4 3 a0 μ).bind fun v3 =>
  (gR 9 4 v3 μ).bind fun v4 =>
  (aR 7 v4 x1 μ).bind fun v5 =>
  (vO 1 v1 μ).bind fun g6 =>
  (X1_open v1 a3 v2 x2 v5 μ).bind fun μ7 =>
  (X4_price_L25 a0 x1 x2 FU 0 μ7).bind fun z8 =>
  (gR 4 10 a0 z8.2).bind fun v9 =>
  (sI v9 0 0 z8.2).bind fun μ10 =>
  (X4_price_L72 a0 x1 x2 FU 0 μ10).bind fun z11 =>
  (X4_price_L159 a0 x1 FU 1 z11.2).bind fun z12 =>
  some z12.2
def X4_mostBarsAt_L23 (a0 : Nat) (x1 : Int32) (x2 : Int32) (x3 : Int32) (x4 : Int32) (a5 : Nat) : Nat → Int32 → Mem → Option (Int32 × Mem)
  | 0, _, _ => none
  | n + 1, x6, μ =>
      if x2 ≤ x6 then
      some ((x6, μ))
      else
      (gR 4 15 a0 μ).bind fun v2 =>
      (sI v2 (x3 + x6) ((x1 >>> (((x2 - 1) - x6) &&& 31)) &&& 1) μ).bind fun μ3 =>
      X4_mostBarsAt_L23 a0 x1 x2 x3 x4 a5 n (x6 + 1) μ3
def X4_mostBarsAt (a0 : Nat) (x1 : Int32) (x2 : Int32) (x3 : Int32) (x4 : Int32) (a5 : Nat) (μ : Mem) : Option (Int32 × Mem) :=
  (gI 4 18 a0 μ).bind fun v1 =>
  if v1 = 0 then
  some (0, μ)
  else
  (gR 4 15 a0 μ).bind fun v3 =>
  (aL v3 μ).bind fun v4 =>
  if (x3 + x2) < v4 then
  (X4_mostBarsAt_L23 a0 x1 x2 x3 x4 a5 FU 0 μ).bind fun z6 =>
  (gR 4 15 a0 z6.2).bind fun v7 =>
  (sI v7 (x3 + x2) 0 z6.2).bind fun μ8 =>
  (gR 4 15 a0 μ8).bind fun v9 =>
  (aI v9 x3 μ8).bind fun v10 =>
  (sI v9 x3 (v10 + x4) μ8).bind fun μ11 =>
  (gR 4 15 a0 μ11).bind fun v12 =>
  (vO 3 a5 μ11).bind fun g13 =>
  (X3_mostBars a5 v12 (x3 + x2) μ11).bind fun v14 =>
  (zz v14).bind fun v15 =>
  some (v15, μ11)
  else
  some (0, μ)
def X4_nodeBehind (a0 : Nat) (x1 : Int32) (x2 : Int32) (μ : Mem) : Option Int32 :=
  ((if x2 = 0 then
  some 0
  else
  (gI 4 18 a0 μ).bind fun v2 =>
  if v2 = 0 then
  some 0
  else
  some 1) : Option (Int32)).bind fun z4 =>
  some ((x1 * 2) + z4)
def X4_total (a0 : Nat) (x1 : Int32) (x2 : Int32) (μ : Mem) : Option Int32 :=
  (gI 4 17 a0 μ).bind fun v1 =>
  ((if x1 < (1 <<< (v1 &&& 31)) then
  (gR 4 14 a0 μ).bind fun v3 =>
  (aI v3 ((x1 * 64) + x2) μ).bind fun v4 =>
  some v4
  else
  some 0) : Option (Int32)).bind fun z5 =>
  some (z5)
def X4_decide_L45 (a0 : Nat) (x1 : Int32) (x2 : Int32) (x3 : Int32) (x4 : Int32) (x5 : Int32) (x9 : Int32) (μ : Mem) : Nat → Int32 → Int32 → Int32 → Int32 → Option (Int32 × Int32 × Int32 × Int32)
  | 0, _, _, _, _ => none
  | n + 1, x6, x7, x8, x10 =>
      if x9 ≤ x10 then
      some ((x6, x7, x8, x10))
      else
      (some ((x8 - x5) &&& x5 : Int32)).bind fun v2 =>
      (gR 4 12 a0 μ).bind fun v3 =>
      (aI v3 ((x2 * 64) + v2) μ).bind fun v4 =>
      ((if v4 ≤ 0 then
      some ((x6, x7))
      else
      if x4 = 0 then
      (vO 4 a0 μ).bind fun g7 =>
      (X4_nodeBehind a0 x1 1 μ).bind fun v8 =>
      (vO 4 a0 μ).bind fun g9 =>
      (X4_total a0 v8 (x3 ||| v2) μ).bind fun v10 =>
      if (v4 + v10) ≤ x7 then
      some ((x6, x7))
      else
      some ((v2, v4 + v10))
      else
      (gR 4 6 a0 μ).bind fun v12 =>
      (gR 4 8 a0 μ).bind fun v13 =>
      (aI v13 v2 μ).bind fun v14 =>
      (vO 1 v12 μ).bind fun g15 =>
      (X1_isAlways v12 v14 μ).bind fun v16 =>
      if v16 = 0 then
      some ((x6, x7))
      else
      (vO 4 a0 μ).bind fun g18 =>
      (X4_nodeBehind a0 x1 1 μ).bind fun v19 =>
      (vO 4 a0 μ).bind fun g20 =>
      (X4_total a0 v19 (x3 ||| v2) μ).bind fun v21 =>
      if (v4 + v21) ≤ x7 then
      some ((x6, x7))
      else
      some ((v2, v4 + v21))) : Option (Int32 × Int32)).bind fun z23 =>
      X4_decide_L45 a0 x1 x2 x3 x4 x5 x9 μ n z23.1 z23.2 v2 (x10 + 1)
def X4_decide (a0 : Nat) (x1 : Int32) (x2 : Int32) (x3 : Int32) (x4 : Int32) (μ : Mem) : Option (Int32 × Mem) :=
  (gI 4 16 a0 μ).bind fun v1 =>
  (some (((1 <<< (v1 &&& 31)) - 1) &&& (x3 ^^^ ((-1))) : Int32)).bind fun v2 =>
  (vO 4 a0 μ).bind fun g3 =>
  (X4_nodeBehind a0 x1 0 μ).bind fun v4 =>
  (vO 4 a0 μ).bind fun g5 =>
  (X4_total a0 v4 x3 μ).bind fun v6 =>
  (some (1 <<< ((J6_bitCount_0f7a4 v2) &&& 31) : Int32)).bind fun v7 =>
  (X4_decide_L45 a0 x1 x2 x3 x4 v2 v7 μ FU 0 v6 0 1).bind fun z8 =>
  (gR 4 14 a0 μ).bind fun v9 =>
  (sI v9 ((x1 * 64) + x3) z8.2.1 μ).bind fun μ10 =>
  some (z8.1, μ10)
def X4_tell_L9 (a0 : Nat) (x1 : Int32) (x2 : Int32) (a3 : Nat) : Nat → Int32 → Int32 → Int32 → Mem → Option (Int32 × Int32 × Int32 × Mem)
  | 0, _, _, _, _ => none
  | n + 1, x4, x5, x6, μ =>
      (gI 4 17 a0 μ).bind fun v1 =>
      if v1 ≤ x6 then
      some ((x4, x5, x6, μ))
      else
      (vO 4 a0 μ).bind fun g3 =>
      (X4_mostBarsAt a0 x4 x6 x1 x2 a3 μ).bind fun z4 =>
      (vO 4 a0 z4.2).bind fun g5 =>
      (X4_decide a0 x4 x6 x5 z4.1 z4.2).bind fun z6 =>
      (gR 4 1 a0 z6.2).bind fun v7 =>
      (gR 4 8 a0 z6.2).bind fun v8 =>
      (aI v8 z6.1 z6.2).bind fun v9 =>
      (sI v7 x6 v9 z6.2).bind fun μ10 =>
      (gR 4 2 a0 μ10).bind fun v11 =>
      ((if z6.1 = 0 then
      some ((-1))
      else
      (gR 4 13 a0 μ10).bind fun v13 =>
      (aI v13 ((x6 * 64) + z6.1) μ10).bind fun v14 =>
      some v14) : Option (Int32)).bind fun z15 =>
      (sI v11 x6 z15 μ10).bind fun μ16 =>
      (some (x5 ||| z6.1 : Int32)).bind fun v17 =>
      (some (if z6.1 = 0 then 0 else 1 : Int32)).bind fun v19 =>
      (vO 4 a0 μ16).bind fun g20 =>
      (X4_nodeBehind a0 x4 v19 μ16).bind fun v21 =>
      X4_tell_L9 a0 x1 x2 a3 n v21 v17 (x6 + 1) μ16
def X4_tell (a0 : Nat) (x1 : Int32) (x2 : Int32) (a3 : Nat) (μ : Mem) : Option Mem :=
  (X4_tell_L9 a0 x1 x2 a3 FU 1 0 0 μ).bind fun z1 =>
  some z1.2.2.2
def X4_make_L43 (a0 : Nat) (x1 : Int32) (x3 : Int32) (a4 : Nat) : Nat → Int32 → Mem → Option (Int32 × Mem)
  | 0, _, _ => none
  | n + 1, x5, μ =>
      (gI 4 17 a0 μ).bind fun v1 =>
      if v1 ≤ x5 then
      some ((x5, μ))
      else
      (vO 4 a0 μ).bind fun g3 =>
      (X4_price a0 x5 (x3 + x5) a4 μ).bind fun μ4 =>
      X4_make_L43 a0 x1 x3 a4 n (x5 + 1) μ4
def X4_make_L156 (a0 : Nat) (x3 : Int32) (a4 : Nat) (x5 : Int32) (x6 : Int32) (x7 : Int32) (x8 : Int32) (x9 : Int32) : Nat → Int32 → Mem → Option (Int32 × Mem)
  | 0, _, _ => none
  | n + 1, x10, μ =>
      (gI 4 16 a0 μ).bind fun v1 =>
      if ((1 : Int32) <<< (v1 &&& 31)) ≤ x10 then
      some ((x10, μ))
      else
      (vO 4 a0 μ).bind fun g3 =>
      (X4_decide a0 x8 x6 x10 x9 μ).bind fun z4 =>
      X4_make_L156 a0 x3 a4 x5 x6 x7 x8 x9 n (x10 + 1) z4.2
def X4_make_L126 (a0 : Nat) (x3 : Int32) (a4 : Nat) (x5 : Int32) (x6 : Int32) (x7 : Int32) : Nat → Int32 → Mem → Option (Int32 × Mem)
  | 0, _, _ => none
  | n + 1, x8, μ =>
      if ((1 <<< (x6 &&& 31)) + x7) ≤ x8 then
      some ((x8, μ))
      else
      (vO 4 a0 μ).bind fun g2 =>
      (X4_mostBarsAt a0 x8 x6 x3 x5 a4 μ).bind fun z3 =>
      (X4_make_L156 a0 x3 a4 x5 x6 x7 x8 z3.1 FU 0 z3.2).bind fun z4 =>
      X4_make_L126 a0 x3 a4 x5 x6 x7 n (x8 + 1) z4.2
def X4_make_L98 (a0 : Nat) (x3 : Int32) (a4 : Nat) (x5 : Int32) : Nat → Int32 → Mem → Option (Int32 × Mem)
  | 0, _, _ => none
  | n + 1, x6, μ =>
      if x6 < 0 then
      some ((x6, μ))
      else
      (gI 4 18 a0 μ).bind fun v2 =>
      (some (if v2 = 0 then 1 else 1 <<< (x6 &&& 31) : Int32)).bind fun v4 =>
      (some (1 <<< (x6 &&& 31) : Int32)).bind fun v5 =>
      (X4_make_L126 a0 x3 a4 x5 x6 v4 FU v5 μ).bind fun z6 =>
      X4_make_L98 a0 x3 a4 x5 n (x6 + (-1)) z6.2
def X4_make (a0 : Nat) (x1 : Int32) (x2 : Int32) (x3 : Int32) (a4 : Nat) (μ : Mem) : Option Mem :=
  (pI 4 17 a0 (if 6 < x2 then 6 else x2) μ).bind fun μ1 =>
  (vO 3 a4 μ1).bind fun g2 =>
  (X3_countsSayings a4 μ1).bind fun v3 =>
  (pZ 4 18 a0 v3 μ1).bind fun μ4 =>
  (vO 4 a0 μ4).bind fun g5 =>
  (X4_pick a0 x1 x3 μ4).bind fun μ6 =>
  (gR 4 3 a0 μ6).bind fun v7 =>
  (gI 4 17 a0 μ6).bind fun v8 =>
  (vO 9 v7 μ6).bind fun g9 =>
  (X9_lookAhead v7 x1 x3 (v8 - 1) μ6).bind fun μ10 =>
  (X4_make_L43 a0 x1 x3 a4 FU 0 μ10).bind fun z11 =>
  (gR 4 5 a0 z11.2).bind fun v12 =>
  (gR 4 15 a0 z11.2).bind fun v13 =>
  (vO 0 v12 z11.2).bind fun g14 =>
  (X0_countSaid v12 x1 v13 z11.2).bind fun μ15 =>
  (gR 4 15 a0 μ15).bind fun v16 =>
  (aI v16 x3 μ15).bind fun v17 =>
  (gI 4 17 a0 μ15).bind fun v18 =>
  (some (v18 - 1 : Int32)).bind fun v19 =>
  (X4_make_L98 a0 x3 a4 v17 FU v19 μ15).bind fun z20 =>
  (gR 4 14 a0 z20.2).bind fun v21 =>
  (aI v21 64 z20.2).bind fun v22 =>
  (pI 4 0 a0 v22 z20.2).bind fun μ23 =>
  (vO 4 a0 μ23).bind fun g24 =>
  (X4_tell a0 x3 v17 a4 μ23).bind fun μ25 =>
  some μ25
set_option maxRecDepth 100000 in
def X7_init (a0 : Nat) (a1 : Nat) (a2 : Nat) (a3 : Nat) (μ : Mem) : Option Mem :=
  (pR 7 4 a0 a1 μ).bind fun μ1 =>
  (pR 7 5 a0 a2 μ1).bind fun μ2 =>
  (pR 7 6 a0 a3 μ2).bind fun μ3 =>
  some μ3
def X7_isLeft (a0 : Nat) (x1 : Int32) (x2 : Int32) (μ : Mem) : Option Int32 :=
  (gR 7 6 a0 μ).bind fun v1 =>
  (gR 0 0 v1 μ).bind fun v2 =>
  (aR 6 v2 x1 μ).bind fun v3 =>
  (gI 6 0 v3 μ).bind fun v4 =>
  ((if (X10_contains v4 x2) = 0 then
  some 0
  else
  (gI 7 7 a0 μ).bind fun v6 =>
  if (X10_contains v6 x1) = 0 then
  some 1
  else
  some 0) : Option (Int32)).bind fun z8 =>
  (zz z8).bind fun v9 =>
  some v9
def X7_sayIn_L3 (a0 : Nat) (x1 : Int32) (x2 : Int32) (x3 : Int32) : Nat → Int32 → Mem → Option (Int32 × Mem)
  | 0, _, _ => none
  | n + 1, x4, μ =>
      (gR 7 6 a0 μ).bind fun v1 =>
      (gI 0 2 v1 μ).bind fun v2 =>
      if v2 ≤ x4 then
      some ((x4, μ))
      else
      (gR 7 6 a0 μ).bind fun v4 =>
      (gR 0 0 v4 μ).bind fun v5 =>
      (aR 6 v5 x4 μ).bind fun v6 =>
      (vO 6 v6 μ).bind fun g7 =>
      (X6_isMust v6 μ).bind fun v8 =>
      ((if v8 = 0 then
      some 0
      else
      (gI 6 6 v6 μ).bind fun v10 =>
      if x1 = v10 then
      some 1
      else
      some 0) : Option (Int32)).bind fun z12 =>
      (vO 7 a0 μ).bind fun g13 =>
      (X7_isLeft a0 x4 x2 μ).bind fun v14 =>
      ((if v14 = 0 then
      some μ
      else
      (gI 6 7 v6 μ).bind fun v16 =>
      if x1 < v16 then
      some μ
      else
      if x3 = 0 then
      if z12 = 0 then
      some μ
      else
      (gI 7 7 a0 μ).bind fun v31 =>
      (pI 7 7 a0 (v31 ||| (1 <<< (x4 &&& 31))) μ).bind fun μ32 =>
      (gI 7 3 a0 μ32).bind fun v33 =>
      (pI 7 3 a0 (v33 + 1) μ32).bind fun μ34 =>
      (gI 7 1 a0 μ34).bind fun v35 =>
      (gI 6 7 v6 μ34).bind fun v36 =>
      (pI 7 1 a0 (v35 + (x1 - v36)) μ34).bind fun μ37 =>
      (gI 6 6 v6 μ37).bind fun v38 =>
      if x1 ≤ v38 then
      some μ37
      else
      (gI 7 0 a0 μ37).bind fun v40 =>
      (pI 7 0 a0 (v40 + 1) μ37).bind fun μ41 =>
      some μ41
      else
      (gI 7 7 a0 μ).bind fun v19 =>
      (pI 7 7 a0 (v19 ||| (1 <<< (x4 &&& 31))) μ).bind fun μ20 =>
      (gI 7 3 a0 μ20).bind fun v21 =>
      (pI 7 3 a0 (v21 + 1) μ20).bind fun μ22 =>
      (gI 7 1 a0 μ22).bind fun v23 =>
      (gI 6 7 v6 μ22).bind fun v24 =>
      (pI 7 1 a0 (v23 + (x1 - v24)) μ22).bind fun μ25 =>
      (gI 6 6 v6 μ25).bind fun v26 =>
      if x1 ≤ v26 then
      some μ25
      else
      (gI 7 0 a0 μ25).bind fun v28 =>
      (pI 7 0 a0 (v28 + 1) μ25).bind fun μ29 =>
      some μ29) : Option (Mem)).bind fun z42 =>
      X7_sayIn_L3 a0 x1 x2 x3 n (x4 + 1) z42
def X7_sayIn (a0 : Nat) (x1 : Int32) (x2 : Int32) (x3 : Int32) (μ : Mem) : Option Mem :=
  (X7_sayIn_L3 a0 x1 x2 x3 FU 0 μ).bind fun z1 =>
  some z1.2
def X7_run_L28 (a0 : Nat) (x1 : Int32) (x2 : Int32) (x3 : Int32) (x4 : Int32) : Nat → Int32 → Mem → Option (Int32 × Mem)
  | 0, _, _ => none
  | n + 1, x5, μ =>
      if x4 ≤ x5 then
      some ((x5, μ))
      else
      (gR 7 4 a0 μ).bind fun v2 =>
      (vO 9 v2 μ).bind fun g3 =>
      (X9_lookAhead v2 x1 x5 0 μ).bind fun μ4 =>
      (gI 7 3 a0 μ4).bind fun v5 =>
      (gR 7 4 a0 μ4).bind fun v6 =>
      (vO 9 v6 μ4).bind fun g7 =>
      (X9_seamOdds v6 0 μ4).bind fun v8 =>
      (some (if v8 < x2 then 0 else 1 : Int32)).bind fun v10 =>
      (vO 7 a0 μ4).bind fun g11 =>
      (X7_sayIn a0 x5 x1 v10 μ4).bind fun μ12 =>
      (gI 7 3 a0 μ12).bind fun v13 =>
      ((if v13 ≤ v5 then
      some μ12
      else
      (gI 7 2 a0 μ12).bind fun v15 =>
      (gR 7 5 a0 μ12).bind fun v16 =>
      (gR 7 4 a0 μ12).bind fun v17 =>
      (gR 9 4 v17 μ12).bind fun v18 =>
      (aR 7 v18 0 μ12).bind fun v19 =>
      (vO 8 v16 μ12).bind fun g20 =>
      (X8_lossBy v16 x3 v19 μ12).bind fun v21 =>
      (pI 7 2 a0 (v15 + v21) μ12).bind fun μ22 =>
      some μ22) : Option (Mem)).bind fun z23 =>
      X7_run_L28 a0 x1 x2 x3 x4 n (x5 + 1) z23
def X7_run_L120 (a0 : Nat) (x1 : Int32) (x4 : Int32) : Nat → Int32 → Mem → Option (Int32 × Mem)
  | 0, _, _ => none
  | n + 1, x5, μ =>
      (gR 7 6 a0 μ).bind fun v1 =>
      (gI 0 2 v1 μ).bind fun v2 =>
      if v2 ≤ x5 then
      some ((x5, μ))
      else
      (vO 7 a0 μ).bind fun g4 =>
      (X7_isLeft a0 x5 x1 μ).bind fun v5 =>
      ((if v5 = 0 then
      some μ
      else
      (gR 7 6 a0 μ).bind fun v7 =>
      (gR 0 0 v7 μ).bind fun v8 =>
      (aR 6 v8 x5 μ).bind fun v9 =>
      (gI 6 6 v9 μ).bind fun v10 =>
      if x4 ≤ v10 then
      some μ
      else
      (gI 7 0 a0 μ).bind fun v12 =>
      (pI 7 0 a0 (v12 + 1) μ).bind fun μ13 =>
      some μ13) : Option (Mem)).bind fun z14 =>
      X7_run_L120 a0 x1 x4 n (x5 + 1) z14
def X7_run (a0 : Nat) (x1 : Int32) (x2 : Int32) (x3 : Int32) (x4 : Int32) (μ : Mem) : Option Mem :=
  (pI 7 0 a0 0 μ).bind fun μ1 =>
  (pI 7 1 a0 0 μ1).bind fun μ2 =>
  (pI 7 2 a0 0 μ2).bind fun μ3 =>
  (pI 7 3 a0 0 μ3).bind fun μ4 =>
  (pI 7 7 a0 0 μ4).bind fun μ5 =>
  (X7_run_L28 a0 x1 x2 x3 x4 FU 0 μ5).bind fun z6 =>
  (X7_run_L120 a0 x1 x4 FU 0 z6.2).bind fun z7 =>
  some z7.2
def X8_init_L38 (a0 : Nat) (x1 : Int32) : Nat → Int32 → Mem → Option (Int32 × Mem)
  | 0, _, _ => none
  | n + 1, x2, μ =>
      if (4 : Int32) ≤ x2 then
      some ((x2, μ))
      else
      (gR 8 0 a0 μ).bind fun v2 =>
      (aR 7 v2 x1 μ).bind fun v3 =>
      (sI v3 x2 10 μ).bind fun μ4 =>
      X8_init_L38 a0 x1 n (x2 + 1) μ4
def X8_init_L23 (a0 : Nat) : Nat → Int32 → Mem → Option (Int32 × Mem)
  | 0, _, _ => none
  | n + 1, x1, μ =>
      if (4 : Int32) ≤ x1 then
      some ((x1, μ))
      else
      (gR 8 1 a0 μ).bind fun v2 =>
      (sI v2 x1 50 μ).bind fun μ3 =>
      (X8_init_L38 a0 x1 FU 0 μ3).bind fun z4 =>
      X8_init_L23 a0 n (x1 + 1) z4.2
set_option maxRecDepth 100000 in
def X8_init (a0 : Nat) (μ : Mem) : Option Mem :=
  (nM (mN μ + 0) 4 4 μ).bind fun μ1 =>
  (pR 8 0 a0 (mN μ + 0) μ1).bind fun μ2 =>
  (nA 1 (mN μ + 5) 4 μ2).bind fun μ3 =>
  (pR 8 1 a0 (mN μ + 5) μ3).bind fun μ4 =>
  (X8_init_L23 a0 FU 0 μ4).bind fun z5 =>
  some z5.2
def X9_init_L83 (a0 : Nat) (x1 : Int32) : Nat → Int32 → Mem → Option (Int32 × Mem)
  | 0, _, _ => none
  | n + 1, x2, μ =>
      if (4 : Int32) ≤ x2 then
      some ((x2, μ))
      else
      (gR 9 0 a0 μ).bind fun v2 =>
      (aR 7 v2 x1 μ).bind fun v3 =>
      (sI v3 x2 1 μ).bind fun μ4 =>
      X9_init_L83 a0 x1 n (x2 + 1) μ4
def X9_init_L105 (a0 : Nat) (x1 : Int32) : Nat → Int32 → Mem → Option (Int32 × Mem)
  | 0, _, _ => none
  | n + 1, x2, μ =>
      if (4 : Int32) ≤ x2 then
      some ((x2, μ))
      else
      (gR 9 1 a0 μ).bind fun v2 =>
      (aR 7 v2 x1 μ).bind fun v3 =>
      (sI v3 x2 1 μ).bind fun μ4 =>
      X9_init_L105 a0 x1 n (x2 + 1) μ4
def X9_init_L69 (a0 : Nat) : Nat → Int32 → Mem → Option (Int32 × Mem)
  | 0, _, _ => none
  | n + 1, x1, μ =>
      if (4 : Int32) ≤ x1 then
      some ((x1, μ))
      else
      (gR 9 2 a0 μ).bind fun v2 =>
      (sI v2 x1 1 μ).bind fun μ3 =>
      (X9_init_L83 a0 x1 FU 0 μ3).bind fun z4 =>
      (X9_init_L105 a0 x1 FU 0 z4.2).bind fun z5 =>
      X9_init_L69 a0 n (x1 + 1) z5.2
def X9_init_L140 (a0 : Nat) (x1 : Int32) : Nat → Int32 → Mem → Option (Int32 × Mem)
  | 0, _, _ => none
  | n + 1, x2, μ =>
      if (60 : Int32) < x2 then
      some ((x2, μ))
      else
      (gR 9 3 a0 μ).bind fun v2 =>
      (aR 7 v2 x1 μ).bind fun v3 =>
      (sI v3 x2 ((-1)) μ).bind fun μ4 =>
      X9_init_L140 a0 x1 n (x2 + 1) μ4
def X9_init_L133 (a0 : Nat) : Nat → Int32 → Mem → Option (Int32 × Mem)
  | 0, _, _ => none
  | n + 1, x1, μ =>
      if (4 : Int32) ≤ x1 then
      some ((x1, μ))
      else
      (X9_init_L140 a0 x1 FU 0 μ).bind fun z2 =>
      X9_init_L133 a0 n (x1 + 1) z2.2
set_option maxRecDepth 100000 in
def X9_init (a0 : Nat) (μ : Mem) : Option Mem :=
  (nM (mN μ + 0) 4 4 μ).bind fun μ1 =>
  (pR 9 0 a0 (mN μ + 0) μ1).bind fun μ2 =>
  (nM (mN μ + 5) 4 4 μ2).bind fun μ3 =>
  (pR 9 1 a0 (mN μ + 5) μ3).bind fun μ4 =>
  (nA 1 (mN μ + 10) 4 μ4).bind fun μ5 =>
  (pR 9 2 a0 (mN μ + 10) μ5).bind fun μ6 =>
  (nM (mN μ + 11) 4 61 μ6).bind fun μ7 =>
  (pR 9 3 a0 (mN μ + 11) μ7).bind fun μ8 =>
  (nM (mN μ + 16) 9 4 μ8).bind fun μ9 =>
  (pR 9 4 a0 (mN μ + 16) μ9).bind fun μ10 =>
  (nA 2 (mN μ + 26) 4 μ10).bind fun μ11 =>
  (pR 9 6 a0 (mN μ + 26) μ11).bind fun μ12 =>
  (nA 2 (mN μ + 27) 4 μ12).bind fun μ13 =>
  (pR 9 7 a0 (mN μ + 27) μ13).bind fun μ14 =>
  (X9_init_L69 a0 FU 0 μ14).bind fun z15 =>
  (X9_init_L133 a0 FU 0 z15.2).bind fun z16 =>
  some z16.2
def X9_fittingRows (a0 : Nat) (x1 : Int32) (x2 : Int32) (μ : Mem) : Option (Int32 × Mem) :=
  (vO 9 a0 μ).bind fun g1 =>
  (X9_weigh a0 x1 x2 1 μ).bind fun μ2 =>
  (vO 9 a0 μ2).bind fun g3 =>
  (X9_allWeights a0 μ2).bind fun v4 =>
  some (v4.toInt32, μ2)
set_option maxRecDepth 100000 in
def X10_init (a0 : Nat) (μ : Mem) : Option Mem :=
  (nO 9 (mN μ + 0) μ).bind fun μ1 =>
  (gN (mN μ + 1) μ1).bind fun g2 =>
  (X9_init (mN μ + 0) μ1).bind fun μ3 =>
  (pR 10 0 a0 (mN μ + 0) μ3).bind fun μ4 =>
  (nO 8 (mN μ + 29) μ4).bind fun μ5 =>
  (gN (mN μ + 30) μ5).bind fun g6 =>
  (X8_init (mN μ + 29) μ5).bind fun μ7 =>
  (pR 10 1 a0 (mN μ + 29) μ7).bind fun μ8 =>
  (nO 0 (mN μ + 36) μ8).bind fun μ9 =>
  (gN (mN μ + 37) μ9).bind fun g10 =>
  (X0_init (mN μ + 36) μ9).bind fun μ11 =>
  (pR 10 2 a0 (mN μ + 36) μ11).bind fun μ12 =>
  (nO 2 (mN μ + 89) μ12).bind fun μ13 =>
  (gN (mN μ + 90) μ13).bind fun g14 =>
  (X2_init (mN μ + 89) μ13).bind fun μ15 =>
  (pR 10 3 a0 (mN μ + 89) μ15).bind fun μ16 =>
  (nA 4 (mN μ + 91) 4 μ16).bind fun μ17 =>
  (pR 10 4 a0 (mN μ + 91) μ17).bind fun μ18 =>
  (nO 1 (mN μ + 92) μ18).bind fun μ19 =>
  (gN (mN μ + 93) μ19).bind fun g20 =>
  (X1_init (mN μ + 92) μ19).bind fun μ21 =>
  (pR 10 5 a0 (mN μ + 92) μ21).bind fun μ22 =>
  (nO 4 (mN μ + 93) μ22).bind fun μ23 =>
  (gR 10 0 a0 μ23).bind fun v24 =>
  (gR 10 1 a0 μ23).bind fun v25 =>
  (gR 10 2 a0 μ23).bind fun v26 =>
  (gN (mN μ + 94) μ23).bind fun g27 =>
  (X4_init (mN μ + 93) v24 v25 v26 μ23).bind fun μ28 =>
  (pR 10 6 a0 (mN μ + 93) μ28).bind fun μ29 =>
  (nO 7 (mN μ + 106) μ29).bind fun μ30 =>
  (gR 10 0 a0 μ30).bind fun v31 =>
  (gR 10 1 a0 μ30).bind fun v32 =>
  (gR 10 2 a0 μ30).bind fun v33 =>
  (gN (mN μ + 107) μ30).bind fun g34 =>
  (X7_init (mN μ + 106) v31 v32 v33 μ30).bind fun μ35 =>
  (pR 10 7 a0 (mN μ + 106) μ35).bind fun μ36 =>
  (nA 1 (mN μ + 107) 66 μ36).bind fun μ37 =>
  (pR 10 8 a0 (mN μ + 107) μ37).bind fun μ38 =>
  (nO 3 (mN μ + 108) μ38).bind fun μ39 =>
  (gN (mN μ + 109) μ39).bind fun g40 =>
  (X3_init (mN μ + 108) μ39).bind fun μ41 =>
  (pR 10 9 a0 (mN μ + 108) μ41).bind fun μ42 =>
  (gR 10 4 a0 μ42).bind fun v43 =>
  (nO 3 (mN μ + 113) μ42).bind fun μ44 =>
  (gN (mN μ + 114) μ44).bind fun g45 =>
  (X3_init (mN μ + 113) μ44).bind fun μ46 =>
  (sR 4 3 v43 0 (mN μ + 113) μ46).bind fun μ47 =>
  (gR 10 4 a0 μ47).bind fun v48 =>
  (nO 3 (mN μ + 118) μ47).bind fun μ49 =>
  (gN (mN μ + 119) μ49).bind fun g50 =>
  (X3_init (mN μ + 118) μ49).bind fun μ51 =>
  (sR 4 3 v48 1 (mN μ + 118) μ51).bind fun μ52 =>
  (gR 10 4 a0 μ52).bind fun v53 =>
  (nO 3 (mN μ + 123) μ52).bind fun μ54 =>
  (gN (mN μ + 124) μ54).bind fun g55 =>
  (X3_init (mN μ + 123) μ54).bind fun μ56 =>
  (sR 4 3 v53 2 (mN μ + 123) μ56).bind fun μ57 =>
  (gR 10 4 a0 μ57).bind fun v58 =>
  (nO 3 (mN μ + 128) μ57).bind fun μ59 =>
  (gN (mN μ + 129) μ59).bind fun g60 =>
  (X3_init (mN μ + 128) μ59).bind fun μ61 =>
  (sR 4 3 v58 3 (mN μ + 128) μ61).bind fun μ62 =>
  some μ62
def X10_isState (x0 : Int32) : Int32 :=
  X10_within x0 0 3
def X10_isOften (x0 : Int32) : Int32 :=
  X10_within x0 0 4
def X10_exchange (a0 : Nat) (x1 : Int32) (x2 : Int32) (μ : Mem) : Option (Int32 × Mem) :=
  if x1 < 0 then
  some ((-1002), μ)
  else
  (aL a0 μ).bind fun v2 =>
  if x1 < v2 then
  (aI a0 x1 μ).bind fun v4 =>
  (sI a0 x1 x2 μ).bind fun μ5 =>
  some (v4, μ5)
  else
  some ((-1002), μ)
def X10_move (a0 : Nat) (x1 : Int32) (x2 : Int32) (x3 : Int32) (μ : Mem) : Option (Int32 × Mem) :=
  if (X10_isState x1) = 0 then
  some ((-1002), μ)
  else
  if (X10_isState x2) = 0 then
  some ((-1002), μ)
  else
  if (X10_isOften x3) = 0 then
  some ((-1002), μ)
  else
  (gR 10 0 a0 μ).bind fun v4 =>
  (gR 9 0 v4 μ).bind fun v5 =>
  (aR 7 v5 x1 μ).bind fun v6 =>
  (X10_exchange v6 x2 x3 μ).bind fun z7 =>
  some (z7.1, z7.2)
def X10_shows (a0 : Nat) (x1 : Int32) (x2 : Int32) (x3 : Int32) (μ : Mem) : Option (Int32 × Mem) :=
  if (X10_isState x1) = 0 then
  some ((-1002), μ)
  else
  if (X10_within x2 0 3) = 0 then
  some ((-1002), μ)
  else
  if (X10_isOften x3) = 0 then
  some ((-1002), μ)
  else
  (gR 10 0 a0 μ).bind fun v4 =>
  (gR 9 1 v4 μ).bind fun v5 =>
  (aR 7 v5 x1 μ).bind fun v6 =>
  (X10_exchange v6 x2 x3 μ).bind fun z7 =>
  some (z7.1, z7.2)
def X10_begins (a0 : Nat) (x1 : Int32) (x2 : Int32) (μ : Mem) : Option (Int32 × Mem) :=
  if (X10_isState x1) = 0 then
  some ((-1002), μ)
  else
  if (X10_isOften x2) = 0 then
  some ((-1002), μ)
  else
  (gR 10 0 a0 μ).bind fun v3 =>
  (gR 9 2 v3 μ).bind fun v4 =>
  (X10_exchange v4 x1 x2 μ).bind fun z5 =>
  some (z5.1, z5.2)
def X10_seams (a0 : Nat) (x1 : Int32) (μ : Mem) : Option (Int32 × Mem) :=
  if (X10_within x1 0 15) = 0 then
  some ((-1002), μ)
  else
  (gR 10 0 a0 μ).bind fun v2 =>
  (gI 9 5 v2 μ).bind fun v3 =>
  (gR 10 0 a0 μ).bind fun v4 =>
  (pI 9 5 v4 x1 μ).bind fun μ5 =>
  some (v3, μ5)
def X10_isPerson (x0 : Int32) : Int32 :=
  X10_within x0 0 3
def X10_sign (a0 : Nat) (x1 : Int32) (x2 : Int32) (μ : Mem) : Option (Int32 × Mem) :=
  if (X10_isPerson x1) = 0 then
  some ((-1001), μ)
  else
  if (X10_within x2 ((-1)) 3) = 0 then
  some ((-1002), μ)
  else
  (gR 10 0 a0 μ).bind fun v3 =>
  (gR 9 3 v3 μ).bind fun v4 =>
  (aR 7 v4 x1 μ).bind fun v5 =>
  (gI 10 10 a0 μ).bind fun v6 =>
  (X10_exchange v5 v6 x2 μ).bind fun z7 =>
  some (1, z7.2)
def X10_go (a0 : Nat) (x1 : Int32) (μ : Mem) : Option (Int32 × Mem) :=
  if (X10_within x1 0 20) = 0 then
  some ((-1002), μ)
  else
  (gI 10 10 a0 μ).bind fun v2 =>
  if (v2 + x1) ≤ 60 then
  (gI 10 10 a0 μ).bind fun v4 =>
  (pI 10 10 a0 (v4 + x1) μ).bind fun μ5 =>
  (gI 10 10 a0 μ5).bind fun v6 =>
  some (v6, μ5)
  else
  some ((-1003), μ)
def X10_fits (a0 : Nat) (x1 : Int32) (x2 : Int32) (μ : Mem) : Option (Int32 × Mem) :=
  if (X10_isPerson x1) = 0 then
  some ((-1001), μ)
  else
  (gI 10 10 a0 μ).bind fun v2 =>
  if (X10_within x2 0 v2) = 0 then
  some ((-1002), μ)
  else
  (gR 10 0 a0 μ).bind fun v4 =>
  (vO 9 v4 μ).bind fun g5 =>
  (X9_fittingRows v4 x1 x2 μ).bind fun z6 =>
  some (z6.1, z6.2)
def X10_isAhead (x0 : Int32) : Int32 :=
  X10_within x0 0 8
def X10_odds (a0 : Nat) (x1 : Int32) (x2 : Int32) (x3 : Int32) (μ : Mem) : Option (Int32 × Mem) :=
  if (X10_isPerson x1) = 0 then
  some ((-1001), μ)
  else
  if (X10_isState x2) = 0 then
  some ((-1002), μ)
  else
  if (X10_isAhead x3) = 0 then
  some ((-1002), μ)
  else
  (gR 10 0 a0 μ).bind fun v4 =>
  (gI 10 10 a0 μ).bind fun v5 =>
  (vO 9 v4 μ).bind fun g6 =>
  (X9_lookAhead v4 x1 v5 x3 μ).bind fun μ7 =>
  (gR 10 0 a0 μ7).bind fun v8 =>
  (gR 9 4 v8 μ7).bind fun v9 =>
  (aR 7 v9 x3 μ7).bind fun v10 =>
  (aI v10 x2 μ7).bind fun v11 =>
  some (v11, μ7)
def X10_seam (a0 : Nat) (x1 : Int32) (x2 : Int32) (μ : Mem) : Option (Int32 × Mem) :=
  if (X10_isPerson x1) = 0 then
  some ((-1001), μ)
  else
  if (X10_isAhead x2) = 0 then
  some ((-1002), μ)
  else
  (gR 10 0 a0 μ).bind fun v3 =>
  (gI 10 10 a0 μ).bind fun v4 =>
  (vO 9 v3 μ).bind fun g5 =>
  (X9_lookAhead v3 x1 v4 x2 μ).bind fun μ6 =>
  (gR 10 0 a0 μ6).bind fun v7 =>
  (vO 9 v7 μ6).bind fun g8 =>
  (X9_seamOdds v7 x2 μ6).bind fun v9 =>
  some (v9, μ6)
def X10_until_L41 (a0 : Nat) (x2 : Int32) (μ : Mem) : Nat → Int32 → Option (Int32 × Mem)
  | 0, _ => none
  | n + 1, x3 =>
      if (8 : Int32) < x3 then
      some ((-1), μ)
      else
      (gR 10 0 a0 μ).bind fun v2 =>
      (vO 9 v2 μ).bind fun g3 =>
      (X9_seamOdds v2 x3 μ).bind fun v4 =>
      if v4 < x2 then
      X10_until_L41 a0 x2 μ n (x3 + 1)
      else
      some (x3, μ)
def X10_until (a0 : Nat) (x1 : Int32) (x2 : Int32) (μ : Mem) : Option (Int32 × Mem) :=
  if (X10_isPerson x1) = 0 then
  some ((-1001), μ)
  else
  if (X10_within x2 0 1000000) = 0 then
  some ((-1002), μ)
  else
  (gR 10 0 a0 μ).bind fun v3 =>
  (gI 10 10 a0 μ).bind fun v4 =>
  (vO 9 v3 μ).bind fun g5 =>
  (X9_lookAhead v3 x1 v4 8 μ).bind fun μ6 =>
  X10_until_L41 a0 x2 μ6 FU 0
def X10_thing (a0 : Nat) (x1 : Int32) (x2 : Int32) (x3 : Int32) (x4 : Int32) (x5 : Int32) (x6 : Int32) (x7 : Int32) (μ : Mem) : Option (Int32 × Mem) :=
  if (X10_within x1 1 15) = 0 then
  some ((-1001), μ)
  else
  if (X10_within x2 0 3) = 0 then
  some ((-1002), μ)
  else
  if (X10_within x3 0 5) = 0 then
  some ((-1002), μ)
  else
  if (X10_within x4 0 9) = 0 then
  some ((-1002), μ)
  else
  if (X10_within x5 0 999) = 0 then
  some ((-1002), μ)
  else
  if (X10_within x6 0 99) = 0 then
  some ((-1002), μ)
  else
  (gI 10 10 a0 μ).bind fun v7 =>
  if (X10_within x7 v7 60) = 0 then
  some ((-1002), μ)
  else
  (gR 10 2 a0 μ).bind fun v9 =>
  (gI 0 2 v9 μ).bind fun v10 =>
  if v10 < 10 then
  (gR 10 2 a0 μ).bind fun v12 =>
  (gR 0 0 v12 μ).bind fun v13 =>
  (gR 10 2 a0 μ).bind fun v14 =>
  (gI 0 2 v14 μ).bind fun v15 =>
  (aR 6 v13 v15 μ).bind fun v16 =>
  (pI 6 0 v16 x1 μ).bind fun μ17 =>
  (pI 6 1 v16 x2 μ17).bind fun μ18 =>
  (pI 6 2 v16 x3 μ18).bind fun μ19 =>
  (pI 6 3 v16 x4 μ19).bind fun μ20 =>
  (pI 6 4 v16 x5 μ20).bind fun μ21 =>
  (pI 6 5 v16 x6 μ21).bind fun μ22 =>
  (pI 6 6 v16 x7 μ22).bind fun μ23 =>
  (gI 10 10 a0 μ23).bind fun v24 =>
  (pI 6 7 v16 v24 μ23).bind fun μ25 =>
  (gR 10 2 a0 μ25).bind fun v26 =>
  (gI 0 2 v26 μ25).bind fun v27 =>
  (pI 0 2 v26 (v27 + 1) μ25).bind fun μ28 =>
  (gR 10 2 a0 μ28).bind fun v29 =>
  (gI 0 2 v29 μ28).bind fun v30 =>
  some (v30 - 1, μ28)
  else
  some ((-1004), μ)
def X10_dead (a0 : Nat) (x1 : Int32) (μ : Mem) : Option (Int32 × Mem) :=
  (gR 10 2 a0 μ).bind fun v1 =>
  (vO 0 v1 μ).bind fun g2 =>
  (X0_hasThing v1 x1 μ).bind fun v3 =>
  if v3 = 0 then
  some ((-1001), μ)
  else
  (gR 10 2 a0 μ).bind fun v5 =>
  (gR 0 0 v5 μ).bind fun v6 =>
  (aR 6 v6 x1 μ).bind fun v7 =>
  (gI 6 8 v7 μ).bind fun v8 =>
  if v8 = 0 then
  (gR 10 2 a0 μ).bind fun v10 =>
  (gR 0 0 v10 μ).bind fun v11 =>
  (aR 6 v11 x1 μ).bind fun v12 =>
  (pZ 6 8 v12 1 μ).bind fun μ13 =>
  (gR 10 2 a0 μ13).bind fun v14 =>
  (vO 0 v14 μ13).bind fun g15 =>
  (X0_sayingsWith v14 x1 μ13).bind fun v16 =>
  some (v16, μ13)
  else
  some ((-1003), μ)
def X10_told (a0 : Nat) (x1 : Int32) (x2 : Int32) (μ : Mem) : Option Int32 :=
  (gR 10 2 a0 μ).bind fun v1 =>
  (vO 0 v1 μ).bind fun g2 =>
  (X0_hasThing v1 x1 μ).bind fun v3 =>
  if v3 = 0 then
  some ((-1001))
  else
  (gR 10 2 a0 μ).bind fun v5 =>
  (gR 0 0 v5 μ).bind fun v6 =>
  (aR 6 v6 x1 μ).bind fun v7 =>
  if x2 = Int32.ofNat 0 then
  (gI 6 0 v7 μ).bind fun v9 =>
  some (v9)
  else
  if x2 = Int32.ofNat 1 then
  (gI 6 1 v7 μ).bind fun v11 =>
  some (v11)
  else
  if x2 = Int32.ofNat 2 then
  (gI 6 2 v7 μ).bind fun v13 =>
  some (v13)
  else
  if x2 = Int32.ofNat 3 then
  (gI 6 3 v7 μ).bind fun v15 =>
  some (v15)
  else
  if x2 = Int32.ofNat 4 then
  (gI 6 6 v7 μ).bind fun v17 =>
  some (v17)
  else
  if x2 = Int32.ofNat 5 then
  (gR 10 2 a0 μ).bind fun v19 =>
  (gI 10 10 a0 μ).bind fun v20 =>
  (vO 0 v19 μ).bind fun g21 =>
  (X0_standing v19 x1 v20 μ).bind fun v22 =>
  some (v22)
  else
  if x2 = Int32.ofNat 6 then
  (gR 10 2 a0 μ).bind fun v24 =>
  (vO 0 v24 μ).bind fun g25 =>
  (X0_sayingsWith v24 x1 μ).bind fun v26 =>
  some (v26)
  else
  if x2 = Int32.ofNat 7 then
  (gI 6 7 v7 μ).bind fun v28 =>
  some (v28)
  else
  some ((-1002))
def X10_value (a0 : Nat) (x1 : Int32) (x2 : Int32) (x3 : Int32) (μ : Mem) : Option (Int32 × Mem) :=
  (gR 10 2 a0 μ).bind fun v1 =>
  (vO 0 v1 μ).bind fun g2 =>
  (X0_hasThing v1 x1 μ).bind fun v3 =>
  if v3 = 0 then
  some ((-1001), μ)
  else
  if (X10_isPerson x2) = 0 then
  some ((-1001), μ)
  else
  if (X10_isAhead x3) = 0 then
  some ((-1002), μ)
  else
  (gR 10 0 a0 μ).bind fun v7 =>
  (gI 10 10 a0 μ).bind fun v8 =>
  (vO 9 v7 μ).bind fun g9 =>
  (X9_lookAhead v7 x2 v8 x3 μ).bind fun μ10 =>
  (gR 10 2 a0 μ10).bind fun v11 =>
  (gR 0 0 v11 μ10).bind fun v12 =>
  (aR 6 v12 x1 μ10).bind fun v13 =>
  (gI 10 10 a0 μ10).bind fun v14 =>
  (gR 10 0 a0 μ10).bind fun v15 =>
  (vO 9 v15 μ10).bind fun g16 =>
  (X9_seamOdds v15 x3 μ10).bind fun v17 =>
  (vO 6 v13 μ10).bind fun g18 =>
  (X6_valueIn v13 (v14 + x3) v17 μ10).bind fun v19 =>
  some (v19, μ10)
def X10_isWay (x0 : Int32) : Int32 :=
  X10_within x0 0 3
def X10_cost (a0 : Nat) (x1 : Int32) (x2 : Int32) (x3 : Int32) (μ : Mem) : Option (Int32 × Mem) :=
  if (X10_isWay x1) = 0 then
  some ((-1002), μ)
  else
  if (X10_isState x2) = 0 then
  some ((-1002), μ)
  else
  if (X10_within x3 0 999) = 0 then
  some ((-1002), μ)
  else
  (gR 10 1 a0 μ).bind fun v4 =>
  (gR 8 0 v4 μ).bind fun v5 =>
  (aR 7 v5 x1 μ).bind fun v6 =>
  (X10_exchange v6 x2 x3 μ).bind fun z7 =>
  some (z7.1, z7.2)
def X10_seen (a0 : Nat) (x1 : Int32) (x2 : Int32) (μ : Mem) : Option (Int32 × Mem) :=
  if (X10_isWay x1) = 0 then
  some ((-1002), μ)
  else
  if (X10_within x2 0 100) = 0 then
  some ((-1002), μ)
  else
  (gR 10 1 a0 μ).bind fun v3 =>
  (gR 8 1 v3 μ).bind fun v4 =>
  (X10_exchange v4 x1 x2 μ).bind fun z5 =>
  some (z5.1, z5.2)
def X10_loss (a0 : Nat) (x1 : Int32) (x2 : Int32) (x3 : Int32) (μ : Mem) : Option (Int32 × Mem) :=
  if (X10_isPerson x1) = 0 then
  some ((-1001), μ)
  else
  if (X10_isWay x2) = 0 then
  some ((-1002), μ)
  else
  if (X10_isAhead x3) = 0 then
  some ((-1002), μ)
  else
  (gR 10 0 a0 μ).bind fun v4 =>
  (gI 10 10 a0 μ).bind fun v5 =>
  (vO 9 v4 μ).bind fun g6 =>
  (X9_lookAhead v4 x1 v5 x3 μ).bind fun μ7 =>
  (gR 10 1 a0 μ7).bind fun v8 =>
  (gR 10 0 a0 μ7).bind fun v9 =>
  (gR 9 4 v9 μ7).bind fun v10 =>
  (aR 7 v10 x3 μ7).bind fun v11 =>
  (vO 8 v8 μ7).bind fun g12 =>
  (X8_lossBy v8 x2 v11 μ7).bind fun v13 =>
  some (v13, μ7)
def X10_count (a0 : Nat) (x1 : Int32) (μ : Mem) : Option Int32 :=
  if x1 = Int32.ofNat 0 then
  (gI 10 10 a0 μ).bind fun v2 =>
  some (v2)
  else
  if x1 = Int32.ofNat 1 then
  (gR 10 2 a0 μ).bind fun v4 =>
  (gI 0 2 v4 μ).bind fun v5 =>
  some (v5)
  else
  if x1 = Int32.ofNat 2 then
  (gR 10 2 a0 μ).bind fun v7 =>
  (gI 10 10 a0 μ).bind fun v8 =>
  (vO 0 v7 μ).bind fun g9 =>
  (X0_thingsThatAre v7 0 v8 μ).bind fun v10 =>
  some (v10)
  else
  if x1 = Int32.ofNat 3 then
  (gR 10 2 a0 μ).bind fun v12 =>
  (gI 10 10 a0 μ).bind fun v13 =>
  (vO 0 v12 μ).bind fun g14 =>
  (X0_thingsThatAre v12 1 v13 μ).bind fun v15 =>
  some (v15)
  else
  if x1 = Int32.ofNat 4 then
  (gR 10 2 a0 μ).bind fun v17 =>
  (gI 10 10 a0 μ).bind fun v18 =>
  (vO 0 v17 μ).bind fun g19 =>
  (X0_thingsThatAre v17 2 v18 μ).bind fun v20 =>
  some (v20)
  else
  if x1 = Int32.ofNat 5 then
  (gR 10 2 a0 μ).bind fun v22 =>
  (gI 10 10 a0 μ).bind fun v23 =>
  (vO 0 v22 μ).bind fun g24 =>
  (X0_thingsThatAre v22 3 v23 μ).bind fun v25 =>
  some (v25)
  else
  if x1 = Int32.ofNat 6 then
  (gR 10 2 a0 μ).bind fun v27 =>
  (gI 0 3 v27 μ).bind fun v28 =>
  some (v28)
  else
  if x1 = Int32.ofNat 7 then
  (gR 10 3 a0 μ).bind fun v30 =>
  (gI 2 0 v30 μ).bind fun v31 =>
  some (v31)
  else
  some ((-1002))
def X10_feed_L38 (a0 : Nat) (j2 : Int64) : Nat → Int32 → Mem → Option (Int32 × Mem)
  | 0, _, _ => none
  | n + 1, x4, μ =>
      if x4 < 0 then
      some ((x4, μ))
      else
      (gR 10 3 a0 μ).bind fun v2 =>
      (vO 2 v2 μ).bind fun g3 =>
      (X2_append v2 ((((j2.toUInt64 >>> ((8 * x4).toInt64.toUInt64 &&& Int64.toUInt64 63)).toInt64).toInt32) &&& 255) μ).bind fun μ4 =>
      X10_feed_L38 a0 j2 n (x4 + (-1)) μ4
def X10_feed (a0 : Nat) (x1 : Int32) (j2 : Int64) (μ : Mem) : Option (Int32 × Mem) :=
  if (X10_within x1 1 8) = 0 then
  some ((-1002), μ)
  else
  (gR 10 3 a0 μ).bind fun v2 =>
  (gI 2 0 v2 μ).bind fun v3 =>
  if (v3 + x1) ≤ 160 then
  (some (x1 - 1 : Int32)).bind fun v5 =>
  (X10_feed_L38 a0 j2 FU v5 μ).bind fun z6 =>
  (gR 10 3 a0 z6.2).bind fun v7 =>
  (gI 2 0 v7 z6.2).bind fun v8 =>
  some (v8, z6.2)
  else
  some ((-1004), μ)

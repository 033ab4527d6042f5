/-! what the constructors make -/
def sx_X0_4 (σ : St_) : St_ := (sI_ (sI_ (sI_ (sI_ (sI_ (sI_ (sI_ (sR_ (zr_ (sR_ (zr_ (sR_ (zr_ (sR_ (zr_ (sR_ (zr_ (sR_ (zr_ (sR_ (gz_ (sR_ (zr_ (sR_ (zr_ (sR_ (zr_ (sR_ (zr_ σ 5) 4 0 (some 5)) 6) 4 1 (some 6)) 7) 4 2 (some 7)) 8) 4 3 (some 8)) 9 16) 4 4 (some 9)) 26) 4 5 (some 26)) 27) 4 6 (some 27)) 28) 4 7 (some 28)) 29) 4 8 (some 29)) 30) 4 9 (some 30)) 31) 4 10 (some 31)) 4 11 0) 4 12 0) 4 13 0) 4 14 20) 4 15 8) 4 16 0) 4 17 0)
set_option maxRecDepth 100000 in
theorem ev_X0_4 (σ : St_) : hn_X0_init [.ref 4] (5, σ) = some (32, sx_X0_4 σ) := rfl
def sx_X0_32 (σ : St_) : St_ := (sI_ (sI_ (sI_ (sI_ (sI_ (sI_ (sI_ (sR_ (zr_ (sR_ (zr_ (sR_ (zr_ (sR_ (zr_ (sR_ (zr_ (sR_ (zr_ (sR_ (gz_ (sR_ (zr_ (sR_ (zr_ (sR_ (zr_ (sR_ (zr_ σ 33) 32 0 (some 33)) 34) 32 1 (some 34)) 35) 32 2 (some 35)) 36) 32 3 (some 36)) 37 16) 32 4 (some 37)) 54) 32 5 (some 54)) 55) 32 6 (some 55)) 56) 32 7 (some 56)) 57) 32 8 (some 57)) 58) 32 9 (some 58)) 59) 32 10 (some 59)) 32 11 0) 32 12 0) 32 13 0) 32 14 20) 32 15 8) 32 16 0) 32 17 0)
set_option maxRecDepth 100000 in
theorem ev_X0_32 (σ : St_) : hn_X0_init [.ref 32] (33, σ) = some (60, sx_X0_32 σ) := rfl
def sx_X6_60 (σ : St_) : St_ := (sI_ (sR_ (zr_ (sR_ (zr_ (sR_ (zr_ (sR_ (zr_ σ 61) 60 0 (some 61)) 62) 60 1 (some 62)) 63) 60 2 (some 63)) 64) 60 3 (some 64)) 60 4 0)
set_option maxRecDepth 100000 in
theorem ev_X6_60 (σ : St_) : hn_X6_init [.ref 60] (61, σ) = some (65, sx_X6_60 σ) := rfl
def sx_X6_65 (σ : St_) : St_ := (sI_ (sR_ (zr_ (sR_ (zr_ (sR_ (zr_ (sR_ (zr_ σ 66) 65 0 (some 66)) 67) 65 1 (some 67)) 68) 65 2 (some 68)) 69) 65 3 (some 69)) 65 4 0)
set_option maxRecDepth 100000 in
theorem ev_X6_65 (σ : St_) : hn_X6_init [.ref 65] (66, σ) = some (70, sx_X6_65 σ) := rfl
def sx_X9_70 (σ : St_) : St_ := (sI_ (sI_ (sR_ (zr_ (sR_ (zr_ (sR_ (zr_ (sR_ (zr_ σ 71) 70 0 (some 71)) 72) 70 1 (some 72)) 73) 70 2 (some 73)) 74) 70 3 (some 74)) 70 4 0) 70 5 0)
set_option maxRecDepth 100000 in
theorem ev_X9_70 (σ : St_) : hn_X9_init [.ref 70] (71, σ) = some (75, sx_X9_70 σ) := rfl
def sx_X9_75 (σ : St_) : St_ := (sI_ (sI_ (sR_ (zr_ (sR_ (zr_ (sR_ (zr_ (sR_ (zr_ σ 76) 75 0 (some 76)) 77) 75 1 (some 77)) 78) 75 2 (some 78)) 79) 75 3 (some 79)) 75 4 0) 75 5 0)
set_option maxRecDepth 100000 in
theorem ev_X9_75 (σ : St_) : hn_X9_init [.ref 75] (76, σ) = some (80, sx_X9_75 σ) := rfl
def sx_X5_80 (σ : St_) : St_ := (sR_ (sI_ (sR_ (zr_ (sR_ (zr_ (sR_ (zr_ (sR_ (zr_ σ 81) 80 0 (some 81)) 82) 80 1 (some 82)) 83) 80 2 (some 83)) 84) 80 3 (some 84)) 80 4 (-1)) 80 9 (some 4))
set_option maxRecDepth 100000 in
theorem ev_X5_80 (σ : St_) : hn_X5_init [.ref 80, .ref 4] (81, σ) = some (85, sx_X5_80 σ) := rfl
def sx_X4_85 (σ : St_) : St_ := (sR_ (sR_ (sR_ (zr_ (sR_ (sR_ (sI_ (sR_ (zr_ (sR_ (zr_ (sR_ (zr_ (sR_ (zr_ (zr_ σ 86) 87) 86 0 (some 87)) 88) 86 1 (some 88)) 89) 86 2 (some 89)) 90) 86 3 (some 90)) 86 4 (-1)) 86 9 (some 4)) 85 0 (some 86)) 91) 85 1 (some 91)) 85 2 (some 4)) 85 3 (some 60))
set_option maxRecDepth 100000 in
theorem ev_X4_85 (σ : St_) : hn_X4_init [.ref 85, .ref 4, .ref 60] (86, σ) = some (92, sx_X4_85 σ) := rfl
def sx_X3_92 (σ : St_) : St_ := (sR_ (zr_ (sR_ (sR_ (sI_ (sR_ (zr_ (sR_ (zr_ (sR_ (zr_ (sR_ (zr_ (zr_ σ 93) 94) 93 0 (some 94)) 95) 93 1 (some 95)) 96) 93 2 (some 96)) 97) 93 3 (some 97)) 93 4 (-1)) 93 9 (some 4)) 92 0 (some 93)) 98) 92 1 (some 98))
set_option maxRecDepth 100000 in
theorem ev_X3_92 (σ : St_) : hn_X3_init [.ref 92, .ref 4] (93, σ) = some (99, sx_X3_92 σ) := rfl
def sx_X10_99 (σ : St_) : St_ := (sR_ (sR_ (zr_ (sR_ (zr_ (sR_ (zr_ (sR_ (zr_ (sR_ (zr_ σ 100) 99 0 (some 100)) 101) 99 2 (some 101)) 102) 99 3 (some 102)) 103) 99 4 (some 103)) 104) 99 5 (some 104)) 99 6 (some 4))
set_option maxRecDepth 100000 in
theorem ev_X10_99 (σ : St_) : hn_X10_init [.ref 99, .ref 4] (100, σ) = some (105, sx_X10_99 σ) := rfl
def sx_X2_105 (σ : St_) : St_ := (sR_ (gz_ (sR_ (gz_ (sI_ (sI_ (sR_ (zr_ σ 106) 105 0 (some 106)) 105 1 0) 105 2 (-1)) 107 10) 105 3 (some 107)) 118 10) 105 4 (some 118))
set_option maxRecDepth 100000 in
theorem ev_X2_105 (σ : St_) : hn_X2_init [.ref 105] (106, σ) = some (129, sx_X2_105 σ) := rfl
def sx_X7_129 (σ : St_) : St_ := (sR_ (sR_ (zr_ (sR_ (zr_ (sI_ (sR_ (zr_ σ 130) 129 0 (some 130)) 129 1 0) 131) 129 2 (some 131)) 132) 129 3 (some 132)) 129 4 (some 4))
set_option maxRecDepth 100000 in
theorem ev_X7_129 (σ : St_) : hn_X7_init [.ref 129, .ref 4] (130, σ) = some (133, sx_X7_129 σ) := rfl
def sx_X1_133 (σ : St_) : St_ := (sR_ (sR_ (zr_ (sR_ (zr_ (sR_ (zr_ (sR_ (zr_ (sR_ (zr_ (sI_ σ 133 2 (-1)) 134) 133 3 (some 134)) 135) 133 4 (some 135)) 136) 133 5 (some 136)) 137) 133 6 (some 137)) 138) 133 7 (some 138)) 133 8 (some 4))
set_option maxRecDepth 100000 in
theorem ev_X1_133 (σ : St_) : hn_X1_init [.ref 133, .ref 4] (134, σ) = some (139, sx_X1_133 σ) := rfl
def sx_X0_143 (σ : St_) : St_ := (sI_ (sI_ (sI_ (sI_ (sI_ (sI_ (sI_ (sR_ (zr_ (sR_ (zr_ (sR_ (zr_ (sR_ (zr_ (sR_ (zr_ (sR_ (zr_ (sR_ (gz_ (sR_ (zr_ (sR_ (zr_ (sR_ (zr_ (sR_ (zr_ σ 144) 143 0 (some 144)) 145) 143 1 (some 145)) 146) 143 2 (some 146)) 147) 143 3 (some 147)) 148 16) 143 4 (some 148)) 165) 143 5 (some 165)) 166) 143 6 (some 166)) 167) 143 7 (some 167)) 168) 143 8 (some 168)) 169) 143 9 (some 169)) 170) 143 10 (some 170)) 143 11 0) 143 12 0) 143 13 0) 143 14 20) 143 15 8) 143 16 0) 143 17 0)
set_option maxRecDepth 100000 in
theorem ev_X0_143 (σ : St_) : hn_X0_init [.ref 143] (144, σ) = some (171, sx_X0_143 σ) := rfl
def sx_X6_171 (σ : St_) : St_ := (sI_ (sR_ (zr_ (sR_ (zr_ (sR_ (zr_ (sR_ (zr_ σ 172) 171 0 (some 172)) 173) 171 1 (some 173)) 174) 171 2 (some 174)) 175) 171 3 (some 175)) 171 4 0)
set_option maxRecDepth 100000 in
theorem ev_X6_171 (σ : St_) : hn_X6_init [.ref 171] (172, σ) = some (176, sx_X6_171 σ) := rfl
def sx_X9_176 (σ : St_) : St_ := (sI_ (sI_ (sR_ (zr_ (sR_ (zr_ (sR_ (zr_ (sR_ (zr_ σ 177) 176 0 (some 177)) 178) 176 1 (some 178)) 179) 176 2 (some 179)) 180) 176 3 (some 180)) 176 4 0) 176 5 0)
set_option maxRecDepth 100000 in
theorem ev_X9_176 (σ : St_) : hn_X9_init [.ref 176] (177, σ) = some (181, sx_X9_176 σ) := rfl
def sx_X0_181 (σ : St_) : St_ := (sI_ (sI_ (sI_ (sI_ (sI_ (sI_ (sI_ (sR_ (zr_ (sR_ (zr_ (sR_ (zr_ (sR_ (zr_ (sR_ (zr_ (sR_ (zr_ (sR_ (gz_ (sR_ (zr_ (sR_ (zr_ (sR_ (zr_ (sR_ (zr_ σ 182) 181 0 (some 182)) 183) 181 1 (some 183)) 184) 181 2 (some 184)) 185) 181 3 (some 185)) 186 16) 181 4 (some 186)) 203) 181 5 (some 203)) 204) 181 6 (some 204)) 205) 181 7 (some 205)) 206) 181 8 (some 206)) 207) 181 9 (some 207)) 208) 181 10 (some 208)) 181 11 0) 181 12 0) 181 13 0) 181 14 20) 181 15 8) 181 16 0) 181 17 0)
set_option maxRecDepth 100000 in
theorem ev_X0_181 (σ : St_) : hn_X0_init [.ref 181] (182, σ) = some (209, sx_X0_181 σ) := rfl
def sx_X6_209 (σ : St_) : St_ := (sI_ (sR_ (zr_ (sR_ (zr_ (sR_ (zr_ (sR_ (zr_ σ 210) 209 0 (some 210)) 211) 209 1 (some 211)) 212) 209 2 (some 212)) 213) 209 3 (some 213)) 209 4 0)
set_option maxRecDepth 100000 in
theorem ev_X6_209 (σ : St_) : hn_X6_init [.ref 209] (210, σ) = some (214, sx_X6_209 σ) := rfl
def sx_X9_214 (σ : St_) : St_ := (sI_ (sI_ (sR_ (zr_ (sR_ (zr_ (sR_ (zr_ (sR_ (zr_ σ 215) 214 0 (some 215)) 216) 214 1 (some 216)) 217) 214 2 (some 217)) 218) 214 3 (some 218)) 214 4 0) 214 5 0)
set_option maxRecDepth 100000 in
theorem ev_X9_214 (σ : St_) : hn_X9_init [.ref 214] (215, σ) = some (219, sx_X9_214 σ) := rfl
def sx_X12 (σ : St_) : St_ := (sR_ (zr_ (sI_ (sR_ (zr_ (sR_ (zr_ (sR_ (zr_ (sR_ (zr_ (sR_ (zr_ (sI_ (sR_ (zr_ (sR_ (zr_ (sR_ (zr_ (sR_ (zr_ (sR_ (zr_ (sR_ (zr_ (sR_ (zr_ (sR_ (zr_ (sR_ (zr_ (sR_ (zr_ (sR_ (zr_ (sR_ (zr_ (sR_ (zr_ (sR_ (zr_ (sR_ (zr_ (sR_ (zr_ (sR_ (zr_ (sR_ (zr_ (sR_ (zr_ (sR_ (zr_ σ 220) 219 1 (some 220)) 221) 219 14 (some 221)) 222) 219 15 (some 222)) 223) 219 16 (some 223)) 224) 219 17 (some 224)) 225) 219 18 (some 225)) 226) 219 19 (some 226)) 227) 219 20 (some 227)) 228) 219 23 (some 228)) 229) 219 25 (some 229)) 230) 219 26 (some 230)) 231) 219 27 (some 231)) 232) 219 28 (some 232)) 233) 219 32 (some 233)) 234) 219 34 (some 234)) 235) 219 35 (some 235)) 236) 219 36 (some 236)) 237) 219 41 (some 237)) 238) 219 42 (some 238)) 239) 219 46 (some 239)) 219 47 (-1)) 240) 219 48 (some 240)) 241) 219 49 (some 241)) 242) 219 50 (some 242)) 243) 219 51 (some 243)) 244) 219 55 (some 244)) 219 56 (-1)) 245) 219 58 (some 245))
set_option maxRecDepth 100000 in
theorem ev_X12 (σ : St_) : hn_X12_init [.ref 219] (220, σ) = some (246, sx_X12 σ) := rfl

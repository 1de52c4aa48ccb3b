set_option maxRecDepth 10000 in
theorem iX0 : ∀ w ∈ u_ws RX0 TX0 4, w ∈ Gt := u_in (fun j hj => match j, hj with
  | 0, _ => gr2 26 rfl rfl
  | 1, _ => gr2 28 rfl rfl
  | 2, _ => gr2 30 rfl rfl
  | 3, _ => gr2 32 rfl rfl
  | n + 4, hj => absurd hj (by omega))
set_option maxRecDepth 10000 in
theorem iX1 : ∀ w ∈ u_ws RX1 TX1 6, w ∈ Gt := u_in (fun j hj => match j, hj with
  | 0, _ => gr1 165 rfl rfl
  | 1, _ => gr1 167 rfl rfl
  | 2, _ => gr1 169 rfl rfl
  | 3, _ => gr1 171 rfl rfl
  | 4, _ => gr1 173 rfl rfl
  | 5, _ => gr1 175 rfl rfl
  | n + 6, hj => absurd hj (by omega))
set_option maxRecDepth 10000 in
theorem iX2 : ∀ w ∈ u_ws RX2 TX2 4, w ∈ Gt := u_in (fun j hj => match j, hj with
  | 0, _ => gr2 6 rfl rfl
  | 1, _ => gr2 8 rfl rfl
  | 2, _ => gr2 10 rfl rfl
  | 3, _ => gr2 12 rfl rfl
  | n + 4, hj => absurd hj (by omega))
set_option maxRecDepth 10000 in
theorem iX4 : ∀ w ∈ u_ws RX4 TX4 14, w ∈ Gt := u_in (fun j hj => match j, hj with
  | 0, _ => gr1 206 rfl rfl
  | 1, _ => gr1 208 rfl rfl
  | 2, _ => gr1 210 rfl rfl
  | 3, _ => gr1 212 rfl rfl
  | 4, _ => gr1 214 rfl rfl
  | 5, _ => gr1 216 rfl rfl
  | 6, _ => gr1 218 rfl rfl
  | 7, _ => gr1 220 rfl rfl
  | 8, _ => gr1 222 rfl rfl
  | 9, _ => gr1 224 rfl rfl
  | 10, _ => gr1 226 rfl rfl
  | 11, _ => gr1 228 rfl rfl
  | 12, _ => gr1 230 rfl rfl
  | 13, _ => gr1 232 rfl rfl
  | n + 14, hj => absurd hj (by omega))
set_option maxRecDepth 10000 in
theorem iX5 : ∀ w ∈ u_ws RX5 TX5 7, w ∈ Gt := u_in (fun j hj => match j, hj with
  | 0, _ => gr0 51 rfl rfl
  | 1, _ => gr0 53 rfl rfl
  | 2, _ => gr0 55 rfl rfl
  | 3, _ => gr0 57 rfl rfl
  | 4, _ => gr0 59 rfl rfl
  | 5, _ => gr0 61 rfl rfl
  | 6, _ => gr0 63 rfl rfl
  | n + 7, hj => absurd hj (by omega))
set_option maxRecDepth 10000 in
theorem iX6 : ∀ w ∈ u_ws RX6 TX6 4, w ∈ Gt := u_in (fun j hj => match j, hj with
  | 0, _ => gr0 76 rfl rfl
  | 1, _ => gr0 78 rfl rfl
  | 2, _ => gr0 80 rfl rfl
  | 3, _ => gr0 82 rfl rfl
  | n + 4, hj => absurd hj (by omega))
set_option maxRecDepth 10000 in
theorem iX7 : ∀ w ∈ u_ws RX7 TX7 3, w ∈ Gt := u_in (fun j hj => match j, hj with
  | 0, _ => gr2 48 rfl rfl
  | 1, _ => gr2 50 rfl rfl
  | 2, _ => gr2 52 rfl rfl
  | n + 3, hj => absurd hj (by omega))
set_option maxRecDepth 10000 in
theorem iX8 : ∀ w ∈ u_ws RX8 TX8 5, w ∈ Gt := u_in (fun j hj => match j, hj with
  | 0, _ => gr1 49 rfl rfl
  | 1, _ => gr1 51 rfl rfl
  | 2, _ => gr1 53 rfl rfl
  | 3, _ => gr1 55 rfl rfl
  | 4, _ => gr1 57 rfl rfl
  | n + 5, hj => absurd hj (by omega))
set_option maxRecDepth 10000 in
theorem iX9 : ∀ w ∈ u_ws RX9 TX9 15, w ∈ Gt := u_in (fun j hj => match j, hj with
  | 0, _ => gr1 113 rfl rfl
  | 1, _ => gr1 115 rfl rfl
  | 2, _ => gr1 117 rfl rfl
  | 3, _ => gr1 119 rfl rfl
  | 4, _ => gr1 121 rfl rfl
  | 5, _ => gr1 123 rfl rfl
  | 6, _ => gr1 125 rfl rfl
  | 7, _ => gr1 127 rfl rfl
  | 8, _ => gr1 129 rfl rfl
  | 9, _ => gr1 131 rfl rfl
  | 10, _ => gr1 133 rfl rfl
  | 11, _ => gr1 135 rfl rfl
  | 12, _ => gr1 137 rfl rfl
  | 13, _ => gr1 139 rfl rfl
  | 14, _ => gr1 141 rfl rfl
  | n + 15, hj => absurd hj (by omega))
set_option maxRecDepth 10000 in
theorem iX10 : ∀ w ∈ u_ws RX10 TX10 6, w ∈ Gt := u_in (fun j hj => match j, hj with
  | 0, _ => gr2 61 rfl rfl
  | 1, _ => gr2 63 rfl rfl
  | 2, _ => gr2 65 rfl rfl
  | 3, _ => gr2 67 rfl rfl
  | 4, _ => gr2 69 rfl rfl
  | 5, _ => gr2 71 rfl rfl
  | n + 6, hj => absurd hj (by omega))
set_option maxRecDepth 10000 in
theorem iX11 : ∀ w ∈ u_ws RX11 TX11 37, w ∈ Gt := u_in (fun j hj => match j, hj with
  | 0, _ => gr4 152 rfl rfl
  | 1, _ => gr4 154 rfl rfl
  | 2, _ => gr4 156 rfl rfl
  | 3, _ => gr4 158 rfl rfl
  | 4, _ => gr4 160 rfl rfl
  | 5, _ => gr4 162 rfl rfl
  | 6, _ => gr4 164 rfl rfl
  | 7, _ => gr4 166 rfl rfl
  | 8, _ => gr4 168 rfl rfl
  | 9, _ => gr4 170 rfl rfl
  | 10, _ => gr4 172 rfl rfl
  | 11, _ => gr4 174 rfl rfl
  | 12, _ => gr4 176 rfl rfl
  | 13, _ => gr4 178 rfl rfl
  | 14, _ => gr4 180 rfl rfl
  | 15, _ => gr4 182 rfl rfl
  | 16, _ => gr4 184 rfl rfl
  | 17, _ => gr4 186 rfl rfl
  | 18, _ => gr4 188 rfl rfl
  | 19, _ => gr4 190 rfl rfl
  | 20, _ => gr4 192 rfl rfl
  | 21, _ => gr4 194 rfl rfl
  | 22, _ => gr4 196 rfl rfl
  | 23, _ => gr4 198 rfl rfl
  | 24, _ => gr4 200 rfl rfl
  | 25, _ => gr4 202 rfl rfl
  | 26, _ => gr4 204 rfl rfl
  | 27, _ => gr4 206 rfl rfl
  | 28, _ => gr4 208 rfl rfl
  | 29, _ => gr4 210 rfl rfl
  | 30, _ => gr4 212 rfl rfl
  | 31, _ => gr4 214 rfl rfl
  | 32, _ => gr4 216 rfl rfl
  | 33, _ => gr4 218 rfl rfl
  | 34, _ => gr4 220 rfl rfl
  | 35, _ => gr4 222 rfl rfl
  | 36, _ => gr4 224 rfl rfl
  | n + 37, hj => absurd hj (by omega))
set_option maxRecDepth 10000 in
theorem lk_X10_10 : Cond.fieldLink RX10 10 "WingPort" "texts" "LWingPort$Texts;" ∈ Gt := gr2 57 rfl rfl
set_option maxRecDepth 10000 in
theorem lk_X10_25 : Cond.fieldLink RX10 25 "WingPort" "port" "LWingPort$Port;" ∈ Gt := gr2 55 rfl rfl
set_option maxRecDepth 10000 in
theorem lk_X10_29 : Cond.fieldLink RX10 29 "WingPort" "aside" "LWingPort$Port;" ∈ Gt := gr2 56 rfl rfl
set_option maxRecDepth 10000 in
theorem lk_X10_35 : Cond.fieldLink RX10 35 "WingPort" "kept" "LWingPort$Plan;" ∈ Gt := gr2 58 rfl rfl
set_option maxRecDepth 10000 in
theorem lk_X10_42 : Cond.fieldLink RX10 42 "WingPort" "estimates" "LWingPort$Estimates;" ∈ Gt := gr2 59 rfl rfl
set_option maxRecDepth 10000 in
theorem lk_X10_48 : Cond.fieldLink RX10 48 "WingPort" "sheets" "[LWingPort$Sheet;" ∈ Gt := gr2 60 rfl rfl
set_option maxRecDepth 10000 in
theorem lk_X10_63 : Cond.fieldLink RX10 63 "WingPort$Port" "busy" "[I" ∈ Gt := gr1 191 rfl rfl
set_option maxRecDepth 10000 in
theorem lk_X10_67 : Cond.fieldLink RX10 67 "WingPort$Port" "settings" "[I" ∈ Gt := gr1 189 rfl rfl
set_option maxRecDepth 10000 in
theorem lk_X10_74 : Cond.fieldLink RX10 74 "WingPort$Port" "tick" "I" ∈ Gt := gr1 179 rfl rfl
set_option maxRecDepth 10000 in
theorem lk_X10_85 : Cond.fieldLink RX10 85 "WingPort$Port" "visits" "[LWingPort$Visit;" ∈ Gt := gr1 201 rfl rfl
set_option maxRecDepth 10000 in
theorem lk_X10_89 : Cond.fieldLink RX10 89 "WingPort$Visit" "state" "I" ∈ Gt := gr1 95 rfl rfl
set_option maxRecDepth 10000 in
theorem lk_X10_94 : Cond.fieldLink RX10 94 "WingPort$Visit" "late" "I" ∈ Gt := gr1 90 rfl rfl
set_option maxRecDepth 10000 in
theorem lk_X10_107 : Cond.fieldLink RX10 107 "WingPort$Visit" "wish" "I" ∈ Gt := gr1 92 rfl rfl
set_option maxRecDepth 10000 in
theorem lk_X10_123 : Cond.fieldLink RX10 123 "WingPort$Visit" "causes" "[I" ∈ Gt := gr1 111 rfl rfl
set_option maxRecDepth 10000 in
theorem lk_X10_129 : Cond.fieldLink RX10 129 "WingPort$Port" "feeds" "[LWingPort$Feed;" ∈ Gt := gr1 203 rfl rfl
set_option maxRecDepth 10000 in
theorem lk_X10_136 : Cond.fieldLink RX10 136 "WingPort$Port" "standSizes" "[I" ∈ Gt := gr1 193 rfl rfl
set_option maxRecDepth 10000 in
theorem lk_X10_139 : Cond.fieldLink RX10 139 "WingPort$Port" "holders" "[I" ∈ Gt := gr1 195 rfl rfl
set_option maxRecDepth 10000 in
theorem lk_X10_142 : Cond.fieldLink RX10 142 "WingPort$Port" "ends" "[I" ∈ Gt := gr1 197 rfl rfl
set_option maxRecDepth 10000 in
theorem lk_X10_145 : Cond.fieldLink RX10 145 "WingPort$Port" "prevs" "[I" ∈ Gt := gr1 199 rfl rfl
set_option maxRecDepth 10000 in
theorem lk_X10_170 : Cond.fieldLink RX10 170 "WingPort$Port" "standCount" "I" ∈ Gt := gr1 181 rfl rfl
set_option maxRecDepth 10000 in
theorem lk_X10_187 : Cond.fieldLink RX10 187 "WingPort$Plan" "set" "I" ∈ Gt := gr2 2 rfl rfl
set_option maxRecDepth 10000 in
theorem lk_X10_193 : Cond.fieldLink RX10 193 "WingPort$Port" "visitCount" "I" ∈ Gt := gr1 183 rfl rfl
set_option maxRecDepth 10000 in
theorem lk_X10_205 : Cond.fieldLink RX10 205 "WingPort$Visit" "etd" "I" ∈ Gt := gr1 86 rfl rfl
set_option maxRecDepth 10000 in
theorem lk_X10_211 : Cond.fieldLink RX10 211 "WingPort$Visit" "kind" "I" ∈ Gt := gr1 82 rfl rfl
set_option maxRecDepth 10000 in
theorem lk_X10_226 : Cond.fieldLink RX10 226 "WingPort$Port" "feedCount" "I" ∈ Gt := gr1 185 rfl rfl
set_option maxRecDepth 10000 in
theorem lk_X10_229 : Cond.fieldLink RX10 229 "WingPort$Feed" "to" "I" ∈ Gt := gr1 154 rfl rfl
set_option maxRecDepth 10000 in
theorem lk_X10_236 : Cond.fieldLink RX10 236 "WingPort$Feed" "bags" "I" ∈ Gt := gr1 157 rfl rfl
set_option maxRecDepth 10000 in
theorem lk_X10_247 : Cond.fieldLink RX10 247 "WingPort$Texts" "size" "I" ∈ Gt := gr1 44 rfl rfl
set_option maxRecDepth 10000 in
theorem lk_X10_249 : Cond.fieldLink RX10 249 "WingPort$Texts" "forced" "I" ∈ Gt := gr1 46 rfl rfl
set_option maxRecDepth 10000 in
theorem lk_X10_252 : Cond.fieldLink RX10 252 "WingPort$Port" "rule" "LWingPort$Rule;" ∈ Gt := gr1 187 rfl rfl
set_option maxRecDepth 10000 in
theorem lk_X10_263 : Cond.fieldLink RX10 263 "WingPort$Port" "names" "[I" ∈ Gt := gr1 205 rfl rfl
set_option maxRecDepth 10000 in
theorem lk_X10_270 : Cond.fieldLink RX10 270 "WingPort$Texts" "tapeSize" "I" ∈ Gt := gr1 42 rfl rfl
set_option maxRecDepth 10000 in
theorem lk_X10_273 : Cond.fieldLink RX10 273 "WingPort$Estimates" "size" "I" ∈ Gt := gr2 22 rfl rfl
set_option maxRecDepth 10000 in
theorem lk_X10_292 : Cond.fieldLink RX10 292 "WingPort$Sheet" "sort" "I" ∈ Gt := gr2 43 rfl rfl
set_option maxRecDepth 10000 in
theorem lk_X10_298 : Cond.fieldLink RX10 298 "WingPort$Sheet" "cells" "[I" ∈ Gt := gr2 47 rfl rfl
set_option maxRecDepth 10000 in
theorem lk_X10_314 : Cond.fieldLink RX10 314 "WingPort$Visit" "eta" "I" ∈ Gt := gr1 84 rfl rfl
set_option maxRecDepth 10000 in
theorem lk_X10_320 : Cond.fieldLink RX10 320 "WingPort$Feed" "from" "I" ∈ Gt := gr1 151 rfl rfl
set_option maxRecDepth 10000 in
theorem lk_X10_326 : Cond.fieldLink RX10 326 "WingPort$Feed" "cart" "I" ∈ Gt := gr1 160 rfl rfl
set_option maxRecDepth 10000 in
theorem lk_X10_331 : Cond.fieldLink RX10 331 "WingPort$Sheet" "size" "I" ∈ Gt := gr2 45 rfl rfl
set_option maxRecDepth 10000 in
theorem lk_X0_11 : Cond.fieldLink RX0 11 "WingPort$Estimates" "visitOf" "[I" ∈ Gt := gr2 23 rfl rfl
set_option maxRecDepth 10000 in
theorem lk_X0_15 : Cond.fieldLink RX0 15 "WingPort$Estimates" "etas" "[I" ∈ Gt := gr2 24 rfl rfl
set_option maxRecDepth 10000 in
theorem lk_X0_18 : Cond.fieldLink RX0 18 "WingPort$Estimates" "toldAt" "[I" ∈ Gt := gr2 25 rfl rfl
set_option maxRecDepth 10000 in
theorem lk_X0_21 : Cond.fieldLink RX0 21 "WingPort$Estimates" "size" "I" ∈ Gt := gr2 21 rfl rfl
set_option maxRecDepth 10000 in
theorem lk_X1_9 : Cond.fieldLink RX1 9 "WingPort$Feed" "from" "I" ∈ Gt := gr1 149 rfl rfl
set_option maxRecDepth 10000 in
theorem lk_X1_15 : Cond.fieldLink RX1 15 "WingPort$Feed" "to" "I" ∈ Gt := gr1 152 rfl rfl
set_option maxRecDepth 10000 in
theorem lk_X1_18 : Cond.fieldLink RX1 18 "WingPort$Feed" "bags" "I" ∈ Gt := gr1 155 rfl rfl
set_option maxRecDepth 10000 in
theorem lk_X1_21 : Cond.fieldLink RX1 21 "WingPort$Feed" "cart" "I" ∈ Gt := gr1 158 rfl rfl
set_option maxRecDepth 10000 in
theorem lk_X1_24 : Cond.fieldLink RX1 24 "WingPort$Feed" "comes" "I" ∈ Gt := gr1 163 rfl rfl
set_option maxRecDepth 10000 in
theorem lk_X1_27 : Cond.fieldLink RX1 27 "WingPort$Feed" "state" "I" ∈ Gt := gr1 161 rfl rfl
set_option maxRecDepth 10000 in
theorem lk_X2_7 : Cond.fieldLink RX2 7 "WingPort$Plan" "set" "I" ∈ Gt := gr2 1 rfl rfl
set_option maxRecDepth 10000 in
theorem lk_X2_13 : Cond.fieldLink RX2 13 "WingPort$Plan" "first" "I" ∈ Gt := gr2 3 rfl rfl
set_option maxRecDepth 10000 in
theorem lk_X2_16 : Cond.fieldLink RX2 16 "WingPort$Plan" "wishOfFirst" "I" ∈ Gt := gr2 4 rfl rfl
set_option maxRecDepth 10000 in
theorem lk_X2_19 : Cond.fieldLink RX2 19 "WingPort$Plan" "wishOfSecond" "I" ∈ Gt := gr2 5 rfl rfl
set_option maxRecDepth 10000 in
theorem lk_X3_9 : Cond.fieldLink RX3 9 "WingPort$Planes" "SIZES" "[I" ∈ Gt := gr2 135 rfl rfl
set_option maxRecDepth 10000 in
theorem lk_X3_13 : Cond.fieldLink RX3 13 "WingPort$Planes" "ROLLS" "[I" ∈ Gt := gr2 177 rfl rfl
set_option maxRecDepth 10000 in
theorem lk_X3_16 : Cond.fieldLink RX3 16 "WingPort$Planes" "LASTS" "[I" ∈ Gt := gr2 233 rfl rfl
set_option maxRecDepth 10000 in
theorem lk_X3_19 : Cond.fieldLink RX3 19 "WingPort$Planes" "BEHIND" "[I" ∈ Gt := gr2 224 rfl rfl
set_option maxRecDepth 10000 in
theorem lk_X3_22 : Cond.fieldLink RX3 22 "WingPort$Planes" "TRUCK" "[I" ∈ Gt := gr2 198 rfl rfl
set_option maxRecDepth 10000 in
theorem lk_X3_25 : Cond.fieldLink RX3 25 "WingPort$Planes" "ABOVE" "[I" ∈ Gt := gr4 91 rfl rfl
set_option maxRecDepth 10000 in
theorem lk_X4_11 : Cond.fieldLink RX4 11 "WingPort$Port" "settings" "[I" ∈ Gt := gr1 188 rfl rfl
set_option maxRecDepth 10000 in
theorem lk_X4_17 : Cond.fieldLink RX4 17 "WingPort$Port" "busy" "[I" ∈ Gt := gr1 190 rfl rfl
set_option maxRecDepth 10000 in
theorem lk_X4_20 : Cond.fieldLink RX4 20 "WingPort$Port" "standSizes" "[I" ∈ Gt := gr1 192 rfl rfl
set_option maxRecDepth 10000 in
theorem lk_X4_23 : Cond.fieldLink RX4 23 "WingPort$Port" "holders" "[I" ∈ Gt := gr1 194 rfl rfl
set_option maxRecDepth 10000 in
theorem lk_X4_26 : Cond.fieldLink RX4 26 "WingPort$Port" "ends" "[I" ∈ Gt := gr1 196 rfl rfl
set_option maxRecDepth 10000 in
theorem lk_X4_29 : Cond.fieldLink RX4 29 "WingPort$Port" "prevs" "[I" ∈ Gt := gr1 198 rfl rfl
set_option maxRecDepth 10000 in
theorem lk_X4_34 : Cond.fieldLink RX4 34 "WingPort$Port" "visits" "[LWingPort$Visit;" ∈ Gt := gr1 200 rfl rfl
set_option maxRecDepth 10000 in
theorem lk_X4_40 : Cond.fieldLink RX4 40 "WingPort$Port" "feeds" "[LWingPort$Feed;" ∈ Gt := gr1 202 rfl rfl
set_option maxRecDepth 10000 in
theorem lk_X4_46 : Cond.fieldLink RX4 46 "WingPort$Port" "names" "[I" ∈ Gt := gr1 204 rfl rfl
set_option maxRecDepth 10000 in
theorem lk_X4_49 : Cond.fieldLink RX4 49 "WingPort$Port" "rule" "LWingPort$Rule;" ∈ Gt := gr1 186 rfl rfl
set_option maxRecDepth 10000 in
theorem lk_X4_55 : Cond.fieldLink RX4 55 "WingPort$Port" "tick" "I" ∈ Gt := gr1 178 rfl rfl
set_option maxRecDepth 10000 in
theorem lk_X4_59 : Cond.fieldLink RX4 59 "WingPort$Port" "standCount" "I" ∈ Gt := gr1 180 rfl rfl
set_option maxRecDepth 10000 in
theorem lk_X4_62 : Cond.fieldLink RX4 62 "WingPort$Port" "visitCount" "I" ∈ Gt := gr1 182 rfl rfl
set_option maxRecDepth 10000 in
theorem lk_X4_65 : Cond.fieldLink RX4 65 "WingPort$Port" "feedCount" "I" ∈ Gt := gr1 184 rfl rfl
set_option maxRecDepth 10000 in
theorem lk_X4_81 : Cond.fieldLink RX4 81 "WingPort$Port" "LEAST_SET" "[I" ∈ Gt := gr2 89 rfl rfl
set_option maxRecDepth 10000 in
theorem lk_X4_84 : Cond.fieldLink RX4 84 "WingPort$Port" "MOST_SET" "[I" ∈ Gt := gr2 91 rfl rfl
set_option maxRecDepth 10000 in
theorem lk_X4_94 : Cond.fieldLink RX4 94 "WingPort$Visit" "kind" "I" ∈ Gt := gr1 81 rfl rfl
set_option maxRecDepth 10000 in
theorem lk_X4_114 : Cond.fieldLink RX4 114 "WingPort$Feed" "state" "I" ∈ Gt := gr1 162 rfl rfl
set_option maxRecDepth 10000 in
theorem lk_X4_117 : Cond.fieldLink RX4 117 "WingPort$Feed" "bags" "I" ∈ Gt := gr1 156 rfl rfl
set_option maxRecDepth 10000 in
theorem lk_X4_120 : Cond.fieldLink RX4 120 "WingPort$Visit" "state" "I" ∈ Gt := gr1 96 rfl rfl
set_option maxRecDepth 10000 in
theorem lk_X4_147 : Cond.fieldLink RX4 147 "WingPort$Visit" "since" "I" ∈ Gt := gr1 98 rfl rfl
set_option maxRecDepth 10000 in
theorem lk_X4_159 : Cond.fieldLink RX4 159 "WingPort$Visit" "under" "I" ∈ Gt := gr1 103 rfl rfl
set_option maxRecDepth 10000 in
theorem lk_X4_166 : Cond.fieldLink RX4 166 "WingPort$Visit" "left" "[I" ∈ Gt := gr1 109 rfl rfl
set_option maxRecDepth 10000 in
theorem lk_X4_181 : Cond.fieldLink RX4 181 "WingPort$Visit" "iced" "I" ∈ Gt := gr1 107 rfl rfl
set_option maxRecDepth 10000 in
theorem lk_X4_184 : Cond.fieldLink RX4 184 "WingPort$Visit" "stand" "I" ∈ Gt := gr1 100 rfl rfl
set_option maxRecDepth 10000 in
theorem lk_X4_190 : Cond.fieldLink RX4 190 "WingPort$Feed" "from" "I" ∈ Gt := gr1 150 rfl rfl
set_option maxRecDepth 10000 in
theorem lk_X4_193 : Cond.fieldLink RX4 193 "WingPort$Feed" "cart" "I" ∈ Gt := gr1 159 rfl rfl
set_option maxRecDepth 10000 in
theorem lk_X4_196 : Cond.fieldLink RX4 196 "WingPort$Feed" "comes" "I" ∈ Gt := gr1 164 rfl rfl
set_option maxRecDepth 10000 in
theorem lk_X4_198 : Cond.fieldLink RX4 198 "WingPort$Feed" "to" "I" ∈ Gt := gr1 153 rfl rfl
set_option maxRecDepth 10000 in
theorem lk_X4_204 : Cond.fieldLink RX4 204 "WingPort$Visit" "hinder" "I" ∈ Gt := gr1 105 rfl rfl
set_option maxRecDepth 10000 in
theorem lk_X4_228 : Cond.fieldLink RX4 228 "WingPort$Visit" "etd" "I" ∈ Gt := gr1 87 rfl rfl
set_option maxRecDepth 10000 in
theorem lk_X4_267 : Cond.fieldLink RX4 267 "WingPort$Visit" "wish" "I" ∈ Gt := gr1 93 rfl rfl
set_option maxRecDepth 10000 in
theorem lk_X4_276 : Cond.fieldLink RX4 276 "WingPort$Visit" "causes" "[I" ∈ Gt := gr1 112 rfl rfl
set_option maxRecDepth 10000 in
theorem lk_X5_9 : Cond.fieldLink RX5 9 "WingPort$Reader" "tape" "[I" ∈ Gt := gr0 43 rfl rfl
set_option maxRecDepth 10000 in
theorem lk_X5_15 : Cond.fieldLink RX5 15 "WingPort$Reader" "size" "I" ∈ Gt := gr0 45 rfl rfl
set_option maxRecDepth 10000 in
theorem lk_X5_19 : Cond.fieldLink RX5 19 "WingPort$Reader" "at" "I" ∈ Gt := gr0 46 rfl rfl
set_option maxRecDepth 10000 in
theorem lk_X5_22 : Cond.fieldLink RX5 22 "WingPort$Reader" "rule" "LWingPort$Rule;" ∈ Gt := gr0 50 rfl rfl
set_option maxRecDepth 10000 in
theorem lk_X5_38 : Cond.fieldLink RX5 38 "WingPort$Reader" "start" "I" ∈ Gt := gr0 48 rfl rfl
set_option maxRecDepth 10000 in
theorem lk_X5_44 : Cond.fieldLink RX5 44 "WingPort$Reader" "token" "I" ∈ Gt := gr0 47 rfl rfl
set_option maxRecDepth 10000 in
theorem lk_X5_72 : Cond.fieldLink RX5 72 "WingPort$Reader" "value" "I" ∈ Gt := gr0 49 rfl rfl
set_option maxRecDepth 10000 in
theorem lk_X6_11 : Cond.fieldLink RX6 11 "WingPort$Rule" "codes" "[I" ∈ Gt := gr0 72 rfl rfl
set_option maxRecDepth 10000 in
theorem lk_X6_15 : Cond.fieldLink RX6 15 "WingPort$Rule" "partEnds" "[I" ∈ Gt := gr0 73 rfl rfl
set_option maxRecDepth 10000 in
theorem lk_X6_18 : Cond.fieldLink RX6 18 "WingPort$Rule" "stack" "[I" ∈ Gt := gr0 74 rfl rfl
set_option maxRecDepth 10000 in
theorem lk_X6_21 : Cond.fieldLink RX6 21 "WingPort$Rule" "size" "I" ∈ Gt := gr0 75 rfl rfl
set_option maxRecDepth 10000 in
theorem lk_X7_9 : Cond.fieldLink RX7 9 "WingPort$Sheet" "sort" "I" ∈ Gt := gr2 42 rfl rfl
set_option maxRecDepth 10000 in
theorem lk_X7_13 : Cond.fieldLink RX7 13 "WingPort$Sheet" "cells" "[I" ∈ Gt := gr2 46 rfl rfl
set_option maxRecDepth 10000 in
theorem lk_X7_17 : Cond.fieldLink RX7 17 "WingPort$Sheet" "size" "I" ∈ Gt := gr2 44 rfl rfl
set_option maxRecDepth 10000 in
theorem lk_X8_13 : Cond.fieldLink RX8 13 "WingPort$Texts" "rules" "[LWingPort$Rule;" ∈ Gt := gr1 47 rfl rfl
set_option maxRecDepth 10000 in
theorem lk_X8_20 : Cond.fieldLink RX8 20 "WingPort$Texts" "reader" "LWingPort$Reader;" ∈ Gt := gr1 48 rfl rfl
set_option maxRecDepth 10000 in
theorem lk_X8_33 : Cond.fieldLink RX8 33 "WingPort$Reader" "tape" "[I" ∈ Gt := gr0 44 rfl rfl
set_option maxRecDepth 10000 in
theorem lk_X8_41 : Cond.fieldLink RX8 41 "WingPort$Texts" "tapeSize" "I" ∈ Gt := gr1 41 rfl rfl
set_option maxRecDepth 10000 in
theorem lk_X8_48 : Cond.fieldLink RX8 48 "WingPort$Texts" "forced" "I" ∈ Gt := gr1 45 rfl rfl
set_option maxRecDepth 10000 in
theorem lk_X8_51 : Cond.fieldLink RX8 51 "WingPort$Texts" "size" "I" ∈ Gt := gr1 43 rfl rfl
set_option maxRecDepth 10000 in
theorem lk_X9_11 : Cond.fieldLink RX9 11 "WingPort$Visit" "left" "[I" ∈ Gt := gr1 108 rfl rfl
set_option maxRecDepth 10000 in
theorem lk_X9_17 : Cond.fieldLink RX9 17 "WingPort$Visit" "causes" "[I" ∈ Gt := gr1 110 rfl rfl
set_option maxRecDepth 10000 in
theorem lk_X9_20 : Cond.fieldLink RX9 20 "WingPort$Visit" "kind" "I" ∈ Gt := gr1 80 rfl rfl
set_option maxRecDepth 10000 in
theorem lk_X9_24 : Cond.fieldLink RX9 24 "WingPort$Visit" "eta" "I" ∈ Gt := gr1 83 rfl rfl
set_option maxRecDepth 10000 in
theorem lk_X9_27 : Cond.fieldLink RX9 27 "WingPort$Visit" "etd" "I" ∈ Gt := gr1 85 rfl rfl
set_option maxRecDepth 10000 in
theorem lk_X9_30 : Cond.fieldLink RX9 30 "WingPort$Visit" "crew" "I" ∈ Gt := gr1 88 rfl rfl
set_option maxRecDepth 10000 in
theorem lk_X9_33 : Cond.fieldLink RX9 33 "WingPort$Visit" "wish" "I" ∈ Gt := gr1 91 rfl rfl
set_option maxRecDepth 10000 in
theorem lk_X9_36 : Cond.fieldLink RX9 36 "WingPort$Visit" "stand" "I" ∈ Gt := gr1 99 rfl rfl
set_option maxRecDepth 10000 in
theorem lk_X9_39 : Cond.fieldLink RX9 39 "WingPort$Visit" "iced" "I" ∈ Gt := gr1 106 rfl rfl
set_option maxRecDepth 10000 in
theorem lk_X9_46 : Cond.fieldLink RX9 46 "WingPort$Visit" "late" "I" ∈ Gt := gr1 89 rfl rfl
set_option maxRecDepth 10000 in
theorem lk_X9_49 : Cond.fieldLink RX9 49 "WingPort$Visit" "state" "I" ∈ Gt := gr1 94 rfl rfl
set_option maxRecDepth 10000 in
theorem lk_X9_52 : Cond.fieldLink RX9 52 "WingPort$Visit" "since" "I" ∈ Gt := gr1 97 rfl rfl
set_option maxRecDepth 10000 in
theorem lk_X9_55 : Cond.fieldLink RX9 55 "WingPort$Visit" "done" "I" ∈ Gt := gr1 101 rfl rfl
set_option maxRecDepth 10000 in
theorem lk_X9_58 : Cond.fieldLink RX9 58 "WingPort$Visit" "under" "I" ∈ Gt := gr1 102 rfl rfl
set_option maxRecDepth 10000 in
theorem lk_X9_61 : Cond.fieldLink RX9 61 "WingPort$Visit" "hinder" "I" ∈ Gt := gr1 104 rfl rfl
set_option maxRecDepth 10000 in
theorem lk_X11_7 : Cond.fieldLink RX11 7 "WingPortModel" "p" "[I" ∈ Gt := gr4 115 rfl rfl
set_option maxRecDepth 10000 in
theorem lk_X11_13 : Cond.fieldLink RX11 13 "WingPortModel" "estimateOf" "[I" ∈ Gt := gr4 120 rfl rfl
set_option maxRecDepth 10000 in
theorem lk_X11_16 : Cond.fieldLink RX11 16 "WingPortModel" "estimateEta" "[I" ∈ Gt := gr4 121 rfl rfl
set_option maxRecDepth 10000 in
theorem lk_X11_19 : Cond.fieldLink RX11 19 "WingPortModel" "estimateTold" "[I" ∈ Gt := gr4 122 rfl rfl
set_option maxRecDepth 10000 in
theorem lk_X11_22 : Cond.fieldLink RX11 22 "WingPortModel" "plan" "[I" ∈ Gt := gr4 124 rfl rfl
set_option maxRecDepth 10000 in
theorem lk_X11_25 : Cond.fieldLink RX11 25 "WingPortModel" "tape" "[I" ∈ Gt := gr4 125 rfl rfl
set_option maxRecDepth 10000 in
theorem lk_X11_28 : Cond.fieldLink RX11 28 "WingPortModel" "codes" "[I" ∈ Gt := gr4 129 rfl rfl
set_option maxRecDepth 10000 in
theorem lk_X11_31 : Cond.fieldLink RX11 31 "WingPortModel" "starts" "[I" ∈ Gt := gr4 130 rfl rfl
set_option maxRecDepth 10000 in
theorem lk_X11_38 : Cond.fieldLink RX11 38 "WingPortModel" "first" "[I" ∈ Gt := gr4 131 rfl rfl
set_option maxRecDepth 10000 in
theorem lk_X11_41 : Cond.fieldLink RX11 41 "WingPortModel" "sheetSort" "[I" ∈ Gt := gr4 132 rfl rfl
set_option maxRecDepth 10000 in
theorem lk_X11_44 : Cond.fieldLink RX11 44 "WingPortModel" "sheetSize" "[I" ∈ Gt := gr4 133 rfl rfl
set_option maxRecDepth 10000 in
theorem lk_X11_47 : Cond.fieldLink RX11 47 "WingPortModel" "cells" "[I" ∈ Gt := gr4 134 rfl rfl
set_option maxRecDepth 10000 in
theorem lk_X11_50 : Cond.fieldLink RX11 50 "WingPortModel" "kindTicks" "[I" ∈ Gt := gr4 135 rfl rfl
set_option maxRecDepth 10000 in
theorem lk_X11_53 : Cond.fieldLink RX11 53 "WingPortModel" "kindSize" "[I" ∈ Gt := gr4 136 rfl rfl
set_option maxRecDepth 10000 in
theorem lk_X11_56 : Cond.fieldLink RX11 56 "WingPortModel" "kindRoll" "[I" ∈ Gt := gr4 137 rfl rfl
set_option maxRecDepth 10000 in
theorem lk_X11_59 : Cond.fieldLink RX11 59 "WingPortModel" "truckOf" "[I" ∈ Gt := gr4 138 rfl rfl
set_option maxRecDepth 10000 in
theorem lk_X11_62 : Cond.fieldLink RX11 62 "WingPortModel" "ahead" "[I" ∈ Gt := gr4 139 rfl rfl
set_option maxRecDepth 10000 in
theorem lk_X11_77 : Cond.fieldLink RX11 77 "WingPortModel" "words" "[I" ∈ Gt := gr4 144 rfl rfl
set_option maxRecDepth 10000 in
theorem lk_X11_80 : Cond.fieldLink RX11 80 "WingPortModel" "held" "[I" ∈ Gt := gr4 145 rfl rfl
set_option maxRecDepth 10000 in
theorem lk_X11_83 : Cond.fieldLink RX11 83 "WingPortModel" "stack" "[I" ∈ Gt := gr4 149 rfl rfl
set_option maxRecDepth 10000 in
theorem lk_X11_86 : Cond.fieldLink RX11 86 "WingPortModel" "hinders" "[I" ∈ Gt := gr4 150 rfl rfl
set_option maxRecDepth 10000 in
theorem lk_X11_89 : Cond.fieldLink RX11 89 "WingPortModel" "kept" "[I" ∈ Gt := gr4 151 rfl rfl
set_option maxRecDepth 10000 in
theorem lk_X11_92 : Cond.fieldLink RX11 92 "WingPortModel" "texts" "I" ∈ Gt := gr4 127 rfl rfl
set_option maxRecDepth 10000 in
theorem lk_X11_96 : Cond.fieldLink RX11 96 "WingPortModel" "visits" "I" ∈ Gt := gr4 116 rfl rfl
set_option maxRecDepth 10000 in
theorem lk_X11_103 : Cond.fieldLink RX11 103 "WingPortModel" "stands" "I" ∈ Gt := gr4 118 rfl rfl
set_option maxRecDepth 10000 in
theorem lk_X11_124 : Cond.fieldLink RX11 124 "WingPortModel" "feeds" "I" ∈ Gt := gr4 117 rfl rfl
set_option maxRecDepth 10000 in
theorem lk_X11_127 : Cond.fieldLink RX11 127 "WingPortModel" "taped" "I" ∈ Gt := gr4 126 rfl rfl
set_option maxRecDepth 10000 in
theorem lk_X11_132 : Cond.fieldLink RX11 132 "WingPortModel" "at" "I" ∈ Gt := gr4 140 rfl rfl
set_option maxRecDepth 10000 in
theorem lk_X11_135 : Cond.fieldLink RX11 135 "WingPortModel" "begun" "I" ∈ Gt := gr4 141 rfl rfl
set_option maxRecDepth 10000 in
theorem lk_X11_138 : Cond.fieldLink RX11 138 "WingPortModel" "token" "I" ∈ Gt := gr4 142 rfl rfl
set_option maxRecDepth 10000 in
theorem lk_X11_141 : Cond.fieldLink RX11 141 "WingPortModel" "value" "I" ∈ Gt := gr4 143 rfl rfl
set_option maxRecDepth 10000 in
theorem lk_X11_148 : Cond.fieldLink RX11 148 "WingPortModel" "out" "I" ∈ Gt := gr4 148 rfl rfl
set_option maxRecDepth 10000 in
theorem lk_X11_151 : Cond.fieldLink RX11 151 "WingPortModel" "heldMany" "I" ∈ Gt := gr4 146 rfl rfl
set_option maxRecDepth 10000 in
theorem lk_X11_157 : Cond.fieldLink RX11 157 "WingPortModel" "opens" "I" ∈ Gt := gr4 147 rfl rfl
set_option maxRecDepth 10000 in
theorem lk_X11_186 : Cond.fieldLink RX11 186 "WingPortModel" "rule" "I" ∈ Gt := gr4 128 rfl rfl
set_option maxRecDepth 10000 in
theorem lk_X11_282 : Cond.fieldLink RX11 282 "WingPortModel" "planned" "I" ∈ Gt := gr4 123 rfl rfl
set_option maxRecDepth 10000 in
theorem lk_X11_285 : Cond.fieldLink RX11 285 "WingPortModel" "estimates" "I" ∈ Gt := gr4 119 rfl rfl
set_option maxRecDepth 10000 in
theorem lk_X100_9 : Cond.fieldLink RX100 9 "java/lang/String" "value" "[B" ∈ Gt := gr6 71 rfl rfl
set_option maxRecDepth 10000 in
theorem lk_X100_15 : Cond.fieldLink RX100 15 "java/lang/String" "coder" "B" ∈ Gt := gr6 72 rfl rfl
set_option maxRecDepth 10000 in
theorem lk_X100_38 : Cond.fieldLink RX100 38 "java/lang/String" "COMPACT_STRINGS" "Z" ∈ Gt := gr0 94 rfl rfl
set_option maxRecDepth 10000 in
theorem lk_X100_1053 : Cond.fieldLink RX100 1053 "jdk/internal/util/Preconditions" "SIOOBE_FORMATTER" "Ljava/util/function/BiFunction;" ∈ Gt := gr0 110 rfl rfl
set_option maxRecDepth 10000 in
theorem lk_X10_1 : Cond.methodLink RX10 1 Lib.objectInit ∈ Gt := gr0 26 rfl rfl
set_option maxRecDepth 10000 in
theorem lk_X10_9 : Cond.methodLink RX10 9 yX8_init ∈ Gt := gr0 31 rfl rfl
set_option maxRecDepth 10000 in
theorem lk_X10_18 : Cond.methodLink RX10 18 yX8_rule ∈ Gt := gr1 63 rfl rfl
set_option maxRecDepth 10000 in
theorem lk_X10_22 : Cond.methodLink RX10 22 yX4_init ∈ Gt := gr1 67 rfl rfl
set_option maxRecDepth 10000 in
theorem lk_X10_34 : Cond.methodLink RX10 34 yX2_init ∈ Gt := gr1 237 rfl rfl
set_option maxRecDepth 10000 in
theorem lk_X10_41 : Cond.methodLink RX10 41 yX0_init ∈ Gt := gr2 17 rfl rfl
set_option maxRecDepth 10000 in
theorem lk_X10_52 : Cond.methodLink RX10 52 yX7_init ∈ Gt := gr2 38 rfl rfl
set_option maxRecDepth 10000 in
theorem lk_X10_53 : Cond.methodLink RX10 53 yX4_addStand ∈ Gt := gr2 78 rfl rfl
set_option maxRecDepth 10000 in
theorem lk_X10_57 : Cond.methodLink RX10 57 yX4_maySet ∈ Gt := gr2 86 rfl rfl
set_option maxRecDepth 10000 in
theorem lk_X10_70 : Cond.methodLink RX10 70 yX3_isKind ∈ Gt := gr2 97 rfl rfl
set_option maxRecDepth 10000 in
theorem lk_X10_78 : Cond.methodLink RX10 78 yX4_addVisit ∈ Gt := gr2 100 rfl rfl
set_option maxRecDepth 10000 in
theorem lk_X10_82 : Cond.methodLink RX10 82 yX4_hasVisit ∈ Gt := gr2 116 rfl rfl
set_option maxRecDepth 10000 in
theorem lk_X10_97 : Cond.methodLink RX10 97 yX4_hasStand ∈ Gt := gr2 124 rfl rfl
set_option maxRecDepth 10000 in
theorem lk_X10_100 : Cond.methodLink RX10 100 yX4_fits ∈ Gt := gr2 128 rfl rfl
set_option maxRecDepth 10000 in
theorem lk_X10_103 : Cond.methodLink RX10 103 yX9_isAhead ∈ Gt := gr2 137 rfl rfl
set_option maxRecDepth 10000 in
theorem lk_X10_110 : Cond.methodLink RX10 110 yX4_addFeed ∈ Gt := gr2 145 rfl rfl
set_option maxRecDepth 10000 in
theorem lk_X10_113 : Cond.methodLink RX10 113 yX10_refusedAhead ∈ Gt := gr2 157 rfl rfl
set_option maxRecDepth 10000 in
theorem lk_X10_117 : Cond.methodLink RX10 117 yX4_step ∈ Gt := gr2 161 rfl rfl
set_option maxRecDepth 10000 in
theorem lk_X10_120 : Cond.methodLink RX10 120 yX9_told ∈ Gt := gr3 77 rfl rfl
set_option maxRecDepth 10000 in
theorem lk_X10_126 : Cond.methodLink RX10 126 yX4_hasFeed ∈ Gt := gr3 95 rfl rfl
set_option maxRecDepth 10000 in
theorem lk_X10_133 : Cond.methodLink RX10 133 yX1_told ∈ Gt := gr3 99 rfl rfl
set_option maxRecDepth 10000 in
theorem lk_X10_148 : Cond.methodLink RX10 148 yX3_lasts ∈ Gt := gr3 115 rfl rfl
set_option maxRecDepth 10000 in
theorem lk_X10_151 : Cond.methodLink RX10 151 yX3_size ∈ Gt := gr3 120 rfl rfl
set_option maxRecDepth 10000 in
theorem lk_X10_154 : Cond.methodLink RX10 154 yX3_roll ∈ Gt := gr3 121 rfl rfl
set_option maxRecDepth 10000 in
theorem lk_X10_157 : Cond.methodLink RX10 157 yX4_become ∈ Gt := gr3 130 rfl rfl
set_option maxRecDepth 10000 in
theorem lk_X10_161 : Cond.methodLink RX10 161 yX4_outcome ∈ Gt := gr3 146 rfl rfl
set_option maxRecDepth 10000 in
theorem lk_X10_164 : Cond.methodLink RX10 164 yX10_refusedPlan ∈ Gt := gr3 167 rfl rfl
set_option maxRecDepth 10000 in
theorem lk_X10_167 : Cond.methodLink RX10 167 yX10_lowest ∈ Gt := gr3 181 rfl rfl
set_option maxRecDepth 10000 in
theorem lk_X10_173 : Cond.methodLink RX10 173 yX10_lateWith ∈ Gt := gr3 185 rfl rfl
set_option maxRecDepth 10000 in
theorem lk_X10_177 : Cond.methodLink RX10 177 yX2_keep ∈ Gt := gr3 190 rfl rfl
set_option maxRecDepth 10000 in
theorem lk_X10_181 : Cond.methodLink RX10 181 yX2_holds ∈ Gt := gr3 198 rfl rfl
set_option maxRecDepth 10000 in
theorem lk_X10_184 : Cond.methodLink RX10 184 yX2_wishOf ∈ Gt := gr3 202 rfl rfl
set_option maxRecDepth 10000 in
theorem lk_X10_190 : Cond.methodLink RX10 190 yX10_areAhead ∈ Gt := gr3 177 rfl rfl
set_option maxRecDepth 10000 in
theorem lk_X10_196 : Cond.methodLink RX10 196 yX103_bitCount ∈ Gt := gr3 171 rfl rfl
set_option maxRecDepth 10000 in
theorem lk_X10_201 : Cond.methodLink RX10 201 yX0_add ∈ Gt := gr3 214 rfl rfl
set_option maxRecDepth 10000 in
theorem lk_X10_208 : Cond.methodLink RX10 208 yX10_thereBy ∈ Gt := gr3 222 rfl rfl
set_option maxRecDepth 10000 in
theorem lk_X10_214 : Cond.methodLink RX10 214 yX3_wayThrough ∈ Gt := gr3 230 rfl rfl
set_option maxRecDepth 10000 in
theorem lk_X10_218 : Cond.methodLink RX10 218 Lib.Math.max.name ∈ Gt := gr4 1 rfl rfl
set_option maxRecDepth 10000 in
theorem lk_X10_223 : Cond.methodLink RX10 223 yX3_wayToLoad ∈ Gt := gr4 6 rfl rfl
set_option maxRecDepth 10000 in
theorem lk_X10_232 : Cond.methodLink RX10 232 yX10_cartThereBy ∈ Gt := gr4 7 rfl rfl
set_option maxRecDepth 10000 in
theorem lk_X10_239 : Cond.methodLink RX10 239 yX8_append ∈ Gt := gr4 16 rfl rfl
set_option maxRecDepth 10000 in
theorem lk_X10_243 : Cond.methodLink RX10 243 yX8_take ∈ Gt := gr4 24 rfl rfl
set_option maxRecDepth 10000 in
theorem lk_X10_259 : Cond.methodLink RX10 259 yX4_learn ∈ Gt := gr4 34 rfl rfl
set_option maxRecDepth 10000 in
theorem lk_X10_266 : Cond.methodLink RX10 266 yX6_says ∈ Gt := gr4 35 rfl rfl
set_option maxRecDepth 10000 in
theorem lk_X10_274 : Cond.methodLink RX10 274 yX4_lateInAll ∈ Gt := gr3 189 rfl rfl
set_option maxRecDepth 10000 in
theorem lk_X10_277 : Cond.methodLink RX10 277 yX4_missedBags ∈ Gt := gr4 40 rfl rfl
set_option maxRecDepth 10000 in
theorem lk_X10_280 : Cond.methodLink RX10 280 yX7_renew ∈ Gt := gr4 45 rfl rfl
set_option maxRecDepth 10000 in
theorem lk_X10_283 : Cond.methodLink RX10 283 yX7_isMissing ∈ Gt := gr4 53 rfl rfl
set_option maxRecDepth 10000 in
theorem lk_X10_286 : Cond.methodLink RX10 286 yX7_has ∈ Gt := gr4 57 rfl rfl
set_option maxRecDepth 10000 in
theorem lk_X10_289 : Cond.methodLink RX10 289 yX7_put ∈ Gt := gr4 61 rfl rfl
set_option maxRecDepth 10000 in
theorem lk_X10_295 : Cond.methodLink RX10 295 yX7_spans ∈ Gt := gr4 69 rfl rfl
set_option maxRecDepth 10000 in
theorem lk_X10_301 : Cond.methodLink RX10 301 arraycopyName ∈ Gt := gr4 73 rfl rfl
set_option maxRecDepth 10000 in
theorem lk_X10_307 : Cond.methodLink RX10 307 yX10_visitsOf ∈ Gt := gr4 78 rfl rfl
set_option maxRecDepth 10000 in
theorem lk_X10_311 : Cond.methodLink RX10 311 yX3_isA ∈ Gt := gr4 88 rfl rfl
set_option maxRecDepth 10000 in
theorem lk_X10_317 : Cond.methodLink RX10 317 yX0_thought ∈ Gt := gr3 226 rfl rfl
set_option maxRecDepth 10000 in
theorem lk_X10_323 : Cond.methodLink RX10 323 yX3_wayToUnload ∈ Gt := gr4 11 rfl rfl
set_option maxRecDepth 10000 in
theorem lk_X10_332 : Cond.methodLink RX10 332 yX10_visit ∈ Gt := gr4 83 rfl rfl
set_option maxRecDepth 10000 in
theorem lk_X0_3 : Cond.methodLink RX0 3 Lib.objectInit ∈ Gt := gr2 20 rfl rfl
set_option maxRecDepth 10000 in
theorem lk_X1_3 : Cond.methodLink RX1 3 Lib.objectInit ∈ Gt := gr1 148 rfl rfl
set_option maxRecDepth 10000 in
theorem lk_X2_1 : Cond.methodLink RX2 1 Lib.objectInit ∈ Gt := gr2 0 rfl rfl
set_option maxRecDepth 10000 in
theorem lk_X3_28 : Cond.methodLink RX3 28 yX3_lasts ∈ Gt := gr3 236 rfl rfl
set_option maxRecDepth 10000 in
theorem lk_X3_32 : Cond.methodLink RX3 32 yX3_wayToUnload ∈ Gt := gr3 237 rfl rfl
set_option maxRecDepth 10000 in
theorem lk_X3_36 : Cond.methodLink RX3 36 Lib.Math.max.name ∈ Gt := gr4 0 rfl rfl
set_option maxRecDepth 10000 in
theorem lk_X3_41 : Cond.methodLink RX3 41 yX3_wayToLoad ∈ Gt := gr3 233 rfl rfl
set_option maxRecDepth 10000 in
theorem lk_X4_3 : Cond.methodLink RX4 3 Lib.objectInit ∈ Gt := gr1 70 rfl rfl
set_option maxRecDepth 10000 in
theorem lk_X4_53 : Cond.methodLink RX4 53 yX9_init ∈ Gt := gr1 76 rfl rfl
set_option maxRecDepth 10000 in
theorem lk_X4_54 : Cond.methodLink RX4 54 yX1_init ∈ Gt := gr1 145 rfl rfl
set_option maxRecDepth 10000 in
theorem lk_X4_68 : Cond.methodLink RX4 68 arraycopyName ∈ Gt := gr3 134 rfl rfl
set_option maxRecDepth 10000 in
theorem lk_X4_74 : Cond.methodLink RX4 74 yX9_become ∈ Gt := gr3 137 rfl rfl
set_option maxRecDepth 10000 in
theorem lk_X4_78 : Cond.methodLink RX4 78 yX1_become ∈ Gt := gr3 142 rfl rfl
set_option maxRecDepth 10000 in
theorem lk_X4_87 : Cond.methodLink RX4 87 yX9_begin ∈ Gt := gr2 104 rfl rfl
set_option maxRecDepth 10000 in
theorem lk_X4_91 : Cond.methodLink RX4 91 yX1_begin ∈ Gt := gr2 149 rfl rfl
set_option maxRecDepth 10000 in
theorem lk_X4_97 : Cond.methodLink RX4 97 yX3_size ∈ Gt := gr2 132 rfl rfl
set_option maxRecDepth 10000 in
theorem lk_X4_101 : Cond.methodLink RX4 101 yX4_lateInAll ∈ Gt := gr3 150 rfl rfl
set_option maxRecDepth 10000 in
theorem lk_X4_105 : Cond.methodLink RX4 105 yX4_howMany ∈ Gt := gr3 155 rfl rfl
set_option maxRecDepth 10000 in
theorem lk_X4_108 : Cond.methodLink RX4 108 yX4_missedBags ∈ Gt := gr3 159 rfl rfl
set_option maxRecDepth 10000 in
theorem lk_X4_111 : Cond.methodLink RX4 111 yX9_lateTicks ∈ Gt := gr3 154 rfl rfl
set_option maxRecDepth 10000 in
theorem lk_X4_121 : Cond.methodLink RX4 121 yX4_move ∈ Gt := gr2 165 rfl rfl
set_option maxRecDepth 10000 in
theorem lk_X4_124 : Cond.methodLink RX4 124 yX4_work ∈ Gt := gr2 179 rfl rfl
set_option maxRecDepth 10000 in
theorem lk_X4_128 : Cond.methodLink RX4 128 yX4_carry ∈ Gt := gr2 205 rfl rfl
set_option maxRecDepth 10000 in
theorem lk_X4_131 : Cond.methodLink RX4 131 yX4_serve ∈ Gt := gr2 213 rfl rfl
set_option maxRecDepth 10000 in
theorem lk_X4_134 : Cond.methodLink RX4 134 yX4_iceAgain ∈ Gt := gr3 32 rfl rfl
set_option maxRecDepth 10000 in
theorem lk_X4_137 : Cond.methodLink RX4 137 yX4_bestFor ∈ Gt := gr3 40 rfl rfl
set_option maxRecDepth 10000 in
theorem lk_X4_140 : Cond.methodLink RX4 140 yX4_giveRunway ∈ Gt := gr3 56 rfl rfl
set_option maxRecDepth 10000 in
theorem lk_X4_144 : Cond.methodLink RX4 144 yX4_blame ∈ Gt := gr3 61 rfl rfl
set_option maxRecDepth 10000 in
theorem lk_X4_150 : Cond.methodLink RX4 150 yX9_comes ∈ Gt := gr2 169 rfl rfl
set_option maxRecDepth 10000 in
theorem lk_X4_153 : Cond.methodLink RX4 153 yX9_enter ∈ Gt := gr2 173 rfl rfl
set_option maxRecDepth 10000 in
theorem lk_X4_156 : Cond.methodLink RX4 156 yX3_roll ∈ Gt := gr2 174 rfl rfl
set_option maxRecDepth 10000 in
theorem lk_X4_162 : Cond.methodLink RX4 162 yX9_isUnder ∈ Gt := gr2 183 rfl rfl
set_option maxRecDepth 10000 in
theorem lk_X4_169 : Cond.methodLink RX4 169 yX4_finish ∈ Gt := gr2 187 rfl rfl
set_option maxRecDepth 10000 in
theorem lk_X4_172 : Cond.methodLink RX4 172 yX9_endAct ∈ Gt := gr2 191 rfl rfl
set_option maxRecDepth 10000 in
theorem lk_X4_175 : Cond.methodLink RX4 175 yX3_truckFor ∈ Gt := gr2 195 rfl rfl
set_option maxRecDepth 10000 in
theorem lk_X4_178 : Cond.methodLink RX4 178 yX4_sendCarts ∈ Gt := gr2 200 rfl rfl
set_option maxRecDepth 10000 in
theorem lk_X4_187 : Cond.methodLink RX4 187 yX4_hasStand ∈ Gt := gr2 204 rfl rfl
set_option maxRecDepth 10000 in
theorem lk_X4_201 : Cond.methodLink RX4 201 yX9_isDone ∈ Gt := gr2 209 rfl rfl
set_option maxRecDepth 10000 in
theorem lk_X4_207 : Cond.methodLink RX4 207 yX9_mayBegin ∈ Gt := gr2 217 rfl rfl
set_option maxRecDepth 10000 in
theorem lk_X4_210 : Cond.methodLink RX4 210 yX4_isNothing ∈ Gt := gr2 226 rfl rfl
set_option maxRecDepth 10000 in
theorem lk_X4_214 : Cond.methodLink RX4 214 yX4_hindrance ∈ Gt := gr2 235 rfl rfl
set_option maxRecDepth 10000 in
theorem lk_X4_218 : Cond.methodLink RX4 218 yX4_startNow ∈ Gt := gr3 23 rfl rfl
set_option maxRecDepth 10000 in
theorem lk_X4_222 : Cond.methodLink RX4 222 yX3_lasts ∈ Gt := gr2 230 rfl rfl
set_option maxRecDepth 10000 in
theorem lk_X4_225 : Cond.methodLink RX4 225 yX4_waitsForBags ∈ Gt := gr2 239 rfl rfl
set_option maxRecDepth 10000 in
theorem lk_X4_231 : Cond.methodLink RX4 231 yX9_limit ∈ Gt := gr3 12 rfl rfl
set_option maxRecDepth 10000 in
theorem lk_X4_234 : Cond.methodLink RX4 234 yX9_startAct ∈ Gt := gr3 27 rfl rfl
set_option maxRecDepth 10000 in
theorem lk_X4_237 : Cond.methodLink RX4 237 yX4_openFeeds ∈ Gt := gr3 3 rfl rfl
set_option maxRecDepth 10000 in
theorem lk_X4_240 : Cond.methodLink RX4 240 yX4_learn ∈ Gt := gr3 7 rfl rfl
set_option maxRecDepth 10000 in
theorem lk_X4_243 : Cond.methodLink RX4 243 yX6_says ∈ Gt := gr3 16 rfl rfl
set_option maxRecDepth 10000 in
theorem lk_X4_247 : Cond.methodLink RX4 247 Lib.Math.max.name ∈ Gt := gr3 11 rfl rfl
set_option maxRecDepth 10000 in
theorem lk_X4_252 : Cond.methodLink RX4 252 yX9_needsIce ∈ Gt := gr3 36 rfl rfl
set_option maxRecDepth 10000 in
theorem lk_X4_256 : Cond.methodLink RX4 256 yX4_isReady ∈ Gt := gr3 44 rfl rfl
set_option maxRecDepth 10000 in
theorem lk_X4_259 : Cond.methodLink RX4 259 yX4_standFor ∈ Gt := gr3 48 rfl rfl
set_option maxRecDepth 10000 in
theorem lk_X4_263 : Cond.methodLink RX4 263 yX4_isReadyToLeave ∈ Gt := gr3 52 rfl rfl
set_option maxRecDepth 10000 in
theorem lk_X4_270 : Cond.methodLink RX4 270 yX4_hasVisit ∈ Gt := gr3 60 rfl rfl
set_option maxRecDepth 10000 in
theorem lk_X4_273 : Cond.methodLink RX4 273 yX4_causeNow ∈ Gt := gr3 65 rfl rfl
set_option maxRecDepth 10000 in
theorem lk_X4_279 : Cond.methodLink RX4 279 yX4_causeOfRunways ∈ Gt := gr3 69 rfl rfl
set_option maxRecDepth 10000 in
theorem lk_X5_1 : Cond.methodLink RX5 1 Lib.objectInit ∈ Gt := gr0 42 rfl rfl
set_option maxRecDepth 10000 in
theorem lk_X5_26 : Cond.methodLink RX5 26 yX6_clear ∈ Gt := gr0 142 rfl rfl
set_option maxRecDepth 10000 in
theorem lk_X5_31 : Cond.methodLink RX5 31 yX5_next ∈ Gt := gr0 146 rfl rfl
set_option maxRecDepth 10000 in
theorem lk_X5_34 : Cond.methodLink RX5 34 yX5_isWord ∈ Gt := gr0 233 rfl rfl
set_option maxRecDepth 10000 in
theorem lk_X5_41 : Cond.methodLink RX5 41 yX5_either ∈ Gt := gr0 237 rfl rfl
set_option maxRecDepth 10000 in
theorem lk_X5_47 : Cond.methodLink RX5 47 yX6_endPart ∈ Gt := gr1 37 rfl rfl
set_option maxRecDepth 10000 in
theorem lk_X5_51 : Cond.methodLink RX5 51 yX5_both ∈ Gt := gr1 1 rfl rfl
set_option maxRecDepth 10000 in
theorem lk_X5_54 : Cond.methodLink RX5 54 yX6_put ∈ Gt := gr1 25 rfl rfl
set_option maxRecDepth 10000 in
theorem lk_X5_57 : Cond.methodLink RX5 57 yX5_negated ∈ Gt := gr1 5 rfl rfl
set_option maxRecDepth 10000 in
theorem lk_X5_60 : Cond.methodLink RX5 60 yX5_compared ∈ Gt := gr1 9 rfl rfl
set_option maxRecDepth 10000 in
theorem lk_X5_63 : Cond.methodLink RX5 63 yX5_sum ∈ Gt := gr1 13 rfl rfl
set_option maxRecDepth 10000 in
theorem lk_X5_66 : Cond.methodLink RX5 66 yX5_term ∈ Gt := gr1 17 rfl rfl
set_option maxRecDepth 10000 in
theorem lk_X5_69 : Cond.methodLink RX5 69 yX5_one ∈ Gt := gr1 21 rfl rfl
set_option maxRecDepth 10000 in
theorem lk_X5_75 : Cond.methodLink RX5 75 yX5_enclosed ∈ Gt := gr1 29 rfl rfl
set_option maxRecDepth 10000 in
theorem lk_X5_78 : Cond.methodLink RX5 78 yX5_negative ∈ Gt := gr1 33 rfl rfl
set_option maxRecDepth 10000 in
theorem lk_X5_81 : Cond.methodLink RX5 81 yX5_isBlank ∈ Gt := gr0 150 rfl rfl
set_option maxRecDepth 10000 in
theorem lk_X5_84 : Cond.methodLink RX5 84 yX5_isLetter ∈ Gt := gr0 153 rfl rfl
set_option maxRecDepth 10000 in
theorem lk_X5_87 : Cond.methodLink RX5 87 yX5_readWord ∈ Gt := gr0 156 rfl rfl
set_option maxRecDepth 10000 in
theorem lk_X5_90 : Cond.methodLink RX5 90 yX5_isDigit ∈ Gt := gr0 166 rfl rfl
set_option maxRecDepth 10000 in
theorem lk_X5_93 : Cond.methodLink RX5 93 yX5_readNumber ∈ Gt := gr0 169 rfl rfl
set_option maxRecDepth 10000 in
theorem lk_X5_98 : Cond.methodLink RX5 98 yX100_indexOf ∈ Gt := gr0 174 rfl rfl
set_option maxRecDepth 10000 in
theorem lk_X5_104 : Cond.methodLink RX5 104 yX5_wordOf ∈ Gt := gr0 160 rfl rfl
set_option maxRecDepth 10000 in
theorem lk_X5_110 : Cond.methodLink RX5 110 yX100_charAt ∈ Gt := gr0 165 rfl rfl
set_option maxRecDepth 10000 in
theorem lk_X6_3 : Cond.methodLink RX6 3 Lib.objectInit ∈ Gt := gr0 71 rfl rfl
set_option maxRecDepth 10000 in
theorem lk_X6_25 : Cond.methodLink RX6 25 yX6_joined ∈ Gt := gr3 20 rfl rfl
set_option maxRecDepth 10000 in
theorem lk_X7_1 : Cond.methodLink RX7 1 Lib.objectInit ∈ Gt := gr2 41 rfl rfl
set_option maxRecDepth 10000 in
theorem lk_X8_3 : Cond.methodLink RX8 3 Lib.objectInit ∈ Gt := gr0 34 rfl rfl
set_option maxRecDepth 10000 in
theorem lk_X8_19 : Cond.methodLink RX8 19 yX5_init ∈ Gt := gr0 39 rfl rfl
set_option maxRecDepth 10000 in
theorem lk_X8_24 : Cond.methodLink RX8 24 yX6_init ∈ Gt := gr0 68 rfl rfl
set_option maxRecDepth 10000 in
theorem lk_X8_27 : Cond.methodLink RX8 27 yX100_length ∈ Gt := gr0 86 rfl rfl
set_option maxRecDepth 10000 in
theorem lk_X8_37 : Cond.methodLink RX8 37 yX100_charAt ∈ Gt := gr0 96 rfl rfl
set_option maxRecDepth 10000 in
theorem lk_X8_45 : Cond.methodLink RX8 45 yX8_take ∈ Gt := gr0 134 rfl rfl
set_option maxRecDepth 10000 in
theorem lk_X8_54 : Cond.methodLink RX8 54 yX5_read ∈ Gt := gr0 138 rfl rfl
set_option maxRecDepth 10000 in
theorem lk_X9_3 : Cond.methodLink RX9 3 Lib.objectInit ∈ Gt := gr1 79 rfl rfl
set_option maxRecDepth 10000 in
theorem lk_X9_42 : Cond.methodLink RX9 42 yX9_enter ∈ Gt := gr2 108 rfl rfl
set_option maxRecDepth 10000 in
theorem lk_X9_64 : Cond.methodLink RX9 64 arraycopyName ∈ Gt := gr3 141 rfl rfl
set_option maxRecDepth 10000 in
theorem lk_X9_70 : Cond.methodLink RX9 70 yX3_behind ∈ Gt := gr2 221 rfl rfl
set_option maxRecDepth 10000 in
theorem lk_X9_74 : Cond.methodLink RX9 74 yX3_lasts ∈ Gt := gr3 31 rfl rfl
set_option maxRecDepth 10000 in
theorem lk_X9_78 : Cond.methodLink RX9 78 yX9_comes ∈ Gt := gr3 81 rfl rfl
set_option maxRecDepth 10000 in
theorem lk_X9_82 : Cond.methodLink RX9 82 yX9_lateTicks ∈ Gt := gr3 82 rfl rfl
set_option maxRecDepth 10000 in
theorem lk_X9_85 : Cond.methodLink RX9 85 yX9_limit ∈ Gt := gr3 86 rfl rfl
set_option maxRecDepth 10000 in
theorem lk_X11_1 : Cond.methodLink RX11 1 Lib.objectInit ∈ Gt := gr4 98 rfl rfl
set_option maxRecDepth 10000 in
theorem lk_X11_99 : Cond.methodLink RX11 99 yX11_in ∈ Gt := gr4 231 rfl rfl
set_option maxRecDepth 10000 in
theorem lk_X11_106 : Cond.methodLink RX11 106 yX11_of ∈ Gt := gr5 10 rfl rfl
set_option maxRecDepth 10000 in
theorem lk_X11_110 : Cond.methodLink RX11 110 yX11_come ∈ Gt := gr5 102 rfl rfl
set_option maxRecDepth 10000 in
theorem lk_X11_114 : Cond.methodLink RX11 114 yX11_isVisit ∈ Gt := gr5 6 rfl rfl
set_option maxRecDepth 10000 in
theorem lk_X11_118 : Cond.methodLink RX11 118 yX11_isStand ∈ Gt := gr5 18 rfl rfl
set_option maxRecDepth 10000 in
theorem lk_X11_121 : Cond.methodLink RX11 121 yX11_isAhead ∈ Gt := gr5 22 rfl rfl
set_option maxRecDepth 10000 in
theorem lk_X11_144 : Cond.methodLink RX11 144 yX11_letters ∈ Gt := gr5 43 rfl rfl
set_option maxRecDepth 10000 in
theorem lk_X11_154 : Cond.methodLink RX11 154 yX11_rank ∈ Gt := gr5 59 rfl rfl
set_option maxRecDepth 10000 in
theorem lk_X11_160 : Cond.methodLink RX11 160 yX11_puts ∈ Gt := gr5 51 rfl rfl
set_option maxRecDepth 10000 in
theorem lk_X11_164 : Cond.methodLink RX11 164 yX11_holds ∈ Gt := gr5 66 rfl rfl
set_option maxRecDepth 10000 in
theorem lk_X11_167 : Cond.methodLink RX11 167 yX11_unwinds ∈ Gt := gr5 55 rfl rfl
set_option maxRecDepth 10000 in
theorem lk_X11_170 : Cond.methodLink RX11 170 yX11_next ∈ Gt := gr5 39 rfl rfl
set_option maxRecDepth 10000 in
theorem lk_X11_173 : Cond.methodLink RX11 173 yX11_opensOne ∈ Gt := gr5 62 rfl rfl
set_option maxRecDepth 10000 in
theorem lk_X11_176 : Cond.methodLink RX11 176 yX11_signOf ∈ Gt := gr5 70 rfl rfl
set_option maxRecDepth 10000 in
theorem lk_X11_179 : Cond.methodLink RX11 179 yX11_between ∈ Gt := gr5 74 rfl rfl
set_option maxRecDepth 10000 in
theorem lk_X11_182 : Cond.methodLink RX11 182 yX11_eRead ∈ Gt := gr5 47 rfl rfl
set_option maxRecDepth 10000 in
theorem lk_X11_189 : Cond.methodLink RX11 189 yX11_bagsTo ∈ Gt := gr5 94 rfl rfl
set_option maxRecDepth 10000 in
theorem lk_X11_192 : Cond.methodLink RX11 192 yX11_limit ∈ Gt := gr5 98 rfl rfl
set_option maxRecDepth 10000 in
theorem lk_X11_195 : Cond.methodLink RX11 195 yX11_named ∈ Gt := gr5 90 rfl rfl
set_option maxRecDepth 10000 in
theorem lk_X11_199 : Cond.methodLink RX11 199 yX11_two ∈ Gt := gr5 106 rfl rfl
set_option maxRecDepth 10000 in
theorem lk_X11_202 : Cond.methodLink RX11 202 yX11_worth ∈ Gt := gr5 86 rfl rfl
set_option maxRecDepth 10000 in
theorem lk_X11_207 : Cond.methodLink RX11 207 yX11_becomes ∈ Gt := gr5 122 rfl rfl
set_option maxRecDepth 10000 in
theorem lk_X11_211 : Cond.methodLink RX11 211 yX11_isDoneNow ∈ Gt := gr5 130 rfl rfl
set_option maxRecDepth 10000 in
theorem lk_X11_214 : Cond.methodLink RX11 214 yX11_isDone ∈ Gt := gr5 138 rfl rfl
set_option maxRecDepth 10000 in
theorem lk_X11_218 : Cond.methodLink RX11 218 yX11_atLeast0 ∈ Gt := gr5 154 rfl rfl
set_option maxRecDepth 10000 in
theorem lk_X11_221 : Cond.methodLink RX11 221 yX11_ticksOf ∈ Gt := gr5 146 rfl rfl
set_option maxRecDepth 10000 in
theorem lk_X11_224 : Cond.methodLink RX11 224 yX11_isFree ∈ Gt := gr5 158 rfl rfl
set_option maxRecDepth 10000 in
theorem lk_X11_227 : Cond.methodLink RX11 227 yX11_hindrance ∈ Gt := gr5 150 rfl rfl
set_option maxRecDepth 10000 in
theorem lk_X11_230 : Cond.methodLink RX11 230 yX11_begins ∈ Gt := gr5 162 rfl rfl
set_option maxRecDepth 10000 in
theorem lk_X11_233 : Cond.methodLink RX11 233 yX11_standFor ∈ Gt := gr5 178 rfl rfl
set_option maxRecDepth 10000 in
theorem lk_X11_236 : Cond.methodLink RX11 236 yX11_needsIce ∈ Gt := gr5 166 rfl rfl
set_option maxRecDepth 10000 in
theorem lk_X11_239 : Cond.methodLink RX11 239 yX11_isReady ∈ Gt := gr5 174 rfl rfl
set_option maxRecDepth 10000 in
theorem lk_X11_242 : Cond.methodLink RX11 242 yX11_goesOn ∈ Gt := gr5 118 rfl rfl
set_option maxRecDepth 10000 in
theorem lk_X11_245 : Cond.methodLink RX11 245 yX11_works ∈ Gt := gr5 126 rfl rfl
set_option maxRecDepth 10000 in
theorem lk_X11_248 : Cond.methodLink RX11 248 yX11_feedGoes ∈ Gt := gr5 134 rfl rfl
set_option maxRecDepth 10000 in
theorem lk_X11_251 : Cond.methodLink RX11 251 yX11_serves ∈ Gt := gr5 142 rfl rfl
set_option maxRecDepth 10000 in
theorem lk_X11_254 : Cond.methodLink RX11 254 yX11_uses ∈ Gt := gr5 170 rfl rfl
set_option maxRecDepth 10000 in
theorem lk_X11_257 : Cond.methodLink RX11 257 yX11_causeOf ∈ Gt := gr5 182 rfl rfl
set_option maxRecDepth 10000 in
theorem lk_X11_260 : Cond.methodLink RX11 260 yX11_ticks ∈ Gt := gr5 114 rfl rfl
set_option maxRecDepth 10000 in
theorem lk_X11_263 : Cond.methodLink RX11 263 yX11_lateOf ∈ Gt := gr5 190 rfl rfl
set_option maxRecDepth 10000 in
theorem lk_X11_266 : Cond.methodLink RX11 266 yX11_lateOfAll ∈ Gt := gr5 234 rfl rfl
set_option maxRecDepth 10000 in
theorem lk_X11_269 : Cond.methodLink RX11 269 yX11_missed ∈ Gt := gr5 238 rfl rfl
set_option maxRecDepth 10000 in
theorem lk_X11_272 : Cond.methodLink RX11 272 yX11_lays ∈ Gt := gr5 226 rfl rfl
set_option maxRecDepth 10000 in
theorem lk_X11_276 : Cond.methodLink RX11 276 yX11_outcome ∈ Gt := gr5 230 rfl rfl
set_option maxRecDepth 10000 in
theorem lk_X11_279 : Cond.methodLink RX11 279 yX11_maySit ∈ Gt := gr6 6 rfl rfl
set_option maxRecDepth 10000 in
theorem lk_X11_288 : Cond.methodLink RX11 288 yX11_toUnload ∈ Gt := gr6 34 rfl rfl
set_option maxRecDepth 10000 in
theorem lk_X11_291 : Cond.methodLink RX11 291 yX11_there ∈ Gt := gr6 26 rfl rfl
set_option maxRecDepth 10000 in
theorem lk_X11_294 : Cond.methodLink RX11 294 yX11_toLoad ∈ Gt := gr6 30 rfl rfl
set_option maxRecDepth 10000 in
theorem lk_X11_297 : Cond.methodLink RX11 297 yX11_visit ∈ Gt := gr6 62 rfl rfl
set_option maxRecDepth 10000 in
theorem lk_X11_301 : Cond.methodLink RX11 301 yX11_isUnder ∈ Gt := gr6 67 rfl rfl
set_option maxRecDepth 10000 in
theorem lk_X100_335 : Cond.methodLink RX100 335 yX100_coder ∈ Gt := gr0 90 rfl rfl
set_option maxRecDepth 10000 in
theorem lk_X100_492 : Cond.methodLink RX100 492 yX100_isLatin1 ∈ Gt := gr0 100 rfl rfl
set_option maxRecDepth 10000 in
theorem lk_X100_495 : Cond.methodLink RX100 495 yX101_charAt ∈ Gt := gr0 104 rfl rfl
set_option maxRecDepth 10000 in
theorem lk_X100_498 : Cond.methodLink RX100 498 ⟨"java/lang/StringUTF16", "charAt", "([BI)C"⟩ ∈ Gt := gr0 115 rfl rfl
set_option maxRecDepth 10000 in
theorem lk_X100_505 : Cond.methodLink RX100 505 yX100_length ∈ Gt := gr0 182 rfl rfl
set_option maxRecDepth 10000 in
theorem lk_X100_633 : Cond.methodLink RX100 633 yX100_indexOf2 ∈ Gt := gr0 178 rfl rfl
set_option maxRecDepth 10000 in
theorem lk_X100_637 : Cond.methodLink RX100 637 yX101_indexOf ∈ Gt := gr0 183 rfl rfl
set_option maxRecDepth 10000 in
theorem lk_X100_640 : Cond.methodLink RX100 640 ⟨"java/lang/StringUTF16", "indexOf", "([BIII)I"⟩ ∈ Gt := gr0 198 rfl rfl
set_option maxRecDepth 10000 in
theorem lk_X100_1059 : Cond.methodLink RX100 1059 yX102_checkIndex ∈ Gt := gr0 112 rfl rfl
set_option maxRecDepth 10000 in
theorem lk_X100_1062 : Cond.methodLink RX100 1062 ⟨"jdk/internal/util/Preconditions", "checkFromToIndex", "(IIILjava/util/function/BiFunction;)I"⟩ ∈ Gt := gr0 213 rfl rfl
set_option maxRecDepth 10000 in
theorem lk_X101_9 : Cond.methodLink RX101 9 yX100_checkIndex ∈ Gt := gr0 107 rfl rfl
set_option maxRecDepth 10000 in
theorem lk_X101_38 : Cond.methodLink RX101 38 Lib.Math.min.name ∈ Gt := gr0 192 rfl rfl
set_option maxRecDepth 10000 in
theorem lk_X101_88 : Cond.methodLink RX101 88 yX101_canEncode ∈ Gt := gr0 186 rfl rfl
set_option maxRecDepth 10000 in
theorem lk_X101_92 : Cond.methodLink RX101 92 Lib.Math.max.name ∈ Gt := gr0 189 rfl rfl
set_option maxRecDepth 10000 in
theorem lk_X101_95 : Cond.methodLink RX101 95 yX101_indexOfChar ∈ Gt := gr0 195 rfl rfl
set_option maxRecDepth 10000 in
theorem lc_X11_34 : Cond.constant RX11 34 (100100 : Int32) ∈ Gt := gr4 99 rfl rfl
set_option maxRecDepth 10000 in
theorem lc_X11_35 : Cond.constant RX11 35 (100002 : Int32) ∈ Gt := gr4 100 rfl rfl
set_option maxRecDepth 10000 in
theorem lc_X11_36 : Cond.constant RX11 36 (100004 : Int32) ∈ Gt := gr4 101 rfl rfl
set_option maxRecDepth 10000 in
theorem lc_X11_37 : Cond.constant RX11 37 (100000 : Int32) ∈ Gt := gr4 102 rfl rfl
set_option maxRecDepth 10000 in
theorem lc_X11_65 : Cond.constant RX11 65 (1886546287 : Int32) ∈ Gt := gr4 103 rfl rfl
set_option maxRecDepth 10000 in
theorem lc_X11_66 : Cond.constant RX11 66 (7562608 : Int32) ∈ Gt := gr4 104 rfl rfl
set_option maxRecDepth 10000 in
theorem lc_X11_67 : Cond.constant RX11 67 (1752132708 : Int32) ∈ Gt := gr4 105 rfl rfl
set_option maxRecDepth 10000 in
theorem lc_X11_68 : Cond.constant RX11 68 (1818326117 : Int32) ∈ Gt := gr4 106 rfl rfl
set_option maxRecDepth 10000 in
theorem lc_X11_69 : Cond.constant RX11 69 (1802071652 : Int32) ∈ Gt := gr4 107 rfl rfl
set_option maxRecDepth 10000 in
theorem lc_X11_70 : Cond.constant RX11 70 (2002872692 : Int32) ∈ Gt := gr4 108 rfl rfl
set_option maxRecDepth 10000 in
theorem lc_X11_71 : Cond.constant RX11 71 (1886545270 : Int32) ∈ Gt := gr4 109 rfl rfl
set_option maxRecDepth 10000 in
theorem lc_X11_72 : Cond.constant RX11 72 (6713191 : Int32) ∈ Gt := gr4 110 rfl rfl
set_option maxRecDepth 10000 in
theorem lc_X11_73 : Cond.constant RX11 73 (1650550643 : Int32) ∈ Gt := gr4 111 rfl rfl
set_option maxRecDepth 10000 in
theorem lc_X11_74 : Cond.constant RX11 74 (1668441463 : Int32) ∈ Gt := gr4 112 rfl rfl
set_option maxRecDepth 10000 in
theorem lc_X11_75 : Cond.constant RX11 75 (6385252 : Int32) ∈ Gt := gr4 113 rfl rfl
set_option maxRecDepth 10000 in
theorem lc_X11_76 : Cond.constant RX11 76 (7237492 : Int32) ∈ Gt := gr4 114 rfl rfl
set_option maxRecDepth 10000 in
theorem lc_X103_265 : Cond.constant RX103 265 (1431655765 : Int32) ∈ Gt := gr3 174 rfl rfl
set_option maxRecDepth 10000 in
theorem lc_X103_266 : Cond.constant RX103 266 (858993459 : Int32) ∈ Gt := gr3 175 rfl rfl
set_option maxRecDepth 10000 in
theorem lc_X103_267 : Cond.constant RX103 267 (252645135 : Int32) ∈ Gt := gr3 176 rfl rfl
set_option maxRecDepth 10000 in
theorem lc_X10_257 : Cond.constantLong RX10 257 (-4611686018427387904 : Int64) ∈ Gt := gr4 33 rfl rfl
set_option maxRecDepth 10000 in
theorem lc_X10_329 : Cond.constantLong RX10 329 (4 : Int64) ∈ Gt := gr4 82 rfl rfl
set_option maxRecDepth 10000 in
theorem lc_X11_130 : Cond.constantLong RX11 130 (255 : Int64) ∈ Gt := gr5 34 rfl rfl
set_option maxRecDepth 10000 in
theorem lc_X11_205 : Cond.constantLong RX11 205 (-4611686018427387904 : Int64) ∈ Gt := gr5 109 rfl rfl
set_option maxRecDepth 10000 in
theorem mv_X0_add : Mv yX0_add cX0_add 4 (some .int) 3 := ⟨gr3 215 rfl rfl, gr3 216 rfl rfl, gr0 15 rfl rfl, gr3 217 rfl rfl, ⟨by decide, by decide, by decide +kernel⟩⟩
set_option maxRecDepth 10000 in
theorem mv_X0_thought : Mv yX0_thought cX0_thought 5 (some .int) 3 := ⟨gr3 227 rfl rfl, gr3 228 rfl rfl, gr0 15 rfl rfl, gr3 229 rfl rfl, ⟨by decide, by decide, by decide +kernel⟩⟩
set_option maxRecDepth 10000 in
theorem mv_X1_begin : Mv yX1_begin cX1_begin 5 none 4 := ⟨gr2 150 rfl rfl, gr2 151 rfl rfl, gr0 13 rfl rfl, gr2 152 rfl rfl, ⟨by decide, by decide, by decide +kernel⟩⟩
set_option maxRecDepth 10000 in
theorem mv_X1_become : Mv yX1_become cX1_become 2 none 1 := ⟨gr3 143 rfl rfl, gr3 144 rfl rfl, gr0 13 rfl rfl, gr3 145 rfl rfl, ⟨by decide, by decide, by decide +kernel⟩⟩
set_option maxRecDepth 10000 in
theorem mv_X1_told : Mv yX1_told cX1_told 2 (some .int) 1 := ⟨gr3 100 rfl rfl, gr3 101 rfl rfl, gr0 13 rfl rfl, gr3 102 rfl rfl, ⟨by decide, by decide, by decide +kernel⟩⟩
set_option maxRecDepth 10000 in
theorem mv_X2_keep : Mv yX2_keep cX2_keep 5 none 4 := ⟨gr3 191 rfl rfl, gr3 192 rfl rfl, gr0 14 rfl rfl, gr3 193 rfl rfl, ⟨by decide, by decide, by decide +kernel⟩⟩
set_option maxRecDepth 10000 in
theorem mv_X2_holds : Mv yX2_holds cX2_holds 2 (some .boolean) 1 := ⟨gr3 199 rfl rfl, gr3 200 rfl rfl, gr0 14 rfl rfl, gr3 201 rfl rfl, ⟨by decide, by decide, by decide +kernel⟩⟩
set_option maxRecDepth 10000 in
theorem mv_X2_wishOf : Mv yX2_wishOf cX2_wishOf 2 (some .int) 1 := ⟨gr3 203 rfl rfl, gr3 204 rfl rfl, gr0 14 rfl rfl, gr3 205 rfl rfl, ⟨by decide, by decide, by decide +kernel⟩⟩
set_option maxRecDepth 10000 in
theorem mv_X3_isKind : Msv yX3_isKind cX3_isKind 1 (some .boolean) 1 := ⟨gr2 98 rfl rfl, gr0 18 rfl rfl, gr2 99 rfl rfl, ⟨by decide, by decide, by decide +kernel⟩⟩
set_option maxRecDepth 10000 in
theorem mv_X3_size : Msv yX3_size cX3_size 1 (some .int) 1 := ⟨gr2 133 rfl rfl, gr0 18 rfl rfl, gr2 134 rfl rfl, ⟨by decide, by decide, by decide +kernel⟩⟩
set_option maxRecDepth 10000 in
theorem mv_X3_roll : Msv yX3_roll cX3_roll 1 (some .int) 1 := ⟨gr2 175 rfl rfl, gr0 18 rfl rfl, gr2 176 rfl rfl, ⟨by decide, by decide, by decide +kernel⟩⟩
set_option maxRecDepth 10000 in
theorem mv_X3_lasts : Msv yX3_lasts cX3_lasts 2 (some .int) 2 := ⟨gr2 231 rfl rfl, gr0 18 rfl rfl, gr2 232 rfl rfl, ⟨by decide, by decide, by decide +kernel⟩⟩
set_option maxRecDepth 10000 in
theorem mv_X3_behind : Msv yX3_behind cX3_behind 1 (some .int) 1 := ⟨gr2 222 rfl rfl, gr0 18 rfl rfl, gr2 223 rfl rfl, ⟨by decide, by decide, by decide +kernel⟩⟩
set_option maxRecDepth 10000 in
theorem mv_X3_truckFor : Msv yX3_truckFor cX3_truckFor 1 (some .int) 1 := ⟨gr2 196 rfl rfl, gr0 18 rfl rfl, gr2 197 rfl rfl, ⟨by decide, by decide, by decide +kernel⟩⟩
set_option maxRecDepth 10000 in
theorem mv_X3_isA : Msv yX3_isA cX3_isA 4 (some .boolean) 2 := ⟨gr4 89 rfl rfl, gr0 18 rfl rfl, gr4 90 rfl rfl, ⟨by decide, by decide, by decide +kernel⟩⟩
set_option maxRecDepth 10000 in
theorem mv_X3_wayToUnload : Msv yX3_wayToUnload cX3_wayToUnload 1 (some .int) 1 := ⟨gr3 238 rfl rfl, gr0 18 rfl rfl, gr3 239 rfl rfl, ⟨by decide, by decide, by decide +kernel⟩⟩
set_option maxRecDepth 10000 in
theorem mv_X3_wayToLoad : Msv yX3_wayToLoad cX3_wayToLoad 2 (some .int) 1 := ⟨gr3 234 rfl rfl, gr0 18 rfl rfl, gr3 235 rfl rfl, ⟨by decide, by decide, by decide +kernel⟩⟩
set_option maxRecDepth 10000 in
theorem mv_X3_wayThrough : Msv yX3_wayThrough cX3_wayThrough 2 (some .int) 2 := ⟨gr3 231 rfl rfl, gr0 18 rfl rfl, gr3 232 rfl rfl, ⟨by decide, by decide, by decide +kernel⟩⟩
set_option maxRecDepth 10000 in
theorem mv_X4_become : Mv yX4_become cX4_become 3 none 1 := ⟨gr3 131 rfl rfl, gr3 132 rfl rfl, gr0 11 rfl rfl, gr3 133 rfl rfl, ⟨by decide, by decide, by decide +kernel⟩⟩
set_option maxRecDepth 10000 in
theorem mv_X4_maySet : Msv yX4_maySet cX4_maySet 2 (some .boolean) 2 := ⟨gr2 87 rfl rfl, gr0 11 rfl rfl, gr2 88 rfl rfl, ⟨by decide, by decide, by decide +kernel⟩⟩
set_option maxRecDepth 10000 in
theorem mv_X4_hasVisit : Mv yX4_hasVisit cX4_hasVisit 2 (some .boolean) 1 := ⟨gr2 117 rfl rfl, gr2 118 rfl rfl, gr0 11 rfl rfl, gr2 119 rfl rfl, ⟨by decide, by decide, by decide +kernel⟩⟩
set_option maxRecDepth 10000 in
theorem mv_X4_hasFeed : Mv yX4_hasFeed cX4_hasFeed 2 (some .boolean) 1 := ⟨gr3 96 rfl rfl, gr3 97 rfl rfl, gr0 11 rfl rfl, gr3 98 rfl rfl, ⟨by decide, by decide, by decide +kernel⟩⟩
set_option maxRecDepth 10000 in
theorem mv_X4_hasStand : Mv yX4_hasStand cX4_hasStand 2 (some .boolean) 1 := ⟨gr2 125 rfl rfl, gr2 126 rfl rfl, gr0 11 rfl rfl, gr2 127 rfl rfl, ⟨by decide, by decide, by decide +kernel⟩⟩
set_option maxRecDepth 10000 in
theorem mv_X4_addStand : Mv yX4_addStand cX4_addStand 2 (some .int) 1 := ⟨gr2 79 rfl rfl, gr2 80 rfl rfl, gr0 11 rfl rfl, gr2 81 rfl rfl, ⟨by decide, by decide, by decide +kernel⟩⟩
set_option maxRecDepth 10000 in
theorem mv_X4_addVisit : Mv yX4_addVisit cX4_addVisit 5 (some .int) 4 := ⟨gr2 101 rfl rfl, gr2 102 rfl rfl, gr0 11 rfl rfl, gr2 103 rfl rfl, ⟨by decide, by decide, by decide +kernel⟩⟩
set_option maxRecDepth 10000 in
theorem mv_X4_addFeed : Mv yX4_addFeed cX4_addFeed 5 (some .int) 4 := ⟨gr2 146 rfl rfl, gr2 147 rfl rfl, gr0 11 rfl rfl, gr2 148 rfl rfl, ⟨by decide, by decide, by decide +kernel⟩⟩
set_option maxRecDepth 10000 in
theorem mv_X4_fits : Mv yX4_fits cX4_fits 3 (some .boolean) 2 := ⟨gr2 129 rfl rfl, gr2 130 rfl rfl, gr0 11 rfl rfl, gr2 131 rfl rfl, ⟨by decide, by decide, by decide +kernel⟩⟩
set_option maxRecDepth 10000 in
theorem mv_X4_outcome : Mv yX4_outcome cX4_outcome 2 (some .int) 1 := ⟨gr3 147 rfl rfl, gr3 148 rfl rfl, gr0 11 rfl rfl, gr3 149 rfl rfl, ⟨by decide, by decide, by decide +kernel⟩⟩
set_option maxRecDepth 10000 in
theorem mv_X4_lateInAll : Mv yX4_lateInAll cX4_lateInAll 3 (some .int) 0 := ⟨gr3 151 rfl rfl, gr3 152 rfl rfl, gr0 11 rfl rfl, gr3 153 rfl rfl, ⟨by decide, by decide, by decide +kernel⟩⟩
set_option maxRecDepth 10000 in
theorem mv_X4_missedBags : Mv yX4_missedBags cX4_missedBags 3 (some .int) 0 := ⟨gr3 160 rfl rfl, gr3 161 rfl rfl, gr0 11 rfl rfl, gr3 162 rfl rfl, ⟨by decide, by decide, by decide +kernel⟩⟩
set_option maxRecDepth 10000 in
theorem mv_X4_howMany : Mv yX4_howMany cX4_howMany 4 (some .int) 1 := ⟨gr3 157 rfl rfl, gs 35 rfl rfl, gr0 11 rfl rfl, gr3 158 rfl rfl, ⟨by decide, by decide, by decide +kernel⟩⟩
set_option maxRecDepth 10000 in
theorem mv_X4_step : Mv yX4_step cX4_step 3 none 0 := ⟨gr2 162 rfl rfl, gr2 163 rfl rfl, gr0 11 rfl rfl, gr2 164 rfl rfl, ⟨by decide, by decide, by decide +kernel⟩⟩
set_option maxRecDepth 10000 in
theorem mv_X4_move : Mv yX4_move cX4_move 3 none 1 := ⟨gr2 167 rfl rfl, gs 15 rfl rfl, gr0 11 rfl rfl, gr2 168 rfl rfl, ⟨by decide, by decide, by decide +kernel⟩⟩
set_option maxRecDepth 10000 in
theorem mv_X4_work : Mv yX4_work cX4_work 4 none 1 := ⟨gr2 181 rfl rfl, gs 16 rfl rfl, gr0 11 rfl rfl, gr2 182 rfl rfl, ⟨by decide, by decide, by decide +kernel⟩⟩
set_option maxRecDepth 10000 in
theorem mv_X4_finish : Mv yX4_finish cX4_finish 5 none 2 := ⟨gr2 189 rfl rfl, gs 17 rfl rfl, gr0 11 rfl rfl, gr2 190 rfl rfl, ⟨by decide, by decide, by decide +kernel⟩⟩
set_option maxRecDepth 10000 in
theorem mv_X4_sendCarts : Mv yX4_sendCarts cX4_sendCarts 4 none 1 := ⟨gr2 202 rfl rfl, gs 18 rfl rfl, gr0 11 rfl rfl, gr2 203 rfl rfl, ⟨by decide, by decide, by decide +kernel⟩⟩
set_option maxRecDepth 10000 in
theorem mv_X4_carry : Mv yX4_carry cX4_carry 4 none 1 := ⟨gr2 207 rfl rfl, gs 19 rfl rfl, gr0 11 rfl rfl, gr2 208 rfl rfl, ⟨by decide, by decide, by decide +kernel⟩⟩
set_option maxRecDepth 10000 in
theorem mv_X4_serve : Mv yX4_serve cX4_serve 5 none 1 := ⟨gr2 215 rfl rfl, gs 20 rfl rfl, gr0 11 rfl rfl, gr2 216 rfl rfl, ⟨by decide, by decide, by decide +kernel⟩⟩
set_option maxRecDepth 10000 in
theorem mv_X4_isNothing : Mv yX4_isNothing cX4_isNothing 3 (some .boolean) 2 := ⟨gr2 228 rfl rfl, gs 21 rfl rfl, gr0 11 rfl rfl, gr2 229 rfl rfl, ⟨by decide, by decide, by decide +kernel⟩⟩
set_option maxRecDepth 10000 in
theorem mv_X4_hindrance : Mv yX4_hindrance cX4_hindrance 5 (some .int) 2 := ⟨gr2 237 rfl rfl, gs 22 rfl rfl, gr0 11 rfl rfl, gr2 238 rfl rfl, ⟨by decide, by decide, by decide +kernel⟩⟩
set_option maxRecDepth 10000 in
theorem mv_X4_startNow : Mv yX4_startNow cX4_startNow 4 none 2 := ⟨gr3 25 rfl rfl, gs 25 rfl rfl, gr0 11 rfl rfl, gr3 26 rfl rfl, ⟨by decide, by decide, by decide +kernel⟩⟩
set_option maxRecDepth 10000 in
theorem mv_X4_waitsForBags : Mv yX4_waitsForBags cX4_waitsForBags 4 (some .boolean) 1 := ⟨gr3 1 rfl rfl, gs 23 rfl rfl, gr0 11 rfl rfl, gr3 2 rfl rfl, ⟨by decide, by decide, by decide +kernel⟩⟩
set_option maxRecDepth 10000 in
theorem mv_X4_openFeeds : Mv yX4_openFeeds cX4_openFeeds 4 (some .int) 1 := ⟨gr3 5 rfl rfl, gs 24 rfl rfl, gr0 11 rfl rfl, gr3 6 rfl rfl, ⟨by decide, by decide, by decide +kernel⟩⟩
set_option maxRecDepth 10000 in
theorem mv_X4_iceAgain : Mv yX4_iceAgain cX4_iceAgain 2 none 1 := ⟨gr3 34 rfl rfl, gs 26 rfl rfl, gr0 11 rfl rfl, gr3 35 rfl rfl, ⟨by decide, by decide, by decide +kernel⟩⟩
set_option maxRecDepth 10000 in
theorem mv_X4_bestFor : Mv yX4_bestFor cX4_bestFor 6 (some .int) 1 := ⟨gr3 42 rfl rfl, gs 27 rfl rfl, gr0 11 rfl rfl, gr3 43 rfl rfl, ⟨by decide, by decide, by decide +kernel⟩⟩
set_option maxRecDepth 10000 in
theorem mv_X4_isReady : Mv yX4_isReady cX4_isReady 7 (some .boolean) 2 := ⟨gr3 46 rfl rfl, gs 28 rfl rfl, gr0 11 rfl rfl, gr3 47 rfl rfl, ⟨by decide, by decide, by decide +kernel⟩⟩
set_option maxRecDepth 10000 in
theorem mv_X4_isReadyToLeave : Mv yX4_isReadyToLeave cX4_isReadyToLeave 2 (some .boolean) 1 := ⟨gr3 54 rfl rfl, gs 30 rfl rfl, gr0 11 rfl rfl, gr3 55 rfl rfl, ⟨by decide, by decide, by decide +kernel⟩⟩
set_option maxRecDepth 10000 in
theorem mv_X4_standFor : Mv yX4_standFor cX4_standFor 6 (some .int) 1 := ⟨gr3 50 rfl rfl, gs 29 rfl rfl, gr0 11 rfl rfl, gr3 51 rfl rfl, ⟨by decide, by decide, by decide +kernel⟩⟩
set_option maxRecDepth 10000 in
theorem mv_X4_giveRunway : Mv yX4_giveRunway cX4_giveRunway 4 none 2 := ⟨gr3 58 rfl rfl, gs 31 rfl rfl, gr0 11 rfl rfl, gr3 59 rfl rfl, ⟨by decide, by decide, by decide +kernel⟩⟩
set_option maxRecDepth 10000 in
theorem mv_X4_blame : Mv yX4_blame cX4_blame 3 none 1 := ⟨gr3 63 rfl rfl, gs 32 rfl rfl, gr0 11 rfl rfl, gr3 64 rfl rfl, ⟨by decide, by decide, by decide +kernel⟩⟩
set_option maxRecDepth 10000 in
theorem mv_X4_causeNow : Mv yX4_causeNow cX4_causeNow 2 (some .int) 1 := ⟨gr3 67 rfl rfl, gs 33 rfl rfl, gr0 11 rfl rfl, gr3 68 rfl rfl, ⟨by decide, by decide, by decide +kernel⟩⟩
set_option maxRecDepth 10000 in
theorem mv_X4_causeOfRunways : Mv yX4_causeOfRunways cX4_causeOfRunways 1 (some .int) 0 := ⟨gr3 71 rfl rfl, gs 34 rfl rfl, gr0 11 rfl rfl, gr3 72 rfl rfl, ⟨by decide, by decide, by decide +kernel⟩⟩
set_option maxRecDepth 10000 in
theorem mv_X4_learn : Mv yX4_learn cX4_learn 4 none 2 := ⟨gr3 8 rfl rfl, gr3 9 rfl rfl, gr0 11 rfl rfl, gr3 10 rfl rfl, ⟨by decide, by decide, by decide +kernel⟩⟩
set_option maxRecDepth 10000 in
theorem mv_X5_read : Mv yX5_read cX5_read 4 (some .int) 2 := ⟨gr0 139 rfl rfl, gr0 140 rfl rfl, gr0 3 rfl rfl, gr0 141 rfl rfl, ⟨by decide, by decide, by decide +kernel⟩⟩
set_option maxRecDepth 10000 in
theorem mv_X5_either : Mv yX5_either cX5_either 3 (some .boolean) 1 := ⟨gr0 239 rfl rfl, gs 5 rfl rfl, gr0 3 rfl rfl, gr1 0 rfl rfl, ⟨by decide, by decide, by decide +kernel⟩⟩
set_option maxRecDepth 10000 in
theorem mv_X5_both : Mv yX5_both cX5_both 3 (some .boolean) 1 := ⟨gr1 3 rfl rfl, gs 6 rfl rfl, gr0 3 rfl rfl, gr1 4 rfl rfl, ⟨by decide, by decide, by decide +kernel⟩⟩
set_option maxRecDepth 10000 in
theorem mv_X5_negated : Mv yX5_negated cX5_negated 2 (some .boolean) 1 := ⟨gr1 7 rfl rfl, gs 7 rfl rfl, gr0 3 rfl rfl, gr1 8 rfl rfl, ⟨by decide, by decide, by decide +kernel⟩⟩
set_option maxRecDepth 10000 in
theorem mv_X5_compared : Mv yX5_compared cX5_compared 3 (some .boolean) 1 := ⟨gr1 11 rfl rfl, gs 8 rfl rfl, gr0 3 rfl rfl, gr1 12 rfl rfl, ⟨by decide, by decide, by decide +kernel⟩⟩
set_option maxRecDepth 10000 in
theorem mv_X5_sum : Mv yX5_sum cX5_sum 4 (some .boolean) 1 := ⟨gr1 15 rfl rfl, gs 9 rfl rfl, gr0 3 rfl rfl, gr1 16 rfl rfl, ⟨by decide, by decide, by decide +kernel⟩⟩
set_option maxRecDepth 10000 in
theorem mv_X5_term : Mv yX5_term cX5_term 3 (some .boolean) 1 := ⟨gr1 19 rfl rfl, gs 10 rfl rfl, gr0 3 rfl rfl, gr1 20 rfl rfl, ⟨by decide, by decide, by decide +kernel⟩⟩
set_option maxRecDepth 10000 in
theorem mv_X5_one : Mv yX5_one cX5_one 2 (some .boolean) 1 := ⟨gr1 23 rfl rfl, gs 11 rfl rfl, gr0 3 rfl rfl, gr1 24 rfl rfl, ⟨by decide, by decide, by decide +kernel⟩⟩
set_option maxRecDepth 10000 in
theorem mv_X5_enclosed : Mv yX5_enclosed cX5_enclosed 2 (some .boolean) 1 := ⟨gr1 31 rfl rfl, gs 12 rfl rfl, gr0 3 rfl rfl, gr1 32 rfl rfl, ⟨by decide, by decide, by decide +kernel⟩⟩
set_option maxRecDepth 10000 in
theorem mv_X5_negative : Mv yX5_negative cX5_negative 2 (some .boolean) 1 := ⟨gr1 35 rfl rfl, gs 13 rfl rfl, gr0 3 rfl rfl, gr1 36 rfl rfl, ⟨by decide, by decide, by decide +kernel⟩⟩
set_option maxRecDepth 10000 in
theorem mv_X5_isWord : Mv yX5_isWord cX5_isWord 2 (some .boolean) 1 := ⟨gr0 235 rfl rfl, gs 4 rfl rfl, gr0 3 rfl rfl, gr0 236 rfl rfl, ⟨by decide, by decide, by decide +kernel⟩⟩
set_option maxRecDepth 10000 in
theorem mv_X5_next : Mv yX5_next cX5_next 1 none 0 := ⟨gr0 148 rfl rfl, gs 0 rfl rfl, gr0 3 rfl rfl, gr0 149 rfl rfl, ⟨by decide, by decide, by decide +kernel⟩⟩
set_option maxRecDepth 10000 in
theorem mv_X5_readWord : Mv yX5_readWord cX5_readWord 1 none 0 := ⟨gr0 158 rfl rfl, gs 1 rfl rfl, gr0 3 rfl rfl, gr0 159 rfl rfl, ⟨by decide, by decide, by decide +kernel⟩⟩
set_option maxRecDepth 10000 in
theorem mv_X5_readNumber : Mv yX5_readNumber cX5_readNumber 1 none 0 := ⟨gr0 171 rfl rfl, gs 3 rfl rfl, gr0 3 rfl rfl, gr0 172 rfl rfl, ⟨by decide, by decide, by decide +kernel⟩⟩
set_option maxRecDepth 10000 in
theorem mv_X5_wordOf : Mv yX5_wordOf cX5_wordOf 7 (some .int) 2 := ⟨gr0 162 rfl rfl, gs 2 rfl rfl, gr0 3 rfl rfl, gr0 163 rfl rfl, ⟨by decide, by decide, by decide +kernel⟩⟩
set_option maxRecDepth 10000 in
theorem mv_X5_isBlank : Msv yX5_isBlank cX5_isBlank 1 (some .boolean) 1 := ⟨gr0 151 rfl rfl, gr0 3 rfl rfl, gr0 152 rfl rfl, ⟨by decide, by decide, by decide +kernel⟩⟩
set_option maxRecDepth 10000 in
theorem mv_X5_isLetter : Msv yX5_isLetter cX5_isLetter 1 (some .boolean) 1 := ⟨gr0 154 rfl rfl, gr0 3 rfl rfl, gr0 155 rfl rfl, ⟨by decide, by decide, by decide +kernel⟩⟩
set_option maxRecDepth 10000 in
theorem mv_X5_isDigit : Msv yX5_isDigit cX5_isDigit 1 (some .boolean) 1 := ⟨gr0 167 rfl rfl, gr0 3 rfl rfl, gr0 168 rfl rfl, ⟨by decide, by decide, by decide +kernel⟩⟩
set_option maxRecDepth 10000 in
theorem mv_X6_clear : Mv yX6_clear cX6_clear 1 none 0 := ⟨gr0 143 rfl rfl, gr0 144 rfl rfl, gr0 4 rfl rfl, gr0 145 rfl rfl, ⟨by decide, by decide, by decide +kernel⟩⟩
set_option maxRecDepth 10000 in
theorem mv_X6_put : Mv yX6_put cX6_put 2 none 1 := ⟨gr1 26 rfl rfl, gr1 27 rfl rfl, gr0 4 rfl rfl, gr1 28 rfl rfl, ⟨by decide, by decide, by decide +kernel⟩⟩
set_option maxRecDepth 10000 in
theorem mv_X6_endPart : Mv yX6_endPart cX6_endPart 2 none 1 := ⟨gr1 38 rfl rfl, gr1 39 rfl rfl, gr0 4 rfl rfl, gr1 40 rfl rfl, ⟨by decide, by decide, by decide +kernel⟩⟩
set_option maxRecDepth 10000 in
theorem mv_X6_says : Mv yX6_says cX6_says 7 (some .int) 2 := ⟨gr3 17 rfl rfl, gr3 18 rfl rfl, gr0 4 rfl rfl, gr3 19 rfl rfl, ⟨by decide, by decide, by decide +kernel⟩⟩
set_option maxRecDepth 10000 in
theorem mv_X6_joined : Msv yX6_joined cX6_joined 3 (some .int) 3 := ⟨gr3 21 rfl rfl, gr0 4 rfl rfl, gr3 22 rfl rfl, ⟨by decide, by decide, by decide +kernel⟩⟩
set_option maxRecDepth 10000 in
theorem mv_X7_renew : Mv yX7_renew cX7_renew 4 none 2 := ⟨gr4 46 rfl rfl, gr4 47 rfl rfl, gr0 16 rfl rfl, gr4 48 rfl rfl, ⟨by decide, by decide, by decide +kernel⟩⟩
set_option maxRecDepth 10000 in
theorem mv_X7_isMissing : Mv yX7_isMissing cX7_isMissing 1 (some .boolean) 0 := ⟨gr4 54 rfl rfl, gr4 55 rfl rfl, gr0 16 rfl rfl, gr4 56 rfl rfl, ⟨by decide, by decide, by decide +kernel⟩⟩
set_option maxRecDepth 10000 in
theorem mv_X7_has : Mv yX7_has cX7_has 2 (some .boolean) 1 := ⟨gr4 58 rfl rfl, gr4 59 rfl rfl, gr0 16 rfl rfl, gr4 60 rfl rfl, ⟨by decide, by decide, by decide +kernel⟩⟩
set_option maxRecDepth 10000 in
theorem mv_X7_spans : Mv yX7_spans cX7_spans 3 (some .boolean) 2 := ⟨gr4 70 rfl rfl, gr4 71 rfl rfl, gr0 16 rfl rfl, gr4 72 rfl rfl, ⟨by decide, by decide, by decide +kernel⟩⟩
set_option maxRecDepth 10000 in
theorem mv_X7_put : Mv yX7_put cX7_put 3 none 2 := ⟨gr4 62 rfl rfl, gr4 63 rfl rfl, gr0 16 rfl rfl, gr4 64 rfl rfl, ⟨by decide, by decide, by decide +kernel⟩⟩
set_option maxRecDepth 10000 in
theorem mv_X8_rule : Mv yX8_rule cX8_rule 1 (some (.object "WingPort$Rule")) 0 := ⟨gr1 64 rfl rfl, gr1 65 rfl rfl, gr0 2 rfl rfl, gr1 66 rfl rfl, ⟨by decide, by decide, by decide +kernel⟩⟩
set_option maxRecDepth 10000 in
theorem mv_X8_append : Mv yX8_append cX8_append 5 (some .int) 2 := ⟨gr4 17 rfl rfl, gr4 18 rfl rfl, gr0 2 rfl rfl, gr4 19 rfl rfl, ⟨by decide, by decide, by decide +kernel⟩⟩
set_option maxRecDepth 10000 in
theorem mv_X8_take : Mv yX8_take cX8_take 2 (some .int) 0 := ⟨gr0 135 rfl rfl, gr0 136 rfl rfl, gr0 2 rfl rfl, gr0 137 rfl rfl, ⟨by decide, by decide, by decide +kernel⟩⟩
set_option maxRecDepth 10000 in
theorem mv_X9_begin : Mv yX9_begin cX9_begin 6 none 5 := ⟨gr2 105 rfl rfl, gr2 106 rfl rfl, gr0 12 rfl rfl, gr2 107 rfl rfl, ⟨by decide, by decide, by decide +kernel⟩⟩
set_option maxRecDepth 10000 in
theorem mv_X9_become : Mv yX9_become cX9_become 2 none 1 := ⟨gr3 138 rfl rfl, gr3 139 rfl rfl, gr0 12 rfl rfl, gr3 140 rfl rfl, ⟨by decide, by decide, by decide +kernel⟩⟩
set_option maxRecDepth 10000 in
theorem mv_X9_enter : Mv yX9_enter cX9_enter 3 none 2 := ⟨gr2 109 rfl rfl, gr2 110 rfl rfl, gr0 12 rfl rfl, gr2 111 rfl rfl, ⟨by decide, by decide, by decide +kernel⟩⟩
set_option maxRecDepth 10000 in
theorem mv_X9_comes : Mv yX9_comes cX9_comes 1 (some .int) 0 := ⟨gr2 170 rfl rfl, gr2 171 rfl rfl, gr0 12 rfl rfl, gr2 172 rfl rfl, ⟨by decide, by decide, by decide +kernel⟩⟩
set_option maxRecDepth 10000 in
theorem mv_X9_limit : Mv yX9_limit cX9_limit 1 (some .int) 0 := ⟨gr3 13 rfl rfl, gr3 14 rfl rfl, gr0 12 rfl rfl, gr3 15 rfl rfl, ⟨by decide, by decide, by decide +kernel⟩⟩
set_option maxRecDepth 10000 in
theorem mv_X9_isAhead : Mv yX9_isAhead cX9_isAhead 1 (some .boolean) 0 := ⟨gr2 138 rfl rfl, gr2 139 rfl rfl, gr0 12 rfl rfl, gr2 140 rfl rfl, ⟨by decide, by decide, by decide +kernel⟩⟩
set_option maxRecDepth 10000 in
theorem mv_X9_isUnder : Mv yX9_isUnder cX9_isUnder 2 (some .boolean) 1 := ⟨gr2 184 rfl rfl, gr2 185 rfl rfl, gr0 12 rfl rfl, gr2 186 rfl rfl, ⟨by decide, by decide, by decide +kernel⟩⟩
set_option maxRecDepth 10000 in
theorem mv_X9_isDone : Mv yX9_isDone cX9_isDone 2 (some .boolean) 1 := ⟨gr2 210 rfl rfl, gr2 211 rfl rfl, gr0 12 rfl rfl, gr2 212 rfl rfl, ⟨by decide, by decide, by decide +kernel⟩⟩
set_option maxRecDepth 10000 in
theorem mv_X9_mayBegin : Mv yX9_mayBegin cX9_mayBegin 2 (some .boolean) 1 := ⟨gr2 218 rfl rfl, gr2 219 rfl rfl, gr0 12 rfl rfl, gr2 220 rfl rfl, ⟨by decide, by decide, by decide +kernel⟩⟩
set_option maxRecDepth 10000 in
theorem mv_X9_startAct : Mv yX9_startAct cX9_startAct 2 none 1 := ⟨gr3 28 rfl rfl, gr3 29 rfl rfl, gr0 12 rfl rfl, gr3 30 rfl rfl, ⟨by decide, by decide, by decide +kernel⟩⟩
set_option maxRecDepth 10000 in
theorem mv_X9_endAct : Mv yX9_endAct cX9_endAct 2 none 1 := ⟨gr2 192 rfl rfl, gr2 193 rfl rfl, gr0 12 rfl rfl, gr2 194 rfl rfl, ⟨by decide, by decide, by decide +kernel⟩⟩
set_option maxRecDepth 10000 in
theorem mv_X9_needsIce : Mv yX9_needsIce cX9_needsIce 3 (some .boolean) 2 := ⟨gr3 37 rfl rfl, gr3 38 rfl rfl, gr0 12 rfl rfl, gr3 39 rfl rfl, ⟨by decide, by decide, by decide +kernel⟩⟩
set_option maxRecDepth 10000 in
theorem mv_X9_lateTicks : Mv yX9_lateTicks cX9_lateTicks 3 (some .int) 0 := ⟨gr3 83 rfl rfl, gr3 84 rfl rfl, gr0 12 rfl rfl, gr3 85 rfl rfl, ⟨by decide, by decide, by decide +kernel⟩⟩
set_option maxRecDepth 10000 in
theorem mv_X9_told : Mv yX9_told cX9_told 2 (some .int) 1 := ⟨gr3 78 rfl rfl, gr3 79 rfl rfl, gr0 12 rfl rfl, gr3 80 rfl rfl, ⟨by decide, by decide, by decide +kernel⟩⟩
set_option maxRecDepth 10000 in
theorem mv_X10_stand : Mv yX10_stand cX10_stand 2 (some .int) 1 := ⟨gr2 75 rfl rfl, gr2 76 rfl rfl, gr0 1 rfl rfl, gr2 77 rfl rfl, ⟨by decide, by decide, by decide +kernel⟩⟩
set_option maxRecDepth 10000 in
theorem mv_X10_set : Mv yX10_set cX10_set 4 (some .int) 2 := ⟨gr2 83 rfl rfl, gr2 84 rfl rfl, gr0 1 rfl rfl, gr2 85 rfl rfl, ⟨by decide, by decide, by decide +kernel⟩⟩
set_option maxRecDepth 10000 in
theorem mv_X10_visit : Mv yX10_visit cX10_visit 6 (some .int) 4 := ⟨gr2 94 rfl rfl, gr2 95 rfl rfl, gr0 1 rfl rfl, gr2 96 rfl rfl, ⟨by decide, by decide, by decide +kernel⟩⟩
set_option maxRecDepth 10000 in
theorem mv_X10_late : Mv yX10_late cX10_late 5 (some .int) 2 := ⟨gr2 113 rfl rfl, gr2 114 rfl rfl, gr0 1 rfl rfl, gr2 115 rfl rfl, ⟨by decide, by decide, by decide +kernel⟩⟩
set_option maxRecDepth 10000 in
theorem mv_X10_wish : Mv yX10_wish cX10_wish 5 (some .int) 2 := ⟨gr2 121 rfl rfl, gr2 122 rfl rfl, gr0 1 rfl rfl, gr2 123 rfl rfl, ⟨by decide, by decide, by decide +kernel⟩⟩
set_option maxRecDepth 10000 in
theorem mv_X10_feed : Mv yX10_feed cX10_feed 5 (some .int) 4 := ⟨gr2 142 rfl rfl, gr2 143 rfl rfl, gr0 1 rfl rfl, gr2 144 rfl rfl, ⟨by decide, by decide, by decide +kernel⟩⟩
set_option maxRecDepth 10000 in
theorem mv_X10_run : Mv yX10_run cX10_run 4 (some .int) 1 := ⟨gr2 154 rfl rfl, gr2 155 rfl rfl, gr0 1 rfl rfl, gr2 156 rfl rfl, ⟨by decide, by decide, by decide +kernel⟩⟩
set_option maxRecDepth 10000 in
theorem mv_X10_visitTold : Mv yX10_visitTold cX10_visitTold 3 (some .int) 2 := ⟨gr3 74 rfl rfl, gr3 75 rfl rfl, gr0 1 rfl rfl, gr3 76 rfl rfl, ⟨by decide, by decide, by decide +kernel⟩⟩
set_option maxRecDepth 10000 in
theorem mv_X10_cause : Mv yX10_cause cX10_cause 3 (some .int) 2 := ⟨gr3 88 rfl rfl, gr3 89 rfl rfl, gr0 1 rfl rfl, gr3 90 rfl rfl, ⟨by decide, by decide, by decide +kernel⟩⟩
set_option maxRecDepth 10000 in
theorem mv_X10_feedTold : Mv yX10_feedTold cX10_feedTold 3 (some .int) 2 := ⟨gr3 92 rfl rfl, gr3 93 rfl rfl, gr0 1 rfl rfl, gr3 94 rfl rfl, ⟨by decide, by decide, by decide +kernel⟩⟩
set_option maxRecDepth 10000 in
theorem mv_X10_standTold : Mv yX10_standTold cX10_standTold 3 (some .int) 2 := ⟨gr3 104 rfl rfl, gr3 105 rfl rfl, gr0 1 rfl rfl, gr3 106 rfl rfl, ⟨by decide, by decide, by decide +kernel⟩⟩
set_option maxRecDepth 10000 in
theorem mv_X10_runwayTold : Mv yX10_runwayTold cX10_runwayTold 3 (some .int) 2 := ⟨gr3 108 rfl rfl, gr3 109 rfl rfl, gr0 1 rfl rfl, gr3 110 rfl rfl, ⟨by decide, by decide, by decide +kernel⟩⟩
set_option maxRecDepth 10000 in
theorem mv_X10_ticks : Mv yX10_ticks cX10_ticks 3 (some .int) 2 := ⟨gr3 112 rfl rfl, gr3 113 rfl rfl, gr0 1 rfl rfl, gr3 114 rfl rfl, ⟨by decide, by decide, by decide +kernel⟩⟩
set_option maxRecDepth 10000 in
theorem mv_X10_kindTold : Mv yX10_kindTold cX10_kindTold 3 (some .int) 2 := ⟨gr3 117 rfl rfl, gr3 118 rfl rfl, gr0 1 rfl rfl, gr3 119 rfl rfl, ⟨by decide, by decide, by decide +kernel⟩⟩
set_option maxRecDepth 10000 in
theorem mv_X10_trucks : Mv yX10_trucks cX10_trucks 3 (some .int) 2 := ⟨gr3 123 rfl rfl, gr3 124 rfl rfl, gr0 1 rfl rfl, gr3 125 rfl rfl, ⟨by decide, by decide, by decide +kernel⟩⟩
set_option maxRecDepth 10000 in
theorem mv_X10_beside : Mv yX10_beside cX10_beside 5 (some .int) 2 := ⟨gr3 127 rfl rfl, gr3 128 rfl rfl, gr0 1 rfl rfl, gr3 129 rfl rfl, ⟨by decide, by decide, by decide +kernel⟩⟩
set_option maxRecDepth 10000 in
theorem mv_X10_plan : Mv yX10_plan cX10_plan 11 (some .int) 2 := ⟨gr3 164 rfl rfl, gr3 165 rfl rfl, gr0 1 rfl rfl, gr3 166 rfl rfl, ⟨by decide, by decide, by decide +kernel⟩⟩
set_option maxRecDepth 10000 in
theorem mv_X10_planned : Mv yX10_planned cX10_planned 2 (some .int) 1 := ⟨gr3 195 rfl rfl, gr3 196 rfl rfl, gr0 1 rfl rfl, gr3 197 rfl rfl, ⟨by decide, by decide, by decide +kernel⟩⟩
set_option maxRecDepth 10000 in
theorem mv_X10_settle : Mv yX10_settle cX10_settle 2 (some .int) 0 := ⟨gr3 207 rfl rfl, gr3 208 rfl rfl, gr0 1 rfl rfl, gr3 209 rfl rfl, ⟨by decide, by decide, by decide +kernel⟩⟩
set_option maxRecDepth 10000 in
theorem mv_X10_estimate : Mv yX10_estimate cX10_estimate 3 (some .int) 2 := ⟨gr3 211 rfl rfl, gr3 212 rfl rfl, gr0 1 rfl rfl, gr3 213 rfl rfl, ⟨by decide, by decide, by decide +kernel⟩⟩
set_option maxRecDepth 10000 in
theorem mv_X10_expects : Mv yX10_expects cX10_expects 5 (some .int) 2 := ⟨gr3 219 rfl rfl, gr3 220 rfl rfl, gr0 1 rfl rfl, gr3 221 rfl rfl, ⟨by decide, by decide, by decide +kernel⟩⟩
set_option maxRecDepth 10000 in
theorem mv_X10_misses : Mv yX10_misses cX10_misses 9 (some .int) 2 := ⟨gr4 3 rfl rfl, gr4 4 rfl rfl, gr0 1 rfl rfl, gr4 5 rfl rfl, ⟨by decide, by decide, by decide +kernel⟩⟩
set_option maxRecDepth 10000 in
theorem mv_X10_feedTape : Mv yX10_feedTape cX10_feedTape 4 (some .int) 2 := ⟨gr4 13 rfl rfl, gr4 14 rfl rfl, gr0 1 rfl rfl, gr4 15 rfl rfl, ⟨by decide, by decide, by decide +kernel⟩⟩
set_option maxRecDepth 10000 in
theorem mv_X10_text : Mv yX10_text cX10_text 1 (some .int) 0 := ⟨gr4 21 rfl rfl, gr4 22 rfl rfl, gr0 1 rfl rfl, gr4 23 rfl rfl, ⟨by decide, by decide, by decide +kernel⟩⟩
set_option maxRecDepth 10000 in
theorem mv_X10_force : Mv yX10_force cX10_force 3 (some .int) 1 := ⟨gr4 26 rfl rfl, gr4 27 rfl rfl, gr0 1 rfl rfl, gr4 28 rfl rfl, ⟨by decide, by decide, by decide +kernel⟩⟩
set_option maxRecDepth 10000 in
theorem mv_X10_tells : Mv yX10_tells cX10_tells 3 (some .long) 2 := ⟨gr4 30 rfl rfl, gr4 31 rfl rfl, gr0 1 rfl rfl, gr4 32 rfl rfl, ⟨by decide, by decide, by decide +kernel⟩⟩
set_option maxRecDepth 10000 in
theorem mv_X10_count : Mv yX10_count cX10_count 2 (some .int) 1 := ⟨gr4 37 rfl rfl, gr4 38 rfl rfl, gr0 1 rfl rfl, gr4 39 rfl rfl, ⟨by decide, by decide, by decide +kernel⟩⟩
set_option maxRecDepth 10000 in
theorem mv_X10_sheet : Mv yX10_sheet cX10_sheet 4 (some .int) 3 := ⟨gr4 42 rfl rfl, gr4 43 rfl rfl, gr0 1 rfl rfl, gr4 44 rfl rfl, ⟨by decide, by decide, by decide +kernel⟩⟩
set_option maxRecDepth 10000 in
theorem mv_X10_cell : Mv yX10_cell cX10_cell 5 (some .int) 3 := ⟨gr4 50 rfl rfl, gr4 51 rfl rfl, gr0 1 rfl rfl, gr4 52 rfl rfl, ⟨by decide, by decide, by decide +kernel⟩⟩
set_option maxRecDepth 10000 in
theorem mv_X10_copy : Mv yX10_copy cX10_copy 8 (some .int) 5 := ⟨gr4 66 rfl rfl, gr4 67 rfl rfl, gr0 1 rfl rfl, gr4 68 rfl rfl, ⟨by decide, by decide, by decide +kernel⟩⟩
set_option maxRecDepth 10000 in
theorem mv_X10_visits : Mv yX10_visits cX10_visits 7 (some .int) 4 := ⟨gr4 75 rfl rfl, gr4 76 rfl rfl, gr0 1 rfl rfl, gr4 77 rfl rfl, ⟨by decide, by decide, by decide +kernel⟩⟩
set_option maxRecDepth 10000 in
theorem mv_X10_taken : Mv yX10_taken cX10_taken 4 (some .int) 2 := ⟨gr4 85 rfl rfl, gr4 86 rfl rfl, gr0 1 rfl rfl, gr4 87 rfl rfl, ⟨by decide, by decide, by decide +kernel⟩⟩
set_option maxRecDepth 10000 in
theorem mv_X10_refusedAhead : Mv yX10_refusedAhead cX10_refusedAhead 3 (some .int) 2 := ⟨gr2 159 rfl rfl, gs 14 rfl rfl, gr0 1 rfl rfl, gr2 160 rfl rfl, ⟨by decide, by decide, by decide +kernel⟩⟩
set_option maxRecDepth 10000 in
theorem mv_X10_areAhead : Mv yX10_areAhead cX10_areAhead 3 (some .boolean) 1 := ⟨gr3 179 rfl rfl, gs 37 rfl rfl, gr0 1 rfl rfl, gr3 180 rfl rfl, ⟨by decide, by decide, by decide +kernel⟩⟩
set_option maxRecDepth 10000 in
theorem mv_X10_refusedPlan : Mv yX10_refusedPlan cX10_refusedPlan 4 (some .int) 2 := ⟨gr3 169 rfl rfl, gs 36 rfl rfl, gr0 1 rfl rfl, gr3 170 rfl rfl, ⟨by decide, by decide, by decide +kernel⟩⟩
set_option maxRecDepth 10000 in
theorem mv_X10_lowest : Mv yX10_lowest cX10_lowest 3 (some .int) 1 := ⟨gr3 183 rfl rfl, gs 38 rfl rfl, gr0 1 rfl rfl, gr3 184 rfl rfl, ⟨by decide, by decide, by decide +kernel⟩⟩
set_option maxRecDepth 10000 in
theorem mv_X10_lateWith : Mv yX10_lateWith cX10_lateWith 7 (some .int) 5 := ⟨gr3 187 rfl rfl, gs 39 rfl rfl, gr0 1 rfl rfl, gr3 188 rfl rfl, ⟨by decide, by decide, by decide +kernel⟩⟩
set_option maxRecDepth 10000 in
theorem mv_X10_thereBy : Mv yX10_thereBy cX10_thereBy 4 (some .int) 2 := ⟨gr3 224 rfl rfl, gs 40 rfl rfl, gr0 1 rfl rfl, gr3 225 rfl rfl, ⟨by decide, by decide, by decide +kernel⟩⟩
set_option maxRecDepth 10000 in
theorem mv_X10_cartThereBy : Mv yX10_cartThereBy cX10_cartThereBy 3 (some .int) 2 := ⟨gr4 9 rfl rfl, gs 41 rfl rfl, gr0 1 rfl rfl, gr4 10 rfl rfl, ⟨by decide, by decide, by decide +kernel⟩⟩
set_option maxRecDepth 10000 in
theorem mv_X10_visitsOf : Mv yX10_visitsOf cX10_visitsOf 10 (some .int) 3 := ⟨gr4 80 rfl rfl, gs 42 rfl rfl, gr0 1 rfl rfl, gr4 81 rfl rfl, ⟨by decide, by decide, by decide +kernel⟩⟩
set_option maxRecDepth 10000 in
theorem mv_X11_in : Msv yX11_in cX11_in 3 (some .boolean) 3 := ⟨gr4 232 rfl rfl, gr0 17 rfl rfl, gr4 233 rfl rfl, ⟨by decide, by decide, by decide +kernel⟩⟩
set_option maxRecDepth 10000 in
theorem mv_X11_isVisit : Mv yX11_isVisit cX11_isVisit 2 (some .boolean) 1 := ⟨gr5 8 rfl rfl, gs 43 rfl rfl, gr0 17 rfl rfl, gr5 9 rfl rfl, ⟨by decide, by decide, by decide +kernel⟩⟩
set_option maxRecDepth 10000 in
theorem mv_X11_isStand : Mv yX11_isStand cX11_isStand 2 (some .boolean) 1 := ⟨gr5 20 rfl rfl, gs 45 rfl rfl, gr0 17 rfl rfl, gr5 21 rfl rfl, ⟨by decide, by decide, by decide +kernel⟩⟩
set_option maxRecDepth 10000 in
theorem mv_X11_of : Mv yX11_of cX11_of 3 (some .int) 2 := ⟨gr5 12 rfl rfl, gs 44 rfl rfl, gr0 17 rfl rfl, gr5 13 rfl rfl, ⟨by decide, by decide, by decide +kernel⟩⟩
set_option maxRecDepth 10000 in
theorem mv_X11_ticksOf : Mv yX11_ticksOf cX11_ticksOf 3 (some .int) 2 := ⟨gr5 148 rfl rfl, gs 69 rfl rfl, gr0 17 rfl rfl, gr5 149 rfl rfl, ⟨by decide, by decide, by decide +kernel⟩⟩
set_option maxRecDepth 10000 in
theorem mv_X11_come : Mv yX11_come cX11_come 2 (some .int) 1 := ⟨gr5 104 rfl rfl, gs 60 rfl rfl, gr0 17 rfl rfl, gr5 105 rfl rfl, ⟨by decide, by decide, by decide +kernel⟩⟩
set_option maxRecDepth 10000 in
theorem mv_X11_limit : Mv yX11_limit cX11_limit 2 (some .int) 1 := ⟨gr5 100 rfl rfl, gs 59 rfl rfl, gr0 17 rfl rfl, gr5 101 rfl rfl, ⟨by decide, by decide, by decide +kernel⟩⟩
set_option maxRecDepth 10000 in
theorem mv_X11_isDone : Mv yX11_isDone cX11_isDone 3 (some .boolean) 2 := ⟨gr5 140 rfl rfl, gs 67 rfl rfl, gr0 17 rfl rfl, gr5 141 rfl rfl, ⟨by decide, by decide, by decide +kernel⟩⟩
set_option maxRecDepth 10000 in
theorem mv_X11_stand : Mv yX11_stand cX11_stand 2 (some .int) 1 := ⟨gr4 228 rfl rfl, gr4 229 rfl rfl, gr0 17 rfl rfl, gr4 230 rfl rfl, ⟨by decide, by decide, by decide +kernel⟩⟩
set_option maxRecDepth 10000 in
theorem mv_X11_set : Mv yX11_set cX11_set 6 (some .int) 2 := ⟨gr4 235 rfl rfl, gr4 236 rfl rfl, gr0 17 rfl rfl, gr4 237 rfl rfl, ⟨by decide, by decide, by decide +kernel⟩⟩
set_option maxRecDepth 10000 in
theorem mv_X11_visit : Mv yX11_visit cX11_visit 7 (some .int) 4 := ⟨gr4 239 rfl rfl, gr5 0 rfl rfl, gr0 17 rfl rfl, gr5 1 rfl rfl, ⟨by decide, by decide, by decide +kernel⟩⟩
set_option maxRecDepth 10000 in
theorem mv_X11_late : Mv yX11_late cX11_late 4 (some .int) 2 := ⟨gr5 3 rfl rfl, gr5 4 rfl rfl, gr0 17 rfl rfl, gr5 5 rfl rfl, ⟨by decide, by decide, by decide +kernel⟩⟩
set_option maxRecDepth 10000 in
theorem mv_X11_isAhead : Mv yX11_isAhead cX11_isAhead 2 (some .boolean) 1 := ⟨gr5 24 rfl rfl, gs 46 rfl rfl, gr0 17 rfl rfl, gr5 25 rfl rfl, ⟨by decide, by decide, by decide +kernel⟩⟩
set_option maxRecDepth 10000 in
theorem mv_X11_wish : Mv yX11_wish cX11_wish 4 (some .int) 2 := ⟨gr5 15 rfl rfl, gr5 16 rfl rfl, gr0 17 rfl rfl, gr5 17 rfl rfl, ⟨by decide, by decide, by decide +kernel⟩⟩
set_option maxRecDepth 10000 in
theorem mv_X11_feed : Mv yX11_feed cX11_feed 6 (some .int) 4 := ⟨gr5 27 rfl rfl, gr5 28 rfl rfl, gr0 17 rfl rfl, gr5 29 rfl rfl, ⟨by decide, by decide, by decide +kernel⟩⟩
set_option maxRecDepth 10000 in
theorem mv_X11_feedTape : Mv yX11_feedTape cX11_feedTape 5 (some .int) 2 := ⟨gr5 31 rfl rfl, gr5 32 rfl rfl, gr0 17 rfl rfl, gr5 33 rfl rfl, ⟨by decide, by decide, by decide +kernel⟩⟩
set_option maxRecDepth 10000 in
theorem mv_X11_letters : Mv yX11_letters cX11_letters 4 (some .int) 0 := ⟨gr5 45 rfl rfl, gs 48 rfl rfl, gr0 17 rfl rfl, gr5 46 rfl rfl, ⟨by decide, by decide, by decide +kernel⟩⟩
set_option maxRecDepth 10000 in
theorem mv_X11_next : Mv yX11_next cX11_next 4 none 0 := ⟨gr5 41 rfl rfl, gs 47 rfl rfl, gr0 17 rfl rfl, gr5 42 rfl rfl, ⟨by decide, by decide, by decide +kernel⟩⟩
set_option maxRecDepth 10000 in
theorem mv_X11_rank : Msv yX11_rank cX11_rank 1 (some .int) 1 := ⟨gr5 60 rfl rfl, gr0 17 rfl rfl, gr5 61 rfl rfl, ⟨by decide, by decide, by decide +kernel⟩⟩
set_option maxRecDepth 10000 in
theorem mv_X11_puts : Mv yX11_puts cX11_puts 2 none 1 := ⟨gr5 53 rfl rfl, gs 50 rfl rfl, gr0 17 rfl rfl, gr5 54 rfl rfl, ⟨by decide, by decide, by decide +kernel⟩⟩
set_option maxRecDepth 10000 in
theorem mv_X11_unwinds : Mv yX11_unwinds cX11_unwinds 3 none 1 := ⟨gr5 57 rfl rfl, gs 51 rfl rfl, gr0 17 rfl rfl, gr5 58 rfl rfl, ⟨by decide, by decide, by decide +kernel⟩⟩
set_option maxRecDepth 10000 in
theorem mv_X11_holds : Mv yX11_holds cX11_holds 2 none 1 := ⟨gr5 68 rfl rfl, gs 53 rfl rfl, gr0 17 rfl rfl, gr5 69 rfl rfl, ⟨by decide, by decide, by decide +kernel⟩⟩
set_option maxRecDepth 10000 in
theorem mv_X11_opensOne : Mv yX11_opensOne cX11_opensOne 2 (some .boolean) 1 := ⟨gr5 64 rfl rfl, gs 52 rfl rfl, gr0 17 rfl rfl, gr5 65 rfl rfl, ⟨by decide, by decide, by decide +kernel⟩⟩
set_option maxRecDepth 10000 in
theorem mv_X11_between : Mv yX11_between cX11_between 2 (some .boolean) 1 := ⟨gr5 76 rfl rfl, gs 55 rfl rfl, gr0 17 rfl rfl, gr5 77 rfl rfl, ⟨by decide, by decide, by decide +kernel⟩⟩
set_option maxRecDepth 10000 in
theorem mv_X11_signOf : Mv yX11_signOf cX11_signOf 1 (some .int) 0 := ⟨gr5 72 rfl rfl, gs 54 rfl rfl, gr0 17 rfl rfl, gr5 73 rfl rfl, ⟨by decide, by decide, by decide +kernel⟩⟩
set_option maxRecDepth 10000 in
theorem mv_X11_eRead : Mv yX11_eRead cX11_eRead 4 (some .boolean) 0 := ⟨gr5 49 rfl rfl, gs 49 rfl rfl, gr0 17 rfl rfl, gr5 50 rfl rfl, ⟨by decide, by decide, by decide +kernel⟩⟩
set_option maxRecDepth 10000 in
theorem mv_X11_text : Mv yX11_text cX11_text 3 (some .int) 0 := ⟨gr5 36 rfl rfl, gr5 37 rfl rfl, gr0 17 rfl rfl, gr5 38 rfl rfl, ⟨by decide, by decide, by decide +kernel⟩⟩
set_option maxRecDepth 10000 in
theorem mv_X11_force : Mv yX11_force cX11_force 3 (some .int) 1 := ⟨gr5 79 rfl rfl, gr5 80 rfl rfl, gr0 17 rfl rfl, gr5 81 rfl rfl, ⟨by decide, by decide, by decide +kernel⟩⟩
set_option maxRecDepth 10000 in
theorem mv_X11_bagsTo : Mv yX11_bagsTo cX11_bagsTo 4 (some .int) 1 := ⟨gr5 96 rfl rfl, gs 58 rfl rfl, gr0 17 rfl rfl, gr5 97 rfl rfl, ⟨by decide, by decide, by decide +kernel⟩⟩
set_option maxRecDepth 10000 in
theorem mv_X11_named : Mv yX11_named cX11_named 4 (some .int) 3 := ⟨gr5 92 rfl rfl, gs 57 rfl rfl, gr0 17 rfl rfl, gr5 93 rfl rfl, ⟨by decide, by decide, by decide +kernel⟩⟩
set_option maxRecDepth 10000 in
theorem mv_X11_two : Msv yX11_two cX11_two 3 (some .int) 3 := ⟨gr5 107 rfl rfl, gr0 17 rfl rfl, gr5 108 rfl rfl, ⟨by decide, by decide, by decide +kernel⟩⟩
set_option maxRecDepth 10000 in
theorem mv_X11_worth : Mv yX11_worth cX11_worth 7 (some .int) 3 := ⟨gr5 88 rfl rfl, gs 56 rfl rfl, gr0 17 rfl rfl, gr5 89 rfl rfl, ⟨by decide, by decide, by decide +kernel⟩⟩
set_option maxRecDepth 10000 in
theorem mv_X11_atLeast0 : Mv yX11_atLeast0 cX11_atLeast0 5 (some .int) 3 := ⟨gr5 156 rfl rfl, gs 71 rfl rfl, gr0 17 rfl rfl, gr5 157 rfl rfl, ⟨by decide, by decide, by decide +kernel⟩⟩
set_option maxRecDepth 10000 in
theorem mv_X11_tells : Mv yX11_tells cX11_tells 3 (some .long) 2 := ⟨gr5 83 rfl rfl, gr5 84 rfl rfl, gr0 17 rfl rfl, gr5 85 rfl rfl, ⟨by decide, by decide, by decide +kernel⟩⟩
set_option maxRecDepth 10000 in
theorem mv_X11_becomes : Mv yX11_becomes cX11_becomes 3 none 2 := ⟨gr5 124 rfl rfl, gs 63 rfl rfl, gr0 17 rfl rfl, gr5 125 rfl rfl, ⟨by decide, by decide, by decide +kernel⟩⟩
set_option maxRecDepth 10000 in
theorem mv_X11_goesOn : Mv yX11_goesOn cX11_goesOn 5 none 1 := ⟨gr5 120 rfl rfl, gs 62 rfl rfl, gr0 17 rfl rfl, gr5 121 rfl rfl, ⟨by decide, by decide, by decide +kernel⟩⟩
set_option maxRecDepth 10000 in
theorem mv_X11_isDoneNow : Mv yX11_isDoneNow cX11_isDoneNow 5 none 2 := ⟨gr5 132 rfl rfl, gs 65 rfl rfl, gr0 17 rfl rfl, gr5 133 rfl rfl, ⟨by decide, by decide, by decide +kernel⟩⟩
set_option maxRecDepth 10000 in
theorem mv_X11_works : Mv yX11_works cX11_works 4 none 1 := ⟨gr5 128 rfl rfl, gs 64 rfl rfl, gr0 17 rfl rfl, gr5 129 rfl rfl, ⟨by decide, by decide, by decide +kernel⟩⟩
set_option maxRecDepth 10000 in
theorem mv_X11_feedGoes : Mv yX11_feedGoes cX11_feedGoes 3 none 1 := ⟨gr5 136 rfl rfl, gs 66 rfl rfl, gr0 17 rfl rfl, gr5 137 rfl rfl, ⟨by decide, by decide, by decide +kernel⟩⟩
set_option maxRecDepth 10000 in
theorem mv_X11_isFree : Mv yX11_isFree cX11_isFree 2 (some .boolean) 1 := ⟨gr5 160 rfl rfl, gs 72 rfl rfl, gr0 17 rfl rfl, gr5 161 rfl rfl, ⟨by decide, by decide, by decide +kernel⟩⟩
set_option maxRecDepth 10000 in
theorem mv_X11_hindrance : Mv yX11_hindrance cX11_hindrance 4 (some .int) 2 := ⟨gr5 152 rfl rfl, gs 70 rfl rfl, gr0 17 rfl rfl, gr5 153 rfl rfl, ⟨by decide, by decide, by decide +kernel⟩⟩
set_option maxRecDepth 10000 in
theorem mv_X11_begins : Mv yX11_begins cX11_begins 3 none 2 := ⟨gr5 164 rfl rfl, gs 73 rfl rfl, gr0 17 rfl rfl, gr5 165 rfl rfl, ⟨by decide, by decide, by decide +kernel⟩⟩
set_option maxRecDepth 10000 in
theorem mv_X11_serves : Mv yX11_serves cX11_serves 5 none 1 := ⟨gr5 144 rfl rfl, gs 68 rfl rfl, gr0 17 rfl rfl, gr5 145 rfl rfl, ⟨by decide, by decide, by decide +kernel⟩⟩
set_option maxRecDepth 10000 in
theorem mv_X11_needsIce : Mv yX11_needsIce cX11_needsIce 2 (some .boolean) 1 := ⟨gr5 168 rfl rfl, gs 74 rfl rfl, gr0 17 rfl rfl, gr5 169 rfl rfl, ⟨by decide, by decide, by decide +kernel⟩⟩
set_option maxRecDepth 10000 in
theorem mv_X11_standFor : Mv yX11_standFor cX11_standFor 6 (some .int) 1 := ⟨gr5 180 rfl rfl, gs 77 rfl rfl, gr0 17 rfl rfl, gr5 181 rfl rfl, ⟨by decide, by decide, by decide +kernel⟩⟩
set_option maxRecDepth 10000 in
theorem mv_X11_isReady : Mv yX11_isReady cX11_isReady 7 (some .boolean) 2 := ⟨gr5 176 rfl rfl, gs 76 rfl rfl, gr0 17 rfl rfl, gr5 177 rfl rfl, ⟨by decide, by decide, by decide +kernel⟩⟩
set_option maxRecDepth 10000 in
theorem mv_X11_uses : Mv yX11_uses cX11_uses 6 none 1 := ⟨gr5 172 rfl rfl, gs 75 rfl rfl, gr0 17 rfl rfl, gr5 173 rfl rfl, ⟨by decide, by decide, by decide +kernel⟩⟩
set_option maxRecDepth 10000 in
theorem mv_X11_causeOf : Mv yX11_causeOf cX11_causeOf 3 (some .int) 1 := ⟨gr5 184 rfl rfl, gs 78 rfl rfl, gr0 17 rfl rfl, gr5 185 rfl rfl, ⟨by decide, by decide, by decide +kernel⟩⟩
set_option maxRecDepth 10000 in
theorem mv_X11_ticks : Mv yX11_ticks cX11_ticks 2 none 0 := ⟨gr5 116 rfl rfl, gs 61 rfl rfl, gr0 17 rfl rfl, gr5 117 rfl rfl, ⟨by decide, by decide, by decide +kernel⟩⟩
set_option maxRecDepth 10000 in
theorem mv_X11_run : Mv yX11_run cX11_run 3 (some .int) 1 := ⟨gr5 111 rfl rfl, gr5 112 rfl rfl, gr0 17 rfl rfl, gr5 113 rfl rfl, ⟨by decide, by decide, by decide +kernel⟩⟩
set_option maxRecDepth 10000 in
theorem mv_X11_lateOf : Mv yX11_lateOf cX11_lateOf 4 (some .int) 1 := ⟨gr5 192 rfl rfl, gs 79 rfl rfl, gr0 17 rfl rfl, gr5 193 rfl rfl, ⟨by decide, by decide, by decide +kernel⟩⟩
set_option maxRecDepth 10000 in
theorem mv_X11_lateOfAll : Mv yX11_lateOfAll cX11_lateOfAll 3 (some .int) 0 := ⟨gr5 236 rfl rfl, gs 82 rfl rfl, gr0 17 rfl rfl, gr5 237 rfl rfl, ⟨by decide, by decide, by decide +kernel⟩⟩
set_option maxRecDepth 10000 in
theorem mv_X11_missed : Mv yX11_missed cX11_missed 3 (some .int) 0 := ⟨gr6 0 rfl rfl, gs 83 rfl rfl, gr0 17 rfl rfl, gr6 1 rfl rfl, ⟨by decide, by decide, by decide +kernel⟩⟩
set_option maxRecDepth 10000 in
theorem mv_X11_visitTold : Mv yX11_visitTold cX11_visitTold 5 (some .int) 2 := ⟨gr5 187 rfl rfl, gr5 188 rfl rfl, gr0 17 rfl rfl, gr5 189 rfl rfl, ⟨by decide, by decide, by decide +kernel⟩⟩
set_option maxRecDepth 10000 in
theorem mv_X11_cause : Mv yX11_cause cX11_cause 3 (some .int) 2 := ⟨gr5 195 rfl rfl, gr5 196 rfl rfl, gr0 17 rfl rfl, gr5 197 rfl rfl, ⟨by decide, by decide, by decide +kernel⟩⟩
set_option maxRecDepth 10000 in
theorem mv_X11_feedTold : Mv yX11_feedTold cX11_feedTold 4 (some .int) 2 := ⟨gr5 199 rfl rfl, gr5 200 rfl rfl, gr0 17 rfl rfl, gr5 201 rfl rfl, ⟨by decide, by decide, by decide +kernel⟩⟩
set_option maxRecDepth 10000 in
theorem mv_X11_standTold : Mv yX11_standTold cX11_standTold 3 (some .int) 2 := ⟨gr5 203 rfl rfl, gr5 204 rfl rfl, gr0 17 rfl rfl, gr5 205 rfl rfl, ⟨by decide, by decide, by decide +kernel⟩⟩
set_option maxRecDepth 10000 in
theorem mv_X11_runwayTold : Mv yX11_runwayTold cX11_runwayTold 3 (some .int) 2 := ⟨gr5 207 rfl rfl, gr5 208 rfl rfl, gr0 17 rfl rfl, gr5 209 rfl rfl, ⟨by decide, by decide, by decide +kernel⟩⟩
set_option maxRecDepth 10000 in
theorem mv_X11_ticks_ : Mv yX11_ticks_ cX11_ticks_ 3 (some .int) 2 := ⟨gr5 211 rfl rfl, gr5 212 rfl rfl, gr0 17 rfl rfl, gr5 213 rfl rfl, ⟨by decide, by decide, by decide +kernel⟩⟩
set_option maxRecDepth 10000 in
theorem mv_X11_kindTold : Mv yX11_kindTold cX11_kindTold 3 (some .int) 2 := ⟨gr5 215 rfl rfl, gr5 216 rfl rfl, gr0 17 rfl rfl, gr5 217 rfl rfl, ⟨by decide, by decide, by decide +kernel⟩⟩
set_option maxRecDepth 10000 in
theorem mv_X11_trucks : Mv yX11_trucks cX11_trucks 3 (some .int) 2 := ⟨gr5 219 rfl rfl, gr5 220 rfl rfl, gr0 17 rfl rfl, gr5 221 rfl rfl, ⟨by decide, by decide, by decide +kernel⟩⟩
set_option maxRecDepth 10000 in
theorem mv_X11_lays : Mv yX11_lays cX11_lays 3 none 1 := ⟨gr5 228 rfl rfl, gs 80 rfl rfl, gr0 17 rfl rfl, gr5 229 rfl rfl, ⟨by decide, by decide, by decide +kernel⟩⟩
set_option maxRecDepth 10000 in
theorem mv_X11_outcome : Mv yX11_outcome cX11_outcome 4 (some .int) 1 := ⟨gr5 232 rfl rfl, gs 81 rfl rfl, gr0 17 rfl rfl, gr5 233 rfl rfl, ⟨by decide, by decide, by decide +kernel⟩⟩
set_option maxRecDepth 10000 in
theorem mv_X11_beside : Mv yX11_beside cX11_beside 4 (some .int) 2 := ⟨gr5 223 rfl rfl, gr5 224 rfl rfl, gr0 17 rfl rfl, gr5 225 rfl rfl, ⟨by decide, by decide, by decide +kernel⟩⟩
set_option maxRecDepth 10000 in
theorem mv_X11_maySit : Mv yX11_maySit cX11_maySit 3 (some .boolean) 2 := ⟨gr6 8 rfl rfl, gs 84 rfl rfl, gr0 17 rfl rfl, gr6 9 rfl rfl, ⟨by decide, by decide, by decide +kernel⟩⟩
set_option maxRecDepth 10000 in
theorem mv_X11_plan : Mv yX11_plan cX11_plan 13 (some .int) 2 := ⟨gr6 3 rfl rfl, gr6 4 rfl rfl, gr0 17 rfl rfl, gr6 5 rfl rfl, ⟨by decide, by decide, by decide +kernel⟩⟩
set_option maxRecDepth 10000 in
theorem mv_X11_planned : Mv yX11_planned cX11_planned 2 (some .int) 1 := ⟨gr6 11 rfl rfl, gr6 12 rfl rfl, gr0 17 rfl rfl, gr6 13 rfl rfl, ⟨by decide, by decide, by decide +kernel⟩⟩
set_option maxRecDepth 10000 in
theorem mv_X11_settle : Mv yX11_settle cX11_settle 3 (some .int) 0 := ⟨gr6 15 rfl rfl, gr6 16 rfl rfl, gr0 17 rfl rfl, gr6 17 rfl rfl, ⟨by decide, by decide, by decide +kernel⟩⟩
set_option maxRecDepth 10000 in
theorem mv_X11_estimate : Mv yX11_estimate cX11_estimate 3 (some .int) 2 := ⟨gr6 19 rfl rfl, gr6 20 rfl rfl, gr0 17 rfl rfl, gr6 21 rfl rfl, ⟨by decide, by decide, by decide +kernel⟩⟩
set_option maxRecDepth 10000 in
theorem mv_X11_there : Mv yX11_there cX11_there 5 (some .int) 2 := ⟨gr6 28 rfl rfl, gs 85 rfl rfl, gr0 17 rfl rfl, gr6 29 rfl rfl, ⟨by decide, by decide, by decide +kernel⟩⟩
set_option maxRecDepth 10000 in
theorem mv_X11_toUnload : Mv yX11_toUnload cX11_toUnload 2 (some .int) 1 := ⟨gr6 36 rfl rfl, gs 87 rfl rfl, gr0 17 rfl rfl, gr6 37 rfl rfl, ⟨by decide, by decide, by decide +kernel⟩⟩
set_option maxRecDepth 10000 in
theorem mv_X11_toLoad : Mv yX11_toLoad cX11_toLoad 4 (some .int) 1 := ⟨gr6 32 rfl rfl, gs 86 rfl rfl, gr0 17 rfl rfl, gr6 33 rfl rfl, ⟨by decide, by decide, by decide +kernel⟩⟩
set_option maxRecDepth 10000 in
theorem mv_X11_expects : Mv yX11_expects cX11_expects 4 (some .int) 2 := ⟨gr6 23 rfl rfl, gr6 24 rfl rfl, gr0 17 rfl rfl, gr6 25 rfl rfl, ⟨by decide, by decide, by decide +kernel⟩⟩
set_option maxRecDepth 10000 in
theorem mv_X11_misses : Mv yX11_misses cX11_misses 9 (some .int) 2 := ⟨gr6 39 rfl rfl, gr6 40 rfl rfl, gr0 17 rfl rfl, gr6 41 rfl rfl, ⟨by decide, by decide, by decide +kernel⟩⟩
set_option maxRecDepth 10000 in
theorem mv_X11_count : Mv yX11_count cX11_count 2 (some .int) 1 := ⟨gr6 43 rfl rfl, gr6 44 rfl rfl, gr0 17 rfl rfl, gr6 45 rfl rfl, ⟨by decide, by decide, by decide +kernel⟩⟩
set_option maxRecDepth 10000 in
theorem mv_X11_sheet : Mv yX11_sheet cX11_sheet 5 (some .int) 3 := ⟨gr6 47 rfl rfl, gr6 48 rfl rfl, gr0 17 rfl rfl, gr6 49 rfl rfl, ⟨by decide, by decide, by decide +kernel⟩⟩
set_option maxRecDepth 10000 in
theorem mv_X11_cell : Mv yX11_cell cX11_cell 4 (some .int) 3 := ⟨gr6 51 rfl rfl, gr6 52 rfl rfl, gr0 17 rfl rfl, gr6 53 rfl rfl, ⟨by decide, by decide, by decide +kernel⟩⟩
set_option maxRecDepth 10000 in
theorem mv_X11_copy : Mv yX11_copy cX11_copy 10 (some .int) 5 := ⟨gr6 55 rfl rfl, gr6 56 rfl rfl, gr0 17 rfl rfl, gr6 57 rfl rfl, ⟨by decide, by decide, by decide +kernel⟩⟩
set_option maxRecDepth 10000 in
theorem mv_X11_visits : Mv yX11_visits cX11_visits 9 (some .int) 4 := ⟨gr6 59 rfl rfl, gr6 60 rfl rfl, gr0 17 rfl rfl, gr6 61 rfl rfl, ⟨by decide, by decide, by decide +kernel⟩⟩
set_option maxRecDepth 10000 in
theorem mv_X11_isUnder : Msv yX11_isUnder cX11_isUnder 2 (some .boolean) 2 := ⟨gr6 68 rfl rfl, gr0 17 rfl rfl, gr6 69 rfl rfl, ⟨by decide, by decide, by decide +kernel⟩⟩
set_option maxRecDepth 10000 in
theorem mv_X11_taken : Mv yX11_taken cX11_taken 3 (some .int) 2 := ⟨gr6 64 rfl rfl, gr6 65 rfl rfl, gr0 17 rfl rfl, gr6 66 rfl rfl, ⟨by decide, by decide, by decide +kernel⟩⟩
set_option maxRecDepth 10000 in
theorem mv_X100_length : Mv yX100_length cX100_length 1 (some .int) 0 := ⟨gr0 87 rfl rfl, gr0 88 rfl rfl, gr0 5 rfl rfl, gr0 89 rfl rfl, ⟨by decide, by decide, by decide +kernel⟩⟩
set_option maxRecDepth 10000 in
theorem mv_X100_coder : Mv yX100_coder cX100_coder 1 (some .byte) 0 := ⟨gr0 91 rfl rfl, gr0 92 rfl rfl, gr0 5 rfl rfl, gr0 93 rfl rfl, ⟨by decide, by decide, by decide +kernel⟩⟩
set_option maxRecDepth 10000 in
theorem mv_X100_charAt : Mv yX100_charAt cX100_charAt 2 (some .char) 1 := ⟨gr0 97 rfl rfl, gr0 98 rfl rfl, gr0 5 rfl rfl, gr0 99 rfl rfl, ⟨by decide, by decide, by decide +kernel⟩⟩
set_option maxRecDepth 10000 in
theorem mv_X100_isLatin1 : Mv yX100_isLatin1 cX100_isLatin1 1 (some .boolean) 0 := ⟨gr0 101 rfl rfl, gr0 102 rfl rfl, gr0 5 rfl rfl, gr0 103 rfl rfl, ⟨by decide, by decide, by decide +kernel⟩⟩
set_option maxRecDepth 10000 in
theorem mv_X100_checkIndex : Msv yX100_checkIndex cX100_checkIndex 2 none 2 := ⟨gr0 108 rfl rfl, gr0 5 rfl rfl, gr0 109 rfl rfl, ⟨by decide, by decide, by decide +kernel⟩⟩
set_option maxRecDepth 10000 in
theorem mv_X100_indexOf : Mv yX100_indexOf cX100_indexOf 2 (some .int) 1 := ⟨gr0 175 rfl rfl, gr0 176 rfl rfl, gr0 5 rfl rfl, gr0 177 rfl rfl, ⟨by decide, by decide, by decide +kernel⟩⟩
set_option maxRecDepth 10000 in
theorem mv_X100_indexOf2 : Mv yX100_indexOf2 cX100_indexOf2 3 (some .int) 2 := ⟨gr0 179 rfl rfl, gr0 180 rfl rfl, gr0 5 rfl rfl, gr0 181 rfl rfl, ⟨by decide, by decide, by decide +kernel⟩⟩
set_option maxRecDepth 10000 in
theorem mv_X101_charAt : Msv yX101_charAt cX101_charAt 2 (some .char) 2 := ⟨gr0 105 rfl rfl, gr0 6 rfl rfl, gr0 106 rfl rfl, ⟨by decide, by decide, by decide +kernel⟩⟩
set_option maxRecDepth 10000 in
theorem mv_X101_indexOf : Msv yX101_indexOf cX101_indexOf 4 (some .int) 4 := ⟨gr0 184 rfl rfl, gr0 6 rfl rfl, gr0 185 rfl rfl, ⟨by decide, by decide, by decide +kernel⟩⟩
set_option maxRecDepth 10000 in
theorem mv_X101_canEncode : Msv yX101_canEncode cX101_canEncode 1 (some .boolean) 1 := ⟨gr0 187 rfl rfl, gr0 6 rfl rfl, gr0 188 rfl rfl, ⟨by decide, by decide, by decide +kernel⟩⟩
set_option maxRecDepth 10000 in
theorem mv_X101_indexOfChar : Msv yX101_indexOfChar cX101_indexOfChar 6 (some .int) 4 := ⟨gr0 196 rfl rfl, gr0 6 rfl rfl, gr0 197 rfl rfl, ⟨by decide, by decide, by decide +kernel⟩⟩
set_option maxRecDepth 10000 in
theorem mv_X102_checkIndex : Msv yX102_checkIndex cX102_checkIndex 3 (some .int) 3 := ⟨gr0 113 rfl rfl, gr0 7 rfl rfl, gr0 114 rfl rfl, ⟨by decide, by decide, by decide +kernel⟩⟩
set_option maxRecDepth 10000 in
theorem mv_X103_bitCount : Msv yX103_bitCount cX103_bitCount 1 (some .int) 1 := ⟨gr3 172 rfl rfl, gr0 20 rfl rfl, gr3 173 rfl rfl, ⟨by decide, by decide, by decide +kernel⟩⟩

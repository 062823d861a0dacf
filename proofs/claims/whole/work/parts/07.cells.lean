theorem kd1 : ss_K 1 = 20 := by decide +kernel
theorem kd2 : ss_K 2 = 20 := by decide +kernel
theorem kd64 : ss_K 64 = 11 := by decide +kernel
theorem kd65 : ss_K 65 = 7 := by decide +kernel
theorem kd66 : ss_K 66 = 20 := by decide +kernel
theorem kd67 : ss_K 67 = 20 := by decide +kernel
theorem kd68 : ss_K 68 = 20 := by decide +kernel
theorem kd69 : ss_K 69 = 26 := by decide +kernel
theorem kd70 : ss_K 70 = 20 := by decide +kernel
theorem kd71 : ss_K 71 = 20 := by decide +kernel
theorem kd72 : ss_K 72 = 20 := by decide +kernel
theorem kd73 : ss_K 73 = 20 := by decide +kernel
theorem kd74 : ss_K 74 = 20 := by decide +kernel
theorem kd75 : ss_K 75 = 20 := by decide +kernel
theorem kd76 : ss_K 76 = 20 := by decide +kernel
theorem kd77 : ss_K 77 = 3 := by decide +kernel
theorem kd78 : ss_K 78 = 22 := by decide +kernel
theorem kd79 : ss_K 79 = 20 := by decide +kernel
theorem kd80 : ss_K 80 = 20 := by decide +kernel
theorem kd81 : ss_K 81 = 4 := by decide +kernel
theorem kd82 : ss_K 82 = 25 := by decide +kernel
theorem kd83 : ss_K 83 = 25 := by decide +kernel
theorem kd84 : ss_K 84 = 20 := by decide +kernel
theorem kd85 : ss_K 85 = 2 := by decide +kernel
theorem kd86 : ss_K 86 = 20 := by decide +kernel
theorem kd87 : ss_K 87 = 20 := by decide +kernel
theorem kd88 : ss_K 88 = 6 := by decide +kernel
theorem kd89 : ss_K 89 = 24 := by decide +kernel
theorem kd90 : ss_K 90 = 20 := by decide +kernel
theorem kd151 : ss_K 151 = 9 := by decide +kernel
theorem kd152 : ss_K 152 = 20 := by decide +kernel
theorem kd153 : ss_K 153 = 20 := by decide +kernel
theorem kd154 : ss_K 154 = 20 := by decide +kernel
theorem kd155 : ss_K 155 = 20 := by decide +kernel
theorem kd156 : ss_K 156 = 20 := by decide +kernel
theorem kd157 : ss_K 157 = 20 := by decide +kernel
theorem kd158 : ss_K 158 = 20 := by decide +kernel
theorem kd159 : ss_K 159 = 1 := by decide +kernel
theorem kd160 : ss_K 160 = 20 := by decide +kernel
theorem kd161 : ss_K 161 = 20 := by decide +kernel
theorem kd162 : ss_K 162 = 20 := by decide +kernel
theorem kd163 : ss_K 163 = 10 := by decide +kernel
theorem kd164 : ss_K 164 = 20 := by decide +kernel
theorem kd165 : ss_K 165 = 20 := by decide +kernel
theorem kd166 : ss_K 166 = 20 := by decide +kernel
theorem kd167 : ss_K 167 = 20 := by decide +kernel
theorem kd168 : ss_K 168 = 20 := by decide +kernel
theorem kd169 : ss_K 169 = 20 := by decide +kernel
theorem kd170 : ss_K 170 = 20 := by decide +kernel
theorem kd171 : ss_K 171 = 20 := by decide +kernel
theorem kd172 : ss_K 172 = 20 := by decide +kernel
theorem kd173 : ss_K 173 = 20 := by decide +kernel
theorem kd174 : ss_K 174 = 20 := by decide +kernel
theorem kd175 : ss_K 175 = 0 := by decide +kernel
theorem kd176 : ss_K 176 = 20 := by decide +kernel
theorem kd177 : ss_K 177 = 8 := by decide +kernel
theorem kd178 : ss_K 178 = 20 := by decide +kernel
theorem kd179 : ss_K 179 = 20 := by decide +kernel
theorem kd180 : ss_K 180 = 27 := by decide +kernel
theorem kd181 : ss_K 181 = 21 := by decide +kernel
theorem kd182 : ss_K 182 = 21 := by decide +kernel
theorem kd183 : ss_K 183 = 21 := by decide +kernel
theorem kd184 : ss_K 184 = 21 := by decide +kernel
theorem kd185 : ss_K 185 = 21 := by decide +kernel
theorem kd186 : ss_K 186 = 21 := by decide +kernel
theorem kd187 : ss_K 187 = 12 := by decide +kernel
theorem kd188 : ss_K 188 = 20 := by decide +kernel
theorem kd189 : ss_K 189 = 20 := by decide +kernel
theorem kd190 : ss_K 190 = 20 := by decide +kernel
theorem kd191 : ss_K 191 = 20 := by decide +kernel
theorem kd192 : ss_K 192 = 20 := by decide +kernel
theorem kd193 : ss_K 193 = 20 := by decide +kernel
theorem kd194 : ss_K 194 = 20 := by decide +kernel
theorem kd195 : ss_K 195 = 20 := by decide +kernel
theorem kd196 : ss_K 196 = 20 := by decide +kernel
theorem kd197 : ss_K 197 = 20 := by decide +kernel
theorem kd198 : ss_K 198 = 20 := by decide +kernel
theorem kd199 : ss_K 199 = 20 := by decide +kernel
theorem kd200 : ss_K 200 = 20 := by decide +kernel
theorem kd201 : ss_K 201 = 20 := by decide +kernel
theorem kd202 : ss_K 202 = 20 := by decide +kernel
theorem kd203 : ss_K 203 = 20 := by decide +kernel
theorem kd204 : ss_K 204 = 23 := by decide +kernel
theorem kd205 : ss_K 205 = 20 := by decide +kernel
theorem kd206 : ss_K 206 = 20 := by decide +kernel
theorem kd207 : ss_K 207 = 20 := by decide +kernel
theorem kd208 : ss_K 208 = 20 := by decide +kernel
theorem kd209 : ss_K 209 = 20 := by decide +kernel
theorem kd210 : ss_K 210 = 20 := by decide +kernel
theorem kd211 : ss_K 211 = 20 := by decide +kernel
theorem kd212 : ss_K 212 = 20 := by decide +kernel
theorem kd213 : ss_K 213 = 20 := by decide +kernel
theorem kd214 : ss_K 214 = 20 := by decide +kernel
theorem kd215 : ss_K 215 = 20 := by decide +kernel
theorem kd216 : ss_K 216 = 20 := by decide +kernel
theorem kd217 : ss_K 217 = 20 := by decide +kernel
theorem kd218 : ss_K 218 = 20 := by decide +kernel
theorem kd219 : ss_K 219 = 20 := by decide +kernel
theorem kd220 : ss_K 220 = 20 := by decide +kernel
theorem kd221 : ss_K 221 = 20 := by decide +kernel
theorem kd222 : ss_K 222 = 20 := by decide +kernel
theorem kd223 : ss_K 223 = 20 := by decide +kernel
theorem kd224 : ss_K 224 = 20 := by decide +kernel
theorem kd225 : ss_K 225 = 20 := by decide +kernel
theorem kd226 : ss_K 226 = 20 := by decide +kernel
theorem kd227 : ss_K 227 = 20 := by decide +kernel
theorem kd228 : ss_K 228 = 20 := by decide +kernel
theorem kd229 : ss_K 229 = 20 := by decide +kernel
theorem kd230 : ss_K 230 = 20 := by decide +kernel
theorem kd231 : ss_K 231 = 20 := by decide +kernel
theorem kd232 : ss_K 232 = 20 := by decide +kernel
theorem kd233 : ss_K 233 = 20 := by decide +kernel
theorem kd234 : ss_K 234 = 20 := by decide +kernel
theorem kd235 : ss_K 235 = 20 := by decide +kernel
theorem kd236 : ss_K 236 = 20 := by decide +kernel
theorem kd237 : ss_K 237 = 20 := by decide +kernel
theorem kd238 : ss_K 238 = 20 := by decide +kernel
theorem kd239 : ss_K 239 = 20 := by decide +kernel
theorem kd240 : ss_K 240 = 20 := by decide +kernel
theorem kd241 : ss_K 241 = 21 := by decide +kernel
theorem kd242 : ss_K 242 = 21 := by decide +kernel
theorem lr_64_0 (E : sv_E) (s : sv_S) : sv_fv E (ss_e s) 64 (tyX11 0) 0 = sv_r E 65 := rfl
theorem lr_64_1 (E : sv_E) (s : sv_S) : sv_fv E (ss_e s) 64 (tyX11 1) 1 = sv_r E 77 := rfl
theorem lr_64_2 (E : sv_E) (s : sv_S) : sv_fv E (ss_e s) 64 (tyX11 2) 2 = sv_r E 81 := rfl
theorem lr_64_3 (E : sv_E) (s : sv_S) : sv_fv E (ss_e s) 64 (tyX11 3) 3 = sv_r E 88 := rfl
theorem lr_64_4 (E : sv_E) (s : sv_S) : sv_fv E (ss_e s) 64 (tyX11 4) 4 = sv_r E 151 := rfl
theorem lr_64_5 (E : sv_E) (s : sv_S) : sv_fv E (ss_e s) 64 (tyX11 5) 5 = sv_r E 159 := rfl
theorem lr_64_6 (E : sv_E) (s : sv_S) : sv_fv E (ss_e s) 64 (tyX11 6) 6 = sv_r E 163 := rfl
theorem lr_64_7 (E : sv_E) (s : sv_S) : sv_fv E (ss_e s) 64 (tyX11 7) 7 = sv_r E 175 := rfl
theorem lr_64_8 (E : sv_E) (s : sv_S) : sv_fv E (ss_e s) 64 (tyX11 8) 8 = sv_r E 177 := rfl
theorem lr_65_0 (E : sv_E) (s : sv_S) : sv_fv E (ss_e s) 65 (tyX7 0) 0 = sv_r E 66 := rfl
theorem lr_65_1 (E : sv_E) (s : sv_S) : sv_fv E (ss_e s) 65 (tyX7 1) 1 = sv_r E 67 := rfl
theorem lr_65_2 (E : sv_E) (s : sv_S) : sv_fv E (ss_e s) 65 (tyX7 2) 2 = sv_r E 68 := rfl
theorem lr_65_3 (E : sv_E) (s : sv_S) : sv_fv E (ss_e s) 65 (tyX7 3) 3 = sv_r E 69 := rfl
theorem lr_77_0 (E : sv_E) (s : sv_S) : sv_fv E (ss_e s) 77 (tyX3 0) 0 = sv_r E 78 := rfl
theorem lr_77_1 (E : sv_E) (s : sv_S) : sv_fv E (ss_e s) 77 (tyX3 1) 1 = sv_r E 79 := rfl
theorem lr_77_2 (E : sv_E) (s : sv_S) : sv_fv E (ss_e s) 77 (tyX3 2) 2 = sv_r E 80 := rfl
theorem lr_81_0 (E : sv_E) (s : sv_S) : sv_fv E (ss_e s) 81 (tyX4 0) 0 = sv_r E 82 := rfl
theorem lr_81_1 (E : sv_E) (s : sv_S) : sv_fv E (ss_e s) 81 (tyX4 1) 1 = sv_r E 83 := rfl
theorem lr_81_2 (E : sv_E) (s : sv_S) : sv_fv E (ss_e s) 81 (tyX4 2) 2 = sv_r E 85 := rfl
theorem lr_85_3 (E : sv_E) (s : sv_S) : sv_fv E (ss_e s) 85 (tyX2 3) 3 = sv_r E 84 := rfl
theorem lr_85_4 (E : sv_E) (s : sv_S) : sv_fv E (ss_e s) 85 (tyX2 4) 4 = sv_r E 86 := rfl
theorem lr_85_5 (E : sv_E) (s : sv_S) : sv_fv E (ss_e s) 85 (tyX2 5) 5 = sv_r E 87 := rfl
theorem lr_88_0 (E : sv_E) (s : sv_S) : sv_fv E (ss_e s) 88 (tyX6 0) 0 = sv_r E 65 := rfl
theorem lr_88_1 (E : sv_E) (s : sv_S) : sv_fv E (ss_e s) 88 (tyX6 1) 1 = sv_r E 81 := rfl
theorem lr_88_2 (E : sv_E) (s : sv_S) : sv_fv E (ss_e s) 88 (tyX6 2) 2 = sv_r E 89 := rfl
theorem lr_88_3 (E : sv_E) (s : sv_S) : sv_fv E (ss_e s) 88 (tyX6 3) 3 = sv_r E 90 := rfl
theorem lr_151_0 (E : sv_E) (s : sv_S) : sv_fv E (ss_e s) 151 (tyX9 0) 0 = sv_r E 88 := rfl
theorem lr_151_1 (E : sv_E) (s : sv_S) : sv_fv E (ss_e s) 151 (tyX9 1) 1 = sv_r E 81 := rfl
theorem lr_151_2 (E : sv_E) (s : sv_S) : sv_fv E (ss_e s) 151 (tyX9 2) 2 = sv_r E 152 := rfl
theorem lr_151_3 (E : sv_E) (s : sv_S) : sv_fv E (ss_e s) 151 (tyX9 3) 3 = sv_r E 153 := rfl
theorem lr_151_4 (E : sv_E) (s : sv_S) : sv_fv E (ss_e s) 151 (tyX9 4) 4 = sv_r E 154 := rfl
theorem lr_151_5 (E : sv_E) (s : sv_S) : sv_fv E (ss_e s) 151 (tyX9 5) 5 = sv_r E 155 := rfl
theorem lr_151_6 (E : sv_E) (s : sv_S) : sv_fv E (ss_e s) 151 (tyX9 6) 6 = sv_r E 156 := rfl
theorem lr_151_7 (E : sv_E) (s : sv_S) : sv_fv E (ss_e s) 151 (tyX9 7) 7 = sv_r E 157 := rfl
theorem lr_151_8 (E : sv_E) (s : sv_S) : sv_fv E (ss_e s) 151 (tyX9 8) 8 = sv_r E 158 := rfl
theorem lr_159_0 (E : sv_E) (s : sv_S) : sv_fv E (ss_e s) 159 (tyX1 0) 0 = sv_r E 88 := rfl
theorem lr_159_1 (E : sv_E) (s : sv_S) : sv_fv E (ss_e s) 159 (tyX1 1) 1 = sv_r E 160 := rfl
theorem lr_159_2 (E : sv_E) (s : sv_S) : sv_fv E (ss_e s) 159 (tyX1 2) 2 = sv_r E 161 := rfl
theorem lr_159_3 (E : sv_E) (s : sv_S) : sv_fv E (ss_e s) 159 (tyX1 3) 3 = sv_r E 162 := rfl
theorem lr_163_0 (E : sv_E) (s : sv_S) : sv_fv E (ss_e s) 163 (tyX10 0) 0 = sv_r E 88 := rfl
theorem lr_163_1 (E : sv_E) (s : sv_S) : sv_fv E (ss_e s) 163 (tyX10 1) 1 = sv_r E 159 := rfl
theorem lr_163_2 (E : sv_E) (s : sv_S) : sv_fv E (ss_e s) 163 (tyX10 2) 2 = sv_r E 164 := rfl
theorem lr_163_3 (E : sv_E) (s : sv_S) : sv_fv E (ss_e s) 163 (tyX10 3) 3 = sv_r E 165 := rfl
theorem lr_163_4 (E : sv_E) (s : sv_S) : sv_fv E (ss_e s) 163 (tyX10 4) 4 = sv_r E 166 := rfl
theorem lr_163_5 (E : sv_E) (s : sv_S) : sv_fv E (ss_e s) 163 (tyX10 5) 5 = sv_r E 167 := rfl
theorem lr_163_6 (E : sv_E) (s : sv_S) : sv_fv E (ss_e s) 163 (tyX10 6) 6 = sv_r E 168 := rfl
theorem lr_163_7 (E : sv_E) (s : sv_S) : sv_fv E (ss_e s) 163 (tyX10 7) 7 = sv_r E 169 := rfl
theorem lr_163_8 (E : sv_E) (s : sv_S) : sv_fv E (ss_e s) 163 (tyX10 8) 8 = sv_r E 170 := rfl
theorem lr_163_9 (E : sv_E) (s : sv_S) : sv_fv E (ss_e s) 163 (tyX10 9) 9 = sv_r E 171 := rfl
theorem lr_163_10 (E : sv_E) (s : sv_S) : sv_fv E (ss_e s) 163 (tyX10 10) 10 = sv_r E 172 := rfl
theorem lr_163_11 (E : sv_E) (s : sv_S) : sv_fv E (ss_e s) 163 (tyX10 11) 11 = sv_r E 173 := rfl
theorem lr_163_12 (E : sv_E) (s : sv_S) : sv_fv E (ss_e s) 163 (tyX10 12) 12 = sv_r E 174 := rfl
theorem lr_175_0 (E : sv_E) (s : sv_S) : sv_fv E (ss_e s) 175 (tyX0 0) 0 = sv_r E 176 := rfl
theorem lr_177_0 (E : sv_E) (s : sv_S) : sv_fv E (ss_e s) 177 (tyX8 0) 0 = sv_r E 178 := rfl
theorem lr_177_1 (E : sv_E) (s : sv_S) : sv_fv E (ss_e s) 177 (tyX8 1) 1 = sv_r E 179 := rfl
theorem lr_177_2 (E : sv_E) (s : sv_S) : sv_fv E (ss_e s) 177 (tyX8 2) 2 = sv_r E 180 := rfl
theorem lr_187_2 (E : sv_E) (s : sv_S) : sv_fv E (ss_e s) 187 (tyX12 2) 2 = sv_r E 188 := rfl
theorem lr_187_3 (E : sv_E) (s : sv_S) : sv_fv E (ss_e s) 187 (tyX12 3) 3 = sv_r E 189 := rfl
theorem lr_187_4 (E : sv_E) (s : sv_S) : sv_fv E (ss_e s) 187 (tyX12 4) 4 = sv_r E 190 := rfl
theorem lr_187_5 (E : sv_E) (s : sv_S) : sv_fv E (ss_e s) 187 (tyX12 5) 5 = sv_r E 191 := rfl
theorem lr_187_6 (E : sv_E) (s : sv_S) : sv_fv E (ss_e s) 187 (tyX12 6) 6 = sv_r E 192 := rfl
theorem lr_187_7 (E : sv_E) (s : sv_S) : sv_fv E (ss_e s) 187 (tyX12 7) 7 = sv_r E 193 := rfl
theorem lr_187_8 (E : sv_E) (s : sv_S) : sv_fv E (ss_e s) 187 (tyX12 8) 8 = sv_r E 194 := rfl
theorem lr_187_12 (E : sv_E) (s : sv_S) : sv_fv E (ss_e s) 187 (tyX12 12) 12 = sv_r E 195 := rfl
theorem lr_187_13 (E : sv_E) (s : sv_S) : sv_fv E (ss_e s) 187 (tyX12 13) 13 = sv_r E 196 := rfl
theorem lr_187_14 (E : sv_E) (s : sv_S) : sv_fv E (ss_e s) 187 (tyX12 14) 14 = sv_r E 197 := rfl
theorem lr_187_15 (E : sv_E) (s : sv_S) : sv_fv E (ss_e s) 187 (tyX12 15) 15 = sv_r E 198 := rfl
theorem lr_187_16 (E : sv_E) (s : sv_S) : sv_fv E (ss_e s) 187 (tyX12 16) 16 = sv_r E 199 := rfl
theorem lr_187_17 (E : sv_E) (s : sv_S) : sv_fv E (ss_e s) 187 (tyX12 17) 17 = sv_r E 200 := rfl
theorem lr_187_18 (E : sv_E) (s : sv_S) : sv_fv E (ss_e s) 187 (tyX12 18) 18 = sv_r E 201 := rfl
theorem lr_187_22 (E : sv_E) (s : sv_S) : sv_fv E (ss_e s) 187 (tyX12 22) 22 = sv_r E 202 := rfl
theorem lr_187_27 (E : sv_E) (s : sv_S) : sv_fv E (ss_e s) 187 (tyX12 27) 27 = sv_r E 203 := rfl
theorem lr_187_28 (E : sv_E) (s : sv_S) : sv_fv E (ss_e s) 187 (tyX12 28) 28 = sv_r E 204 := rfl
theorem lr_187_33 (E : sv_E) (s : sv_S) : sv_fv E (ss_e s) 187 (tyX12 33) 33 = sv_r E 205 := rfl
theorem lr_187_34 (E : sv_E) (s : sv_S) : sv_fv E (ss_e s) 187 (tyX12 34) 34 = sv_r E 206 := rfl
theorem lr_187_35 (E : sv_E) (s : sv_S) : sv_fv E (ss_e s) 187 (tyX12 35) 35 = sv_r E 207 := rfl
theorem lr_187_36 (E : sv_E) (s : sv_S) : sv_fv E (ss_e s) 187 (tyX12 36) 36 = sv_r E 208 := rfl
theorem lr_187_37 (E : sv_E) (s : sv_S) : sv_fv E (ss_e s) 187 (tyX12 37) 37 = sv_r E 209 := rfl
theorem lr_187_38 (E : sv_E) (s : sv_S) : sv_fv E (ss_e s) 187 (tyX12 38) 38 = sv_r E 210 := rfl
theorem lr_187_39 (E : sv_E) (s : sv_S) : sv_fv E (ss_e s) 187 (tyX12 39) 39 = sv_r E 211 := rfl
theorem lr_187_40 (E : sv_E) (s : sv_S) : sv_fv E (ss_e s) 187 (tyX12 40) 40 = sv_r E 212 := rfl
theorem lr_187_41 (E : sv_E) (s : sv_S) : sv_fv E (ss_e s) 187 (tyX12 41) 41 = sv_r E 213 := rfl
theorem lr_187_42 (E : sv_E) (s : sv_S) : sv_fv E (ss_e s) 187 (tyX12 42) 42 = sv_r E 214 := rfl
theorem lr_187_43 (E : sv_E) (s : sv_S) : sv_fv E (ss_e s) 187 (tyX12 43) 43 = sv_r E 215 := rfl
theorem lr_187_44 (E : sv_E) (s : sv_S) : sv_fv E (ss_e s) 187 (tyX12 44) 44 = sv_r E 216 := rfl
theorem lr_187_45 (E : sv_E) (s : sv_S) : sv_fv E (ss_e s) 187 (tyX12 45) 45 = sv_r E 217 := rfl
theorem lr_187_46 (E : sv_E) (s : sv_S) : sv_fv E (ss_e s) 187 (tyX12 46) 46 = sv_r E 218 := rfl
theorem lr_187_47 (E : sv_E) (s : sv_S) : sv_fv E (ss_e s) 187 (tyX12 47) 47 = sv_r E 219 := rfl
theorem lr_187_48 (E : sv_E) (s : sv_S) : sv_fv E (ss_e s) 187 (tyX12 48) 48 = sv_r E 220 := rfl
theorem lr_187_49 (E : sv_E) (s : sv_S) : sv_fv E (ss_e s) 187 (tyX12 49) 49 = sv_r E 221 := rfl
theorem lr_187_52 (E : sv_E) (s : sv_S) : sv_fv E (ss_e s) 187 (tyX12 52) 52 = sv_r E 222 := rfl
theorem lr_187_53 (E : sv_E) (s : sv_S) : sv_fv E (ss_e s) 187 (tyX12 53) 53 = sv_r E 223 := rfl
theorem lr_187_54 (E : sv_E) (s : sv_S) : sv_fv E (ss_e s) 187 (tyX12 54) 54 = sv_r E 224 := rfl
theorem lr_187_55 (E : sv_E) (s : sv_S) : sv_fv E (ss_e s) 187 (tyX12 55) 55 = sv_r E 225 := rfl
theorem lr_187_56 (E : sv_E) (s : sv_S) : sv_fv E (ss_e s) 187 (tyX12 56) 56 = sv_r E 226 := rfl
theorem lr_187_57 (E : sv_E) (s : sv_S) : sv_fv E (ss_e s) 187 (tyX12 57) 57 = sv_r E 227 := rfl
theorem lr_187_58 (E : sv_E) (s : sv_S) : sv_fv E (ss_e s) 187 (tyX12 58) 58 = sv_r E 228 := rfl
theorem lr_187_62 (E : sv_E) (s : sv_S) : sv_fv E (ss_e s) 187 (tyX12 62) 62 = sv_r E 229 := rfl
theorem lr_187_64 (E : sv_E) (s : sv_S) : sv_fv E (ss_e s) 187 (tyX12 64) 64 = sv_r E 230 := rfl
theorem lr_187_65 (E : sv_E) (s : sv_S) : sv_fv E (ss_e s) 187 (tyX12 65) 65 = sv_r E 231 := rfl
theorem lr_187_66 (E : sv_E) (s : sv_S) : sv_fv E (ss_e s) 187 (tyX12 66) 66 = sv_r E 232 := rfl
theorem lr_187_67 (E : sv_E) (s : sv_S) : sv_fv E (ss_e s) 187 (tyX12 67) 67 = sv_r E 233 := rfl
theorem lr_187_68 (E : sv_E) (s : sv_S) : sv_fv E (ss_e s) 187 (tyX12 68) 68 = sv_r E 234 := rfl
theorem lr_187_70 (E : sv_E) (s : sv_S) : sv_fv E (ss_e s) 187 (tyX12 70) 70 = sv_r E 235 := rfl
theorem lr_187_71 (E : sv_E) (s : sv_S) : sv_fv E (ss_e s) 187 (tyX12 71) 71 = sv_r E 236 := rfl
theorem lr_187_72 (E : sv_E) (s : sv_S) : sv_fv E (ss_e s) 187 (tyX12 72) 72 = sv_r E 237 := rfl
theorem lr_187_74 (E : sv_E) (s : sv_S) : sv_fv E (ss_e s) 187 (tyX12 74) 74 = sv_r E 238 := rfl
theorem lr_187_75 (E : sv_E) (s : sv_S) : sv_fv E (ss_e s) 187 (tyX12 75) 75 = sv_r E 239 := rfl
theorem lr_187_76 (E : sv_E) (s : sv_S) : sv_fv E (ss_e s) 187 (tyX12 76) 76 = sv_r E 240 := rfl
theorem lr_187_77 (E : sv_E) (s : sv_S) : sv_fv E (ss_e s) 187 (tyX12 77) 77 = sv_r E 241 := rfl
theorem lr_187_78 (E : sv_E) (s : sv_S) : sv_fv E (ss_e s) 187 (tyX12 78) 78 = sv_r E 242 := rfl

theorem x_om1 : x_okM 1 = true := by decide +kernel
theorem x_om2 : x_okM 2 = true := by decide +kernel
theorem x_om3 : x_okM 3 = true := by decide +kernel
theorem x_om4 : x_okM 4 = true := by decide +kernel
theorem x_om5 : x_okM 5 = true := by decide +kernel
theorem x_om6 : x_okM 6 = true := by decide +kernel
theorem x_om7 : x_okM 7 = true := by decide +kernel
theorem x_om8 : x_okM 8 = true := by decide +kernel
theorem x_om9 : x_okM 9 = true := by decide +kernel
theorem x_om10 : x_okM 10 = true := by decide +kernel
theorem x_om11 : x_okM 11 = true := by decide +kernel
theorem x_om12 : x_okM 12 = true := by decide +kernel
theorem x_om13 : x_okM 13 = true := by decide +kernel
theorem x_om14 : x_okM 14 = true := by decide +kernel
theorem x_om15 : x_okM 15 = true := by decide +kernel
theorem x_om16 : x_okM 16 = true := by decide +kernel
theorem x_om17 : x_okM 17 = true := by decide +kernel
theorem x_om18 : x_okM 18 = true := by decide +kernel
theorem x_om19 : x_okM 19 = true := by decide +kernel
theorem x_om20 : x_okM 20 = true := by decide +kernel
theorem x_om21 : x_okM 21 = true := by decide +kernel
theorem x_om22 : x_okM 22 = true := by decide +kernel
theorem x_om23 : x_okM 23 = true := by decide +kernel
theorem x_om24 : x_okM 24 = true := by decide +kernel
theorem x_om25 : x_okM 25 = true := by decide +kernel
theorem x_om26 : x_okM 26 = true := by decide +kernel
theorem x_om27 : x_okM 27 = true := by decide +kernel
theorem x_om28 : x_okM 28 = true := by decide +kernel
theorem x_om29 : x_okM 29 = true := by decide +kernel
theorem x_om30 : x_okM 30 = true := by decide +kernel
theorem x_om31 : x_okM 31 = true := by decide +kernel
theorem x_om32 : x_okM 32 = true := by decide +kernel
theorem x_om33 : x_okM 33 = true := by decide +kernel
theorem x_om34 : x_okM 34 = true := by decide +kernel
theorem x_om35 : x_okM 35 = true := by decide +kernel
theorem x_om36 : x_okM 36 = true := by decide +kernel
theorem x_om37 : x_okM 37 = true := by decide +kernel
theorem x_om38 : x_okM 38 = true := by decide +kernel
theorem x_om39 : x_okM 39 = true := by decide +kernel
theorem x_om40 : x_okM 40 = true := by decide +kernel
theorem x_om41 : x_okM 41 = true := by decide +kernel
theorem x_om42 : x_okM 42 = true := by decide +kernel
theorem x_om43 : x_okM 43 = true := by decide +kernel
theorem x_om44 : x_okM 44 = true := by decide +kernel
theorem x_om45 : x_okM 45 = true := by decide +kernel
theorem x_om46 : x_okM 46 = true := by decide +kernel
theorem x_om47 : x_okM 47 = true := by decide +kernel
theorem x_om48 : x_okM 48 = true := by decide +kernel
theorem x_om49 : x_okM 49 = true := by decide +kernel
theorem x_om50 : x_okM 50 = true := by decide +kernel
theorem x_om51 : x_okM 51 = true := by decide +kernel
theorem x_om52 : x_okM 52 = true := by decide +kernel
theorem x_om53 : x_okM 53 = true := by decide +kernel
theorem x_om54 : x_okM 54 = true := by decide +kernel
theorem x_om55 : x_okM 55 = true := by decide +kernel
theorem x_om56 : x_okM 56 = true := by decide +kernel
theorem x_om57 : x_okM 57 = true := by decide +kernel
theorem x_om58 : x_okM 58 = true := by decide +kernel
theorem x_om59 : x_okM 59 = true := by decide +kernel
theorem x_om60 : x_okM 60 = true := by decide +kernel
theorem x_om61 : x_okM 61 = true := by decide +kernel
theorem x_om62 : x_okM 62 = true := by decide +kernel
theorem x_om63 : x_okM 63 = true := by decide +kernel
theorem x_om64 : x_okM 64 = true := by decide +kernel
theorem x_om65 : x_okM 65 = true := by decide +kernel
theorem x_om66 : x_okM 66 = true := by decide +kernel
theorem x_om67 : x_okM 67 = true := by decide +kernel
theorem x_om68 : x_okM 68 = true := by decide +kernel
theorem x_om69 : x_okM 69 = true := by decide +kernel
theorem x_om70 : x_okM 70 = true := by decide +kernel
theorem x_om71 : x_okM 71 = true := by decide +kernel
theorem x_om72 : x_okM 72 = true := by decide +kernel
theorem x_om73 : x_okM 73 = true := by decide +kernel
theorem x_om74 : x_okM 74 = true := by decide +kernel
theorem x_om75 : x_okM 75 = true := by decide +kernel
theorem x_om76 : x_okM 76 = true := by decide +kernel
theorem x_om77 : x_okM 77 = true := by decide +kernel
theorem x_om78 : x_okM 78 = true := by decide +kernel
theorem x_om79 : x_okM 79 = true := by decide +kernel
theorem x_om80 : x_okM 80 = true := by decide +kernel
theorem x_om81 : x_okM 81 = true := by decide +kernel
theorem x_om82 : x_okM 82 = true := by decide +kernel
theorem x_om83 : x_okM 83 = true := by decide +kernel
theorem x_om84 : x_okM 84 = true := by decide +kernel
theorem x_om85 : x_okM 85 = true := by decide +kernel
theorem x_om86 : x_okM 86 = true := by decide +kernel
theorem x_om87 : x_okM 87 = true := by decide +kernel
theorem x_om88 : x_okM 88 = true := by decide +kernel
theorem x_om89 : x_okM 89 = true := by decide +kernel
theorem x_om90 : x_okM 90 = true := by decide +kernel
theorem x_om91 : x_okM 91 = true := by decide +kernel
theorem x_om92 : x_okM 92 = true := by decide +kernel
theorem x_om93 : x_okM 93 = true := by decide +kernel
theorem x_om94 : x_okM 94 = true := by decide +kernel
theorem x_om95 : x_okM 95 = true := by decide +kernel
theorem x_om96 : x_okM 96 = true := by decide +kernel
theorem x_om97 : x_okM 97 = true := by decide +kernel
theorem x_om98 : x_okM 98 = true := by decide +kernel
theorem x_om99 : x_okM 99 = true := by decide +kernel
theorem x_om100 : x_okM 100 = true := by decide +kernel
theorem x_om101 : x_okM 101 = true := by decide +kernel
theorem x_om102 : x_okM 102 = true := by decide +kernel
theorem x_om103 : x_okM 103 = true := by decide +kernel
theorem x_om104 : x_okM 104 = true := by decide +kernel
theorem x_om105 : x_okM 105 = true := by decide +kernel
theorem x_om106 : x_okM 106 = true := by decide +kernel
theorem x_om107 : x_okM 107 = true := by decide +kernel
theorem x_om108 : x_okM 108 = true := by decide +kernel
theorem x_om109 : x_okM 109 = true := by decide +kernel
theorem x_om110 : x_okM 110 = true := by decide +kernel
theorem x_om111 : x_okM 111 = true := by decide +kernel
theorem x_om112 : x_okM 112 = true := by decide +kernel
theorem x_om113 : x_okM 113 = true := by decide +kernel
theorem x_om114 : x_okM 114 = true := by decide +kernel
theorem x_om115 : x_okM 115 = true := by decide +kernel
theorem x_om116 : x_okM 116 = true := by decide +kernel
theorem x_om117 : x_okM 117 = true := by decide +kernel
theorem x_om118 : x_okM 118 = true := by decide +kernel
theorem x_om119 : x_okM 119 = true := by decide +kernel
theorem x_om120 : x_okM 120 = true := by decide +kernel
theorem x_om121 : x_okM 121 = true := by decide +kernel
theorem x_om122 : x_okM 122 = true := by decide +kernel
theorem x_om123 : x_okM 123 = true := by decide +kernel
theorem x_om124 : x_okM 124 = true := by decide +kernel
theorem x_om125 : x_okM 125 = true := by decide +kernel
theorem x_om126 : x_okM 126 = true := by decide +kernel
theorem x_om127 : x_okM 127 = true := by decide +kernel
theorem x_om128 : x_okM 128 = true := by decide +kernel
theorem x_om129 : x_okM 129 = true := by decide +kernel
theorem x_om130 : x_okM 130 = true := by decide +kernel
theorem x_om131 : x_okM 131 = true := by decide +kernel
theorem x_om132 : x_okM 132 = true := by decide +kernel
theorem x_om133 : x_okM 133 = true := by decide +kernel
theorem x_om134 : x_okM 134 = true := by decide +kernel
theorem x_om135 : x_okM 135 = true := by decide +kernel
theorem x_om136 : x_okM 136 = true := by decide +kernel
theorem x_om137 : x_okM 137 = true := by decide +kernel
theorem x_om138 : x_okM 138 = true := by decide +kernel
theorem x_om139 : x_okM 139 = true := by decide +kernel
theorem x_om140 : x_okM 140 = true := by decide +kernel
theorem x_om141 : x_okM 141 = true := by decide +kernel
theorem x_om142 : x_okM 142 = true := by decide +kernel
theorem x_om143 : x_okM 143 = true := by decide +kernel
theorem x_om144 : x_okM 144 = true := by decide +kernel
theorem x_om145 : x_okM 145 = true := by decide +kernel
theorem x_om146 : x_okM 146 = true := by decide +kernel
theorem x_om147 : x_okM 147 = true := by decide +kernel
theorem x_om148 : x_okM 148 = true := by decide +kernel
theorem x_om149 : x_okM 149 = true := by decide +kernel
theorem x_om150 : x_okM 150 = true := by decide +kernel
theorem x_om151 : x_okM 151 = true := by decide +kernel
theorem x_om152 : x_okM 152 = true := by decide +kernel
theorem x_om153 : x_okM 153 = true := by decide +kernel
theorem x_om154 : x_okM 154 = true := by decide +kernel
theorem x_om155 : x_okM 155 = true := by decide +kernel
theorem x_om156 : x_okM 156 = true := by decide +kernel
theorem x_om157 : x_okM 157 = true := by decide +kernel
theorem x_om158 : x_okM 158 = true := by decide +kernel
theorem x_om159 : x_okM 159 = true := by decide +kernel
theorem x_om160 : x_okM 160 = true := by decide +kernel
theorem x_om161 : x_okM 161 = true := by decide +kernel
theorem x_om162 : x_okM 162 = true := by decide +kernel
theorem x_om163 : x_okM 163 = true := by decide +kernel
theorem x_om164 : x_okM 164 = true := by decide +kernel
theorem x_om165 : x_okM 165 = true := by decide +kernel
theorem x_om166 : x_okM 166 = true := by decide +kernel
theorem x_om167 : x_okM 167 = true := by decide +kernel
theorem x_om168 : x_okM 168 = true := by decide +kernel
theorem x_om169 : x_okM 169 = true := by decide +kernel
theorem x_om170 : x_okM 170 = true := by decide +kernel
theorem x_om171 : x_okM 171 = true := by decide +kernel
theorem x_om172 : x_okM 172 = true := by decide +kernel
theorem x_om173 : x_okM 173 = true := by decide +kernel
theorem x_om174 : x_okM 174 = true := by decide +kernel
theorem x_om175 : x_okM 175 = true := by decide +kernel
theorem x_om176 : x_okM 176 = true := by decide +kernel
theorem x_om177 : x_okM 177 = true := by decide +kernel
theorem x_om178 : x_okM 178 = true := by decide +kernel
theorem x_om179 : x_okM 179 = true := by decide +kernel
theorem x_om180 : x_okM 180 = true := by decide +kernel
theorem x_om181 : x_okM 181 = true := by decide +kernel
theorem x_om182 : x_okM 182 = true := by decide +kernel
theorem x_om183 : x_okM 183 = true := by decide +kernel
theorem x_om184 : x_okM 184 = true := by decide +kernel
theorem x_om185 : x_okM 185 = true := by decide +kernel
theorem x_om186 : x_okM 186 = true := by decide +kernel
theorem x_om187 : x_okM 187 = true := by decide +kernel
theorem x_om188 : x_okM 188 = true := by decide +kernel
theorem x_om189 : x_okM 189 = true := by decide +kernel
theorem x_om190 : x_okM 190 = true := by decide +kernel
theorem x_om191 : x_okM 191 = true := by decide +kernel
theorem x_om192 : x_okM 192 = true := by decide +kernel
theorem x_om193 : x_okM 193 = true := by decide +kernel
theorem x_om194 : x_okM 194 = true := by decide +kernel
theorem x_om195 : x_okM 195 = true := by decide +kernel
theorem x_om196 : x_okM 196 = true := by decide +kernel
theorem x_om197 : x_okM 197 = true := by decide +kernel
theorem x_om198 : x_okM 198 = true := by decide +kernel
theorem x_om199 : x_okM 199 = true := by decide +kernel
theorem x_om200 : x_okM 200 = true := by decide +kernel
theorem x_om201 : x_okM 201 = true := by decide +kernel
theorem x_om202 : x_okM 202 = true := by decide +kernel
theorem x_om203 : x_okM 203 = true := by decide +kernel
theorem x_om204 : x_okM 204 = true := by decide +kernel
theorem x_om205 : x_okM 205 = true := by decide +kernel
theorem x_om206 : x_okM 206 = true := by decide +kernel
theorem x_om207 : x_okM 207 = true := by decide +kernel
theorem x_om208 : x_okM 208 = true := by decide +kernel
theorem x_om209 : x_okM 209 = true := by decide +kernel
theorem x_om210 : x_okM 210 = true := by decide +kernel
theorem x_om211 : x_okM 211 = true := by decide +kernel
theorem x_om212 : x_okM 212 = true := by decide +kernel
theorem x_om213 : x_okM 213 = true := by decide +kernel
theorem x_om214 : x_okM 214 = true := by decide +kernel
theorem x_om215 : x_okM 215 = true := by decide +kernel
theorem x_om216 : x_okM 216 = true := by decide +kernel
theorem x_om217 : x_okM 217 = true := by decide +kernel
theorem x_om218 : x_okM 218 = true := by decide +kernel
theorem x_om219 : x_okM 219 = true := by decide +kernel
theorem x_om220 : x_okM 220 = true := by decide +kernel
theorem x_om221 : x_okM 221 = true := by decide +kernel
theorem x_om222 : x_okM 222 = true := by decide +kernel
theorem x_om223 : x_okM 223 = true := by decide +kernel
theorem x_om224 : x_okM 224 = true := by decide +kernel
theorem x_om225 : x_okM 225 = true := by decide +kernel
theorem x_om226 : x_okM 226 = true := by decide +kernel
theorem x_om227 : x_okM 227 = true := by decide +kernel
theorem x_om228 : x_okM 228 = true := by decide +kernel
theorem x_om229 : x_okM 229 = true := by decide +kernel
theorem x_om230 : x_okM 230 = true := by decide +kernel
theorem x_om231 : x_okM 231 = true := by decide +kernel
theorem x_om232 : x_okM 232 = true := by decide +kernel
theorem x_om233 : x_okM 233 = true := by decide +kernel
theorem x_om234 : x_okM 234 = true := by decide +kernel
theorem x_om235 : x_okM 235 = true := by decide +kernel
theorem x_om236 : x_okM 236 = true := by decide +kernel
theorem x_om237 : x_okM 237 = true := by decide +kernel
theorem x_om238 : x_okM 238 = true := by decide +kernel
theorem x_om239 : x_okM 239 = true := by decide +kernel
theorem x_om240 : x_okM 240 = true := by decide +kernel
theorem x_om241 : x_okM 241 = true := by decide +kernel
theorem x_om242 : x_okM 242 = true := by decide +kernel
theorem x_om243 : x_okM 243 = true := by decide +kernel
theorem x_om244 : x_okM 244 = true := by decide +kernel
theorem x_om245 : x_okM 245 = true := by decide +kernel
theorem x_om246 : x_okM 246 = true := by decide +kernel
theorem x_om247 : x_okM 247 = true := by decide +kernel
theorem x_om248 : x_okM 248 = true := by decide +kernel
theorem x_om249 : x_okM 249 = true := by decide +kernel
theorem x_om250 : x_okM 250 = true := by decide +kernel
theorem x_om251 : x_okM 251 = true := by decide +kernel
theorem x_om252 : x_okM 252 = true := by decide +kernel
theorem x_om253 : x_okM 253 = true := by decide +kernel
theorem x_om254 : x_okM 254 = true := by decide +kernel
theorem x_om255 : x_okM 255 = true := by decide +kernel
theorem x_om256 : x_okM 256 = true := by decide +kernel
theorem x_om257 : x_okM 257 = true := by decide +kernel
theorem x_om258 : x_okM 258 = true := by decide +kernel
theorem x_om259 : x_okM 259 = true := by decide +kernel
theorem x_om260 : x_okM 260 = true := by decide +kernel
theorem x_om261 : x_okM 261 = true := by decide +kernel
theorem x_om262 : x_okM 262 = true := by decide +kernel
theorem x_om263 : x_okM 263 = true := by decide +kernel
theorem x_om264 : x_okM 264 = true := by decide +kernel
theorem x_om265 : x_okM 265 = true := by decide +kernel
theorem x_om266 : x_okM 266 = true := by decide +kernel
theorem x_om267 : x_okM 267 = true := by decide +kernel
theorem x_om268 : x_okM 268 = true := by decide +kernel
theorem x_om269 : x_okM 269 = true := by decide +kernel
theorem x_om270 : x_okM 270 = true := by decide +kernel
theorem x_om271 : x_okM 271 = true := by decide +kernel
theorem x_om272 : x_okM 272 = true := by decide +kernel
theorem x_om273 : x_okM 273 = true := by decide +kernel
theorem x_om274 : x_okM 274 = true := by decide +kernel
theorem x_om275 : x_okM 275 = true := by decide +kernel
theorem x_om276 : x_okM 276 = true := by decide +kernel
theorem x_om277 : x_okM 277 = true := by decide +kernel
theorem x_om278 : x_okM 278 = true := by decide +kernel
theorem x_om279 : x_okM 279 = true := by decide +kernel
theorem x_om280 : x_okM 280 = true := by decide +kernel
theorem x_om281 : x_okM 281 = true := by decide +kernel
theorem x_om282 : x_okM 282 = true := by decide +kernel
theorem x_om283 : x_okM 283 = true := by decide +kernel
theorem x_om284 : x_okM 284 = true := by decide +kernel
theorem x_om285 : x_okM 285 = true := by decide +kernel
theorem x_om289 : x_okM 289 = true := by decide +kernel
theorem x_om290 : x_okM 290 = true := by decide +kernel
theorem x_om291 : x_okM 291 = true := by decide +kernel
theorem x_om292 : x_okM 292 = true := by decide +kernel
theorem x_om293 : x_okM 293 = true := by decide +kernel
theorem x_om294 : x_okM 294 = true := by decide +kernel
theorem x_om295 : x_okM 295 = true := by decide +kernel
theorem x_om296 : x_okM 296 = true := by decide +kernel
theorem x_om297 : x_okM 297 = true := by decide +kernel
theorem x_om298 : x_okM 298 = true := by decide +kernel
theorem x_om299 : x_okM 299 = true := by decide +kernel
theorem x_om300 : x_okM 300 = true := by decide +kernel
theorem x_om301 : x_okM 301 = true := by decide +kernel
theorem x_om302 : x_okM 302 = true := by decide +kernel
theorem x_om303 : x_okM 303 = true := by decide +kernel
theorem x_ok0 : ∀ j ∈ ([0, 1, 2, 3, 4, 5, 6, 7, 8, 9, 10, 11, 12, 13, 14, 15, 16, 17, 18, 19, 20, 21, 22, 23, 24, 25, 26, 27, 28, 29, 30, 31, 32, 33, 34, 35, 36, 37, 38] : List Nat), x_okj 0 j = true := List.forall_mem_cons.mpr ⟨x_ok0_0, List.forall_mem_cons.mpr ⟨x_ok0_1, List.forall_mem_cons.mpr ⟨x_ok0_2, List.forall_mem_cons.mpr ⟨x_ok0_3, List.forall_mem_cons.mpr ⟨x_ok0_4, List.forall_mem_cons.mpr ⟨x_ok0_5, List.forall_mem_cons.mpr ⟨x_ok0_6, List.forall_mem_cons.mpr ⟨x_ok0_7, List.forall_mem_cons.mpr ⟨x_ok0_8, List.forall_mem_cons.mpr ⟨x_ok0_9, List.forall_mem_cons.mpr ⟨x_ok0_10, List.forall_mem_cons.mpr ⟨x_ok0_11, List.forall_mem_cons.mpr ⟨x_ok0_12, List.forall_mem_cons.mpr ⟨x_ok0_13, List.forall_mem_cons.mpr ⟨x_ok0_14, List.forall_mem_cons.mpr ⟨x_ok0_15, List.forall_mem_cons.mpr ⟨x_ok0_16, List.forall_mem_cons.mpr ⟨x_ok0_17, List.forall_mem_cons.mpr ⟨x_ok0_18, List.forall_mem_cons.mpr ⟨x_ok0_19, List.forall_mem_cons.mpr ⟨x_ok0_20, List.forall_mem_cons.mpr ⟨x_ok0_21, List.forall_mem_cons.mpr ⟨x_ok0_22, List.forall_mem_cons.mpr ⟨x_ok0_23, List.forall_mem_cons.mpr ⟨x_ok0_24, List.forall_mem_cons.mpr ⟨x_ok0_25, List.forall_mem_cons.mpr ⟨x_ok0_26, List.forall_mem_cons.mpr ⟨x_ok0_27, List.forall_mem_cons.mpr ⟨x_ok0_28, List.forall_mem_cons.mpr ⟨x_ok0_29, List.forall_mem_cons.mpr ⟨x_ok0_30, List.forall_mem_cons.mpr ⟨x_ok0_31, List.forall_mem_cons.mpr ⟨x_ok0_32, List.forall_mem_cons.mpr ⟨x_ok0_33, List.forall_mem_cons.mpr ⟨x_ok0_34, List.forall_mem_cons.mpr ⟨x_ok0_35, List.forall_mem_cons.mpr ⟨x_ok0_36, List.forall_mem_cons.mpr ⟨x_ok0_37, List.forall_mem_cons.mpr ⟨x_ok0_38, fun _ h => absurd h List.not_mem_nil⟩⟩⟩⟩⟩⟩⟩⟩⟩⟩⟩⟩⟩⟩⟩⟩⟩⟩⟩⟩⟩⟩⟩⟩⟩⟩⟩⟩⟩⟩⟩⟩⟩⟩⟩⟩⟩⟩⟩
theorem x_oq0 : x_okq 0 [0, 1, 2, 3, 4, 5, 6, 7, 8, 9, 10, 11, 12, 13, 14, 15, 16, 17, 18, 19, 20, 21, 22, 23, 24, 25, 26, 27, 28, 29, 30, 31, 32, 33, 34, 35, 36, 37, 38] = true := by decide +kernel
theorem x_or0 : ∀ j, x_okj 0 j = true := x_okq_s x_oq0 x_ok0
theorem x_ok1 : ∀ j ∈ ([0, 1, 2, 3] : List Nat), x_okj 1 j = true := List.forall_mem_cons.mpr ⟨x_ok1_0, List.forall_mem_cons.mpr ⟨x_ok1_1, List.forall_mem_cons.mpr ⟨x_ok1_2, List.forall_mem_cons.mpr ⟨x_ok1_3, fun _ h => absurd h List.not_mem_nil⟩⟩⟩⟩
theorem x_oq1 : x_okq 1 [0, 1, 2, 3] = true := by decide +kernel
theorem x_or1 : ∀ j, x_okj 1 j = true := x_okq_s x_oq1 x_ok1
theorem x_ok2 : ∀ j ∈ ([0] : List Nat), x_okj 2 j = true := List.forall_mem_cons.mpr ⟨x_ok2_0, fun _ h => absurd h List.not_mem_nil⟩
theorem x_oq2 : x_okq 2 [0] = true := by decide +kernel
theorem x_or2 : ∀ j, x_okj 2 j = true := x_okq_s x_oq2 x_ok2
theorem x_ok3 : ∀ j ∈ ([0] : List Nat), x_okj 3 j = true := List.forall_mem_cons.mpr ⟨x_ok3_0, fun _ h => absurd h List.not_mem_nil⟩
theorem x_oq3 : x_okq 3 [0] = true := by decide +kernel
theorem x_or3 : ∀ j, x_okj 3 j = true := x_okq_s x_oq3 x_ok3
theorem x_ok4 : ∀ j ∈ ([0, 1, 2, 3, 4, 5, 6, 7] : List Nat), x_okj 4 j = true := List.forall_mem_cons.mpr ⟨x_ok4_0, List.forall_mem_cons.mpr ⟨x_ok4_1, List.forall_mem_cons.mpr ⟨x_ok4_2, List.forall_mem_cons.mpr ⟨x_ok4_3, List.forall_mem_cons.mpr ⟨x_ok4_4, List.forall_mem_cons.mpr ⟨x_ok4_5, List.forall_mem_cons.mpr ⟨x_ok4_6, List.forall_mem_cons.mpr ⟨x_ok4_7, fun _ h => absurd h List.not_mem_nil⟩⟩⟩⟩⟩⟩⟩⟩
theorem x_oq4 : x_okq 4 [0, 1, 2, 3, 4, 5, 6, 7] = true := by decide +kernel
theorem x_or4 : ∀ j, x_okj 4 j = true := x_okq_s x_oq4 x_ok4
theorem x_ok5 : ∀ j ∈ ([0] : List Nat), x_okj 5 j = true := List.forall_mem_cons.mpr ⟨x_ok5_0, fun _ h => absurd h List.not_mem_nil⟩
theorem x_oq5 : x_okq 5 [0] = true := by decide +kernel
theorem x_or5 : ∀ j, x_okj 5 j = true := x_okq_s x_oq5 x_ok5
theorem x_ok6 : ∀ j ∈ ([0] : List Nat), x_okj 6 j = true := List.forall_mem_cons.mpr ⟨x_ok6_0, fun _ h => absurd h List.not_mem_nil⟩
theorem x_oq6 : x_okq 6 [0] = true := by decide +kernel
theorem x_or6 : ∀ j, x_okj 6 j = true := x_okq_s x_oq6 x_ok6
theorem x_ok7 : ∀ j ∈ ([0] : List Nat), x_okj 7 j = true := List.forall_mem_cons.mpr ⟨x_ok7_0, fun _ h => absurd h List.not_mem_nil⟩
theorem x_oq7 : x_okq 7 [0] = true := by decide +kernel
theorem x_or7 : ∀ j, x_okj 7 j = true := x_okq_s x_oq7 x_ok7
theorem x_ok8 : ∀ j ∈ ([0] : List Nat), x_okj 8 j = true := List.forall_mem_cons.mpr ⟨x_ok8_0, fun _ h => absurd h List.not_mem_nil⟩
theorem x_oq8 : x_okq 8 [0] = true := by decide +kernel
theorem x_or8 : ∀ j, x_okj 8 j = true := x_okq_s x_oq8 x_ok8
theorem x_ok9 : ∀ j ∈ ([0, 1] : List Nat), x_okj 9 j = true := List.forall_mem_cons.mpr ⟨x_ok9_0, List.forall_mem_cons.mpr ⟨x_ok9_1, fun _ h => absurd h List.not_mem_nil⟩⟩
theorem x_oq9 : x_okq 9 [0, 1] = true := by decide +kernel
theorem x_or9 : ∀ j, x_okj 9 j = true := x_okq_s x_oq9 x_ok9
theorem x_ok10 : ∀ j ∈ ([0, 1] : List Nat), x_okj 10 j = true := List.forall_mem_cons.mpr ⟨x_ok10_0, List.forall_mem_cons.mpr ⟨x_ok10_1, fun _ h => absurd h List.not_mem_nil⟩⟩
theorem x_oq10 : x_okq 10 [0, 1] = true := by decide +kernel
theorem x_or10 : ∀ j, x_okj 10 j = true := x_okq_s x_oq10 x_ok10
theorem x_ok11 : ∀ j ∈ ([0, 1] : List Nat), x_okj 11 j = true := List.forall_mem_cons.mpr ⟨x_ok11_0, List.forall_mem_cons.mpr ⟨x_ok11_1, fun _ h => absurd h List.not_mem_nil⟩⟩
theorem x_oq11 : x_okq 11 [0, 1] = true := by decide +kernel
theorem x_or11 : ∀ j, x_okj 11 j = true := x_okq_s x_oq11 x_ok11
theorem x_ok12 : ∀ j ∈ ([0, 1, 2, 3] : List Nat), x_okj 12 j = true := List.forall_mem_cons.mpr ⟨x_ok12_0, List.forall_mem_cons.mpr ⟨x_ok12_1, List.forall_mem_cons.mpr ⟨x_ok12_2, List.forall_mem_cons.mpr ⟨x_ok12_3, fun _ h => absurd h List.not_mem_nil⟩⟩⟩⟩
theorem x_oq12 : x_okq 12 [0, 1, 2, 3] = true := by decide +kernel
theorem x_or12 : ∀ j, x_okj 12 j = true := x_okq_s x_oq12 x_ok12
theorem x_ok13 : ∀ j ∈ ([0, 1] : List Nat), x_okj 13 j = true := List.forall_mem_cons.mpr ⟨x_ok13_0, List.forall_mem_cons.mpr ⟨x_ok13_1, fun _ h => absurd h List.not_mem_nil⟩⟩
theorem x_oq13 : x_okq 13 [0, 1] = true := by decide +kernel
theorem x_or13 : ∀ j, x_okj 13 j = true := x_okq_s x_oq13 x_ok13
theorem x_ok14 : ∀ j ∈ ([0, 1] : List Nat), x_okj 14 j = true := List.forall_mem_cons.mpr ⟨x_ok14_0, List.forall_mem_cons.mpr ⟨x_ok14_1, fun _ h => absurd h List.not_mem_nil⟩⟩
theorem x_oq14 : x_okq 14 [0, 1] = true := by decide +kernel
theorem x_or14 : ∀ j, x_okj 14 j = true := x_okq_s x_oq14 x_ok14
theorem x_ok15 : ∀ j ∈ ([0] : List Nat), x_okj 15 j = true := List.forall_mem_cons.mpr ⟨x_ok15_0, fun _ h => absurd h List.not_mem_nil⟩
theorem x_oq15 : x_okq 15 [0] = true := by decide +kernel
theorem x_or15 : ∀ j, x_okj 15 j = true := x_okq_s x_oq15 x_ok15
theorem x_ok16 : ∀ j ∈ ([0] : List Nat), x_okj 16 j = true := List.forall_mem_cons.mpr ⟨x_ok16_0, fun _ h => absurd h List.not_mem_nil⟩
theorem x_oq16 : x_okq 16 [0] = true := by decide +kernel
theorem x_or16 : ∀ j, x_okj 16 j = true := x_okq_s x_oq16 x_ok16
theorem x_ok17 : ∀ j ∈ ([0, 1] : List Nat), x_okj 17 j = true := List.forall_mem_cons.mpr ⟨x_ok17_0, List.forall_mem_cons.mpr ⟨x_ok17_1, fun _ h => absurd h List.not_mem_nil⟩⟩
theorem x_oq17 : x_okq 17 [0, 1] = true := by decide +kernel
theorem x_or17 : ∀ j, x_okj 17 j = true := x_okq_s x_oq17 x_ok17
theorem x_ok18 : ∀ j ∈ ([0] : List Nat), x_okj 18 j = true := List.forall_mem_cons.mpr ⟨x_ok18_0, fun _ h => absurd h List.not_mem_nil⟩
theorem x_oq18 : x_okq 18 [0] = true := by decide +kernel
theorem x_or18 : ∀ j, x_okj 18 j = true := x_okq_s x_oq18 x_ok18
theorem x_ok19 : ∀ j ∈ ([0, 1] : List Nat), x_okj 19 j = true := List.forall_mem_cons.mpr ⟨x_ok19_0, List.forall_mem_cons.mpr ⟨x_ok19_1, fun _ h => absurd h List.not_mem_nil⟩⟩
theorem x_oq19 : x_okq 19 [0, 1] = true := by decide +kernel
theorem x_or19 : ∀ j, x_okj 19 j = true := x_okq_s x_oq19 x_ok19
theorem x_ok20 : ∀ j ∈ ([0, 1] : List Nat), x_okj 20 j = true := List.forall_mem_cons.mpr ⟨x_ok20_0, List.forall_mem_cons.mpr ⟨x_ok20_1, fun _ h => absurd h List.not_mem_nil⟩⟩
theorem x_oq20 : x_okq 20 [0, 1] = true := by decide +kernel
theorem x_or20 : ∀ j, x_okj 20 j = true := x_okq_s x_oq20 x_ok20
theorem x_ok21 : ∀ j ∈ ([0] : List Nat), x_okj 21 j = true := List.forall_mem_cons.mpr ⟨x_ok21_0, fun _ h => absurd h List.not_mem_nil⟩
theorem x_oq21 : x_okq 21 [0] = true := by decide +kernel
theorem x_or21 : ∀ j, x_okj 21 j = true := x_okq_s x_oq21 x_ok21
theorem x_ok22 : ∀ j ∈ ([0, 1, 2, 3, 4, 5] : List Nat), x_okj 22 j = true := List.forall_mem_cons.mpr ⟨x_ok22_0, List.forall_mem_cons.mpr ⟨x_ok22_1, List.forall_mem_cons.mpr ⟨x_ok22_2, List.forall_mem_cons.mpr ⟨x_ok22_3, List.forall_mem_cons.mpr ⟨x_ok22_4, List.forall_mem_cons.mpr ⟨x_ok22_5, fun _ h => absurd h List.not_mem_nil⟩⟩⟩⟩⟩⟩
theorem x_oq22 : x_okq 22 [0, 1, 2, 3, 4, 5] = true := by decide +kernel
theorem x_or22 : ∀ j, x_okj 22 j = true := x_okq_s x_oq22 x_ok22
theorem x_ok23 : ∀ j ∈ ([0, 1] : List Nat), x_okj 23 j = true := List.forall_mem_cons.mpr ⟨x_ok23_0, List.forall_mem_cons.mpr ⟨x_ok23_1, fun _ h => absurd h List.not_mem_nil⟩⟩
theorem x_oq23 : x_okq 23 [0, 1] = true := by decide +kernel
theorem x_or23 : ∀ j, x_okj 23 j = true := x_okq_s x_oq23 x_ok23
theorem x_ok24 : ∀ j ∈ ([0, 1, 2] : List Nat), x_okj 24 j = true := List.forall_mem_cons.mpr ⟨x_ok24_0, List.forall_mem_cons.mpr ⟨x_ok24_1, List.forall_mem_cons.mpr ⟨x_ok24_2, fun _ h => absurd h List.not_mem_nil⟩⟩⟩
theorem x_oq24 : x_okq 24 [0, 1, 2] = true := by decide +kernel
theorem x_or24 : ∀ j, x_okj 24 j = true := x_okq_s x_oq24 x_ok24
theorem x_ok25 : ∀ j ∈ ([0, 1, 2] : List Nat), x_okj 25 j = true := List.forall_mem_cons.mpr ⟨x_ok25_0, List.forall_mem_cons.mpr ⟨x_ok25_1, List.forall_mem_cons.mpr ⟨x_ok25_2, fun _ h => absurd h List.not_mem_nil⟩⟩⟩
theorem x_oq25 : x_okq 25 [0, 1, 2] = true := by decide +kernel
theorem x_or25 : ∀ j, x_okj 25 j = true := x_okq_s x_oq25 x_ok25
theorem x_ok26 : ∀ j ∈ ([0, 1, 2] : List Nat), x_okj 26 j = true := List.forall_mem_cons.mpr ⟨x_ok26_0, List.forall_mem_cons.mpr ⟨x_ok26_1, List.forall_mem_cons.mpr ⟨x_ok26_2, fun _ h => absurd h List.not_mem_nil⟩⟩⟩
theorem x_oq26 : x_okq 26 [0, 1, 2] = true := by decide +kernel
theorem x_or26 : ∀ j, x_okj 26 j = true := x_okq_s x_oq26 x_ok26
theorem x_ok27 : ∀ j ∈ ([0, 1] : List Nat), x_okj 27 j = true := List.forall_mem_cons.mpr ⟨x_ok27_0, List.forall_mem_cons.mpr ⟨x_ok27_1, fun _ h => absurd h List.not_mem_nil⟩⟩
theorem x_oq27 : x_okq 27 [0, 1] = true := by decide +kernel
theorem x_or27 : ∀ j, x_okj 27 j = true := x_okq_s x_oq27 x_ok27
theorem x_ok28 : ∀ j ∈ ([0, 1, 2] : List Nat), x_okj 28 j = true := List.forall_mem_cons.mpr ⟨x_ok28_0, List.forall_mem_cons.mpr ⟨x_ok28_1, List.forall_mem_cons.mpr ⟨x_ok28_2, fun _ h => absurd h List.not_mem_nil⟩⟩⟩
theorem x_oq28 : x_okq 28 [0, 1, 2] = true := by decide +kernel
theorem x_or28 : ∀ j, x_okj 28 j = true := x_okq_s x_oq28 x_ok28
theorem x_ok29 : ∀ j ∈ ([0, 1, 2] : List Nat), x_okj 29 j = true := List.forall_mem_cons.mpr ⟨x_ok29_0, List.forall_mem_cons.mpr ⟨x_ok29_1, List.forall_mem_cons.mpr ⟨x_ok29_2, fun _ h => absurd h List.not_mem_nil⟩⟩⟩
theorem x_oq29 : x_okq 29 [0, 1, 2] = true := by decide +kernel
theorem x_or29 : ∀ j, x_okj 29 j = true := x_okq_s x_oq29 x_ok29
theorem x_ok30 : ∀ j ∈ ([0, 1] : List Nat), x_okj 30 j = true := List.forall_mem_cons.mpr ⟨x_ok30_0, List.forall_mem_cons.mpr ⟨x_ok30_1, fun _ h => absurd h List.not_mem_nil⟩⟩
theorem x_oq30 : x_okq 30 [0, 1] = true := by decide +kernel
theorem x_or30 : ∀ j, x_okj 30 j = true := x_okq_s x_oq30 x_ok30
theorem x_ok31 : ∀ j ∈ ([0, 1] : List Nat), x_okj 31 j = true := List.forall_mem_cons.mpr ⟨x_ok31_0, List.forall_mem_cons.mpr ⟨x_ok31_1, fun _ h => absurd h List.not_mem_nil⟩⟩
theorem x_oq31 : x_okq 31 [0, 1] = true := by decide +kernel
theorem x_or31 : ∀ j, x_okj 31 j = true := x_okq_s x_oq31 x_ok31
theorem x_ok32 : ∀ j ∈ ([0, 1] : List Nat), x_okj 32 j = true := List.forall_mem_cons.mpr ⟨x_ok32_0, List.forall_mem_cons.mpr ⟨x_ok32_1, fun _ h => absurd h List.not_mem_nil⟩⟩
theorem x_oq32 : x_okq 32 [0, 1] = true := by decide +kernel
theorem x_or32 : ∀ j, x_okj 32 j = true := x_okq_s x_oq32 x_ok32
theorem x_ok33 : ∀ j ∈ ([0, 1, 2, 3, 4, 5] : List Nat), x_okj 33 j = true := List.forall_mem_cons.mpr ⟨x_ok33_0, List.forall_mem_cons.mpr ⟨x_ok33_1, List.forall_mem_cons.mpr ⟨x_ok33_2, List.forall_mem_cons.mpr ⟨x_ok33_3, List.forall_mem_cons.mpr ⟨x_ok33_4, List.forall_mem_cons.mpr ⟨x_ok33_5, fun _ h => absurd h List.not_mem_nil⟩⟩⟩⟩⟩⟩
theorem x_oq33 : x_okq 33 [0, 1, 2, 3, 4, 5] = true := by decide +kernel
theorem x_or33 : ∀ j, x_okj 33 j = true := x_okq_s x_oq33 x_ok33
theorem x_ok34 : ∀ j ∈ ([0, 1, 2, 3, 4, 5] : List Nat), x_okj 34 j = true := List.forall_mem_cons.mpr ⟨x_ok34_0, List.forall_mem_cons.mpr ⟨x_ok34_1, List.forall_mem_cons.mpr ⟨x_ok34_2, List.forall_mem_cons.mpr ⟨x_ok34_3, List.forall_mem_cons.mpr ⟨x_ok34_4, List.forall_mem_cons.mpr ⟨x_ok34_5, fun _ h => absurd h List.not_mem_nil⟩⟩⟩⟩⟩⟩
theorem x_oq34 : x_okq 34 [0, 1, 2, 3, 4, 5] = true := by decide +kernel
theorem x_or34 : ∀ j, x_okj 34 j = true := x_okq_s x_oq34 x_ok34
theorem x_ok35 : ∀ j ∈ ([0, 1] : List Nat), x_okj 35 j = true := List.forall_mem_cons.mpr ⟨x_ok35_0, List.forall_mem_cons.mpr ⟨x_ok35_1, fun _ h => absurd h List.not_mem_nil⟩⟩
theorem x_oq35 : x_okq 35 [0, 1] = true := by decide +kernel
theorem x_or35 : ∀ j, x_okj 35 j = true := x_okq_s x_oq35 x_ok35
theorem x_ok36 : ∀ j ∈ ([0, 1, 2] : List Nat), x_okj 36 j = true := List.forall_mem_cons.mpr ⟨x_ok36_0, List.forall_mem_cons.mpr ⟨x_ok36_1, List.forall_mem_cons.mpr ⟨x_ok36_2, fun _ h => absurd h List.not_mem_nil⟩⟩⟩
theorem x_oq36 : x_okq 36 [0, 1, 2] = true := by decide +kernel
theorem x_or36 : ∀ j, x_okj 36 j = true := x_okq_s x_oq36 x_ok36
theorem x_ok37 : ∀ j ∈ ([0] : List Nat), x_okj 37 j = true := List.forall_mem_cons.mpr ⟨x_ok37_0, fun _ h => absurd h List.not_mem_nil⟩
theorem x_oq37 : x_okq 37 [0] = true := by decide +kernel
theorem x_or37 : ∀ j, x_okj 37 j = true := x_okq_s x_oq37 x_ok37
theorem x_ok38 : ∀ j ∈ ([0, 1, 2, 3, 4] : List Nat), x_okj 38 j = true := List.forall_mem_cons.mpr ⟨x_ok38_0, List.forall_mem_cons.mpr ⟨x_ok38_1, List.forall_mem_cons.mpr ⟨x_ok38_2, List.forall_mem_cons.mpr ⟨x_ok38_3, List.forall_mem_cons.mpr ⟨x_ok38_4, fun _ h => absurd h List.not_mem_nil⟩⟩⟩⟩⟩
theorem x_oq38 : x_okq 38 [0, 1, 2, 3, 4] = true := by decide +kernel
theorem x_or38 : ∀ j, x_okj 38 j = true := x_okq_s x_oq38 x_ok38
theorem x_ok39 : ∀ j ∈ ([0] : List Nat), x_okj 39 j = true := List.forall_mem_cons.mpr ⟨x_ok39_0, fun _ h => absurd h List.not_mem_nil⟩
theorem x_oq39 : x_okq 39 [0] = true := by decide +kernel
theorem x_or39 : ∀ j, x_okj 39 j = true := x_okq_s x_oq39 x_ok39
theorem x_ok40 : ∀ j ∈ ([0] : List Nat), x_okj 40 j = true := List.forall_mem_cons.mpr ⟨x_ok40_0, fun _ h => absurd h List.not_mem_nil⟩
theorem x_oq40 : x_okq 40 [0] = true := by decide +kernel
theorem x_or40 : ∀ j, x_okj 40 j = true := x_okq_s x_oq40 x_ok40
theorem x_ok41 : ∀ j ∈ ([0] : List Nat), x_okj 41 j = true := List.forall_mem_cons.mpr ⟨x_ok41_0, fun _ h => absurd h List.not_mem_nil⟩
theorem x_oq41 : x_okq 41 [0] = true := by decide +kernel
theorem x_or41 : ∀ j, x_okj 41 j = true := x_okq_s x_oq41 x_ok41
theorem x_ok42 : ∀ j ∈ ([0, 1, 2] : List Nat), x_okj 42 j = true := List.forall_mem_cons.mpr ⟨x_ok42_0, List.forall_mem_cons.mpr ⟨x_ok42_1, List.forall_mem_cons.mpr ⟨x_ok42_2, fun _ h => absurd h List.not_mem_nil⟩⟩⟩
theorem x_oq42 : x_okq 42 [0, 1, 2] = true := by decide +kernel
theorem x_or42 : ∀ j, x_okj 42 j = true := x_okq_s x_oq42 x_ok42
theorem x_ok43 : ∀ j ∈ ([0, 1, 2] : List Nat), x_okj 43 j = true := List.forall_mem_cons.mpr ⟨x_ok43_0, List.forall_mem_cons.mpr ⟨x_ok43_1, List.forall_mem_cons.mpr ⟨x_ok43_2, fun _ h => absurd h List.not_mem_nil⟩⟩⟩
theorem x_oq43 : x_okq 43 [0, 1, 2] = true := by decide +kernel
theorem x_or43 : ∀ j, x_okj 43 j = true := x_okq_s x_oq43 x_ok43
theorem x_ok44 : ∀ j ∈ ([0] : List Nat), x_okj 44 j = true := List.forall_mem_cons.mpr ⟨x_ok44_0, fun _ h => absurd h List.not_mem_nil⟩
theorem x_oq44 : x_okq 44 [0] = true := by decide +kernel
theorem x_or44 : ∀ j, x_okj 44 j = true := x_okq_s x_oq44 x_ok44
theorem x_ok45 : ∀ j ∈ ([0, 1] : List Nat), x_okj 45 j = true := List.forall_mem_cons.mpr ⟨x_ok45_0, List.forall_mem_cons.mpr ⟨x_ok45_1, fun _ h => absurd h List.not_mem_nil⟩⟩
theorem x_oq45 : x_okq 45 [0, 1] = true := by decide +kernel
theorem x_or45 : ∀ j, x_okj 45 j = true := x_okq_s x_oq45 x_ok45
theorem x_ok46 : ∀ j ∈ ([0, 1, 2, 3] : List Nat), x_okj 46 j = true := List.forall_mem_cons.mpr ⟨x_ok46_0, List.forall_mem_cons.mpr ⟨x_ok46_1, List.forall_mem_cons.mpr ⟨x_ok46_2, List.forall_mem_cons.mpr ⟨x_ok46_3, fun _ h => absurd h List.not_mem_nil⟩⟩⟩⟩
theorem x_oq46 : x_okq 46 [0, 1, 2, 3] = true := by decide +kernel
theorem x_or46 : ∀ j, x_okj 46 j = true := x_okq_s x_oq46 x_ok46
theorem x_ok47 : ∀ j ∈ ([0, 1, 2] : List Nat), x_okj 47 j = true := List.forall_mem_cons.mpr ⟨x_ok47_0, List.forall_mem_cons.mpr ⟨x_ok47_1, List.forall_mem_cons.mpr ⟨x_ok47_2, fun _ h => absurd h List.not_mem_nil⟩⟩⟩
theorem x_oq47 : x_okq 47 [0, 1, 2] = true := by decide +kernel
theorem x_or47 : ∀ j, x_okj 47 j = true := x_okq_s x_oq47 x_ok47
theorem x_ok48 : ∀ j ∈ ([0, 1, 2, 3, 4, 5] : List Nat), x_okj 48 j = true := List.forall_mem_cons.mpr ⟨x_ok48_0, List.forall_mem_cons.mpr ⟨x_ok48_1, List.forall_mem_cons.mpr ⟨x_ok48_2, List.forall_mem_cons.mpr ⟨x_ok48_3, List.forall_mem_cons.mpr ⟨x_ok48_4, List.forall_mem_cons.mpr ⟨x_ok48_5, fun _ h => absurd h List.not_mem_nil⟩⟩⟩⟩⟩⟩
theorem x_oq48 : x_okq 48 [0, 1, 2, 3, 4, 5] = true := by decide +kernel
theorem x_or48 : ∀ j, x_okj 48 j = true := x_okq_s x_oq48 x_ok48
theorem x_ok49 : ∀ j ∈ ([0] : List Nat), x_okj 49 j = true := List.forall_mem_cons.mpr ⟨x_ok49_0, fun _ h => absurd h List.not_mem_nil⟩
theorem x_oq49 : x_okq 49 [0] = true := by decide +kernel
theorem x_or49 : ∀ j, x_okj 49 j = true := x_okq_s x_oq49 x_ok49
theorem x_ok50 : ∀ j ∈ ([0] : List Nat), x_okj 50 j = true := List.forall_mem_cons.mpr ⟨x_ok50_0, fun _ h => absurd h List.not_mem_nil⟩
theorem x_oq50 : x_okq 50 [0] = true := by decide +kernel
theorem x_or50 : ∀ j, x_okj 50 j = true := x_okq_s x_oq50 x_ok50
theorem x_ok51 : ∀ j ∈ ([0, 1, 2, 3, 4, 5] : List Nat), x_okj 51 j = true := List.forall_mem_cons.mpr ⟨x_ok51_0, List.forall_mem_cons.mpr ⟨x_ok51_1, List.forall_mem_cons.mpr ⟨x_ok51_2, List.forall_mem_cons.mpr ⟨x_ok51_3, List.forall_mem_cons.mpr ⟨x_ok51_4, List.forall_mem_cons.mpr ⟨x_ok51_5, fun _ h => absurd h List.not_mem_nil⟩⟩⟩⟩⟩⟩
theorem x_oq51 : x_okq 51 [0, 1, 2, 3, 4, 5] = true := by decide +kernel
theorem x_or51 : ∀ j, x_okj 51 j = true := x_okq_s x_oq51 x_ok51
theorem x_ok52 : ∀ j ∈ ([0, 1, 2] : List Nat), x_okj 52 j = true := List.forall_mem_cons.mpr ⟨x_ok52_0, List.forall_mem_cons.mpr ⟨x_ok52_1, List.forall_mem_cons.mpr ⟨x_ok52_2, fun _ h => absurd h List.not_mem_nil⟩⟩⟩
theorem x_oq52 : x_okq 52 [0, 1, 2] = true := by decide +kernel
theorem x_or52 : ∀ j, x_okj 52 j = true := x_okq_s x_oq52 x_ok52
theorem x_ok53 : ∀ j ∈ ([0, 1, 2] : List Nat), x_okj 53 j = true := List.forall_mem_cons.mpr ⟨x_ok53_0, List.forall_mem_cons.mpr ⟨x_ok53_1, List.forall_mem_cons.mpr ⟨x_ok53_2, fun _ h => absurd h List.not_mem_nil⟩⟩⟩
theorem x_oq53 : x_okq 53 [0, 1, 2] = true := by decide +kernel
theorem x_or53 : ∀ j, x_okj 53 j = true := x_okq_s x_oq53 x_ok53
theorem x_ok54 : ∀ j ∈ ([0, 1] : List Nat), x_okj 54 j = true := List.forall_mem_cons.mpr ⟨x_ok54_0, List.forall_mem_cons.mpr ⟨x_ok54_1, fun _ h => absurd h List.not_mem_nil⟩⟩
theorem x_oq54 : x_okq 54 [0, 1] = true := by decide +kernel
theorem x_or54 : ∀ j, x_okj 54 j = true := x_okq_s x_oq54 x_ok54
theorem x_ok55 : ∀ j ∈ ([0, 1] : List Nat), x_okj 55 j = true := List.forall_mem_cons.mpr ⟨x_ok55_0, List.forall_mem_cons.mpr ⟨x_ok55_1, fun _ h => absurd h List.not_mem_nil⟩⟩
theorem x_oq55 : x_okq 55 [0, 1] = true := by decide +kernel
theorem x_or55 : ∀ j, x_okj 55 j = true := x_okq_s x_oq55 x_ok55
theorem x_ok56 : ∀ j ∈ ([0, 1, 2, 3] : List Nat), x_okj 56 j = true := List.forall_mem_cons.mpr ⟨x_ok56_0, List.forall_mem_cons.mpr ⟨x_ok56_1, List.forall_mem_cons.mpr ⟨x_ok56_2, List.forall_mem_cons.mpr ⟨x_ok56_3, fun _ h => absurd h List.not_mem_nil⟩⟩⟩⟩
theorem x_oq56 : x_okq 56 [0, 1, 2, 3] = true := by decide +kernel
theorem x_or56 : ∀ j, x_okj 56 j = true := x_okq_s x_oq56 x_ok56
theorem x_ok57 : ∀ j ∈ ([0] : List Nat), x_okj 57 j = true := List.forall_mem_cons.mpr ⟨x_ok57_0, fun _ h => absurd h List.not_mem_nil⟩
theorem x_oq57 : x_okq 57 [0] = true := by decide +kernel
theorem x_or57 : ∀ j, x_okj 57 j = true := x_okq_s x_oq57 x_ok57
theorem x_ok58 : ∀ j ∈ ([0, 1, 2] : List Nat), x_okj 58 j = true := List.forall_mem_cons.mpr ⟨x_ok58_0, List.forall_mem_cons.mpr ⟨x_ok58_1, List.forall_mem_cons.mpr ⟨x_ok58_2, fun _ h => absurd h List.not_mem_nil⟩⟩⟩
theorem x_oq58 : x_okq 58 [0, 1, 2] = true := by decide +kernel
theorem x_or58 : ∀ j, x_okj 58 j = true := x_okq_s x_oq58 x_ok58
theorem x_ok59 : ∀ j ∈ ([0, 1, 2] : List Nat), x_okj 59 j = true := List.forall_mem_cons.mpr ⟨x_ok59_0, List.forall_mem_cons.mpr ⟨x_ok59_1, List.forall_mem_cons.mpr ⟨x_ok59_2, fun _ h => absurd h List.not_mem_nil⟩⟩⟩
theorem x_oq59 : x_okq 59 [0, 1, 2] = true := by decide +kernel
theorem x_or59 : ∀ j, x_okj 59 j = true := x_okq_s x_oq59 x_ok59
theorem x_ok60 : ∀ j ∈ ([0, 1] : List Nat), x_okj 60 j = true := List.forall_mem_cons.mpr ⟨x_ok60_0, List.forall_mem_cons.mpr ⟨x_ok60_1, fun _ h => absurd h List.not_mem_nil⟩⟩
theorem x_oq60 : x_okq 60 [0, 1] = true := by decide +kernel
theorem x_or60 : ∀ j, x_okj 60 j = true := x_okq_s x_oq60 x_ok60
theorem x_ok61 : ∀ j ∈ ([0, 1, 2] : List Nat), x_okj 61 j = true := List.forall_mem_cons.mpr ⟨x_ok61_0, List.forall_mem_cons.mpr ⟨x_ok61_1, List.forall_mem_cons.mpr ⟨x_ok61_2, fun _ h => absurd h List.not_mem_nil⟩⟩⟩
theorem x_oq61 : x_okq 61 [0, 1, 2] = true := by decide +kernel
theorem x_or61 : ∀ j, x_okj 61 j = true := x_okq_s x_oq61 x_ok61
theorem x_ok62 : ∀ j ∈ ([0, 1, 2, 3, 4] : List Nat), x_okj 62 j = true := List.forall_mem_cons.mpr ⟨x_ok62_0, List.forall_mem_cons.mpr ⟨x_ok62_1, List.forall_mem_cons.mpr ⟨x_ok62_2, List.forall_mem_cons.mpr ⟨x_ok62_3, List.forall_mem_cons.mpr ⟨x_ok62_4, fun _ h => absurd h List.not_mem_nil⟩⟩⟩⟩⟩
theorem x_oq62 : x_okq 62 [0, 1, 2, 3, 4] = true := by decide +kernel
theorem x_or62 : ∀ j, x_okj 62 j = true := x_okq_s x_oq62 x_ok62
theorem x_ok63 : ∀ j ∈ ([0, 1] : List Nat), x_okj 63 j = true := List.forall_mem_cons.mpr ⟨x_ok63_0, List.forall_mem_cons.mpr ⟨x_ok63_1, fun _ h => absurd h List.not_mem_nil⟩⟩
theorem x_oq63 : x_okq 63 [0, 1] = true := by decide +kernel
theorem x_or63 : ∀ j, x_okj 63 j = true := x_okq_s x_oq63 x_ok63
theorem x_ok64 : ∀ j ∈ ([0, 1, 2, 3] : List Nat), x_okj 64 j = true := List.forall_mem_cons.mpr ⟨x_ok64_0, List.forall_mem_cons.mpr ⟨x_ok64_1, List.forall_mem_cons.mpr ⟨x_ok64_2, List.forall_mem_cons.mpr ⟨x_ok64_3, fun _ h => absurd h List.not_mem_nil⟩⟩⟩⟩
theorem x_oq64 : x_okq 64 [0, 1, 2, 3] = true := by decide +kernel
theorem x_or64 : ∀ j, x_okj 64 j = true := x_okq_s x_oq64 x_ok64
theorem x_ok65 : ∀ j ∈ ([0, 1, 2] : List Nat), x_okj 65 j = true := List.forall_mem_cons.mpr ⟨x_ok65_0, List.forall_mem_cons.mpr ⟨x_ok65_1, List.forall_mem_cons.mpr ⟨x_ok65_2, fun _ h => absurd h List.not_mem_nil⟩⟩⟩
theorem x_oq65 : x_okq 65 [0, 1, 2] = true := by decide +kernel
theorem x_or65 : ∀ j, x_okj 65 j = true := x_okq_s x_oq65 x_ok65
theorem x_ok66 : ∀ j ∈ ([0] : List Nat), x_okj 66 j = true := List.forall_mem_cons.mpr ⟨x_ok66_0, fun _ h => absurd h List.not_mem_nil⟩
theorem x_oq66 : x_okq 66 [0] = true := by decide +kernel
theorem x_or66 : ∀ j, x_okj 66 j = true := x_okq_s x_oq66 x_ok66
theorem x_ok67 : ∀ j ∈ ([0, 1] : List Nat), x_okj 67 j = true := List.forall_mem_cons.mpr ⟨x_ok67_0, List.forall_mem_cons.mpr ⟨x_ok67_1, fun _ h => absurd h List.not_mem_nil⟩⟩
theorem x_oq67 : x_okq 67 [0, 1] = true := by decide +kernel
theorem x_or67 : ∀ j, x_okj 67 j = true := x_okq_s x_oq67 x_ok67
theorem x_ok68 : ∀ j ∈ ([0, 1, 2, 3, 4] : List Nat), x_okj 68 j = true := List.forall_mem_cons.mpr ⟨x_ok68_0, List.forall_mem_cons.mpr ⟨x_ok68_1, List.forall_mem_cons.mpr ⟨x_ok68_2, List.forall_mem_cons.mpr ⟨x_ok68_3, List.forall_mem_cons.mpr ⟨x_ok68_4, fun _ h => absurd h List.not_mem_nil⟩⟩⟩⟩⟩
theorem x_oq68 : x_okq 68 [0, 1, 2, 3, 4] = true := by decide +kernel
theorem x_or68 : ∀ j, x_okj 68 j = true := x_okq_s x_oq68 x_ok68
theorem x_ok69 : ∀ j ∈ ([0, 1] : List Nat), x_okj 69 j = true := List.forall_mem_cons.mpr ⟨x_ok69_0, List.forall_mem_cons.mpr ⟨x_ok69_1, fun _ h => absurd h List.not_mem_nil⟩⟩
theorem x_oq69 : x_okq 69 [0, 1] = true := by decide +kernel
theorem x_or69 : ∀ j, x_okj 69 j = true := x_okq_s x_oq69 x_ok69
theorem x_ok70 : ∀ j ∈ ([0, 1] : List Nat), x_okj 70 j = true := List.forall_mem_cons.mpr ⟨x_ok70_0, List.forall_mem_cons.mpr ⟨x_ok70_1, fun _ h => absurd h List.not_mem_nil⟩⟩
theorem x_oq70 : x_okq 70 [0, 1] = true := by decide +kernel
theorem x_or70 : ∀ j, x_okj 70 j = true := x_okq_s x_oq70 x_ok70
theorem x_ok71 : ∀ j ∈ ([0, 1, 2] : List Nat), x_okj 71 j = true := List.forall_mem_cons.mpr ⟨x_ok71_0, List.forall_mem_cons.mpr ⟨x_ok71_1, List.forall_mem_cons.mpr ⟨x_ok71_2, fun _ h => absurd h List.not_mem_nil⟩⟩⟩
theorem x_oq71 : x_okq 71 [0, 1, 2] = true := by decide +kernel
theorem x_or71 : ∀ j, x_okj 71 j = true := x_okq_s x_oq71 x_ok71
theorem x_ok72 : ∀ j ∈ ([0, 1, 2] : List Nat), x_okj 72 j = true := List.forall_mem_cons.mpr ⟨x_ok72_0, List.forall_mem_cons.mpr ⟨x_ok72_1, List.forall_mem_cons.mpr ⟨x_ok72_2, fun _ h => absurd h List.not_mem_nil⟩⟩⟩
theorem x_oq72 : x_okq 72 [0, 1, 2] = true := by decide +kernel
theorem x_or72 : ∀ j, x_okj 72 j = true := x_okq_s x_oq72 x_ok72
theorem x_ok73 : ∀ j ∈ ([0, 1] : List Nat), x_okj 73 j = true := List.forall_mem_cons.mpr ⟨x_ok73_0, List.forall_mem_cons.mpr ⟨x_ok73_1, fun _ h => absurd h List.not_mem_nil⟩⟩
theorem x_oq73 : x_okq 73 [0, 1] = true := by decide +kernel
theorem x_or73 : ∀ j, x_okj 73 j = true := x_okq_s x_oq73 x_ok73
theorem x_ok74 : ∀ j ∈ ([0] : List Nat), x_okj 74 j = true := List.forall_mem_cons.mpr ⟨x_ok74_0, fun _ h => absurd h List.not_mem_nil⟩
theorem x_oq74 : x_okq 74 [0] = true := by decide +kernel
theorem x_or74 : ∀ j, x_okj 74 j = true := x_okq_s x_oq74 x_ok74
theorem x_ok75 : ∀ j ∈ ([0, 1, 2, 3, 4] : List Nat), x_okj 75 j = true := List.forall_mem_cons.mpr ⟨x_ok75_0, List.forall_mem_cons.mpr ⟨x_ok75_1, List.forall_mem_cons.mpr ⟨x_ok75_2, List.forall_mem_cons.mpr ⟨x_ok75_3, List.forall_mem_cons.mpr ⟨x_ok75_4, fun _ h => absurd h List.not_mem_nil⟩⟩⟩⟩⟩
theorem x_oq75 : x_okq 75 [0, 1, 2, 3, 4] = true := by decide +kernel
theorem x_or75 : ∀ j, x_okj 75 j = true := x_okq_s x_oq75 x_ok75
theorem x_ok76 : ∀ j ∈ ([0] : List Nat), x_okj 76 j = true := List.forall_mem_cons.mpr ⟨x_ok76_0, fun _ h => absurd h List.not_mem_nil⟩
theorem x_oq76 : x_okq 76 [0] = true := by decide +kernel
theorem x_or76 : ∀ j, x_okj 76 j = true := x_okq_s x_oq76 x_ok76
theorem x_ok77 : ∀ j ∈ ([0] : List Nat), x_okj 77 j = true := List.forall_mem_cons.mpr ⟨x_ok77_0, fun _ h => absurd h List.not_mem_nil⟩
theorem x_oq77 : x_okq 77 [0] = true := by decide +kernel
theorem x_or77 : ∀ j, x_okj 77 j = true := x_okq_s x_oq77 x_ok77
theorem x_ok78 : ∀ j ∈ ([0] : List Nat), x_okj 78 j = true := List.forall_mem_cons.mpr ⟨x_ok78_0, fun _ h => absurd h List.not_mem_nil⟩
theorem x_oq78 : x_okq 78 [0] = true := by decide +kernel
theorem x_or78 : ∀ j, x_okj 78 j = true := x_okq_s x_oq78 x_ok78
theorem x_ok79 : ∀ j ∈ ([0] : List Nat), x_okj 79 j = true := List.forall_mem_cons.mpr ⟨x_ok79_0, fun _ h => absurd h List.not_mem_nil⟩
theorem x_oq79 : x_okq 79 [0] = true := by decide +kernel
theorem x_or79 : ∀ j, x_okj 79 j = true := x_okq_s x_oq79 x_ok79
theorem x_ok80 : ∀ j ∈ ([0, 1] : List Nat), x_okj 80 j = true := List.forall_mem_cons.mpr ⟨x_ok80_0, List.forall_mem_cons.mpr ⟨x_ok80_1, fun _ h => absurd h List.not_mem_nil⟩⟩
theorem x_oq80 : x_okq 80 [0, 1] = true := by decide +kernel
theorem x_or80 : ∀ j, x_okj 80 j = true := x_okq_s x_oq80 x_ok80
theorem x_ok81 : ∀ j ∈ ([0, 1, 2] : List Nat), x_okj 81 j = true := List.forall_mem_cons.mpr ⟨x_ok81_0, List.forall_mem_cons.mpr ⟨x_ok81_1, List.forall_mem_cons.mpr ⟨x_ok81_2, fun _ h => absurd h List.not_mem_nil⟩⟩⟩
theorem x_oq81 : x_okq 81 [0, 1, 2] = true := by decide +kernel
theorem x_or81 : ∀ j, x_okj 81 j = true := x_okq_s x_oq81 x_ok81
theorem x_ok82 : ∀ j ∈ ([0, 1, 2, 3, 4, 5] : List Nat), x_okj 82 j = true := List.forall_mem_cons.mpr ⟨x_ok82_0, List.forall_mem_cons.mpr ⟨x_ok82_1, List.forall_mem_cons.mpr ⟨x_ok82_2, List.forall_mem_cons.mpr ⟨x_ok82_3, List.forall_mem_cons.mpr ⟨x_ok82_4, List.forall_mem_cons.mpr ⟨x_ok82_5, fun _ h => absurd h List.not_mem_nil⟩⟩⟩⟩⟩⟩
theorem x_oq82 : x_okq 82 [0, 1, 2, 3, 4, 5] = true := by decide +kernel
theorem x_or82 : ∀ j, x_okj 82 j = true := x_okq_s x_oq82 x_ok82
theorem x_ok83 : ∀ j ∈ ([0, 1] : List Nat), x_okj 83 j = true := List.forall_mem_cons.mpr ⟨x_ok83_0, List.forall_mem_cons.mpr ⟨x_ok83_1, fun _ h => absurd h List.not_mem_nil⟩⟩
theorem x_oq83 : x_okq 83 [0, 1] = true := by decide +kernel
theorem x_or83 : ∀ j, x_okj 83 j = true := x_okq_s x_oq83 x_ok83
theorem x_ok84 : ∀ j ∈ ([0, 1, 2] : List Nat), x_okj 84 j = true := List.forall_mem_cons.mpr ⟨x_ok84_0, List.forall_mem_cons.mpr ⟨x_ok84_1, List.forall_mem_cons.mpr ⟨x_ok84_2, fun _ h => absurd h List.not_mem_nil⟩⟩⟩
theorem x_oq84 : x_okq 84 [0, 1, 2] = true := by decide +kernel
theorem x_or84 : ∀ j, x_okj 84 j = true := x_okq_s x_oq84 x_ok84
theorem x_ok85 : ∀ j ∈ ([0, 1, 2] : List Nat), x_okj 85 j = true := List.forall_mem_cons.mpr ⟨x_ok85_0, List.forall_mem_cons.mpr ⟨x_ok85_1, List.forall_mem_cons.mpr ⟨x_ok85_2, fun _ h => absurd h List.not_mem_nil⟩⟩⟩
theorem x_oq85 : x_okq 85 [0, 1, 2] = true := by decide +kernel
theorem x_or85 : ∀ j, x_okj 85 j = true := x_okq_s x_oq85 x_ok85
theorem x_ok86 : ∀ j ∈ ([0, 1, 2] : List Nat), x_okj 86 j = true := List.forall_mem_cons.mpr ⟨x_ok86_0, List.forall_mem_cons.mpr ⟨x_ok86_1, List.forall_mem_cons.mpr ⟨x_ok86_2, fun _ h => absurd h List.not_mem_nil⟩⟩⟩
theorem x_oq86 : x_okq 86 [0, 1, 2] = true := by decide +kernel
theorem x_or86 : ∀ j, x_okj 86 j = true := x_okq_s x_oq86 x_ok86
theorem x_ok87 : ∀ j ∈ ([0, 1] : List Nat), x_okj 87 j = true := List.forall_mem_cons.mpr ⟨x_ok87_0, List.forall_mem_cons.mpr ⟨x_ok87_1, fun _ h => absurd h List.not_mem_nil⟩⟩
theorem x_oq87 : x_okq 87 [0, 1] = true := by decide +kernel
theorem x_or87 : ∀ j, x_okj 87 j = true := x_okq_s x_oq87 x_ok87
theorem x_ok88 : ∀ j ∈ ([0, 1, 2, 3, 4, 5, 6] : List Nat), x_okj 88 j = true := List.forall_mem_cons.mpr ⟨x_ok88_0, List.forall_mem_cons.mpr ⟨x_ok88_1, List.forall_mem_cons.mpr ⟨x_ok88_2, List.forall_mem_cons.mpr ⟨x_ok88_3, List.forall_mem_cons.mpr ⟨x_ok88_4, List.forall_mem_cons.mpr ⟨x_ok88_5, List.forall_mem_cons.mpr ⟨x_ok88_6, fun _ h => absurd h List.not_mem_nil⟩⟩⟩⟩⟩⟩⟩
theorem x_oq88 : x_okq 88 [0, 1, 2, 3, 4, 5, 6] = true := by decide +kernel
theorem x_or88 : ∀ j, x_okj 88 j = true := x_okq_s x_oq88 x_ok88
theorem x_ok89 : ∀ j ∈ ([0, 1, 2, 3, 4] : List Nat), x_okj 89 j = true := List.forall_mem_cons.mpr ⟨x_ok89_0, List.forall_mem_cons.mpr ⟨x_ok89_1, List.forall_mem_cons.mpr ⟨x_ok89_2, List.forall_mem_cons.mpr ⟨x_ok89_3, List.forall_mem_cons.mpr ⟨x_ok89_4, fun _ h => absurd h List.not_mem_nil⟩⟩⟩⟩⟩
theorem x_oq89 : x_okq 89 [0, 1, 2, 3, 4] = true := by decide +kernel
theorem x_or89 : ∀ j, x_okj 89 j = true := x_okq_s x_oq89 x_ok89
theorem x_ok90 : ∀ j ∈ ([0, 1, 2, 3, 4, 5] : List Nat), x_okj 90 j = true := List.forall_mem_cons.mpr ⟨x_ok90_0, List.forall_mem_cons.mpr ⟨x_ok90_1, List.forall_mem_cons.mpr ⟨x_ok90_2, List.forall_mem_cons.mpr ⟨x_ok90_3, List.forall_mem_cons.mpr ⟨x_ok90_4, List.forall_mem_cons.mpr ⟨x_ok90_5, fun _ h => absurd h List.not_mem_nil⟩⟩⟩⟩⟩⟩
theorem x_oq90 : x_okq 90 [0, 1, 2, 3, 4, 5] = true := by decide +kernel
theorem x_or90 : ∀ j, x_okj 90 j = true := x_okq_s x_oq90 x_ok90
theorem x_ok91 : ∀ j ∈ ([0, 1] : List Nat), x_okj 91 j = true := List.forall_mem_cons.mpr ⟨x_ok91_0, List.forall_mem_cons.mpr ⟨x_ok91_1, fun _ h => absurd h List.not_mem_nil⟩⟩
theorem x_oq91 : x_okq 91 [0, 1] = true := by decide +kernel
theorem x_or91 : ∀ j, x_okj 91 j = true := x_okq_s x_oq91 x_ok91
theorem x_ok92 : ∀ j ∈ ([0] : List Nat), x_okj 92 j = true := List.forall_mem_cons.mpr ⟨x_ok92_0, fun _ h => absurd h List.not_mem_nil⟩
theorem x_oq92 : x_okq 92 [0] = true := by decide +kernel
theorem x_or92 : ∀ j, x_okj 92 j = true := x_okq_s x_oq92 x_ok92
theorem x_ok93 : ∀ j ∈ ([0, 1] : List Nat), x_okj 93 j = true := List.forall_mem_cons.mpr ⟨x_ok93_0, List.forall_mem_cons.mpr ⟨x_ok93_1, fun _ h => absurd h List.not_mem_nil⟩⟩
theorem x_oq93 : x_okq 93 [0, 1] = true := by decide +kernel
theorem x_or93 : ∀ j, x_okj 93 j = true := x_okq_s x_oq93 x_ok93
theorem x_ok94 : ∀ j ∈ ([0] : List Nat), x_okj 94 j = true := List.forall_mem_cons.mpr ⟨x_ok94_0, fun _ h => absurd h List.not_mem_nil⟩
theorem x_oq94 : x_okq 94 [0] = true := by decide +kernel
theorem x_or94 : ∀ j, x_okj 94 j = true := x_okq_s x_oq94 x_ok94
theorem x_ok95 : ∀ j ∈ ([0] : List Nat), x_okj 95 j = true := List.forall_mem_cons.mpr ⟨x_ok95_0, fun _ h => absurd h List.not_mem_nil⟩
theorem x_oq95 : x_okq 95 [0] = true := by decide +kernel
theorem x_or95 : ∀ j, x_okj 95 j = true := x_okq_s x_oq95 x_ok95
theorem x_ok96 : ∀ j ∈ ([0, 1, 2, 3, 4, 5, 6, 7] : List Nat), x_okj 96 j = true := List.forall_mem_cons.mpr ⟨x_ok96_0, List.forall_mem_cons.mpr ⟨x_ok96_1, List.forall_mem_cons.mpr ⟨x_ok96_2, List.forall_mem_cons.mpr ⟨x_ok96_3, List.forall_mem_cons.mpr ⟨x_ok96_4, List.forall_mem_cons.mpr ⟨x_ok96_5, List.forall_mem_cons.mpr ⟨x_ok96_6, List.forall_mem_cons.mpr ⟨x_ok96_7, fun _ h => absurd h List.not_mem_nil⟩⟩⟩⟩⟩⟩⟩⟩
theorem x_oq96 : x_okq 96 [0, 1, 2, 3, 4, 5, 6, 7] = true := by decide +kernel
theorem x_or96 : ∀ j, x_okj 96 j = true := x_okq_s x_oq96 x_ok96
theorem x_ok97 : ∀ j ∈ ([0, 1] : List Nat), x_okj 97 j = true := List.forall_mem_cons.mpr ⟨x_ok97_0, List.forall_mem_cons.mpr ⟨x_ok97_1, fun _ h => absurd h List.not_mem_nil⟩⟩
theorem x_oq97 : x_okq 97 [0, 1] = true := by decide +kernel
theorem x_or97 : ∀ j, x_okj 97 j = true := x_okq_s x_oq97 x_ok97
theorem x_ok98 : ∀ j ∈ ([0, 1, 2, 3, 4] : List Nat), x_okj 98 j = true := List.forall_mem_cons.mpr ⟨x_ok98_0, List.forall_mem_cons.mpr ⟨x_ok98_1, List.forall_mem_cons.mpr ⟨x_ok98_2, List.forall_mem_cons.mpr ⟨x_ok98_3, List.forall_mem_cons.mpr ⟨x_ok98_4, fun _ h => absurd h List.not_mem_nil⟩⟩⟩⟩⟩
theorem x_oq98 : x_okq 98 [0, 1, 2, 3, 4] = true := by decide +kernel
theorem x_or98 : ∀ j, x_okj 98 j = true := x_okq_s x_oq98 x_ok98
theorem x_ok99 : ∀ j ∈ ([0, 1] : List Nat), x_okj 99 j = true := List.forall_mem_cons.mpr ⟨x_ok99_0, List.forall_mem_cons.mpr ⟨x_ok99_1, fun _ h => absurd h List.not_mem_nil⟩⟩
theorem x_oq99 : x_okq 99 [0, 1] = true := by decide +kernel
theorem x_or99 : ∀ j, x_okj 99 j = true := x_okq_s x_oq99 x_ok99
theorem x_ok100 : ∀ j ∈ ([0, 1] : List Nat), x_okj 100 j = true := List.forall_mem_cons.mpr ⟨x_ok100_0, List.forall_mem_cons.mpr ⟨x_ok100_1, fun _ h => absurd h List.not_mem_nil⟩⟩
theorem x_oq100 : x_okq 100 [0, 1] = true := by decide +kernel
theorem x_or100 : ∀ j, x_okj 100 j = true := x_okq_s x_oq100 x_ok100
theorem x_ok101 : ∀ j ∈ ([0] : List Nat), x_okj 101 j = true := List.forall_mem_cons.mpr ⟨x_ok101_0, fun _ h => absurd h List.not_mem_nil⟩
theorem x_oq101 : x_okq 101 [0] = true := by decide +kernel
theorem x_or101 : ∀ j, x_okj 101 j = true := x_okq_s x_oq101 x_ok101
theorem x_ok102 : ∀ j ∈ ([0] : List Nat), x_okj 102 j = true := List.forall_mem_cons.mpr ⟨x_ok102_0, fun _ h => absurd h List.not_mem_nil⟩
theorem x_oq102 : x_okq 102 [0] = true := by decide +kernel
theorem x_or102 : ∀ j, x_okj 102 j = true := x_okq_s x_oq102 x_ok102
theorem x_ok103 : ∀ j ∈ ([0, 1, 2, 3] : List Nat), x_okj 103 j = true := List.forall_mem_cons.mpr ⟨x_ok103_0, List.forall_mem_cons.mpr ⟨x_ok103_1, List.forall_mem_cons.mpr ⟨x_ok103_2, List.forall_mem_cons.mpr ⟨x_ok103_3, fun _ h => absurd h List.not_mem_nil⟩⟩⟩⟩
theorem x_oq103 : x_okq 103 [0, 1, 2, 3] = true := by decide +kernel
theorem x_or103 : ∀ j, x_okj 103 j = true := x_okq_s x_oq103 x_ok103
theorem x_ok104 : ∀ j ∈ ([0, 1] : List Nat), x_okj 104 j = true := List.forall_mem_cons.mpr ⟨x_ok104_0, List.forall_mem_cons.mpr ⟨x_ok104_1, fun _ h => absurd h List.not_mem_nil⟩⟩
theorem x_oq104 : x_okq 104 [0, 1] = true := by decide +kernel
theorem x_or104 : ∀ j, x_okj 104 j = true := x_okq_s x_oq104 x_ok104
theorem x_ok105 : ∀ j ∈ ([0] : List Nat), x_okj 105 j = true := List.forall_mem_cons.mpr ⟨x_ok105_0, fun _ h => absurd h List.not_mem_nil⟩
theorem x_oq105 : x_okq 105 [0] = true := by decide +kernel
theorem x_or105 : ∀ j, x_okj 105 j = true := x_okq_s x_oq105 x_ok105
theorem x_ok106 : ∀ j ∈ ([0, 1] : List Nat), x_okj 106 j = true := List.forall_mem_cons.mpr ⟨x_ok106_0, List.forall_mem_cons.mpr ⟨x_ok106_1, fun _ h => absurd h List.not_mem_nil⟩⟩
theorem x_oq106 : x_okq 106 [0, 1] = true := by decide +kernel
theorem x_or106 : ∀ j, x_okj 106 j = true := x_okq_s x_oq106 x_ok106
theorem x_ok107 : ∀ j ∈ ([0, 1, 2, 3, 4] : List Nat), x_okj 107 j = true := List.forall_mem_cons.mpr ⟨x_ok107_0, List.forall_mem_cons.mpr ⟨x_ok107_1, List.forall_mem_cons.mpr ⟨x_ok107_2, List.forall_mem_cons.mpr ⟨x_ok107_3, List.forall_mem_cons.mpr ⟨x_ok107_4, fun _ h => absurd h List.not_mem_nil⟩⟩⟩⟩⟩
theorem x_oq107 : x_okq 107 [0, 1, 2, 3, 4] = true := by decide +kernel
theorem x_or107 : ∀ j, x_okj 107 j = true := x_okq_s x_oq107 x_ok107
theorem x_ok108 : ∀ j ∈ ([0, 1, 2, 3, 4] : List Nat), x_okj 108 j = true := List.forall_mem_cons.mpr ⟨x_ok108_0, List.forall_mem_cons.mpr ⟨x_ok108_1, List.forall_mem_cons.mpr ⟨x_ok108_2, List.forall_mem_cons.mpr ⟨x_ok108_3, List.forall_mem_cons.mpr ⟨x_ok108_4, fun _ h => absurd h List.not_mem_nil⟩⟩⟩⟩⟩
theorem x_oq108 : x_okq 108 [0, 1, 2, 3, 4] = true := by decide +kernel
theorem x_or108 : ∀ j, x_okj 108 j = true := x_okq_s x_oq108 x_ok108
theorem x_ok109 : ∀ j ∈ ([0, 1, 2] : List Nat), x_okj 109 j = true := List.forall_mem_cons.mpr ⟨x_ok109_0, List.forall_mem_cons.mpr ⟨x_ok109_1, List.forall_mem_cons.mpr ⟨x_ok109_2, fun _ h => absurd h List.not_mem_nil⟩⟩⟩
theorem x_oq109 : x_okq 109 [0, 1, 2] = true := by decide +kernel
theorem x_or109 : ∀ j, x_okj 109 j = true := x_okq_s x_oq109 x_ok109
theorem x_ok110 : ∀ j ∈ ([0, 1, 2, 3, 4, 5, 6, 7, 8] : List Nat), x_okj 110 j = true := List.forall_mem_cons.mpr ⟨x_ok110_0, List.forall_mem_cons.mpr ⟨x_ok110_1, List.forall_mem_cons.mpr ⟨x_ok110_2, List.forall_mem_cons.mpr ⟨x_ok110_3, List.forall_mem_cons.mpr ⟨x_ok110_4, List.forall_mem_cons.mpr ⟨x_ok110_5, List.forall_mem_cons.mpr ⟨x_ok110_6, List.forall_mem_cons.mpr ⟨x_ok110_7, List.forall_mem_cons.mpr ⟨x_ok110_8, fun _ h => absurd h List.not_mem_nil⟩⟩⟩⟩⟩⟩⟩⟩⟩
theorem x_oq110 : x_okq 110 [0, 1, 2, 3, 4, 5, 6, 7, 8] = true := by decide +kernel
theorem x_or110 : ∀ j, x_okj 110 j = true := x_okq_s x_oq110 x_ok110
theorem x_ok111 : ∀ j ∈ ([0] : List Nat), x_okj 111 j = true := List.forall_mem_cons.mpr ⟨x_ok111_0, fun _ h => absurd h List.not_mem_nil⟩
theorem x_oq111 : x_okq 111 [0] = true := by decide +kernel
theorem x_or111 : ∀ j, x_okj 111 j = true := x_okq_s x_oq111 x_ok111
theorem x_ok112 : ∀ j ∈ ([0] : List Nat), x_okj 112 j = true := List.forall_mem_cons.mpr ⟨x_ok112_0, fun _ h => absurd h List.not_mem_nil⟩
theorem x_oq112 : x_okq 112 [0] = true := by decide +kernel
theorem x_or112 : ∀ j, x_okj 112 j = true := x_okq_s x_oq112 x_ok112
theorem x_ok113 : ∀ j ∈ ([0, 1, 2, 3] : List Nat), x_okj 113 j = true := List.forall_mem_cons.mpr ⟨x_ok113_0, List.forall_mem_cons.mpr ⟨x_ok113_1, List.forall_mem_cons.mpr ⟨x_ok113_2, List.forall_mem_cons.mpr ⟨x_ok113_3, fun _ h => absurd h List.not_mem_nil⟩⟩⟩⟩
theorem x_oq113 : x_okq 113 [0, 1, 2, 3] = true := by decide +kernel
theorem x_or113 : ∀ j, x_okj 113 j = true := x_okq_s x_oq113 x_ok113
theorem x_ok114 : ∀ j ∈ ([0, 1, 2, 3] : List Nat), x_okj 114 j = true := List.forall_mem_cons.mpr ⟨x_ok114_0, List.forall_mem_cons.mpr ⟨x_ok114_1, List.forall_mem_cons.mpr ⟨x_ok114_2, List.forall_mem_cons.mpr ⟨x_ok114_3, fun _ h => absurd h List.not_mem_nil⟩⟩⟩⟩
theorem x_oq114 : x_okq 114 [0, 1, 2, 3] = true := by decide +kernel
theorem x_or114 : ∀ j, x_okj 114 j = true := x_okq_s x_oq114 x_ok114
theorem x_ok115 : ∀ j ∈ ([0, 1, 2] : List Nat), x_okj 115 j = true := List.forall_mem_cons.mpr ⟨x_ok115_0, List.forall_mem_cons.mpr ⟨x_ok115_1, List.forall_mem_cons.mpr ⟨x_ok115_2, fun _ h => absurd h List.not_mem_nil⟩⟩⟩
theorem x_oq115 : x_okq 115 [0, 1, 2] = true := by decide +kernel
theorem x_or115 : ∀ j, x_okj 115 j = true := x_okq_s x_oq115 x_ok115
theorem x_ok116 : ∀ j ∈ ([0, 1] : List Nat), x_okj 116 j = true := List.forall_mem_cons.mpr ⟨x_ok116_0, List.forall_mem_cons.mpr ⟨x_ok116_1, fun _ h => absurd h List.not_mem_nil⟩⟩
theorem x_oq116 : x_okq 116 [0, 1] = true := by decide +kernel
theorem x_or116 : ∀ j, x_okj 116 j = true := x_okq_s x_oq116 x_ok116
theorem x_ok117 : ∀ j ∈ ([0, 1, 2, 3] : List Nat), x_okj 117 j = true := List.forall_mem_cons.mpr ⟨x_ok117_0, List.forall_mem_cons.mpr ⟨x_ok117_1, List.forall_mem_cons.mpr ⟨x_ok117_2, List.forall_mem_cons.mpr ⟨x_ok117_3, fun _ h => absurd h List.not_mem_nil⟩⟩⟩⟩
theorem x_oq117 : x_okq 117 [0, 1, 2, 3] = true := by decide +kernel
theorem x_or117 : ∀ j, x_okj 117 j = true := x_okq_s x_oq117 x_ok117
theorem x_ok118 : ∀ j ∈ ([0, 1, 2, 3, 4, 5, 6, 7] : List Nat), x_okj 118 j = true := List.forall_mem_cons.mpr ⟨x_ok118_0, List.forall_mem_cons.mpr ⟨x_ok118_1, List.forall_mem_cons.mpr ⟨x_ok118_2, List.forall_mem_cons.mpr ⟨x_ok118_3, List.forall_mem_cons.mpr ⟨x_ok118_4, List.forall_mem_cons.mpr ⟨x_ok118_5, List.forall_mem_cons.mpr ⟨x_ok118_6, List.forall_mem_cons.mpr ⟨x_ok118_7, fun _ h => absurd h List.not_mem_nil⟩⟩⟩⟩⟩⟩⟩⟩
theorem x_oq118 : x_okq 118 [0, 1, 2, 3, 4, 5, 6, 7] = true := by decide +kernel
theorem x_or118 : ∀ j, x_okj 118 j = true := x_okq_s x_oq118 x_ok118
theorem x_ok119 : ∀ j ∈ ([0, 1] : List Nat), x_okj 119 j = true := List.forall_mem_cons.mpr ⟨x_ok119_0, List.forall_mem_cons.mpr ⟨x_ok119_1, fun _ h => absurd h List.not_mem_nil⟩⟩
theorem x_oq119 : x_okq 119 [0, 1] = true := by decide +kernel
theorem x_or119 : ∀ j, x_okj 119 j = true := x_okq_s x_oq119 x_ok119
theorem x_ok120 : ∀ j ∈ ([0] : List Nat), x_okj 120 j = true := List.forall_mem_cons.mpr ⟨x_ok120_0, fun _ h => absurd h List.not_mem_nil⟩
theorem x_oq120 : x_okq 120 [0] = true := by decide +kernel
theorem x_or120 : ∀ j, x_okj 120 j = true := x_okq_s x_oq120 x_ok120
theorem x_ok121 : ∀ j ∈ ([0, 1, 2] : List Nat), x_okj 121 j = true := List.forall_mem_cons.mpr ⟨x_ok121_0, List.forall_mem_cons.mpr ⟨x_ok121_1, List.forall_mem_cons.mpr ⟨x_ok121_2, fun _ h => absurd h List.not_mem_nil⟩⟩⟩
theorem x_oq121 : x_okq 121 [0, 1, 2] = true := by decide +kernel
theorem x_or121 : ∀ j, x_okj 121 j = true := x_okq_s x_oq121 x_ok121
theorem x_ok122 : ∀ j ∈ ([0] : List Nat), x_okj 122 j = true := List.forall_mem_cons.mpr ⟨x_ok122_0, fun _ h => absurd h List.not_mem_nil⟩
theorem x_oq122 : x_okq 122 [0] = true := by decide +kernel
theorem x_or122 : ∀ j, x_okj 122 j = true := x_okq_s x_oq122 x_ok122
theorem x_ok123 : ∀ j ∈ ([0, 1, 2] : List Nat), x_okj 123 j = true := List.forall_mem_cons.mpr ⟨x_ok123_0, List.forall_mem_cons.mpr ⟨x_ok123_1, List.forall_mem_cons.mpr ⟨x_ok123_2, fun _ h => absurd h List.not_mem_nil⟩⟩⟩
theorem x_oq123 : x_okq 123 [0, 1, 2] = true := by decide +kernel
theorem x_or123 : ∀ j, x_okj 123 j = true := x_okq_s x_oq123 x_ok123
theorem x_ok124 : ∀ j ∈ ([0, 1] : List Nat), x_okj 124 j = true := List.forall_mem_cons.mpr ⟨x_ok124_0, List.forall_mem_cons.mpr ⟨x_ok124_1, fun _ h => absurd h List.not_mem_nil⟩⟩
theorem x_oq124 : x_okq 124 [0, 1] = true := by decide +kernel
theorem x_or124 : ∀ j, x_okj 124 j = true := x_okq_s x_oq124 x_ok124
theorem x_ok125 : ∀ j ∈ ([0, 1, 2] : List Nat), x_okj 125 j = true := List.forall_mem_cons.mpr ⟨x_ok125_0, List.forall_mem_cons.mpr ⟨x_ok125_1, List.forall_mem_cons.mpr ⟨x_ok125_2, fun _ h => absurd h List.not_mem_nil⟩⟩⟩
theorem x_oq125 : x_okq 125 [0, 1, 2] = true := by decide +kernel
theorem x_or125 : ∀ j, x_okj 125 j = true := x_okq_s x_oq125 x_ok125
theorem x_ok126 : ∀ j ∈ ([0] : List Nat), x_okj 126 j = true := List.forall_mem_cons.mpr ⟨x_ok126_0, fun _ h => absurd h List.not_mem_nil⟩
theorem x_oq126 : x_okq 126 [0] = true := by decide +kernel
theorem x_or126 : ∀ j, x_okj 126 j = true := x_okq_s x_oq126 x_ok126
theorem x_ok127 : ∀ j ∈ ([0, 1, 2] : List Nat), x_okj 127 j = true := List.forall_mem_cons.mpr ⟨x_ok127_0, List.forall_mem_cons.mpr ⟨x_ok127_1, List.forall_mem_cons.mpr ⟨x_ok127_2, fun _ h => absurd h List.not_mem_nil⟩⟩⟩
theorem x_oq127 : x_okq 127 [0, 1, 2] = true := by decide +kernel
theorem x_or127 : ∀ j, x_okj 127 j = true := x_okq_s x_oq127 x_ok127
theorem x_ok128 : ∀ j ∈ ([0, 1, 2, 3] : List Nat), x_okj 128 j = true := List.forall_mem_cons.mpr ⟨x_ok128_0, List.forall_mem_cons.mpr ⟨x_ok128_1, List.forall_mem_cons.mpr ⟨x_ok128_2, List.forall_mem_cons.mpr ⟨x_ok128_3, fun _ h => absurd h List.not_mem_nil⟩⟩⟩⟩
theorem x_oq128 : x_okq 128 [0, 1, 2, 3] = true := by decide +kernel
theorem x_or128 : ∀ j, x_okj 128 j = true := x_okq_s x_oq128 x_ok128
theorem x_ok129 : ∀ j ∈ ([0, 1] : List Nat), x_okj 129 j = true := List.forall_mem_cons.mpr ⟨x_ok129_0, List.forall_mem_cons.mpr ⟨x_ok129_1, fun _ h => absurd h List.not_mem_nil⟩⟩
theorem x_oq129 : x_okq 129 [0, 1] = true := by decide +kernel
theorem x_or129 : ∀ j, x_okj 129 j = true := x_okq_s x_oq129 x_ok129
theorem x_ok130 : ∀ j ∈ ([0, 1] : List Nat), x_okj 130 j = true := List.forall_mem_cons.mpr ⟨x_ok130_0, List.forall_mem_cons.mpr ⟨x_ok130_1, fun _ h => absurd h List.not_mem_nil⟩⟩
theorem x_oq130 : x_okq 130 [0, 1] = true := by decide +kernel
theorem x_or130 : ∀ j, x_okj 130 j = true := x_okq_s x_oq130 x_ok130
theorem x_ok131 : ∀ j ∈ ([0, 1] : List Nat), x_okj 131 j = true := List.forall_mem_cons.mpr ⟨x_ok131_0, List.forall_mem_cons.mpr ⟨x_ok131_1, fun _ h => absurd h List.not_mem_nil⟩⟩
theorem x_oq131 : x_okq 131 [0, 1] = true := by decide +kernel
theorem x_or131 : ∀ j, x_okj 131 j = true := x_okq_s x_oq131 x_ok131
theorem x_ok132 : ∀ j ∈ ([0, 1, 2] : List Nat), x_okj 132 j = true := List.forall_mem_cons.mpr ⟨x_ok132_0, List.forall_mem_cons.mpr ⟨x_ok132_1, List.forall_mem_cons.mpr ⟨x_ok132_2, fun _ h => absurd h List.not_mem_nil⟩⟩⟩
theorem x_oq132 : x_okq 132 [0, 1, 2] = true := by decide +kernel
theorem x_or132 : ∀ j, x_okj 132 j = true := x_okq_s x_oq132 x_ok132
theorem x_ok133 : ∀ j ∈ ([0] : List Nat), x_okj 133 j = true := List.forall_mem_cons.mpr ⟨x_ok133_0, fun _ h => absurd h List.not_mem_nil⟩
theorem x_oq133 : x_okq 133 [0] = true := by decide +kernel
theorem x_or133 : ∀ j, x_okj 133 j = true := x_okq_s x_oq133 x_ok133
theorem x_ok134 : ∀ j ∈ ([0, 1] : List Nat), x_okj 134 j = true := List.forall_mem_cons.mpr ⟨x_ok134_0, List.forall_mem_cons.mpr ⟨x_ok134_1, fun _ h => absurd h List.not_mem_nil⟩⟩
theorem x_oq134 : x_okq 134 [0, 1] = true := by decide +kernel
theorem x_or134 : ∀ j, x_okj 134 j = true := x_okq_s x_oq134 x_ok134
theorem x_ok135 : ∀ j ∈ ([0, 1, 2] : List Nat), x_okj 135 j = true := List.forall_mem_cons.mpr ⟨x_ok135_0, List.forall_mem_cons.mpr ⟨x_ok135_1, List.forall_mem_cons.mpr ⟨x_ok135_2, fun _ h => absurd h List.not_mem_nil⟩⟩⟩
theorem x_oq135 : x_okq 135 [0, 1, 2] = true := by decide +kernel
theorem x_or135 : ∀ j, x_okj 135 j = true := x_okq_s x_oq135 x_ok135
theorem x_ok136 : ∀ j ∈ ([0, 1, 2] : List Nat), x_okj 136 j = true := List.forall_mem_cons.mpr ⟨x_ok136_0, List.forall_mem_cons.mpr ⟨x_ok136_1, List.forall_mem_cons.mpr ⟨x_ok136_2, fun _ h => absurd h List.not_mem_nil⟩⟩⟩
theorem x_oq136 : x_okq 136 [0, 1, 2] = true := by decide +kernel
theorem x_or136 : ∀ j, x_okj 136 j = true := x_okq_s x_oq136 x_ok136
theorem x_ok137 : ∀ j ∈ ([0, 1] : List Nat), x_okj 137 j = true := List.forall_mem_cons.mpr ⟨x_ok137_0, List.forall_mem_cons.mpr ⟨x_ok137_1, fun _ h => absurd h List.not_mem_nil⟩⟩
theorem x_oq137 : x_okq 137 [0, 1] = true := by decide +kernel
theorem x_or137 : ∀ j, x_okj 137 j = true := x_okq_s x_oq137 x_ok137
theorem x_ok138 : ∀ j ∈ ([0, 1] : List Nat), x_okj 138 j = true := List.forall_mem_cons.mpr ⟨x_ok138_0, List.forall_mem_cons.mpr ⟨x_ok138_1, fun _ h => absurd h List.not_mem_nil⟩⟩
theorem x_oq138 : x_okq 138 [0, 1] = true := by decide +kernel
theorem x_or138 : ∀ j, x_okj 138 j = true := x_okq_s x_oq138 x_ok138
theorem x_ok139 : ∀ j ∈ ([0] : List Nat), x_okj 139 j = true := List.forall_mem_cons.mpr ⟨x_ok139_0, fun _ h => absurd h List.not_mem_nil⟩
theorem x_oq139 : x_okq 139 [0] = true := by decide +kernel
theorem x_or139 : ∀ j, x_okj 139 j = true := x_okq_s x_oq139 x_ok139
theorem x_ok140 : ∀ j ∈ ([0, 1] : List Nat), x_okj 140 j = true := List.forall_mem_cons.mpr ⟨x_ok140_0, List.forall_mem_cons.mpr ⟨x_ok140_1, fun _ h => absurd h List.not_mem_nil⟩⟩
theorem x_oq140 : x_okq 140 [0, 1] = true := by decide +kernel
theorem x_or140 : ∀ j, x_okj 140 j = true := x_okq_s x_oq140 x_ok140
theorem x_ok141 : ∀ j ∈ ([0, 1] : List Nat), x_okj 141 j = true := List.forall_mem_cons.mpr ⟨x_ok141_0, List.forall_mem_cons.mpr ⟨x_ok141_1, fun _ h => absurd h List.not_mem_nil⟩⟩
theorem x_oq141 : x_okq 141 [0, 1] = true := by decide +kernel
theorem x_or141 : ∀ j, x_okj 141 j = true := x_okq_s x_oq141 x_ok141
theorem x_ok142 : ∀ j ∈ ([0, 1] : List Nat), x_okj 142 j = true := List.forall_mem_cons.mpr ⟨x_ok142_0, List.forall_mem_cons.mpr ⟨x_ok142_1, fun _ h => absurd h List.not_mem_nil⟩⟩
theorem x_oq142 : x_okq 142 [0, 1] = true := by decide +kernel
theorem x_or142 : ∀ j, x_okj 142 j = true := x_okq_s x_oq142 x_ok142
theorem x_ok143 : ∀ j ∈ ([0, 1] : List Nat), x_okj 143 j = true := List.forall_mem_cons.mpr ⟨x_ok143_0, List.forall_mem_cons.mpr ⟨x_ok143_1, fun _ h => absurd h List.not_mem_nil⟩⟩
theorem x_oq143 : x_okq 143 [0, 1] = true := by decide +kernel
theorem x_or143 : ∀ j, x_okj 143 j = true := x_okq_s x_oq143 x_ok143
theorem x_ok144 : ∀ j ∈ ([0] : List Nat), x_okj 144 j = true := List.forall_mem_cons.mpr ⟨x_ok144_0, fun _ h => absurd h List.not_mem_nil⟩
theorem x_oq144 : x_okq 144 [0] = true := by decide +kernel
theorem x_or144 : ∀ j, x_okj 144 j = true := x_okq_s x_oq144 x_ok144
theorem x_ok145 : ∀ j ∈ ([0] : List Nat), x_okj 145 j = true := List.forall_mem_cons.mpr ⟨x_ok145_0, fun _ h => absurd h List.not_mem_nil⟩
theorem x_oq145 : x_okq 145 [0] = true := by decide +kernel
theorem x_or145 : ∀ j, x_okj 145 j = true := x_okq_s x_oq145 x_ok145
theorem x_ok146 : ∀ j ∈ ([0, 1] : List Nat), x_okj 146 j = true := List.forall_mem_cons.mpr ⟨x_ok146_0, List.forall_mem_cons.mpr ⟨x_ok146_1, fun _ h => absurd h List.not_mem_nil⟩⟩
theorem x_oq146 : x_okq 146 [0, 1] = true := by decide +kernel
theorem x_or146 : ∀ j, x_okj 146 j = true := x_okq_s x_oq146 x_ok146
theorem x_ok147 : ∀ j ∈ ([0, 1] : List Nat), x_okj 147 j = true := List.forall_mem_cons.mpr ⟨x_ok147_0, List.forall_mem_cons.mpr ⟨x_ok147_1, fun _ h => absurd h List.not_mem_nil⟩⟩
theorem x_oq147 : x_okq 147 [0, 1] = true := by decide +kernel
theorem x_or147 : ∀ j, x_okj 147 j = true := x_okq_s x_oq147 x_ok147
theorem x_ok148 : ∀ j ∈ ([0, 1] : List Nat), x_okj 148 j = true := List.forall_mem_cons.mpr ⟨x_ok148_0, List.forall_mem_cons.mpr ⟨x_ok148_1, fun _ h => absurd h List.not_mem_nil⟩⟩
theorem x_oq148 : x_okq 148 [0, 1] = true := by decide +kernel
theorem x_or148 : ∀ j, x_okj 148 j = true := x_okq_s x_oq148 x_ok148
theorem x_ok149 : ∀ j ∈ ([0, 1] : List Nat), x_okj 149 j = true := List.forall_mem_cons.mpr ⟨x_ok149_0, List.forall_mem_cons.mpr ⟨x_ok149_1, fun _ h => absurd h List.not_mem_nil⟩⟩
theorem x_oq149 : x_okq 149 [0, 1] = true := by decide +kernel
theorem x_or149 : ∀ j, x_okj 149 j = true := x_okq_s x_oq149 x_ok149
theorem x_ok150 : ∀ j ∈ ([0, 1, 2, 3, 4] : List Nat), x_okj 150 j = true := List.forall_mem_cons.mpr ⟨x_ok150_0, List.forall_mem_cons.mpr ⟨x_ok150_1, List.forall_mem_cons.mpr ⟨x_ok150_2, List.forall_mem_cons.mpr ⟨x_ok150_3, List.forall_mem_cons.mpr ⟨x_ok150_4, fun _ h => absurd h List.not_mem_nil⟩⟩⟩⟩⟩
theorem x_oq150 : x_okq 150 [0, 1, 2, 3, 4] = true := by decide +kernel
theorem x_or150 : ∀ j, x_okj 150 j = true := x_okq_s x_oq150 x_ok150
theorem x_ok151 : ∀ j ∈ ([0, 1, 2] : List Nat), x_okj 151 j = true := List.forall_mem_cons.mpr ⟨x_ok151_0, List.forall_mem_cons.mpr ⟨x_ok151_1, List.forall_mem_cons.mpr ⟨x_ok151_2, fun _ h => absurd h List.not_mem_nil⟩⟩⟩
theorem x_oq151 : x_okq 151 [0, 1, 2] = true := by decide +kernel
theorem x_or151 : ∀ j, x_okj 151 j = true := x_okq_s x_oq151 x_ok151
theorem x_ok152 : ∀ j ∈ ([0, 1] : List Nat), x_okj 152 j = true := List.forall_mem_cons.mpr ⟨x_ok152_0, List.forall_mem_cons.mpr ⟨x_ok152_1, fun _ h => absurd h List.not_mem_nil⟩⟩
theorem x_oq152 : x_okq 152 [0, 1] = true := by decide +kernel
theorem x_or152 : ∀ j, x_okj 152 j = true := x_okq_s x_oq152 x_ok152
theorem x_ok153 : ∀ j ∈ ([0, 1] : List Nat), x_okj 153 j = true := List.forall_mem_cons.mpr ⟨x_ok153_0, List.forall_mem_cons.mpr ⟨x_ok153_1, fun _ h => absurd h List.not_mem_nil⟩⟩
theorem x_oq153 : x_okq 153 [0, 1] = true := by decide +kernel
theorem x_or153 : ∀ j, x_okj 153 j = true := x_okq_s x_oq153 x_ok153
theorem x_ok154 : ∀ j ∈ ([0, 1, 2, 3, 4, 5, 6] : List Nat), x_okj 154 j = true := List.forall_mem_cons.mpr ⟨x_ok154_0, List.forall_mem_cons.mpr ⟨x_ok154_1, List.forall_mem_cons.mpr ⟨x_ok154_2, List.forall_mem_cons.mpr ⟨x_ok154_3, List.forall_mem_cons.mpr ⟨x_ok154_4, List.forall_mem_cons.mpr ⟨x_ok154_5, List.forall_mem_cons.mpr ⟨x_ok154_6, fun _ h => absurd h List.not_mem_nil⟩⟩⟩⟩⟩⟩⟩
theorem x_oq154 : x_okq 154 [0, 1, 2, 3, 4, 5, 6] = true := by decide +kernel
theorem x_or154 : ∀ j, x_okj 154 j = true := x_okq_s x_oq154 x_ok154
theorem x_ok155 : ∀ j ∈ ([0, 1] : List Nat), x_okj 155 j = true := List.forall_mem_cons.mpr ⟨x_ok155_0, List.forall_mem_cons.mpr ⟨x_ok155_1, fun _ h => absurd h List.not_mem_nil⟩⟩
theorem x_oq155 : x_okq 155 [0, 1] = true := by decide +kernel
theorem x_or155 : ∀ j, x_okj 155 j = true := x_okq_s x_oq155 x_ok155
theorem x_ok156 : ∀ j ∈ ([0] : List Nat), x_okj 156 j = true := List.forall_mem_cons.mpr ⟨x_ok156_0, fun _ h => absurd h List.not_mem_nil⟩
theorem x_oq156 : x_okq 156 [0] = true := by decide +kernel
theorem x_or156 : ∀ j, x_okj 156 j = true := x_okq_s x_oq156 x_ok156
theorem x_ok157 : ∀ j ∈ ([0] : List Nat), x_okj 157 j = true := List.forall_mem_cons.mpr ⟨x_ok157_0, fun _ h => absurd h List.not_mem_nil⟩
theorem x_oq157 : x_okq 157 [0] = true := by decide +kernel
theorem x_or157 : ∀ j, x_okj 157 j = true := x_okq_s x_oq157 x_ok157
theorem x_ok158 : ∀ j ∈ ([0, 1] : List Nat), x_okj 158 j = true := List.forall_mem_cons.mpr ⟨x_ok158_0, List.forall_mem_cons.mpr ⟨x_ok158_1, fun _ h => absurd h List.not_mem_nil⟩⟩
theorem x_oq158 : x_okq 158 [0, 1] = true := by decide +kernel
theorem x_or158 : ∀ j, x_okj 158 j = true := x_okq_s x_oq158 x_ok158
theorem x_ok159 : ∀ j ∈ ([0, 1] : List Nat), x_okj 159 j = true := List.forall_mem_cons.mpr ⟨x_ok159_0, List.forall_mem_cons.mpr ⟨x_ok159_1, fun _ h => absurd h List.not_mem_nil⟩⟩
theorem x_oq159 : x_okq 159 [0, 1] = true := by decide +kernel
theorem x_or159 : ∀ j, x_okj 159 j = true := x_okq_s x_oq159 x_ok159
theorem x_ok160 : ∀ j ∈ ([0] : List Nat), x_okj 160 j = true := List.forall_mem_cons.mpr ⟨x_ok160_0, fun _ h => absurd h List.not_mem_nil⟩
theorem x_oq160 : x_okq 160 [0] = true := by decide +kernel
theorem x_or160 : ∀ j, x_okj 160 j = true := x_okq_s x_oq160 x_ok160
theorem x_ok161 : ∀ j ∈ ([0] : List Nat), x_okj 161 j = true := List.forall_mem_cons.mpr ⟨x_ok161_0, fun _ h => absurd h List.not_mem_nil⟩
theorem x_oq161 : x_okq 161 [0] = true := by decide +kernel
theorem x_or161 : ∀ j, x_okj 161 j = true := x_okq_s x_oq161 x_ok161
theorem x_ok162 : ∀ j ∈ ([0] : List Nat), x_okj 162 j = true := List.forall_mem_cons.mpr ⟨x_ok162_0, fun _ h => absurd h List.not_mem_nil⟩
theorem x_oq162 : x_okq 162 [0] = true := by decide +kernel
theorem x_or162 : ∀ j, x_okj 162 j = true := x_okq_s x_oq162 x_ok162
theorem x_ok163 : ∀ j ∈ ([0, 1, 2, 3, 4, 5, 6, 7, 8, 9] : List Nat), x_okj 163 j = true := List.forall_mem_cons.mpr ⟨x_ok163_0, List.forall_mem_cons.mpr ⟨x_ok163_1, List.forall_mem_cons.mpr ⟨x_ok163_2, List.forall_mem_cons.mpr ⟨x_ok163_3, List.forall_mem_cons.mpr ⟨x_ok163_4, List.forall_mem_cons.mpr ⟨x_ok163_5, List.forall_mem_cons.mpr ⟨x_ok163_6, List.forall_mem_cons.mpr ⟨x_ok163_7, List.forall_mem_cons.mpr ⟨x_ok163_8, List.forall_mem_cons.mpr ⟨x_ok163_9, fun _ h => absurd h List.not_mem_nil⟩⟩⟩⟩⟩⟩⟩⟩⟩⟩
theorem x_oq163 : x_okq 163 [0, 1, 2, 3, 4, 5, 6, 7, 8, 9] = true := by decide +kernel
theorem x_or163 : ∀ j, x_okj 163 j = true := x_okq_s x_oq163 x_ok163
theorem x_ok164 : ∀ j ∈ ([0, 1] : List Nat), x_okj 164 j = true := List.forall_mem_cons.mpr ⟨x_ok164_0, List.forall_mem_cons.mpr ⟨x_ok164_1, fun _ h => absurd h List.not_mem_nil⟩⟩
theorem x_oq164 : x_okq 164 [0, 1] = true := by decide +kernel
theorem x_or164 : ∀ j, x_okj 164 j = true := x_okq_s x_oq164 x_ok164
theorem x_ok165 : ∀ j ∈ ([0, 1] : List Nat), x_okj 165 j = true := List.forall_mem_cons.mpr ⟨x_ok165_0, List.forall_mem_cons.mpr ⟨x_ok165_1, fun _ h => absurd h List.not_mem_nil⟩⟩
theorem x_oq165 : x_okq 165 [0, 1] = true := by decide +kernel
theorem x_or165 : ∀ j, x_okj 165 j = true := x_okq_s x_oq165 x_ok165
theorem x_ok166 : ∀ j ∈ ([0] : List Nat), x_okj 166 j = true := List.forall_mem_cons.mpr ⟨x_ok166_0, fun _ h => absurd h List.not_mem_nil⟩
theorem x_oq166 : x_okq 166 [0] = true := by decide +kernel
theorem x_or166 : ∀ j, x_okj 166 j = true := x_okq_s x_oq166 x_ok166
theorem x_ok167 : ∀ j ∈ ([0] : List Nat), x_okj 167 j = true := List.forall_mem_cons.mpr ⟨x_ok167_0, fun _ h => absurd h List.not_mem_nil⟩
theorem x_oq167 : x_okq 167 [0] = true := by decide +kernel
theorem x_or167 : ∀ j, x_okj 167 j = true := x_okq_s x_oq167 x_ok167
theorem x_ok168 : ∀ j ∈ ([0] : List Nat), x_okj 168 j = true := List.forall_mem_cons.mpr ⟨x_ok168_0, fun _ h => absurd h List.not_mem_nil⟩
theorem x_oq168 : x_okq 168 [0] = true := by decide +kernel
theorem x_or168 : ∀ j, x_okj 168 j = true := x_okq_s x_oq168 x_ok168
theorem x_ok169 : ∀ j ∈ ([0] : List Nat), x_okj 169 j = true := List.forall_mem_cons.mpr ⟨x_ok169_0, fun _ h => absurd h List.not_mem_nil⟩
theorem x_oq169 : x_okq 169 [0] = true := by decide +kernel
theorem x_or169 : ∀ j, x_okj 169 j = true := x_okq_s x_oq169 x_ok169
theorem x_ok170 : ∀ j ∈ ([0, 1] : List Nat), x_okj 170 j = true := List.forall_mem_cons.mpr ⟨x_ok170_0, List.forall_mem_cons.mpr ⟨x_ok170_1, fun _ h => absurd h List.not_mem_nil⟩⟩
theorem x_oq170 : x_okq 170 [0, 1] = true := by decide +kernel
theorem x_or170 : ∀ j, x_okj 170 j = true := x_okq_s x_oq170 x_ok170
theorem x_ok171 : ∀ j ∈ ([0, 1, 2, 3, 4, 5, 6, 7, 8, 9] : List Nat), x_okj 171 j = true := List.forall_mem_cons.mpr ⟨x_ok171_0, List.forall_mem_cons.mpr ⟨x_ok171_1, List.forall_mem_cons.mpr ⟨x_ok171_2, List.forall_mem_cons.mpr ⟨x_ok171_3, List.forall_mem_cons.mpr ⟨x_ok171_4, List.forall_mem_cons.mpr ⟨x_ok171_5, List.forall_mem_cons.mpr ⟨x_ok171_6, List.forall_mem_cons.mpr ⟨x_ok171_7, List.forall_mem_cons.mpr ⟨x_ok171_8, List.forall_mem_cons.mpr ⟨x_ok171_9, fun _ h => absurd h List.not_mem_nil⟩⟩⟩⟩⟩⟩⟩⟩⟩⟩
theorem x_oq171 : x_okq 171 [0, 1, 2, 3, 4, 5, 6, 7, 8, 9] = true := by decide +kernel
theorem x_or171 : ∀ j, x_okj 171 j = true := x_okq_s x_oq171 x_ok171
theorem x_ok172 : ∀ j ∈ ([0, 1, 2, 3] : List Nat), x_okj 172 j = true := List.forall_mem_cons.mpr ⟨x_ok172_0, List.forall_mem_cons.mpr ⟨x_ok172_1, List.forall_mem_cons.mpr ⟨x_ok172_2, List.forall_mem_cons.mpr ⟨x_ok172_3, fun _ h => absurd h List.not_mem_nil⟩⟩⟩⟩
theorem x_oq172 : x_okq 172 [0, 1, 2, 3] = true := by decide +kernel
theorem x_or172 : ∀ j, x_okj 172 j = true := x_okq_s x_oq172 x_ok172
theorem x_ok173 : ∀ j ∈ ([0, 1, 2, 3, 4, 5, 6] : List Nat), x_okj 173 j = true := List.forall_mem_cons.mpr ⟨x_ok173_0, List.forall_mem_cons.mpr ⟨x_ok173_1, List.forall_mem_cons.mpr ⟨x_ok173_2, List.forall_mem_cons.mpr ⟨x_ok173_3, List.forall_mem_cons.mpr ⟨x_ok173_4, List.forall_mem_cons.mpr ⟨x_ok173_5, List.forall_mem_cons.mpr ⟨x_ok173_6, fun _ h => absurd h List.not_mem_nil⟩⟩⟩⟩⟩⟩⟩
theorem x_oq173 : x_okq 173 [0, 1, 2, 3, 4, 5, 6] = true := by decide +kernel
theorem x_or173 : ∀ j, x_okj 173 j = true := x_okq_s x_oq173 x_ok173
theorem x_ok174 : ∀ j ∈ ([0, 1, 2, 3] : List Nat), x_okj 174 j = true := List.forall_mem_cons.mpr ⟨x_ok174_0, List.forall_mem_cons.mpr ⟨x_ok174_1, List.forall_mem_cons.mpr ⟨x_ok174_2, List.forall_mem_cons.mpr ⟨x_ok174_3, fun _ h => absurd h List.not_mem_nil⟩⟩⟩⟩
theorem x_oq174 : x_okq 174 [0, 1, 2, 3] = true := by decide +kernel
theorem x_or174 : ∀ j, x_okj 174 j = true := x_okq_s x_oq174 x_ok174
theorem x_ok175 : ∀ j ∈ ([0] : List Nat), x_okj 175 j = true := List.forall_mem_cons.mpr ⟨x_ok175_0, fun _ h => absurd h List.not_mem_nil⟩
theorem x_oq175 : x_okq 175 [0] = true := by decide +kernel
theorem x_or175 : ∀ j, x_okj 175 j = true := x_okq_s x_oq175 x_ok175
theorem x_ok176 : ∀ j ∈ ([0, 1] : List Nat), x_okj 176 j = true := List.forall_mem_cons.mpr ⟨x_ok176_0, List.forall_mem_cons.mpr ⟨x_ok176_1, fun _ h => absurd h List.not_mem_nil⟩⟩
theorem x_oq176 : x_okq 176 [0, 1] = true := by decide +kernel
theorem x_or176 : ∀ j, x_okj 176 j = true := x_okq_s x_oq176 x_ok176
theorem x_ok177 : ∀ j ∈ ([0] : List Nat), x_okj 177 j = true := List.forall_mem_cons.mpr ⟨x_ok177_0, fun _ h => absurd h List.not_mem_nil⟩
theorem x_oq177 : x_okq 177 [0] = true := by decide +kernel
theorem x_or177 : ∀ j, x_okj 177 j = true := x_okq_s x_oq177 x_ok177
theorem x_ok178 : ∀ j ∈ ([0] : List Nat), x_okj 178 j = true := List.forall_mem_cons.mpr ⟨x_ok178_0, fun _ h => absurd h List.not_mem_nil⟩
theorem x_oq178 : x_okq 178 [0] = true := by decide +kernel
theorem x_or178 : ∀ j, x_okj 178 j = true := x_okq_s x_oq178 x_ok178
theorem x_ok179 : ∀ j ∈ ([0] : List Nat), x_okj 179 j = true := List.forall_mem_cons.mpr ⟨x_ok179_0, fun _ h => absurd h List.not_mem_nil⟩
theorem x_oq179 : x_okq 179 [0] = true := by decide +kernel
theorem x_or179 : ∀ j, x_okj 179 j = true := x_okq_s x_oq179 x_ok179
theorem x_ok180 : ∀ j ∈ ([0] : List Nat), x_okj 180 j = true := List.forall_mem_cons.mpr ⟨x_ok180_0, fun _ h => absurd h List.not_mem_nil⟩
theorem x_oq180 : x_okq 180 [0] = true := by decide +kernel
theorem x_or180 : ∀ j, x_okj 180 j = true := x_okq_s x_oq180 x_ok180
theorem x_ok181 : ∀ j ∈ ([0, 1] : List Nat), x_okj 181 j = true := List.forall_mem_cons.mpr ⟨x_ok181_0, List.forall_mem_cons.mpr ⟨x_ok181_1, fun _ h => absurd h List.not_mem_nil⟩⟩
theorem x_oq181 : x_okq 181 [0, 1] = true := by decide +kernel
theorem x_or181 : ∀ j, x_okj 181 j = true := x_okq_s x_oq181 x_ok181
theorem x_ok182 : ∀ j ∈ ([0, 1] : List Nat), x_okj 182 j = true := List.forall_mem_cons.mpr ⟨x_ok182_0, List.forall_mem_cons.mpr ⟨x_ok182_1, fun _ h => absurd h List.not_mem_nil⟩⟩
theorem x_oq182 : x_okq 182 [0, 1] = true := by decide +kernel
theorem x_or182 : ∀ j, x_okj 182 j = true := x_okq_s x_oq182 x_ok182
theorem x_ok183 : ∀ j ∈ ([0] : List Nat), x_okj 183 j = true := List.forall_mem_cons.mpr ⟨x_ok183_0, fun _ h => absurd h List.not_mem_nil⟩
theorem x_oq183 : x_okq 183 [0] = true := by decide +kernel
theorem x_or183 : ∀ j, x_okj 183 j = true := x_okq_s x_oq183 x_ok183
theorem x_ok184 : ∀ j ∈ ([0, 1] : List Nat), x_okj 184 j = true := List.forall_mem_cons.mpr ⟨x_ok184_0, List.forall_mem_cons.mpr ⟨x_ok184_1, fun _ h => absurd h List.not_mem_nil⟩⟩
theorem x_oq184 : x_okq 184 [0, 1] = true := by decide +kernel
theorem x_or184 : ∀ j, x_okj 184 j = true := x_okq_s x_oq184 x_ok184
theorem x_ok185 : ∀ j ∈ ([0] : List Nat), x_okj 185 j = true := List.forall_mem_cons.mpr ⟨x_ok185_0, fun _ h => absurd h List.not_mem_nil⟩
theorem x_oq185 : x_okq 185 [0] = true := by decide +kernel
theorem x_or185 : ∀ j, x_okj 185 j = true := x_okq_s x_oq185 x_ok185
theorem x_ok186 : ∀ j ∈ ([0] : List Nat), x_okj 186 j = true := List.forall_mem_cons.mpr ⟨x_ok186_0, fun _ h => absurd h List.not_mem_nil⟩
theorem x_oq186 : x_okq 186 [0] = true := by decide +kernel
theorem x_or186 : ∀ j, x_okj 186 j = true := x_okq_s x_oq186 x_ok186
theorem x_ok187 : ∀ j ∈ ([0, 1, 2, 3, 4, 5, 6, 7, 8, 9, 10] : List Nat), x_okj 187 j = true := List.forall_mem_cons.mpr ⟨x_ok187_0, List.forall_mem_cons.mpr ⟨x_ok187_1, List.forall_mem_cons.mpr ⟨x_ok187_2, List.forall_mem_cons.mpr ⟨x_ok187_3, List.forall_mem_cons.mpr ⟨x_ok187_4, List.forall_mem_cons.mpr ⟨x_ok187_5, List.forall_mem_cons.mpr ⟨x_ok187_6, List.forall_mem_cons.mpr ⟨x_ok187_7, List.forall_mem_cons.mpr ⟨x_ok187_8, List.forall_mem_cons.mpr ⟨x_ok187_9, List.forall_mem_cons.mpr ⟨x_ok187_10, fun _ h => absurd h List.not_mem_nil⟩⟩⟩⟩⟩⟩⟩⟩⟩⟩⟩
theorem x_oq187 : x_okq 187 [0, 1, 2, 3, 4, 5, 6, 7, 8, 9, 10] = true := by decide +kernel
theorem x_or187 : ∀ j, x_okj 187 j = true := x_okq_s x_oq187 x_ok187
theorem x_ok188 : ∀ j ∈ ([0, 1, 2, 3, 4, 5, 6, 7, 8] : List Nat), x_okj 188 j = true := List.forall_mem_cons.mpr ⟨x_ok188_0, List.forall_mem_cons.mpr ⟨x_ok188_1, List.forall_mem_cons.mpr ⟨x_ok188_2, List.forall_mem_cons.mpr ⟨x_ok188_3, List.forall_mem_cons.mpr ⟨x_ok188_4, List.forall_mem_cons.mpr ⟨x_ok188_5, List.forall_mem_cons.mpr ⟨x_ok188_6, List.forall_mem_cons.mpr ⟨x_ok188_7, List.forall_mem_cons.mpr ⟨x_ok188_8, fun _ h => absurd h List.not_mem_nil⟩⟩⟩⟩⟩⟩⟩⟩⟩
theorem x_oq188 : x_okq 188 [0, 1, 2, 3, 4, 5, 6, 7, 8] = true := by decide +kernel
theorem x_or188 : ∀ j, x_okj 188 j = true := x_okq_s x_oq188 x_ok188
theorem x_ok189 : ∀ j ∈ ([0] : List Nat), x_okj 189 j = true := List.forall_mem_cons.mpr ⟨x_ok189_0, fun _ h => absurd h List.not_mem_nil⟩
theorem x_oq189 : x_okq 189 [0] = true := by decide +kernel
theorem x_or189 : ∀ j, x_okj 189 j = true := x_okq_s x_oq189 x_ok189
theorem x_ok190 : ∀ j ∈ ([0] : List Nat), x_okj 190 j = true := List.forall_mem_cons.mpr ⟨x_ok190_0, fun _ h => absurd h List.not_mem_nil⟩
theorem x_oq190 : x_okq 190 [0] = true := by decide +kernel
theorem x_or190 : ∀ j, x_okj 190 j = true := x_okq_s x_oq190 x_ok190
theorem x_ok191 : ∀ j ∈ ([0, 1, 2, 3] : List Nat), x_okj 191 j = true := List.forall_mem_cons.mpr ⟨x_ok191_0, List.forall_mem_cons.mpr ⟨x_ok191_1, List.forall_mem_cons.mpr ⟨x_ok191_2, List.forall_mem_cons.mpr ⟨x_ok191_3, fun _ h => absurd h List.not_mem_nil⟩⟩⟩⟩
theorem x_oq191 : x_okq 191 [0, 1, 2, 3] = true := by decide +kernel
theorem x_or191 : ∀ j, x_okj 191 j = true := x_okq_s x_oq191 x_ok191
theorem x_ok192 : ∀ j ∈ ([0, 1, 2, 3, 4, 5, 6, 7, 8] : List Nat), x_okj 192 j = true := List.forall_mem_cons.mpr ⟨x_ok192_0, List.forall_mem_cons.mpr ⟨x_ok192_1, List.forall_mem_cons.mpr ⟨x_ok192_2, List.forall_mem_cons.mpr ⟨x_ok192_3, List.forall_mem_cons.mpr ⟨x_ok192_4, List.forall_mem_cons.mpr ⟨x_ok192_5, List.forall_mem_cons.mpr ⟨x_ok192_6, List.forall_mem_cons.mpr ⟨x_ok192_7, List.forall_mem_cons.mpr ⟨x_ok192_8, fun _ h => absurd h List.not_mem_nil⟩⟩⟩⟩⟩⟩⟩⟩⟩
theorem x_oq192 : x_okq 192 [0, 1, 2, 3, 4, 5, 6, 7, 8] = true := by decide +kernel
theorem x_or192 : ∀ j, x_okj 192 j = true := x_okq_s x_oq192 x_ok192
theorem x_ok193 : ∀ j ∈ ([0, 1, 2, 3, 4, 5] : List Nat), x_okj 193 j = true := List.forall_mem_cons.mpr ⟨x_ok193_0, List.forall_mem_cons.mpr ⟨x_ok193_1, List.forall_mem_cons.mpr ⟨x_ok193_2, List.forall_mem_cons.mpr ⟨x_ok193_3, List.forall_mem_cons.mpr ⟨x_ok193_4, List.forall_mem_cons.mpr ⟨x_ok193_5, fun _ h => absurd h List.not_mem_nil⟩⟩⟩⟩⟩⟩
theorem x_oq193 : x_okq 193 [0, 1, 2, 3, 4, 5] = true := by decide +kernel
theorem x_or193 : ∀ j, x_okj 193 j = true := x_okq_s x_oq193 x_ok193
theorem x_ok194 : ∀ j ∈ ([0] : List Nat), x_okj 194 j = true := List.forall_mem_cons.mpr ⟨x_ok194_0, fun _ h => absurd h List.not_mem_nil⟩
theorem x_oq194 : x_okq 194 [0] = true := by decide +kernel
theorem x_or194 : ∀ j, x_okj 194 j = true := x_okq_s x_oq194 x_ok194
theorem x_ok195 : ∀ j ∈ ([0, 1] : List Nat), x_okj 195 j = true := List.forall_mem_cons.mpr ⟨x_ok195_0, List.forall_mem_cons.mpr ⟨x_ok195_1, fun _ h => absurd h List.not_mem_nil⟩⟩
theorem x_oq195 : x_okq 195 [0, 1] = true := by decide +kernel
theorem x_or195 : ∀ j, x_okj 195 j = true := x_okq_s x_oq195 x_ok195
theorem x_ok196 : ∀ j ∈ ([0, 1, 2] : List Nat), x_okj 196 j = true := List.forall_mem_cons.mpr ⟨x_ok196_0, List.forall_mem_cons.mpr ⟨x_ok196_1, List.forall_mem_cons.mpr ⟨x_ok196_2, fun _ h => absurd h List.not_mem_nil⟩⟩⟩
theorem x_oq196 : x_okq 196 [0, 1, 2] = true := by decide +kernel
theorem x_or196 : ∀ j, x_okj 196 j = true := x_okq_s x_oq196 x_ok196
theorem x_ok197 : ∀ j ∈ ([0, 1, 2, 3] : List Nat), x_okj 197 j = true := List.forall_mem_cons.mpr ⟨x_ok197_0, List.forall_mem_cons.mpr ⟨x_ok197_1, List.forall_mem_cons.mpr ⟨x_ok197_2, List.forall_mem_cons.mpr ⟨x_ok197_3, fun _ h => absurd h List.not_mem_nil⟩⟩⟩⟩
theorem x_oq197 : x_okq 197 [0, 1, 2, 3] = true := by decide +kernel
theorem x_or197 : ∀ j, x_okj 197 j = true := x_okq_s x_oq197 x_ok197
theorem x_ok198 : ∀ j ∈ ([0, 1, 2, 3] : List Nat), x_okj 198 j = true := List.forall_mem_cons.mpr ⟨x_ok198_0, List.forall_mem_cons.mpr ⟨x_ok198_1, List.forall_mem_cons.mpr ⟨x_ok198_2, List.forall_mem_cons.mpr ⟨x_ok198_3, fun _ h => absurd h List.not_mem_nil⟩⟩⟩⟩
theorem x_oq198 : x_okq 198 [0, 1, 2, 3] = true := by decide +kernel
theorem x_or198 : ∀ j, x_okj 198 j = true := x_okq_s x_oq198 x_ok198
theorem x_ok199 : ∀ j ∈ ([0, 1] : List Nat), x_okj 199 j = true := List.forall_mem_cons.mpr ⟨x_ok199_0, List.forall_mem_cons.mpr ⟨x_ok199_1, fun _ h => absurd h List.not_mem_nil⟩⟩
theorem x_oq199 : x_okq 199 [0, 1] = true := by decide +kernel
theorem x_or199 : ∀ j, x_okj 199 j = true := x_okq_s x_oq199 x_ok199
theorem x_ok200 : ∀ j ∈ ([0, 1, 2] : List Nat), x_okj 200 j = true := List.forall_mem_cons.mpr ⟨x_ok200_0, List.forall_mem_cons.mpr ⟨x_ok200_1, List.forall_mem_cons.mpr ⟨x_ok200_2, fun _ h => absurd h List.not_mem_nil⟩⟩⟩
theorem x_oq200 : x_okq 200 [0, 1, 2] = true := by decide +kernel
theorem x_or200 : ∀ j, x_okj 200 j = true := x_okq_s x_oq200 x_ok200
theorem x_ok201 : ∀ j ∈ ([0] : List Nat), x_okj 201 j = true := List.forall_mem_cons.mpr ⟨x_ok201_0, fun _ h => absurd h List.not_mem_nil⟩
theorem x_oq201 : x_okq 201 [0] = true := by decide +kernel
theorem x_or201 : ∀ j, x_okj 201 j = true := x_okq_s x_oq201 x_ok201
theorem x_ok202 : ∀ j ∈ ([0] : List Nat), x_okj 202 j = true := List.forall_mem_cons.mpr ⟨x_ok202_0, fun _ h => absurd h List.not_mem_nil⟩
theorem x_oq202 : x_okq 202 [0] = true := by decide +kernel
theorem x_or202 : ∀ j, x_okj 202 j = true := x_okq_s x_oq202 x_ok202
theorem x_ok203 : ∀ j ∈ ([0] : List Nat), x_okj 203 j = true := List.forall_mem_cons.mpr ⟨x_ok203_0, fun _ h => absurd h List.not_mem_nil⟩
theorem x_oq203 : x_okq 203 [0] = true := by decide +kernel
theorem x_or203 : ∀ j, x_okj 203 j = true := x_okq_s x_oq203 x_ok203
theorem x_ok204 : ∀ j ∈ ([0] : List Nat), x_okj 204 j = true := List.forall_mem_cons.mpr ⟨x_ok204_0, fun _ h => absurd h List.not_mem_nil⟩
theorem x_oq204 : x_okq 204 [0] = true := by decide +kernel
theorem x_or204 : ∀ j, x_okj 204 j = true := x_okq_s x_oq204 x_ok204
theorem x_ok205 : ∀ j ∈ ([0, 1, 2, 3, 4, 5] : List Nat), x_okj 205 j = true := List.forall_mem_cons.mpr ⟨x_ok205_0, List.forall_mem_cons.mpr ⟨x_ok205_1, List.forall_mem_cons.mpr ⟨x_ok205_2, List.forall_mem_cons.mpr ⟨x_ok205_3, List.forall_mem_cons.mpr ⟨x_ok205_4, List.forall_mem_cons.mpr ⟨x_ok205_5, fun _ h => absurd h List.not_mem_nil⟩⟩⟩⟩⟩⟩
theorem x_oq205 : x_okq 205 [0, 1, 2, 3, 4, 5] = true := by decide +kernel
theorem x_or205 : ∀ j, x_okj 205 j = true := x_okq_s x_oq205 x_ok205
theorem x_ok206 : ∀ j ∈ ([0, 1, 2, 3, 4, 5] : List Nat), x_okj 206 j = true := List.forall_mem_cons.mpr ⟨x_ok206_0, List.forall_mem_cons.mpr ⟨x_ok206_1, List.forall_mem_cons.mpr ⟨x_ok206_2, List.forall_mem_cons.mpr ⟨x_ok206_3, List.forall_mem_cons.mpr ⟨x_ok206_4, List.forall_mem_cons.mpr ⟨x_ok206_5, fun _ h => absurd h List.not_mem_nil⟩⟩⟩⟩⟩⟩
theorem x_oq206 : x_okq 206 [0, 1, 2, 3, 4, 5] = true := by decide +kernel
theorem x_or206 : ∀ j, x_okj 206 j = true := x_okq_s x_oq206 x_ok206
theorem x_ok207 : ∀ j ∈ ([0, 1] : List Nat), x_okj 207 j = true := List.forall_mem_cons.mpr ⟨x_ok207_0, List.forall_mem_cons.mpr ⟨x_ok207_1, fun _ h => absurd h List.not_mem_nil⟩⟩
theorem x_oq207 : x_okq 207 [0, 1] = true := by decide +kernel
theorem x_or207 : ∀ j, x_okj 207 j = true := x_okq_s x_oq207 x_ok207
theorem x_ok208 : ∀ j ∈ ([0, 1, 2] : List Nat), x_okj 208 j = true := List.forall_mem_cons.mpr ⟨x_ok208_0, List.forall_mem_cons.mpr ⟨x_ok208_1, List.forall_mem_cons.mpr ⟨x_ok208_2, fun _ h => absurd h List.not_mem_nil⟩⟩⟩
theorem x_oq208 : x_okq 208 [0, 1, 2] = true := by decide +kernel
theorem x_or208 : ∀ j, x_okj 208 j = true := x_okq_s x_oq208 x_ok208
theorem x_ok209 : ∀ j ∈ ([0] : List Nat), x_okj 209 j = true := List.forall_mem_cons.mpr ⟨x_ok209_0, fun _ h => absurd h List.not_mem_nil⟩
theorem x_oq209 : x_okq 209 [0] = true := by decide +kernel
theorem x_or209 : ∀ j, x_okj 209 j = true := x_okq_s x_oq209 x_ok209
theorem x_ok210 : ∀ j ∈ ([0, 1] : List Nat), x_okj 210 j = true := List.forall_mem_cons.mpr ⟨x_ok210_0, List.forall_mem_cons.mpr ⟨x_ok210_1, fun _ h => absurd h List.not_mem_nil⟩⟩
theorem x_oq210 : x_okq 210 [0, 1] = true := by decide +kernel
theorem x_or210 : ∀ j, x_okj 210 j = true := x_okq_s x_oq210 x_ok210
theorem x_ok211 : ∀ j ∈ ([0, 1] : List Nat), x_okj 211 j = true := List.forall_mem_cons.mpr ⟨x_ok211_0, List.forall_mem_cons.mpr ⟨x_ok211_1, fun _ h => absurd h List.not_mem_nil⟩⟩
theorem x_oq211 : x_okq 211 [0, 1] = true := by decide +kernel
theorem x_or211 : ∀ j, x_okj 211 j = true := x_okq_s x_oq211 x_ok211
theorem x_ok212 : ∀ j ∈ ([0] : List Nat), x_okj 212 j = true := List.forall_mem_cons.mpr ⟨x_ok212_0, fun _ h => absurd h List.not_mem_nil⟩
theorem x_oq212 : x_okq 212 [0] = true := by decide +kernel
theorem x_or212 : ∀ j, x_okj 212 j = true := x_okq_s x_oq212 x_ok212
theorem x_ok213 : ∀ j ∈ ([0] : List Nat), x_okj 213 j = true := List.forall_mem_cons.mpr ⟨x_ok213_0, fun _ h => absurd h List.not_mem_nil⟩
theorem x_oq213 : x_okq 213 [0] = true := by decide +kernel
theorem x_or213 : ∀ j, x_okj 213 j = true := x_okq_s x_oq213 x_ok213
theorem x_ok214 : ∀ j ∈ ([0, 1] : List Nat), x_okj 214 j = true := List.forall_mem_cons.mpr ⟨x_ok214_0, List.forall_mem_cons.mpr ⟨x_ok214_1, fun _ h => absurd h List.not_mem_nil⟩⟩
theorem x_oq214 : x_okq 214 [0, 1] = true := by decide +kernel
theorem x_or214 : ∀ j, x_okj 214 j = true := x_okq_s x_oq214 x_ok214
theorem x_ok215 : ∀ j ∈ ([0, 1] : List Nat), x_okj 215 j = true := List.forall_mem_cons.mpr ⟨x_ok215_0, List.forall_mem_cons.mpr ⟨x_ok215_1, fun _ h => absurd h List.not_mem_nil⟩⟩
theorem x_oq215 : x_okq 215 [0, 1] = true := by decide +kernel
theorem x_or215 : ∀ j, x_okj 215 j = true := x_okq_s x_oq215 x_ok215
theorem x_ok216 : ∀ j ∈ ([0, 1, 2, 3, 4, 5] : List Nat), x_okj 216 j = true := List.forall_mem_cons.mpr ⟨x_ok216_0, List.forall_mem_cons.mpr ⟨x_ok216_1, List.forall_mem_cons.mpr ⟨x_ok216_2, List.forall_mem_cons.mpr ⟨x_ok216_3, List.forall_mem_cons.mpr ⟨x_ok216_4, List.forall_mem_cons.mpr ⟨x_ok216_5, fun _ h => absurd h List.not_mem_nil⟩⟩⟩⟩⟩⟩
theorem x_oq216 : x_okq 216 [0, 1, 2, 3, 4, 5] = true := by decide +kernel
theorem x_or216 : ∀ j, x_okj 216 j = true := x_okq_s x_oq216 x_ok216
theorem x_ok217 : ∀ j ∈ ([0] : List Nat), x_okj 217 j = true := List.forall_mem_cons.mpr ⟨x_ok217_0, fun _ h => absurd h List.not_mem_nil⟩
theorem x_oq217 : x_okq 217 [0] = true := by decide +kernel
theorem x_or217 : ∀ j, x_okj 217 j = true := x_okq_s x_oq217 x_ok217
theorem x_ok218 : ∀ j ∈ ([0] : List Nat), x_okj 218 j = true := List.forall_mem_cons.mpr ⟨x_ok218_0, fun _ h => absurd h List.not_mem_nil⟩
theorem x_oq218 : x_okq 218 [0] = true := by decide +kernel
theorem x_or218 : ∀ j, x_okj 218 j = true := x_okq_s x_oq218 x_ok218
theorem x_ok219 : ∀ j ∈ ([0, 1] : List Nat), x_okj 219 j = true := List.forall_mem_cons.mpr ⟨x_ok219_0, List.forall_mem_cons.mpr ⟨x_ok219_1, fun _ h => absurd h List.not_mem_nil⟩⟩
theorem x_oq219 : x_okq 219 [0, 1] = true := by decide +kernel
theorem x_or219 : ∀ j, x_okj 219 j = true := x_okq_s x_oq219 x_ok219
theorem x_ok220 : ∀ j ∈ ([0, 1, 2, 3, 4, 5] : List Nat), x_okj 220 j = true := List.forall_mem_cons.mpr ⟨x_ok220_0, List.forall_mem_cons.mpr ⟨x_ok220_1, List.forall_mem_cons.mpr ⟨x_ok220_2, List.forall_mem_cons.mpr ⟨x_ok220_3, List.forall_mem_cons.mpr ⟨x_ok220_4, List.forall_mem_cons.mpr ⟨x_ok220_5, fun _ h => absurd h List.not_mem_nil⟩⟩⟩⟩⟩⟩
theorem x_oq220 : x_okq 220 [0, 1, 2, 3, 4, 5] = true := by decide +kernel
theorem x_or220 : ∀ j, x_okj 220 j = true := x_okq_s x_oq220 x_ok220
theorem x_ok221 : ∀ j ∈ ([0, 1] : List Nat), x_okj 221 j = true := List.forall_mem_cons.mpr ⟨x_ok221_0, List.forall_mem_cons.mpr ⟨x_ok221_1, fun _ h => absurd h List.not_mem_nil⟩⟩
theorem x_oq221 : x_okq 221 [0, 1] = true := by decide +kernel
theorem x_or221 : ∀ j, x_okj 221 j = true := x_okq_s x_oq221 x_ok221
theorem x_ok222 : ∀ j ∈ ([0] : List Nat), x_okj 222 j = true := List.forall_mem_cons.mpr ⟨x_ok222_0, fun _ h => absurd h List.not_mem_nil⟩
theorem x_oq222 : x_okq 222 [0] = true := by decide +kernel
theorem x_or222 : ∀ j, x_okj 222 j = true := x_okq_s x_oq222 x_ok222
theorem x_ok223 : ∀ j ∈ ([0, 1, 2] : List Nat), x_okj 223 j = true := List.forall_mem_cons.mpr ⟨x_ok223_0, List.forall_mem_cons.mpr ⟨x_ok223_1, List.forall_mem_cons.mpr ⟨x_ok223_2, fun _ h => absurd h List.not_mem_nil⟩⟩⟩
theorem x_oq223 : x_okq 223 [0, 1, 2] = true := by decide +kernel
theorem x_or223 : ∀ j, x_okj 223 j = true := x_okq_s x_oq223 x_ok223
theorem x_ok224 : ∀ j ∈ ([0] : List Nat), x_okj 224 j = true := List.forall_mem_cons.mpr ⟨x_ok224_0, fun _ h => absurd h List.not_mem_nil⟩
theorem x_oq224 : x_okq 224 [0] = true := by decide +kernel
theorem x_or224 : ∀ j, x_okj 224 j = true := x_okq_s x_oq224 x_ok224
theorem x_ok225 : ∀ j ∈ ([0] : List Nat), x_okj 225 j = true := List.forall_mem_cons.mpr ⟨x_ok225_0, fun _ h => absurd h List.not_mem_nil⟩
theorem x_oq225 : x_okq 225 [0] = true := by decide +kernel
theorem x_or225 : ∀ j, x_okj 225 j = true := x_okq_s x_oq225 x_ok225
theorem x_ok226 : ∀ j ∈ ([0, 1, 2] : List Nat), x_okj 226 j = true := List.forall_mem_cons.mpr ⟨x_ok226_0, List.forall_mem_cons.mpr ⟨x_ok226_1, List.forall_mem_cons.mpr ⟨x_ok226_2, fun _ h => absurd h List.not_mem_nil⟩⟩⟩
theorem x_oq226 : x_okq 226 [0, 1, 2] = true := by decide +kernel
theorem x_or226 : ∀ j, x_okj 226 j = true := x_okq_s x_oq226 x_ok226
theorem x_ok227 : ∀ j ∈ ([0, 1, 2, 3] : List Nat), x_okj 227 j = true := List.forall_mem_cons.mpr ⟨x_ok227_0, List.forall_mem_cons.mpr ⟨x_ok227_1, List.forall_mem_cons.mpr ⟨x_ok227_2, List.forall_mem_cons.mpr ⟨x_ok227_3, fun _ h => absurd h List.not_mem_nil⟩⟩⟩⟩
theorem x_oq227 : x_okq 227 [0, 1, 2, 3] = true := by decide +kernel
theorem x_or227 : ∀ j, x_okj 227 j = true := x_okq_s x_oq227 x_ok227
theorem x_ok228 : ∀ j ∈ ([0, 1] : List Nat), x_okj 228 j = true := List.forall_mem_cons.mpr ⟨x_ok228_0, List.forall_mem_cons.mpr ⟨x_ok228_1, fun _ h => absurd h List.not_mem_nil⟩⟩
theorem x_oq228 : x_okq 228 [0, 1] = true := by decide +kernel
theorem x_or228 : ∀ j, x_okj 228 j = true := x_okq_s x_oq228 x_ok228
theorem x_ok229 : ∀ j ∈ ([0, 1] : List Nat), x_okj 229 j = true := List.forall_mem_cons.mpr ⟨x_ok229_0, List.forall_mem_cons.mpr ⟨x_ok229_1, fun _ h => absurd h List.not_mem_nil⟩⟩
theorem x_oq229 : x_okq 229 [0, 1] = true := by decide +kernel
theorem x_or229 : ∀ j, x_okj 229 j = true := x_okq_s x_oq229 x_ok229
theorem x_ok230 : ∀ j ∈ ([0, 1] : List Nat), x_okj 230 j = true := List.forall_mem_cons.mpr ⟨x_ok230_0, List.forall_mem_cons.mpr ⟨x_ok230_1, fun _ h => absurd h List.not_mem_nil⟩⟩
theorem x_oq230 : x_okq 230 [0, 1] = true := by decide +kernel
theorem x_or230 : ∀ j, x_okj 230 j = true := x_okq_s x_oq230 x_ok230
theorem x_ok231 : ∀ j ∈ ([0, 1] : List Nat), x_okj 231 j = true := List.forall_mem_cons.mpr ⟨x_ok231_0, List.forall_mem_cons.mpr ⟨x_ok231_1, fun _ h => absurd h List.not_mem_nil⟩⟩
theorem x_oq231 : x_okq 231 [0, 1] = true := by decide +kernel
theorem x_or231 : ∀ j, x_okj 231 j = true := x_okq_s x_oq231 x_ok231
theorem x_ok232 : ∀ j ∈ ([0, 1, 2, 3, 4, 5, 6, 7] : List Nat), x_okj 232 j = true := List.forall_mem_cons.mpr ⟨x_ok232_0, List.forall_mem_cons.mpr ⟨x_ok232_1, List.forall_mem_cons.mpr ⟨x_ok232_2, List.forall_mem_cons.mpr ⟨x_ok232_3, List.forall_mem_cons.mpr ⟨x_ok232_4, List.forall_mem_cons.mpr ⟨x_ok232_5, List.forall_mem_cons.mpr ⟨x_ok232_6, List.forall_mem_cons.mpr ⟨x_ok232_7, fun _ h => absurd h List.not_mem_nil⟩⟩⟩⟩⟩⟩⟩⟩
theorem x_oq232 : x_okq 232 [0, 1, 2, 3, 4, 5, 6, 7] = true := by decide +kernel
theorem x_or232 : ∀ j, x_okj 232 j = true := x_okq_s x_oq232 x_ok232
theorem x_ok233 : ∀ j ∈ ([0, 1] : List Nat), x_okj 233 j = true := List.forall_mem_cons.mpr ⟨x_ok233_0, List.forall_mem_cons.mpr ⟨x_ok233_1, fun _ h => absurd h List.not_mem_nil⟩⟩
theorem x_oq233 : x_okq 233 [0, 1] = true := by decide +kernel
theorem x_or233 : ∀ j, x_okj 233 j = true := x_okq_s x_oq233 x_ok233
theorem x_ok234 : ∀ j ∈ ([0] : List Nat), x_okj 234 j = true := List.forall_mem_cons.mpr ⟨x_ok234_0, fun _ h => absurd h List.not_mem_nil⟩
theorem x_oq234 : x_okq 234 [0] = true := by decide +kernel
theorem x_or234 : ∀ j, x_okj 234 j = true := x_okq_s x_oq234 x_ok234
theorem x_ok235 : ∀ j ∈ ([0, 1, 2] : List Nat), x_okj 235 j = true := List.forall_mem_cons.mpr ⟨x_ok235_0, List.forall_mem_cons.mpr ⟨x_ok235_1, List.forall_mem_cons.mpr ⟨x_ok235_2, fun _ h => absurd h List.not_mem_nil⟩⟩⟩
theorem x_oq235 : x_okq 235 [0, 1, 2] = true := by decide +kernel
theorem x_or235 : ∀ j, x_okj 235 j = true := x_okq_s x_oq235 x_ok235
theorem x_ok236 : ∀ j ∈ ([0, 1, 2] : List Nat), x_okj 236 j = true := List.forall_mem_cons.mpr ⟨x_ok236_0, List.forall_mem_cons.mpr ⟨x_ok236_1, List.forall_mem_cons.mpr ⟨x_ok236_2, fun _ h => absurd h List.not_mem_nil⟩⟩⟩
theorem x_oq236 : x_okq 236 [0, 1, 2] = true := by decide +kernel
theorem x_or236 : ∀ j, x_okj 236 j = true := x_okq_s x_oq236 x_ok236
theorem x_ok237 : ∀ j ∈ ([0, 1, 2, 3, 4, 5, 6] : List Nat), x_okj 237 j = true := List.forall_mem_cons.mpr ⟨x_ok237_0, List.forall_mem_cons.mpr ⟨x_ok237_1, List.forall_mem_cons.mpr ⟨x_ok237_2, List.forall_mem_cons.mpr ⟨x_ok237_3, List.forall_mem_cons.mpr ⟨x_ok237_4, List.forall_mem_cons.mpr ⟨x_ok237_5, List.forall_mem_cons.mpr ⟨x_ok237_6, fun _ h => absurd h List.not_mem_nil⟩⟩⟩⟩⟩⟩⟩
theorem x_oq237 : x_okq 237 [0, 1, 2, 3, 4, 5, 6] = true := by decide +kernel
theorem x_or237 : ∀ j, x_okj 237 j = true := x_okq_s x_oq237 x_ok237
theorem x_ok238 : ∀ j ∈ ([0, 1, 2] : List Nat), x_okj 238 j = true := List.forall_mem_cons.mpr ⟨x_ok238_0, List.forall_mem_cons.mpr ⟨x_ok238_1, List.forall_mem_cons.mpr ⟨x_ok238_2, fun _ h => absurd h List.not_mem_nil⟩⟩⟩
theorem x_oq238 : x_okq 238 [0, 1, 2] = true := by decide +kernel
theorem x_or238 : ∀ j, x_okj 238 j = true := x_okq_s x_oq238 x_ok238
theorem x_ok239 : ∀ j ∈ ([0, 1] : List Nat), x_okj 239 j = true := List.forall_mem_cons.mpr ⟨x_ok239_0, List.forall_mem_cons.mpr ⟨x_ok239_1, fun _ h => absurd h List.not_mem_nil⟩⟩
theorem x_oq239 : x_okq 239 [0, 1] = true := by decide +kernel
theorem x_or239 : ∀ j, x_okj 239 j = true := x_okq_s x_oq239 x_ok239
theorem x_ok240 : ∀ j ∈ ([0, 1] : List Nat), x_okj 240 j = true := List.forall_mem_cons.mpr ⟨x_ok240_0, List.forall_mem_cons.mpr ⟨x_ok240_1, fun _ h => absurd h List.not_mem_nil⟩⟩
theorem x_oq240 : x_okq 240 [0, 1] = true := by decide +kernel
theorem x_or240 : ∀ j, x_okj 240 j = true := x_okq_s x_oq240 x_ok240
theorem x_ok241 : ∀ j ∈ ([0, 1, 2, 3, 4] : List Nat), x_okj 241 j = true := List.forall_mem_cons.mpr ⟨x_ok241_0, List.forall_mem_cons.mpr ⟨x_ok241_1, List.forall_mem_cons.mpr ⟨x_ok241_2, List.forall_mem_cons.mpr ⟨x_ok241_3, List.forall_mem_cons.mpr ⟨x_ok241_4, fun _ h => absurd h List.not_mem_nil⟩⟩⟩⟩⟩
theorem x_oq241 : x_okq 241 [0, 1, 2, 3, 4] = true := by decide +kernel
theorem x_or241 : ∀ j, x_okj 241 j = true := x_okq_s x_oq241 x_ok241
theorem x_ok242 : ∀ j ∈ ([0, 1] : List Nat), x_okj 242 j = true := List.forall_mem_cons.mpr ⟨x_ok242_0, List.forall_mem_cons.mpr ⟨x_ok242_1, fun _ h => absurd h List.not_mem_nil⟩⟩
theorem x_oq242 : x_okq 242 [0, 1] = true := by decide +kernel
theorem x_or242 : ∀ j, x_okj 242 j = true := x_okq_s x_oq242 x_ok242
theorem x_ok243 : ∀ j ∈ ([0, 1, 2, 3, 4, 5] : List Nat), x_okj 243 j = true := List.forall_mem_cons.mpr ⟨x_ok243_0, List.forall_mem_cons.mpr ⟨x_ok243_1, List.forall_mem_cons.mpr ⟨x_ok243_2, List.forall_mem_cons.mpr ⟨x_ok243_3, List.forall_mem_cons.mpr ⟨x_ok243_4, List.forall_mem_cons.mpr ⟨x_ok243_5, fun _ h => absurd h List.not_mem_nil⟩⟩⟩⟩⟩⟩
theorem x_oq243 : x_okq 243 [0, 1, 2, 3, 4, 5] = true := by decide +kernel
theorem x_or243 : ∀ j, x_okj 243 j = true := x_okq_s x_oq243 x_ok243
theorem x_ok244 : ∀ j ∈ ([0, 1, 2] : List Nat), x_okj 244 j = true := List.forall_mem_cons.mpr ⟨x_ok244_0, List.forall_mem_cons.mpr ⟨x_ok244_1, List.forall_mem_cons.mpr ⟨x_ok244_2, fun _ h => absurd h List.not_mem_nil⟩⟩⟩
theorem x_oq244 : x_okq 244 [0, 1, 2] = true := by decide +kernel
theorem x_or244 : ∀ j, x_okj 244 j = true := x_okq_s x_oq244 x_ok244
theorem x_ok245 : ∀ j ∈ ([0, 1] : List Nat), x_okj 245 j = true := List.forall_mem_cons.mpr ⟨x_ok245_0, List.forall_mem_cons.mpr ⟨x_ok245_1, fun _ h => absurd h List.not_mem_nil⟩⟩
theorem x_oq245 : x_okq 245 [0, 1] = true := by decide +kernel
theorem x_or245 : ∀ j, x_okj 245 j = true := x_okq_s x_oq245 x_ok245
theorem x_ok246 : ∀ j ∈ ([0] : List Nat), x_okj 246 j = true := List.forall_mem_cons.mpr ⟨x_ok246_0, fun _ h => absurd h List.not_mem_nil⟩
theorem x_oq246 : x_okq 246 [0] = true := by decide +kernel
theorem x_or246 : ∀ j, x_okj 246 j = true := x_okq_s x_oq246 x_ok246
theorem x_ok247 : ∀ j ∈ ([0, 1, 2] : List Nat), x_okj 247 j = true := List.forall_mem_cons.mpr ⟨x_ok247_0, List.forall_mem_cons.mpr ⟨x_ok247_1, List.forall_mem_cons.mpr ⟨x_ok247_2, fun _ h => absurd h List.not_mem_nil⟩⟩⟩
theorem x_oq247 : x_okq 247 [0, 1, 2] = true := by decide +kernel
theorem x_or247 : ∀ j, x_okj 247 j = true := x_okq_s x_oq247 x_ok247
theorem x_ok248 : ∀ j ∈ ([0, 1, 2] : List Nat), x_okj 248 j = true := List.forall_mem_cons.mpr ⟨x_ok248_0, List.forall_mem_cons.mpr ⟨x_ok248_1, List.forall_mem_cons.mpr ⟨x_ok248_2, fun _ h => absurd h List.not_mem_nil⟩⟩⟩
theorem x_oq248 : x_okq 248 [0, 1, 2] = true := by decide +kernel
theorem x_or248 : ∀ j, x_okj 248 j = true := x_okq_s x_oq248 x_ok248
theorem x_ok249 : ∀ j ∈ ([0, 1] : List Nat), x_okj 249 j = true := List.forall_mem_cons.mpr ⟨x_ok249_0, List.forall_mem_cons.mpr ⟨x_ok249_1, fun _ h => absurd h List.not_mem_nil⟩⟩
theorem x_oq249 : x_okq 249 [0, 1] = true := by decide +kernel
theorem x_or249 : ∀ j, x_okj 249 j = true := x_okq_s x_oq249 x_ok249
theorem x_ok250 : ∀ j ∈ ([0, 1] : List Nat), x_okj 250 j = true := List.forall_mem_cons.mpr ⟨x_ok250_0, List.forall_mem_cons.mpr ⟨x_ok250_1, fun _ h => absurd h List.not_mem_nil⟩⟩
theorem x_oq250 : x_okq 250 [0, 1] = true := by decide +kernel
theorem x_or250 : ∀ j, x_okj 250 j = true := x_okq_s x_oq250 x_ok250
theorem x_ok251 : ∀ j ∈ ([0, 1] : List Nat), x_okj 251 j = true := List.forall_mem_cons.mpr ⟨x_ok251_0, List.forall_mem_cons.mpr ⟨x_ok251_1, fun _ h => absurd h List.not_mem_nil⟩⟩
theorem x_oq251 : x_okq 251 [0, 1] = true := by decide +kernel
theorem x_or251 : ∀ j, x_okj 251 j = true := x_okq_s x_oq251 x_ok251
theorem x_ok252 : ∀ j ∈ ([0, 1, 2, 3, 4] : List Nat), x_okj 252 j = true := List.forall_mem_cons.mpr ⟨x_ok252_0, List.forall_mem_cons.mpr ⟨x_ok252_1, List.forall_mem_cons.mpr ⟨x_ok252_2, List.forall_mem_cons.mpr ⟨x_ok252_3, List.forall_mem_cons.mpr ⟨x_ok252_4, fun _ h => absurd h List.not_mem_nil⟩⟩⟩⟩⟩
theorem x_oq252 : x_okq 252 [0, 1, 2, 3, 4] = true := by decide +kernel
theorem x_or252 : ∀ j, x_okj 252 j = true := x_okq_s x_oq252 x_ok252
theorem x_ok253 : ∀ j ∈ ([0] : List Nat), x_okj 253 j = true := List.forall_mem_cons.mpr ⟨x_ok253_0, fun _ h => absurd h List.not_mem_nil⟩
theorem x_oq253 : x_okq 253 [0] = true := by decide +kernel
theorem x_or253 : ∀ j, x_okj 253 j = true := x_okq_s x_oq253 x_ok253
theorem x_ok254 : ∀ j ∈ ([0, 1, 2] : List Nat), x_okj 254 j = true := List.forall_mem_cons.mpr ⟨x_ok254_0, List.forall_mem_cons.mpr ⟨x_ok254_1, List.forall_mem_cons.mpr ⟨x_ok254_2, fun _ h => absurd h List.not_mem_nil⟩⟩⟩
theorem x_oq254 : x_okq 254 [0, 1, 2] = true := by decide +kernel
theorem x_or254 : ∀ j, x_okj 254 j = true := x_okq_s x_oq254 x_ok254
theorem x_ok255 : ∀ j ∈ ([0, 1, 2] : List Nat), x_okj 255 j = true := List.forall_mem_cons.mpr ⟨x_ok255_0, List.forall_mem_cons.mpr ⟨x_ok255_1, List.forall_mem_cons.mpr ⟨x_ok255_2, fun _ h => absurd h List.not_mem_nil⟩⟩⟩
theorem x_oq255 : x_okq 255 [0, 1, 2] = true := by decide +kernel
theorem x_or255 : ∀ j, x_okj 255 j = true := x_okq_s x_oq255 x_ok255
theorem x_ok256 : ∀ j ∈ ([0, 1, 2, 3, 4] : List Nat), x_okj 256 j = true := List.forall_mem_cons.mpr ⟨x_ok256_0, List.forall_mem_cons.mpr ⟨x_ok256_1, List.forall_mem_cons.mpr ⟨x_ok256_2, List.forall_mem_cons.mpr ⟨x_ok256_3, List.forall_mem_cons.mpr ⟨x_ok256_4, fun _ h => absurd h List.not_mem_nil⟩⟩⟩⟩⟩
theorem x_oq256 : x_okq 256 [0, 1, 2, 3, 4] = true := by decide +kernel
theorem x_or256 : ∀ j, x_okj 256 j = true := x_okq_s x_oq256 x_ok256
theorem x_ok257 : ∀ j ∈ ([0, 1, 2, 3, 4, 5, 6, 7] : List Nat), x_okj 257 j = true := List.forall_mem_cons.mpr ⟨x_ok257_0, List.forall_mem_cons.mpr ⟨x_ok257_1, List.forall_mem_cons.mpr ⟨x_ok257_2, List.forall_mem_cons.mpr ⟨x_ok257_3, List.forall_mem_cons.mpr ⟨x_ok257_4, List.forall_mem_cons.mpr ⟨x_ok257_5, List.forall_mem_cons.mpr ⟨x_ok257_6, List.forall_mem_cons.mpr ⟨x_ok257_7, fun _ h => absurd h List.not_mem_nil⟩⟩⟩⟩⟩⟩⟩⟩
theorem x_oq257 : x_okq 257 [0, 1, 2, 3, 4, 5, 6, 7] = true := by decide +kernel
theorem x_or257 : ∀ j, x_okj 257 j = true := x_okq_s x_oq257 x_ok257
theorem x_ok258 : ∀ j ∈ ([0, 1, 2, 3, 4] : List Nat), x_okj 258 j = true := List.forall_mem_cons.mpr ⟨x_ok258_0, List.forall_mem_cons.mpr ⟨x_ok258_1, List.forall_mem_cons.mpr ⟨x_ok258_2, List.forall_mem_cons.mpr ⟨x_ok258_3, List.forall_mem_cons.mpr ⟨x_ok258_4, fun _ h => absurd h List.not_mem_nil⟩⟩⟩⟩⟩
theorem x_oq258 : x_okq 258 [0, 1, 2, 3, 4] = true := by decide +kernel
theorem x_or258 : ∀ j, x_okj 258 j = true := x_okq_s x_oq258 x_ok258
theorem x_ok259 : ∀ j ∈ ([0] : List Nat), x_okj 259 j = true := List.forall_mem_cons.mpr ⟨x_ok259_0, fun _ h => absurd h List.not_mem_nil⟩
theorem x_oq259 : x_okq 259 [0] = true := by decide +kernel
theorem x_or259 : ∀ j, x_okj 259 j = true := x_okq_s x_oq259 x_ok259
theorem x_ok260 : ∀ j ∈ ([0, 1] : List Nat), x_okj 260 j = true := List.forall_mem_cons.mpr ⟨x_ok260_0, List.forall_mem_cons.mpr ⟨x_ok260_1, fun _ h => absurd h List.not_mem_nil⟩⟩
theorem x_oq260 : x_okq 260 [0, 1] = true := by decide +kernel
theorem x_or260 : ∀ j, x_okj 260 j = true := x_okq_s x_oq260 x_ok260
theorem x_ok261 : ∀ j ∈ ([0, 1, 2, 3] : List Nat), x_okj 261 j = true := List.forall_mem_cons.mpr ⟨x_ok261_0, List.forall_mem_cons.mpr ⟨x_ok261_1, List.forall_mem_cons.mpr ⟨x_ok261_2, List.forall_mem_cons.mpr ⟨x_ok261_3, fun _ h => absurd h List.not_mem_nil⟩⟩⟩⟩
theorem x_oq261 : x_okq 261 [0, 1, 2, 3] = true := by decide +kernel
theorem x_or261 : ∀ j, x_okj 261 j = true := x_okq_s x_oq261 x_ok261
theorem x_ok262 : ∀ j ∈ ([0] : List Nat), x_okj 262 j = true := List.forall_mem_cons.mpr ⟨x_ok262_0, fun _ h => absurd h List.not_mem_nil⟩
theorem x_oq262 : x_okq 262 [0] = true := by decide +kernel
theorem x_or262 : ∀ j, x_okj 262 j = true := x_okq_s x_oq262 x_ok262
theorem x_ok263 : ∀ j ∈ ([0, 1] : List Nat), x_okj 263 j = true := List.forall_mem_cons.mpr ⟨x_ok263_0, List.forall_mem_cons.mpr ⟨x_ok263_1, fun _ h => absurd h List.not_mem_nil⟩⟩
theorem x_oq263 : x_okq 263 [0, 1] = true := by decide +kernel
theorem x_or263 : ∀ j, x_okj 263 j = true := x_okq_s x_oq263 x_ok263
theorem x_ok264 : ∀ j ∈ ([0, 1] : List Nat), x_okj 264 j = true := List.forall_mem_cons.mpr ⟨x_ok264_0, List.forall_mem_cons.mpr ⟨x_ok264_1, fun _ h => absurd h List.not_mem_nil⟩⟩
theorem x_oq264 : x_okq 264 [0, 1] = true := by decide +kernel
theorem x_or264 : ∀ j, x_okj 264 j = true := x_okq_s x_oq264 x_ok264
theorem x_ok265 : ∀ j ∈ ([0, 1] : List Nat), x_okj 265 j = true := List.forall_mem_cons.mpr ⟨x_ok265_0, List.forall_mem_cons.mpr ⟨x_ok265_1, fun _ h => absurd h List.not_mem_nil⟩⟩
theorem x_oq265 : x_okq 265 [0, 1] = true := by decide +kernel
theorem x_or265 : ∀ j, x_okj 265 j = true := x_okq_s x_oq265 x_ok265
theorem x_ok266 : ∀ j ∈ ([0, 1, 2, 3, 4, 5, 6] : List Nat), x_okj 266 j = true := List.forall_mem_cons.mpr ⟨x_ok266_0, List.forall_mem_cons.mpr ⟨x_ok266_1, List.forall_mem_cons.mpr ⟨x_ok266_2, List.forall_mem_cons.mpr ⟨x_ok266_3, List.forall_mem_cons.mpr ⟨x_ok266_4, List.forall_mem_cons.mpr ⟨x_ok266_5, List.forall_mem_cons.mpr ⟨x_ok266_6, fun _ h => absurd h List.not_mem_nil⟩⟩⟩⟩⟩⟩⟩
theorem x_oq266 : x_okq 266 [0, 1, 2, 3, 4, 5, 6] = true := by decide +kernel
theorem x_or266 : ∀ j, x_okj 266 j = true := x_okq_s x_oq266 x_ok266
theorem x_ok267 : ∀ j ∈ ([0] : List Nat), x_okj 267 j = true := List.forall_mem_cons.mpr ⟨x_ok267_0, fun _ h => absurd h List.not_mem_nil⟩
theorem x_oq267 : x_okq 267 [0] = true := by decide +kernel
theorem x_or267 : ∀ j, x_okj 267 j = true := x_okq_s x_oq267 x_ok267
theorem x_ok268 : ∀ j ∈ ([0] : List Nat), x_okj 268 j = true := List.forall_mem_cons.mpr ⟨x_ok268_0, fun _ h => absurd h List.not_mem_nil⟩
theorem x_oq268 : x_okq 268 [0] = true := by decide +kernel
theorem x_or268 : ∀ j, x_okj 268 j = true := x_okq_s x_oq268 x_ok268
theorem x_ok269 : ∀ j ∈ ([0, 1, 2, 3] : List Nat), x_okj 269 j = true := List.forall_mem_cons.mpr ⟨x_ok269_0, List.forall_mem_cons.mpr ⟨x_ok269_1, List.forall_mem_cons.mpr ⟨x_ok269_2, List.forall_mem_cons.mpr ⟨x_ok269_3, fun _ h => absurd h List.not_mem_nil⟩⟩⟩⟩
theorem x_oq269 : x_okq 269 [0, 1, 2, 3] = true := by decide +kernel
theorem x_or269 : ∀ j, x_okj 269 j = true := x_okq_s x_oq269 x_ok269
theorem x_ok270 : ∀ j ∈ ([0] : List Nat), x_okj 270 j = true := List.forall_mem_cons.mpr ⟨x_ok270_0, fun _ h => absurd h List.not_mem_nil⟩
theorem x_oq270 : x_okq 270 [0] = true := by decide +kernel
theorem x_or270 : ∀ j, x_okj 270 j = true := x_okq_s x_oq270 x_ok270
theorem x_ok271 : ∀ j ∈ ([0, 1, 2, 3, 4, 5, 6] : List Nat), x_okj 271 j = true := List.forall_mem_cons.mpr ⟨x_ok271_0, List.forall_mem_cons.mpr ⟨x_ok271_1, List.forall_mem_cons.mpr ⟨x_ok271_2, List.forall_mem_cons.mpr ⟨x_ok271_3, List.forall_mem_cons.mpr ⟨x_ok271_4, List.forall_mem_cons.mpr ⟨x_ok271_5, List.forall_mem_cons.mpr ⟨x_ok271_6, fun _ h => absurd h List.not_mem_nil⟩⟩⟩⟩⟩⟩⟩
theorem x_oq271 : x_okq 271 [0, 1, 2, 3, 4, 5, 6] = true := by decide +kernel
theorem x_or271 : ∀ j, x_okj 271 j = true := x_okq_s x_oq271 x_ok271
theorem x_ok272 : ∀ j ∈ ([0] : List Nat), x_okj 272 j = true := List.forall_mem_cons.mpr ⟨x_ok272_0, fun _ h => absurd h List.not_mem_nil⟩
theorem x_oq272 : x_okq 272 [0] = true := by decide +kernel
theorem x_or272 : ∀ j, x_okj 272 j = true := x_okq_s x_oq272 x_ok272
theorem x_ok273 : ∀ j ∈ ([0, 1, 2, 3, 4, 5] : List Nat), x_okj 273 j = true := List.forall_mem_cons.mpr ⟨x_ok273_0, List.forall_mem_cons.mpr ⟨x_ok273_1, List.forall_mem_cons.mpr ⟨x_ok273_2, List.forall_mem_cons.mpr ⟨x_ok273_3, List.forall_mem_cons.mpr ⟨x_ok273_4, List.forall_mem_cons.mpr ⟨x_ok273_5, fun _ h => absurd h List.not_mem_nil⟩⟩⟩⟩⟩⟩
theorem x_oq273 : x_okq 273 [0, 1, 2, 3, 4, 5] = true := by decide +kernel
theorem x_or273 : ∀ j, x_okj 273 j = true := x_okq_s x_oq273 x_ok273
theorem x_ok274 : ∀ j ∈ ([0] : List Nat), x_okj 274 j = true := List.forall_mem_cons.mpr ⟨x_ok274_0, fun _ h => absurd h List.not_mem_nil⟩
theorem x_oq274 : x_okq 274 [0] = true := by decide +kernel
theorem x_or274 : ∀ j, x_okj 274 j = true := x_okq_s x_oq274 x_ok274
theorem x_ok275 : ∀ j ∈ ([0, 1, 2, 3, 4, 5, 6] : List Nat), x_okj 275 j = true := List.forall_mem_cons.mpr ⟨x_ok275_0, List.forall_mem_cons.mpr ⟨x_ok275_1, List.forall_mem_cons.mpr ⟨x_ok275_2, List.forall_mem_cons.mpr ⟨x_ok275_3, List.forall_mem_cons.mpr ⟨x_ok275_4, List.forall_mem_cons.mpr ⟨x_ok275_5, List.forall_mem_cons.mpr ⟨x_ok275_6, fun _ h => absurd h List.not_mem_nil⟩⟩⟩⟩⟩⟩⟩
theorem x_oq275 : x_okq 275 [0, 1, 2, 3, 4, 5, 6] = true := by decide +kernel
theorem x_or275 : ∀ j, x_okj 275 j = true := x_okq_s x_oq275 x_ok275
theorem x_ok276 : ∀ j ∈ ([0] : List Nat), x_okj 276 j = true := List.forall_mem_cons.mpr ⟨x_ok276_0, fun _ h => absurd h List.not_mem_nil⟩
theorem x_oq276 : x_okq 276 [0] = true := by decide +kernel
theorem x_or276 : ∀ j, x_okj 276 j = true := x_okq_s x_oq276 x_ok276
theorem x_ok277 : ∀ j ∈ ([0] : List Nat), x_okj 277 j = true := List.forall_mem_cons.mpr ⟨x_ok277_0, fun _ h => absurd h List.not_mem_nil⟩
theorem x_oq277 : x_okq 277 [0] = true := by decide +kernel
theorem x_or277 : ∀ j, x_okj 277 j = true := x_okq_s x_oq277 x_ok277
theorem x_ok278 : ∀ j ∈ ([0] : List Nat), x_okj 278 j = true := List.forall_mem_cons.mpr ⟨x_ok278_0, fun _ h => absurd h List.not_mem_nil⟩
theorem x_oq278 : x_okq 278 [0] = true := by decide +kernel
theorem x_or278 : ∀ j, x_okj 278 j = true := x_okq_s x_oq278 x_ok278
theorem x_ok279 : ∀ j ∈ ([0] : List Nat), x_okj 279 j = true := List.forall_mem_cons.mpr ⟨x_ok279_0, fun _ h => absurd h List.not_mem_nil⟩
theorem x_oq279 : x_okq 279 [0] = true := by decide +kernel
theorem x_or279 : ∀ j, x_okj 279 j = true := x_okq_s x_oq279 x_ok279
theorem x_ok280 : ∀ j ∈ ([0, 1] : List Nat), x_okj 280 j = true := List.forall_mem_cons.mpr ⟨x_ok280_0, List.forall_mem_cons.mpr ⟨x_ok280_1, fun _ h => absurd h List.not_mem_nil⟩⟩
theorem x_oq280 : x_okq 280 [0, 1] = true := by decide +kernel
theorem x_or280 : ∀ j, x_okj 280 j = true := x_okq_s x_oq280 x_ok280
theorem x_ok281 : ∀ j ∈ ([0, 1, 2, 3, 4, 5] : List Nat), x_okj 281 j = true := List.forall_mem_cons.mpr ⟨x_ok281_0, List.forall_mem_cons.mpr ⟨x_ok281_1, List.forall_mem_cons.mpr ⟨x_ok281_2, List.forall_mem_cons.mpr ⟨x_ok281_3, List.forall_mem_cons.mpr ⟨x_ok281_4, List.forall_mem_cons.mpr ⟨x_ok281_5, fun _ h => absurd h List.not_mem_nil⟩⟩⟩⟩⟩⟩
theorem x_oq281 : x_okq 281 [0, 1, 2, 3, 4, 5] = true := by decide +kernel
theorem x_or281 : ∀ j, x_okj 281 j = true := x_okq_s x_oq281 x_ok281
theorem x_ok282 : ∀ j ∈ ([0, 1, 2, 3, 4] : List Nat), x_okj 282 j = true := List.forall_mem_cons.mpr ⟨x_ok282_0, List.forall_mem_cons.mpr ⟨x_ok282_1, List.forall_mem_cons.mpr ⟨x_ok282_2, List.forall_mem_cons.mpr ⟨x_ok282_3, List.forall_mem_cons.mpr ⟨x_ok282_4, fun _ h => absurd h List.not_mem_nil⟩⟩⟩⟩⟩
theorem x_oq282 : x_okq 282 [0, 1, 2, 3, 4] = true := by decide +kernel
theorem x_or282 : ∀ j, x_okj 282 j = true := x_okq_s x_oq282 x_ok282
theorem x_ok283 : ∀ j ∈ ([0, 1, 2, 3, 4, 5, 6, 7] : List Nat), x_okj 283 j = true := List.forall_mem_cons.mpr ⟨x_ok283_0, List.forall_mem_cons.mpr ⟨x_ok283_1, List.forall_mem_cons.mpr ⟨x_ok283_2, List.forall_mem_cons.mpr ⟨x_ok283_3, List.forall_mem_cons.mpr ⟨x_ok283_4, List.forall_mem_cons.mpr ⟨x_ok283_5, List.forall_mem_cons.mpr ⟨x_ok283_6, List.forall_mem_cons.mpr ⟨x_ok283_7, fun _ h => absurd h List.not_mem_nil⟩⟩⟩⟩⟩⟩⟩⟩
theorem x_oq283 : x_okq 283 [0, 1, 2, 3, 4, 5, 6, 7] = true := by decide +kernel
theorem x_or283 : ∀ j, x_okj 283 j = true := x_okq_s x_oq283 x_ok283
theorem x_ok284 : ∀ j ∈ ([0, 1, 2] : List Nat), x_okj 284 j = true := List.forall_mem_cons.mpr ⟨x_ok284_0, List.forall_mem_cons.mpr ⟨x_ok284_1, List.forall_mem_cons.mpr ⟨x_ok284_2, fun _ h => absurd h List.not_mem_nil⟩⟩⟩
theorem x_oq284 : x_okq 284 [0, 1, 2] = true := by decide +kernel
theorem x_or284 : ∀ j, x_okj 284 j = true := x_okq_s x_oq284 x_ok284
theorem x_ok285 : ∀ j ∈ ([0, 1, 2, 3, 4, 5, 6, 7, 8] : List Nat), x_okj 285 j = true := List.forall_mem_cons.mpr ⟨x_ok285_0, List.forall_mem_cons.mpr ⟨x_ok285_1, List.forall_mem_cons.mpr ⟨x_ok285_2, List.forall_mem_cons.mpr ⟨x_ok285_3, List.forall_mem_cons.mpr ⟨x_ok285_4, List.forall_mem_cons.mpr ⟨x_ok285_5, List.forall_mem_cons.mpr ⟨x_ok285_6, List.forall_mem_cons.mpr ⟨x_ok285_7, List.forall_mem_cons.mpr ⟨x_ok285_8, fun _ h => absurd h List.not_mem_nil⟩⟩⟩⟩⟩⟩⟩⟩⟩
theorem x_oq285 : x_okq 285 [0, 1, 2, 3, 4, 5, 6, 7, 8] = true := by decide +kernel
theorem x_or285 : ∀ j, x_okj 285 j = true := x_okq_s x_oq285 x_ok285
theorem x_ok286 : ∀ j ∈ ([0] : List Nat), x_okj 286 j = true := List.forall_mem_cons.mpr ⟨x_ok286_0, fun _ h => absurd h List.not_mem_nil⟩
theorem x_oq286 : x_okq 286 [0] = true := by decide +kernel
theorem x_or286 : ∀ j, x_okj 286 j = true := x_okq_s x_oq286 x_ok286
theorem x_ok287 : ∀ j ∈ ([0] : List Nat), x_okj 287 j = true := List.forall_mem_cons.mpr ⟨x_ok287_0, fun _ h => absurd h List.not_mem_nil⟩
theorem x_oq287 : x_okq 287 [0] = true := by decide +kernel
theorem x_or287 : ∀ j, x_okj 287 j = true := x_okq_s x_oq287 x_ok287
theorem x_ok288 : ∀ j ∈ ([0] : List Nat), x_okj 288 j = true := List.forall_mem_cons.mpr ⟨x_ok288_0, fun _ h => absurd h List.not_mem_nil⟩
theorem x_oq288 : x_okq 288 [0] = true := by decide +kernel
theorem x_or288 : ∀ j, x_okj 288 j = true := x_okq_s x_oq288 x_ok288
theorem x_ok289 : ∀ j ∈ ([0] : List Nat), x_okj 289 j = true := List.forall_mem_cons.mpr ⟨x_ok289_0, fun _ h => absurd h List.not_mem_nil⟩
theorem x_oq289 : x_okq 289 [0] = true := by decide +kernel
theorem x_or289 : ∀ j, x_okj 289 j = true := x_okq_s x_oq289 x_ok289
theorem x_ok290 : ∀ j ∈ ([0] : List Nat), x_okj 290 j = true := List.forall_mem_cons.mpr ⟨x_ok290_0, fun _ h => absurd h List.not_mem_nil⟩
theorem x_oq290 : x_okq 290 [0] = true := by decide +kernel
theorem x_or290 : ∀ j, x_okj 290 j = true := x_okq_s x_oq290 x_ok290
theorem x_ok291 : ∀ j ∈ ([0] : List Nat), x_okj 291 j = true := List.forall_mem_cons.mpr ⟨x_ok291_0, fun _ h => absurd h List.not_mem_nil⟩
theorem x_oq291 : x_okq 291 [0] = true := by decide +kernel
theorem x_or291 : ∀ j, x_okj 291 j = true := x_okq_s x_oq291 x_ok291
theorem x_ok292 : ∀ j ∈ ([0] : List Nat), x_okj 292 j = true := List.forall_mem_cons.mpr ⟨x_ok292_0, fun _ h => absurd h List.not_mem_nil⟩
theorem x_oq292 : x_okq 292 [0] = true := by decide +kernel
theorem x_or292 : ∀ j, x_okj 292 j = true := x_okq_s x_oq292 x_ok292
theorem x_ok293 : ∀ j ∈ ([0] : List Nat), x_okj 293 j = true := List.forall_mem_cons.mpr ⟨x_ok293_0, fun _ h => absurd h List.not_mem_nil⟩
theorem x_oq293 : x_okq 293 [0] = true := by decide +kernel
theorem x_or293 : ∀ j, x_okj 293 j = true := x_okq_s x_oq293 x_ok293
theorem x_ok294 : ∀ j ∈ ([0] : List Nat), x_okj 294 j = true := List.forall_mem_cons.mpr ⟨x_ok294_0, fun _ h => absurd h List.not_mem_nil⟩
theorem x_oq294 : x_okq 294 [0] = true := by decide +kernel
theorem x_or294 : ∀ j, x_okj 294 j = true := x_okq_s x_oq294 x_ok294
theorem x_ok295 : ∀ j ∈ ([0] : List Nat), x_okj 295 j = true := List.forall_mem_cons.mpr ⟨x_ok295_0, fun _ h => absurd h List.not_mem_nil⟩
theorem x_oq295 : x_okq 295 [0] = true := by decide +kernel
theorem x_or295 : ∀ j, x_okj 295 j = true := x_okq_s x_oq295 x_ok295
theorem x_ok296 : ∀ j ∈ ([0] : List Nat), x_okj 296 j = true := List.forall_mem_cons.mpr ⟨x_ok296_0, fun _ h => absurd h List.not_mem_nil⟩
theorem x_oq296 : x_okq 296 [0] = true := by decide +kernel
theorem x_or296 : ∀ j, x_okj 296 j = true := x_okq_s x_oq296 x_ok296
theorem x_ok297 : ∀ j ∈ ([] : List Nat), x_okj 297 j = true := fun _ h => absurd h List.not_mem_nil
theorem x_oq297 : x_okq 297 [] = true := by decide +kernel
theorem x_or297 : ∀ j, x_okj 297 j = true := x_okq_s x_oq297 x_ok297
theorem x_ok298 : ∀ j ∈ ([] : List Nat), x_okj 298 j = true := fun _ h => absurd h List.not_mem_nil
theorem x_oq298 : x_okq 298 [] = true := by decide +kernel
theorem x_or298 : ∀ j, x_okj 298 j = true := x_okq_s x_oq298 x_ok298
theorem x_ok299 : ∀ j ∈ ([] : List Nat), x_okj 299 j = true := fun _ h => absurd h List.not_mem_nil
theorem x_oq299 : x_okq 299 [] = true := by decide +kernel
theorem x_or299 : ∀ j, x_okj 299 j = true := x_okq_s x_oq299 x_ok299
theorem x_ok300 : ∀ j ∈ ([] : List Nat), x_okj 300 j = true := fun _ h => absurd h List.not_mem_nil
theorem x_oq300 : x_okq 300 [] = true := by decide +kernel
theorem x_or300 : ∀ j, x_okj 300 j = true := x_okq_s x_oq300 x_ok300
theorem x_ok301 : ∀ j ∈ ([] : List Nat), x_okj 301 j = true := fun _ h => absurd h List.not_mem_nil
theorem x_oq301 : x_okq 301 [] = true := by decide +kernel
theorem x_or301 : ∀ j, x_okj 301 j = true := x_okq_s x_oq301 x_ok301
theorem x_ok302 : ∀ j ∈ ([] : List Nat), x_okj 302 j = true := fun _ h => absurd h List.not_mem_nil
theorem x_oq302 : x_okq 302 [] = true := by decide +kernel
theorem x_or302 : ∀ j, x_okj 302 j = true := x_okq_s x_oq302 x_ok302
theorem x_ok303 : ∀ j ∈ ([] : List Nat), x_okj 303 j = true := fun _ h => absurd h List.not_mem_nil
theorem x_oq303 : x_okq 303 [] = true := by decide +kernel
theorem x_or303 : ∀ j, x_okj 303 j = true := x_okq_s x_oq303 x_ok303
theorem x_orc0 : ∀ y ∈ ([0, 1, 2, 3, 4, 5, 6, 7, 8, 9, 10, 11, 12, 13, 14, 15] : List Nat), ∀ j, x_okj y j = true := List.forall_mem_cons.mpr ⟨x_or0, List.forall_mem_cons.mpr ⟨x_or1, List.forall_mem_cons.mpr ⟨x_or2, List.forall_mem_cons.mpr ⟨x_or3, List.forall_mem_cons.mpr ⟨x_or4, List.forall_mem_cons.mpr ⟨x_or5, List.forall_mem_cons.mpr ⟨x_or6, List.forall_mem_cons.mpr ⟨x_or7, List.forall_mem_cons.mpr ⟨x_or8, List.forall_mem_cons.mpr ⟨x_or9, List.forall_mem_cons.mpr ⟨x_or10, List.forall_mem_cons.mpr ⟨x_or11, List.forall_mem_cons.mpr ⟨x_or12, List.forall_mem_cons.mpr ⟨x_or13, List.forall_mem_cons.mpr ⟨x_or14, List.forall_mem_cons.mpr ⟨x_or15, fun _ h => absurd h List.not_mem_nil⟩⟩⟩⟩⟩⟩⟩⟩⟩⟩⟩⟩⟩⟩⟩⟩
theorem x_orc1 : ∀ y ∈ ([16, 17, 18, 19, 20, 21, 22, 23, 24, 25, 26, 27, 28, 29, 30, 31] : List Nat), ∀ j, x_okj y j = true := List.forall_mem_cons.mpr ⟨x_or16, List.forall_mem_cons.mpr ⟨x_or17, List.forall_mem_cons.mpr ⟨x_or18, List.forall_mem_cons.mpr ⟨x_or19, List.forall_mem_cons.mpr ⟨x_or20, List.forall_mem_cons.mpr ⟨x_or21, List.forall_mem_cons.mpr ⟨x_or22, List.forall_mem_cons.mpr ⟨x_or23, List.forall_mem_cons.mpr ⟨x_or24, List.forall_mem_cons.mpr ⟨x_or25, List.forall_mem_cons.mpr ⟨x_or26, List.forall_mem_cons.mpr ⟨x_or27, List.forall_mem_cons.mpr ⟨x_or28, List.forall_mem_cons.mpr ⟨x_or29, List.forall_mem_cons.mpr ⟨x_or30, List.forall_mem_cons.mpr ⟨x_or31, fun _ h => absurd h List.not_mem_nil⟩⟩⟩⟩⟩⟩⟩⟩⟩⟩⟩⟩⟩⟩⟩⟩
theorem x_orc2 : ∀ y ∈ ([32, 33, 34, 35, 36, 37, 38, 39, 40, 41, 42, 43, 44, 45, 46, 47] : List Nat), ∀ j, x_okj y j = true := List.forall_mem_cons.mpr ⟨x_or32, List.forall_mem_cons.mpr ⟨x_or33, List.forall_mem_cons.mpr ⟨x_or34, List.forall_mem_cons.mpr ⟨x_or35, List.forall_mem_cons.mpr ⟨x_or36, List.forall_mem_cons.mpr ⟨x_or37, List.forall_mem_cons.mpr ⟨x_or38, List.forall_mem_cons.mpr ⟨x_or39, List.forall_mem_cons.mpr ⟨x_or40, List.forall_mem_cons.mpr ⟨x_or41, List.forall_mem_cons.mpr ⟨x_or42, List.forall_mem_cons.mpr ⟨x_or43, List.forall_mem_cons.mpr ⟨x_or44, List.forall_mem_cons.mpr ⟨x_or45, List.forall_mem_cons.mpr ⟨x_or46, List.forall_mem_cons.mpr ⟨x_or47, fun _ h => absurd h List.not_mem_nil⟩⟩⟩⟩⟩⟩⟩⟩⟩⟩⟩⟩⟩⟩⟩⟩
theorem x_orc3 : ∀ y ∈ ([48, 49, 50, 51, 52, 53, 54, 55, 56, 57, 58, 59, 60, 61, 62, 63] : List Nat), ∀ j, x_okj y j = true := List.forall_mem_cons.mpr ⟨x_or48, List.forall_mem_cons.mpr ⟨x_or49, List.forall_mem_cons.mpr ⟨x_or50, List.forall_mem_cons.mpr ⟨x_or51, List.forall_mem_cons.mpr ⟨x_or52, List.forall_mem_cons.mpr ⟨x_or53, List.forall_mem_cons.mpr ⟨x_or54, List.forall_mem_cons.mpr ⟨x_or55, List.forall_mem_cons.mpr ⟨x_or56, List.forall_mem_cons.mpr ⟨x_or57, List.forall_mem_cons.mpr ⟨x_or58, List.forall_mem_cons.mpr ⟨x_or59, List.forall_mem_cons.mpr ⟨x_or60, List.forall_mem_cons.mpr ⟨x_or61, List.forall_mem_cons.mpr ⟨x_or62, List.forall_mem_cons.mpr ⟨x_or63, fun _ h => absurd h List.not_mem_nil⟩⟩⟩⟩⟩⟩⟩⟩⟩⟩⟩⟩⟩⟩⟩⟩
theorem x_orc4 : ∀ y ∈ ([64, 65, 66, 67, 68, 69, 70, 71, 72, 73, 74, 75, 76, 77, 78, 79] : List Nat), ∀ j, x_okj y j = true := List.forall_mem_cons.mpr ⟨x_or64, List.forall_mem_cons.mpr ⟨x_or65, List.forall_mem_cons.mpr ⟨x_or66, List.forall_mem_cons.mpr ⟨x_or67, List.forall_mem_cons.mpr ⟨x_or68, List.forall_mem_cons.mpr ⟨x_or69, List.forall_mem_cons.mpr ⟨x_or70, List.forall_mem_cons.mpr ⟨x_or71, List.forall_mem_cons.mpr ⟨x_or72, List.forall_mem_cons.mpr ⟨x_or73, List.forall_mem_cons.mpr ⟨x_or74, List.forall_mem_cons.mpr ⟨x_or75, List.forall_mem_cons.mpr ⟨x_or76, List.forall_mem_cons.mpr ⟨x_or77, List.forall_mem_cons.mpr ⟨x_or78, List.forall_mem_cons.mpr ⟨x_or79, fun _ h => absurd h List.not_mem_nil⟩⟩⟩⟩⟩⟩⟩⟩⟩⟩⟩⟩⟩⟩⟩⟩
theorem x_orc5 : ∀ y ∈ ([80, 81, 82, 83, 84, 85, 86, 87, 88, 89, 90, 91, 92, 93, 94, 95] : List Nat), ∀ j, x_okj y j = true := List.forall_mem_cons.mpr ⟨x_or80, List.forall_mem_cons.mpr ⟨x_or81, List.forall_mem_cons.mpr ⟨x_or82, List.forall_mem_cons.mpr ⟨x_or83, List.forall_mem_cons.mpr ⟨x_or84, List.forall_mem_cons.mpr ⟨x_or85, List.forall_mem_cons.mpr ⟨x_or86, List.forall_mem_cons.mpr ⟨x_or87, List.forall_mem_cons.mpr ⟨x_or88, List.forall_mem_cons.mpr ⟨x_or89, List.forall_mem_cons.mpr ⟨x_or90, List.forall_mem_cons.mpr ⟨x_or91, List.forall_mem_cons.mpr ⟨x_or92, List.forall_mem_cons.mpr ⟨x_or93, List.forall_mem_cons.mpr ⟨x_or94, List.forall_mem_cons.mpr ⟨x_or95, fun _ h => absurd h List.not_mem_nil⟩⟩⟩⟩⟩⟩⟩⟩⟩⟩⟩⟩⟩⟩⟩⟩
theorem x_orc6 : ∀ y ∈ ([96, 97, 98, 99, 100, 101, 102, 103, 104, 105, 106, 107, 108, 109, 110, 111] : List Nat), ∀ j, x_okj y j = true := List.forall_mem_cons.mpr ⟨x_or96, List.forall_mem_cons.mpr ⟨x_or97, List.forall_mem_cons.mpr ⟨x_or98, List.forall_mem_cons.mpr ⟨x_or99, List.forall_mem_cons.mpr ⟨x_or100, List.forall_mem_cons.mpr ⟨x_or101, List.forall_mem_cons.mpr ⟨x_or102, List.forall_mem_cons.mpr ⟨x_or103, List.forall_mem_cons.mpr ⟨x_or104, List.forall_mem_cons.mpr ⟨x_or105, List.forall_mem_cons.mpr ⟨x_or106, List.forall_mem_cons.mpr ⟨x_or107, List.forall_mem_cons.mpr ⟨x_or108, List.forall_mem_cons.mpr ⟨x_or109, List.forall_mem_cons.mpr ⟨x_or110, List.forall_mem_cons.mpr ⟨x_or111, fun _ h => absurd h List.not_mem_nil⟩⟩⟩⟩⟩⟩⟩⟩⟩⟩⟩⟩⟩⟩⟩⟩
theorem x_orc7 : ∀ y ∈ ([112, 113, 114, 115, 116, 117, 118, 119, 120, 121, 122, 123, 124, 125, 126, 127] : List Nat), ∀ j, x_okj y j = true := List.forall_mem_cons.mpr ⟨x_or112, List.forall_mem_cons.mpr ⟨x_or113, List.forall_mem_cons.mpr ⟨x_or114, List.forall_mem_cons.mpr ⟨x_or115, List.forall_mem_cons.mpr ⟨x_or116, List.forall_mem_cons.mpr ⟨x_or117, List.forall_mem_cons.mpr ⟨x_or118, List.forall_mem_cons.mpr ⟨x_or119, List.forall_mem_cons.mpr ⟨x_or120, List.forall_mem_cons.mpr ⟨x_or121, List.forall_mem_cons.mpr ⟨x_or122, List.forall_mem_cons.mpr ⟨x_or123, List.forall_mem_cons.mpr ⟨x_or124, List.forall_mem_cons.mpr ⟨x_or125, List.forall_mem_cons.mpr ⟨x_or126, List.forall_mem_cons.mpr ⟨x_or127, fun _ h => absurd h List.not_mem_nil⟩⟩⟩⟩⟩⟩⟩⟩⟩⟩⟩⟩⟩⟩⟩⟩
theorem x_orc8 : ∀ y ∈ ([128, 129, 130, 131, 132, 133, 134, 135, 136, 137, 138, 139, 140, 141, 142, 143] : List Nat), ∀ j, x_okj y j = true := List.forall_mem_cons.mpr ⟨x_or128, List.forall_mem_cons.mpr ⟨x_or129, List.forall_mem_cons.mpr ⟨x_or130, List.forall_mem_cons.mpr ⟨x_or131, List.forall_mem_cons.mpr ⟨x_or132, List.forall_mem_cons.mpr ⟨x_or133, List.forall_mem_cons.mpr ⟨x_or134, List.forall_mem_cons.mpr ⟨x_or135, List.forall_mem_cons.mpr ⟨x_or136, List.forall_mem_cons.mpr ⟨x_or137, List.forall_mem_cons.mpr ⟨x_or138, List.forall_mem_cons.mpr ⟨x_or139, List.forall_mem_cons.mpr ⟨x_or140, List.forall_mem_cons.mpr ⟨x_or141, List.forall_mem_cons.mpr ⟨x_or142, List.forall_mem_cons.mpr ⟨x_or143, fun _ h => absurd h List.not_mem_nil⟩⟩⟩⟩⟩⟩⟩⟩⟩⟩⟩⟩⟩⟩⟩⟩
theorem x_orc9 : ∀ y ∈ ([144, 145, 146, 147, 148, 149, 150, 151, 152, 153, 154, 155, 156, 157, 158, 159] : List Nat), ∀ j, x_okj y j = true := List.forall_mem_cons.mpr ⟨x_or144, List.forall_mem_cons.mpr ⟨x_or145, List.forall_mem_cons.mpr ⟨x_or146, List.forall_mem_cons.mpr ⟨x_or147, List.forall_mem_cons.mpr ⟨x_or148, List.forall_mem_cons.mpr ⟨x_or149, List.forall_mem_cons.mpr ⟨x_or150, List.forall_mem_cons.mpr ⟨x_or151, List.forall_mem_cons.mpr ⟨x_or152, List.forall_mem_cons.mpr ⟨x_or153, List.forall_mem_cons.mpr ⟨x_or154, List.forall_mem_cons.mpr ⟨x_or155, List.forall_mem_cons.mpr ⟨x_or156, List.forall_mem_cons.mpr ⟨x_or157, List.forall_mem_cons.mpr ⟨x_or158, List.forall_mem_cons.mpr ⟨x_or159, fun _ h => absurd h List.not_mem_nil⟩⟩⟩⟩⟩⟩⟩⟩⟩⟩⟩⟩⟩⟩⟩⟩
theorem x_orc10 : ∀ y ∈ ([160, 161, 162, 163, 164, 165, 166, 167, 168, 169, 170, 171, 172, 173, 174, 175] : List Nat), ∀ j, x_okj y j = true := List.forall_mem_cons.mpr ⟨x_or160, List.forall_mem_cons.mpr ⟨x_or161, List.forall_mem_cons.mpr ⟨x_or162, List.forall_mem_cons.mpr ⟨x_or163, List.forall_mem_cons.mpr ⟨x_or164, List.forall_mem_cons.mpr ⟨x_or165, List.forall_mem_cons.mpr ⟨x_or166, List.forall_mem_cons.mpr ⟨x_or167, List.forall_mem_cons.mpr ⟨x_or168, List.forall_mem_cons.mpr ⟨x_or169, List.forall_mem_cons.mpr ⟨x_or170, List.forall_mem_cons.mpr ⟨x_or171, List.forall_mem_cons.mpr ⟨x_or172, List.forall_mem_cons.mpr ⟨x_or173, List.forall_mem_cons.mpr ⟨x_or174, List.forall_mem_cons.mpr ⟨x_or175, fun _ h => absurd h List.not_mem_nil⟩⟩⟩⟩⟩⟩⟩⟩⟩⟩⟩⟩⟩⟩⟩⟩
theorem x_orc11 : ∀ y ∈ ([176, 177, 178, 179, 180, 181, 182, 183, 184, 185, 186, 187, 188, 189, 190, 191] : List Nat), ∀ j, x_okj y j = true := List.forall_mem_cons.mpr ⟨x_or176, List.forall_mem_cons.mpr ⟨x_or177, List.forall_mem_cons.mpr ⟨x_or178, List.forall_mem_cons.mpr ⟨x_or179, List.forall_mem_cons.mpr ⟨x_or180, List.forall_mem_cons.mpr ⟨x_or181, List.forall_mem_cons.mpr ⟨x_or182, List.forall_mem_cons.mpr ⟨x_or183, List.forall_mem_cons.mpr ⟨x_or184, List.forall_mem_cons.mpr ⟨x_or185, List.forall_mem_cons.mpr ⟨x_or186, List.forall_mem_cons.mpr ⟨x_or187, List.forall_mem_cons.mpr ⟨x_or188, List.forall_mem_cons.mpr ⟨x_or189, List.forall_mem_cons.mpr ⟨x_or190, List.forall_mem_cons.mpr ⟨x_or191, fun _ h => absurd h List.not_mem_nil⟩⟩⟩⟩⟩⟩⟩⟩⟩⟩⟩⟩⟩⟩⟩⟩
theorem x_orc12 : ∀ y ∈ ([192, 193, 194, 195, 196, 197, 198, 199, 200, 201, 202, 203, 204, 205, 206, 207] : List Nat), ∀ j, x_okj y j = true := List.forall_mem_cons.mpr ⟨x_or192, List.forall_mem_cons.mpr ⟨x_or193, List.forall_mem_cons.mpr ⟨x_or194, List.forall_mem_cons.mpr ⟨x_or195, List.forall_mem_cons.mpr ⟨x_or196, List.forall_mem_cons.mpr ⟨x_or197, List.forall_mem_cons.mpr ⟨x_or198, List.forall_mem_cons.mpr ⟨x_or199, List.forall_mem_cons.mpr ⟨x_or200, List.forall_mem_cons.mpr ⟨x_or201, List.forall_mem_cons.mpr ⟨x_or202, List.forall_mem_cons.mpr ⟨x_or203, List.forall_mem_cons.mpr ⟨x_or204, List.forall_mem_cons.mpr ⟨x_or205, List.forall_mem_cons.mpr ⟨x_or206, List.forall_mem_cons.mpr ⟨x_or207, fun _ h => absurd h List.not_mem_nil⟩⟩⟩⟩⟩⟩⟩⟩⟩⟩⟩⟩⟩⟩⟩⟩
theorem x_orc13 : ∀ y ∈ ([208, 209, 210, 211, 212, 213, 214, 215, 216, 217, 218, 219, 220, 221, 222, 223] : List Nat), ∀ j, x_okj y j = true := List.forall_mem_cons.mpr ⟨x_or208, List.forall_mem_cons.mpr ⟨x_or209, List.forall_mem_cons.mpr ⟨x_or210, List.forall_mem_cons.mpr ⟨x_or211, List.forall_mem_cons.mpr ⟨x_or212, List.forall_mem_cons.mpr ⟨x_or213, List.forall_mem_cons.mpr ⟨x_or214, List.forall_mem_cons.mpr ⟨x_or215, List.forall_mem_cons.mpr ⟨x_or216, List.forall_mem_cons.mpr ⟨x_or217, List.forall_mem_cons.mpr ⟨x_or218, List.forall_mem_cons.mpr ⟨x_or219, List.forall_mem_cons.mpr ⟨x_or220, List.forall_mem_cons.mpr ⟨x_or221, List.forall_mem_cons.mpr ⟨x_or222, List.forall_mem_cons.mpr ⟨x_or223, fun _ h => absurd h List.not_mem_nil⟩⟩⟩⟩⟩⟩⟩⟩⟩⟩⟩⟩⟩⟩⟩⟩
theorem x_orc14 : ∀ y ∈ ([224, 225, 226, 227, 228, 229, 230, 231, 232, 233, 234, 235, 236, 237, 238, 239] : List Nat), ∀ j, x_okj y j = true := List.forall_mem_cons.mpr ⟨x_or224, List.forall_mem_cons.mpr ⟨x_or225, List.forall_mem_cons.mpr ⟨x_or226, List.forall_mem_cons.mpr ⟨x_or227, List.forall_mem_cons.mpr ⟨x_or228, List.forall_mem_cons.mpr ⟨x_or229, List.forall_mem_cons.mpr ⟨x_or230, List.forall_mem_cons.mpr ⟨x_or231, List.forall_mem_cons.mpr ⟨x_or232, List.forall_mem_cons.mpr ⟨x_or233, List.forall_mem_cons.mpr ⟨x_or234, List.forall_mem_cons.mpr ⟨x_or235, List.forall_mem_cons.mpr ⟨x_or236, List.forall_mem_cons.mpr ⟨x_or237, List.forall_mem_cons.mpr ⟨x_or238, List.forall_mem_cons.mpr ⟨x_or239, fun _ h => absurd h List.not_mem_nil⟩⟩⟩⟩⟩⟩⟩⟩⟩⟩⟩⟩⟩⟩⟩⟩
theorem x_orc15 : ∀ y ∈ ([240, 241, 242, 243, 244, 245, 246, 247, 248, 249, 250, 251, 252, 253, 254, 255] : List Nat), ∀ j, x_okj y j = true := List.forall_mem_cons.mpr ⟨x_or240, List.forall_mem_cons.mpr ⟨x_or241, List.forall_mem_cons.mpr ⟨x_or242, List.forall_mem_cons.mpr ⟨x_or243, List.forall_mem_cons.mpr ⟨x_or244, List.forall_mem_cons.mpr ⟨x_or245, List.forall_mem_cons.mpr ⟨x_or246, List.forall_mem_cons.mpr ⟨x_or247, List.forall_mem_cons.mpr ⟨x_or248, List.forall_mem_cons.mpr ⟨x_or249, List.forall_mem_cons.mpr ⟨x_or250, List.forall_mem_cons.mpr ⟨x_or251, List.forall_mem_cons.mpr ⟨x_or252, List.forall_mem_cons.mpr ⟨x_or253, List.forall_mem_cons.mpr ⟨x_or254, List.forall_mem_cons.mpr ⟨x_or255, fun _ h => absurd h List.not_mem_nil⟩⟩⟩⟩⟩⟩⟩⟩⟩⟩⟩⟩⟩⟩⟩⟩
theorem x_orc16 : ∀ y ∈ ([256, 257, 258, 259, 260, 261, 262, 263, 264, 265, 266, 267, 268, 269, 270, 271] : List Nat), ∀ j, x_okj y j = true := List.forall_mem_cons.mpr ⟨x_or256, List.forall_mem_cons.mpr ⟨x_or257, List.forall_mem_cons.mpr ⟨x_or258, List.forall_mem_cons.mpr ⟨x_or259, List.forall_mem_cons.mpr ⟨x_or260, List.forall_mem_cons.mpr ⟨x_or261, List.forall_mem_cons.mpr ⟨x_or262, List.forall_mem_cons.mpr ⟨x_or263, List.forall_mem_cons.mpr ⟨x_or264, List.forall_mem_cons.mpr ⟨x_or265, List.forall_mem_cons.mpr ⟨x_or266, List.forall_mem_cons.mpr ⟨x_or267, List.forall_mem_cons.mpr ⟨x_or268, List.forall_mem_cons.mpr ⟨x_or269, List.forall_mem_cons.mpr ⟨x_or270, List.forall_mem_cons.mpr ⟨x_or271, fun _ h => absurd h List.not_mem_nil⟩⟩⟩⟩⟩⟩⟩⟩⟩⟩⟩⟩⟩⟩⟩⟩
theorem x_orc17 : ∀ y ∈ ([272, 273, 274, 275, 276, 277, 278, 279, 280, 281, 282, 283, 284, 285, 286, 287] : List Nat), ∀ j, x_okj y j = true := List.forall_mem_cons.mpr ⟨x_or272, List.forall_mem_cons.mpr ⟨x_or273, List.forall_mem_cons.mpr ⟨x_or274, List.forall_mem_cons.mpr ⟨x_or275, List.forall_mem_cons.mpr ⟨x_or276, List.forall_mem_cons.mpr ⟨x_or277, List.forall_mem_cons.mpr ⟨x_or278, List.forall_mem_cons.mpr ⟨x_or279, List.forall_mem_cons.mpr ⟨x_or280, List.forall_mem_cons.mpr ⟨x_or281, List.forall_mem_cons.mpr ⟨x_or282, List.forall_mem_cons.mpr ⟨x_or283, List.forall_mem_cons.mpr ⟨x_or284, List.forall_mem_cons.mpr ⟨x_or285, List.forall_mem_cons.mpr ⟨x_or286, List.forall_mem_cons.mpr ⟨x_or287, fun _ h => absurd h List.not_mem_nil⟩⟩⟩⟩⟩⟩⟩⟩⟩⟩⟩⟩⟩⟩⟩⟩
theorem x_orc18 : ∀ y ∈ ([288, 289, 290, 291, 292, 293, 294, 295, 296, 297, 298, 299, 300, 301, 302, 303] : List Nat), ∀ j, x_okj y j = true := List.forall_mem_cons.mpr ⟨x_or288, List.forall_mem_cons.mpr ⟨x_or289, List.forall_mem_cons.mpr ⟨x_or290, List.forall_mem_cons.mpr ⟨x_or291, List.forall_mem_cons.mpr ⟨x_or292, List.forall_mem_cons.mpr ⟨x_or293, List.forall_mem_cons.mpr ⟨x_or294, List.forall_mem_cons.mpr ⟨x_or295, List.forall_mem_cons.mpr ⟨x_or296, List.forall_mem_cons.mpr ⟨x_or297, List.forall_mem_cons.mpr ⟨x_or298, List.forall_mem_cons.mpr ⟨x_or299, List.forall_mem_cons.mpr ⟨x_or300, List.forall_mem_cons.mpr ⟨x_or301, List.forall_mem_cons.mpr ⟨x_or302, List.forall_mem_cons.mpr ⟨x_or303, fun _ h => absurd h List.not_mem_nil⟩⟩⟩⟩⟩⟩⟩⟩⟩⟩⟩⟩⟩⟩⟩⟩
theorem x_omc0 : ∀ y ∈ ([1, 2, 3, 4, 5, 6, 7, 8, 9, 10, 11, 12, 13, 14, 15] : List Nat), x_okM y = true := List.forall_mem_cons.mpr ⟨x_om1, List.forall_mem_cons.mpr ⟨x_om2, List.forall_mem_cons.mpr ⟨x_om3, List.forall_mem_cons.mpr ⟨x_om4, List.forall_mem_cons.mpr ⟨x_om5, List.forall_mem_cons.mpr ⟨x_om6, List.forall_mem_cons.mpr ⟨x_om7, List.forall_mem_cons.mpr ⟨x_om8, List.forall_mem_cons.mpr ⟨x_om9, List.forall_mem_cons.mpr ⟨x_om10, List.forall_mem_cons.mpr ⟨x_om11, List.forall_mem_cons.mpr ⟨x_om12, List.forall_mem_cons.mpr ⟨x_om13, List.forall_mem_cons.mpr ⟨x_om14, List.forall_mem_cons.mpr ⟨x_om15, fun _ h => absurd h List.not_mem_nil⟩⟩⟩⟩⟩⟩⟩⟩⟩⟩⟩⟩⟩⟩⟩
theorem x_omc1 : ∀ y ∈ ([16, 17, 18, 19, 20, 21, 22, 23, 24, 25, 26, 27, 28, 29, 30, 31] : List Nat), x_okM y = true := List.forall_mem_cons.mpr ⟨x_om16, List.forall_mem_cons.mpr ⟨x_om17, List.forall_mem_cons.mpr ⟨x_om18, List.forall_mem_cons.mpr ⟨x_om19, List.forall_mem_cons.mpr ⟨x_om20, List.forall_mem_cons.mpr ⟨x_om21, List.forall_mem_cons.mpr ⟨x_om22, List.forall_mem_cons.mpr ⟨x_om23, List.forall_mem_cons.mpr ⟨x_om24, List.forall_mem_cons.mpr ⟨x_om25, List.forall_mem_cons.mpr ⟨x_om26, List.forall_mem_cons.mpr ⟨x_om27, List.forall_mem_cons.mpr ⟨x_om28, List.forall_mem_cons.mpr ⟨x_om29, List.forall_mem_cons.mpr ⟨x_om30, List.forall_mem_cons.mpr ⟨x_om31, fun _ h => absurd h List.not_mem_nil⟩⟩⟩⟩⟩⟩⟩⟩⟩⟩⟩⟩⟩⟩⟩⟩
theorem x_omc2 : ∀ y ∈ ([32, 33, 34, 35, 36, 37, 38, 39, 40, 41, 42, 43, 44, 45, 46, 47] : List Nat), x_okM y = true := List.forall_mem_cons.mpr ⟨x_om32, List.forall_mem_cons.mpr ⟨x_om33, List.forall_mem_cons.mpr ⟨x_om34, List.forall_mem_cons.mpr ⟨x_om35, List.forall_mem_cons.mpr ⟨x_om36, List.forall_mem_cons.mpr ⟨x_om37, List.forall_mem_cons.mpr ⟨x_om38, List.forall_mem_cons.mpr ⟨x_om39, List.forall_mem_cons.mpr ⟨x_om40, List.forall_mem_cons.mpr ⟨x_om41, List.forall_mem_cons.mpr ⟨x_om42, List.forall_mem_cons.mpr ⟨x_om43, List.forall_mem_cons.mpr ⟨x_om44, List.forall_mem_cons.mpr ⟨x_om45, List.forall_mem_cons.mpr ⟨x_om46, List.forall_mem_cons.mpr ⟨x_om47, fun _ h => absurd h List.not_mem_nil⟩⟩⟩⟩⟩⟩⟩⟩⟩⟩⟩⟩⟩⟩⟩⟩
theorem x_omc3 : ∀ y ∈ ([48, 49, 50, 51, 52, 53, 54, 55, 56, 57, 58, 59, 60, 61, 62, 63] : List Nat), x_okM y = true := List.forall_mem_cons.mpr ⟨x_om48, List.forall_mem_cons.mpr ⟨x_om49, List.forall_mem_cons.mpr ⟨x_om50, List.forall_mem_cons.mpr ⟨x_om51, List.forall_mem_cons.mpr ⟨x_om52, List.forall_mem_cons.mpr ⟨x_om53, List.forall_mem_cons.mpr ⟨x_om54, List.forall_mem_cons.mpr ⟨x_om55, List.forall_mem_cons.mpr ⟨x_om56, List.forall_mem_cons.mpr ⟨x_om57, List.forall_mem_cons.mpr ⟨x_om58, List.forall_mem_cons.mpr ⟨x_om59, List.forall_mem_cons.mpr ⟨x_om60, List.forall_mem_cons.mpr ⟨x_om61, List.forall_mem_cons.mpr ⟨x_om62, List.forall_mem_cons.mpr ⟨x_om63, fun _ h => absurd h List.not_mem_nil⟩⟩⟩⟩⟩⟩⟩⟩⟩⟩⟩⟩⟩⟩⟩⟩
theorem x_omc4 : ∀ y ∈ ([64, 65, 66, 67, 68, 69, 70, 71, 72, 73, 74, 75, 76, 77, 78, 79] : List Nat), x_okM y = true := List.forall_mem_cons.mpr ⟨x_om64, List.forall_mem_cons.mpr ⟨x_om65, List.forall_mem_cons.mpr ⟨x_om66, List.forall_mem_cons.mpr ⟨x_om67, List.forall_mem_cons.mpr ⟨x_om68, List.forall_mem_cons.mpr ⟨x_om69, List.forall_mem_cons.mpr ⟨x_om70, List.forall_mem_cons.mpr ⟨x_om71, List.forall_mem_cons.mpr ⟨x_om72, List.forall_mem_cons.mpr ⟨x_om73, List.forall_mem_cons.mpr ⟨x_om74, List.forall_mem_cons.mpr ⟨x_om75, List.forall_mem_cons.mpr ⟨x_om76, List.forall_mem_cons.mpr ⟨x_om77, List.forall_mem_cons.mpr ⟨x_om78, List.forall_mem_cons.mpr ⟨x_om79, fun _ h => absurd h List.not_mem_nil⟩⟩⟩⟩⟩⟩⟩⟩⟩⟩⟩⟩⟩⟩⟩⟩
theorem x_omc5 : ∀ y ∈ ([80, 81, 82, 83, 84, 85, 86, 87, 88, 89, 90, 91, 92, 93, 94, 95] : List Nat), x_okM y = true := List.forall_mem_cons.mpr ⟨x_om80, List.forall_mem_cons.mpr ⟨x_om81, List.forall_mem_cons.mpr ⟨x_om82, List.forall_mem_cons.mpr ⟨x_om83, List.forall_mem_cons.mpr ⟨x_om84, List.forall_mem_cons.mpr ⟨x_om85, List.forall_mem_cons.mpr ⟨x_om86, List.forall_mem_cons.mpr ⟨x_om87, List.forall_mem_cons.mpr ⟨x_om88, List.forall_mem_cons.mpr ⟨x_om89, List.forall_mem_cons.mpr ⟨x_om90, List.forall_mem_cons.mpr ⟨x_om91, List.forall_mem_cons.mpr ⟨x_om92, List.forall_mem_cons.mpr ⟨x_om93, List.forall_mem_cons.mpr ⟨x_om94, List.forall_mem_cons.mpr ⟨x_om95, fun _ h => absurd h List.not_mem_nil⟩⟩⟩⟩⟩⟩⟩⟩⟩⟩⟩⟩⟩⟩⟩⟩
theorem x_omc6 : ∀ y ∈ ([96, 97, 98, 99, 100, 101, 102, 103, 104, 105, 106, 107, 108, 109, 110, 111] : List Nat), x_okM y = true := List.forall_mem_cons.mpr ⟨x_om96, List.forall_mem_cons.mpr ⟨x_om97, List.forall_mem_cons.mpr ⟨x_om98, List.forall_mem_cons.mpr ⟨x_om99, List.forall_mem_cons.mpr ⟨x_om100, List.forall_mem_cons.mpr ⟨x_om101, List.forall_mem_cons.mpr ⟨x_om102, List.forall_mem_cons.mpr ⟨x_om103, List.forall_mem_cons.mpr ⟨x_om104, List.forall_mem_cons.mpr ⟨x_om105, List.forall_mem_cons.mpr ⟨x_om106, List.forall_mem_cons.mpr ⟨x_om107, List.forall_mem_cons.mpr ⟨x_om108, List.forall_mem_cons.mpr ⟨x_om109, List.forall_mem_cons.mpr ⟨x_om110, List.forall_mem_cons.mpr ⟨x_om111, fun _ h => absurd h List.not_mem_nil⟩⟩⟩⟩⟩⟩⟩⟩⟩⟩⟩⟩⟩⟩⟩⟩
theorem x_omc7 : ∀ y ∈ ([112, 113, 114, 115, 116, 117, 118, 119, 120, 121, 122, 123, 124, 125, 126, 127] : List Nat), x_okM y = true := List.forall_mem_cons.mpr ⟨x_om112, List.forall_mem_cons.mpr ⟨x_om113, List.forall_mem_cons.mpr ⟨x_om114, List.forall_mem_cons.mpr ⟨x_om115, List.forall_mem_cons.mpr ⟨x_om116, List.forall_mem_cons.mpr ⟨x_om117, List.forall_mem_cons.mpr ⟨x_om118, List.forall_mem_cons.mpr ⟨x_om119, List.forall_mem_cons.mpr ⟨x_om120, List.forall_mem_cons.mpr ⟨x_om121, List.forall_mem_cons.mpr ⟨x_om122, List.forall_mem_cons.mpr ⟨x_om123, List.forall_mem_cons.mpr ⟨x_om124, List.forall_mem_cons.mpr ⟨x_om125, List.forall_mem_cons.mpr ⟨x_om126, List.forall_mem_cons.mpr ⟨x_om127, fun _ h => absurd h List.not_mem_nil⟩⟩⟩⟩⟩⟩⟩⟩⟩⟩⟩⟩⟩⟩⟩⟩
theorem x_omc8 : ∀ y ∈ ([128, 129, 130, 131, 132, 133, 134, 135, 136, 137, 138, 139, 140, 141, 142, 143] : List Nat), x_okM y = true := List.forall_mem_cons.mpr ⟨x_om128, List.forall_mem_cons.mpr ⟨x_om129, List.forall_mem_cons.mpr ⟨x_om130, List.forall_mem_cons.mpr ⟨x_om131, List.forall_mem_cons.mpr ⟨x_om132, List.forall_mem_cons.mpr ⟨x_om133, List.forall_mem_cons.mpr ⟨x_om134, List.forall_mem_cons.mpr ⟨x_om135, List.forall_mem_cons.mpr ⟨x_om136, List.forall_mem_cons.mpr ⟨x_om137, List.forall_mem_cons.mpr ⟨x_om138, List.forall_mem_cons.mpr ⟨x_om139, List.forall_mem_cons.mpr ⟨x_om140, List.forall_mem_cons.mpr ⟨x_om141, List.forall_mem_cons.mpr ⟨x_om142, List.forall_mem_cons.mpr ⟨x_om143, fun _ h => absurd h List.not_mem_nil⟩⟩⟩⟩⟩⟩⟩⟩⟩⟩⟩⟩⟩⟩⟩⟩
theorem x_omc9 : ∀ y ∈ ([144, 145, 146, 147, 148, 149, 150, 151, 152, 153, 154, 155, 156, 157, 158, 159] : List Nat), x_okM y = true := List.forall_mem_cons.mpr ⟨x_om144, List.forall_mem_cons.mpr ⟨x_om145, List.forall_mem_cons.mpr ⟨x_om146, List.forall_mem_cons.mpr ⟨x_om147, List.forall_mem_cons.mpr ⟨x_om148, List.forall_mem_cons.mpr ⟨x_om149, List.forall_mem_cons.mpr ⟨x_om150, List.forall_mem_cons.mpr ⟨x_om151, List.forall_mem_cons.mpr ⟨x_om152, List.forall_mem_cons.mpr ⟨x_om153, List.forall_mem_cons.mpr ⟨x_om154, List.forall_mem_cons.mpr ⟨x_om155, List.forall_mem_cons.mpr ⟨x_om156, List.forall_mem_cons.mpr ⟨x_om157, List.forall_mem_cons.mpr ⟨x_om158, List.forall_mem_cons.mpr ⟨x_om159, fun _ h => absurd h List.not_mem_nil⟩⟩⟩⟩⟩⟩⟩⟩⟩⟩⟩⟩⟩⟩⟩⟩
theorem x_omc10 : ∀ y ∈ ([160, 161, 162, 163, 164, 165, 166, 167, 168, 169, 170, 171, 172, 173, 174, 175] : List Nat), x_okM y = true := List.forall_mem_cons.mpr ⟨x_om160, List.forall_mem_cons.mpr ⟨x_om161, List.forall_mem_cons.mpr ⟨x_om162, List.forall_mem_cons.mpr ⟨x_om163, List.forall_mem_cons.mpr ⟨x_om164, List.forall_mem_cons.mpr ⟨x_om165, List.forall_mem_cons.mpr ⟨x_om166, List.forall_mem_cons.mpr ⟨x_om167, List.forall_mem_cons.mpr ⟨x_om168, List.forall_mem_cons.mpr ⟨x_om169, List.forall_mem_cons.mpr ⟨x_om170, List.forall_mem_cons.mpr ⟨x_om171, List.forall_mem_cons.mpr ⟨x_om172, List.forall_mem_cons.mpr ⟨x_om173, List.forall_mem_cons.mpr ⟨x_om174, List.forall_mem_cons.mpr ⟨x_om175, fun _ h => absurd h List.not_mem_nil⟩⟩⟩⟩⟩⟩⟩⟩⟩⟩⟩⟩⟩⟩⟩⟩
theorem x_omc11 : ∀ y ∈ ([176, 177, 178, 179, 180, 181, 182, 183, 184, 185, 186, 187, 188, 189, 190, 191] : List Nat), x_okM y = true := List.forall_mem_cons.mpr ⟨x_om176, List.forall_mem_cons.mpr ⟨x_om177, List.forall_mem_cons.mpr ⟨x_om178, List.forall_mem_cons.mpr ⟨x_om179, List.forall_mem_cons.mpr ⟨x_om180, List.forall_mem_cons.mpr ⟨x_om181, List.forall_mem_cons.mpr ⟨x_om182, List.forall_mem_cons.mpr ⟨x_om183, List.forall_mem_cons.mpr ⟨x_om184, List.forall_mem_cons.mpr ⟨x_om185, List.forall_mem_cons.mpr ⟨x_om186, List.forall_mem_cons.mpr ⟨x_om187, List.forall_mem_cons.mpr ⟨x_om188, List.forall_mem_cons.mpr ⟨x_om189, List.forall_mem_cons.mpr ⟨x_om190, List.forall_mem_cons.mpr ⟨x_om191, fun _ h => absurd h List.not_mem_nil⟩⟩⟩⟩⟩⟩⟩⟩⟩⟩⟩⟩⟩⟩⟩⟩
theorem x_omc12 : ∀ y ∈ ([192, 193, 194, 195, 196, 197, 198, 199, 200, 201, 202, 203, 204, 205, 206, 207] : List Nat), x_okM y = true := List.forall_mem_cons.mpr ⟨x_om192, List.forall_mem_cons.mpr ⟨x_om193, List.forall_mem_cons.mpr ⟨x_om194, List.forall_mem_cons.mpr ⟨x_om195, List.forall_mem_cons.mpr ⟨x_om196, List.forall_mem_cons.mpr ⟨x_om197, List.forall_mem_cons.mpr ⟨x_om198, List.forall_mem_cons.mpr ⟨x_om199, List.forall_mem_cons.mpr ⟨x_om200, List.forall_mem_cons.mpr ⟨x_om201, List.forall_mem_cons.mpr ⟨x_om202, List.forall_mem_cons.mpr ⟨x_om203, List.forall_mem_cons.mpr ⟨x_om204, List.forall_mem_cons.mpr ⟨x_om205, List.forall_mem_cons.mpr ⟨x_om206, List.forall_mem_cons.mpr ⟨x_om207, fun _ h => absurd h List.not_mem_nil⟩⟩⟩⟩⟩⟩⟩⟩⟩⟩⟩⟩⟩⟩⟩⟩
theorem x_omc13 : ∀ y ∈ ([208, 209, 210, 211, 212, 213, 214, 215, 216, 217, 218, 219, 220, 221, 222, 223] : List Nat), x_okM y = true := List.forall_mem_cons.mpr ⟨x_om208, List.forall_mem_cons.mpr ⟨x_om209, List.forall_mem_cons.mpr ⟨x_om210, List.forall_mem_cons.mpr ⟨x_om211, List.forall_mem_cons.mpr ⟨x_om212, List.forall_mem_cons.mpr ⟨x_om213, List.forall_mem_cons.mpr ⟨x_om214, List.forall_mem_cons.mpr ⟨x_om215, List.forall_mem_cons.mpr ⟨x_om216, List.forall_mem_cons.mpr ⟨x_om217, List.forall_mem_cons.mpr ⟨x_om218, List.forall_mem_cons.mpr ⟨x_om219, List.forall_mem_cons.mpr ⟨x_om220, List.forall_mem_cons.mpr ⟨x_om221, List.forall_mem_cons.mpr ⟨x_om222, List.forall_mem_cons.mpr ⟨x_om223, fun _ h => absurd h List.not_mem_nil⟩⟩⟩⟩⟩⟩⟩⟩⟩⟩⟩⟩⟩⟩⟩⟩
theorem x_omc14 : ∀ y ∈ ([224, 225, 226, 227, 228, 229, 230, 231, 232, 233, 234, 235, 236, 237, 238, 239] : List Nat), x_okM y = true := List.forall_mem_cons.mpr ⟨x_om224, List.forall_mem_cons.mpr ⟨x_om225, List.forall_mem_cons.mpr ⟨x_om226, List.forall_mem_cons.mpr ⟨x_om227, List.forall_mem_cons.mpr ⟨x_om228, List.forall_mem_cons.mpr ⟨x_om229, List.forall_mem_cons.mpr ⟨x_om230, List.forall_mem_cons.mpr ⟨x_om231, List.forall_mem_cons.mpr ⟨x_om232, List.forall_mem_cons.mpr ⟨x_om233, List.forall_mem_cons.mpr ⟨x_om234, List.forall_mem_cons.mpr ⟨x_om235, List.forall_mem_cons.mpr ⟨x_om236, List.forall_mem_cons.mpr ⟨x_om237, List.forall_mem_cons.mpr ⟨x_om238, List.forall_mem_cons.mpr ⟨x_om239, fun _ h => absurd h List.not_mem_nil⟩⟩⟩⟩⟩⟩⟩⟩⟩⟩⟩⟩⟩⟩⟩⟩
theorem x_omc15 : ∀ y ∈ ([240, 241, 242, 243, 244, 245, 246, 247, 248, 249, 250, 251, 252, 253, 254, 255] : List Nat), x_okM y = true := List.forall_mem_cons.mpr ⟨x_om240, List.forall_mem_cons.mpr ⟨x_om241, List.forall_mem_cons.mpr ⟨x_om242, List.forall_mem_cons.mpr ⟨x_om243, List.forall_mem_cons.mpr ⟨x_om244, List.forall_mem_cons.mpr ⟨x_om245, List.forall_mem_cons.mpr ⟨x_om246, List.forall_mem_cons.mpr ⟨x_om247, List.forall_mem_cons.mpr ⟨x_om248, List.forall_mem_cons.mpr ⟨x_om249, List.forall_mem_cons.mpr ⟨x_om250, List.forall_mem_cons.mpr ⟨x_om251, List.forall_mem_cons.mpr ⟨x_om252, List.forall_mem_cons.mpr ⟨x_om253, List.forall_mem_cons.mpr ⟨x_om254, List.forall_mem_cons.mpr ⟨x_om255, fun _ h => absurd h List.not_mem_nil⟩⟩⟩⟩⟩⟩⟩⟩⟩⟩⟩⟩⟩⟩⟩⟩
theorem x_omc16 : ∀ y ∈ ([256, 257, 258, 259, 260, 261, 262, 263, 264, 265, 266, 267, 268, 269, 270, 271] : List Nat), x_okM y = true := List.forall_mem_cons.mpr ⟨x_om256, List.forall_mem_cons.mpr ⟨x_om257, List.forall_mem_cons.mpr ⟨x_om258, List.forall_mem_cons.mpr ⟨x_om259, List.forall_mem_cons.mpr ⟨x_om260, List.forall_mem_cons.mpr ⟨x_om261, List.forall_mem_cons.mpr ⟨x_om262, List.forall_mem_cons.mpr ⟨x_om263, List.forall_mem_cons.mpr ⟨x_om264, List.forall_mem_cons.mpr ⟨x_om265, List.forall_mem_cons.mpr ⟨x_om266, List.forall_mem_cons.mpr ⟨x_om267, List.forall_mem_cons.mpr ⟨x_om268, List.forall_mem_cons.mpr ⟨x_om269, List.forall_mem_cons.mpr ⟨x_om270, List.forall_mem_cons.mpr ⟨x_om271, fun _ h => absurd h List.not_mem_nil⟩⟩⟩⟩⟩⟩⟩⟩⟩⟩⟩⟩⟩⟩⟩⟩
theorem x_omc17 : ∀ y ∈ ([272, 273, 274, 275, 276, 277, 278, 279, 280, 281, 282, 283, 284, 285] : List Nat), x_okM y = true := List.forall_mem_cons.mpr ⟨x_om272, List.forall_mem_cons.mpr ⟨x_om273, List.forall_mem_cons.mpr ⟨x_om274, List.forall_mem_cons.mpr ⟨x_om275, List.forall_mem_cons.mpr ⟨x_om276, List.forall_mem_cons.mpr ⟨x_om277, List.forall_mem_cons.mpr ⟨x_om278, List.forall_mem_cons.mpr ⟨x_om279, List.forall_mem_cons.mpr ⟨x_om280, List.forall_mem_cons.mpr ⟨x_om281, List.forall_mem_cons.mpr ⟨x_om282, List.forall_mem_cons.mpr ⟨x_om283, List.forall_mem_cons.mpr ⟨x_om284, List.forall_mem_cons.mpr ⟨x_om285, fun _ h => absurd h List.not_mem_nil⟩⟩⟩⟩⟩⟩⟩⟩⟩⟩⟩⟩⟩⟩
theorem x_omc18 : ∀ y ∈ ([289, 290, 291, 292, 293, 294, 295, 296, 297, 298, 299, 300, 301, 302, 303] : List Nat), x_okM y = true := List.forall_mem_cons.mpr ⟨x_om289, List.forall_mem_cons.mpr ⟨x_om290, List.forall_mem_cons.mpr ⟨x_om291, List.forall_mem_cons.mpr ⟨x_om292, List.forall_mem_cons.mpr ⟨x_om293, List.forall_mem_cons.mpr ⟨x_om294, List.forall_mem_cons.mpr ⟨x_om295, List.forall_mem_cons.mpr ⟨x_om296, List.forall_mem_cons.mpr ⟨x_om297, List.forall_mem_cons.mpr ⟨x_om298, List.forall_mem_cons.mpr ⟨x_om299, List.forall_mem_cons.mpr ⟨x_om300, List.forall_mem_cons.mpr ⟨x_om301, List.forall_mem_cons.mpr ⟨x_om302, List.forall_mem_cons.mpr ⟨x_om303, fun _ h => absurd h List.not_mem_nil⟩⟩⟩⟩⟩⟩⟩⟩⟩⟩⟩⟩⟩⟩⟩
theorem x_or_all (y : Nat) (h : y < 304) : ∀ j, x_okj y j = true := by
  have hq : y / 16 < 19 := by omega
  by_cases h2 : y / 16 = 0
  · exact x_orc0 y (by simp only [List.mem_cons, List.not_mem_nil, or_false]; omega)
  by_cases h3 : y / 16 = 1
  · exact x_orc1 y (by simp only [List.mem_cons, List.not_mem_nil, or_false]; omega)
  by_cases h4 : y / 16 = 2
  · exact x_orc2 y (by simp only [List.mem_cons, List.not_mem_nil, or_false]; omega)
  by_cases h5 : y / 16 = 3
  · exact x_orc3 y (by simp only [List.mem_cons, List.not_mem_nil, or_false]; omega)
  by_cases h6 : y / 16 = 4
  · exact x_orc4 y (by simp only [List.mem_cons, List.not_mem_nil, or_false]; omega)
  by_cases h7 : y / 16 = 5
  · exact x_orc5 y (by simp only [List.mem_cons, List.not_mem_nil, or_false]; omega)
  by_cases h8 : y / 16 = 6
  · exact x_orc6 y (by simp only [List.mem_cons, List.not_mem_nil, or_false]; omega)
  by_cases h9 : y / 16 = 7
  · exact x_orc7 y (by simp only [List.mem_cons, List.not_mem_nil, or_false]; omega)
  by_cases h10 : y / 16 = 8
  · exact x_orc8 y (by simp only [List.mem_cons, List.not_mem_nil, or_false]; omega)
  by_cases h11 : y / 16 = 9
  · exact x_orc9 y (by simp only [List.mem_cons, List.not_mem_nil, or_false]; omega)
  by_cases h12 : y / 16 = 10
  · exact x_orc10 y (by simp only [List.mem_cons, List.not_mem_nil, or_false]; omega)
  by_cases h13 : y / 16 = 11
  · exact x_orc11 y (by simp only [List.mem_cons, List.not_mem_nil, or_false]; omega)
  by_cases h14 : y / 16 = 12
  · exact x_orc12 y (by simp only [List.mem_cons, List.not_mem_nil, or_false]; omega)
  by_cases h15 : y / 16 = 13
  · exact x_orc13 y (by simp only [List.mem_cons, List.not_mem_nil, or_false]; omega)
  by_cases h16 : y / 16 = 14
  · exact x_orc14 y (by simp only [List.mem_cons, List.not_mem_nil, or_false]; omega)
  by_cases h17 : y / 16 = 15
  · exact x_orc15 y (by simp only [List.mem_cons, List.not_mem_nil, or_false]; omega)
  by_cases h18 : y / 16 = 16
  · exact x_orc16 y (by simp only [List.mem_cons, List.not_mem_nil, or_false]; omega)
  by_cases h19 : y / 16 = 17
  · exact x_orc17 y (by simp only [List.mem_cons, List.not_mem_nil, or_false]; omega)
  by_cases h20 : y / 16 = 18
  · exact x_orc18 y (by simp only [List.mem_cons, List.not_mem_nil, or_false]; omega)
  omega
theorem x_om_all (y : Nat) (h : y < 304) (h1 : 1 ≤ y) (h0 : y ≠ 286 ∧ y ≠ 287 ∧ y ≠ 288) : x_okM y = true := by
  have hq : y / 16 < 19 := by omega
  by_cases h2 : y / 16 = 0
  · exact x_omc0 y (by simp only [List.mem_cons, List.not_mem_nil, or_false]; omega)
  by_cases h3 : y / 16 = 1
  · exact x_omc1 y (by simp only [List.mem_cons, List.not_mem_nil, or_false]; omega)
  by_cases h4 : y / 16 = 2
  · exact x_omc2 y (by simp only [List.mem_cons, List.not_mem_nil, or_false]; omega)
  by_cases h5 : y / 16 = 3
  · exact x_omc3 y (by simp only [List.mem_cons, List.not_mem_nil, or_false]; omega)
  by_cases h6 : y / 16 = 4
  · exact x_omc4 y (by simp only [List.mem_cons, List.not_mem_nil, or_false]; omega)
  by_cases h7 : y / 16 = 5
  · exact x_omc5 y (by simp only [List.mem_cons, List.not_mem_nil, or_false]; omega)
  by_cases h8 : y / 16 = 6
  · exact x_omc6 y (by simp only [List.mem_cons, List.not_mem_nil, or_false]; omega)
  by_cases h9 : y / 16 = 7
  · exact x_omc7 y (by simp only [List.mem_cons, List.not_mem_nil, or_false]; omega)
  by_cases h10 : y / 16 = 8
  · exact x_omc8 y (by simp only [List.mem_cons, List.not_mem_nil, or_false]; omega)
  by_cases h11 : y / 16 = 9
  · exact x_omc9 y (by simp only [List.mem_cons, List.not_mem_nil, or_false]; omega)
  by_cases h12 : y / 16 = 10
  · exact x_omc10 y (by simp only [List.mem_cons, List.not_mem_nil, or_false]; omega)
  by_cases h13 : y / 16 = 11
  · exact x_omc11 y (by simp only [List.mem_cons, List.not_mem_nil, or_false]; omega)
  by_cases h14 : y / 16 = 12
  · exact x_omc12 y (by simp only [List.mem_cons, List.not_mem_nil, or_false]; omega)
  by_cases h15 : y / 16 = 13
  · exact x_omc13 y (by simp only [List.mem_cons, List.not_mem_nil, or_false]; omega)
  by_cases h16 : y / 16 = 14
  · exact x_omc14 y (by simp only [List.mem_cons, List.not_mem_nil, or_false]; omega)
  by_cases h17 : y / 16 = 15
  · exact x_omc15 y (by simp only [List.mem_cons, List.not_mem_nil, or_false]; omega)
  by_cases h18 : y / 16 = 16
  · exact x_omc16 y (by simp only [List.mem_cons, List.not_mem_nil, or_false]; omega)
  by_cases h19 : y / 16 = 17
  · exact x_omc17 y (by simp only [List.mem_cons, List.not_mem_nil, or_false]; omega)
  by_cases h20 : y / 16 = 18
  · exact x_omc18 y (by simp only [List.mem_cons, List.not_mem_nil, or_false]; omega)
  omega

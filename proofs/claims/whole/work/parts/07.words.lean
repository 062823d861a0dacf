theorem w111 : Cond.classLink "PennyRatesLaw" 7 "PennyRates" ∈ sv_T := sv_in 111 (by decide +kernel) rfl
theorem w113 : Cond.methodLink "PennyRatesLaw" 9 ⟨"PennyRates", "<init>", "()V"⟩ ∈ sv_T := sv_in 113 (by decide +kernel) rfl
theorem w116 : Cond.methodLink "PennyRates" 3 ⟨"java/lang/Object", "<init>", "()V"⟩ ∈ sv_T := sv_in 116 (by decide +kernel) rfl
theorem w119 : Cond.classLink "PennyRates" 9 "PennyRates$Roads" ∈ sv_T := sv_in 119 (by decide +kernel) rfl
theorem w121 : Cond.methodLink "PennyRates" 11 ⟨"PennyRates$Roads", "<init>", "()V"⟩ ∈ sv_T := sv_in 121 (by decide +kernel) rfl
theorem w124 : Cond.methodLink "PennyRates$Roads" 3 ⟨"java/lang/Object", "<init>", "()V"⟩ ∈ sv_T := sv_in 124 (by decide +kernel) rfl
theorem w125 : Cond.classLink "PennyRates$Roads" 21 "[[I" ∈ sv_T := sv_in 125 (by decide +kernel) rfl
theorem w127 : Cond.methodLink "PennyRates$Roads" 26 ⟨"java/util/Arrays", "fill", "([II)V"⟩ ∈ sv_T := sv_in 127 (by decide +kernel) rfl
theorem w130 : Cond.constant "PennyRates$Roads" 32 (1000000) ∈ sv_T := sv_in 130 (by decide +kernel) rfl
theorem w131 : Cond.fieldLink "PennyRates$Roads" 11 "PennyRates$Roads" "owners" "[I" ∈ sv_T := sv_in 131 (by decide +kernel) rfl
theorem w132 : Cond.fieldLink "PennyRates$Roads" 15 "PennyRates$Roads" "lengths" "[I" ∈ sv_T := sv_in 132 (by decide +kernel) rfl
theorem w133 : Cond.fieldLink "PennyRates$Roads" 18 "PennyRates$Roads" "beside" "[I" ∈ sv_T := sv_in 133 (by decide +kernel) rfl
theorem w134 : Cond.fieldLink "PennyRates$Roads" 23 "PennyRates$Roads" "fewest" "[[I" ∈ sv_T := sv_in 134 (by decide +kernel) rfl
theorem w135 : Cond.fieldLink "PennyRates$Roads" 33 "PennyRates$Roads" "count" "I" ∈ sv_T := sv_in 135 (by decide +kernel) rfl
theorem w136 : Cond.fieldLinkNest "PennyRates" 357 "PennyRates$Roads" "count" "I" "PennyRates" ∈ sv_N := sv_inN 136 (by decide +kernel) rfl
theorem w149 : Cond.classLink "PennyRates" 18 "PennyRates$LawText" ∈ sv_T := sv_in 149 (by decide +kernel) rfl
theorem w151 : Cond.methodLinkNest "PennyRates" 20 ⟨"PennyRates$LawText", "<init>", "()V"⟩ "PennyRates" ∈ sv_N := sv_inN 151 (by decide +kernel) rfl
theorem w154 : Cond.methodLink "PennyRates$LawText" 3 ⟨"java/lang/Object", "<init>", "()V"⟩ ∈ sv_T := sv_in 154 (by decide +kernel) rfl
theorem w155 : Cond.fieldLink "PennyRates$LawText" 11 "PennyRates$LawText" "bytes" "[B" ∈ sv_T := sv_in 155 (by decide +kernel) rfl
theorem w156 : Cond.fieldLink "PennyRates$LawText" 15 "PennyRates$LawText" "values" "[I" ∈ sv_T := sv_in 156 (by decide +kernel) rfl
theorem w157 : Cond.fieldLinkNest "PennyRates$Laws" 40 "PennyRates$LawText" "values" "[I" "PennyRates" ∈ sv_N := sv_inN 157 (by decide +kernel) rfl
theorem w158 : Cond.fieldLink "PennyRates$LawText" 19 "PennyRates$LawText" "steps" "[I" ∈ sv_T := sv_in 158 (by decide +kernel) rfl
theorem w159 : Cond.fieldLink "PennyRates$LawText" 22 "PennyRates$LawText" "length" "I" ∈ sv_T := sv_in 159 (by decide +kernel) rfl
theorem w160 : Cond.fieldLinkNest "PennyRates" 131 "PennyRates$LawText" "length" "I" "PennyRates" ∈ sv_N := sv_inN 160 (by decide +kernel) rfl
theorem w161 : Cond.fieldLink "PennyRates$LawText" 51 "PennyRates$LawText" "at" "I" ∈ sv_T := sv_in 161 (by decide +kernel) rfl
theorem w162 : Cond.fieldLinkNest "PennyRates" 137 "PennyRates$LawText" "at" "I" "PennyRates" ∈ sv_N := sv_inN 162 (by decide +kernel) rfl
theorem w163 : Cond.fieldLink "PennyRates$LawText" 58 "PennyRates$LawText" "stepsEnd" "I" ∈ sv_T := sv_in 163 (by decide +kernel) rfl
theorem w164 : Cond.fieldLink "PennyRates$LawText" 26 "PennyRates$LawText" "sameStart" "I" ∈ sv_T := sv_in 164 (by decide +kernel) rfl
theorem w165 : Cond.fieldLink "PennyRates$LawText" 29 "PennyRates$LawText" "sameEnd" "I" ∈ sv_T := sv_in 165 (by decide +kernel) rfl
theorem w166 : Cond.fieldLink "PennyRates$LawText" 38 "PennyRates$LawText" "excuseStart" "I" ∈ sv_T := sv_in 166 (by decide +kernel) rfl
theorem w167 : Cond.fieldLink "PennyRates$LawText" 41 "PennyRates$LawText" "excuseEnd" "I" ∈ sv_T := sv_in 167 (by decide +kernel) rfl
theorem w190 : Cond.classLink "PennyRates" 25 "PennyRates$Laws" ∈ sv_T := sv_in 190 (by decide +kernel) rfl
theorem w192 : Cond.methodLink "PennyRates" 27 ⟨"PennyRates$Laws", "<init>", "()V"⟩ ∈ sv_T := sv_in 192 (by decide +kernel) rfl
theorem w195 : Cond.methodLink "PennyRates$Laws" 3 ⟨"java/lang/Object", "<init>", "()V"⟩ ∈ sv_T := sv_in 195 (by decide +kernel) rfl
theorem w196 : Cond.classLink "PennyRates$Laws" 11 "PennyRates$Law" ∈ sv_T := sv_in 196 (by decide +kernel) rfl
theorem w198 : Cond.methodLink "PennyRates$Laws" 20 ⟨"java/util/Arrays", "fill", "([II)V"⟩ ∈ sv_T := sv_in 198 (by decide +kernel) rfl
theorem w200 : Cond.methodLink "PennyRates$Laws" 26 ⟨"PennyRates$Law", "<init>", "(III[I[I[I)V"⟩ ∈ sv_T := sv_in 200 (by decide +kernel) rfl
theorem w203 : Cond.methodLink "PennyRates$Law" 1 ⟨"java/lang/Object", "<init>", "()V"⟩ ∈ sv_T := sv_in 203 (by decide +kernel) rfl
theorem w204 : Cond.fieldLink "PennyRates$Law" 7 "PennyRates$Law" "number" "I" ∈ sv_T := sv_in 204 (by decide +kernel) rfl
theorem w205 : Cond.fieldLinkNest "PennyRates" 144 "PennyRates$Law" "number" "I" "PennyRates" ∈ sv_N := sv_inN 205 (by decide +kernel) rfl
theorem w206 : Cond.fieldLink "PennyRates$Law" 13 "PennyRates$Law" "owner" "I" ∈ sv_T := sv_in 206 (by decide +kernel) rfl
theorem w207 : Cond.fieldLinkNest "PennyRates$Laws" 61 "PennyRates$Law" "owner" "I" "PennyRates" ∈ sv_N := sv_inN 207 (by decide +kernel) rfl
theorem w208 : Cond.fieldLink "PennyRates$Law" 16 "PennyRates$Law" "day" "I" ∈ sv_T := sv_in 208 (by decide +kernel) rfl
theorem w209 : Cond.fieldLinkNest "PennyRates$Laws" 58 "PennyRates$Law" "day" "I" "PennyRates" ∈ sv_N := sv_inN 209 (by decide +kernel) rfl
theorem w210 : Cond.fieldLink "PennyRates$Law" 19 "PennyRates$Law" "values" "[I" ∈ sv_T := sv_in 210 (by decide +kernel) rfl
theorem w211 : Cond.fieldLinkNest "PennyRates$Laws" 68 "PennyRates$Law" "values" "[I" "PennyRates" ∈ sv_N := sv_inN 211 (by decide +kernel) rfl
theorem w212 : Cond.fieldLink "PennyRates$Law" 23 "PennyRates$Law" "same" "[I" ∈ sv_T := sv_in 212 (by decide +kernel) rfl
theorem w213 : Cond.fieldLinkNest "PennyRates$Trucks" 108 "PennyRates$Law" "same" "[I" "PennyRates" ∈ sv_N := sv_inN 213 (by decide +kernel) rfl
theorem w214 : Cond.fieldLink "PennyRates$Law" 26 "PennyRates$Law" "excuse" "[I" ∈ sv_T := sv_in 214 (by decide +kernel) rfl
theorem w215 : Cond.fieldLinkNest "PennyRates$Trucks" 119 "PennyRates$Law" "excuse" "[I" "PennyRates" ∈ sv_N := sv_inN 215 (by decide +kernel) rfl
theorem w229 : Cond.fieldLink "PennyRates$Laws" 13 "PennyRates$Laws" "rows" "[LPennyRates$Law;" ∈ sv_T := sv_in 229 (by decide +kernel) rfl
theorem w230 : Cond.fieldLink "PennyRates$Laws" 17 "PennyRates$Laws" "latest" "[LPennyRates$Law;" ∈ sv_T := sv_in 230 (by decide +kernel) rfl
theorem w231 : Cond.fieldLink "PennyRates$Laws" 29 "PennyRates$Laws" "noLaw" "LPennyRates$Law;" ∈ sv_T := sv_in 231 (by decide +kernel) rfl
theorem w232 : Cond.fieldLink "PennyRates$Laws" 33 "PennyRates$Laws" "settledDay" "I" ∈ sv_T := sv_in 232 (by decide +kernel) rfl
theorem w233 : Cond.fieldLink "PennyRates$Laws" 37 "PennyRates$Laws" "count" "I" ∈ sv_T := sv_in 233 (by decide +kernel) rfl
theorem w234 : Cond.fieldLinkNest "PennyRates" 360 "PennyRates$Laws" "count" "I" "PennyRates" ∈ sv_N := sv_inN 234 (by decide +kernel) rfl
theorem w246 : Cond.classLink "PennyRates" 32 "PennyRates$Rates" ∈ sv_T := sv_in 246 (by decide +kernel) rfl
theorem w248 : Cond.methodLink "PennyRates" 34 ⟨"PennyRates$Rates", "<init>", "(LPennyRates$Roads;LPennyRates$Laws;)V"⟩ ∈ sv_T := sv_in 248 (by decide +kernel) rfl
theorem w251 : Cond.methodLink "PennyRates$Rates" 3 ⟨"java/lang/Object", "<init>", "()V"⟩ ∈ sv_T := sv_in 251 (by decide +kernel) rfl
theorem w252 : Cond.classLink "PennyRates$Rates" 11 "PennyRates$Rate" ∈ sv_T := sv_in 252 (by decide +kernel) rfl
theorem w255 : Cond.methodLinkNest "PennyRates$Rates" 29 ⟨"PennyRates$Rate", "<init>", "()V"⟩ "PennyRates" ∈ sv_N := sv_inN 255 (by decide +kernel) rfl
theorem w258 : Cond.methodLink "PennyRates$Rate" 3 ⟨"java/lang/Object", "<init>", "()V"⟩ ∈ sv_T := sv_in 258 (by decide +kernel) rfl
theorem w259 : Cond.fieldLinkNest "PennyRates$Acts" 30 "PennyRates$Rate" "number" "I" "PennyRates" ∈ sv_N := sv_inN 259 (by decide +kernel) rfl
theorem w260 : Cond.fieldLinkNest "PennyRates$Rates" 34 "PennyRates$Rate" "number" "I" "PennyRates" ∈ sv_N := sv_inN 260 (by decide +kernel) rfl
theorem w261 : Cond.fieldLink "PennyRates$Rate" 15 "PennyRates$Rate" "was" "I" ∈ sv_T := sv_in 261 (by decide +kernel) rfl
theorem w262 : Cond.fieldLinkNest "PennyRates$Rates" 37 "PennyRates$Rate" "was" "I" "PennyRates" ∈ sv_N := sv_inN 262 (by decide +kernel) rfl
theorem w263 : Cond.fieldLinkNest "PennyRates$Trucks" 88 "PennyRates$Rate" "was" "I" "PennyRates" ∈ sv_N := sv_inN 263 (by decide +kernel) rfl
theorem w264 : Cond.fieldLinkNest "PennyRates" 190 "PennyRates$Rate" "was" "I" "PennyRates" ∈ sv_N := sv_inN 264 (by decide +kernel) rfl
theorem w265 : Cond.fieldLinkNest "PennyRates$Acts" 34 "PennyRates$Rate" "owner" "I" "PennyRates" ∈ sv_N := sv_inN 265 (by decide +kernel) rfl
theorem w266 : Cond.fieldLinkNest "PennyRates$Rates" 40 "PennyRates$Rate" "owner" "I" "PennyRates" ∈ sv_N := sv_inN 266 (by decide +kernel) rfl
theorem w267 : Cond.fieldLink "PennyRates$Rate" 29 "PennyRates$Rate" "owner" "I" ∈ sv_T := sv_in 267 (by decide +kernel) rfl
theorem w268 : Cond.fieldLinkNest "PennyRates$Trucks" 77 "PennyRates$Rate" "owner" "I" "PennyRates" ∈ sv_N := sv_inN 268 (by decide +kernel) rfl
theorem w269 : Cond.fieldLinkNest "PennyRates$Carriage" 75 "PennyRates$Rate" "owner" "I" "PennyRates" ∈ sv_N := sv_inN 269 (by decide +kernel) rfl
theorem w270 : Cond.fieldLinkNest "PennyRates" 201 "PennyRates$Rate" "owner" "I" "PennyRates" ∈ sv_N := sv_inN 270 (by decide +kernel) rfl
theorem w271 : Cond.fieldLinkNest "PennyRates$Carriage" 64 "PennyRates$Rate" "from" "I" "PennyRates" ∈ sv_N := sv_inN 271 (by decide +kernel) rfl
theorem w272 : Cond.fieldLinkNest "PennyRates$Rates" 43 "PennyRates$Rate" "from" "I" "PennyRates" ∈ sv_N := sv_inN 272 (by decide +kernel) rfl
theorem w273 : Cond.fieldLink "PennyRates$Rate" 32 "PennyRates$Rate" "from" "I" ∈ sv_T := sv_in 273 (by decide +kernel) rfl
theorem w274 : Cond.fieldLinkNest "PennyRates$Trucks" 95 "PennyRates$Rate" "from" "I" "PennyRates" ∈ sv_N := sv_inN 274 (by decide +kernel) rfl
theorem w275 : Cond.fieldLinkNest "PennyRates" 204 "PennyRates$Rate" "from" "I" "PennyRates" ∈ sv_N := sv_inN 275 (by decide +kernel) rfl
theorem w276 : Cond.fieldLinkNest "PennyRates$Carriage" 61 "PennyRates$Rate" "to" "I" "PennyRates" ∈ sv_N := sv_inN 276 (by decide +kernel) rfl
theorem w277 : Cond.fieldLinkNest "PennyRates$Rates" 46 "PennyRates$Rate" "to" "I" "PennyRates" ∈ sv_N := sv_inN 277 (by decide +kernel) rfl
theorem w278 : Cond.fieldLink "PennyRates$Rate" 35 "PennyRates$Rate" "to" "I" ∈ sv_T := sv_in 278 (by decide +kernel) rfl
theorem w279 : Cond.fieldLinkNest "PennyRates$Trucks" 98 "PennyRates$Rate" "to" "I" "PennyRates" ∈ sv_N := sv_inN 279 (by decide +kernel) rfl
theorem w280 : Cond.fieldLinkNest "PennyRates" 207 "PennyRates$Rate" "to" "I" "PennyRates" ∈ sv_N := sv_inN 280 (by decide +kernel) rfl
theorem w281 : Cond.fieldLinkNest "PennyRates$Carriage" 38 "PennyRates$Rate" "pence" "I" "PennyRates" ∈ sv_N := sv_inN 281 (by decide +kernel) rfl
theorem w282 : Cond.fieldLinkNest "PennyRates$Acts" 38 "PennyRates$Rate" "pence" "I" "PennyRates" ∈ sv_N := sv_inN 282 (by decide +kernel) rfl
theorem w283 : Cond.fieldLinkNest "PennyRates$Rates" 49 "PennyRates$Rate" "pence" "I" "PennyRates" ∈ sv_N := sv_inN 283 (by decide +kernel) rfl
theorem w284 : Cond.fieldLinkNest "PennyRates$Trucks" 56 "PennyRates$Rate" "pence" "I" "PennyRates" ∈ sv_N := sv_inN 284 (by decide +kernel) rfl
theorem w285 : Cond.fieldLink "PennyRates$Rate" 38 "PennyRates$Rate" "pence" "I" ∈ sv_T := sv_in 285 (by decide +kernel) rfl
theorem w286 : Cond.fieldLinkNest "PennyRates" 223 "PennyRates$Rate" "pence" "I" "PennyRates" ∈ sv_N := sv_inN 286 (by decide +kernel) rfl
theorem w287 : Cond.fieldLinkNest "PennyRates$Rates" 52 "PennyRates$Rate" "carried" "I" "PennyRates" ∈ sv_N := sv_inN 287 (by decide +kernel) rfl
theorem w288 : Cond.fieldLink "PennyRates$Rate" 41 "PennyRates$Rate" "carried" "I" ∈ sv_T := sv_in 288 (by decide +kernel) rfl
theorem w289 : Cond.fieldLink "PennyRates$Rate" 19 "PennyRates$Rate" "since" "I" ∈ sv_T := sv_in 289 (by decide +kernel) rfl
theorem w290 : Cond.fieldLinkNest "PennyRates$Rates" 55 "PennyRates$Rate" "since" "I" "PennyRates" ∈ sv_N := sv_inN 290 (by decide +kernel) rfl
theorem w291 : Cond.fieldLink "PennyRates$Rate" 22 "PennyRates$Rate" "until" "I" ∈ sv_T := sv_in 291 (by decide +kernel) rfl
theorem w292 : Cond.fieldLinkNest "PennyRates$Rates" 58 "PennyRates$Rate" "until" "I" "PennyRates" ∈ sv_N := sv_inN 292 (by decide +kernel) rfl
theorem w293 : Cond.fieldLinkNest "PennyRates$Rates" 61 "PennyRates$Rate" "least" "I" "PennyRates" ∈ sv_N := sv_inN 293 (by decide +kernel) rfl
theorem w294 : Cond.fieldLink "PennyRates$Rate" 44 "PennyRates$Rate" "least" "I" ∈ sv_T := sv_in 294 (by decide +kernel) rfl
theorem w295 : Cond.fieldLinkNest "PennyRates" 178 "PennyRates$Rate" "least" "I" "PennyRates" ∈ sv_N := sv_inN 295 (by decide +kernel) rfl
theorem w296 : Cond.fieldLinkNest "PennyRates$Rates" 64 "PennyRates$Rate" "instead" "I" "PennyRates" ∈ sv_N := sv_inN 296 (by decide +kernel) rfl
theorem w297 : Cond.fieldLink "PennyRates$Rate" 47 "PennyRates$Rate" "instead" "I" ∈ sv_T := sv_in 297 (by decide +kernel) rfl
theorem w298 : Cond.fieldLinkNest "PennyRates" 210 "PennyRates$Rate" "instead" "I" "PennyRates" ∈ sv_N := sv_inN 298 (by decide +kernel) rfl
theorem w299 : Cond.fieldLink "PennyRates$Rate" 9 "PennyRates$Rate" "withdrawn" "Z" ∈ sv_T := sv_in 299 (by decide +kernel) rfl
theorem w300 : Cond.fieldLinkNest "PennyRates$Rates" 101 "PennyRates$Rate" "withdrawn" "Z" "PennyRates" ∈ sv_N := sv_inN 300 (by decide +kernel) rfl
theorem w301 : Cond.fieldLinkNest "PennyRates" 186 "PennyRates$Rate" "withdrawn" "Z" "PennyRates" ∈ sv_N := sv_inN 301 (by decide +kernel) rfl
theorem w327 : Cond.fieldLink "PennyRates$Rates" 21 "PennyRates$Rates" "roads" "LPennyRates$Roads;" ∈ sv_T := sv_in 327 (by decide +kernel) rfl
theorem w328 : Cond.fieldLink "PennyRates$Rates" 25 "PennyRates$Rates" "laws" "LPennyRates$Laws;" ∈ sv_T := sv_in 328 (by decide +kernel) rfl
theorem w329 : Cond.fieldLink "PennyRates$Rates" 13 "PennyRates$Rates" "rows" "[LPennyRates$Rate;" ∈ sv_T := sv_in 329 (by decide +kernel) rfl
theorem w330 : Cond.fieldLink "PennyRates$Rates" 17 "PennyRates$Rates" "weights" "[I" ∈ sv_T := sv_in 330 (by decide +kernel) rfl
theorem w331 : Cond.fieldLink "PennyRates$Rates" 30 "PennyRates$Rates" "count" "I" ∈ sv_T := sv_in 331 (by decide +kernel) rfl
theorem w332 : Cond.fieldLinkNest "PennyRates$Carriage" 31 "PennyRates$Rates" "count" "I" "PennyRates" ∈ sv_N := sv_inN 332 (by decide +kernel) rfl
theorem w333 : Cond.fieldLinkNest "PennyRates" 361 "PennyRates$Rates" "count" "I" "PennyRates" ∈ sv_N := sv_inN 333 (by decide +kernel) rfl
theorem w345 : Cond.classLink "PennyRates" 41 "PennyRates$Trucks" ∈ sv_T := sv_in 345 (by decide +kernel) rfl
theorem w347 : Cond.methodLink "PennyRates" 43 ⟨"PennyRates$Trucks", "<init>", "(LPennyRates$Rates;LPennyRates$Laws;)V"⟩ ∈ sv_T := sv_in 347 (by decide +kernel) rfl
theorem w350 : Cond.methodLink "PennyRates$Trucks" 3 ⟨"java/lang/Object", "<init>", "()V"⟩ ∈ sv_T := sv_in 350 (by decide +kernel) rfl
theorem w351 : Cond.fieldLink "PennyRates$Trucks" 35 "PennyRates$Trucks" "rates" "LPennyRates$Rates;" ∈ sv_T := sv_in 351 (by decide +kernel) rfl
theorem w352 : Cond.fieldLink "PennyRates$Trucks" 39 "PennyRates$Trucks" "laws" "LPennyRates$Laws;" ∈ sv_T := sv_in 352 (by decide +kernel) rfl
theorem w353 : Cond.fieldLink "PennyRates$Trucks" 11 "PennyRates$Trucks" "rateOf" "[I" ∈ sv_T := sv_in 353 (by decide +kernel) rfl
theorem w354 : Cond.fieldLink "PennyRates$Trucks" 15 "PennyRates$Trucks" "goods" "[I" ∈ sv_T := sv_in 354 (by decide +kernel) rfl
theorem w355 : Cond.fieldLink "PennyRates$Trucks" 18 "PennyRates$Trucks" "tons" "[I" ∈ sv_T := sv_in 355 (by decide +kernel) rfl
theorem w356 : Cond.fieldLink "PennyRates$Trucks" 21 "PennyRates$Trucks" "paid" "[I" ∈ sv_T := sv_in 356 (by decide +kernel) rfl
theorem w357 : Cond.fieldLink "PennyRates$Trucks" 24 "PennyRates$Trucks" "days" "[I" ∈ sv_T := sv_in 357 (by decide +kernel) rfl
theorem w358 : Cond.fieldLink "PennyRates$Trucks" 29 "PennyRates$Trucks" "facts" "[I" ∈ sv_T := sv_in 358 (by decide +kernel) rfl
theorem w359 : Cond.fieldLink "PennyRates$Trucks" 32 "PennyRates$Trucks" "marked" "[I" ∈ sv_T := sv_in 359 (by decide +kernel) rfl
theorem w360 : Cond.fieldLink "PennyRates$Trucks" 134 "PennyRates$Trucks" "markedCount" "I" ∈ sv_T := sv_in 360 (by decide +kernel) rfl
theorem w361 : Cond.fieldLink "PennyRates$Trucks" 43 "PennyRates$Trucks" "count" "I" ∈ sv_T := sv_in 361 (by decide +kernel) rfl
theorem w362 : Cond.fieldLinkNest "PennyRates" 362 "PennyRates$Trucks" "count" "I" "PennyRates" ∈ sv_N := sv_inN 362 (by decide +kernel) rfl
theorem w386 : Cond.classLink "PennyRates" 50 "PennyRates$Carriage" ∈ sv_T := sv_in 386 (by decide +kernel) rfl
theorem w388 : Cond.methodLink "PennyRates" 52 ⟨"PennyRates$Carriage", "<init>", "(LPennyRates$Rates;)V"⟩ ∈ sv_T := sv_in 388 (by decide +kernel) rfl
theorem w391 : Cond.methodLink "PennyRates$Carriage" 3 ⟨"java/lang/Object", "<init>", "()V"⟩ ∈ sv_T := sv_in 391 (by decide +kernel) rfl
theorem w392 : Cond.fieldLink "PennyRates$Carriage" 23 "PennyRates$Carriage" "rates" "LPennyRates$Rates;" ∈ sv_T := sv_in 392 (by decide +kernel) rfl
theorem w393 : Cond.fieldLink "PennyRates$Carriage" 11 "PennyRates$Carriage" "fees" "[I" ∈ sv_T := sv_in 393 (by decide +kernel) rfl
theorem w394 : Cond.fieldLinkNest "PennyRates$Wants" 121 "PennyRates$Carriage" "fees" "[I" "PennyRates" ∈ sv_N := sv_inN 394 (by decide +kernel) rfl
theorem w395 : Cond.fieldLink "PennyRates$Carriage" 17 "PennyRates$Carriage" "serving" "[I" ∈ sv_T := sv_in 395 (by decide +kernel) rfl
theorem w396 : Cond.fieldLink "PennyRates$Carriage" 20 "PennyRates$Carriage" "sums" "[I" ∈ sv_T := sv_in 396 (by decide +kernel) rfl
theorem w397 : Cond.fieldLink "PennyRates$Carriage" 27 "PennyRates$Carriage" "servingCount" "I" ∈ sv_T := sv_in 397 (by decide +kernel) rfl
theorem w398 : Cond.fieldLink "PennyRates$Carriage" 48 "PennyRates$Carriage" "legsThatHelp" "I" ∈ sv_T := sv_in 398 (by decide +kernel) rfl
theorem w412 : Cond.classLink "PennyRates" 59 "PennyRates$Wants" ∈ sv_T := sv_in 412 (by decide +kernel) rfl
theorem w414 : Cond.methodLink "PennyRates" 61 ⟨"PennyRates$Wants", "<init>", "(LPennyRates$Rates;LPennyRates$Carriage;)V"⟩ ∈ sv_T := sv_in 414 (by decide +kernel) rfl
theorem w417 : Cond.methodLink "PennyRates$Wants" 3 ⟨"java/lang/Object", "<init>", "()V"⟩ ∈ sv_T := sv_in 417 (by decide +kernel) rfl
theorem w418 : Cond.fieldLink "PennyRates$Wants" 45 "PennyRates$Wants" "rates" "LPennyRates$Rates;" ∈ sv_T := sv_in 418 (by decide +kernel) rfl
theorem w419 : Cond.fieldLink "PennyRates$Wants" 49 "PennyRates$Wants" "carriage" "LPennyRates$Carriage;" ∈ sv_T := sv_in 419 (by decide +kernel) rfl
theorem w420 : Cond.fieldLink "PennyRates$Wants" 11 "PennyRates$Wants" "froms" "[I" ∈ sv_T := sv_in 420 (by decide +kernel) rfl
theorem w421 : Cond.fieldLink "PennyRates$Wants" 15 "PennyRates$Wants" "tos" "[I" ∈ sv_T := sv_in 421 (by decide +kernel) rfl
theorem w422 : Cond.fieldLink "PennyRates$Wants" 18 "PennyRates$Wants" "goods" "[I" ∈ sv_T := sv_in 422 (by decide +kernel) rfl
theorem w423 : Cond.fieldLink "PennyRates$Wants" 21 "PennyRates$Wants" "tons" "[I" ∈ sv_T := sv_in 423 (by decide +kernel) rfl
theorem w424 : Cond.fieldLink "PennyRates$Wants" 24 "PennyRates$Wants" "pence" "[I" ∈ sv_T := sv_in 424 (by decide +kernel) rfl
theorem w425 : Cond.fieldLink "PennyRates$Wants" 27 "PennyRates$Wants" "listed" "[I" ∈ sv_T := sv_in 425 (by decide +kernel) rfl
theorem w426 : Cond.fieldLink "PennyRates$Wants" 30 "PennyRates$Wants" "raisedPence" "[I" ∈ sv_T := sv_in 426 (by decide +kernel) rfl
theorem w427 : Cond.fieldLink "PennyRates$Wants" 33 "PennyRates$Wants" "plainFees" "[I" ∈ sv_T := sv_in 427 (by decide +kernel) rfl
theorem w428 : Cond.fieldLink "PennyRates$Wants" 36 "PennyRates$Wants" "raisedFees" "[I" ∈ sv_T := sv_in 428 (by decide +kernel) rfl
theorem w429 : Cond.fieldLink "PennyRates$Wants" 39 "PennyRates$Wants" "takenOfOne" "[I" ∈ sv_T := sv_in 429 (by decide +kernel) rfl
theorem w430 : Cond.fieldLink "PennyRates$Wants" 42 "PennyRates$Wants" "takenOfAll" "[I" ∈ sv_T := sv_in 430 (by decide +kernel) rfl
theorem w431 : Cond.fieldLink "PennyRates$Wants" 53 "PennyRates$Wants" "count" "I" ∈ sv_T := sv_in 431 (by decide +kernel) rfl
theorem w432 : Cond.fieldLinkNest "PennyRates" 363 "PennyRates$Wants" "count" "I" "PennyRates" ∈ sv_N := sv_inN 432 (by decide +kernel) rfl
theorem w433 : Cond.fieldLink "PennyRates$Wants" 83 "PennyRates$Wants" "listCount" "I" ∈ sv_T := sv_in 433 (by decide +kernel) rfl
theorem w434 : Cond.fieldLinkNest "PennyRates" 323 "PennyRates$Wants" "listCount" "I" "PennyRates" ∈ sv_N := sv_inN 434 (by decide +kernel) rfl
theorem w466 : Cond.classLink "PennyRates" 68 "PennyRates$Acts" ∈ sv_T := sv_in 466 (by decide +kernel) rfl
theorem w468 : Cond.methodLinkNest "PennyRates" 70 ⟨"PennyRates$Acts", "<init>", "()V"⟩ "PennyRates" ∈ sv_N := sv_inN 468 (by decide +kernel) rfl
theorem w471 : Cond.methodLink "PennyRates$Acts" 3 ⟨"java/lang/Object", "<init>", "()V"⟩ ∈ sv_T := sv_in 471 (by decide +kernel) rfl
theorem w472 : Cond.fieldLink "PennyRates$Acts" 11 "PennyRates$Acts" "kept" "[I" ∈ sv_T := sv_in 472 (by decide +kernel) rfl
theorem w473 : Cond.fieldLinkNest "PennyRates" 351 "PennyRates$Acts" "kept" "[I" "PennyRates" ∈ sv_N := sv_inN 473 (by decide +kernel) rfl
theorem w474 : Cond.fieldLink "PennyRates$Acts" 15 "PennyRates$Acts" "ran" "I" ∈ sv_T := sv_in 474 (by decide +kernel) rfl
theorem w475 : Cond.fieldLinkNest "PennyRates" 364 "PennyRates$Acts" "ran" "I" "PennyRates" ∈ sv_N := sv_inN 475 (by decide +kernel) rfl
theorem w476 : Cond.fieldLink "PennyRates$Acts" 28 "PennyRates$Acts" "kind" "I" ∈ sv_T := sv_in 476 (by decide +kernel) rfl
theorem w477 : Cond.fieldLink "PennyRates$Acts" 33 "PennyRates$Acts" "number" "I" ∈ sv_T := sv_in 477 (by decide +kernel) rfl
theorem w478 : Cond.fieldLink "PennyRates$Acts" 37 "PennyRates$Acts" "owner" "I" ∈ sv_T := sv_in 478 (by decide +kernel) rfl
theorem w479 : Cond.fieldLink "PennyRates$Acts" 41 "PennyRates$Acts" "pence" "I" ∈ sv_T := sv_in 479 (by decide +kernel) rfl
theorem w493 : Cond.classLink "PennyRates" 75 "PennyRates$Tapes" ∈ sv_T := sv_in 493 (by decide +kernel) rfl
theorem w495 : Cond.methodLink "PennyRates" 77 ⟨"PennyRates$Tapes", "<init>", "()V"⟩ ∈ sv_T := sv_in 495 (by decide +kernel) rfl
theorem w498 : Cond.methodLink "PennyRates$Tapes" 1 ⟨"java/lang/Object", "<init>", "()V"⟩ ∈ sv_T := sv_in 498 (by decide +kernel) rfl
theorem w499 : Cond.classLink "PennyRates$Tapes" 16 "[[J" ∈ sv_T := sv_in 499 (by decide +kernel) rfl
theorem w501 : Cond.methodLink "PennyRates$Tapes" 21 ⟨"java/util/Arrays", "fill", "([II)V"⟩ ∈ sv_T := sv_in 501 (by decide +kernel) rfl
theorem w502 : Cond.fieldLink "PennyRates$Tapes" 9 "PennyRates$Tapes" "sorts" "[I" ∈ sv_T := sv_in 502 (by decide +kernel) rfl
theorem w503 : Cond.fieldLinkNest "PennyRates" 250 "PennyRates$Tapes" "sorts" "[I" "PennyRates" ∈ sv_N := sv_inN 503 (by decide +kernel) rfl
theorem w504 : Cond.fieldLink "PennyRates$Tapes" 13 "PennyRates$Tapes" "sizes" "[I" ∈ sv_T := sv_in 504 (by decide +kernel) rfl
theorem w505 : Cond.fieldLinkNest "PennyRates" 389 "PennyRates$Tapes" "sizes" "[I" "PennyRates" ∈ sv_N := sv_inN 505 (by decide +kernel) rfl
theorem w506 : Cond.fieldLink "PennyRates$Tapes" 18 "PennyRates$Tapes" "cells" "[[J" ∈ sv_T := sv_in 506 (by decide +kernel) rfl
theorem w507 : Cond.fieldLinkNest "PennyRates" 374 "PennyRates$Tapes" "cells" "[[J" "PennyRates" ∈ sv_N := sv_inN 507 (by decide +kernel) rfl
theorem w516 : Cond.fieldLink "PennyRates" 12 "PennyRates" "roads" "LPennyRates$Roads;" ∈ sv_T := sv_in 516 (by decide +kernel) rfl
theorem w517 : Cond.fieldLink "PennyRates" 21 "PennyRates" "text" "LPennyRates$LawText;" ∈ sv_T := sv_in 517 (by decide +kernel) rfl
theorem w518 : Cond.fieldLink "PennyRates" 28 "PennyRates" "laws" "LPennyRates$Laws;" ∈ sv_T := sv_in 518 (by decide +kernel) rfl
theorem w519 : Cond.fieldLink "PennyRates" 37 "PennyRates" "rates" "LPennyRates$Rates;" ∈ sv_T := sv_in 519 (by decide +kernel) rfl
theorem w520 : Cond.fieldLink "PennyRates" 46 "PennyRates" "trucks" "LPennyRates$Trucks;" ∈ sv_T := sv_in 520 (by decide +kernel) rfl
theorem w521 : Cond.fieldLink "PennyRates" 55 "PennyRates" "carriage" "LPennyRates$Carriage;" ∈ sv_T := sv_in 521 (by decide +kernel) rfl
theorem w522 : Cond.fieldLink "PennyRates" 64 "PennyRates" "wants" "LPennyRates$Wants;" ∈ sv_T := sv_in 522 (by decide +kernel) rfl
theorem w523 : Cond.fieldLink "PennyRates" 71 "PennyRates" "acts" "LPennyRates$Acts;" ∈ sv_T := sv_in 523 (by decide +kernel) rfl
theorem w524 : Cond.fieldLink "PennyRates" 78 "PennyRates" "tapes" "LPennyRates$Tapes;" ∈ sv_T := sv_in 524 (by decide +kernel) rfl
theorem w525 : Cond.fieldLink "PennyRates" 86 "PennyRates" "today" "I" ∈ sv_T := sv_in 525 (by decide +kernel) rfl
theorem w526 : Cond.fieldLink "PennyRates" 82 "PennyRates" "bookEnd" "I" ∈ sv_T := sv_in 526 (by decide +kernel) rfl
theorem w550 : Cond.methodLink "PennyRatesLaw" 13 ⟨"PennyRates", "pass", "(I)I"⟩ ∈ sv_T := sv_in 550 (by decide +kernel) rfl
theorem w554 : Cond.methodLink "PennyRatesLaw" 18 ⟨"PennyRates", "line", "(IIII)I"⟩ ∈ sv_T := sv_in 554 (by decide +kernel) rfl
theorem w558 : Cond.methodLink "PennyRates" 89 ⟨"PennyRates", "isOwner", "(I)Z"⟩ ∈ sv_T := sv_in 558 (by decide +kernel) rfl
theorem w561 : Cond.methodLink "PennyRates" 93 ⟨"PennyRates", "areStations", "(II)Z"⟩ ∈ sv_T := sv_in 561 (by decide +kernel) rfl
theorem w564 : Cond.methodLink "PennyRates" 280 ⟨"PennyRates", "isStation", "(I)Z"⟩ ∈ sv_T := sv_in 564 (by decide +kernel) rfl
theorem w567 : Cond.methodLink "PennyRates" 97 ⟨"PennyRates$Roads", "isFull", "()Z"⟩ ∈ sv_T := sv_in 567 (by decide +kernel) rfl
theorem w571 : Cond.methodLink "PennyRates" 101 ⟨"PennyRates$Roads", "add", "(IIII)I"⟩ ∈ sv_T := sv_in 571 (by decide +kernel) rfl
theorem w575 : Cond.methodLink "PennyRates$Roads" 37 ⟨"PennyRates$Roads", "shorten", "([IIII)V"⟩ ∈ sv_T := sv_in 575 (by decide +kernel) rfl
theorem w578 : Cond.methodLink "PennyRates$Roads" 41 ⟨"java/lang/Math", "min", "(II)I"⟩ ∈ sv_T := sv_in 578 (by decide +kernel) rfl
theorem w581 : Cond.methodLink "PennyRatesLaw" 23 ⟨"PennyRates", "miles", "(III)I"⟩ ∈ sv_T := sv_in 581 (by decide +kernel) rfl
theorem w585 : Cond.methodLink "PennyRates" 105 ⟨"PennyRates", "isOwnerOrNoOne", "(I)Z"⟩ ∈ sv_T := sv_in 585 (by decide +kernel) rfl
theorem w588 : Cond.methodLink "PennyRates" 108 ⟨"PennyRates$Roads", "between", "(III)I"⟩ ∈ sv_T := sv_in 588 (by decide +kernel) rfl
theorem w592 : Cond.methodLink "PennyRatesLaw" 28 ⟨"PennyRates", "way", "(III)I"⟩ ∈ sv_T := sv_in 592 (by decide +kernel) rfl
theorem w596 : Cond.methodLink "PennyRates" 112 ⟨"PennyRates$Roads", "lineOnWay", "(III)I"⟩ ∈ sv_T := sv_in 596 (by decide +kernel) rfl
theorem w600 : Cond.methodLink "PennyRates$Roads" 51 ⟨"PennyRates$Roads", "nextOnWay", "(II)I"⟩ ∈ sv_T := sv_in 600 (by decide +kernel) rfl
theorem w604 : Cond.methodLink "PennyRates$Roads" 47 ⟨"PennyRates$Roads", "between", "(III)I"⟩ ∈ sv_T := sv_in 604 (by decide +kernel) rfl
theorem w605 : Cond.methodLink "PennyRatesLaw" 32 ⟨"PennyRates", "feed", "(II)I"⟩ ∈ sv_T := sv_in 605 (by decide +kernel) rfl
theorem w609 : Cond.methodLink "PennyRates" 115 ⟨"PennyRates$LawText", "hasRoom", "(I)Z"⟩ ∈ sv_T := sv_in 609 (by decide +kernel) rfl
theorem w613 : Cond.methodLink "PennyRates" 118 ⟨"PennyRates$LawText", "append", "(II)I"⟩ ∈ sv_T := sv_in 613 (by decide +kernel) rfl
theorem w617 : Cond.methodLink "PennyRatesLaw" 37 ⟨"PennyRates", "law", "(II)I"⟩ ∈ sv_T := sv_in 617 (by decide +kernel) rfl
theorem w621 : Cond.methodLink "PennyRates" 122 ⟨"PennyRates", "isDay", "(I)Z"⟩ ∈ sv_T := sv_in 621 (by decide +kernel) rfl
theorem w624 : Cond.methodLink "PennyRates" 125 ⟨"PennyRates$Laws", "areFull", "()Z"⟩ ∈ sv_T := sv_in 624 (by decide +kernel) rfl
theorem w628 : Cond.methodLink "PennyRates" 128 ⟨"PennyRates$LawText", "parses", "()Z"⟩ ∈ sv_T := sv_in 628 (by decide +kernel) rfl
theorem w632 : Cond.methodLink "PennyRates$LawText" 44 ⟨"PennyRates$LawText", "begin", "()V"⟩ ∈ sv_T := sv_in 632 (by decide +kernel) rfl
theorem w636 : Cond.methodLink "PennyRates$LawText" 61 ⟨"java/util/Arrays", "fill", "([II)V"⟩ ∈ sv_T := sv_in 636 (by decide +kernel) rfl
theorem w637 : Cond.methodLink "PennyRates$LawText" 47 ⟨"PennyRates$LawText", "clause", "()Z"⟩ ∈ sv_T := sv_in 637 (by decide +kernel) rfl
theorem w641 : Cond.methodLink "PennyRates$LawText" 65 ⟨"PennyRates$LawText", "word", "()I"⟩ ∈ sv_T := sv_in 641 (by decide +kernel) rfl
theorem w645 : Cond.methodLink "PennyRates$LawText" 104 ⟨"PennyRates$LawText", "spelled", "(I)Ljava/lang/String;"⟩ ∈ sv_T := sv_in 645 (by decide +kernel) rfl
theorem w659 : Cond.methodLink "PennyRates$LawText" 108 ⟨"PennyRates$LawText", "likeness", "(Ljava/lang/String;)I"⟩ ∈ sv_T := sv_in 659 (by decide +kernel) rfl
theorem w663 : Cond.methodLink "PennyRates$LawText" 112 ⟨"java/lang/String", "length", "()I"⟩ ∈ sv_T := sv_in 663 (by decide +kernel) rfl
theorem w667 : Cond.methodLink "java/lang/String" 335 ⟨"java/lang/String", "coder", "()B"⟩ ∈ sv_T := sv_in 667 (by decide +kernel) rfl
theorem w671 : Cond.fieldLink "java/lang/String" 38 "java/lang/String" "COMPACT_STRINGS" "Z" ∈ sv_T := sv_in 671 (by decide +kernel) rfl
theorem w673 : Cond.methodLink "PennyRates$LawText" 122 ⟨"java/lang/String", "charAt", "(I)C"⟩ ∈ sv_T := sv_in 673 (by decide +kernel) rfl
theorem w677 : Cond.methodLink "java/lang/String" 492 ⟨"java/lang/String", "isLatin1", "()Z"⟩ ∈ sv_T := sv_in 677 (by decide +kernel) rfl
theorem w681 : Cond.methodLink "java/lang/String" 495 ⟨"java/lang/StringLatin1", "charAt", "([BI)C"⟩ ∈ sv_T := sv_in 681 (by decide +kernel) rfl
theorem w684 : Cond.methodLink "java/lang/StringLatin1" 9 ⟨"java/lang/String", "checkIndex", "(II)V"⟩ ∈ sv_T := sv_in 684 (by decide +kernel) rfl
theorem w687 : Cond.fieldLink "java/lang/String" 1053 "jdk/internal/util/Preconditions" "SIOOBE_FORMATTER" "Ljava/util/function/BiFunction;" ∈ sv_T := sv_in 687 (by decide +kernel) rfl
theorem w689 : Cond.methodLink "java/lang/String" 1059 ⟨"jdk/internal/util/Preconditions", "checkIndex", "(IILjava/util/function/BiFunction;)I"⟩ ∈ sv_T := sv_in 689 (by decide +kernel) rfl
theorem w692 : Cond.methodLink "java/lang/String" 498 ⟨"java/lang/StringUTF16", "charAt", "([BI)C"⟩ ∈ sv_T := sv_in 692 (by decide +kernel) rfl
theorem w695 : Cond.methodLink "java/lang/StringUTF16" 67 ⟨"java/lang/StringUTF16", "checkIndex", "(I[B)V"⟩ ∈ sv_T := sv_in 695 (by decide +kernel) rfl
theorem w698 : Cond.methodLink "java/lang/StringUTF16" 48 ⟨"java/lang/StringUTF16", "length", "([B)I"⟩ ∈ sv_T := sv_in 698 (by decide +kernel) rfl
theorem w701 : Cond.methodLink "java/lang/StringUTF16" 414 ⟨"java/lang/String", "checkIndex", "(II)V"⟩ ∈ sv_T := sv_in 701 (by decide +kernel) rfl
theorem w702 : Cond.methodLink "java/lang/StringUTF16" 71 ⟨"java/lang/StringUTF16", "getChar", "([BI)C"⟩ ∈ sv_T := sv_in 702 (by decide +kernel) rfl
theorem w705 : Cond.fieldLink "java/lang/StringUTF16" 44 "java/lang/StringUTF16" "$assertionsDisabled" "Z" ∈ sv_T := sv_in 705 (by decide +kernel) rfl
theorem w707 : Cond.fieldLink "java/lang/StringUTF16" 59 "java/lang/StringUTF16" "HI_BYTE_SHIFT" "I" ∈ sv_T := sv_in 707 (by decide +kernel) rfl
theorem w709 : Cond.fieldLink "java/lang/StringUTF16" 63 "java/lang/StringUTF16" "LO_BYTE_SHIFT" "I" ∈ sv_T := sv_in 709 (by decide +kernel) rfl
theorem w711 : Cond.methodLink "PennyRates$LawText" 116 ⟨"java/lang/Math", "max", "(II)I"⟩ ∈ sv_T := sv_in 711 (by decide +kernel) rfl
theorem w714 : Cond.methodLink "PennyRates$LawText" 69 ⟨"PennyRates$LawText", "goodClause", "()Z"⟩ ∈ sv_T := sv_in 714 (by decide +kernel) rfl
theorem w718 : Cond.methodLink "PennyRates$LawText" 54 ⟨"PennyRates$LawText", "takes", "(C)Z"⟩ ∈ sv_T := sv_in 718 (by decide +kernel) rfl
theorem w722 : Cond.methodLink "PennyRates$LawText" 126 ⟨"PennyRates$LawText", "number", "(I)I"⟩ ∈ sv_T := sv_in 722 (by decide +kernel) rfl
theorem w726 : Cond.methodLink "PennyRates$LawText" 72 ⟨"PennyRates$LawText", "mostClause", "()Z"⟩ ∈ sv_T := sv_in 726 (by decide +kernel) rfl
theorem w730 : Cond.methodLink "PennyRates$LawText" 79 ⟨"PennyRates$LawText", "numberInto", "(I)Z"⟩ ∈ sv_T := sv_in 730 (by decide +kernel) rfl
theorem w734 : Cond.methodLink "PennyRates$LawText" 75 ⟨"PennyRates$LawText", "either", "(I)Z"⟩ ∈ sv_T := sv_in 734 (by decide +kernel) rfl
theorem w738 : Cond.methodLink "PennyRates$LawText" 132 ⟨"PennyRates$LawText", "both", "(I)Z"⟩ ∈ sv_T := sv_in 738 (by decide +kernel) rfl
theorem w742 : Cond.methodLink "PennyRates$LawText" 139 ⟨"PennyRates$LawText", "factor", "(I)Z"⟩ ∈ sv_T := sv_in 742 (by decide +kernel) rfl
theorem w746 : Cond.methodLink "PennyRates$LawText" 135 ⟨"PennyRates$LawText", "emit", "(II)V"⟩ ∈ sv_T := sv_in 746 (by decide +kernel) rfl
theorem w750 : Cond.methodLink "PennyRates$LawText" 142 ⟨"PennyRates$LawText", "test", "()Z"⟩ ∈ sv_T := sv_in 750 (by decide +kernel) rfl
theorem w754 : Cond.methodLink "PennyRates" 134 ⟨"PennyRates$Laws", "add", "(IILPennyRates$LawText;)I"⟩ ∈ sv_T := sv_in 754 (by decide +kernel) rfl
theorem w758 : Cond.methodLink "PennyRates$Laws" 46 ⟨"[I", "clone", "()Ljava/lang/Object;"⟩ ∈ sv_T := sv_in 758 (by decide +kernel) rfl
theorem w764 : Cond.classLink "PennyRates$Laws" 47 "[I" ∈ sv_T := sv_in 764 (by decide +kernel) rfl
theorem w765 : Cond.methodLink "PennyRates$Laws" 51 ⟨"PennyRates$LawText", "sameSteps", "()[I"⟩ ∈ sv_T := sv_in 765 (by decide +kernel) rfl
theorem w769 : Cond.methodLink "PennyRates$LawText" 32 ⟨"java/util/Arrays", "copyOfRange", "([III)[I"⟩ ∈ sv_T := sv_in 769 (by decide +kernel) rfl
theorem w772 : Cond.methodLink "java/util/Arrays" 351 ⟨"java/util/Arrays", "copyOfRangeInt", "([III)[I"⟩ ∈ sv_T := sv_in 772 (by decide +kernel) rfl
theorem w775 : Cond.methodLink "java/util/Arrays" 343 ⟨"java/util/Arrays", "checkLength", "(II)V"⟩ ∈ sv_T := sv_in 775 (by decide +kernel) rfl
theorem w778 : Cond.methodLink "java/util/Arrays" 304 ⟨"java/lang/Math", "min", "(II)I"⟩ ∈ sv_T := sv_in 778 (by decide +kernel) rfl
theorem w779 : Cond.methodLink "java/util/Arrays" 150 ⟨"java/lang/System", "arraycopy", "(Ljava/lang/Object;ILjava/lang/Object;II)V"⟩ ∈ sv_T := sv_in 779 (by decide +kernel) rfl
theorem w782 : Cond.methodLink "java/util/Arrays" 316 ⟨"[I", "clone", "()Ljava/lang/Object;"⟩ ∈ sv_T := sv_in 782 (by decide +kernel) rfl
theorem w783 : Cond.classLink "java/util/Arrays" 317 "[I" ∈ sv_T := sv_in 783 (by decide +kernel) rfl
theorem w784 : Cond.methodLink "PennyRates$Laws" 55 ⟨"PennyRates$LawText", "excuseSteps", "()[I"⟩ ∈ sv_T := sv_in 784 (by decide +kernel) rfl
theorem w788 : Cond.methodLink "PennyRatesLaw" 41 ⟨"PennyRates", "holds", "(III)I"⟩ ∈ sv_T := sv_in 788 (by decide +kernel) rfl
theorem w792 : Cond.methodLink "PennyRates" 140 ⟨"PennyRates$Laws", "inForce", "(II)LPennyRates$Law;"⟩ ∈ sv_T := sv_in 792 (by decide +kernel) rfl
theorem w796 : Cond.methodLink "PennyRates" 149 ⟨"PennyRates$Laws", "value", "(III)I"⟩ ∈ sv_T := sv_in 796 (by decide +kernel) rfl
theorem w800 : Cond.methodLink "PennyRates$Laws" 64 ⟨"PennyRates$Laws", "inForce", "(II)LPennyRates$Law;"⟩ ∈ sv_T := sv_in 800 (by decide +kernel) rfl
theorem w801 : Cond.methodLink "PennyRates$Laws" 69 ⟨"PennyRates$Laws", "usual", "(I)I"⟩ ∈ sv_T := sv_in 801 (by decide +kernel) rfl
theorem w804 : Cond.methodLink "PennyRatesLaw" 45 ⟨"PennyRates", "rate", "(IIIIIII)I"⟩ ∈ sv_T := sv_in 804 (by decide +kernel) rfl
theorem w808 : Cond.methodLink "PennyRates" 152 ⟨"PennyRates", "isPence", "(II)Z"⟩ ∈ sv_T := sv_in 808 (by decide +kernel) rfl
theorem w811 : Cond.methodLink "PennyRates" 155 ⟨"PennyRates$Rates", "areFull", "()Z"⟩ ∈ sv_T := sv_in 811 (by decide +kernel) rfl
theorem w815 : Cond.methodLink "PennyRates" 156 ⟨"PennyRates", "soonest", "(I)I"⟩ ∈ sv_T := sv_in 815 (by decide +kernel) rfl
theorem w819 : Cond.methodLink "PennyRates" 160 ⟨"java/lang/Math", "max", "(II)I"⟩ ∈ sv_T := sv_in 819 (by decide +kernel) rfl
theorem w820 : Cond.methodLink "PennyRates" 165 ⟨"PennyRates$Rates", "add", "(IIIIIII)I"⟩ ∈ sv_T := sv_in 820 (by decide +kernel) rfl
theorem w824 : Cond.methodLink "PennyRatesLaw" 50 ⟨"PennyRates", "special", "(IIIIII)I"⟩ ∈ sv_T := sv_in 824 (by decide +kernel) rfl
theorem w828 : Cond.methodLink "PennyRates" 168 ⟨"PennyRates", "isGood", "(I)Z"⟩ ∈ sv_T := sv_in 828 (by decide +kernel) rfl
theorem w831 : Cond.methodLink "PennyRates" 171 ⟨"PennyRates", "areTons", "(I)Z"⟩ ∈ sv_T := sv_in 831 (by decide +kernel) rfl
theorem w834 : Cond.methodLink "PennyRates" 174 ⟨"PennyRates$Rates", "row", "(I)LPennyRates$Rate;"⟩ ∈ sv_T := sv_in 834 (by decide +kernel) rfl
theorem w838 : Cond.methodLink "PennyRatesLaw" 55 ⟨"PennyRates", "withdraw", "(I)I"⟩ ∈ sv_T := sv_in 838 (by decide +kernel) rfl
theorem w842 : Cond.methodLink "PennyRates" 183 ⟨"PennyRates$Rates", "has", "(I)Z"⟩ ∈ sv_T := sv_in 842 (by decide +kernel) rfl
theorem w846 : Cond.methodLink "PennyRates" 193 ⟨"PennyRates$Rate", "takeOut", "(I)V"⟩ ∈ sv_T := sv_in 846 (by decide +kernel) rfl
theorem w850 : Cond.methodLink "PennyRatesLaw" 59 ⟨"PennyRates", "set", "(II)I"⟩ ∈ sv_T := sv_in 850 (by decide +kernel) rfl
theorem w854 : Cond.methodLink "PennyRates" 197 ⟨"PennyRates$Rates", "classOf", "(LPennyRates$Rate;I)I"⟩ ∈ sv_T := sv_in 854 (by decide +kernel) rfl
theorem w858 : Cond.methodLink "PennyRates$Rates" 67 ⟨"PennyRates$Laws", "value", "(III)I"⟩ ∈ sv_T := sv_in 858 (by decide +kernel) rfl
theorem w859 : Cond.methodLink "PennyRatesLaw" 63 ⟨"PennyRates", "undo", "(I)I"⟩ ∈ sv_T := sv_in 859 (by decide +kernel) rfl
theorem w863 : Cond.methodLink "PennyRates" 213 ⟨"PennyRates$Rate", "kind", "()I"⟩ ∈ sv_T := sv_in 863 (by decide +kernel) rfl
theorem w867 : Cond.methodLink "PennyRates" 217 ⟨"PennyRates$Rate", "putBack", "()V"⟩ ∈ sv_T := sv_in 867 (by decide +kernel) rfl
theorem w871 : Cond.methodLink "PennyRatesLaw" 67 ⟨"PennyRates", "of", "(II)I"⟩ ∈ sv_T := sv_in 871 (by decide +kernel) rfl
theorem w875 : Cond.methodLink "PennyRates" 220 ⟨"PennyRates$Rate", "fact", "(I)I"⟩ ∈ sv_T := sv_in 875 (by decide +kernel) rfl
theorem w879 : Cond.methodLink "PennyRates$Rate" 25 ⟨"PennyRates$Rate", "kind", "()I"⟩ ∈ sv_T := sv_in 879 (by decide +kernel) rfl
theorem w880 : Cond.methodLink "PennyRatesLaw" 71 ⟨"PennyRates", "charge", "(IIII)I"⟩ ∈ sv_T := sv_in 880 (by decide +kernel) rfl
theorem w884 : Cond.methodLink "PennyRates" 226 ⟨"PennyRates$Rates", "fee", "(LPennyRates$Rate;IIII)I"⟩ ∈ sv_T := sv_in 884 (by decide +kernel) rfl
theorem w888 : Cond.methodLink "PennyRates$Rates" 78 ⟨"PennyRates$Rate", "isPrinted", "(I)Z"⟩ ∈ sv_T := sv_in 888 (by decide +kernel) rfl
theorem w892 : Cond.methodLink "PennyRates$Rates" 82 ⟨"PennyRates$Rates", "perTon", "(LPennyRates$Rate;I)I"⟩ ∈ sv_T := sv_in 892 (by decide +kernel) rfl
theorem w896 : Cond.methodLink "PennyRates$Rates" 73 ⟨"PennyRates$Roads", "between", "(III)I"⟩ ∈ sv_T := sv_in 896 (by decide +kernel) rfl
theorem w897 : Cond.methodLink "PennyRates$Rates" 86 ⟨"java/lang/Math", "min", "(II)I"⟩ ∈ sv_T := sv_in 897 (by decide +kernel) rfl
theorem w898 : Cond.methodLink "PennyRates$Rates" 92 ⟨"java/lang/Math", "max", "(II)I"⟩ ∈ sv_T := sv_in 898 (by decide +kernel) rfl
theorem w899 : Cond.methodLink "PennyRatesLaw" 75 ⟨"PennyRates", "most", "(III)I"⟩ ∈ sv_T := sv_in 899 (by decide +kernel) rfl
theorem w903 : Cond.methodLink "PennyRates" 230 ⟨"PennyRates$Rates", "over", "(LPennyRates$Rate;I)I"⟩ ∈ sv_T := sv_in 903 (by decide +kernel) rfl
theorem w907 : Cond.methodLink "PennyRates$Rates" 98 ⟨"PennyRates$Rates", "ceiling", "(LPennyRates$Rate;I)I"⟩ ∈ sv_T := sv_in 907 (by decide +kernel) rfl
theorem w911 : Cond.methodLink "PennyRates$Rates" 95 ⟨"PennyRates$Rates", "classOf", "(LPennyRates$Rate;I)I"⟩ ∈ sv_T := sv_in 911 (by decide +kernel) rfl
theorem w912 : Cond.methodLink "PennyRates" 233 ⟨"PennyRates$Rates", "ceiling", "(LPennyRates$Rate;I)I"⟩ ∈ sv_T := sv_in 912 (by decide +kernel) rfl
theorem w913 : Cond.methodLink "PennyRatesLaw" 79 ⟨"PennyRates", "part", "(III)I"⟩ ∈ sv_T := sv_in 913 (by decide +kernel) rfl
theorem w917 : Cond.methodLink "PennyRates" 236 ⟨"PennyRates$Rates", "share", "(LPennyRates$Rate;II)I"⟩ ∈ sv_T := sv_in 917 (by decide +kernel) rfl
theorem w921 : Cond.methodLink "PennyRates$Rates" 105 ⟨"PennyRates$Rates", "weigh", "(LPennyRates$Rate;I)I"⟩ ∈ sv_T := sv_in 921 (by decide +kernel) rfl
theorem w925 : Cond.methodLink "PennyRates$Rates" 108 ⟨"java/util/Arrays", "fill", "([II)V"⟩ ∈ sv_T := sv_in 925 (by decide +kernel) rfl
theorem w926 : Cond.methodLink "PennyRates$Rates" 114 ⟨"PennyRates$Roads", "addMilesOfOwners", "(II[I)V"⟩ ∈ sv_T := sv_in 926 (by decide +kernel) rfl
theorem w930 : Cond.methodLink "PennyRates$Roads" 54 ⟨"PennyRates$Roads", "lineOnWay", "(III)I"⟩ ∈ sv_T := sv_in 930 (by decide +kernel) rfl
theorem w931 : Cond.methodLink "PennyRatesLaw" 83 ⟨"PennyRates", "truck", "(IIIII)I"⟩ ∈ sv_T := sv_in 931 (by decide +kernel) rfl
theorem w935 : Cond.methodLink "PennyRates" 240 ⟨"PennyRates", "truckRefusal", "(IIIII)I"⟩ ∈ sv_T := sv_in 935 (by decide +kernel) rfl
theorem w939 : Cond.constant "PennyRates" 388 (99999) ∈ sv_T := sv_in 939 (by decide +kernel) rfl
theorem w940 : Cond.methodLink "PennyRates" 244 ⟨"PennyRates$Trucks", "areFull", "()Z"⟩ ∈ sv_T := sv_in 940 (by decide +kernel) rfl
theorem w944 : Cond.methodLink "PennyRates" 245 ⟨"PennyRates$Trucks", "add", "(IIIII)I"⟩ ∈ sv_T := sv_in 944 (by decide +kernel) rfl
theorem w948 : Cond.methodLink "PennyRatesLaw" 88 ⟨"PennyRates", "book", "(III)I"⟩ ∈ sv_T := sv_in 948 (by decide +kernel) rfl
theorem w952 : Cond.methodLink "PennyRates" 247 ⟨"PennyRates", "isTape", "(I)Z"⟩ ∈ sv_T := sv_in 952 (by decide +kernel) rfl
theorem w955 : Cond.constantLong "PennyRates" 254 (5) ∈ sv_T := sv_in 955 (by decide +kernel) rfl
theorem w956 : Cond.methodLink "PennyRates" 256 ⟨"PennyRates", "bookRow", "(IJ)I"⟩ ∈ sv_T := sv_in 956 (by decide +kernel) rfl
theorem w960 : Cond.methodLink "PennyRatesLaw" 92 ⟨"PennyRates", "ended", "()I"⟩ ∈ sv_T := sv_in 960 (by decide +kernel) rfl
theorem w964 : Cond.methodLink "PennyRatesLaw" 97 ⟨"PennyRates", "due", "(I)I"⟩ ∈ sv_T := sv_in 964 (by decide +kernel) rfl
theorem w968 : Cond.methodLink "PennyRates" 260 ⟨"PennyRates$Trucks", "has", "(I)Z"⟩ ∈ sv_T := sv_in 968 (by decide +kernel) rfl
theorem w972 : Cond.methodLink "PennyRates" 261 ⟨"PennyRates$Trucks", "dueOf", "(I)I"⟩ ∈ sv_T := sv_in 972 (by decide +kernel) rfl
theorem w976 : Cond.methodLink "PennyRates$Trucks" 53 ⟨"PennyRates$Trucks", "rateOfTruck", "(I)LPennyRates$Rate;"⟩ ∈ sv_T := sv_in 976 (by decide +kernel) rfl
theorem w980 : Cond.methodLink "PennyRates$Trucks" 47 ⟨"PennyRates$Rates", "row", "(I)LPennyRates$Rate;"⟩ ∈ sv_T := sv_in 980 (by decide +kernel) rfl
theorem w981 : Cond.methodLink "PennyRates$Trucks" 61 ⟨"PennyRates$Rates", "fee", "(LPennyRates$Rate;IIII)I"⟩ ∈ sv_T := sv_in 981 (by decide +kernel) rfl
theorem w982 : Cond.methodLink "PennyRatesLaw" 101 ⟨"PennyRates", "unlike", "(III)I"⟩ ∈ sv_T := sv_in 982 (by decide +kernel) rfl
theorem w986 : Cond.methodLink "PennyRates" 264 ⟨"java/lang/Math", "min", "(II)I"⟩ ∈ sv_T := sv_in 986 (by decide +kernel) rfl
theorem w987 : Cond.methodLink "PennyRates" 267 ⟨"PennyRates$Trucks", "areSame", "(II)Z"⟩ ∈ sv_T := sv_in 987 (by decide +kernel) rfl
theorem w991 : Cond.methodLink "PennyRates$Trucks" 101 ⟨"PennyRates$Trucks", "gatherFacts", "(II)V"⟩ ∈ sv_T := sv_in 991 (by decide +kernel) rfl
theorem w995 : Cond.methodLink "PennyRates$Trucks" 65 ⟨"java/lang/Math", "max", "(II)I"⟩ ∈ sv_T := sv_in 995 (by decide +kernel) rfl
theorem w996 : Cond.methodLink "PennyRates$Trucks" 80 ⟨"PennyRates$Laws", "value", "(III)I"⟩ ∈ sv_T := sv_in 996 (by decide +kernel) rfl
theorem w997 : Cond.methodLink "PennyRates$Trucks" 84 ⟨"java/lang/Math", "abs", "(I)I"⟩ ∈ sv_T := sv_in 997 (by decide +kernel) rfl
theorem w1000 : Cond.methodLink "PennyRates$Trucks" 91 ⟨"PennyRates$Trucks", "oneIf", "(Z)I"⟩ ∈ sv_T := sv_in 1000 (by decide +kernel) rfl
theorem w1003 : Cond.methodLink "PennyRates$Trucks" 105 ⟨"PennyRates$Trucks", "courtsLaw", "(II)LPennyRates$Law;"⟩ ∈ sv_T := sv_in 1003 (by decide +kernel) rfl
theorem w1007 : Cond.methodLink "PennyRates$Trucks" 71 ⟨"PennyRates$Laws", "inForce", "(II)LPennyRates$Law;"⟩ ∈ sv_T := sv_in 1007 (by decide +kernel) rfl
theorem w1008 : Cond.methodLink "PennyRates$Trucks" 111 ⟨"PennyRates$Law", "judge", "([I[IZ)Z"⟩ ∈ sv_T := sv_in 1008 (by decide +kernel) rfl
theorem w1011 : Cond.constantLong "PennyRates$Law" 29 (-2) ∈ sv_T := sv_in 1011 (by decide +kernel) rfl
theorem w1012 : Cond.methodLink "PennyRates$Law" 31 ⟨"PennyRates$Law", "passes", "(II[I)Z"⟩ ∈ sv_T := sv_in 1012 (by decide +kernel) rfl
theorem w1015 : Cond.methodLink "PennyRates" 270 ⟨"PennyRates$Trucks", "areUnlike", "(II)Z"⟩ ∈ sv_T := sv_in 1015 (by decide +kernel) rfl
theorem w1019 : Cond.methodLink "PennyRates$Trucks" 115 ⟨"PennyRates$Trucks", "areSame", "(II)Z"⟩ ∈ sv_T := sv_in 1019 (by decide +kernel) rfl
theorem w1020 : Cond.methodLink "PennyRatesLaw" 105 ⟨"PennyRates", "unlikes", "(I)I"⟩ ∈ sv_T := sv_in 1020 (by decide +kernel) rfl
theorem w1024 : Cond.methodLink "PennyRates" 273 ⟨"PennyRates$Trucks", "countUnlike", "()I"⟩ ∈ sv_T := sv_in 1024 (by decide +kernel) rfl
theorem w1028 : Cond.methodLink "PennyRates$Trucks" 122 ⟨"PennyRates$Trucks", "areUnlike", "(II)Z"⟩ ∈ sv_T := sv_in 1028 (by decide +kernel) rfl
theorem w1029 : Cond.methodLink "PennyRates" 276 ⟨"PennyRates$Trucks", "firstUnlike", "(Z)I"⟩ ∈ sv_T := sv_in 1029 (by decide +kernel) rfl
theorem w1033 : Cond.methodLink "PennyRatesLaw" 109 ⟨"PennyRates", "suit", "(I)J"⟩ ∈ sv_T := sv_in 1033 (by decide +kernel) rfl
theorem w1037 : Cond.methodLink "PennyRates" 283 ⟨"PennyRates$Trucks", "claims", "(II)J"⟩ ∈ sv_T := sv_in 1037 (by decide +kernel) rfl
theorem w1041 : Cond.methodLink "PennyRates$Trucks" 125 ⟨"PennyRates$Trucks", "claim", "(III)J"⟩ ∈ sv_T := sv_in 1041 (by decide +kernel) rfl
theorem w1045 : Cond.methodLink "PennyRates$Trucks" 129 ⟨"PennyRates$Trucks", "dueOf", "(I)I"⟩ ∈ sv_T := sv_in 1045 (by decide +kernel) rfl
theorem w1046 : Cond.constantLong "PennyRates$Trucks" 132 (1000) ∈ sv_T := sv_in 1046 (by decide +kernel) rfl
theorem w1047 : Cond.constantLong "PennyRates" 287 (-9223372036854775808) ∈ sv_T := sv_in 1047 (by decide +kernel) rfl
theorem w1048 : Cond.methodLink "PennyRatesLaw" 114 ⟨"PennyRates", "cheap", "(IIIIII)I"⟩ ∈ sv_T := sv_in 1048 (by decide +kernel) rfl
theorem w1052 : Cond.methodLink "PennyRates" 289 ⟨"PennyRates$Carriage", "price", "(III)V"⟩ ∈ sv_T := sv_in 1052 (by decide +kernel) rfl
theorem w1056 : Cond.methodLink "PennyRates$Carriage" 34 ⟨"PennyRates$Rates", "row", "(I)LPennyRates$Rate;"⟩ ∈ sv_T := sv_in 1056 (by decide +kernel) rfl
theorem w1057 : Cond.methodLink "PennyRates$Carriage" 43 ⟨"PennyRates$Rates", "fee", "(LPennyRates$Rate;IIII)I"⟩ ∈ sv_T := sv_in 1057 (by decide +kernel) rfl
theorem w1058 : Cond.methodLink "PennyRates" 293 ⟨"PennyRates$Carriage", "reach", "(I)V"⟩ ∈ sv_T := sv_in 1058 (by decide +kernel) rfl
theorem w1062 : Cond.constant "PennyRates$Carriage" 47 (1000000000) ∈ sv_T := sv_in 1062 (by decide +kernel) rfl
theorem w1063 : Cond.methodLink "PennyRates$Carriage" 51 ⟨"PennyRates$Carriage", "addLeg", "(I)Z"⟩ ∈ sv_T := sv_in 1063 (by decide +kernel) rfl
theorem w1067 : Cond.methodLink "PennyRates$Carriage" 55 ⟨"java/lang/System", "arraycopy", "(Ljava/lang/Object;ILjava/lang/Object;II)V"⟩ ∈ sv_T := sv_in 1067 (by decide +kernel) rfl
theorem w1068 : Cond.methodLink "PennyRates" 296 ⟨"PennyRates$Carriage", "leastFrom", "(I)I"⟩ ∈ sv_T := sv_in 1068 (by decide +kernel) rfl
theorem w1072 : Cond.methodLink "PennyRates" 299 ⟨"PennyRates$Carriage", "legsFrom", "(I)I"⟩ ∈ sv_T := sv_in 1072 (by decide +kernel) rfl
theorem w1076 : Cond.methodLink "PennyRates" 302 ⟨"PennyRates$Carriage", "leg", "(II)I"⟩ ∈ sv_T := sv_in 1076 (by decide +kernel) rfl
theorem w1080 : Cond.methodLink "PennyRates$Carriage" 67 ⟨"PennyRates$Carriage", "legsFrom", "(I)I"⟩ ∈ sv_T := sv_in 1080 (by decide +kernel) rfl
theorem w1081 : Cond.methodLink "PennyRates$Carriage" 71 ⟨"PennyRates$Carriage", "firstLeg", "(II)I"⟩ ∈ sv_T := sv_in 1081 (by decide +kernel) rfl
theorem w1085 : Cond.methodLink "PennyRatesLaw" 118 ⟨"PennyRates", "cry", "(IIIII)I"⟩ ∈ sv_T := sv_in 1085 (by decide +kernel) rfl
theorem w1089 : Cond.methodLink "PennyRatesLaw" 122 ⟨"PennyRates", "want", "(IIIII)I"⟩ ∈ sv_T := sv_in 1089 (by decide +kernel) rfl
theorem w1093 : Cond.methodLink "PennyRates" 305 ⟨"PennyRates$Wants", "areFull", "()Z"⟩ ∈ sv_T := sv_in 1093 (by decide +kernel) rfl
theorem w1097 : Cond.methodLink "PennyRates" 306 ⟨"PennyRates$Wants", "add", "(IIIII)I"⟩ ∈ sv_T := sv_in 1097 (by decide +kernel) rfl
theorem w1101 : Cond.methodLink "PennyRatesLaw" 126 ⟨"PennyRates", "ships", "(II)I"⟩ ∈ sv_T := sv_in 1101 (by decide +kernel) rfl
theorem w1105 : Cond.methodLink "PennyRates" 307 ⟨"PennyRates$Wants", "has", "(I)Z"⟩ ∈ sv_T := sv_in 1105 (by decide +kernel) rfl
theorem w1109 : Cond.methodLink "PennyRates" 308 ⟨"PennyRates$Wants", "goes", "(II)Z"⟩ ∈ sv_T := sv_in 1109 (by decide +kernel) rfl
theorem w1113 : Cond.methodLink "PennyRates$Wants" 67 ⟨"PennyRates$Carriage", "price", "(III)V"⟩ ∈ sv_T := sv_in 1113 (by decide +kernel) rfl
theorem w1114 : Cond.methodLink "PennyRates$Wants" 71 ⟨"PennyRates$Wants", "isWorth", "(I)Z"⟩ ∈ sv_T := sv_in 1114 (by decide +kernel) rfl
theorem w1118 : Cond.methodLink "PennyRates$Wants" 57 ⟨"PennyRates$Carriage", "reach", "(I)V"⟩ ∈ sv_T := sv_in 1118 (by decide +kernel) rfl
theorem w1119 : Cond.methodLink "PennyRates$Wants" 63 ⟨"PennyRates$Carriage", "leastFrom", "(I)I"⟩ ∈ sv_T := sv_in 1119 (by decide +kernel) rfl
theorem w1120 : Cond.methodLink "PennyRatesLaw" 130 ⟨"PennyRates", "takings", "(II)I"⟩ ∈ sv_T := sv_in 1120 (by decide +kernel) rfl
theorem w1124 : Cond.methodLink "PennyRates" 311 ⟨"PennyRates$Wants", "sumTaken", "(II)I"⟩ ∈ sv_T := sv_in 1124 (by decide +kernel) rfl
theorem w1128 : Cond.methodLink "PennyRates$Wants" 75 ⟨"PennyRates$Wants", "goes", "(II)Z"⟩ ∈ sv_T := sv_in 1128 (by decide +kernel) rfl
theorem w1129 : Cond.methodLink "PennyRates$Wants" 79 ⟨"PennyRates$Carriage", "takenBy", "(II)I"⟩ ∈ sv_T := sv_in 1129 (by decide +kernel) rfl
theorem w1133 : Cond.methodLink "PennyRatesLaw" 134 ⟨"PennyRates", "tries", "(III)I"⟩ ∈ sv_T := sv_in 1133 (by decide +kernel) rfl
theorem w1137 : Cond.methodLink "PennyRatesLaw" 138 ⟨"PennyRates", "list", "(I)I"⟩ ∈ sv_T := sv_in 1137 (by decide +kernel) rfl
theorem w1141 : Cond.methodLink "PennyRates" 314 ⟨"PennyRates$Wants", "isListed", "(I)Z"⟩ ∈ sv_T := sv_in 1141 (by decide +kernel) rfl
theorem w1145 : Cond.methodLink "PennyRates" 317 ⟨"PennyRates$Wants", "listIsFull", "()Z"⟩ ∈ sv_T := sv_in 1145 (by decide +kernel) rfl
theorem w1149 : Cond.methodLink "PennyRates" 320 ⟨"PennyRates$Wants", "enlist", "(I)I"⟩ ∈ sv_T := sv_in 1149 (by decide +kernel) rfl
theorem w1153 : Cond.methodLink "PennyRatesLaw" 142 ⟨"PennyRates", "listless", "()I"⟩ ∈ sv_T := sv_in 1153 (by decide +kernel) rfl
theorem w1157 : Cond.methodLink "PennyRatesLaw" 146 ⟨"PennyRates", "change", "(I)I"⟩ ∈ sv_T := sv_in 1157 (by decide +kernel) rfl
theorem w1161 : Cond.methodLink "PennyRates" 326 ⟨"PennyRates$Wants", "fewestRaised", "(II)I"⟩ ∈ sv_T := sv_in 1161 (by decide +kernel) rfl
theorem w1165 : Cond.methodLink "PennyRates$Wants" 86 ⟨"java/util/Arrays", "fill", "([II)V"⟩ ∈ sv_T := sv_in 1165 (by decide +kernel) rfl
theorem w1166 : Cond.methodLink "PennyRates$Wants" 92 ⟨"PennyRates$Rates", "row", "(I)LPennyRates$Rate;"⟩ ∈ sv_T := sv_in 1166 (by decide +kernel) rfl
theorem w1167 : Cond.methodLink "PennyRates$Wants" 98 ⟨"PennyRates$Rates", "ceiling", "(LPennyRates$Rate;I)I"⟩ ∈ sv_T := sv_in 1167 (by decide +kernel) rfl
theorem w1168 : Cond.methodLink "PennyRates$Wants" 102 ⟨"java/lang/Math", "min", "(II)I"⟩ ∈ sv_T := sv_in 1168 (by decide +kernel) rfl
theorem w1169 : Cond.methodLink "PennyRates$Wants" 107 ⟨"PennyRates$Wants", "addTakenBySets", "(III)V"⟩ ∈ sv_T := sv_in 1169 (by decide +kernel) rfl
theorem w1173 : Cond.methodLink "PennyRates$Wants" 115 ⟨"PennyRates$Wants", "priceListed", "(II)I"⟩ ∈ sv_T := sv_in 1173 (by decide +kernel) rfl
theorem w1177 : Cond.methodLink "PennyRates$Wants" 124 ⟨"PennyRates$Rates", "fee", "(LPennyRates$Rate;IIII)I"⟩ ∈ sv_T := sv_in 1177 (by decide +kernel) rfl
theorem w1178 : Cond.methodLink "PennyRates$Wants" 118 ⟨"PennyRates$Wants", "takenIfRaised", "(II)I"⟩ ∈ sv_T := sv_in 1178 (by decide +kernel) rfl
theorem w1182 : Cond.methodLink "PennyRates$Wants" 110 ⟨"java/lang/Integer", "bitCount", "(I)I"⟩ ∈ sv_T := sv_in 1182 (by decide +kernel) rfl
theorem w1185 : Cond.constant "java/lang/Integer" 265 (1431655765) ∈ sv_T := sv_in 1185 (by decide +kernel) rfl
theorem w1186 : Cond.constant "java/lang/Integer" 266 (858993459) ∈ sv_T := sv_in 1186 (by decide +kernel) rfl
theorem w1187 : Cond.constant "java/lang/Integer" 267 (252645135) ∈ sv_T := sv_in 1187 (by decide +kernel) rfl
theorem w1188 : Cond.methodLink "PennyRatesLaw" 150 ⟨"PennyRates", "friends", "(IIIIIII)I"⟩ ∈ sv_T := sv_in 1188 (by decide +kernel) rfl
theorem w1192 : Cond.methodLink "PennyRates" 329 ⟨"PennyRates$Trucks", "markFriends", "(IIIIII)I"⟩ ∈ sv_T := sv_in 1192 (by decide +kernel) rfl
theorem w1196 : Cond.methodLink "PennyRates" 333 ⟨"PennyRates$Trucks", "leastPaid", "()I"⟩ ∈ sv_T := sv_in 1196 (by decide +kernel) rfl
theorem w1200 : Cond.methodLink "PennyRates$Trucks" 137 ⟨"PennyRates$Trucks", "greatestPaid", "()I"⟩ ∈ sv_T := sv_in 1200 (by decide +kernel) rfl
theorem w1204 : Cond.methodLink "PennyRates$Trucks" 141 ⟨"PennyRates$Trucks", "paidPerTon", "(I)I"⟩ ∈ sv_T := sv_in 1204 (by decide +kernel) rfl
theorem w1208 : Cond.methodLink "PennyRates$Trucks" 144 ⟨"java/lang/Math", "min", "(II)I"⟩ ∈ sv_T := sv_in 1208 (by decide +kernel) rfl
theorem w1209 : Cond.methodLink "PennyRates" 336 ⟨"PennyRates$Trucks", "greatestPaid", "()I"⟩ ∈ sv_T := sv_in 1209 (by decide +kernel) rfl
theorem w1210 : Cond.methodLink "PennyRates" 339 ⟨"PennyRates$Trucks", "rebate", "()I"⟩ ∈ sv_T := sv_in 1210 (by decide +kernel) rfl
theorem w1214 : Cond.methodLink "PennyRatesLaw" 154 ⟨"PennyRates", "act", "(III)I"⟩ ∈ sv_T := sv_in 1214 (by decide +kernel) rfl
theorem w1218 : Cond.methodLink "PennyRates" 342 ⟨"PennyRates$Acts", "forget", "()V"⟩ ∈ sv_T := sv_in 1218 (by decide +kernel) rfl
theorem w1222 : Cond.methodLink "PennyRates" 345 ⟨"PennyRates$Acts", "run", "(LPennyRates$Rate;II)I"⟩ ∈ sv_T := sv_in 1222 (by decide +kernel) rfl
theorem w1226 : Cond.methodLink "PennyRates$Acts" 22 ⟨"PennyRates$Rate", "kind", "()I"⟩ ∈ sv_T := sv_in 1226 (by decide +kernel) rfl
theorem w1227 : Cond.methodLink "PennyRates$Acts" 42 ⟨"PennyRates$Acts", "send", "(IIII)I"⟩ ∈ sv_T := sv_in 1227 (by decide +kernel) rfl
theorem w1231 : Cond.methodLink "PennyRates$Acts" 49 ⟨"PennyRates$Acts", "bodyFrom", "(II)I"⟩ ∈ sv_T := sv_in 1231 (by decide +kernel) rfl
theorem w1234 : Cond.fieldLink "PennyRates$Acts" 46 "PennyRates$Acts" "BODIES" "[I" ∈ sv_T := sv_in 1234 (by decide +kernel) rfl
theorem w1236 : Cond.fieldLink "PennyRates$Acts" 19 "PennyRates$Acts" "ABOVE" "[I" ∈ sv_T := sv_in 1236 (by decide +kernel) rfl
theorem w1238 : Cond.methodLink "PennyRates$Acts" 53 ⟨"PennyRates$Acts", "upperBody", "(III)I"⟩ ∈ sv_T := sv_in 1238 (by decide +kernel) rfl
theorem w1242 : Cond.methodLink "PennyRates$Acts" 57 ⟨"PennyRates$Acts", "lowerBody", "(III)I"⟩ ∈ sv_T := sv_in 1242 (by decide +kernel) rfl
theorem w1246 : Cond.methodLink "PennyRatesLaw" 158 ⟨"PennyRates", "trace", "(I)I"⟩ ∈ sv_T := sv_in 1246 (by decide +kernel) rfl
theorem w1250 : Cond.methodLink "PennyRates" 348 ⟨"PennyRates$Acts", "keeps", "(I)Z"⟩ ∈ sv_T := sv_in 1250 (by decide +kernel) rfl
theorem w1254 : Cond.methodLink "PennyRatesLaw" 162 ⟨"PennyRates", "taken", "(II)I"⟩ ∈ sv_T := sv_in 1254 (by decide +kernel) rfl
theorem w1258 : Cond.methodLink "PennyRates" 354 ⟨"PennyRates$Acts", "isUnder", "(II)Z"⟩ ∈ sv_T := sv_in 1258 (by decide +kernel) rfl
theorem w1261 : Cond.methodLink "PennyRatesLaw" 166 ⟨"PennyRates", "count", "(I)I"⟩ ∈ sv_T := sv_in 1261 (by decide +kernel) rfl
theorem w1265 : Cond.methodLink "PennyRatesLaw" 170 ⟨"PennyRates", "tape", "(III)I"⟩ ∈ sv_T := sv_in 1265 (by decide +kernel) rfl
theorem w1269 : Cond.methodLink "PennyRates" 367 ⟨"PennyRates$Tapes", "lay", "(III)V"⟩ ∈ sv_T := sv_in 1269 (by decide +kernel) rfl
theorem w1273 : Cond.methodLink "PennyRates$Tapes" 27 ⟨"java/util/Arrays", "fill", "([JJ)V"⟩ ∈ sv_T := sv_in 1273 (by decide +kernel) rfl
theorem w1276 : Cond.methodLink "PennyRatesLaw" 176 ⟨"PennyRates", "item", "(IIJ)I"⟩ ∈ sv_T := sv_in 1276 (by decide +kernel) rfl
theorem w1280 : Cond.methodLink "PennyRates" 370 ⟨"PennyRates$Tapes", "reaches", "(III)Z"⟩ ∈ sv_T := sv_in 1280 (by decide +kernel) rfl
theorem w1284 : Cond.methodLink "PennyRates" 378 ⟨"PennyRates$Tapes", "cut", "(IJ)J"⟩ ∈ sv_T := sv_in 1284 (by decide +kernel) rfl
theorem w1287 : Cond.methodLink "PennyRatesLaw" 181 ⟨"PennyRates", "read", "(II)J"⟩ ∈ sv_T := sv_in 1287 (by decide +kernel) rfl
theorem w1291 : Cond.methodLink "PennyRatesLaw" 186 ⟨"PennyRates", "shift", "(IIIII)I"⟩ ∈ sv_T := sv_in 1291 (by decide +kernel) rfl
theorem w1295 : Cond.methodLink "PennyRates" 382 ⟨"java/lang/System", "arraycopy", "(Ljava/lang/Object;ILjava/lang/Object;II)V"⟩ ∈ sv_T := sv_in 1295 (by decide +kernel) rfl
theorem w1296 : Cond.classLink "PennyRatesLaw" 10 "PennyRatesModel" ∈ sv_T := sv_in 1296 (by decide +kernel) rfl
theorem w1298 : Cond.methodLink "PennyRatesLaw" 12 ⟨"PennyRatesModel", "<init>", "()V"⟩ ∈ sv_T := sv_in 1298 (by decide +kernel) rfl
theorem w1301 : Cond.methodLink "PennyRatesModel" 1 ⟨"java/lang/Object", "<init>", "()V"⟩ ∈ sv_T := sv_in 1301 (by decide +kernel) rfl
theorem w1302 : Cond.fieldLink "PennyRatesModel" 7 "PennyRatesModel" "today" "I" ∈ sv_T := sv_in 1302 (by decide +kernel) rfl
theorem w1303 : Cond.fieldLink "PennyRatesModel" 13 "PennyRatesModel" "lines" "I" ∈ sv_T := sv_in 1303 (by decide +kernel) rfl
theorem w1304 : Cond.fieldLink "PennyRatesModel" 16 "PennyRatesModel" "lineOwner" "[I" ∈ sv_T := sv_in 1304 (by decide +kernel) rfl
theorem w1305 : Cond.fieldLink "PennyRatesModel" 20 "PennyRatesModel" "lineA" "[I" ∈ sv_T := sv_in 1305 (by decide +kernel) rfl
theorem w1306 : Cond.fieldLink "PennyRatesModel" 23 "PennyRatesModel" "lineB" "[I" ∈ sv_T := sv_in 1306 (by decide +kernel) rfl
theorem w1307 : Cond.fieldLink "PennyRatesModel" 26 "PennyRatesModel" "lineMiles" "[I" ∈ sv_T := sv_in 1307 (by decide +kernel) rfl
theorem w1308 : Cond.fieldLink "PennyRatesModel" 29 "PennyRatesModel" "far" "[I" ∈ sv_T := sv_in 1308 (by decide +kernel) rfl
theorem w1309 : Cond.fieldLink "PennyRatesModel" 32 "PennyRatesModel" "direct" "[I" ∈ sv_T := sv_in 1309 (by decide +kernel) rfl
theorem w1310 : Cond.fieldLink "PennyRatesModel" 35 "PennyRatesModel" "wayLine" "[I" ∈ sv_T := sv_in 1310 (by decide +kernel) rfl
theorem w1311 : Cond.fieldLink "PennyRatesModel" 38 "PennyRatesModel" "wayMany" "I" ∈ sv_T := sv_in 1311 (by decide +kernel) rfl
theorem w1312 : Cond.fieldLink "PennyRatesModel" 41 "PennyRatesModel" "laws" "I" ∈ sv_T := sv_in 1312 (by decide +kernel) rfl
theorem w1313 : Cond.fieldLink "PennyRatesModel" 44 "PennyRatesModel" "fed" "I" ∈ sv_T := sv_in 1313 (by decide +kernel) rfl
theorem w1314 : Cond.fieldLink "PennyRatesModel" 47 "PennyRatesModel" "lawOwner" "[I" ∈ sv_T := sv_in 1314 (by decide +kernel) rfl
theorem w1315 : Cond.fieldLink "PennyRatesModel" 50 "PennyRatesModel" "lawDay" "[I" ∈ sv_T := sv_in 1315 (by decide +kernel) rfl
theorem w1316 : Cond.fieldLink "PennyRatesModel" 53 "PennyRatesModel" "text" "[I" ∈ sv_T := sv_in 1316 (by decide +kernel) rfl
theorem w1317 : Cond.fieldLink "PennyRatesModel" 56 "PennyRatesModel" "size" "[I" ∈ sv_T := sv_in 1317 (by decide +kernel) rfl
theorem w1318 : Cond.fieldLink "PennyRatesModel" 59 "PennyRatesModel" "classOf" "[I" ∈ sv_T := sv_in 1318 (by decide +kernel) rfl
theorem w1319 : Cond.fieldLink "PennyRatesModel" 62 "PennyRatesModel" "most" "[I" ∈ sv_T := sv_in 1319 (by decide +kernel) rfl
theorem w1320 : Cond.fieldLink "PennyRatesModel" 65 "PennyRatesModel" "plain" "[I" ∈ sv_T := sv_in 1320 (by decide +kernel) rfl
theorem w1321 : Cond.fieldLink "PennyRatesModel" 68 "PennyRatesModel" "isByMiles" "Z" ∈ sv_T := sv_in 1321 (by decide +kernel) rfl
theorem w1322 : Cond.fieldLink "PennyRatesModel" 72 "PennyRatesModel" "isSame" "Z" ∈ sv_T := sv_in 1322 (by decide +kernel) rfl
theorem w1323 : Cond.fieldLink "PennyRatesModel" 75 "PennyRatesModel" "isExcused" "Z" ∈ sv_T := sv_in 1323 (by decide +kernel) rfl
theorem w1324 : Cond.fieldLink "PennyRatesModel" 78 "PennyRatesModel" "facts" "[I" ∈ sv_T := sv_in 1324 (by decide +kernel) rfl
theorem w1325 : Cond.fieldLink "PennyRatesModel" 81 "PennyRatesModel" "base" "I" ∈ sv_T := sv_in 1325 (by decide +kernel) rfl
theorem w1326 : Cond.fieldLink "PennyRatesModel" 84 "PennyRatesModel" "many" "I" ∈ sv_T := sv_in 1326 (by decide +kernel) rfl
theorem w1327 : Cond.fieldLink "PennyRatesModel" 87 "PennyRatesModel" "at" "I" ∈ sv_T := sv_in 1327 (by decide +kernel) rfl
theorem w1328 : Cond.fieldLink "PennyRatesModel" 90 "PennyRatesModel" "value" "I" ∈ sv_T := sv_in 1328 (by decide +kernel) rfl
theorem w1329 : Cond.fieldLink "PennyRatesModel" 93 "PennyRatesModel" "waits" "[I" ∈ sv_T := sv_in 1329 (by decide +kernel) rfl
theorem w1330 : Cond.fieldLink "PennyRatesModel" 96 "PennyRatesModel" "pile" "[Z" ∈ sv_T := sv_in 1330 (by decide +kernel) rfl
theorem w1331 : Cond.fieldLink "PennyRatesModel" 100 "PennyRatesModel" "waiting" "I" ∈ sv_T := sv_in 1331 (by decide +kernel) rfl
theorem w1332 : Cond.fieldLink "PennyRatesModel" 103 "PennyRatesModel" "piled" "I" ∈ sv_T := sv_in 1332 (by decide +kernel) rfl
theorem w1333 : Cond.fieldLink "PennyRatesModel" 106 "PennyRatesModel" "open" "I" ∈ sv_T := sv_in 1333 (by decide +kernel) rfl
theorem w1334 : Cond.fieldLink "PennyRatesModel" 109 "PennyRatesModel" "rates" "I" ∈ sv_T := sv_in 1334 (by decide +kernel) rfl
theorem w1335 : Cond.fieldLink "PennyRatesModel" 112 "PennyRatesModel" "kind" "[I" ∈ sv_T := sv_in 1335 (by decide +kernel) rfl
theorem w1336 : Cond.fieldLink "PennyRatesModel" 115 "PennyRatesModel" "owner" "[I" ∈ sv_T := sv_in 1336 (by decide +kernel) rfl
theorem w1337 : Cond.fieldLink "PennyRatesModel" 118 "PennyRatesModel" "from" "[I" ∈ sv_T := sv_in 1337 (by decide +kernel) rfl
theorem w1338 : Cond.fieldLink "PennyRatesModel" 121 "PennyRatesModel" "to" "[I" ∈ sv_T := sv_in 1338 (by decide +kernel) rfl
theorem w1339 : Cond.fieldLink "PennyRatesModel" 124 "PennyRatesModel" "pence" "[I" ∈ sv_T := sv_in 1339 (by decide +kernel) rfl
theorem w1340 : Cond.fieldLink "PennyRatesModel" 127 "PennyRatesModel" "cls" "[I" ∈ sv_T := sv_in 1340 (by decide +kernel) rfl
theorem w1341 : Cond.fieldLink "PennyRatesModel" 130 "PennyRatesModel" "since" "[I" ∈ sv_T := sv_in 1341 (by decide +kernel) rfl
theorem w1342 : Cond.fieldLink "PennyRatesModel" 133 "PennyRatesModel" "until" "[I" ∈ sv_T := sv_in 1342 (by decide +kernel) rfl
theorem w1343 : Cond.fieldLink "PennyRatesModel" 136 "PennyRatesModel" "leastTons" "[I" ∈ sv_T := sv_in 1343 (by decide +kernel) rfl
theorem w1344 : Cond.fieldLink "PennyRatesModel" 139 "PennyRatesModel" "inPlace" "[I" ∈ sv_T := sv_in 1344 (by decide +kernel) rfl
theorem w1345 : Cond.fieldLink "PennyRatesModel" 142 "PennyRatesModel" "ownSmall" "[I" ∈ sv_T := sv_in 1345 (by decide +kernel) rfl
theorem w1346 : Cond.fieldLink "PennyRatesModel" 145 "PennyRatesModel" "ownTerm" "[I" ∈ sv_T := sv_in 1346 (by decide +kernel) rfl
theorem w1347 : Cond.fieldLink "PennyRatesModel" 148 "PennyRatesModel" "ownClass" "[I" ∈ sv_T := sv_in 1347 (by decide +kernel) rfl
theorem w1348 : Cond.fieldLink "PennyRatesModel" 151 "PennyRatesModel" "tollPence" "[I" ∈ sv_T := sv_in 1348 (by decide +kernel) rfl
theorem w1349 : Cond.fieldLink "PennyRatesModel" 154 "PennyRatesModel" "share" "[I" ∈ sv_T := sv_in 1349 (by decide +kernel) rfl
theorem w1350 : Cond.fieldLink "PennyRatesModel" 157 "PennyRatesModel" "parts" "[I" ∈ sv_T := sv_in 1350 (by decide +kernel) rfl
theorem w1351 : Cond.fieldLink "PennyRatesModel" 160 "PennyRatesModel" "rest" "[I" ∈ sv_T := sv_in 1351 (by decide +kernel) rfl
theorem w1352 : Cond.fieldLink "PennyRatesModel" 163 "PennyRatesModel" "trucks" "I" ∈ sv_T := sv_in 1352 (by decide +kernel) rfl
theorem w1353 : Cond.fieldLink "PennyRatesModel" 166 "PennyRatesModel" "end0" "I" ∈ sv_T := sv_in 1353 (by decide +kernel) rfl
theorem w1354 : Cond.fieldLink "PennyRatesModel" 169 "PennyRatesModel" "truckRate" "[I" ∈ sv_T := sv_in 1354 (by decide +kernel) rfl
theorem w1355 : Cond.fieldLink "PennyRatesModel" 172 "PennyRatesModel" "truckGood" "[I" ∈ sv_T := sv_in 1355 (by decide +kernel) rfl
theorem w1356 : Cond.fieldLink "PennyRatesModel" 175 "PennyRatesModel" "truckTons" "[I" ∈ sv_T := sv_in 1356 (by decide +kernel) rfl
theorem w1357 : Cond.fieldLink "PennyRatesModel" 178 "PennyRatesModel" "paid" "[I" ∈ sv_T := sv_in 1357 (by decide +kernel) rfl
theorem w1358 : Cond.fieldLink "PennyRatesModel" 181 "PennyRatesModel" "truckDay" "[I" ∈ sv_T := sv_in 1358 (by decide +kernel) rfl
theorem w1359 : Cond.fieldLink "PennyRatesModel" 184 "PennyRatesModel" "fee" "[I" ∈ sv_T := sv_in 1359 (by decide +kernel) rfl
theorem w1360 : Cond.fieldLink "PennyRatesModel" 187 "PennyRatesModel" "least" "[I" ∈ sv_T := sv_in 1360 (by decide +kernel) rfl
theorem w1361 : Cond.fieldLink "PennyRatesModel" 190 "PennyRatesModel" "goal" "I" ∈ sv_T := sv_in 1361 (by decide +kernel) rfl
theorem w1362 : Cond.fieldLink "PennyRatesModel" 193 "PennyRatesModel" "cheapMany" "I" ∈ sv_T := sv_in 1362 (by decide +kernel) rfl
theorem w1363 : Cond.fieldLink "PennyRatesModel" 196 "PennyRatesModel" "cheapSum" "I" ∈ sv_T := sv_in 1363 (by decide +kernel) rfl
theorem w1364 : Cond.fieldLink "PennyRatesModel" 199 "PennyRatesModel" "cheapRate" "[I" ∈ sv_T := sv_in 1364 (by decide +kernel) rfl
theorem w1365 : Cond.fieldLink "PennyRatesModel" 202 "PennyRatesModel" "wants0" "I" ∈ sv_T := sv_in 1365 (by decide +kernel) rfl
theorem w1366 : Cond.fieldLink "PennyRatesModel" 205 "PennyRatesModel" "wantFrom" "[I" ∈ sv_T := sv_in 1366 (by decide +kernel) rfl
theorem w1367 : Cond.fieldLink "PennyRatesModel" 208 "PennyRatesModel" "wantTo" "[I" ∈ sv_T := sv_in 1367 (by decide +kernel) rfl
theorem w1368 : Cond.fieldLink "PennyRatesModel" 211 "PennyRatesModel" "wantGood" "[I" ∈ sv_T := sv_in 1368 (by decide +kernel) rfl
theorem w1369 : Cond.fieldLink "PennyRatesModel" 214 "PennyRatesModel" "wantTons" "[I" ∈ sv_T := sv_in 1369 (by decide +kernel) rfl
theorem w1370 : Cond.fieldLink "PennyRatesModel" 217 "PennyRatesModel" "wantPence" "[I" ∈ sv_T := sv_in 1370 (by decide +kernel) rfl
theorem w1371 : Cond.fieldLink "PennyRatesModel" 220 "PennyRatesModel" "listed" "I" ∈ sv_T := sv_in 1371 (by decide +kernel) rfl
theorem w1372 : Cond.fieldLink "PennyRatesModel" 223 "PennyRatesModel" "list" "[I" ∈ sv_T := sv_in 1372 (by decide +kernel) rfl
theorem w1373 : Cond.fieldLink "PennyRatesModel" 226 "PennyRatesModel" "listMost" "[I" ∈ sv_T := sv_in 1373 (by decide +kernel) rfl
theorem w1374 : Cond.fieldLink "PennyRatesModel" 229 "PennyRatesModel" "listWas" "[I" ∈ sv_T := sv_in 1374 (by decide +kernel) rfl
theorem w1375 : Cond.fieldLink "PennyRatesModel" 232 "PennyRatesModel" "ran" "I" ∈ sv_T := sv_in 1375 (by decide +kernel) rfl
theorem w1376 : Cond.fieldLink "PennyRatesModel" 235 "PennyRatesModel" "bodies" "[I" ∈ sv_T := sv_in 1376 (by decide +kernel) rfl
theorem w1377 : Cond.fieldLink "PennyRatesModel" 238 "PennyRatesModel" "sort" "[I" ∈ sv_T := sv_in 1377 (by decide +kernel) rfl
theorem w1378 : Cond.fieldLink "PennyRatesModel" 241 "PennyRatesModel" "length" "[I" ∈ sv_T := sv_in 1378 (by decide +kernel) rfl
theorem w1379 : Cond.fieldLink "PennyRatesModel" 244 "PennyRatesModel" "item" "[J" ∈ sv_T := sv_in 1379 (by decide +kernel) rfl
theorem w1380 : Cond.fieldLink "PennyRatesModel" 248 "PennyRatesModel" "aside" "[J" ∈ sv_T := sv_in 1380 (by decide +kernel) rfl
theorem w1541 : Cond.methodLink "PennyRatesLaw" 17 ⟨"PennyRatesModel", "pass", "(I)I"⟩ ∈ sv_T := sv_in 1541 (by decide +kernel) rfl
theorem w1545 : Cond.methodLink "PennyRatesModel" 251 ⟨"PennyRatesModel", "in", "(III)Z"⟩ ∈ sv_T := sv_in 1545 (by decide +kernel) rfl
theorem w1549 : Cond.methodLink "PennyRatesLaw" 22 ⟨"PennyRatesModel", "line", "(IIII)I"⟩ ∈ sv_T := sv_in 1549 (by decide +kernel) rfl
theorem w1553 : Cond.methodLink "PennyRatesModel" 255 ⟨"PennyRatesModel", "isOwner", "(I)Z"⟩ ∈ sv_T := sv_in 1553 (by decide +kernel) rfl
theorem w1557 : Cond.methodLink "PennyRatesModel" 259 ⟨"PennyRatesModel", "isStation", "(I)Z"⟩ ∈ sv_T := sv_in 1557 (by decide +kernel) rfl
theorem w1561 : Cond.methodLink "PennyRatesLaw" 27 ⟨"PennyRatesModel", "miles", "(III)I"⟩ ∈ sv_T := sv_in 1561 (by decide +kernel) rfl
theorem w1565 : Cond.methodLink "PennyRatesModel" 267 ⟨"PennyRatesModel", "milesBy", "(III)I"⟩ ∈ sv_T := sv_in 1565 (by decide +kernel) rfl
theorem w1569 : Cond.methodLink "PennyRatesModel" 263 ⟨"PennyRatesModel", "findFar", "(I)V"⟩ ∈ sv_T := sv_in 1569 (by decide +kernel) rfl
theorem w1573 : Cond.constant "PennyRatesModel" 262 (100000) ∈ sv_T := sv_in 1573 (by decide +kernel) rfl
theorem w1574 : Cond.methodLink "PennyRatesLaw" 31 ⟨"PennyRatesModel", "way", "(III)I"⟩ ∈ sv_T := sv_in 1574 (by decide +kernel) rfl
theorem w1578 : Cond.methodLink "PennyRatesModel" 275 ⟨"PennyRatesModel", "findWay", "(II)Z"⟩ ∈ sv_T := sv_in 1578 (by decide +kernel) rfl
theorem w1582 : Cond.methodLink "PennyRatesModel" 271 ⟨"PennyRatesModel", "lineFor", "(II)I"⟩ ∈ sv_T := sv_in 1582 (by decide +kernel) rfl
theorem w1586 : Cond.methodLink "PennyRatesLaw" 36 ⟨"PennyRatesModel", "feed", "(II)I"⟩ ∈ sv_T := sv_in 1586 (by decide +kernel) rfl
theorem w1590 : Cond.methodLink "PennyRatesLaw" 40 ⟨"PennyRatesModel", "law", "(II)I"⟩ ∈ sv_T := sv_in 1590 (by decide +kernel) rfl
theorem w1594 : Cond.methodLink "PennyRatesModel" 346 ⟨"PennyRatesModel", "isDay", "(I)Z"⟩ ∈ sv_T := sv_in 1594 (by decide +kernel) rfl
theorem w1598 : Cond.methodLink "PennyRatesModel" 349 ⟨"PennyRatesModel", "goes", "(I)Z"⟩ ∈ sv_T := sv_in 1598 (by decide +kernel) rfl
theorem w1602 : Cond.methodLink "PennyRatesModel" 343 ⟨"PennyRatesModel", "takesClause", "()Z"⟩ ∈ sv_T := sv_in 1602 (by decide +kernel) rfl
theorem w1606 : Cond.methodLink "PennyRatesModel" 279 ⟨"PennyRatesModel", "next", "()I"⟩ ∈ sv_T := sv_in 1606 (by decide +kernel) rfl
theorem w1610 : Cond.constantLong "PennyRatesModel" 305 (230702) ∈ sv_T := sv_in 1610 (by decide +kernel) rfl
theorem w1611 : Cond.methodLink "PennyRatesModel" 307 ⟨"PennyRatesModel", "takesWord", "(JI)Z"⟩ ∈ sv_T := sv_in 1611 (by decide +kernel) rfl
theorem w1615 : Cond.constantLong "PennyRatesModel" 283 (31) ∈ sv_T := sv_in 1615 (by decide +kernel) rfl
theorem w1616 : Cond.methodLink "PennyRatesModel" 285 ⟨"PennyRatesModel", "takes", "(I)Z"⟩ ∈ sv_T := sv_in 1616 (by decide +kernel) rfl
theorem w1620 : Cond.methodLink "PennyRatesModel" 311 ⟨"PennyRatesModel", "takesPlain", "(I)Z"⟩ ∈ sv_T := sv_in 1620 (by decide +kernel) rfl
theorem w1624 : Cond.methodLink "PennyRatesModel" 296 ⟨"PennyRatesModel", "takesNumber", "()Z"⟩ ∈ sv_T := sv_in 1624 (by decide +kernel) rfl
theorem w1628 : Cond.methodLink "PennyRatesModel" 288 ⟨"PennyRatesModel", "isDigit", "()Z"⟩ ∈ sv_T := sv_in 1628 (by decide +kernel) rfl
theorem w1632 : Cond.constantLong "PennyRatesModel" 314 (245220) ∈ sv_T := sv_in 1632 (by decide +kernel) rfl
theorem w1633 : Cond.methodLink "PennyRatesModel" 316 ⟨"PennyRatesModel", "takesGood", "()Z"⟩ ∈ sv_T := sv_in 1633 (by decide +kernel) rfl
theorem w1637 : Cond.constantLong "PennyRatesModel" 319 (441972) ∈ sv_T := sv_in 1637 (by decide +kernel) rfl
theorem w1638 : Cond.methodLink "PennyRatesModel" 321 ⟨"PennyRatesModel", "takesMost", "()Z"⟩ ∈ sv_T := sv_in 1638 (by decide +kernel) rfl
theorem w1642 : Cond.constantLong "PennyRatesModel" 324 (13938867) ∈ sv_T := sv_in 1642 (by decide +kernel) rfl
theorem w1643 : Cond.constantLong "PennyRatesModel" 326 (193058405) ∈ sv_T := sv_in 1643 (by decide +kernel) rfl
theorem w1644 : Cond.methodLink "PennyRatesModel" 328 ⟨"PennyRatesModel", "takesE", "()Z"⟩ ∈ sv_T := sv_in 1644 (by decide +kernel) rfl
theorem w1648 : Cond.methodLink "PennyRatesModel" 299 ⟨"PennyRatesModel", "takesTest", "()Z"⟩ ∈ sv_T := sv_in 1648 (by decide +kernel) rfl
theorem w1652 : Cond.methodLink "PennyRatesModel" 292 ⟨"PennyRatesModel", "push", "(Z)V"⟩ ∈ sv_T := sv_in 1652 (by decide +kernel) rfl
theorem w1656 : Cond.methodLink "PennyRatesModel" 302 ⟨"PennyRatesModel", "settle", "(I)V"⟩ ∈ sv_T := sv_in 1656 (by decide +kernel) rfl
theorem w1660 : Cond.constantLong "PennyRatesModel" 331 (186542) ∈ sv_T := sv_in 1660 (by decide +kernel) rfl
theorem w1661 : Cond.constantLong "PennyRatesModel" 333 (624037) ∈ sv_T := sv_in 1661 (by decide +kernel) rfl
theorem w1662 : Cond.constantLong "PennyRatesModel" 335 (20350348) ∈ sv_T := sv_in 1662 (by decide +kernel) rfl
theorem w1663 : Cond.constantLong "PennyRatesModel" 337 (661069) ∈ sv_T := sv_in 1663 (by decide +kernel) rfl
theorem w1664 : Cond.constantLong "PennyRatesModel" 339 (486155365) ∈ sv_T := sv_in 1664 (by decide +kernel) rfl
theorem w1665 : Cond.constantLong "PennyRatesModel" 341 (66667) ∈ sv_T := sv_in 1665 (by decide +kernel) rfl
theorem w1666 : Cond.methodLink "PennyRatesLaw" 44 ⟨"PennyRatesModel", "holds", "(III)I"⟩ ∈ sv_T := sv_in 1666 (by decide +kernel) rfl
theorem w1670 : Cond.methodLink "PennyRatesModel" 358 ⟨"PennyRatesModel", "look", "(II)V"⟩ ∈ sv_T := sv_in 1670 (by decide +kernel) rfl
theorem w1674 : Cond.methodLink "PennyRatesModel" 352 ⟨"PennyRatesModel", "clean", "()V"⟩ ∈ sv_T := sv_in 1674 (by decide +kernel) rfl
theorem w1678 : Cond.methodLink "PennyRatesModel" 355 ⟨"PennyRatesModel", "lawOn", "(II)I"⟩ ∈ sv_T := sv_in 1678 (by decide +kernel) rfl
theorem w1682 : Cond.methodLink "PennyRatesLaw" 49 ⟨"PennyRatesModel", "rate", "(IIIIIII)I"⟩ ∈ sv_T := sv_in 1682 (by decide +kernel) rfl
theorem w1686 : Cond.methodLink "PennyRatesModel" 362 ⟨"PennyRatesModel", "printed", "(II)I"⟩ ∈ sv_T := sv_in 1686 (by decide +kernel) rfl
theorem w1690 : Cond.methodLink "PennyRatesModel" 365 ⟨"PennyRatesModel", "add", "(IIIIIIIII)I"⟩ ∈ sv_T := sv_in 1690 (by decide +kernel) rfl
theorem w1694 : Cond.methodLink "PennyRatesLaw" 54 ⟨"PennyRatesModel", "special", "(IIIIII)I"⟩ ∈ sv_T := sv_in 1694 (by decide +kernel) rfl
theorem w1698 : Cond.methodLink "PennyRatesModel" 369 ⟨"PennyRatesModel", "isGood", "(I)Z"⟩ ∈ sv_T := sv_in 1698 (by decide +kernel) rfl
theorem w1702 : Cond.methodLink "PennyRatesLaw" 58 ⟨"PennyRatesModel", "withdraw", "(I)I"⟩ ∈ sv_T := sv_in 1702 (by decide +kernel) rfl
theorem w1706 : Cond.methodLink "PennyRatesModel" 372 ⟨"PennyRatesModel", "isRate", "(I)Z"⟩ ∈ sv_T := sv_in 1706 (by decide +kernel) rfl
theorem w1710 : Cond.methodLink "PennyRatesModel" 375 ⟨"PennyRatesModel", "nowKind", "(I)I"⟩ ∈ sv_T := sv_in 1710 (by decide +kernel) rfl
theorem w1714 : Cond.methodLink "PennyRatesLaw" 62 ⟨"PennyRatesModel", "set", "(II)I"⟩ ∈ sv_T := sv_in 1714 (by decide +kernel) rfl
theorem w1718 : Cond.methodLink "PennyRatesLaw" 66 ⟨"PennyRatesModel", "undo", "(I)I"⟩ ∈ sv_T := sv_in 1718 (by decide +kernel) rfl
theorem w1722 : Cond.methodLink "PennyRatesLaw" 70 ⟨"PennyRatesModel", "of", "(II)I"⟩ ∈ sv_T := sv_in 1722 (by decide +kernel) rfl
theorem w1726 : Cond.methodLink "PennyRatesLaw" 74 ⟨"PennyRatesModel", "charge", "(IIII)I"⟩ ∈ sv_T := sv_in 1726 (by decide +kernel) rfl
theorem w1730 : Cond.methodLink "PennyRatesModel" 379 ⟨"PennyRatesModel", "isTons", "(I)Z"⟩ ∈ sv_T := sv_in 1730 (by decide +kernel) rfl
theorem w1734 : Cond.methodLink "PennyRatesModel" 382 ⟨"PennyRatesModel", "prepare", "(I)V"⟩ ∈ sv_T := sv_in 1734 (by decide +kernel) rfl
theorem w1738 : Cond.methodLink "PennyRatesModel" 385 ⟨"PennyRatesModel", "chargeOf", "(IIII)I"⟩ ∈ sv_T := sv_in 1738 (by decide +kernel) rfl
theorem w1742 : Cond.methodLink "PennyRatesLaw" 78 ⟨"PennyRatesModel", "most", "(III)I"⟩ ∈ sv_T := sv_in 1742 (by decide +kernel) rfl
theorem w1746 : Cond.methodLink "PennyRatesModel" 389 ⟨"PennyRatesModel", "mostOf", "(II)I"⟩ ∈ sv_T := sv_in 1746 (by decide +kernel) rfl
theorem w1750 : Cond.methodLink "PennyRatesLaw" 82 ⟨"PennyRatesModel", "part", "(III)I"⟩ ∈ sv_T := sv_in 1750 (by decide +kernel) rfl
theorem w1754 : Cond.methodLink "PennyRatesLaw" 87 ⟨"PennyRatesModel", "truck", "(IIIII)I"⟩ ∈ sv_T := sv_in 1754 (by decide +kernel) rfl
theorem w1758 : Cond.constant "PennyRatesModel" 392 (99999) ∈ sv_T := sv_in 1758 (by decide +kernel) rfl
theorem w1759 : Cond.methodLink "PennyRatesLaw" 91 ⟨"PennyRatesModel", "book", "(III)I"⟩ ∈ sv_T := sv_in 1759 (by decide +kernel) rfl
theorem w1763 : Cond.methodLink "PennyRatesModel" 393 ⟨"PennyRatesModel", "isTape", "(I)Z"⟩ ∈ sv_T := sv_in 1763 (by decide +kernel) rfl
theorem w1767 : Cond.methodLink "PennyRatesModel" 396 ⟨"PennyRatesModel", "truck", "(IIIII)I"⟩ ∈ sv_T := sv_in 1767 (by decide +kernel) rfl
theorem w1768 : Cond.methodLink "PennyRatesLaw" 96 ⟨"PennyRatesModel", "ended", "()I"⟩ ∈ sv_T := sv_in 1768 (by decide +kernel) rfl
theorem w1772 : Cond.methodLink "PennyRatesLaw" 100 ⟨"PennyRatesModel", "due", "(I)I"⟩ ∈ sv_T := sv_in 1772 (by decide +kernel) rfl
theorem w1776 : Cond.methodLink "PennyRatesModel" 400 ⟨"PennyRatesModel", "isTruck", "(I)Z"⟩ ∈ sv_T := sv_in 1776 (by decide +kernel) rfl
theorem w1780 : Cond.methodLink "PennyRatesModel" 403 ⟨"PennyRatesModel", "dueOf", "(I)I"⟩ ∈ sv_T := sv_in 1780 (by decide +kernel) rfl
theorem w1784 : Cond.methodLink "PennyRatesLaw" 104 ⟨"PennyRatesModel", "unlike", "(III)I"⟩ ∈ sv_T := sv_in 1784 (by decide +kernel) rfl
theorem w1788 : Cond.methodLink "PennyRatesModel" 412 ⟨"PennyRatesModel", "areSame", "(II)Z"⟩ ∈ sv_T := sv_in 1788 (by decide +kernel) rfl
theorem w1792 : Cond.methodLink "PennyRatesModel" 409 ⟨"PennyRatesModel", "ask", "(II)V"⟩ ∈ sv_T := sv_in 1792 (by decide +kernel) rfl
theorem w1796 : Cond.methodLink "PennyRatesModel" 406 ⟨"PennyRatesModel", "isBoat", "(I)Z"⟩ ∈ sv_T := sv_in 1796 (by decide +kernel) rfl
theorem w1800 : Cond.methodLink "PennyRatesModel" 415 ⟨"PennyRatesModel", "areUnlike", "(II)Z"⟩ ∈ sv_T := sv_in 1800 (by decide +kernel) rfl
theorem w1804 : Cond.methodLink "PennyRatesLaw" 108 ⟨"PennyRatesModel", "unlikes", "(I)I"⟩ ∈ sv_T := sv_in 1804 (by decide +kernel) rfl
theorem w1808 : Cond.methodLink "PennyRatesLaw" 113 ⟨"PennyRatesModel", "suit", "(I)J"⟩ ∈ sv_T := sv_in 1808 (by decide +kernel) rfl
theorem w1812 : Cond.constantLong "PennyRatesModel" 418 (-9223372036854775808) ∈ sv_T := sv_in 1812 (by decide +kernel) rfl
theorem w1813 : Cond.constantLong "PennyRatesModel" 420 (1000) ∈ sv_T := sv_in 1813 (by decide +kernel) rfl
theorem w1814 : Cond.methodLink "PennyRatesLaw" 117 ⟨"PennyRatesModel", "cheap", "(IIIIII)I"⟩ ∈ sv_T := sv_in 1814 (by decide +kernel) rfl
theorem w1818 : Cond.methodLink "PennyRatesModel" 426 ⟨"PennyRatesModel", "findCheap", "(IIIII)Z"⟩ ∈ sv_T := sv_in 1818 (by decide +kernel) rfl
theorem w1822 : Cond.methodLink "PennyRatesModel" 422 ⟨"PennyRatesModel", "sumUp", "(II)Z"⟩ ∈ sv_T := sv_in 1822 (by decide +kernel) rfl
theorem w1826 : Cond.constant "PennyRatesModel" 425 (1000000000) ∈ sv_T := sv_in 1826 (by decide +kernel) rfl
theorem w1827 : Cond.methodLink "PennyRatesLaw" 121 ⟨"PennyRatesModel", "cry", "(IIIII)I"⟩ ∈ sv_T := sv_in 1827 (by decide +kernel) rfl
theorem w1831 : Cond.methodLink "PennyRatesLaw" 125 ⟨"PennyRatesModel", "want", "(IIIII)I"⟩ ∈ sv_T := sv_in 1831 (by decide +kernel) rfl
theorem w1835 : Cond.methodLink "PennyRatesLaw" 129 ⟨"PennyRatesModel", "ships", "(II)I"⟩ ∈ sv_T := sv_in 1835 (by decide +kernel) rfl
theorem w1839 : Cond.methodLink "PennyRatesModel" 430 ⟨"PennyRatesModel", "doesShip", "(II)Z"⟩ ∈ sv_T := sv_in 1839 (by decide +kernel) rfl
theorem w1843 : Cond.methodLink "PennyRatesLaw" 133 ⟨"PennyRatesModel", "takings", "(II)I"⟩ ∈ sv_T := sv_in 1843 (by decide +kernel) rfl
theorem w1847 : Cond.methodLink "PennyRatesModel" 433 ⟨"PennyRatesModel", "takingsOf", "(II)I"⟩ ∈ sv_T := sv_in 1847 (by decide +kernel) rfl
theorem w1851 : Cond.methodLink "PennyRatesLaw" 137 ⟨"PennyRatesModel", "tries", "(III)I"⟩ ∈ sv_T := sv_in 1851 (by decide +kernel) rfl
theorem w1855 : Cond.methodLink "PennyRatesLaw" 141 ⟨"PennyRatesModel", "list", "(I)I"⟩ ∈ sv_T := sv_in 1855 (by decide +kernel) rfl
theorem w1859 : Cond.methodLink "PennyRatesLaw" 145 ⟨"PennyRatesModel", "listless", "()I"⟩ ∈ sv_T := sv_in 1859 (by decide +kernel) rfl
theorem w1863 : Cond.methodLink "PennyRatesLaw" 149 ⟨"PennyRatesModel", "change", "(I)I"⟩ ∈ sv_T := sv_in 1863 (by decide +kernel) rfl
theorem w1867 : Cond.methodLink "PennyRatesModel" 436 ⟨"PennyRatesModel", "ones", "(I)I"⟩ ∈ sv_T := sv_in 1867 (by decide +kernel) rfl
theorem w1871 : Cond.methodLink "PennyRatesLaw" 153 ⟨"PennyRatesModel", "friends", "(IIIIIII)I"⟩ ∈ sv_T := sv_in 1871 (by decide +kernel) rfl
theorem w1875 : Cond.methodLink "PennyRatesModel" 439 ⟨"PennyRatesModel", "isFriend", "(IIIIIII)Z"⟩ ∈ sv_T := sv_in 1875 (by decide +kernel) rfl
theorem w1879 : Cond.methodLink "PennyRatesLaw" 157 ⟨"PennyRatesModel", "act", "(III)I"⟩ ∈ sv_T := sv_in 1879 (by decide +kernel) rfl
theorem w1883 : Cond.methodLink "PennyRatesModel" 449 ⟨"PennyRatesModel", "chargesOf", "(III)I"⟩ ∈ sv_T := sv_in 1883 (by decide +kernel) rfl
theorem w1887 : Cond.methodLink "PennyRatesModel" 443 ⟨"PennyRatesModel", "body", "(I)V"⟩ ∈ sv_T := sv_in 1887 (by decide +kernel) rfl
theorem w1891 : Cond.methodLink "PennyRatesModel" 446 ⟨"PennyRatesModel", "plainCharges", "(II)I"⟩ ∈ sv_T := sv_in 1891 (by decide +kernel) rfl
theorem w1895 : Cond.methodLink "PennyRatesModel" 458 ⟨"PennyRatesModel", "splitsOf", "(III)I"⟩ ∈ sv_T := sv_in 1895 (by decide +kernel) rfl
theorem w1899 : Cond.methodLink "PennyRatesModel" 455 ⟨"PennyRatesModel", "throughSplits", "(III)I"⟩ ∈ sv_T := sv_in 1899 (by decide +kernel) rfl
theorem w1903 : Cond.methodLink "PennyRatesModel" 452 ⟨"PennyRatesModel", "plainSplits", "(III)I"⟩ ∈ sv_T := sv_in 1903 (by decide +kernel) rfl
theorem w1907 : Cond.methodLink "PennyRatesModel" 464 ⟨"PennyRatesModel", "endsOf", "(III)I"⟩ ∈ sv_T := sv_in 1907 (by decide +kernel) rfl
theorem w1911 : Cond.methodLink "PennyRatesModel" 461 ⟨"PennyRatesModel", "plainEnds", "(III)I"⟩ ∈ sv_T := sv_in 1911 (by decide +kernel) rfl
theorem w1915 : Cond.methodLink "PennyRatesLaw" 161 ⟨"PennyRatesModel", "trace", "(I)I"⟩ ∈ sv_T := sv_in 1915 (by decide +kernel) rfl
theorem w1919 : Cond.methodLink "PennyRatesLaw" 165 ⟨"PennyRatesModel", "taken", "(II)I"⟩ ∈ sv_T := sv_in 1919 (by decide +kernel) rfl
theorem w1923 : Cond.methodLink "PennyRatesLaw" 169 ⟨"PennyRatesModel", "count", "(I)I"⟩ ∈ sv_T := sv_in 1923 (by decide +kernel) rfl
theorem w1927 : Cond.methodLink "PennyRatesLaw" 173 ⟨"PennyRatesModel", "tape", "(III)I"⟩ ∈ sv_T := sv_in 1927 (by decide +kernel) rfl
theorem w1931 : Cond.methodLink "PennyRatesLaw" 180 ⟨"PennyRatesModel", "item", "(IIJ)I"⟩ ∈ sv_T := sv_in 1931 (by decide +kernel) rfl
theorem w1935 : Cond.methodLink "PennyRatesLaw" 185 ⟨"PennyRatesModel", "read", "(II)J"⟩ ∈ sv_T := sv_in 1935 (by decide +kernel) rfl
theorem w1939 : Cond.methodLink "PennyRatesLaw" 189 ⟨"PennyRatesModel", "shift", "(IIIII)I"⟩ ∈ sv_T := sv_in 1939 (by decide +kernel) rfl
theorem w1943 : Cond.constantLong "PennyRatesLaw" 174 (4294967295) ∈ sv_T := sv_in 1943 (by decide +kernel) rfl
theorem w1944 : Cond.fieldLink "java/lang/String" 9 "java/lang/String" "value" "[B" ∈ sv_T := sv_in 1944 (by decide +kernel) rfl
theorem w1945 : Cond.fieldLink "java/lang/String" 15 "java/lang/String" "coder" "B" ∈ sv_T := sv_in 1945 (by decide +kernel) rfl
theorem kd1 : ss_K 1 = 20 := by decide +kernel
theorem kd2 : ss_K 2 = 20 := by decide +kernel
theorem kd64 : ss_K 64 = 11 := by decide +kernel
theorem kd65 : ss_K 65 = 7 := by decide +kernel
theorem kd66 : ss_K 66 = 20 := by decide +kernel
theorem kd67 : ss_K 67 = 20 := by decide +kernel
theorem kd68 : ss_K 68 = 20 := by decide +kernel
theorem kd69 : ss_K 69 = 26 := by decide +kernel
theorem kd70 : ss_K 70 = 20 := by decide +kernel
theorem kd71 : ss_K 71 = 20 := by decide +kernel
theorem kd72 : ss_K 72 = 20 := by decide +kernel
theorem kd73 : ss_K 73 = 20 := by decide +kernel
theorem kd74 : ss_K 74 = 20 := by decide +kernel
theorem kd75 : ss_K 75 = 20 := by decide +kernel
theorem kd76 : ss_K 76 = 20 := by decide +kernel
theorem kd77 : ss_K 77 = 3 := by decide +kernel
theorem kd78 : ss_K 78 = 22 := by decide +kernel
theorem kd79 : ss_K 79 = 20 := by decide +kernel
theorem kd80 : ss_K 80 = 20 := by decide +kernel
theorem kd81 : ss_K 81 = 4 := by decide +kernel
theorem kd82 : ss_K 82 = 25 := by decide +kernel
theorem kd83 : ss_K 83 = 25 := by decide +kernel
theorem kd84 : ss_K 84 = 20 := by decide +kernel
theorem kd85 : ss_K 85 = 2 := by decide +kernel
theorem kd86 : ss_K 86 = 20 := by decide +kernel
theorem kd87 : ss_K 87 = 20 := by decide +kernel
theorem kd88 : ss_K 88 = 6 := by decide +kernel
theorem kd89 : ss_K 89 = 24 := by decide +kernel
theorem kd90 : ss_K 90 = 20 := by decide +kernel
theorem kd151 : ss_K 151 = 9 := by decide +kernel
theorem kd152 : ss_K 152 = 20 := by decide +kernel
theorem kd153 : ss_K 153 = 20 := by decide +kernel
theorem kd154 : ss_K 154 = 20 := by decide +kernel
theorem kd155 : ss_K 155 = 20 := by decide +kernel
theorem kd156 : ss_K 156 = 20 := by decide +kernel
theorem kd157 : ss_K 157 = 20 := by decide +kernel
theorem kd158 : ss_K 158 = 20 := by decide +kernel
theorem kd159 : ss_K 159 = 1 := by decide +kernel
theorem kd160 : ss_K 160 = 20 := by decide +kernel
theorem kd161 : ss_K 161 = 20 := by decide +kernel
theorem kd162 : ss_K 162 = 20 := by decide +kernel
theorem kd163 : ss_K 163 = 10 := by decide +kernel
theorem kd164 : ss_K 164 = 20 := by decide +kernel
theorem kd165 : ss_K 165 = 20 := by decide +kernel
theorem kd166 : ss_K 166 = 20 := by decide +kernel
theorem kd167 : ss_K 167 = 20 := by decide +kernel
theorem kd168 : ss_K 168 = 20 := by decide +kernel
theorem kd169 : ss_K 169 = 20 := by decide +kernel
theorem kd170 : ss_K 170 = 20 := by decide +kernel
theorem kd171 : ss_K 171 = 20 := by decide +kernel
theorem kd172 : ss_K 172 = 20 := by decide +kernel
theorem kd173 : ss_K 173 = 20 := by decide +kernel
theorem kd174 : ss_K 174 = 20 := by decide +kernel
theorem kd175 : ss_K 175 = 0 := by decide +kernel
theorem kd176 : ss_K 176 = 20 := by decide +kernel
theorem kd177 : ss_K 177 = 8 := by decide +kernel
theorem kd178 : ss_K 178 = 20 := by decide +kernel
theorem kd179 : ss_K 179 = 20 := by decide +kernel
theorem kd180 : ss_K 180 = 27 := by decide +kernel
theorem kd181 : ss_K 181 = 21 := by decide +kernel
theorem kd182 : ss_K 182 = 21 := by decide +kernel
theorem kd183 : ss_K 183 = 21 := by decide +kernel
theorem kd184 : ss_K 184 = 21 := by decide +kernel
theorem kd185 : ss_K 185 = 21 := by decide +kernel
theorem kd186 : ss_K 186 = 21 := by decide +kernel
theorem kd187 : ss_K 187 = 12 := by decide +kernel
theorem kd188 : ss_K 188 = 20 := by decide +kernel
theorem kd189 : ss_K 189 = 20 := by decide +kernel
theorem kd190 : ss_K 190 = 20 := by decide +kernel
theorem kd191 : ss_K 191 = 20 := by decide +kernel
theorem kd192 : ss_K 192 = 20 := by decide +kernel
theorem kd193 : ss_K 193 = 20 := by decide +kernel
theorem kd194 : ss_K 194 = 20 := by decide +kernel
theorem kd195 : ss_K 195 = 20 := by decide +kernel
theorem kd196 : ss_K 196 = 20 := by decide +kernel
theorem kd197 : ss_K 197 = 20 := by decide +kernel
theorem kd198 : ss_K 198 = 20 := by decide +kernel
theorem kd199 : ss_K 199 = 20 := by decide +kernel
theorem kd200 : ss_K 200 = 20 := by decide +kernel
theorem kd201 : ss_K 201 = 20 := by decide +kernel
theorem kd202 : ss_K 202 = 20 := by decide +kernel
theorem kd203 : ss_K 203 = 20 := by decide +kernel
theorem kd204 : ss_K 204 = 23 := by decide +kernel
theorem kd205 : ss_K 205 = 20 := by decide +kernel
theorem kd206 : ss_K 206 = 20 := by decide +kernel
theorem kd207 : ss_K 207 = 20 := by decide +kernel
theorem kd208 : ss_K 208 = 20 := by decide +kernel
theorem kd209 : ss_K 209 = 20 := by decide +kernel
theorem kd210 : ss_K 210 = 20 := by decide +kernel
theorem kd211 : ss_K 211 = 20 := by decide +kernel
theorem kd212 : ss_K 212 = 20 := by decide +kernel
theorem kd213 : ss_K 213 = 20 := by decide +kernel
theorem kd214 : ss_K 214 = 20 := by decide +kernel
theorem kd215 : ss_K 215 = 20 := by decide +kernel
theorem kd216 : ss_K 216 = 20 := by decide +kernel
theorem kd217 : ss_K 217 = 20 := by decide +kernel
theorem kd218 : ss_K 218 = 20 := by decide +kernel
theorem kd219 : ss_K 219 = 20 := by decide +kernel
theorem kd220 : ss_K 220 = 20 := by decide +kernel
theorem kd221 : ss_K 221 = 20 := by decide +kernel
theorem kd222 : ss_K 222 = 20 := by decide +kernel
theorem kd223 : ss_K 223 = 20 := by decide +kernel
theorem kd224 : ss_K 224 = 20 := by decide +kernel
theorem kd225 : ss_K 225 = 20 := by decide +kernel
theorem kd226 : ss_K 226 = 20 := by decide +kernel
theorem kd227 : ss_K 227 = 20 := by decide +kernel
theorem kd228 : ss_K 228 = 20 := by decide +kernel
theorem kd229 : ss_K 229 = 20 := by decide +kernel
theorem kd230 : ss_K 230 = 20 := by decide +kernel
theorem kd231 : ss_K 231 = 20 := by decide +kernel
theorem kd232 : ss_K 232 = 20 := by decide +kernel
theorem kd233 : ss_K 233 = 20 := by decide +kernel
theorem kd234 : ss_K 234 = 20 := by decide +kernel
theorem kd235 : ss_K 235 = 20 := by decide +kernel
theorem kd236 : ss_K 236 = 20 := by decide +kernel
theorem kd237 : ss_K 237 = 20 := by decide +kernel
theorem kd238 : ss_K 238 = 20 := by decide +kernel
theorem kd239 : ss_K 239 = 20 := by decide +kernel
theorem kd240 : ss_K 240 = 20 := by decide +kernel
theorem kd241 : ss_K 241 = 21 := by decide +kernel
theorem kd242 : ss_K 242 = 21 := by decide +kernel
theorem lr_64_0 (E : sv_E) (s : sv_S) : sv_fv E (ss_e s) 64 (tyX11 0) 0 = sv_r E 65 := rfl
theorem lr_64_1 (E : sv_E) (s : sv_S) : sv_fv E (ss_e s) 64 (tyX11 1) 1 = sv_r E 77 := rfl
theorem lr_64_2 (E : sv_E) (s : sv_S) : sv_fv E (ss_e s) 64 (tyX11 2) 2 = sv_r E 81 := rfl
theorem lr_64_3 (E : sv_E) (s : sv_S) : sv_fv E (ss_e s) 64 (tyX11 3) 3 = sv_r E 88 := rfl
theorem lr_64_4 (E : sv_E) (s : sv_S) : sv_fv E (ss_e s) 64 (tyX11 4) 4 = sv_r E 151 := rfl
theorem lr_64_5 (E : sv_E) (s : sv_S) : sv_fv E (ss_e s) 64 (tyX11 5) 5 = sv_r E 159 := rfl
theorem lr_64_6 (E : sv_E) (s : sv_S) : sv_fv E (ss_e s) 64 (tyX11 6) 6 = sv_r E 163 := rfl
theorem lr_64_7 (E : sv_E) (s : sv_S) : sv_fv E (ss_e s) 64 (tyX11 7) 7 = sv_r E 175 := rfl
theorem lr_64_8 (E : sv_E) (s : sv_S) : sv_fv E (ss_e s) 64 (tyX11 8) 8 = sv_r E 177 := rfl
theorem lr_65_0 (E : sv_E) (s : sv_S) : sv_fv E (ss_e s) 65 (tyX7 0) 0 = sv_r E 66 := rfl
theorem lr_65_1 (E : sv_E) (s : sv_S) : sv_fv E (ss_e s) 65 (tyX7 1) 1 = sv_r E 67 := rfl
theorem lr_65_2 (E : sv_E) (s : sv_S) : sv_fv E (ss_e s) 65 (tyX7 2) 2 = sv_r E 68 := rfl
theorem lr_65_3 (E : sv_E) (s : sv_S) : sv_fv E (ss_e s) 65 (tyX7 3) 3 = sv_r E 69 := rfl
theorem lr_77_0 (E : sv_E) (s : sv_S) : sv_fv E (ss_e s) 77 (tyX3 0) 0 = sv_r E 78 := rfl
theorem lr_77_1 (E : sv_E) (s : sv_S) : sv_fv E (ss_e s) 77 (tyX3 1) 1 = sv_r E 79 := rfl
theorem lr_77_2 (E : sv_E) (s : sv_S) : sv_fv E (ss_e s) 77 (tyX3 2) 2 = sv_r E 80 := rfl
theorem lr_81_0 (E : sv_E) (s : sv_S) : sv_fv E (ss_e s) 81 (tyX4 0) 0 = sv_r E 82 := rfl
theorem lr_81_1 (E : sv_E) (s : sv_S) : sv_fv E (ss_e s) 81 (tyX4 1) 1 = sv_r E 83 := rfl
theorem lr_81_2 (E : sv_E) (s : sv_S) : sv_fv E (ss_e s) 81 (tyX4 2) 2 = sv_r E 85 := rfl
theorem lr_85_3 (E : sv_E) (s : sv_S) : sv_fv E (ss_e s) 85 (tyX2 3) 3 = sv_r E 84 := rfl
theorem lr_85_4 (E : sv_E) (s : sv_S) : sv_fv E (ss_e s) 85 (tyX2 4) 4 = sv_r E 86 := rfl
theorem lr_85_5 (E : sv_E) (s : sv_S) : sv_fv E (ss_e s) 85 (tyX2 5) 5 = sv_r E 87 := rfl
theorem lr_88_0 (E : sv_E) (s : sv_S) : sv_fv E (ss_e s) 88 (tyX6 0) 0 = sv_r E 65 := rfl
theorem lr_88_1 (E : sv_E) (s : sv_S) : sv_fv E (ss_e s) 88 (tyX6 1) 1 = sv_r E 81 := rfl
theorem lr_88_2 (E : sv_E) (s : sv_S) : sv_fv E (ss_e s) 88 (tyX6 2) 2 = sv_r E 89 := rfl
theorem lr_88_3 (E : sv_E) (s : sv_S) : sv_fv E (ss_e s) 88 (tyX6 3) 3 = sv_r E 90 := rfl
theorem lr_151_0 (E : sv_E) (s : sv_S) : sv_fv E (ss_e s) 151 (tyX9 0) 0 = sv_r E 88 := rfl
theorem lr_151_1 (E : sv_E) (s : sv_S) : sv_fv E (ss_e s) 151 (tyX9 1) 1 = sv_r E 81 := rfl
theorem lr_151_2 (E : sv_E) (s : sv_S) : sv_fv E (ss_e s) 151 (tyX9 2) 2 = sv_r E 152 := rfl
theorem lr_151_3 (E : sv_E) (s : sv_S) : sv_fv E (ss_e s) 151 (tyX9 3) 3 = sv_r E 153 := rfl
theorem lr_151_4 (E : sv_E) (s : sv_S) : sv_fv E (ss_e s) 151 (tyX9 4) 4 = sv_r E 154 := rfl
theorem lr_151_5 (E : sv_E) (s : sv_S) : sv_fv E (ss_e s) 151 (tyX9 5) 5 = sv_r E 155 := rfl
theorem lr_151_6 (E : sv_E) (s : sv_S) : sv_fv E (ss_e s) 151 (tyX9 6) 6 = sv_r E 156 := rfl
theorem lr_151_7 (E : sv_E) (s : sv_S) : sv_fv E (ss_e s) 151 (tyX9 7) 7 = sv_r E 157 := rfl
theorem lr_151_8 (E : sv_E) (s : sv_S) : sv_fv E (ss_e s) 151 (tyX9 8) 8 = sv_r E 158 := rfl
theorem lr_159_0 (E : sv_E) (s : sv_S) : sv_fv E (ss_e s) 159 (tyX1 0) 0 = sv_r E 88 := rfl
theorem lr_159_1 (E : sv_E) (s : sv_S) : sv_fv E (ss_e s) 159 (tyX1 1) 1 = sv_r E 160 := rfl
theorem lr_159_2 (E : sv_E) (s : sv_S) : sv_fv E (ss_e s) 159 (tyX1 2) 2 = sv_r E 161 := rfl
theorem lr_159_3 (E : sv_E) (s : sv_S) : sv_fv E (ss_e s) 159 (tyX1 3) 3 = sv_r E 162 := rfl
theorem lr_163_0 (E : sv_E) (s : sv_S) : sv_fv E (ss_e s) 163 (tyX10 0) 0 = sv_r E 88 := rfl
theorem lr_163_1 (E : sv_E) (s : sv_S) : sv_fv E (ss_e s) 163 (tyX10 1) 1 = sv_r E 159 := rfl
theorem lr_163_2 (E : sv_E) (s : sv_S) : sv_fv E (ss_e s) 163 (tyX10 2) 2 = sv_r E 164 := rfl
theorem lr_163_3 (E : sv_E) (s : sv_S) : sv_fv E (ss_e s) 163 (tyX10 3) 3 = sv_r E 165 := rfl
theorem lr_163_4 (E : sv_E) (s : sv_S) : sv_fv E (ss_e s) 163 (tyX10 4) 4 = sv_r E 166 := rfl
theorem lr_163_5 (E : sv_E) (s : sv_S) : sv_fv E (ss_e s) 163 (tyX10 5) 5 = sv_r E 167 := rfl
theorem lr_163_6 (E : sv_E) (s : sv_S) : sv_fv E (ss_e s) 163 (tyX10 6) 6 = sv_r E 168 := rfl
theorem lr_163_7 (E : sv_E) (s : sv_S) : sv_fv E (ss_e s) 163 (tyX10 7) 7 = sv_r E 169 := rfl
theorem lr_163_8 (E : sv_E) (s : sv_S) : sv_fv E (ss_e s) 163 (tyX10 8) 8 = sv_r E 170 := rfl
theorem lr_163_9 (E : sv_E) (s : sv_S) : sv_fv E (ss_e s) 163 (tyX10 9) 9 = sv_r E 171 := rfl
theorem lr_163_10 (E : sv_E) (s : sv_S) : sv_fv E (ss_e s) 163 (tyX10 10) 10 = sv_r E 172 := rfl
theorem lr_163_11 (E : sv_E) (s : sv_S) : sv_fv E (ss_e s) 163 (tyX10 11) 11 = sv_r E 173 := rfl
theorem lr_163_12 (E : sv_E) (s : sv_S) : sv_fv E (ss_e s) 163 (tyX10 12) 12 = sv_r E 174 := rfl
theorem lr_175_0 (E : sv_E) (s : sv_S) : sv_fv E (ss_e s) 175 (tyX0 0) 0 = sv_r E 176 := rfl
theorem lr_177_0 (E : sv_E) (s : sv_S) : sv_fv E (ss_e s) 177 (tyX8 0) 0 = sv_r E 178 := rfl
theorem lr_177_1 (E : sv_E) (s : sv_S) : sv_fv E (ss_e s) 177 (tyX8 1) 1 = sv_r E 179 := rfl
theorem lr_177_2 (E : sv_E) (s : sv_S) : sv_fv E (ss_e s) 177 (tyX8 2) 2 = sv_r E 180 := rfl
theorem lr_187_2 (E : sv_E) (s : sv_S) : sv_fv E (ss_e s) 187 (tyX12 2) 2 = sv_r E 188 := rfl
theorem lr_187_3 (E : sv_E) (s : sv_S) : sv_fv E (ss_e s) 187 (tyX12 3) 3 = sv_r E 189 := rfl
theorem lr_187_4 (E : sv_E) (s : sv_S) : sv_fv E (ss_e s) 187 (tyX12 4) 4 = sv_r E 190 := rfl
theorem lr_187_5 (E : sv_E) (s : sv_S) : sv_fv E (ss_e s) 187 (tyX12 5) 5 = sv_r E 191 := rfl
theorem lr_187_6 (E : sv_E) (s : sv_S) : sv_fv E (ss_e s) 187 (tyX12 6) 6 = sv_r E 192 := rfl
theorem lr_187_7 (E : sv_E) (s : sv_S) : sv_fv E (ss_e s) 187 (tyX12 7) 7 = sv_r E 193 := rfl
theorem lr_187_8 (E : sv_E) (s : sv_S) : sv_fv E (ss_e s) 187 (tyX12 8) 8 = sv_r E 194 := rfl
theorem lr_187_12 (E : sv_E) (s : sv_S) : sv_fv E (ss_e s) 187 (tyX12 12) 12 = sv_r E 195 := rfl
theorem lr_187_13 (E : sv_E) (s : sv_S) : sv_fv E (ss_e s) 187 (tyX12 13) 13 = sv_r E 196 := rfl
theorem lr_187_14 (E : sv_E) (s : sv_S) : sv_fv E (ss_e s) 187 (tyX12 14) 14 = sv_r E 197 := rfl
theorem lr_187_15 (E : sv_E) (s : sv_S) : sv_fv E (ss_e s) 187 (tyX12 15) 15 = sv_r E 198 := rfl
theorem lr_187_16 (E : sv_E) (s : sv_S) : sv_fv E (ss_e s) 187 (tyX12 16) 16 = sv_r E 199 := rfl
theorem lr_187_17 (E : sv_E) (s : sv_S) : sv_fv E (ss_e s) 187 (tyX12 17) 17 = sv_r E 200 := rfl
theorem lr_187_18 (E : sv_E) (s : sv_S) : sv_fv E (ss_e s) 187 (tyX12 18) 18 = sv_r E 201 := rfl
theorem lr_187_22 (E : sv_E) (s : sv_S) : sv_fv E (ss_e s) 187 (tyX12 22) 22 = sv_r E 202 := rfl
theorem lr_187_27 (E : sv_E) (s : sv_S) : sv_fv E (ss_e s) 187 (tyX12 27) 27 = sv_r E 203 := rfl
theorem lr_187_28 (E : sv_E) (s : sv_S) : sv_fv E (ss_e s) 187 (tyX12 28) 28 = sv_r E 204 := rfl
theorem lr_187_33 (E : sv_E) (s : sv_S) : sv_fv E (ss_e s) 187 (tyX12 33) 33 = sv_r E 205 := rfl
theorem lr_187_34 (E : sv_E) (s : sv_S) : sv_fv E (ss_e s) 187 (tyX12 34) 34 = sv_r E 206 := rfl
theorem lr_187_35 (E : sv_E) (s : sv_S) : sv_fv E (ss_e s) 187 (tyX12 35) 35 = sv_r E 207 := rfl
theorem lr_187_36 (E : sv_E) (s : sv_S) : sv_fv E (ss_e s) 187 (tyX12 36) 36 = sv_r E 208 := rfl
theorem lr_187_37 (E : sv_E) (s : sv_S) : sv_fv E (ss_e s) 187 (tyX12 37) 37 = sv_r E 209 := rfl
theorem lr_187_38 (E : sv_E) (s : sv_S) : sv_fv E (ss_e s) 187 (tyX12 38) 38 = sv_r E 210 := rfl
theorem lr_187_39 (E : sv_E) (s : sv_S) : sv_fv E (ss_e s) 187 (tyX12 39) 39 = sv_r E 211 := rfl
theorem lr_187_40 (E : sv_E) (s : sv_S) : sv_fv E (ss_e s) 187 (tyX12 40) 40 = sv_r E 212 := rfl
theorem lr_187_41 (E : sv_E) (s : sv_S) : sv_fv E (ss_e s) 187 (tyX12 41) 41 = sv_r E 213 := rfl
theorem lr_187_42 (E : sv_E) (s : sv_S) : sv_fv E (ss_e s) 187 (tyX12 42) 42 = sv_r E 214 := rfl
theorem lr_187_43 (E : sv_E) (s : sv_S) : sv_fv E (ss_e s) 187 (tyX12 43) 43 = sv_r E 215 := rfl
theorem lr_187_44 (E : sv_E) (s : sv_S) : sv_fv E (ss_e s) 187 (tyX12 44) 44 = sv_r E 216 := rfl
theorem lr_187_45 (E : sv_E) (s : sv_S) : sv_fv E (ss_e s) 187 (tyX12 45) 45 = sv_r E 217 := rfl
theorem lr_187_46 (E : sv_E) (s : sv_S) : sv_fv E (ss_e s) 187 (tyX12 46) 46 = sv_r E 218 := rfl
theorem lr_187_47 (E : sv_E) (s : sv_S) : sv_fv E (ss_e s) 187 (tyX12 47) 47 = sv_r E 219 := rfl
theorem lr_187_48 (E : sv_E) (s : sv_S) : sv_fv E (ss_e s) 187 (tyX12 48) 48 = sv_r E 220 := rfl
theorem lr_187_49 (E : sv_E) (s : sv_S) : sv_fv E (ss_e s) 187 (tyX12 49) 49 = sv_r E 221 := rfl
theorem lr_187_52 (E : sv_E) (s : sv_S) : sv_fv E (ss_e s) 187 (tyX12 52) 52 = sv_r E 222 := rfl
theorem lr_187_53 (E : sv_E) (s : sv_S) : sv_fv E (ss_e s) 187 (tyX12 53) 53 = sv_r E 223 := rfl
theorem lr_187_54 (E : sv_E) (s : sv_S) : sv_fv E (ss_e s) 187 (tyX12 54) 54 = sv_r E 224 := rfl
theorem lr_187_55 (E : sv_E) (s : sv_S) : sv_fv E (ss_e s) 187 (tyX12 55) 55 = sv_r E 225 := rfl
theorem lr_187_56 (E : sv_E) (s : sv_S) : sv_fv E (ss_e s) 187 (tyX12 56) 56 = sv_r E 226 := rfl
theorem lr_187_57 (E : sv_E) (s : sv_S) : sv_fv E (ss_e s) 187 (tyX12 57) 57 = sv_r E 227 := rfl
theorem lr_187_58 (E : sv_E) (s : sv_S) : sv_fv E (ss_e s) 187 (tyX12 58) 58 = sv_r E 228 := rfl
theorem lr_187_62 (E : sv_E) (s : sv_S) : sv_fv E (ss_e s) 187 (tyX12 62) 62 = sv_r E 229 := rfl
theorem lr_187_64 (E : sv_E) (s : sv_S) : sv_fv E (ss_e s) 187 (tyX12 64) 64 = sv_r E 230 := rfl
theorem lr_187_65 (E : sv_E) (s : sv_S) : sv_fv E (ss_e s) 187 (tyX12 65) 65 = sv_r E 231 := rfl
theorem lr_187_66 (E : sv_E) (s : sv_S) : sv_fv E (ss_e s) 187 (tyX12 66) 66 = sv_r E 232 := rfl
theorem lr_187_67 (E : sv_E) (s : sv_S) : sv_fv E (ss_e s) 187 (tyX12 67) 67 = sv_r E 233 := rfl
theorem lr_187_68 (E : sv_E) (s : sv_S) : sv_fv E (ss_e s) 187 (tyX12 68) 68 = sv_r E 234 := rfl
theorem lr_187_70 (E : sv_E) (s : sv_S) : sv_fv E (ss_e s) 187 (tyX12 70) 70 = sv_r E 235 := rfl
theorem lr_187_71 (E : sv_E) (s : sv_S) : sv_fv E (ss_e s) 187 (tyX12 71) 71 = sv_r E 236 := rfl
theorem lr_187_72 (E : sv_E) (s : sv_S) : sv_fv E (ss_e s) 187 (tyX12 72) 72 = sv_r E 237 := rfl
theorem lr_187_74 (E : sv_E) (s : sv_S) : sv_fv E (ss_e s) 187 (tyX12 74) 74 = sv_r E 238 := rfl
theorem lr_187_75 (E : sv_E) (s : sv_S) : sv_fv E (ss_e s) 187 (tyX12 75) 75 = sv_r E 239 := rfl
theorem lr_187_76 (E : sv_E) (s : sv_S) : sv_fv E (ss_e s) 187 (tyX12 76) 76 = sv_r E 240 := rfl
theorem lr_187_77 (E : sv_E) (s : sv_S) : sv_fv E (ss_e s) 187 (tyX12 77) 77 = sv_r E 241 := rfl
theorem lr_187_78 (E : sv_E) (s : sv_S) : sv_fv E (ss_e s) 187 (tyX12 78) 78 = sv_r E 242 := rfl

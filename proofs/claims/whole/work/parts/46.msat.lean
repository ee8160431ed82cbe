def exT (ca : Nat → Int) (as : List (Int × Int)) (t : Int × Int) : Bool := decide ((spW ca false t.1 t.2).length = as.length) && prM ca as (spW ca false t.1 t.2)
def adT (ca : Nat → Int) (as : List (Int × Int)) (t : Int × Int) : Bool := adL ca as (spW ca false t.1 t.2)
def saP (ca : Nat → Int) (rel : Int) (as : List (Int × Int)) (t : Int × Int) : Bool := if rel = 4 then exT ca as t else adT ca as t
def cdM (rel d q : Int) : Bool := if rel = 5 then decide (d < q) else if rel = 6 then decide (q < d) else if rel = 7 then decide (d ≤ q) else decide (q ≤ d)
def saM (ca : Nat → Int) (r ix rel x y : Int) : Bool :=
  if 5 ≤ rel then (if dtM ca r < 0 ∨ fouM ca x y < 0 then false else cdM rel (dtM ca r) (numM ca 4 (fouM ca x y) 0))
  else if (spW ca true x y).length = 0 then false
  else if rel = 1 then (spW ca true x y).any (thM ca (gaT ca r ix)) else if rel = 2 then (spW ca true x y).all (thM ca (gaT ca r ix))
  else (gaT ca r ix).any (saP ca rel (spW ca true x y))
theorem numM_r {f : Nat → Int} (hf : C2 f) (x : Int) : -2147483648 ≤ numM f 4 x 0 ∧ numM f 4 x 0 < 2147483648 := by
  simp only [numM]
  have h1 := hf x.toNat
  have h2 := hf (x + 1).toNat
  have h3 := hf (x + 1 + 1).toNat
  have h4 := hf (x + 1 + 1 + 1).toNat
  omega
theorem dtN_r {f : Nat → Int} (hf : C2 f) : ∀ ts : List (Int × Int), -2147483648 ≤ dtN f ts ∧ dtN f ts < 2147483648 := by
  intro ts
  induction ts with
  | nil => simp [dtN]
  | cons q t ih => simp only [dtN]; split; (exact numM_r hf _); exact ih
theorem dtM_r {f : Nat → Int} (hf : C2 f) (r : Int) : -2147483648 ≤ dtM f r ∧ dtM f r < 2147483648 := dtN_r hf _

theorem d_M_satisfies_0 : decode b_M_satisfies 0 = .ok (.iload_n 3, 1) := by decide +kernel
theorem d_M_satisfies_1 : decode b_M_satisfies 1 = .ok (.iconst 5, 1) := by decide +kernel
theorem d_M_satisfies_2 : decode b_M_satisfies 2 = .ok (.if_icmp .lt 116, 3) := by decide +kernel
theorem d_M_satisfies_5 : decode b_M_satisfies 5 = .ok (.aload_n 0, 1) := by decide +kernel
theorem d_M_satisfies_6 : decode b_M_satisfies 6 = .ok (.iload_n 1, 1) := by decide +kernel
theorem d_M_satisfies_7 : decode b_M_satisfies 7 = .ok (.invokevirtual 162, 3) := by decide +kernel
theorem d_M_satisfies_10 : decode b_M_satisfies 10 = .ok (.istore 6, 2) := by decide +kernel
theorem d_M_satisfies_12 : decode b_M_satisfies 12 = .ok (.aload_n 0, 1) := by decide +kernel
theorem d_M_satisfies_13 : decode b_M_satisfies 13 = .ok (.iload 4, 2) := by decide +kernel
theorem d_M_satisfies_15 : decode b_M_satisfies 15 = .ok (.iload 5, 2) := by decide +kernel
theorem d_M_satisfies_17 : decode b_M_satisfies 17 = .ok (.invokevirtual 133, 3) := by decide +kernel
theorem d_M_satisfies_20 : decode b_M_satisfies 20 = .ok (.istore 7, 2) := by decide +kernel
theorem d_M_satisfies_22 : decode b_M_satisfies 22 = .ok (.iload 6, 2) := by decide +kernel
theorem d_M_satisfies_24 : decode b_M_satisfies 24 = .ok (.ifCond .lt 8, 3) := by decide +kernel
theorem d_M_satisfies_27 : decode b_M_satisfies 27 = .ok (.iload 7, 2) := by decide +kernel
theorem d_M_satisfies_29 : decode b_M_satisfies 29 = .ok (.ifCond .ge 5, 3) := by decide +kernel
theorem d_M_satisfies_32 : decode b_M_satisfies 32 = .ok (.iconst 0, 1) := by decide +kernel
theorem d_M_satisfies_33 : decode b_M_satisfies 33 = .ok (.ireturn, 1) := by decide +kernel
theorem d_M_satisfies_34 : decode b_M_satisfies 34 = .ok (.aload_n 0, 1) := by decide +kernel
theorem d_M_satisfies_35 : decode b_M_satisfies 35 = .ok (.iload 7, 2) := by decide +kernel
theorem d_M_satisfies_37 : decode b_M_satisfies 37 = .ok (.iconst 4, 1) := by decide +kernel
theorem d_M_satisfies_38 : decode b_M_satisfies 38 = .ok (.invokevirtual 110, 3) := by decide +kernel
theorem d_M_satisfies_41 : decode b_M_satisfies 41 = .ok (.istore 8, 2) := by decide +kernel
theorem d_M_satisfies_43 : decode b_M_satisfies 43 = .ok (.iload_n 3, 1) := by decide +kernel
theorem d_M_satisfies_44 : decode b_M_satisfies 44 = .ok (.iconst 5, 1) := by decide +kernel
theorem d_M_satisfies_45 : decode b_M_satisfies 45 = .ok (.if_icmp .ne 18, 3) := by decide +kernel
theorem d_M_satisfies_48 : decode b_M_satisfies 48 = .ok (.iload 6, 2) := by decide +kernel
theorem d_M_satisfies_50 : decode b_M_satisfies 50 = .ok (.iload 8, 2) := by decide +kernel
theorem d_M_satisfies_52 : decode b_M_satisfies 52 = .ok (.if_icmp .ge 7, 3) := by decide +kernel
theorem d_M_satisfies_55 : decode b_M_satisfies 55 = .ok (.iconst 1, 1) := by decide +kernel
theorem d_M_satisfies_56 : decode b_M_satisfies 56 = .ok (.goto 61, 3) := by decide +kernel
theorem d_M_satisfies_59 : decode b_M_satisfies 59 = .ok (.iconst 0, 1) := by decide +kernel
theorem d_M_satisfies_60 : decode b_M_satisfies 60 = .ok (.goto 57, 3) := by decide +kernel
theorem d_M_satisfies_63 : decode b_M_satisfies 63 = .ok (.iload_n 3, 1) := by decide +kernel
theorem d_M_satisfies_64 : decode b_M_satisfies 64 = .ok (.bipush 6, 2) := by decide +kernel
theorem d_M_satisfies_66 : decode b_M_satisfies 66 = .ok (.if_icmp .ne 18, 3) := by decide +kernel
theorem d_M_satisfies_69 : decode b_M_satisfies 69 = .ok (.iload 6, 2) := by decide +kernel
theorem d_M_satisfies_71 : decode b_M_satisfies 71 = .ok (.iload 8, 2) := by decide +kernel
theorem d_M_satisfies_73 : decode b_M_satisfies 73 = .ok (.if_icmp .le 7, 3) := by decide +kernel
theorem d_M_satisfies_76 : decode b_M_satisfies 76 = .ok (.iconst 1, 1) := by decide +kernel
theorem d_M_satisfies_77 : decode b_M_satisfies 77 = .ok (.goto 40, 3) := by decide +kernel
theorem d_M_satisfies_80 : decode b_M_satisfies 80 = .ok (.iconst 0, 1) := by decide +kernel
theorem d_M_satisfies_81 : decode b_M_satisfies 81 = .ok (.goto 36, 3) := by decide +kernel
theorem d_M_satisfies_84 : decode b_M_satisfies 84 = .ok (.iload_n 3, 1) := by decide +kernel
theorem d_M_satisfies_85 : decode b_M_satisfies 85 = .ok (.bipush 7, 2) := by decide +kernel
theorem d_M_satisfies_87 : decode b_M_satisfies 87 = .ok (.if_icmp .ne 18, 3) := by decide +kernel
theorem d_M_satisfies_90 : decode b_M_satisfies 90 = .ok (.iload 6, 2) := by decide +kernel
theorem d_M_satisfies_92 : decode b_M_satisfies 92 = .ok (.iload 8, 2) := by decide +kernel
theorem d_M_satisfies_94 : decode b_M_satisfies 94 = .ok (.if_icmp .gt 7, 3) := by decide +kernel
theorem d_M_satisfies_97 : decode b_M_satisfies 97 = .ok (.iconst 1, 1) := by decide +kernel
theorem d_M_satisfies_98 : decode b_M_satisfies 98 = .ok (.goto 19, 3) := by decide +kernel
theorem d_M_satisfies_101 : decode b_M_satisfies 101 = .ok (.iconst 0, 1) := by decide +kernel
theorem d_M_satisfies_102 : decode b_M_satisfies 102 = .ok (.goto 15, 3) := by decide +kernel
theorem d_M_satisfies_105 : decode b_M_satisfies 105 = .ok (.iload 6, 2) := by decide +kernel
theorem d_M_satisfies_107 : decode b_M_satisfies 107 = .ok (.iload 8, 2) := by decide +kernel
theorem d_M_satisfies_109 : decode b_M_satisfies 109 = .ok (.if_icmp .lt 7, 3) := by decide +kernel
theorem d_M_satisfies_112 : decode b_M_satisfies 112 = .ok (.iconst 1, 1) := by decide +kernel
theorem d_M_satisfies_113 : decode b_M_satisfies 113 = .ok (.goto 4, 3) := by decide +kernel
theorem d_M_satisfies_116 : decode b_M_satisfies 116 = .ok (.iconst 0, 1) := by decide +kernel
theorem d_M_satisfies_117 : decode b_M_satisfies 117 = .ok (.ireturn, 1) := by decide +kernel
theorem d_M_satisfies_118 : decode b_M_satisfies 118 = .ok (.aload_n 0, 1) := by decide +kernel
theorem d_M_satisfies_119 : decode b_M_satisfies 119 = .ok (.iload_n 1, 1) := by decide +kernel
theorem d_M_satisfies_120 : decode b_M_satisfies 120 = .ok (.iload_n 2, 1) := by decide +kernel
theorem d_M_satisfies_121 : decode b_M_satisfies 121 = .ok (.invokevirtual 130, 3) := by decide +kernel
theorem d_M_satisfies_124 : decode b_M_satisfies 124 = .ok (.aload_n 0, 1) := by decide +kernel
theorem d_M_satisfies_125 : decode b_M_satisfies 125 = .ok (.iload 4, 2) := by decide +kernel
theorem d_M_satisfies_127 : decode b_M_satisfies 127 = .ok (.iload 5, 2) := by decide +kernel
theorem d_M_satisfies_129 : decode b_M_satisfies 129 = .ok (.invokevirtual 165, 3) := by decide +kernel
theorem d_M_satisfies_132 : decode b_M_satisfies 132 = .ok (.aload_n 0, 1) := by decide +kernel
theorem d_M_satisfies_133 : decode b_M_satisfies 133 = .ok (.getfield 152, 3) := by decide +kernel
theorem d_M_satisfies_136 : decode b_M_satisfies 136 = .ok (.ifCond .ne 5, 3) := by decide +kernel
theorem d_M_satisfies_139 : decode b_M_satisfies 139 = .ok (.iconst 0, 1) := by decide +kernel
theorem d_M_satisfies_140 : decode b_M_satisfies 140 = .ok (.ireturn, 1) := by decide +kernel
theorem d_M_satisfies_141 : decode b_M_satisfies 141 = .ok (.iload_n 3, 1) := by decide +kernel
theorem d_M_satisfies_142 : decode b_M_satisfies 142 = .ok (.iconst 1, 1) := by decide +kernel
theorem d_M_satisfies_143 : decode b_M_satisfies 143 = .ok (.if_icmp .eq 8, 3) := by decide +kernel
theorem d_M_satisfies_146 : decode b_M_satisfies 146 = .ok (.iload_n 3, 1) := by decide +kernel
theorem d_M_satisfies_147 : decode b_M_satisfies 147 = .ok (.iconst 2, 1) := by decide +kernel
theorem d_M_satisfies_148 : decode b_M_satisfies 148 = .ok (.if_icmp .ne 82, 3) := by decide +kernel
theorem d_M_satisfies_151 : decode b_M_satisfies 151 = .ok (.iconst 0, 1) := by decide +kernel
theorem d_M_satisfies_152 : decode b_M_satisfies 152 = .ok (.istore 6, 2) := by decide +kernel
theorem d_M_satisfies_154 : decode b_M_satisfies 154 = .ok (.iconst 1, 1) := by decide +kernel
theorem d_M_satisfies_155 : decode b_M_satisfies 155 = .ok (.istore 7, 2) := by decide +kernel
theorem d_M_satisfies_157 : decode b_M_satisfies 157 = .ok (.iconst 0, 1) := by decide +kernel
theorem d_M_satisfies_158 : decode b_M_satisfies 158 = .ok (.istore 8, 2) := by decide +kernel
theorem d_M_satisfies_160 : decode b_M_satisfies 160 = .ok (.iload 8, 2) := by decide +kernel
theorem d_M_satisfies_162 : decode b_M_satisfies 162 = .ok (.aload_n 0, 1) := by decide +kernel
theorem d_M_satisfies_163 : decode b_M_satisfies 163 = .ok (.getfield 152, 3) := by decide +kernel
theorem d_M_satisfies_166 : decode b_M_satisfies 166 = .ok (.if_icmp .ge 51, 3) := by decide +kernel
theorem d_M_satisfies_169 : decode b_M_satisfies 169 = .ok (.aload_n 0, 1) := by decide +kernel
theorem d_M_satisfies_170 : decode b_M_satisfies 170 = .ok (.iload 8, 2) := by decide +kernel
theorem d_M_satisfies_172 : decode b_M_satisfies 172 = .ok (.invokevirtual 168, 3) := by decide +kernel
theorem d_M_satisfies_175 : decode b_M_satisfies 175 = .ok (.istore 9, 2) := by decide +kernel
theorem d_M_satisfies_177 : decode b_M_satisfies 177 = .ok (.iload 6, 2) := by decide +kernel
theorem d_M_satisfies_179 : decode b_M_satisfies 179 = .ok (.ifCond .ne 8, 3) := by decide +kernel
theorem d_M_satisfies_182 : decode b_M_satisfies 182 = .ok (.iload 9, 2) := by decide +kernel
theorem d_M_satisfies_184 : decode b_M_satisfies 184 = .ok (.ifCond .eq 7, 3) := by decide +kernel
theorem d_M_satisfies_187 : decode b_M_satisfies 187 = .ok (.iconst 1, 1) := by decide +kernel
theorem d_M_satisfies_188 : decode b_M_satisfies 188 = .ok (.goto 4, 3) := by decide +kernel
theorem d_M_satisfies_191 : decode b_M_satisfies 191 = .ok (.iconst 0, 1) := by decide +kernel
theorem d_M_satisfies_192 : decode b_M_satisfies 192 = .ok (.istore 6, 2) := by decide +kernel
theorem d_M_satisfies_194 : decode b_M_satisfies 194 = .ok (.iload 7, 2) := by decide +kernel
theorem d_M_satisfies_196 : decode b_M_satisfies 196 = .ok (.ifCond .eq 12, 3) := by decide +kernel
theorem d_M_satisfies_199 : decode b_M_satisfies 199 = .ok (.iload 9, 2) := by decide +kernel
theorem d_M_satisfies_201 : decode b_M_satisfies 201 = .ok (.ifCond .eq 7, 3) := by decide +kernel
theorem d_M_satisfies_204 : decode b_M_satisfies 204 = .ok (.iconst 1, 1) := by decide +kernel
theorem d_M_satisfies_205 : decode b_M_satisfies 205 = .ok (.goto 4, 3) := by decide +kernel
theorem d_M_satisfies_208 : decode b_M_satisfies 208 = .ok (.iconst 0, 1) := by decide +kernel
theorem d_M_satisfies_209 : decode b_M_satisfies 209 = .ok (.istore 7, 2) := by decide +kernel
theorem d_M_satisfies_211 : decode b_M_satisfies 211 = .ok (.iinc 8 1, 3) := by decide +kernel
theorem d_M_satisfies_214 : decode b_M_satisfies 214 = .ok (.goto (-54), 3) := by decide +kernel
theorem d_M_satisfies_217 : decode b_M_satisfies 217 = .ok (.iload_n 3, 1) := by decide +kernel
theorem d_M_satisfies_218 : decode b_M_satisfies 218 = .ok (.iconst 1, 1) := by decide +kernel
theorem d_M_satisfies_219 : decode b_M_satisfies 219 = .ok (.if_icmp .ne 8, 3) := by decide +kernel
theorem d_M_satisfies_222 : decode b_M_satisfies 222 = .ok (.iload 6, 2) := by decide +kernel
theorem d_M_satisfies_224 : decode b_M_satisfies 224 = .ok (.goto 5, 3) := by decide +kernel
theorem d_M_satisfies_227 : decode b_M_satisfies 227 = .ok (.iload 7, 2) := by decide +kernel
theorem d_M_satisfies_229 : decode b_M_satisfies 229 = .ok (.ireturn, 1) := by decide +kernel
theorem d_M_satisfies_230 : decode b_M_satisfies 230 = .ok (.iconst 0, 1) := by decide +kernel
theorem d_M_satisfies_231 : decode b_M_satisfies 231 = .ok (.istore 6, 2) := by decide +kernel
theorem d_M_satisfies_233 : decode b_M_satisfies 233 = .ok (.iconst 0, 1) := by decide +kernel
theorem d_M_satisfies_234 : decode b_M_satisfies 234 = .ok (.istore 7, 2) := by decide +kernel
theorem d_M_satisfies_236 : decode b_M_satisfies 236 = .ok (.iload 7, 2) := by decide +kernel
theorem d_M_satisfies_238 : decode b_M_satisfies 238 = .ok (.aload_n 0, 1) := by decide +kernel
theorem d_M_satisfies_239 : decode b_M_satisfies 239 = .ok (.getfield 113, 3) := by decide +kernel
theorem d_M_satisfies_242 : decode b_M_satisfies 242 = .ok (.if_icmp .ge 110, 3) := by decide +kernel
theorem d_M_satisfies_245 : decode b_M_satisfies 245 = .ok (.iload 6, 2) := by decide +kernel
theorem d_M_satisfies_247 : decode b_M_satisfies 247 = .ok (.ifCond .ne 105, 3) := by decide +kernel
theorem d_M_satisfies_250 : decode b_M_satisfies 250 = .ok (.aload_n 0, 1) := by decide +kernel
theorem d_M_satisfies_251 : decode b_M_satisfies 251 = .ok (.aload_n 0, 1) := by decide +kernel
theorem d_M_satisfies_252 : decode b_M_satisfies 252 = .ok (.getfield 26, 3) := by decide +kernel
theorem d_M_satisfies_255 : decode b_M_satisfies 255 = .ok (.iload 7, 2) := by decide +kernel
theorem d_M_satisfies_257 : decode b_M_satisfies 257 = .ok (.iaload, 1) := by decide +kernel
theorem d_M_satisfies_258 : decode b_M_satisfies 258 = .ok (.aload_n 0, 1) := by decide +kernel
theorem d_M_satisfies_259 : decode b_M_satisfies 259 = .ok (.getfield 29, 3) := by decide +kernel
theorem d_M_satisfies_262 : decode b_M_satisfies 262 = .ok (.iload 7, 2) := by decide +kernel
theorem d_M_satisfies_264 : decode b_M_satisfies 264 = .ok (.iaload, 1) := by decide +kernel
theorem d_M_satisfies_265 : decode b_M_satisfies 265 = .ok (.invokevirtual 159, 3) := by decide +kernel
theorem d_M_satisfies_268 : decode b_M_satisfies 268 = .ok (.iload_n 3, 1) := by decide +kernel
theorem d_M_satisfies_269 : decode b_M_satisfies 269 = .ok (.iconst 4, 1) := by decide +kernel
theorem d_M_satisfies_270 : decode b_M_satisfies 270 = .ok (.if_icmp .ne 32, 3) := by decide +kernel
theorem d_M_satisfies_273 : decode b_M_satisfies 273 = .ok (.aload_n 0, 1) := by decide +kernel
theorem d_M_satisfies_274 : decode b_M_satisfies 274 = .ok (.getfield 142, 3) := by decide +kernel
theorem d_M_satisfies_277 : decode b_M_satisfies 277 = .ok (.aload_n 0, 1) := by decide +kernel
theorem d_M_satisfies_278 : decode b_M_satisfies 278 = .ok (.getfield 152, 3) := by decide +kernel
theorem d_M_satisfies_281 : decode b_M_satisfies 281 = .ok (.if_icmp .ne 15, 3) := by decide +kernel
theorem d_M_satisfies_284 : decode b_M_satisfies 284 = .ok (.aload_n 0, 1) := by decide +kernel
theorem d_M_satisfies_285 : decode b_M_satisfies 285 = .ok (.iconst 0, 1) := by decide +kernel
theorem d_M_satisfies_286 : decode b_M_satisfies 286 = .ok (.invokevirtual 171, 3) := by decide +kernel
theorem d_M_satisfies_289 : decode b_M_satisfies 289 = .ok (.ifCond .eq 7, 3) := by decide +kernel
theorem d_M_satisfies_292 : decode b_M_satisfies 292 = .ok (.iconst 1, 1) := by decide +kernel
theorem d_M_satisfies_293 : decode b_M_satisfies 293 = .ok (.goto 4, 3) := by decide +kernel
theorem d_M_satisfies_296 : decode b_M_satisfies 296 = .ok (.iconst 0, 1) := by decide +kernel
theorem d_M_satisfies_297 : decode b_M_satisfies 297 = .ok (.istore 6, 2) := by decide +kernel
theorem d_M_satisfies_299 : decode b_M_satisfies 299 = .ok (.goto 47, 3) := by decide +kernel
theorem d_M_satisfies_302 : decode b_M_satisfies 302 = .ok (.iconst 0, 1) := by decide +kernel
theorem d_M_satisfies_303 : decode b_M_satisfies 303 = .ok (.istore 8, 2) := by decide +kernel
theorem d_M_satisfies_305 : decode b_M_satisfies 305 = .ok (.iload 8, 2) := by decide +kernel
theorem d_M_satisfies_307 : decode b_M_satisfies 307 = .ok (.aload_n 0, 1) := by decide +kernel
theorem d_M_satisfies_308 : decode b_M_satisfies 308 = .ok (.getfield 152, 3) := by decide +kernel
theorem d_M_satisfies_311 : decode b_M_satisfies 311 = .ok (.iadd, 1) := by decide +kernel
theorem d_M_satisfies_312 : decode b_M_satisfies 312 = .ok (.aload_n 0, 1) := by decide +kernel
theorem d_M_satisfies_313 : decode b_M_satisfies 313 = .ok (.getfield 142, 3) := by decide +kernel
theorem d_M_satisfies_316 : decode b_M_satisfies 316 = .ok (.if_icmp .gt 30, 3) := by decide +kernel
theorem d_M_satisfies_319 : decode b_M_satisfies 319 = .ok (.iload 6, 2) := by decide +kernel
theorem d_M_satisfies_321 : decode b_M_satisfies 321 = .ok (.ifCond .ne 12, 3) := by decide +kernel
theorem d_M_satisfies_324 : decode b_M_satisfies 324 = .ok (.aload_n 0, 1) := by decide +kernel
theorem d_M_satisfies_325 : decode b_M_satisfies 325 = .ok (.iload 8, 2) := by decide +kernel
theorem d_M_satisfies_327 : decode b_M_satisfies 327 = .ok (.invokevirtual 171, 3) := by decide +kernel
theorem d_M_satisfies_330 : decode b_M_satisfies 330 = .ok (.ifCond .eq 7, 3) := by decide +kernel
theorem d_M_satisfies_333 : decode b_M_satisfies 333 = .ok (.iconst 1, 1) := by decide +kernel
theorem d_M_satisfies_334 : decode b_M_satisfies 334 = .ok (.goto 4, 3) := by decide +kernel
theorem d_M_satisfies_337 : decode b_M_satisfies 337 = .ok (.iconst 0, 1) := by decide +kernel
theorem d_M_satisfies_338 : decode b_M_satisfies 338 = .ok (.istore 6, 2) := by decide +kernel
theorem d_M_satisfies_340 : decode b_M_satisfies 340 = .ok (.iinc 8 1, 3) := by decide +kernel
theorem d_M_satisfies_343 : decode b_M_satisfies 343 = .ok (.goto (-38), 3) := by decide +kernel
theorem d_M_satisfies_346 : decode b_M_satisfies 346 = .ok (.iinc 7 1, 3) := by decide +kernel
theorem d_M_satisfies_349 : decode b_M_satisfies 349 = .ok (.goto (-113), 3) := by decide +kernel
theorem d_M_satisfies_352 : decode b_M_satisfies 352 = .ok (.iload 6, 2) := by decide +kernel
theorem d_M_satisfies_354 : decode b_M_satisfies 354 = .ok (.ireturn, 1) := by decide +kernel
set_option maxHeartbeats 4000000 in
set_option maxRecDepth 100000 in
theorem c_M_satisfies (l : Launch) (dC : Nat → ClassId) (dI : Nat → Nat → Nat) (kA : Nat → ClassId) (sz : Nat) (mo : Nat) (ma : Nat → Nat) (mrf : Int) (mz : Int) (mls : Int) (mfp : Int) (mfm : Int) (mtx : Int) (mwd : Int) (mak : Int) (mli : Int) (mlx : Int) (mat : Int) (mtk : Int) (mtf : Int) (mtt : Int) (mfa : Int) (mla : Int) (mlp : Int) (mdp : Int) (msi : Int) (mpf : Int) (mpt : Int) (mdn : Bool) (ca : Nat → Int) (ctf : Nat → Int) (ctt : Nat → Int) (cwf : Nat → Int) (cwt : Nat → Int) (caf : Nat → Int) (cat : Nat → Int) (r : Int) (ix : Int) (rel : Int) (x : Int) (y : Int) (rn : Nat) (hca : C2 ca) (hr0 : 0 ≤ r ∧ r ≤ 9) (hix : -2147483648 ≤ ix ∧ ix < 2147483648) (hrel : -2147483648 ≤ rel ∧ rel < 2147483648) (hxy : 4000 ≤ x ∧ x ≤ y ∧ y ≤ 4100) (hRA : RecA (octM ca r) rn) : Met l y_M_satisfies (wsy y_M_satisfies b_M_satisfies 10 (some .boolean)) (rmd 5 0 0) (li_Pr (dC, dI) CL (TY kA) [.ref mo, .int (iI r), .int (iI ix), .int (iI rel), .int (iI x), .int (iI y)] (fun h => h.size = sz ∧ va_P (dC, dI) CL [(mo, .inr (10, [.int (iI mrf), .ref (ma 0), .int (iI mz), .ref (ma 1), .ref (ma 2), .int (iI mls), .int (iI mfp), .int (iI mfm), .ref (ma 3), .int (iI mtx), .ref (ma 4), .ref (ma 5), .int (iI mwd), .ref (ma 6), .ref (ma 7), .int (iI mak), .ref (ma 8), .ref (ma 9), .int (iI mli), .int (iI mlx), .ref (ma 10), .ref (ma 11), .int (iI mat), .int (iI mtk), .int (iI mtf), .int (iI mtt), .int (iI mfa), .int (iI mla), .int (iI mlp), .int (iI mdp), .ref (ma 12), .ref (ma 13), .int (iI msi), .int (iI (bI mdn)), .int (iI mpf), .int (iI mpt)])), (ma 1, .inl (kA 0, 4120, .inl (aI ca))), (ma 4, .inl (kA 0, 400, .inl (aI ctf))), (ma 5, .inl (kA 0, 400, .inl (aI ctt))), (ma 6, .inl (kA 0, 400, .inl (aI cwf))), (ma 7, .inl (kA 0, 400, .inl (aI cwt))), (ma 8, .inl (kA 0, 110, .inl (aI caf))), (ma 9, .inl (kA 0, 110, .inl (aI cat)))] h ∧ va_D (fun q => dI 100 0 ≤ q) [(mo, .inr (10, [.int (iI mrf), .ref (ma 0), .int (iI mz), .ref (ma 1), .ref (ma 2), .int (iI mls), .int (iI mfp), .int (iI mfm), .ref (ma 3), .int (iI mtx), .ref (ma 4), .ref (ma 5), .int (iI mwd), .ref (ma 6), .ref (ma 7), .int (iI mak), .ref (ma 8), .ref (ma 9), .int (iI mli), .int (iI mlx), .ref (ma 10), .ref (ma 11), .int (iI mat), .int (iI mtk), .int (iI mtf), .int (iI mtt), .int (iI mfa), .int (iI mla), .int (iI mlp), .int (iI mdp), .ref (ma 12), .ref (ma 13), .int (iI msi), .int (iI (bI mdn)), .int (iI mpf), .int (iI mpt)])), (ma 1, .inl (kA 0, 4120, .inl (aI ca))), (ma 4, .inl (kA 0, 400, .inl (aI ctf))), (ma 5, .inl (kA 0, 400, .inl (aI ctt))), (ma 6, .inl (kA 0, 400, .inl (aI cwf))), (ma 7, .inl (kA 0, 400, .inl (aI cwt))), (ma 8, .inl (kA 0, 110, .inl (aI caf))), (ma 9, .inl (kA 0, 110, .inl (aI cat)))] ∧ (fun _ => True) h)) (li_Qw (S := (Int) × (Nat → Int) × (Nat → Int) × (Int) × (Nat → Int) × (Nat → Int) × (Int) × (Nat → Int) × (Nat → Int)) (dC, dI) CL (fun _ => True) (fun u => some (.int (iI (bI (saM ca r ix rel x y))))) (fun u => [(mo, .inr (10, [.int (iI mrf), .ref (ma 0), .int (iI mz), .ref (ma 1), .ref (ma 2), .int (iI mls), .int (iI mfp), .int (iI mfm), .ref (ma 3), .int (iI u.1), .ref (ma 4), .ref (ma 5), .int (iI u.2.2.2.1), .ref (ma 6), .ref (ma 7), .int (iI u.2.2.2.2.2.2.1), .ref (ma 8), .ref (ma 9), .int (iI mli), .int (iI mlx), .ref (ma 10), .ref (ma 11), .int (iI mat), .int (iI mtk), .int (iI mtf), .int (iI mtt), .int (iI mfa), .int (iI mla), .int (iI mlp), .int (iI mdp), .ref (ma 12), .ref (ma 13), .int (iI msi), .int (iI (bI mdn)), .int (iI mpf), .int (iI mpt)])), (ma 1, .inl (kA 0, 4120, .inl (aI ca))), (ma 4, .inl (kA 0, 400, .inl (aI u.2.1))), (ma 5, .inl (kA 0, 400, .inl (aI u.2.2.1))), (ma 6, .inl (kA 0, 400, .inl (aI u.2.2.2.2.1))), (ma 7, .inl (kA 0, 400, .inl (aI u.2.2.2.2.2.1))), (ma 8, .inl (kA 0, 110, .inl (aI u.2.2.2.2.2.2.2.1))), (ma 9, .inl (kA 0, 110, .inl (aI u.2.2.2.2.2.2.2.2)))]) (va_A [(mo, .inr (10, [.int (iI mrf), .ref (ma 0), .int (iI mz), .ref (ma 1), .ref (ma 2), .int (iI mls), .int (iI mfp), .int (iI mfm), .ref (ma 3), .int (iI mtx), .ref (ma 4), .ref (ma 5), .int (iI mwd), .ref (ma 6), .ref (ma 7), .int (iI mak), .ref (ma 8), .ref (ma 9), .int (iI mli), .int (iI mlx), .ref (ma 10), .ref (ma 11), .int (iI mat), .int (iI mtk), .int (iI mtf), .int (iI mtt), .int (iI mfa), .int (iI mla), .int (iI mlp), .int (iI mdp), .ref (ma 12), .ref (ma 13), .int (iI msi), .int (iI (bI mdn)), .int (iI mpf), .int (iI mpt)])), (ma 1, .inl (kA 0, 4120, .inl (aI ca))), (ma 4, .inl (kA 0, 400, .inl (aI ctf))), (ma 5, .inl (kA 0, 400, .inl (aI ctt))), (ma 6, .inl (kA 0, 400, .inl (aI cwf))), (ma 7, .inl (kA 0, 400, .inl (aI cwt))), (ma 8, .inl (kA 0, 110, .inl (aI caf))), (ma 9, .inl (kA 0, 110, .inl (aI cat)))] sz)) 0 0 (va_A [(mo, .inr (10, [.int (iI mrf), .ref (ma 0), .int (iI mz), .ref (ma 1), .ref (ma 2), .int (iI mls), .int (iI mfp), .int (iI mfm), .ref (ma 3), .int (iI mtx), .ref (ma 4), .ref (ma 5), .int (iI mwd), .ref (ma 6), .ref (ma 7), .int (iI mak), .ref (ma 8), .ref (ma 9), .int (iI mli), .int (iI mlx), .ref (ma 10), .ref (ma 11), .int (iI mat), .int (iI mtk), .int (iI mtf), .int (iI mtt), .int (iI mfa), .int (iI mla), .int (iI mlp), .int (iI mdp), .ref (ma 12), .ref (ma 13), .int (iI msi), .int (iI (bI mdn)), .int (iI mpf), .int (iI mpt)])), (ma 1, .inl (kA 0, 4120, .inl (aI ca))), (ma 4, .inl (kA 0, 400, .inl (aI ctf))), (ma 5, .inl (kA 0, 400, .inl (aI ctt))), (ma 6, .inl (kA 0, 400, .inl (aI cwf))), (ma 7, .inl (kA 0, 400, .inl (aI cwt))), (ma 8, .inl (kA 0, 110, .inl (aI caf))), (ma 9, .inl (kA 0, 110, .inl (aI cat)))] sz) := by
  refine li_mwi (r := fun u => bI (saM ca r ix rel x y)) (by decide) (Nat.le_of_ble_eq_true rfl) (fun u _ => by exact li_narZ2 _) ?_
  intro p e s m args below meth c Q A C hP hD hBx hK hN hG hA hAi hAN fin ls hl
  obtain ⟨hx, hb, hr, hml, hown, hts, hlocks, hin⟩ := C
  have hown : s.vm.findClass R_M = some m.cls := hown
  have hl : lv_has ls 10 [(0, .ref mo), (1, .int (iI r)), (2, .int (iI ix)), (3, .int (iI rel)), (4, .int (iI x)), (5, .int (iI y))] := hl
  suffices h9 : ∀ (H : Heap) (locs : List Loc), H = s.heap → locs = [] → W p l e (rmd 5 0 0) s m args below meth c H locs 0 0 Q (F0 m 0 ls []) from h9 _ _ rfl rfl
  intro H locs eH eL
  have hP : va_P (dC, dI) CL [(mo, .inr (10, [.int (iI mrf), .ref (ma 0), .int (iI mz), .ref (ma 1), .ref (ma 2), .int (iI mls), .int (iI mfp), .int (iI mfm), .ref (ma 3), .int (iI mtx), .ref (ma 4), .ref (ma 5), .int (iI mwd), .ref (ma 6), .ref (ma 7), .int (iI mak), .ref (ma 8), .ref (ma 9), .int (iI mli), .int (iI mlx), .ref (ma 10), .ref (ma 11), .int (iI mat), .int (iI mtk), .int (iI mtf), .int (iI mtt), .int (iI mfa), .int (iI mla), .int (iI mlp), .int (iI mdp), .ref (ma 12), .ref (ma 13), .int (iI msi), .int (iI (bI mdn)), .int (iI mpf), .int (iI mpt)])), (ma 1, .inl (kA 0, 4120, .inl (aI ca))), (ma 4, .inl (kA 0, 400, .inl (aI ctf))), (ma 5, .inl (kA 0, 400, .inl (aI ctt))), (ma 6, .inl (kA 0, 400, .inl (aI cwf))), (ma 7, .inl (kA 0, 400, .inl (aI cwt))), (ma 8, .inl (kA 0, 110, .inl (aI caf))), (ma 9, .inl (kA 0, 110, .inl (aI cat)))] H := by rw [eH]; exact hP
  have hS : va_S A s.heap H locs := by rw [eH, eL]; exact va_S.rf
  refine lv_iload_n hx hb d_M_satisfies_0 rfl (lv_at hl 3 rfl) ?_
  refine lv_iconst (v := iI 5) hx hb d_M_satisfies_1 rfl ?_
  refine li_icmp_lt (tgt := 118) hx hb d_M_satisfies_2 (by decide) (by omega) (by omega) (fun c1 => ?_) (fun c1 => ?_)
  · have _q := c1
    refine lv_aload_n hx hb d_M_satisfies_118 rfl (lv_at hl 0 rfl) ?_
    refine lv_iload_n hx hb d_M_satisfies_119 rfl (lv_at hl 1 rfl) ?_
    refine lv_iload_n hx hb d_M_satisfies_120 rfl (lv_at hl 2 rfl) ?_
    refine li_callw (wc := [(mo, .inr (10, [.int (iI mrf), .ref (ma 0), .int (iI mz), .ref (ma 1), .ref (ma 2), .int (iI mls), .int (iI mfp), .int (iI mfm), .ref (ma 3), .int (iI mtx), .ref (ma 4), .ref (ma 5), .int (iI mwd), .ref (ma 6), .ref (ma 7), .int (iI mak), .ref (ma 8), .ref (ma 9), .int (iI mli), .int (iI mlx), .ref (ma 10), .ref (ma 11), .int (iI mat), .int (iI mtk), .int (iI mtf), .int (iI mtt), .int (iI mfa), .int (iI mla), .int (iI mlp), .int (iI mdp), .ref (ma 12), .ref (ma 13), .int (iI msi), .int (iI (bI mdn)), .int (iI mpf), .int (iI mpt)])), (ma 1, .inl (kA 0, 4120, .inl (aI ca))), (ma 4, .inl (kA 0, 400, .inl (aI ctf))), (ma 5, .inl (kA 0, 400, .inl (aI ctt)))]) (wr := [(ma 6, .inl (kA 0, 400, .inl (aI cwf))), (ma 7, .inl (kA 0, 400, .inl (aI cwt))), (ma 8, .inl (kA 0, 110, .inl (aI caf))), (ma 9, .inl (kA 0, 110, .inl (aI cat)))]) (va_runV (As := [.int (iI r), .int (iI ix)]) (rest := []) ⟨hx, hb, hml, hown, hts⟩ (c_M_gather l dC dI kA H.size mo ma mrf mz mls mfp mfm mtx mwd mak mli mlx mat mtk mtf mtt mfa mla mlp mdp msi mpf mpt mdn ca ctf ctt r ix rn (by exact hca) (by exact hr0) (by omega) (by exact hRA)) (cw_M_130 hts rfl rfl ⟨Nat.le_of_ble_eq_true rfl, Nat.le_of_ble_eq_true rfl⟩) (li_preV (va_recv hK hP (ci := 10) (q0 := 0) rfl rfl) ⟨rfl, hP.sub [0, 1, 2, 3] rfl, (hD.sub [0, 1, 2, 3] (by decide) rfl).weaken (fun _ _ _ h => hAN _ h), trivial⟩ hK hN (hG.go hS hAN)) rfl rfl hl.1 rfl (lv_room (Nat.le_of_ble_eq_true rfl)) d_M_satisfies_121 ⟨(by show 0 + 0 ≤ 0; omega), (by show 0 + 0 ≤ 0; omega)⟩) hP hD hS hA [0, 1, 2, 3] [4, 5, 6, 7] rfl rfl (by decide) (by decide) (fun u2 H locs hu2 hP hD hS _hk => ?_)
    obtain ⟨n_t, f_t, g_t⟩ := u2
    have hP : va_P (dC, dI) CL [(ma 6, .inl (kA 0, 400, .inl (aI cwf))), (ma 7, .inl (kA 0, 400, .inl (aI cwt))), (ma 8, .inl (kA 0, 110, .inl (aI caf))), (ma 9, .inl (kA 0, 110, .inl (aI cat))), (mo, .inr (10, [.int (iI mrf), .ref (ma 0), .int (iI mz), .ref (ma 1), .ref (ma 2), .int (iI mls), .int (iI mfp), .int (iI mfm), .ref (ma 3), .int (iI n_t), .ref (ma 4), .ref (ma 5), .int (iI mwd), .ref (ma 6), .ref (ma 7), .int (iI mak), .ref (ma 8), .ref (ma 9), .int (iI mli), .int (iI mlx), .ref (ma 10), .ref (ma 11), .int (iI mat), .int (iI mtk), .int (iI mtf), .int (iI mtt), .int (iI mfa), .int (iI mla), .int (iI mlp), .int (iI mdp), .ref (ma 12), .ref (ma 13), .int (iI msi), .int (iI (bI mdn)), .int (iI mpf), .int (iI mpt)])), (ma 1, .inl (kA 0, 4120, .inl (aI ca))), (ma 4, .inl (kA 0, 400, .inl (aI f_t))), (ma 5, .inl (kA 0, 400, .inl (aI g_t)))] H := hP
    have hD : va_D A [(ma 6, .inl (kA 0, 400, .inl (aI cwf))), (ma 7, .inl (kA 0, 400, .inl (aI cwt))), (ma 8, .inl (kA 0, 110, .inl (aI caf))), (ma 9, .inl (kA 0, 110, .inl (aI cat))), (mo, .inr (10, [.int (iI mrf), .ref (ma 0), .int (iI mz), .ref (ma 1), .ref (ma 2), .int (iI mls), .int (iI mfp), .int (iI mfm), .ref (ma 3), .int (iI n_t), .ref (ma 4), .ref (ma 5), .int (iI mwd), .ref (ma 6), .ref (ma 7), .int (iI mak), .ref (ma 8), .ref (ma 9), .int (iI mli), .int (iI mlx), .ref (ma 10), .ref (ma 11), .int (iI mat), .int (iI mtk), .int (iI mtf), .int (iI mtt), .int (iI mfa), .int (iI mla), .int (iI mlp), .int (iI mdp), .ref (ma 12), .ref (ma 13), .int (iI msi), .int (iI (bI mdn)), .int (iI mpf), .int (iI mpt)])), (ma 1, .inl (kA 0, 4120, .inl (aI ca))), (ma 4, .inl (kA 0, 400, .inl (aI f_t))), (ma 5, .inl (kA 0, 400, .inl (aI g_t)))] := hD
    have hp121 : HL (gaT ca r ix) n_t f_t g_t ∧ LB (gaT ca r ix) (400 * r) (400 * r + 400) ∧ n_t ≤ 400 := hu2
    have hnt := hp121.1.nn
    refine lv_aload_n hx hb d_M_satisfies_124 rfl (lv_at hl 0 rfl) ?_
    refine lv_iload hx hb d_M_satisfies_125 (lv_at hl 4 rfl) ?_
    refine lv_iload hx hb d_M_satisfies_127 (lv_at hl 5 rfl) ?_
    refine li_callw (wc := [(mo, .inr (10, [.int (iI mrf), .ref (ma 0), .int (iI mz), .ref (ma 1), .ref (ma 2), .int (iI mls), .int (iI mfp), .int (iI mfm), .ref (ma 3), .int (iI n_t), .ref (ma 4), .ref (ma 5), .int (iI mwd), .ref (ma 6), .ref (ma 7), .int (iI mak), .ref (ma 8), .ref (ma 9), .int (iI mli), .int (iI mlx), .ref (ma 10), .ref (ma 11), .int (iI mat), .int (iI mtk), .int (iI mtf), .int (iI mtt), .int (iI mfa), .int (iI mla), .int (iI mlp), .int (iI mdp), .ref (ma 12), .ref (ma 13), .int (iI msi), .int (iI (bI mdn)), .int (iI mpf), .int (iI mpt)])), (ma 1, .inl (kA 0, 4120, .inl (aI ca))), (ma 8, .inl (kA 0, 110, .inl (aI caf))), (ma 9, .inl (kA 0, 110, .inl (aI cat)))]) (wr := [(ma 6, .inl (kA 0, 400, .inl (aI cwf))), (ma 7, .inl (kA 0, 400, .inl (aI cwt))), (ma 4, .inl (kA 0, 400, .inl (aI f_t))), (ma 5, .inl (kA 0, 400, .inl (aI g_t)))]) (va_runV (As := [.int (iI x), .int (iI y)]) (rest := []) ⟨hx, hb, hml, hown, hts⟩ (c_M_ask l dC dI kA H.size mo ma mrf mz mls mfp mfm n_t mwd mak mli mlx mat mtk mtf mtt mfa mla mlp mdp msi mpf mpt mdn ca caf cat x y (by exact hca) (by omega)) (cw_M_165 hts rfl rfl ⟨Nat.le_of_ble_eq_true rfl, Nat.le_of_ble_eq_true rfl⟩) (li_preV (va_recv hK hP (ci := 10) (q0 := 4) rfl rfl) ⟨rfl, hP.sub [4, 5, 2, 3] rfl, (hD.sub [4, 5, 2, 3] (by decide) rfl).weaken (fun _ _ _ h => hAN _ h), trivial⟩ hK hN (hG.go hS hAN)) rfl rfl hl.1 rfl (lv_room (Nat.le_of_ble_eq_true rfl)) d_M_satisfies_129 ⟨(by show 0 + 0 ≤ 0; omega), (by show 0 + 0 ≤ 0; omega)⟩) hP hD hS hA [4, 5, 2, 3] [0, 1, 6, 7] rfl rfl (by decide) (by decide) (fun u3 H locs hu3 hP hD hS _hk => ?_)
    obtain ⟨n_a, f_a, g_a⟩ := u3
    have hP : va_P (dC, dI) CL [(ma 6, .inl (kA 0, 400, .inl (aI cwf))), (ma 7, .inl (kA 0, 400, .inl (aI cwt))), (ma 4, .inl (kA 0, 400, .inl (aI f_t))), (ma 5, .inl (kA 0, 400, .inl (aI g_t))), (mo, .inr (10, [.int (iI mrf), .ref (ma 0), .int (iI mz), .ref (ma 1), .ref (ma 2), .int (iI mls), .int (iI mfp), .int (iI mfm), .ref (ma 3), .int (iI n_t), .ref (ma 4), .ref (ma 5), .int (iI mwd), .ref (ma 6), .ref (ma 7), .int (iI n_a), .ref (ma 8), .ref (ma 9), .int (iI mli), .int (iI mlx), .ref (ma 10), .ref (ma 11), .int (iI mat), .int (iI mtk), .int (iI mtf), .int (iI mtt), .int (iI mfa), .int (iI mla), .int (iI mlp), .int (iI mdp), .ref (ma 12), .ref (ma 13), .int (iI msi), .int (iI (bI mdn)), .int (iI mpf), .int (iI mpt)])), (ma 1, .inl (kA 0, 4120, .inl (aI ca))), (ma 8, .inl (kA 0, 110, .inl (aI f_a))), (ma 9, .inl (kA 0, 110, .inl (aI g_a)))] H := hP
    have hD : va_D A [(ma 6, .inl (kA 0, 400, .inl (aI cwf))), (ma 7, .inl (kA 0, 400, .inl (aI cwt))), (ma 4, .inl (kA 0, 400, .inl (aI f_t))), (ma 5, .inl (kA 0, 400, .inl (aI g_t))), (mo, .inr (10, [.int (iI mrf), .ref (ma 0), .int (iI mz), .ref (ma 1), .ref (ma 2), .int (iI mls), .int (iI mfp), .int (iI mfm), .ref (ma 3), .int (iI n_t), .ref (ma 4), .ref (ma 5), .int (iI mwd), .ref (ma 6), .ref (ma 7), .int (iI n_a), .ref (ma 8), .ref (ma 9), .int (iI mli), .int (iI mlx), .ref (ma 10), .ref (ma 11), .int (iI mat), .int (iI mtk), .int (iI mtf), .int (iI mtt), .int (iI mfa), .int (iI mla), .int (iI mlp), .int (iI mdp), .ref (ma 12), .ref (ma 13), .int (iI msi), .int (iI (bI mdn)), .int (iI mpf), .int (iI mpt)])), (ma 1, .inl (kA 0, 4120, .inl (aI ca))), (ma 8, .inl (kA 0, 110, .inl (aI f_a))), (ma 9, .inl (kA 0, 110, .inl (aI g_a)))] := hD
    have hp129 : HL (spW ca true x y) n_a f_a g_a ∧ LB (spW ca true x y) x y ∧ n_a ≤ 110 := hu3
    have hna := hp129.1.nn
    refine lv_aload_n hx hb d_M_satisfies_132 rfl (lv_at hl 0 rfl) ?_
    refine gf_M_152 hx hb hts hown hK hP 4 rfl rfl d_M_satisfies_133 ?_
    refine li_if_ne (tgt := 141) hx hb d_M_satisfies_136 (by decide) (by omega) (fun c4 => ?_) (fun c4 => ?_)
    · have _q := c4
      have hE : saM ca r ix rel x y = if rel = 1 then (spW ca true x y).any (thM ca (gaT ca r ix)) else if rel = 2 then (spW ca true x y).all (thM ca (gaT ca r ix)) else (gaT ca r ix).any (saP ca rel (spW ca true x y)) := by unfold saM; rw [if_neg (by omega), if_neg (by have := hp129.1.1; omega)]
      refine lv_iload_n hx hb d_M_satisfies_141 rfl (lv_at hl 3 rfl) ?_
      refine lv_iconst (v := iI 1) hx hb d_M_satisfies_142 rfl ?_
      refine li_icmp_eq (tgt := 151) hx hb d_M_satisfies_143 (by decide) (by omega) (by omega) (fun c5 => ?_) (fun c5 => ?_)
      · have _q := c5
        refine lv_iconst (v := iI 0) hx hb d_M_satisfies_151 rfl ?_
        refine lv_istore (lv' := [(6, .int (iI 0)), (0, .ref mo), (1, .int (iI r)), (2, .int (iI ix)), (3, .int (iI rel)), (4, .int (iI x)), (5, .int (iI y))]) hx hb d_M_satisfies_152 hl (by decide) rfl (fun ls hl => ?_)
        refine lv_iconst (v := iI 1) hx hb d_M_satisfies_154 rfl ?_
        refine lv_istore (lv' := [(7, .int (iI 1)), (6, .int (iI 0)), (0, .ref mo), (1, .int (iI r)), (2, .int (iI ix)), (3, .int (iI rel)), (4, .int (iI x)), (5, .int (iI y))]) hx hb d_M_satisfies_155 hl (by decide) rfl (fun ls hl => ?_)
        refine lv_iconst (v := iI 0) hx hb d_M_satisfies_157 rfl ?_
        refine lv_istore (lv' := [(8, .int (iI 0)), (7, .int (iI 1)), (6, .int (iI 0)), (0, .ref mo), (1, .int (iI r)), (2, .int (iI ix)), (3, .int (iI rel)), (4, .int (iI x)), (5, .int (iI y))]) hx hb d_M_satisfies_158 hl (by decide) rfl (fun ls hl => ?_)
        have K_160 : ∀ (nn_160 : Nat) (k : Int) (b1 : Bool) (b2 : Bool) (vn : Int) (vf : Nat → Int) (vt : Nat → Int), (0 ≤ k ∧ k ≤ n_a) → ((b1 || ((spW ca true x y).drop k.toNat).any (thM ca (gaT ca r ix))) = (spW ca true x y).any (thM ca (gaT ca r ix))) → ((b2 && ((spW ca true x y).drop k.toNat).all (thM ca (gaT ca r ix))) = (spW ca true x y).all (thM ca (gaT ca r ix))) → ((n_a - k).toNat < nn_160) → ∀ (H : Heap) (locs : List Loc), va_P (dC, dI) CL [(ma 6, .inl (kA 0, 400, .inl (aI vf))), (ma 7, .inl (kA 0, 400, .inl (aI vt))), (ma 4, .inl (kA 0, 400, .inl (aI f_t))), (ma 5, .inl (kA 0, 400, .inl (aI g_t))), (mo, .inr (10, [.int (iI mrf), .ref (ma 0), .int (iI mz), .ref (ma 1), .ref (ma 2), .int (iI mls), .int (iI mfp), .int (iI mfm), .ref (ma 3), .int (iI n_t), .ref (ma 4), .ref (ma 5), .int (iI vn), .ref (ma 6), .ref (ma 7), .int (iI n_a), .ref (ma 8), .ref (ma 9), .int (iI mli), .int (iI mlx), .ref (ma 10), .ref (ma 11), .int (iI mat), .int (iI mtk), .int (iI mtf), .int (iI mtt), .int (iI mfa), .int (iI mla), .int (iI mlp), .int (iI mdp), .ref (ma 12), .ref (ma 13), .int (iI msi), .int (iI (bI mdn)), .int (iI mpf), .int (iI mpt)])), (ma 1, .inl (kA 0, 4120, .inl (aI ca))), (ma 8, .inl (kA 0, 110, .inl (aI f_a))), (ma 9, .inl (kA 0, 110, .inl (aI g_a)))] H → va_D A [(ma 6, .inl (kA 0, 400, .inl (aI vf))), (ma 7, .inl (kA 0, 400, .inl (aI vt))), (ma 4, .inl (kA 0, 400, .inl (aI f_t))), (ma 5, .inl (kA 0, 400, .inl (aI g_t))), (mo, .inr (10, [.int (iI mrf), .ref (ma 0), .int (iI mz), .ref (ma 1), .ref (ma 2), .int (iI mls), .int (iI mfp), .int (iI mfm), .ref (ma 3), .int (iI n_t), .ref (ma 4), .ref (ma 5), .int (iI vn), .ref (ma 6), .ref (ma 7), .int (iI n_a), .ref (ma 8), .ref (ma 9), .int (iI mli), .int (iI mlx), .ref (ma 10), .ref (ma 11), .int (iI mat), .int (iI mtk), .int (iI mtf), .int (iI mtt), .int (iI mfa), .int (iI mla), .int (iI mlp), .int (iI mdp), .ref (ma 12), .ref (ma 13), .int (iI msi), .int (iI (bI mdn)), .int (iI mpf), .int (iI mpt)])), (ma 1, .inl (kA 0, 4120, .inl (aI ca))), (ma 8, .inl (kA 0, 110, .inl (aI f_a))), (ma 9, .inl (kA 0, 110, .inl (aI g_a)))] → va_S A s.heap H locs → ∀ ls : Array Slot, lv_has ls 10 [(8, .int (iI k)), (7, .int (iI (bI b2))), (6, .int (iI (bI b1))), (0, .ref mo), (1, .int (iI r)), (2, .int (iI ix)), (3, .int (iI rel)), (4, .int (iI x)), (5, .int (iI y))] → W p l e (rmd 5 0 0) s m args below meth c H locs 0 0 Q (F0 m 160 ls []) := by
          intro nn_160
          induction nn_160 with
          | zero => intro k b1 b2 vn vf vt hk9 hso hev hm; exact absurd hm (Nat.not_lt_zero _)
          | succ nn_160 ih_160 =>
            intro k b1 b2 vn vf vt hk9 hso hev hm_160 H locs hP hD hS ls hl
            refine lv_iload hx hb d_M_satisfies_160 (lv_at hl 0 rfl) ?_
            refine lv_aload_n hx hb d_M_satisfies_162 rfl (lv_at hl 3 rfl) ?_
            refine gf_M_152 hx hb hts hown hK hP 4 rfl rfl d_M_satisfies_163 ?_
            refine li_icmp_ge (tgt := 217) hx hb d_M_satisfies_166 (by decide) (by omega) (by omega) (fun c6 => ?_) (fun c6 => ?_)
            · have _q := c6
              rw [hp129.1.dropE (k := k) (by omega)] at hso hev
              simp only [List.any_nil, List.all_nil, Bool.or_false, Bool.and_true] at hso hev
              refine lv_iload_n hx hb d_M_satisfies_217 rfl (lv_at hl 6 rfl) ?_
              refine lv_iconst (v := iI 1) hx hb d_M_satisfies_218 rfl ?_
              refine li_icmp_ne (tgt := 227) hx hb d_M_satisfies_219 (by decide) (by omega) (by omega) (fun c7 => ?_) (fun c7 => ?_)
              · have _q := c7
                exact absurd c7 (by omega)
              · have _q := c7
                refine lv_iload hx hb d_M_satisfies_222 (lv_at hl 2 rfl) ?_
                refine lv_goto (tgt := 229) hx hb d_M_satisfies_224 (by decide) ?_
                exact fin (n_t, f_t, g_t, vn, vf, vt, n_a, f_a, g_a) _ _ _ _ _ (by rw [hE]; first | (rw [if_pos (by omega), hso]; done) | (rw [if_neg (by omega), if_pos (by omega), hev]; done)) (by trivial) (by first | exact hP.sub [4, 5, 2, 3, 0, 1, 6, 7] rfl | (subst_vars; exact hP.sub [4, 5, 2, 3, 0, 1, 6, 7] rfl)) (by first | exact hD.sub [4, 5, 2, 3, 0, 1, 6, 7] (by decide) rfl | (subst_vars; exact hD.sub [4, 5, 2, 3, 0, 1, 6, 7] (by decide) rfl)) hS d_M_satisfies_229
            · have _q := c6
              have hdr := hp129.1.drop (k := k) (by omega) (by omega)
              rw [hdr, List.any_cons] at hso
              rw [hdr, List.all_cons] at hev
              refine lv_aload_n hx hb d_M_satisfies_169 rfl (lv_at hl 3 rfl) ?_
              refine lv_iload hx hb d_M_satisfies_170 (lv_at hl 0 rfl) ?_
              refine li_callw (wc := [(mo, .inr (10, [.int (iI mrf), .ref (ma 0), .int (iI mz), .ref (ma 1), .ref (ma 2), .int (iI mls), .int (iI mfp), .int (iI mfm), .ref (ma 3), .int (iI n_t), .ref (ma 4), .ref (ma 5), .int (iI vn), .ref (ma 6), .ref (ma 7), .int (iI n_a), .ref (ma 8), .ref (ma 9), .int (iI mli), .int (iI mlx), .ref (ma 10), .ref (ma 11), .int (iI mat), .int (iI mtk), .int (iI mtf), .int (iI mtt), .int (iI mfa), .int (iI mla), .int (iI mlp), .int (iI mdp), .ref (ma 12), .ref (ma 13), .int (iI msi), .int (iI (bI mdn)), .int (iI mpf), .int (iI mpt)])), (ma 1, .inl (kA 0, 4120, .inl (aI ca))), (ma 4, .inl (kA 0, 400, .inl (aI f_t))), (ma 5, .inl (kA 0, 400, .inl (aI g_t))), (ma 6, .inl (kA 0, 400, .inl (aI vf))), (ma 7, .inl (kA 0, 400, .inl (aI vt))), (ma 8, .inl (kA 0, 110, .inl (aI f_a))), (ma 9, .inl (kA 0, 110, .inl (aI g_a)))]) (wr := []) (va_runV (As := [.int (iI k)]) (rest := []) ⟨hx, hb, hml, hown, hts⟩ (c_M_isThere l dC dI kA H.size mo ma mrf mz mls mfp mfm n_t vn n_a mli mlx mat mtk mtf mtt mfa mla mlp mdp msi mpf mpt mdn ca f_t g_t vf vt f_a g_a k (gaT ca r ix) (spW ca true x y) (400 * r) (400 * r + 400) (by exact hca) (by exact hp121.1) (by exact hp121.2.1) (by omega) (by exact hp129.1) (by exact hp129.2.1.wide (by omega) (by omega)) (by omega) (by omega)) (cw_M_168 hts rfl rfl ⟨Nat.le_of_ble_eq_true rfl, Nat.le_of_ble_eq_true rfl⟩) (li_preV (va_recv hK hP (ci := 10) (q0 := 4) rfl rfl) ⟨rfl, hP.sub [4, 5, 2, 3, 0, 1, 6, 7] rfl, (hD.sub [4, 5, 2, 3, 0, 1, 6, 7] (by decide) rfl).weaken (fun _ _ _ h => hAN _ h), trivial⟩ hK hN (hG.go hS hAN)) rfl rfl hl.1 rfl (lv_room (Nat.le_of_ble_eq_true rfl)) d_M_satisfies_172 ⟨(by show 0 + 0 ≤ 0; omega), (by show 0 + 0 ≤ 0; omega)⟩) hP hD hS hA [4, 5, 2, 3, 0, 1, 6, 7] [] rfl rfl (by decide) (by decide) (fun u8 H locs hu8 hP hD hS _hk => ?_)
              obtain ⟨n_w, f_w, g_w⟩ := u8
              have hP : va_P (dC, dI) CL [(mo, .inr (10, [.int (iI mrf), .ref (ma 0), .int (iI mz), .ref (ma 1), .ref (ma 2), .int (iI mls), .int (iI mfp), .int (iI mfm), .ref (ma 3), .int (iI n_t), .ref (ma 4), .ref (ma 5), .int (iI n_w), .ref (ma 6), .ref (ma 7), .int (iI n_a), .ref (ma 8), .ref (ma 9), .int (iI mli), .int (iI mlx), .ref (ma 10), .ref (ma 11), .int (iI mat), .int (iI mtk), .int (iI mtf), .int (iI mtt), .int (iI mfa), .int (iI mla), .int (iI mlp), .int (iI mdp), .ref (ma 12), .ref (ma 13), .int (iI msi), .int (iI (bI mdn)), .int (iI mpf), .int (iI mpt)])), (ma 1, .inl (kA 0, 4120, .inl (aI ca))), (ma 4, .inl (kA 0, 400, .inl (aI f_t))), (ma 5, .inl (kA 0, 400, .inl (aI g_t))), (ma 6, .inl (kA 0, 400, .inl (aI f_w))), (ma 7, .inl (kA 0, 400, .inl (aI g_w))), (ma 8, .inl (kA 0, 110, .inl (aI f_a))), (ma 9, .inl (kA 0, 110, .inl (aI g_a)))] H := hP
              have hD : va_D A [(mo, .inr (10, [.int (iI mrf), .ref (ma 0), .int (iI mz), .ref (ma 1), .ref (ma 2), .int (iI mls), .int (iI mfp), .int (iI mfm), .ref (ma 3), .int (iI n_t), .ref (ma 4), .ref (ma 5), .int (iI n_w), .ref (ma 6), .ref (ma 7), .int (iI n_a), .ref (ma 8), .ref (ma 9), .int (iI mli), .int (iI mlx), .ref (ma 10), .ref (ma 11), .int (iI mat), .int (iI mtk), .int (iI mtf), .int (iI mtt), .int (iI mfa), .int (iI mla), .int (iI mlp), .int (iI mdp), .ref (ma 12), .ref (ma 13), .int (iI msi), .int (iI (bI mdn)), .int (iI mpf), .int (iI mpt)])), (ma 1, .inl (kA 0, 4120, .inl (aI ca))), (ma 4, .inl (kA 0, 400, .inl (aI f_t))), (ma 5, .inl (kA 0, 400, .inl (aI g_t))), (ma 6, .inl (kA 0, 400, .inl (aI f_w))), (ma 7, .inl (kA 0, 400, .inl (aI g_w))), (ma 8, .inl (kA 0, 110, .inl (aI f_a))), (ma 9, .inl (kA 0, 110, .inl (aI g_a)))] := hD
              refine lv_istore (lv' := [(9, .int (iI (bI (thM ca (gaT ca r ix) (f_a k.toNat, g_a k.toNat))))), (8, .int (iI k)), (7, .int (iI (bI b2))), (6, .int (iI (bI b1))), (0, .ref mo), (1, .int (iI r)), (2, .int (iI ix)), (3, .int (iI rel)), (4, .int (iI x)), (5, .int (iI y))]) hx hb d_M_satisfies_175 hl (by decide) rfl (fun ls hl => ?_)
              refine lv_iload hx hb d_M_satisfies_177 (lv_at hl 3 rfl) ?_
              refine li_bnz (tgt := 187) hx hb d_M_satisfies_179 (by decide) (fun c9 => ?_) (fun c9 => ?_)
              · have _q := c9
                refine lv_iconst (v := iI 1) hx hb d_M_satisfies_187 rfl ?_
                refine lv_goto (tgt := 192) hx hb d_M_satisfies_188 (by decide) ?_
                refine lv_istore (lv' := [(6, .int (iI 1)), (9, .int (iI (bI (thM ca (gaT ca r ix) (f_a k.toNat, g_a k.toNat))))), (8, .int (iI k)), (7, .int (iI (bI b2))), (0, .ref mo), (1, .int (iI r)), (2, .int (iI ix)), (3, .int (iI rel)), (4, .int (iI x)), (5, .int (iI y))]) hx hb d_M_satisfies_192 hl (by decide) rfl (fun ls hl => ?_)
                refine lv_iload hx hb d_M_satisfies_194 (lv_at hl 3 rfl) ?_
                refine li_bz (tgt := 208) hx hb d_M_satisfies_196 (by decide) (fun c10 => ?_) (fun c10 => ?_)
                · have _q := c10
                  refine lv_iconst (v := iI 0) hx hb d_M_satisfies_208 rfl ?_
                  refine lv_istore (lv' := [(7, .int (iI 0)), (6, .int (iI 1)), (9, .int (iI (bI (thM ca (gaT ca r ix) (f_a k.toNat, g_a k.toNat))))), (8, .int (iI k)), (0, .ref mo), (1, .int (iI r)), (2, .int (iI ix)), (3, .int (iI rel)), (4, .int (iI x)), (5, .int (iI y))]) hx hb d_M_satisfies_209 hl (by decide) rfl (fun ls hl => ?_)
                  obtain ⟨k_n, ek_n⟩ : ∃ y_9 : Int, y_9 = k + 1 := ⟨_, rfl⟩
                  refine lv_iinc (v := iI k_n) (lv' := [(8, .int (iI k_n)), (7, .int (iI 0)), (6, .int (iI 1)), (9, .int (iI (bI (thM ca (gaT ca r ix) (f_a k.toNat, g_a k.toNat))))), (0, .ref mo), (1, .int (iI r)), (2, .int (iI ix)), (3, .int (iI rel)), (4, .int (iI x)), (5, .int (iI y))]) hx hb d_M_satisfies_211 hl (k := 3) rfl (by rw [ek_n]; exact iI_add _ _) (by decide) rfl (fun ls hl => ?_)
                  refine lv_goto (tgt := 160) hx hb d_M_satisfies_214 (by decide) ?_
                  exact ih_160 k_n true false n_w f_w g_w (by omega) (by rw [ek_n, ← hso]; simp only [*, Bool.true_or, Bool.false_or, Bool.or_true]) (by rw [ek_n, ← hev]; simp only [*, Bool.true_and, Bool.false_and]) (by omega) _ _ (hP.sub [4, 5, 2, 3, 0, 1, 6, 7] rfl) (hD.sub [4, 5, 2, 3, 0, 1, 6, 7] (by decide) rfl) hS _ (lv_sub hl [0, 1, 2, 4, 5, 6, 7, 8, 9] rfl)
                · have _q := c10
                  refine lv_iload hx hb d_M_satisfies_199 (lv_at hl 1 rfl) ?_
                  refine li_bz (tgt := 208) hx hb d_M_satisfies_201 (by decide) (fun c11 => ?_) (fun c11 => ?_)
                  · have _q := c11
                    refine lv_iconst (v := iI 0) hx hb d_M_satisfies_208 rfl ?_
                    refine lv_istore (lv' := [(7, .int (iI 0)), (6, .int (iI 1)), (9, .int (iI (bI (thM ca (gaT ca r ix) (f_a k.toNat, g_a k.toNat))))), (8, .int (iI k)), (0, .ref mo), (1, .int (iI r)), (2, .int (iI ix)), (3, .int (iI rel)), (4, .int (iI x)), (5, .int (iI y))]) hx hb d_M_satisfies_209 hl (by decide) rfl (fun ls hl => ?_)
                    obtain ⟨k_n, ek_n⟩ : ∃ y_9 : Int, y_9 = k + 1 := ⟨_, rfl⟩
                    refine lv_iinc (v := iI k_n) (lv' := [(8, .int (iI k_n)), (7, .int (iI 0)), (6, .int (iI 1)), (9, .int (iI (bI (thM ca (gaT ca r ix) (f_a k.toNat, g_a k.toNat))))), (0, .ref mo), (1, .int (iI r)), (2, .int (iI ix)), (3, .int (iI rel)), (4, .int (iI x)), (5, .int (iI y))]) hx hb d_M_satisfies_211 hl (k := 3) rfl (by rw [ek_n]; exact iI_add _ _) (by decide) rfl (fun ls hl => ?_)
                    refine lv_goto (tgt := 160) hx hb d_M_satisfies_214 (by decide) ?_
                    exact ih_160 k_n true false n_w f_w g_w (by omega) (by rw [ek_n, ← hso]; simp only [*, Bool.true_or, Bool.false_or, Bool.or_true]) (by rw [ek_n, ← hev]; simp only [*, Bool.true_and, Bool.false_and]) (by omega) _ _ (hP.sub [4, 5, 2, 3, 0, 1, 6, 7] rfl) (hD.sub [4, 5, 2, 3, 0, 1, 6, 7] (by decide) rfl) hS _ (lv_sub hl [0, 1, 2, 4, 5, 6, 7, 8, 9] rfl)
                  · have _q := c11
                    refine lv_iconst (v := iI 1) hx hb d_M_satisfies_204 rfl ?_
                    refine lv_goto (tgt := 209) hx hb d_M_satisfies_205 (by decide) ?_
                    refine lv_istore (lv' := [(7, .int (iI 1)), (6, .int (iI 1)), (9, .int (iI (bI (thM ca (gaT ca r ix) (f_a k.toNat, g_a k.toNat))))), (8, .int (iI k)), (0, .ref mo), (1, .int (iI r)), (2, .int (iI ix)), (3, .int (iI rel)), (4, .int (iI x)), (5, .int (iI y))]) hx hb d_M_satisfies_209 hl (by decide) rfl (fun ls hl => ?_)
                    obtain ⟨k_n, ek_n⟩ : ∃ y_9 : Int, y_9 = k + 1 := ⟨_, rfl⟩
                    refine lv_iinc (v := iI k_n) (lv' := [(8, .int (iI k_n)), (7, .int (iI 1)), (6, .int (iI 1)), (9, .int (iI (bI (thM ca (gaT ca r ix) (f_a k.toNat, g_a k.toNat))))), (0, .ref mo), (1, .int (iI r)), (2, .int (iI ix)), (3, .int (iI rel)), (4, .int (iI x)), (5, .int (iI y))]) hx hb d_M_satisfies_211 hl (k := 3) rfl (by rw [ek_n]; exact iI_add _ _) (by decide) rfl (fun ls hl => ?_)
                    refine lv_goto (tgt := 160) hx hb d_M_satisfies_214 (by decide) ?_
                    exact ih_160 k_n true true n_w f_w g_w (by omega) (by rw [ek_n, ← hso]; simp only [*, Bool.true_or, Bool.false_or, Bool.or_true]) (by rw [ek_n, ← hev]; simp only [*, Bool.true_and, Bool.false_and]) (by omega) _ _ (hP.sub [4, 5, 2, 3, 0, 1, 6, 7] rfl) (hD.sub [4, 5, 2, 3, 0, 1, 6, 7] (by decide) rfl) hS _ (lv_sub hl [0, 1, 2, 4, 5, 6, 7, 8, 9] rfl)
              · have _q := c9
                refine lv_iload hx hb d_M_satisfies_182 (lv_at hl 0 rfl) ?_
                refine li_bz (tgt := 191) hx hb d_M_satisfies_184 (by decide) (fun c12 => ?_) (fun c12 => ?_)
                · have _q := c12
                  refine lv_iconst (v := iI 0) hx hb d_M_satisfies_191 rfl ?_
                  refine lv_istore (lv' := [(6, .int (iI 0)), (9, .int (iI (bI (thM ca (gaT ca r ix) (f_a k.toNat, g_a k.toNat))))), (8, .int (iI k)), (7, .int (iI (bI b2))), (0, .ref mo), (1, .int (iI r)), (2, .int (iI ix)), (3, .int (iI rel)), (4, .int (iI x)), (5, .int (iI y))]) hx hb d_M_satisfies_192 hl (by decide) rfl (fun ls hl => ?_)
                  refine lv_iload hx hb d_M_satisfies_194 (lv_at hl 3 rfl) ?_
                  refine li_bz (tgt := 208) hx hb d_M_satisfies_196 (by decide) (fun c13 => ?_) (fun c13 => ?_)
                  · have _q := c13
                    refine lv_iconst (v := iI 0) hx hb d_M_satisfies_208 rfl ?_
                    refine lv_istore (lv' := [(7, .int (iI 0)), (6, .int (iI 0)), (9, .int (iI (bI (thM ca (gaT ca r ix) (f_a k.toNat, g_a k.toNat))))), (8, .int (iI k)), (0, .ref mo), (1, .int (iI r)), (2, .int (iI ix)), (3, .int (iI rel)), (4, .int (iI x)), (5, .int (iI y))]) hx hb d_M_satisfies_209 hl (by decide) rfl (fun ls hl => ?_)
                    obtain ⟨k_n, ek_n⟩ : ∃ y_9 : Int, y_9 = k + 1 := ⟨_, rfl⟩
                    refine lv_iinc (v := iI k_n) (lv' := [(8, .int (iI k_n)), (7, .int (iI 0)), (6, .int (iI 0)), (9, .int (iI (bI (thM ca (gaT ca r ix) (f_a k.toNat, g_a k.toNat))))), (0, .ref mo), (1, .int (iI r)), (2, .int (iI ix)), (3, .int (iI rel)), (4, .int (iI x)), (5, .int (iI y))]) hx hb d_M_satisfies_211 hl (k := 3) rfl (by rw [ek_n]; exact iI_add _ _) (by decide) rfl (fun ls hl => ?_)
                    refine lv_goto (tgt := 160) hx hb d_M_satisfies_214 (by decide) ?_
                    exact ih_160 k_n false false n_w f_w g_w (by omega) (by rw [ek_n, ← hso]; simp only [*, Bool.true_or, Bool.false_or, Bool.or_true]) (by rw [ek_n, ← hev]; simp only [*, Bool.true_and, Bool.false_and]) (by omega) _ _ (hP.sub [4, 5, 2, 3, 0, 1, 6, 7] rfl) (hD.sub [4, 5, 2, 3, 0, 1, 6, 7] (by decide) rfl) hS _ (lv_sub hl [0, 1, 2, 4, 5, 6, 7, 8, 9] rfl)
                  · have _q := c13
                    refine lv_iload hx hb d_M_satisfies_199 (lv_at hl 1 rfl) ?_
                    refine li_bz (tgt := 208) hx hb d_M_satisfies_201 (by decide) (fun c14 => ?_) (fun c14 => ?_)
                    · have _q := c14
                      refine lv_iconst (v := iI 0) hx hb d_M_satisfies_208 rfl ?_
                      refine lv_istore (lv' := [(7, .int (iI 0)), (6, .int (iI 0)), (9, .int (iI (bI (thM ca (gaT ca r ix) (f_a k.toNat, g_a k.toNat))))), (8, .int (iI k)), (0, .ref mo), (1, .int (iI r)), (2, .int (iI ix)), (3, .int (iI rel)), (4, .int (iI x)), (5, .int (iI y))]) hx hb d_M_satisfies_209 hl (by decide) rfl (fun ls hl => ?_)
                      obtain ⟨k_n, ek_n⟩ : ∃ y_9 : Int, y_9 = k + 1 := ⟨_, rfl⟩
                      refine lv_iinc (v := iI k_n) (lv' := [(8, .int (iI k_n)), (7, .int (iI 0)), (6, .int (iI 0)), (9, .int (iI (bI (thM ca (gaT ca r ix) (f_a k.toNat, g_a k.toNat))))), (0, .ref mo), (1, .int (iI r)), (2, .int (iI ix)), (3, .int (iI rel)), (4, .int (iI x)), (5, .int (iI y))]) hx hb d_M_satisfies_211 hl (k := 3) rfl (by rw [ek_n]; exact iI_add _ _) (by decide) rfl (fun ls hl => ?_)
                      refine lv_goto (tgt := 160) hx hb d_M_satisfies_214 (by decide) ?_
                      exact ih_160 k_n false false n_w f_w g_w (by omega) (by rw [ek_n, ← hso]; simp only [*, Bool.true_or, Bool.false_or, Bool.or_true]) (by rw [ek_n, ← hev]; simp only [*, Bool.true_and, Bool.false_and]) (by omega) _ _ (hP.sub [4, 5, 2, 3, 0, 1, 6, 7] rfl) (hD.sub [4, 5, 2, 3, 0, 1, 6, 7] (by decide) rfl) hS _ (lv_sub hl [0, 1, 2, 4, 5, 6, 7, 8, 9] rfl)
                    · have _q := c14
                      exact absurd c14 (by rw [c12]; decide)
                · have _q := c12
                  refine lv_iconst (v := iI 1) hx hb d_M_satisfies_187 rfl ?_
                  refine lv_goto (tgt := 192) hx hb d_M_satisfies_188 (by decide) ?_
                  refine lv_istore (lv' := [(6, .int (iI 1)), (9, .int (iI (bI (thM ca (gaT ca r ix) (f_a k.toNat, g_a k.toNat))))), (8, .int (iI k)), (7, .int (iI (bI b2))), (0, .ref mo), (1, .int (iI r)), (2, .int (iI ix)), (3, .int (iI rel)), (4, .int (iI x)), (5, .int (iI y))]) hx hb d_M_satisfies_192 hl (by decide) rfl (fun ls hl => ?_)
                  refine lv_iload hx hb d_M_satisfies_194 (lv_at hl 3 rfl) ?_
                  refine li_bz (tgt := 208) hx hb d_M_satisfies_196 (by decide) (fun c15 => ?_) (fun c15 => ?_)
                  · have _q := c15
                    refine lv_iconst (v := iI 0) hx hb d_M_satisfies_208 rfl ?_
                    refine lv_istore (lv' := [(7, .int (iI 0)), (6, .int (iI 1)), (9, .int (iI (bI (thM ca (gaT ca r ix) (f_a k.toNat, g_a k.toNat))))), (8, .int (iI k)), (0, .ref mo), (1, .int (iI r)), (2, .int (iI ix)), (3, .int (iI rel)), (4, .int (iI x)), (5, .int (iI y))]) hx hb d_M_satisfies_209 hl (by decide) rfl (fun ls hl => ?_)
                    obtain ⟨k_n, ek_n⟩ : ∃ y_9 : Int, y_9 = k + 1 := ⟨_, rfl⟩
                    refine lv_iinc (v := iI k_n) (lv' := [(8, .int (iI k_n)), (7, .int (iI 0)), (6, .int (iI 1)), (9, .int (iI (bI (thM ca (gaT ca r ix) (f_a k.toNat, g_a k.toNat))))), (0, .ref mo), (1, .int (iI r)), (2, .int (iI ix)), (3, .int (iI rel)), (4, .int (iI x)), (5, .int (iI y))]) hx hb d_M_satisfies_211 hl (k := 3) rfl (by rw [ek_n]; exact iI_add _ _) (by decide) rfl (fun ls hl => ?_)
                    refine lv_goto (tgt := 160) hx hb d_M_satisfies_214 (by decide) ?_
                    exact ih_160 k_n true false n_w f_w g_w (by omega) (by rw [ek_n, ← hso]; simp only [*, Bool.true_or, Bool.false_or, Bool.or_true]) (by rw [ek_n, ← hev]; simp only [*, Bool.true_and, Bool.false_and]) (by omega) _ _ (hP.sub [4, 5, 2, 3, 0, 1, 6, 7] rfl) (hD.sub [4, 5, 2, 3, 0, 1, 6, 7] (by decide) rfl) hS _ (lv_sub hl [0, 1, 2, 4, 5, 6, 7, 8, 9] rfl)
                  · have _q := c15
                    refine lv_iload hx hb d_M_satisfies_199 (lv_at hl 1 rfl) ?_
                    refine li_bz (tgt := 208) hx hb d_M_satisfies_201 (by decide) (fun c16 => ?_) (fun c16 => ?_)
                    · have _q := c16
                      exact absurd c16 (by rw [c12]; decide)
                    · have _q := c16
                      refine lv_iconst (v := iI 1) hx hb d_M_satisfies_204 rfl ?_
                      refine lv_goto (tgt := 209) hx hb d_M_satisfies_205 (by decide) ?_
                      refine lv_istore (lv' := [(7, .int (iI 1)), (6, .int (iI 1)), (9, .int (iI (bI (thM ca (gaT ca r ix) (f_a k.toNat, g_a k.toNat))))), (8, .int (iI k)), (0, .ref mo), (1, .int (iI r)), (2, .int (iI ix)), (3, .int (iI rel)), (4, .int (iI x)), (5, .int (iI y))]) hx hb d_M_satisfies_209 hl (by decide) rfl (fun ls hl => ?_)
                      obtain ⟨k_n, ek_n⟩ : ∃ y_9 : Int, y_9 = k + 1 := ⟨_, rfl⟩
                      refine lv_iinc (v := iI k_n) (lv' := [(8, .int (iI k_n)), (7, .int (iI 1)), (6, .int (iI 1)), (9, .int (iI (bI (thM ca (gaT ca r ix) (f_a k.toNat, g_a k.toNat))))), (0, .ref mo), (1, .int (iI r)), (2, .int (iI ix)), (3, .int (iI rel)), (4, .int (iI x)), (5, .int (iI y))]) hx hb d_M_satisfies_211 hl (k := 3) rfl (by rw [ek_n]; exact iI_add _ _) (by decide) rfl (fun ls hl => ?_)
                      refine lv_goto (tgt := 160) hx hb d_M_satisfies_214 (by decide) ?_
                      exact ih_160 k_n true true n_w f_w g_w (by omega) (by rw [ek_n, ← hso]; simp only [*, Bool.true_or, Bool.false_or, Bool.or_true]) (by rw [ek_n, ← hev]; simp only [*, Bool.true_and, Bool.false_and]) (by omega) _ _ (hP.sub [4, 5, 2, 3, 0, 1, 6, 7] rfl) (hD.sub [4, 5, 2, 3, 0, 1, 6, 7] (by decide) rfl) hS _ (lv_sub hl [0, 1, 2, 4, 5, 6, 7, 8, 9] rfl)
        exact K_160 ((n_a - 0).toNat + 1) 0 false true mwd cwf cwt (by omega) (by rfl) (by rfl) (Nat.lt_succ_self _) _ _ hP hD hS _ (lv_sub hl [0, 1, 2, 3, 4, 5, 6, 7, 8] rfl)
      · have _q := c5
        refine lv_iload_n hx hb d_M_satisfies_146 rfl (lv_at hl 3 rfl) ?_
        refine lv_iconst (v := iI 2) hx hb d_M_satisfies_147 rfl ?_
        refine li_icmp_ne (tgt := 230) hx hb d_M_satisfies_148 (by decide) (by omega) (by omega) (fun c17 => ?_) (fun c17 => ?_)
        · have _q := c17
          refine lv_iconst (v := iI 0) hx hb d_M_satisfies_230 rfl ?_
          refine lv_istore (lv' := [(6, .int (iI 0)), (0, .ref mo), (1, .int (iI r)), (2, .int (iI ix)), (3, .int (iI rel)), (4, .int (iI x)), (5, .int (iI y))]) hx hb d_M_satisfies_231 hl (by decide) rfl (fun ls hl => ?_)
          refine lv_iconst (v := iI 0) hx hb d_M_satisfies_233 rfl ?_
          refine lv_istore (lv' := [(7, .int (iI 0)), (6, .int (iI 0)), (0, .ref mo), (1, .int (iI r)), (2, .int (iI ix)), (3, .int (iI rel)), (4, .int (iI x)), (5, .int (iI y))]) hx hb d_M_satisfies_234 hl (by decide) rfl (fun ls hl => ?_)
          have K_236 : ∀ (nn_236 : Nat) (t9 : Int) (b : Bool) (vn : Int) (vf : Nat → Int) (vt : Nat → Int), (0 ≤ t9 ∧ t9 ≤ n_t) → ((b || ((gaT ca r ix).drop t9.toNat).any (saP ca rel (spW ca true x y))) = (gaT ca r ix).any (saP ca rel (spW ca true x y))) → ((n_t - t9).toNat < nn_236) → ∀ (H : Heap) (locs : List Loc), va_P (dC, dI) CL [(ma 6, .inl (kA 0, 400, .inl (aI vf))), (ma 7, .inl (kA 0, 400, .inl (aI vt))), (ma 4, .inl (kA 0, 400, .inl (aI f_t))), (ma 5, .inl (kA 0, 400, .inl (aI g_t))), (mo, .inr (10, [.int (iI mrf), .ref (ma 0), .int (iI mz), .ref (ma 1), .ref (ma 2), .int (iI mls), .int (iI mfp), .int (iI mfm), .ref (ma 3), .int (iI n_t), .ref (ma 4), .ref (ma 5), .int (iI vn), .ref (ma 6), .ref (ma 7), .int (iI n_a), .ref (ma 8), .ref (ma 9), .int (iI mli), .int (iI mlx), .ref (ma 10), .ref (ma 11), .int (iI mat), .int (iI mtk), .int (iI mtf), .int (iI mtt), .int (iI mfa), .int (iI mla), .int (iI mlp), .int (iI mdp), .ref (ma 12), .ref (ma 13), .int (iI msi), .int (iI (bI mdn)), .int (iI mpf), .int (iI mpt)])), (ma 1, .inl (kA 0, 4120, .inl (aI ca))), (ma 8, .inl (kA 0, 110, .inl (aI f_a))), (ma 9, .inl (kA 0, 110, .inl (aI g_a)))] H → va_D A [(ma 6, .inl (kA 0, 400, .inl (aI vf))), (ma 7, .inl (kA 0, 400, .inl (aI vt))), (ma 4, .inl (kA 0, 400, .inl (aI f_t))), (ma 5, .inl (kA 0, 400, .inl (aI g_t))), (mo, .inr (10, [.int (iI mrf), .ref (ma 0), .int (iI mz), .ref (ma 1), .ref (ma 2), .int (iI mls), .int (iI mfp), .int (iI mfm), .ref (ma 3), .int (iI n_t), .ref (ma 4), .ref (ma 5), .int (iI vn), .ref (ma 6), .ref (ma 7), .int (iI n_a), .ref (ma 8), .ref (ma 9), .int (iI mli), .int (iI mlx), .ref (ma 10), .ref (ma 11), .int (iI mat), .int (iI mtk), .int (iI mtf), .int (iI mtt), .int (iI mfa), .int (iI mla), .int (iI mlp), .int (iI mdp), .ref (ma 12), .ref (ma 13), .int (iI msi), .int (iI (bI mdn)), .int (iI mpf), .int (iI mpt)])), (ma 1, .inl (kA 0, 4120, .inl (aI ca))), (ma 8, .inl (kA 0, 110, .inl (aI f_a))), (ma 9, .inl (kA 0, 110, .inl (aI g_a)))] → va_S A s.heap H locs → ∀ ls : Array Slot, lv_has ls 10 [(7, .int (iI t9)), (6, .int (iI (bI b))), (0, .ref mo), (1, .int (iI r)), (2, .int (iI ix)), (3, .int (iI rel)), (4, .int (iI x)), (5, .int (iI y))] → W p l e (rmd 5 0 0) s m args below meth c H locs 0 0 Q (F0 m 236 ls []) := by
            intro nn_236
            induction nn_236 with
            | zero => intro t9 b vn vf vt ht9 hres hm; exact absurd hm (Nat.not_lt_zero _)
            | succ nn_236 ih_236 =>
              intro t9 b vn vf vt ht9 hres hm_236 H locs hP hD hS ls hl
              refine lv_iload hx hb d_M_satisfies_236 (lv_at hl 0 rfl) ?_
              refine lv_aload_n hx hb d_M_satisfies_238 rfl (lv_at hl 2 rfl) ?_
              refine gf_M_113 hx hb hts hown hK hP 4 rfl rfl d_M_satisfies_239 ?_
              refine li_icmp_ge (tgt := 352) hx hb d_M_satisfies_242 (by decide) (by omega) (by omega) (fun c18 => ?_) (fun c18 => ?_)
              · have _q := c18
                rw [hp121.1.dropE (k := t9) (by omega), List.any_nil, Bool.or_false] at hres
                refine lv_iload hx hb d_M_satisfies_352 (lv_at hl 1 rfl) ?_
                exact fin (n_t, f_t, g_t, vn, vf, vt, n_a, f_a, g_a) _ _ _ _ _ (by rw [hE, if_neg (by omega), if_neg (by omega), ← hres]; first | done | (rw [show b = true by assumption]; done)) (by trivial) (by first | exact hP.sub [4, 5, 2, 3, 0, 1, 6, 7] rfl | (subst_vars; exact hP.sub [4, 5, 2, 3, 0, 1, 6, 7] rfl)) (by first | exact hD.sub [4, 5, 2, 3, 0, 1, 6, 7] (by decide) rfl | (subst_vars; exact hD.sub [4, 5, 2, 3, 0, 1, 6, 7] (by decide) rfl)) hS d_M_satisfies_354
              · have _q := c18
                have hdr := hp121.1.drop (k := t9) (by omega) (by omega)
                have hmb := hp121.2.1 _ (hp121.1.mem (k := t9) (by omega) (by omega))
                simp only at hmb
                rw [hdr, List.any_cons] at hres
                refine lv_iload hx hb d_M_satisfies_245 (lv_at hl 1 rfl) ?_
                refine li_bnz (tgt := 352) hx hb d_M_satisfies_247 (by decide) (fun c19 => ?_) (fun c19 => ?_)
                · have _q := c19
                  rw [show b = true by assumption, Bool.true_or] at hres
                  refine lv_iload hx hb d_M_satisfies_352 (lv_at hl 1 rfl) ?_
                  exact fin (n_t, f_t, g_t, vn, vf, vt, n_a, f_a, g_a) _ _ _ _ _ (by rw [hE, if_neg (by omega), if_neg (by omega), ← hres]; first | done | (rw [show b = true by assumption]; done)) (by trivial) (by first | exact hP.sub [4, 5, 2, 3, 0, 1, 6, 7] rfl | (subst_vars; exact hP.sub [4, 5, 2, 3, 0, 1, 6, 7] rfl)) (by first | exact hD.sub [4, 5, 2, 3, 0, 1, 6, 7] (by decide) rfl | (subst_vars; exact hD.sub [4, 5, 2, 3, 0, 1, 6, 7] (by decide) rfl)) hS d_M_satisfies_354
                · have _q := c19
                  rw [show b = false by assumption, Bool.false_or] at hres
                  refine lv_aload_n hx hb d_M_satisfies_250 rfl (lv_at hl 2 rfl) ?_
                  refine lv_aload_n hx hb d_M_satisfies_251 rfl (lv_at hl 2 rfl) ?_
                  refine gf_M_26 hx hb hts hown hK hP 4 rfl rfl d_M_satisfies_252 ?_
                  refine lv_iload hx hb d_M_satisfies_255 (lv_at hl 0 rfl) ?_
                  refine li_iald hx hb hK hP 2 0 rfl rfl (by omega) (by omega) (by omega) d_M_satisfies_257 ?_
                  refine lv_aload_n hx hb d_M_satisfies_258 rfl (lv_at hl 2 rfl) ?_
                  refine gf_M_29 hx hb hts hown hK hP 4 rfl rfl d_M_satisfies_259 ?_
                  refine lv_iload hx hb d_M_satisfies_262 (lv_at hl 0 rfl) ?_
                  refine li_iald hx hb hK hP 3 0 rfl rfl (by omega) (by omega) (by omega) d_M_satisfies_264 ?_
                  refine li_callw (wc := [(mo, .inr (10, [.int (iI mrf), .ref (ma 0), .int (iI mz), .ref (ma 1), .ref (ma 2), .int (iI mls), .int (iI mfp), .int (iI mfm), .ref (ma 3), .int (iI n_t), .ref (ma 4), .ref (ma 5), .int (iI vn), .ref (ma 6), .ref (ma 7), .int (iI n_a), .ref (ma 8), .ref (ma 9), .int (iI mli), .int (iI mlx), .ref (ma 10), .ref (ma 11), .int (iI mat), .int (iI mtk), .int (iI mtf), .int (iI mtt), .int (iI mfa), .int (iI mla), .int (iI mlp), .int (iI mdp), .ref (ma 12), .ref (ma 13), .int (iI msi), .int (iI (bI mdn)), .int (iI mpf), .int (iI mpt)])), (ma 1, .inl (kA 0, 4120, .inl (aI ca))), (ma 6, .inl (kA 0, 400, .inl (aI vf))), (ma 7, .inl (kA 0, 400, .inl (aI vt)))]) (wr := [(ma 4, .inl (kA 0, 400, .inl (aI f_t))), (ma 5, .inl (kA 0, 400, .inl (aI g_t))), (ma 8, .inl (kA 0, 110, .inl (aI f_a))), (ma 9, .inl (kA 0, 110, .inl (aI g_a)))]) (va_runV (As := [.int (iI (f_t t9.toNat)), .int (iI (g_t t9.toNat))]) (rest := []) ⟨hx, hb, hml, hown, hts⟩ (c_M_split l dC dI kA H.size mo ma mrf mz mls mfp mfm n_t vn n_a mli mlx mat mtk mtf mtt mfa mla mlp mdp msi mpf mpt mdn ca vf vt (f_t t9.toNat) (g_t t9.toNat) (by exact hca) (by omega)) (cw_M_159 hts rfl rfl ⟨Nat.le_of_ble_eq_true rfl, Nat.le_of_ble_eq_true rfl⟩) (li_preV (va_recv hK hP (ci := 10) (q0 := 4) rfl rfl) ⟨rfl, hP.sub [4, 5, 0, 1] rfl, (hD.sub [4, 5, 0, 1] (by decide) rfl).weaken (fun _ _ _ h => hAN _ h), trivial⟩ hK hN (hG.go hS hAN)) rfl rfl hl.1 rfl (lv_room (Nat.le_of_ble_eq_true rfl)) d_M_satisfies_265 ⟨(by show 0 + 0 ≤ 0; omega), (by show 0 + 0 ≤ 0; omega)⟩) hP hD hS hA [4, 5, 0, 1] [2, 3, 6, 7] rfl rfl (by decide) (by decide) (fun u20 H locs hu20 hP hD hS _hk => ?_)
                  obtain ⟨n_w, f_w, g_w⟩ := u20
                  have hP : va_P (dC, dI) CL [(ma 4, .inl (kA 0, 400, .inl (aI f_t))), (ma 5, .inl (kA 0, 400, .inl (aI g_t))), (ma 8, .inl (kA 0, 110, .inl (aI f_a))), (ma 9, .inl (kA 0, 110, .inl (aI g_a))), (mo, .inr (10, [.int (iI mrf), .ref (ma 0), .int (iI mz), .ref (ma 1), .ref (ma 2), .int (iI mls), .int (iI mfp), .int (iI mfm), .ref (ma 3), .int (iI n_t), .ref (ma 4), .ref (ma 5), .int (iI n_w), .ref (ma 6), .ref (ma 7), .int (iI n_a), .ref (ma 8), .ref (ma 9), .int (iI mli), .int (iI mlx), .ref (ma 10), .ref (ma 11), .int (iI mat), .int (iI mtk), .int (iI mtf), .int (iI mtt), .int (iI mfa), .int (iI mla), .int (iI mlp), .int (iI mdp), .ref (ma 12), .ref (ma 13), .int (iI msi), .int (iI (bI mdn)), .int (iI mpf), .int (iI mpt)])), (ma 1, .inl (kA 0, 4120, .inl (aI ca))), (ma 6, .inl (kA 0, 400, .inl (aI f_w))), (ma 7, .inl (kA 0, 400, .inl (aI g_w)))] H := hP
                  have hD : va_D A [(ma 4, .inl (kA 0, 400, .inl (aI f_t))), (ma 5, .inl (kA 0, 400, .inl (aI g_t))), (ma 8, .inl (kA 0, 110, .inl (aI f_a))), (ma 9, .inl (kA 0, 110, .inl (aI g_a))), (mo, .inr (10, [.int (iI mrf), .ref (ma 0), .int (iI mz), .ref (ma 1), .ref (ma 2), .int (iI mls), .int (iI mfp), .int (iI mfm), .ref (ma 3), .int (iI n_t), .ref (ma 4), .ref (ma 5), .int (iI n_w), .ref (ma 6), .ref (ma 7), .int (iI n_a), .ref (ma 8), .ref (ma 9), .int (iI mli), .int (iI mlx), .ref (ma 10), .ref (ma 11), .int (iI mat), .int (iI mtk), .int (iI mtf), .int (iI mtt), .int (iI mfa), .int (iI mla), .int (iI mlp), .int (iI mdp), .ref (ma 12), .ref (ma 13), .int (iI msi), .int (iI (bI mdn)), .int (iI mpf), .int (iI mpt)])), (ma 1, .inl (kA 0, 4120, .inl (aI ca))), (ma 6, .inl (kA 0, 400, .inl (aI f_w))), (ma 7, .inl (kA 0, 400, .inl (aI g_w)))] := hD
                  have hp265 : HL (spW ca false (f_t t9.toNat) (g_t t9.toNat)) n_w f_w g_w ∧ LB (spW ca false (f_t t9.toNat) (g_t t9.toNat)) (f_t t9.toNat) (g_t t9.toNat) ∧ n_w ≤ 400 := hu20
                  have hnw := hp265.1.nn
                  refine lv_iload_n hx hb d_M_satisfies_268 rfl (lv_at hl 5 rfl) ?_
                  refine lv_iconst (v := iI 4) hx hb d_M_satisfies_269 rfl ?_
                  refine li_icmp_ne (tgt := 302) hx hb d_M_satisfies_270 (by decide) (by omega) (by omega) (fun c21 => ?_) (fun c21 => ?_)
                  · have _q := c21
                    have hsp : saP ca rel (spW ca true x y) (f_t t9.toNat, g_t t9.toNat) = adL ca (spW ca true x y) (spW ca false (f_t t9.toNat) (g_t t9.toNat)) := by unfold saP; rw [if_neg (by assumption)]; rfl
                    rw [hsp] at hres
                    refine lv_iconst (v := iI 0) hx hb d_M_satisfies_302 rfl ?_
                    refine lv_istore (lv' := [(8, .int (iI 0)), (7, .int (iI t9)), (6, .int (iI (bI b))), (0, .ref mo), (1, .int (iI r)), (2, .int (iI ix)), (3, .int (iI rel)), (4, .int (iI x)), (5, .int (iI y))]) hx hb d_M_satisfies_303 hl (by decide) rfl (fun ls hl => ?_)
                    have K_305 : ∀ (nn_305 : Nat) (w9 : Int) (b2 : Bool), (0 ≤ w9 ∧ w9 ≤ n_w + 1) → ((b2 || adL ca (spW ca true x y) ((spW ca false (f_t t9.toNat) (g_t t9.toNat)).drop w9.toNat)) = adL ca (spW ca true x y) (spW ca false (f_t t9.toNat) (g_t t9.toNat))) → ((n_w + 2 - w9).toNat < nn_305) → ∀ (H : Heap) (locs : List Loc), va_P (dC, dI) CL [(ma 4, .inl (kA 0, 400, .inl (aI f_t))), (ma 5, .inl (kA 0, 400, .inl (aI g_t))), (ma 8, .inl (kA 0, 110, .inl (aI f_a))), (ma 9, .inl (kA 0, 110, .inl (aI g_a))), (mo, .inr (10, [.int (iI mrf), .ref (ma 0), .int (iI mz), .ref (ma 1), .ref (ma 2), .int (iI mls), .int (iI mfp), .int (iI mfm), .ref (ma 3), .int (iI n_t), .ref (ma 4), .ref (ma 5), .int (iI n_w), .ref (ma 6), .ref (ma 7), .int (iI n_a), .ref (ma 8), .ref (ma 9), .int (iI mli), .int (iI mlx), .ref (ma 10), .ref (ma 11), .int (iI mat), .int (iI mtk), .int (iI mtf), .int (iI mtt), .int (iI mfa), .int (iI mla), .int (iI mlp), .int (iI mdp), .ref (ma 12), .ref (ma 13), .int (iI msi), .int (iI (bI mdn)), .int (iI mpf), .int (iI mpt)])), (ma 1, .inl (kA 0, 4120, .inl (aI ca))), (ma 6, .inl (kA 0, 400, .inl (aI f_w))), (ma 7, .inl (kA 0, 400, .inl (aI g_w)))] H → va_D A [(ma 4, .inl (kA 0, 400, .inl (aI f_t))), (ma 5, .inl (kA 0, 400, .inl (aI g_t))), (ma 8, .inl (kA 0, 110, .inl (aI f_a))), (ma 9, .inl (kA 0, 110, .inl (aI g_a))), (mo, .inr (10, [.int (iI mrf), .ref (ma 0), .int (iI mz), .ref (ma 1), .ref (ma 2), .int (iI mls), .int (iI mfp), .int (iI mfm), .ref (ma 3), .int (iI n_t), .ref (ma 4), .ref (ma 5), .int (iI n_w), .ref (ma 6), .ref (ma 7), .int (iI n_a), .ref (ma 8), .ref (ma 9), .int (iI mli), .int (iI mlx), .ref (ma 10), .ref (ma 11), .int (iI mat), .int (iI mtk), .int (iI mtf), .int (iI mtt), .int (iI mfa), .int (iI mla), .int (iI mlp), .int (iI mdp), .ref (ma 12), .ref (ma 13), .int (iI msi), .int (iI (bI mdn)), .int (iI mpf), .int (iI mpt)])), (ma 1, .inl (kA 0, 4120, .inl (aI ca))), (ma 6, .inl (kA 0, 400, .inl (aI f_w))), (ma 7, .inl (kA 0, 400, .inl (aI g_w)))] → va_S A s.heap H locs → ∀ ls : Array Slot, lv_has ls 10 [(8, .int (iI w9)), (7, .int (iI t9)), (6, .int (iI (bI b2))), (0, .ref mo), (1, .int (iI r)), (2, .int (iI ix)), (3, .int (iI rel)), (4, .int (iI x)), (5, .int (iI y))] → W p l e (rmd 5 0 0) s m args below meth c H locs 0 0 Q (F0 m 305 ls []) := by
                      intro nn_305
                      induction nn_305 with
                      | zero => intro w9 b2 hw9 hin hm; exact absurd hm (Nat.not_lt_zero _)
                      | succ nn_305 ih_305 =>
                        intro w9 b2 hw9 hin hm_305 H locs hP hD hS ls hl
                        refine lv_iload hx hb d_M_satisfies_305 (lv_at hl 0 rfl) ?_
                        refine lv_aload_n hx hb d_M_satisfies_307 rfl (lv_at hl 3 rfl) ?_
                        refine gf_M_152 hx hb hts hown hK hP 4 rfl rfl d_M_satisfies_308 ?_
                        refine li_iadd hx hb d_M_satisfies_311 ?_
                        refine lv_aload_n hx hb d_M_satisfies_312 rfl (lv_at hl 3 rfl) ?_
                        refine gf_M_142 hx hb hts hown hK hP 4 rfl rfl d_M_satisfies_313 ?_
                        refine li_icmp_gt (tgt := 346) hx hb d_M_satisfies_316 (by decide) (by omega) (by omega) (fun c22 => ?_) (fun c22 => ?_)
                        · have _q := c22
                          rw [adL_short _ _ (by rw [List.length_drop]; have := hp129.1.1; have := hp265.1.1; omega), Bool.or_false] at hin
                          obtain ⟨t_n, et_n⟩ : ∃ y_9 : Int, y_9 = t9 + 1 := ⟨_, rfl⟩
                          refine lv_iinc (v := iI t_n) (lv' := [(7, .int (iI t_n)), (8, .int (iI w9)), (6, .int (iI (bI b2))), (0, .ref mo), (1, .int (iI r)), (2, .int (iI ix)), (3, .int (iI rel)), (4, .int (iI x)), (5, .int (iI y))]) hx hb d_M_satisfies_346 hl (k := 1) rfl (by rw [et_n]; exact iI_add _ _) (by decide) rfl (fun ls hl => ?_)
                          refine lv_goto (tgt := 236) hx hb d_M_satisfies_349 (by decide) ?_
                          exact ih_236 t_n b2 n_w f_w g_w (by omega) (by rw [et_n, hin]; exact hres) (by omega) _ _ (hP.sub [6, 7, 0, 1, 4, 5, 2, 3] rfl) (hD.sub [6, 7, 0, 1, 4, 5, 2, 3] (by decide) rfl) hS _ (lv_sub hl [0, 2, 3, 4, 5, 6, 7, 8] rfl)
                        · have _q := c22
                          have hdw := hp265.1.drop (k := w9) (by omega) (by omega)
                          rw [hdw] at hin
                          simp only [adL] at hin
                          rw [← hdw] at hin
                          refine lv_iload hx hb d_M_satisfies_319 (lv_at hl 2 rfl) ?_
                          refine li_bnz (tgt := 333) hx hb d_M_satisfies_321 (by decide) (fun c23 => ?_) (fun c23 => ?_)
                          · have _q := c23
                            rw [show b2 = true by assumption, Bool.true_or] at hin
                            refine lv_iconst (v := iI 1) hx hb d_M_satisfies_333 rfl ?_
                            refine lv_goto (tgt := 338) hx hb d_M_satisfies_334 (by decide) ?_
                            refine lv_istore (lv' := [(6, .int (iI 1)), (8, .int (iI w9)), (7, .int (iI t9)), (0, .ref mo), (1, .int (iI r)), (2, .int (iI ix)), (3, .int (iI rel)), (4, .int (iI x)), (5, .int (iI y))]) hx hb d_M_satisfies_338 hl (by decide) rfl (fun ls hl => ?_)
                            obtain ⟨w_n, ew_n⟩ : ∃ y_9 : Int, y_9 = w9 + 1 := ⟨_, rfl⟩
                            refine lv_iinc (v := iI w_n) (lv' := [(8, .int (iI w_n)), (6, .int (iI 1)), (7, .int (iI t9)), (0, .ref mo), (1, .int (iI r)), (2, .int (iI ix)), (3, .int (iI rel)), (4, .int (iI x)), (5, .int (iI y))]) hx hb d_M_satisfies_340 hl (k := 1) rfl (by rw [ew_n]; exact iI_add _ _) (by decide) rfl (fun ls hl => ?_)
                            refine lv_goto (tgt := 305) hx hb d_M_satisfies_343 (by decide) ?_
                            exact ih_305 w_n true (by omega) (by rw [ew_n]; first | (rw [← hin]; simp; done) | exact hin) (by omega) _ _ hP hD hS _ (lv_sub hl [0, 2, 1, 3, 4, 5, 6, 7, 8] rfl)
                          · have _q := c23
                            refine lv_aload_n hx hb d_M_satisfies_324 rfl (lv_at hl 3 rfl) ?_
                            refine lv_iload hx hb d_M_satisfies_325 (lv_at hl 0 rfl) ?_
                            refine li_callr ((va_runV (As := [.int (iI w9)]) (rest := []) ⟨hx, hb, hml, hown, hts⟩ (c_M_standsAt l dC dI kA mo ma mrf mz mls mfp mfm n_t n_w n_a mli mlx mat mtk mtf mtt mfa mla mlp mdp msi mpf mpt mdn ca f_w g_w f_a g_a w9 (spW ca true x y) (spW ca false (f_t t9.toNat) (g_t t9.toNat)) (f_t t9.toNat) (g_t t9.toNat) (by exact hca) (by omega) (by exact hp129.1) (by exact hp265.1) (by exact hp129.2.1.wide (by omega) (by omega)) (by exact hp265.2.1) (by omega)) (cw_M_171 hts rfl rfl ⟨Nat.le_of_ble_eq_true rfl, Nat.le_of_ble_eq_true rfl⟩) (li_preV (va_recv hK hP (ci := 10) (q0 := 4) rfl rfl) (hP.sub [4, 5, 6, 7, 2, 3] rfl) hK hN (hG.go hS hAN)) rfl rfl hl.1 rfl (lv_room (Nat.le_of_ble_eq_true rfl)) d_M_satisfies_327 ⟨(by show 0 + 0 ≤ 0; omega), (by show 0 + 0 ≤ 0; omega)⟩).run) ?_
                            refine li_bz (tgt := 337) hx hb d_M_satisfies_330 (by decide) (fun c24 => ?_) (fun c24 => ?_)
                            · have _q := c24
                              rw [show b2 = false by assumption, Bool.false_or, show prM ca (spW ca true x y) ((spW ca false (f_t t9.toNat) (g_t t9.toNat)).drop w9.toNat) = false by assumption, Bool.false_or] at hin
                              refine lv_iconst (v := iI 0) hx hb d_M_satisfies_337 rfl ?_
                              refine lv_istore (lv' := [(6, .int (iI 0)), (8, .int (iI w9)), (7, .int (iI t9)), (0, .ref mo), (1, .int (iI r)), (2, .int (iI ix)), (3, .int (iI rel)), (4, .int (iI x)), (5, .int (iI y))]) hx hb d_M_satisfies_338 hl (by decide) rfl (fun ls hl => ?_)
                              obtain ⟨w_n, ew_n⟩ : ∃ y_9 : Int, y_9 = w9 + 1 := ⟨_, rfl⟩
                              refine lv_iinc (v := iI w_n) (lv' := [(8, .int (iI w_n)), (6, .int (iI 0)), (7, .int (iI t9)), (0, .ref mo), (1, .int (iI r)), (2, .int (iI ix)), (3, .int (iI rel)), (4, .int (iI x)), (5, .int (iI y))]) hx hb d_M_satisfies_340 hl (k := 1) rfl (by rw [ew_n]; exact iI_add _ _) (by decide) rfl (fun ls hl => ?_)
                              refine lv_goto (tgt := 305) hx hb d_M_satisfies_343 (by decide) ?_
                              exact ih_305 w_n false (by omega) (by rw [ew_n]; first | (rw [← hin]; simp; done) | exact hin) (by omega) _ _ hP hD hS _ (lv_sub hl [0, 2, 1, 3, 4, 5, 6, 7, 8] rfl)
                            · have _q := c24
                              rw [show b2 = false by assumption, Bool.false_or, show prM ca (spW ca true x y) ((spW ca false (f_t t9.toNat) (g_t t9.toNat)).drop w9.toNat) = true by assumption, Bool.true_or] at hin
                              refine lv_iconst (v := iI 1) hx hb d_M_satisfies_333 rfl ?_
                              refine lv_goto (tgt := 338) hx hb d_M_satisfies_334 (by decide) ?_
                              refine lv_istore (lv' := [(6, .int (iI 1)), (8, .int (iI w9)), (7, .int (iI t9)), (0, .ref mo), (1, .int (iI r)), (2, .int (iI ix)), (3, .int (iI rel)), (4, .int (iI x)), (5, .int (iI y))]) hx hb d_M_satisfies_338 hl (by decide) rfl (fun ls hl => ?_)
                              obtain ⟨w_n, ew_n⟩ : ∃ y_9 : Int, y_9 = w9 + 1 := ⟨_, rfl⟩
                              refine lv_iinc (v := iI w_n) (lv' := [(8, .int (iI w_n)), (6, .int (iI 1)), (7, .int (iI t9)), (0, .ref mo), (1, .int (iI r)), (2, .int (iI ix)), (3, .int (iI rel)), (4, .int (iI x)), (5, .int (iI y))]) hx hb d_M_satisfies_340 hl (k := 1) rfl (by rw [ew_n]; exact iI_add _ _) (by decide) rfl (fun ls hl => ?_)
                              refine lv_goto (tgt := 305) hx hb d_M_satisfies_343 (by decide) ?_
                              exact ih_305 w_n true (by omega) (by rw [ew_n]; first | (rw [← hin]; simp; done) | exact hin) (by omega) _ _ hP hD hS _ (lv_sub hl [0, 2, 1, 3, 4, 5, 6, 7, 8] rfl)
                    exact K_305 ((n_w + 2 - 0).toNat + 1) 0 b (by omega) (by rw [show b = false by assumption]; rfl) (Nat.lt_succ_self _) _ _ hP hD hS _ (lv_sub hl [0, 1, 2, 3, 4, 5, 6, 7, 8] rfl)
                  · have _q := c21
                    have hsp : saP ca rel (spW ca true x y) (f_t t9.toNat, g_t t9.toNat) = exT ca (spW ca true x y) (f_t t9.toNat, g_t t9.toNat) := by unfold saP; rw [if_pos (by assumption)]
                    rw [hsp] at hres
                    refine lv_aload_n hx hb d_M_satisfies_273 rfl (lv_at hl 2 rfl) ?_
                    refine gf_M_142 hx hb hts hown hK hP 4 rfl rfl d_M_satisfies_274 ?_
                    refine lv_aload_n hx hb d_M_satisfies_277 rfl (lv_at hl 2 rfl) ?_
                    refine gf_M_152 hx hb hts hown hK hP 4 rfl rfl d_M_satisfies_278 ?_
                    refine li_icmp_ne (tgt := 296) hx hb d_M_satisfies_281 (by decide) (by omega) (by omega) (fun c25 => ?_) (fun c25 => ?_)
                    · have _q := c25
                      have hxe : exT ca (spW ca true x y) (f_t t9.toNat, g_t t9.toNat) = false := by unfold exT; rw [show decide ((spW ca false (f_t t9.toNat) (g_t t9.toNat)).length = (spW ca true x y).length) = false from decide_eq_false (by have := hp129.1.1; have := hp265.1.1; omega)]; rfl
                      rw [hxe] at hres
                      refine lv_iconst (v := iI 0) hx hb d_M_satisfies_296 rfl ?_
                      refine lv_istore (lv' := [(6, .int (iI 0)), (7, .int (iI t9)), (0, .ref mo), (1, .int (iI r)), (2, .int (iI ix)), (3, .int (iI rel)), (4, .int (iI x)), (5, .int (iI y))]) hx hb d_M_satisfies_297 hl (by decide) rfl (fun ls hl => ?_)
                      refine lv_goto (tgt := 346) hx hb d_M_satisfies_299 (by decide) ?_
                      obtain ⟨t_n, et_n⟩ : ∃ y_9 : Int, y_9 = t9 + 1 := ⟨_, rfl⟩
                      refine lv_iinc (v := iI t_n) (lv' := [(7, .int (iI t_n)), (6, .int (iI 0)), (0, .ref mo), (1, .int (iI r)), (2, .int (iI ix)), (3, .int (iI rel)), (4, .int (iI x)), (5, .int (iI y))]) hx hb d_M_satisfies_346 hl (k := 1) rfl (by rw [et_n]; exact iI_add _ _) (by decide) rfl (fun ls hl => ?_)
                      refine lv_goto (tgt := 236) hx hb d_M_satisfies_349 (by decide) ?_
                      exact ih_236 t_n false n_w f_w g_w (by omega) (by rw [et_n]; exact hres) (by omega) _ _ (hP.sub [6, 7, 0, 1, 4, 5, 2, 3] rfl) (hD.sub [6, 7, 0, 1, 4, 5, 2, 3] (by decide) rfl) hS _ (lv_sub hl [0, 1, 2, 3, 4, 5, 6, 7] rfl)
                    · have _q := c25
                      refine lv_aload_n hx hb d_M_satisfies_284 rfl (lv_at hl 2 rfl) ?_
                      refine lv_iconst (v := iI 0) hx hb d_M_satisfies_285 rfl ?_
                      refine li_callr ((va_runV (As := [.int (iI 0)]) (rest := []) ⟨hx, hb, hml, hown, hts⟩ (c_M_standsAt l dC dI kA mo ma mrf mz mls mfp mfm n_t n_w n_a mli mlx mat mtk mtf mtt mfa mla mlp mdp msi mpf mpt mdn ca f_w g_w f_a g_a 0 (spW ca true x y) (spW ca false (f_t t9.toNat) (g_t t9.toNat)) (f_t t9.toNat) (g_t t9.toNat) (by exact hca) (by omega) (by exact hp129.1) (by exact hp265.1) (by exact hp129.2.1.wide (by omega) (by omega)) (by exact hp265.2.1) (by omega)) (cw_M_171 hts rfl rfl ⟨Nat.le_of_ble_eq_true rfl, Nat.le_of_ble_eq_true rfl⟩) (li_preV (va_recv hK hP (ci := 10) (q0 := 4) rfl rfl) (hP.sub [4, 5, 6, 7, 2, 3] rfl) hK hN (hG.go hS hAN)) rfl rfl hl.1 rfl (lv_room (Nat.le_of_ble_eq_true rfl)) d_M_satisfies_286 ⟨(by show 0 + 0 ≤ 0; omega), (by show 0 + 0 ≤ 0; omega)⟩).run) ?_
                      refine li_bz (tgt := 296) hx hb d_M_satisfies_289 (by decide) (fun c26 => ?_) (fun c26 => ?_)
                      · have _q := c26
                        have hxe : exT ca (spW ca true x y) (f_t t9.toNat, g_t t9.toNat) = false := by unfold exT; rw [show decide ((spW ca false (f_t t9.toNat) (g_t t9.toNat)).length = (spW ca true x y).length) = true from decide_eq_true (by have := hp129.1.1; have := hp265.1.1; omega), Bool.true_and]; assumption
                        rw [hxe] at hres
                        refine lv_iconst (v := iI 0) hx hb d_M_satisfies_296 rfl ?_
                        refine lv_istore (lv' := [(6, .int (iI 0)), (7, .int (iI t9)), (0, .ref mo), (1, .int (iI r)), (2, .int (iI ix)), (3, .int (iI rel)), (4, .int (iI x)), (5, .int (iI y))]) hx hb d_M_satisfies_297 hl (by decide) rfl (fun ls hl => ?_)
                        refine lv_goto (tgt := 346) hx hb d_M_satisfies_299 (by decide) ?_
                        obtain ⟨t_n, et_n⟩ : ∃ y_9 : Int, y_9 = t9 + 1 := ⟨_, rfl⟩
                        refine lv_iinc (v := iI t_n) (lv' := [(7, .int (iI t_n)), (6, .int (iI 0)), (0, .ref mo), (1, .int (iI r)), (2, .int (iI ix)), (3, .int (iI rel)), (4, .int (iI x)), (5, .int (iI y))]) hx hb d_M_satisfies_346 hl (k := 1) rfl (by rw [et_n]; exact iI_add _ _) (by decide) rfl (fun ls hl => ?_)
                        refine lv_goto (tgt := 236) hx hb d_M_satisfies_349 (by decide) ?_
                        exact ih_236 t_n false n_w f_w g_w (by omega) (by rw [et_n]; exact hres) (by omega) _ _ (hP.sub [6, 7, 0, 1, 4, 5, 2, 3] rfl) (hD.sub [6, 7, 0, 1, 4, 5, 2, 3] (by decide) rfl) hS _ (lv_sub hl [0, 1, 2, 3, 4, 5, 6, 7] rfl)
                      · have _q := c26
                        have hxe : exT ca (spW ca true x y) (f_t t9.toNat, g_t t9.toNat) = true := by unfold exT; rw [show decide ((spW ca false (f_t t9.toNat) (g_t t9.toNat)).length = (spW ca true x y).length) = true from decide_eq_true (by have := hp129.1.1; have := hp265.1.1; omega), Bool.true_and]; assumption
                        rw [hxe] at hres
                        refine lv_iconst (v := iI 1) hx hb d_M_satisfies_292 rfl ?_
                        refine lv_goto (tgt := 297) hx hb d_M_satisfies_293 (by decide) ?_
                        refine lv_istore (lv' := [(6, .int (iI 1)), (7, .int (iI t9)), (0, .ref mo), (1, .int (iI r)), (2, .int (iI ix)), (3, .int (iI rel)), (4, .int (iI x)), (5, .int (iI y))]) hx hb d_M_satisfies_297 hl (by decide) rfl (fun ls hl => ?_)
                        refine lv_goto (tgt := 346) hx hb d_M_satisfies_299 (by decide) ?_
                        obtain ⟨t_n, et_n⟩ : ∃ y_9 : Int, y_9 = t9 + 1 := ⟨_, rfl⟩
                        refine lv_iinc (v := iI t_n) (lv' := [(7, .int (iI t_n)), (6, .int (iI 1)), (0, .ref mo), (1, .int (iI r)), (2, .int (iI ix)), (3, .int (iI rel)), (4, .int (iI x)), (5, .int (iI y))]) hx hb d_M_satisfies_346 hl (k := 1) rfl (by rw [et_n]; exact iI_add _ _) (by decide) rfl (fun ls hl => ?_)
                        refine lv_goto (tgt := 236) hx hb d_M_satisfies_349 (by decide) ?_
                        exact ih_236 t_n true n_w f_w g_w (by omega) (by rw [et_n]; exact hres) (by omega) _ _ (hP.sub [6, 7, 0, 1, 4, 5, 2, 3] rfl) (hD.sub [6, 7, 0, 1, 4, 5, 2, 3] (by decide) rfl) hS _ (lv_sub hl [0, 1, 2, 3, 4, 5, 6, 7] rfl)
          exact K_236 ((n_t - 0).toNat + 1) 0 false mwd cwf cwt (by omega) (by rfl) (Nat.lt_succ_self _) _ _ hP hD hS _ (lv_sub hl [0, 1, 2, 3, 4, 5, 6, 7] rfl)
        · have _q := c17
          refine lv_iconst (v := iI 0) hx hb d_M_satisfies_151 rfl ?_
          refine lv_istore (lv' := [(6, .int (iI 0)), (0, .ref mo), (1, .int (iI r)), (2, .int (iI ix)), (3, .int (iI rel)), (4, .int (iI x)), (5, .int (iI y))]) hx hb d_M_satisfies_152 hl (by decide) rfl (fun ls hl => ?_)
          refine lv_iconst (v := iI 1) hx hb d_M_satisfies_154 rfl ?_
          refine lv_istore (lv' := [(7, .int (iI 1)), (6, .int (iI 0)), (0, .ref mo), (1, .int (iI r)), (2, .int (iI ix)), (3, .int (iI rel)), (4, .int (iI x)), (5, .int (iI y))]) hx hb d_M_satisfies_155 hl (by decide) rfl (fun ls hl => ?_)
          refine lv_iconst (v := iI 0) hx hb d_M_satisfies_157 rfl ?_
          refine lv_istore (lv' := [(8, .int (iI 0)), (7, .int (iI 1)), (6, .int (iI 0)), (0, .ref mo), (1, .int (iI r)), (2, .int (iI ix)), (3, .int (iI rel)), (4, .int (iI x)), (5, .int (iI y))]) hx hb d_M_satisfies_158 hl (by decide) rfl (fun ls hl => ?_)
          have K_160 : ∀ (nn_160 : Nat) (k : Int) (b1 : Bool) (b2 : Bool) (vn : Int) (vf : Nat → Int) (vt : Nat → Int), (0 ≤ k ∧ k ≤ n_a) → ((b1 || ((spW ca true x y).drop k.toNat).any (thM ca (gaT ca r ix))) = (spW ca true x y).any (thM ca (gaT ca r ix))) → ((b2 && ((spW ca true x y).drop k.toNat).all (thM ca (gaT ca r ix))) = (spW ca true x y).all (thM ca (gaT ca r ix))) → ((n_a - k).toNat < nn_160) → ∀ (H : Heap) (locs : List Loc), va_P (dC, dI) CL [(ma 6, .inl (kA 0, 400, .inl (aI vf))), (ma 7, .inl (kA 0, 400, .inl (aI vt))), (ma 4, .inl (kA 0, 400, .inl (aI f_t))), (ma 5, .inl (kA 0, 400, .inl (aI g_t))), (mo, .inr (10, [.int (iI mrf), .ref (ma 0), .int (iI mz), .ref (ma 1), .ref (ma 2), .int (iI mls), .int (iI mfp), .int (iI mfm), .ref (ma 3), .int (iI n_t), .ref (ma 4), .ref (ma 5), .int (iI vn), .ref (ma 6), .ref (ma 7), .int (iI n_a), .ref (ma 8), .ref (ma 9), .int (iI mli), .int (iI mlx), .ref (ma 10), .ref (ma 11), .int (iI mat), .int (iI mtk), .int (iI mtf), .int (iI mtt), .int (iI mfa), .int (iI mla), .int (iI mlp), .int (iI mdp), .ref (ma 12), .ref (ma 13), .int (iI msi), .int (iI (bI mdn)), .int (iI mpf), .int (iI mpt)])), (ma 1, .inl (kA 0, 4120, .inl (aI ca))), (ma 8, .inl (kA 0, 110, .inl (aI f_a))), (ma 9, .inl (kA 0, 110, .inl (aI g_a)))] H → va_D A [(ma 6, .inl (kA 0, 400, .inl (aI vf))), (ma 7, .inl (kA 0, 400, .inl (aI vt))), (ma 4, .inl (kA 0, 400, .inl (aI f_t))), (ma 5, .inl (kA 0, 400, .inl (aI g_t))), (mo, .inr (10, [.int (iI mrf), .ref (ma 0), .int (iI mz), .ref (ma 1), .ref (ma 2), .int (iI mls), .int (iI mfp), .int (iI mfm), .ref (ma 3), .int (iI n_t), .ref (ma 4), .ref (ma 5), .int (iI vn), .ref (ma 6), .ref (ma 7), .int (iI n_a), .ref (ma 8), .ref (ma 9), .int (iI mli), .int (iI mlx), .ref (ma 10), .ref (ma 11), .int (iI mat), .int (iI mtk), .int (iI mtf), .int (iI mtt), .int (iI mfa), .int (iI mla), .int (iI mlp), .int (iI mdp), .ref (ma 12), .ref (ma 13), .int (iI msi), .int (iI (bI mdn)), .int (iI mpf), .int (iI mpt)])), (ma 1, .inl (kA 0, 4120, .inl (aI ca))), (ma 8, .inl (kA 0, 110, .inl (aI f_a))), (ma 9, .inl (kA 0, 110, .inl (aI g_a)))] → va_S A s.heap H locs → ∀ ls : Array Slot, lv_has ls 10 [(8, .int (iI k)), (7, .int (iI (bI b2))), (6, .int (iI (bI b1))), (0, .ref mo), (1, .int (iI r)), (2, .int (iI ix)), (3, .int (iI rel)), (4, .int (iI x)), (5, .int (iI y))] → W p l e (rmd 5 0 0) s m args below meth c H locs 0 0 Q (F0 m 160 ls []) := by
            intro nn_160
            induction nn_160 with
            | zero => intro k b1 b2 vn vf vt hk9 hso hev hm; exact absurd hm (Nat.not_lt_zero _)
            | succ nn_160 ih_160 =>
              intro k b1 b2 vn vf vt hk9 hso hev hm_160 H locs hP hD hS ls hl
              refine lv_iload hx hb d_M_satisfies_160 (lv_at hl 0 rfl) ?_
              refine lv_aload_n hx hb d_M_satisfies_162 rfl (lv_at hl 3 rfl) ?_
              refine gf_M_152 hx hb hts hown hK hP 4 rfl rfl d_M_satisfies_163 ?_
              refine li_icmp_ge (tgt := 217) hx hb d_M_satisfies_166 (by decide) (by omega) (by omega) (fun c27 => ?_) (fun c27 => ?_)
              · have _q := c27
                rw [hp129.1.dropE (k := k) (by omega)] at hso hev
                simp only [List.any_nil, List.all_nil, Bool.or_false, Bool.and_true] at hso hev
                refine lv_iload_n hx hb d_M_satisfies_217 rfl (lv_at hl 6 rfl) ?_
                refine lv_iconst (v := iI 1) hx hb d_M_satisfies_218 rfl ?_
                refine li_icmp_ne (tgt := 227) hx hb d_M_satisfies_219 (by decide) (by omega) (by omega) (fun c28 => ?_) (fun c28 => ?_)
                · have _q := c28
                  refine lv_iload hx hb d_M_satisfies_227 (lv_at hl 1 rfl) ?_
                  exact fin (n_t, f_t, g_t, vn, vf, vt, n_a, f_a, g_a) _ _ _ _ _ (by rw [hE]; first | (rw [if_pos (by omega), hso]; done) | (rw [if_neg (by omega), if_pos (by omega), hev]; done)) (by trivial) (by first | exact hP.sub [4, 5, 2, 3, 0, 1, 6, 7] rfl | (subst_vars; exact hP.sub [4, 5, 2, 3, 0, 1, 6, 7] rfl)) (by first | exact hD.sub [4, 5, 2, 3, 0, 1, 6, 7] (by decide) rfl | (subst_vars; exact hD.sub [4, 5, 2, 3, 0, 1, 6, 7] (by decide) rfl)) hS d_M_satisfies_229
                · have _q := c28
                  exact absurd c28 (by omega)
              · have _q := c27
                have hdr := hp129.1.drop (k := k) (by omega) (by omega)
                rw [hdr, List.any_cons] at hso
                rw [hdr, List.all_cons] at hev
                refine lv_aload_n hx hb d_M_satisfies_169 rfl (lv_at hl 3 rfl) ?_
                refine lv_iload hx hb d_M_satisfies_170 (lv_at hl 0 rfl) ?_
                refine li_callw (wc := [(mo, .inr (10, [.int (iI mrf), .ref (ma 0), .int (iI mz), .ref (ma 1), .ref (ma 2), .int (iI mls), .int (iI mfp), .int (iI mfm), .ref (ma 3), .int (iI n_t), .ref (ma 4), .ref (ma 5), .int (iI vn), .ref (ma 6), .ref (ma 7), .int (iI n_a), .ref (ma 8), .ref (ma 9), .int (iI mli), .int (iI mlx), .ref (ma 10), .ref (ma 11), .int (iI mat), .int (iI mtk), .int (iI mtf), .int (iI mtt), .int (iI mfa), .int (iI mla), .int (iI mlp), .int (iI mdp), .ref (ma 12), .ref (ma 13), .int (iI msi), .int (iI (bI mdn)), .int (iI mpf), .int (iI mpt)])), (ma 1, .inl (kA 0, 4120, .inl (aI ca))), (ma 4, .inl (kA 0, 400, .inl (aI f_t))), (ma 5, .inl (kA 0, 400, .inl (aI g_t))), (ma 6, .inl (kA 0, 400, .inl (aI vf))), (ma 7, .inl (kA 0, 400, .inl (aI vt))), (ma 8, .inl (kA 0, 110, .inl (aI f_a))), (ma 9, .inl (kA 0, 110, .inl (aI g_a)))]) (wr := []) (va_runV (As := [.int (iI k)]) (rest := []) ⟨hx, hb, hml, hown, hts⟩ (c_M_isThere l dC dI kA H.size mo ma mrf mz mls mfp mfm n_t vn n_a mli mlx mat mtk mtf mtt mfa mla mlp mdp msi mpf mpt mdn ca f_t g_t vf vt f_a g_a k (gaT ca r ix) (spW ca true x y) (400 * r) (400 * r + 400) (by exact hca) (by exact hp121.1) (by exact hp121.2.1) (by omega) (by exact hp129.1) (by exact hp129.2.1.wide (by omega) (by omega)) (by omega) (by omega)) (cw_M_168 hts rfl rfl ⟨Nat.le_of_ble_eq_true rfl, Nat.le_of_ble_eq_true rfl⟩) (li_preV (va_recv hK hP (ci := 10) (q0 := 4) rfl rfl) ⟨rfl, hP.sub [4, 5, 2, 3, 0, 1, 6, 7] rfl, (hD.sub [4, 5, 2, 3, 0, 1, 6, 7] (by decide) rfl).weaken (fun _ _ _ h => hAN _ h), trivial⟩ hK hN (hG.go hS hAN)) rfl rfl hl.1 rfl (lv_room (Nat.le_of_ble_eq_true rfl)) d_M_satisfies_172 ⟨(by show 0 + 0 ≤ 0; omega), (by show 0 + 0 ≤ 0; omega)⟩) hP hD hS hA [4, 5, 2, 3, 0, 1, 6, 7] [] rfl rfl (by decide) (by decide) (fun u29 H locs hu29 hP hD hS _hk => ?_)
                obtain ⟨n_w, f_w, g_w⟩ := u29
                have hP : va_P (dC, dI) CL [(mo, .inr (10, [.int (iI mrf), .ref (ma 0), .int (iI mz), .ref (ma 1), .ref (ma 2), .int (iI mls), .int (iI mfp), .int (iI mfm), .ref (ma 3), .int (iI n_t), .ref (ma 4), .ref (ma 5), .int (iI n_w), .ref (ma 6), .ref (ma 7), .int (iI n_a), .ref (ma 8), .ref (ma 9), .int (iI mli), .int (iI mlx), .ref (ma 10), .ref (ma 11), .int (iI mat), .int (iI mtk), .int (iI mtf), .int (iI mtt), .int (iI mfa), .int (iI mla), .int (iI mlp), .int (iI mdp), .ref (ma 12), .ref (ma 13), .int (iI msi), .int (iI (bI mdn)), .int (iI mpf), .int (iI mpt)])), (ma 1, .inl (kA 0, 4120, .inl (aI ca))), (ma 4, .inl (kA 0, 400, .inl (aI f_t))), (ma 5, .inl (kA 0, 400, .inl (aI g_t))), (ma 6, .inl (kA 0, 400, .inl (aI f_w))), (ma 7, .inl (kA 0, 400, .inl (aI g_w))), (ma 8, .inl (kA 0, 110, .inl (aI f_a))), (ma 9, .inl (kA 0, 110, .inl (aI g_a)))] H := hP
                have hD : va_D A [(mo, .inr (10, [.int (iI mrf), .ref (ma 0), .int (iI mz), .ref (ma 1), .ref (ma 2), .int (iI mls), .int (iI mfp), .int (iI mfm), .ref (ma 3), .int (iI n_t), .ref (ma 4), .ref (ma 5), .int (iI n_w), .ref (ma 6), .ref (ma 7), .int (iI n_a), .ref (ma 8), .ref (ma 9), .int (iI mli), .int (iI mlx), .ref (ma 10), .ref (ma 11), .int (iI mat), .int (iI mtk), .int (iI mtf), .int (iI mtt), .int (iI mfa), .int (iI mla), .int (iI mlp), .int (iI mdp), .ref (ma 12), .ref (ma 13), .int (iI msi), .int (iI (bI mdn)), .int (iI mpf), .int (iI mpt)])), (ma 1, .inl (kA 0, 4120, .inl (aI ca))), (ma 4, .inl (kA 0, 400, .inl (aI f_t))), (ma 5, .inl (kA 0, 400, .inl (aI g_t))), (ma 6, .inl (kA 0, 400, .inl (aI f_w))), (ma 7, .inl (kA 0, 400, .inl (aI g_w))), (ma 8, .inl (kA 0, 110, .inl (aI f_a))), (ma 9, .inl (kA 0, 110, .inl (aI g_a)))] := hD
                refine lv_istore (lv' := [(9, .int (iI (bI (thM ca (gaT ca r ix) (f_a k.toNat, g_a k.toNat))))), (8, .int (iI k)), (7, .int (iI (bI b2))), (6, .int (iI (bI b1))), (0, .ref mo), (1, .int (iI r)), (2, .int (iI ix)), (3, .int (iI rel)), (4, .int (iI x)), (5, .int (iI y))]) hx hb d_M_satisfies_175 hl (by decide) rfl (fun ls hl => ?_)
                refine lv_iload hx hb d_M_satisfies_177 (lv_at hl 3 rfl) ?_
                refine li_bnz (tgt := 187) hx hb d_M_satisfies_179 (by decide) (fun c30 => ?_) (fun c30 => ?_)
                · have _q := c30
                  refine lv_iconst (v := iI 1) hx hb d_M_satisfies_187 rfl ?_
                  refine lv_goto (tgt := 192) hx hb d_M_satisfies_188 (by decide) ?_
                  refine lv_istore (lv' := [(6, .int (iI 1)), (9, .int (iI (bI (thM ca (gaT ca r ix) (f_a k.toNat, g_a k.toNat))))), (8, .int (iI k)), (7, .int (iI (bI b2))), (0, .ref mo), (1, .int (iI r)), (2, .int (iI ix)), (3, .int (iI rel)), (4, .int (iI x)), (5, .int (iI y))]) hx hb d_M_satisfies_192 hl (by decide) rfl (fun ls hl => ?_)
                  refine lv_iload hx hb d_M_satisfies_194 (lv_at hl 3 rfl) ?_
                  refine li_bz (tgt := 208) hx hb d_M_satisfies_196 (by decide) (fun c31 => ?_) (fun c31 => ?_)
                  · have _q := c31
                    refine lv_iconst (v := iI 0) hx hb d_M_satisfies_208 rfl ?_
                    refine lv_istore (lv' := [(7, .int (iI 0)), (6, .int (iI 1)), (9, .int (iI (bI (thM ca (gaT ca r ix) (f_a k.toNat, g_a k.toNat))))), (8, .int (iI k)), (0, .ref mo), (1, .int (iI r)), (2, .int (iI ix)), (3, .int (iI rel)), (4, .int (iI x)), (5, .int (iI y))]) hx hb d_M_satisfies_209 hl (by decide) rfl (fun ls hl => ?_)
                    obtain ⟨k_n, ek_n⟩ : ∃ y_9 : Int, y_9 = k + 1 := ⟨_, rfl⟩
                    refine lv_iinc (v := iI k_n) (lv' := [(8, .int (iI k_n)), (7, .int (iI 0)), (6, .int (iI 1)), (9, .int (iI (bI (thM ca (gaT ca r ix) (f_a k.toNat, g_a k.toNat))))), (0, .ref mo), (1, .int (iI r)), (2, .int (iI ix)), (3, .int (iI rel)), (4, .int (iI x)), (5, .int (iI y))]) hx hb d_M_satisfies_211 hl (k := 3) rfl (by rw [ek_n]; exact iI_add _ _) (by decide) rfl (fun ls hl => ?_)
                    refine lv_goto (tgt := 160) hx hb d_M_satisfies_214 (by decide) ?_
                    exact ih_160 k_n true false n_w f_w g_w (by omega) (by rw [ek_n, ← hso]; simp only [*, Bool.true_or, Bool.false_or, Bool.or_true]) (by rw [ek_n, ← hev]; simp only [*, Bool.true_and, Bool.false_and]) (by omega) _ _ (hP.sub [4, 5, 2, 3, 0, 1, 6, 7] rfl) (hD.sub [4, 5, 2, 3, 0, 1, 6, 7] (by decide) rfl) hS _ (lv_sub hl [0, 1, 2, 4, 5, 6, 7, 8, 9] rfl)
                  · have _q := c31
                    refine lv_iload hx hb d_M_satisfies_199 (lv_at hl 1 rfl) ?_
                    refine li_bz (tgt := 208) hx hb d_M_satisfies_201 (by decide) (fun c32 => ?_) (fun c32 => ?_)
                    · have _q := c32
                      refine lv_iconst (v := iI 0) hx hb d_M_satisfies_208 rfl ?_
                      refine lv_istore (lv' := [(7, .int (iI 0)), (6, .int (iI 1)), (9, .int (iI (bI (thM ca (gaT ca r ix) (f_a k.toNat, g_a k.toNat))))), (8, .int (iI k)), (0, .ref mo), (1, .int (iI r)), (2, .int (iI ix)), (3, .int (iI rel)), (4, .int (iI x)), (5, .int (iI y))]) hx hb d_M_satisfies_209 hl (by decide) rfl (fun ls hl => ?_)
                      obtain ⟨k_n, ek_n⟩ : ∃ y_9 : Int, y_9 = k + 1 := ⟨_, rfl⟩
                      refine lv_iinc (v := iI k_n) (lv' := [(8, .int (iI k_n)), (7, .int (iI 0)), (6, .int (iI 1)), (9, .int (iI (bI (thM ca (gaT ca r ix) (f_a k.toNat, g_a k.toNat))))), (0, .ref mo), (1, .int (iI r)), (2, .int (iI ix)), (3, .int (iI rel)), (4, .int (iI x)), (5, .int (iI y))]) hx hb d_M_satisfies_211 hl (k := 3) rfl (by rw [ek_n]; exact iI_add _ _) (by decide) rfl (fun ls hl => ?_)
                      refine lv_goto (tgt := 160) hx hb d_M_satisfies_214 (by decide) ?_
                      exact ih_160 k_n true false n_w f_w g_w (by omega) (by rw [ek_n, ← hso]; simp only [*, Bool.true_or, Bool.false_or, Bool.or_true]) (by rw [ek_n, ← hev]; simp only [*, Bool.true_and, Bool.false_and]) (by omega) _ _ (hP.sub [4, 5, 2, 3, 0, 1, 6, 7] rfl) (hD.sub [4, 5, 2, 3, 0, 1, 6, 7] (by decide) rfl) hS _ (lv_sub hl [0, 1, 2, 4, 5, 6, 7, 8, 9] rfl)
                    · have _q := c32
                      refine lv_iconst (v := iI 1) hx hb d_M_satisfies_204 rfl ?_
                      refine lv_goto (tgt := 209) hx hb d_M_satisfies_205 (by decide) ?_
                      refine lv_istore (lv' := [(7, .int (iI 1)), (6, .int (iI 1)), (9, .int (iI (bI (thM ca (gaT ca r ix) (f_a k.toNat, g_a k.toNat))))), (8, .int (iI k)), (0, .ref mo), (1, .int (iI r)), (2, .int (iI ix)), (3, .int (iI rel)), (4, .int (iI x)), (5, .int (iI y))]) hx hb d_M_satisfies_209 hl (by decide) rfl (fun ls hl => ?_)
                      obtain ⟨k_n, ek_n⟩ : ∃ y_9 : Int, y_9 = k + 1 := ⟨_, rfl⟩
                      refine lv_iinc (v := iI k_n) (lv' := [(8, .int (iI k_n)), (7, .int (iI 1)), (6, .int (iI 1)), (9, .int (iI (bI (thM ca (gaT ca r ix) (f_a k.toNat, g_a k.toNat))))), (0, .ref mo), (1, .int (iI r)), (2, .int (iI ix)), (3, .int (iI rel)), (4, .int (iI x)), (5, .int (iI y))]) hx hb d_M_satisfies_211 hl (k := 3) rfl (by rw [ek_n]; exact iI_add _ _) (by decide) rfl (fun ls hl => ?_)
                      refine lv_goto (tgt := 160) hx hb d_M_satisfies_214 (by decide) ?_
                      exact ih_160 k_n true true n_w f_w g_w (by omega) (by rw [ek_n, ← hso]; simp only [*, Bool.true_or, Bool.false_or, Bool.or_true]) (by rw [ek_n, ← hev]; simp only [*, Bool.true_and, Bool.false_and]) (by omega) _ _ (hP.sub [4, 5, 2, 3, 0, 1, 6, 7] rfl) (hD.sub [4, 5, 2, 3, 0, 1, 6, 7] (by decide) rfl) hS _ (lv_sub hl [0, 1, 2, 4, 5, 6, 7, 8, 9] rfl)
                · have _q := c30
                  refine lv_iload hx hb d_M_satisfies_182 (lv_at hl 0 rfl) ?_
                  refine li_bz (tgt := 191) hx hb d_M_satisfies_184 (by decide) (fun c33 => ?_) (fun c33 => ?_)
                  · have _q := c33
                    refine lv_iconst (v := iI 0) hx hb d_M_satisfies_191 rfl ?_
                    refine lv_istore (lv' := [(6, .int (iI 0)), (9, .int (iI (bI (thM ca (gaT ca r ix) (f_a k.toNat, g_a k.toNat))))), (8, .int (iI k)), (7, .int (iI (bI b2))), (0, .ref mo), (1, .int (iI r)), (2, .int (iI ix)), (3, .int (iI rel)), (4, .int (iI x)), (5, .int (iI y))]) hx hb d_M_satisfies_192 hl (by decide) rfl (fun ls hl => ?_)
                    refine lv_iload hx hb d_M_satisfies_194 (lv_at hl 3 rfl) ?_
                    refine li_bz (tgt := 208) hx hb d_M_satisfies_196 (by decide) (fun c34 => ?_) (fun c34 => ?_)
                    · have _q := c34
                      refine lv_iconst (v := iI 0) hx hb d_M_satisfies_208 rfl ?_
                      refine lv_istore (lv' := [(7, .int (iI 0)), (6, .int (iI 0)), (9, .int (iI (bI (thM ca (gaT ca r ix) (f_a k.toNat, g_a k.toNat))))), (8, .int (iI k)), (0, .ref mo), (1, .int (iI r)), (2, .int (iI ix)), (3, .int (iI rel)), (4, .int (iI x)), (5, .int (iI y))]) hx hb d_M_satisfies_209 hl (by decide) rfl (fun ls hl => ?_)
                      obtain ⟨k_n, ek_n⟩ : ∃ y_9 : Int, y_9 = k + 1 := ⟨_, rfl⟩
                      refine lv_iinc (v := iI k_n) (lv' := [(8, .int (iI k_n)), (7, .int (iI 0)), (6, .int (iI 0)), (9, .int (iI (bI (thM ca (gaT ca r ix) (f_a k.toNat, g_a k.toNat))))), (0, .ref mo), (1, .int (iI r)), (2, .int (iI ix)), (3, .int (iI rel)), (4, .int (iI x)), (5, .int (iI y))]) hx hb d_M_satisfies_211 hl (k := 3) rfl (by rw [ek_n]; exact iI_add _ _) (by decide) rfl (fun ls hl => ?_)
                      refine lv_goto (tgt := 160) hx hb d_M_satisfies_214 (by decide) ?_
                      exact ih_160 k_n false false n_w f_w g_w (by omega) (by rw [ek_n, ← hso]; simp only [*, Bool.true_or, Bool.false_or, Bool.or_true]) (by rw [ek_n, ← hev]; simp only [*, Bool.true_and, Bool.false_and]) (by omega) _ _ (hP.sub [4, 5, 2, 3, 0, 1, 6, 7] rfl) (hD.sub [4, 5, 2, 3, 0, 1, 6, 7] (by decide) rfl) hS _ (lv_sub hl [0, 1, 2, 4, 5, 6, 7, 8, 9] rfl)
                    · have _q := c34
                      refine lv_iload hx hb d_M_satisfies_199 (lv_at hl 1 rfl) ?_
                      refine li_bz (tgt := 208) hx hb d_M_satisfies_201 (by decide) (fun c35 => ?_) (fun c35 => ?_)
                      · have _q := c35
                        refine lv_iconst (v := iI 0) hx hb d_M_satisfies_208 rfl ?_
                        refine lv_istore (lv' := [(7, .int (iI 0)), (6, .int (iI 0)), (9, .int (iI (bI (thM ca (gaT ca r ix) (f_a k.toNat, g_a k.toNat))))), (8, .int (iI k)), (0, .ref mo), (1, .int (iI r)), (2, .int (iI ix)), (3, .int (iI rel)), (4, .int (iI x)), (5, .int (iI y))]) hx hb d_M_satisfies_209 hl (by decide) rfl (fun ls hl => ?_)
                        obtain ⟨k_n, ek_n⟩ : ∃ y_9 : Int, y_9 = k + 1 := ⟨_, rfl⟩
                        refine lv_iinc (v := iI k_n) (lv' := [(8, .int (iI k_n)), (7, .int (iI 0)), (6, .int (iI 0)), (9, .int (iI (bI (thM ca (gaT ca r ix) (f_a k.toNat, g_a k.toNat))))), (0, .ref mo), (1, .int (iI r)), (2, .int (iI ix)), (3, .int (iI rel)), (4, .int (iI x)), (5, .int (iI y))]) hx hb d_M_satisfies_211 hl (k := 3) rfl (by rw [ek_n]; exact iI_add _ _) (by decide) rfl (fun ls hl => ?_)
                        refine lv_goto (tgt := 160) hx hb d_M_satisfies_214 (by decide) ?_
                        exact ih_160 k_n false false n_w f_w g_w (by omega) (by rw [ek_n, ← hso]; simp only [*, Bool.true_or, Bool.false_or, Bool.or_true]) (by rw [ek_n, ← hev]; simp only [*, Bool.true_and, Bool.false_and]) (by omega) _ _ (hP.sub [4, 5, 2, 3, 0, 1, 6, 7] rfl) (hD.sub [4, 5, 2, 3, 0, 1, 6, 7] (by decide) rfl) hS _ (lv_sub hl [0, 1, 2, 4, 5, 6, 7, 8, 9] rfl)
                      · have _q := c35
                        exact absurd c35 (by rw [c33]; decide)
                  · have _q := c33
                    refine lv_iconst (v := iI 1) hx hb d_M_satisfies_187 rfl ?_
                    refine lv_goto (tgt := 192) hx hb d_M_satisfies_188 (by decide) ?_
                    refine lv_istore (lv' := [(6, .int (iI 1)), (9, .int (iI (bI (thM ca (gaT ca r ix) (f_a k.toNat, g_a k.toNat))))), (8, .int (iI k)), (7, .int (iI (bI b2))), (0, .ref mo), (1, .int (iI r)), (2, .int (iI ix)), (3, .int (iI rel)), (4, .int (iI x)), (5, .int (iI y))]) hx hb d_M_satisfies_192 hl (by decide) rfl (fun ls hl => ?_)
                    refine lv_iload hx hb d_M_satisfies_194 (lv_at hl 3 rfl) ?_
                    refine li_bz (tgt := 208) hx hb d_M_satisfies_196 (by decide) (fun c36 => ?_) (fun c36 => ?_)
                    · have _q := c36
                      refine lv_iconst (v := iI 0) hx hb d_M_satisfies_208 rfl ?_
                      refine lv_istore (lv' := [(7, .int (iI 0)), (6, .int (iI 1)), (9, .int (iI (bI (thM ca (gaT ca r ix) (f_a k.toNat, g_a k.toNat))))), (8, .int (iI k)), (0, .ref mo), (1, .int (iI r)), (2, .int (iI ix)), (3, .int (iI rel)), (4, .int (iI x)), (5, .int (iI y))]) hx hb d_M_satisfies_209 hl (by decide) rfl (fun ls hl => ?_)
                      obtain ⟨k_n, ek_n⟩ : ∃ y_9 : Int, y_9 = k + 1 := ⟨_, rfl⟩
                      refine lv_iinc (v := iI k_n) (lv' := [(8, .int (iI k_n)), (7, .int (iI 0)), (6, .int (iI 1)), (9, .int (iI (bI (thM ca (gaT ca r ix) (f_a k.toNat, g_a k.toNat))))), (0, .ref mo), (1, .int (iI r)), (2, .int (iI ix)), (3, .int (iI rel)), (4, .int (iI x)), (5, .int (iI y))]) hx hb d_M_satisfies_211 hl (k := 3) rfl (by rw [ek_n]; exact iI_add _ _) (by decide) rfl (fun ls hl => ?_)
                      refine lv_goto (tgt := 160) hx hb d_M_satisfies_214 (by decide) ?_
                      exact ih_160 k_n true false n_w f_w g_w (by omega) (by rw [ek_n, ← hso]; simp only [*, Bool.true_or, Bool.false_or, Bool.or_true]) (by rw [ek_n, ← hev]; simp only [*, Bool.true_and, Bool.false_and]) (by omega) _ _ (hP.sub [4, 5, 2, 3, 0, 1, 6, 7] rfl) (hD.sub [4, 5, 2, 3, 0, 1, 6, 7] (by decide) rfl) hS _ (lv_sub hl [0, 1, 2, 4, 5, 6, 7, 8, 9] rfl)
                    · have _q := c36
                      refine lv_iload hx hb d_M_satisfies_199 (lv_at hl 1 rfl) ?_
                      refine li_bz (tgt := 208) hx hb d_M_satisfies_201 (by decide) (fun c37 => ?_) (fun c37 => ?_)
                      · have _q := c37
                        exact absurd c37 (by rw [c33]; decide)
                      · have _q := c37
                        refine lv_iconst (v := iI 1) hx hb d_M_satisfies_204 rfl ?_
                        refine lv_goto (tgt := 209) hx hb d_M_satisfies_205 (by decide) ?_
                        refine lv_istore (lv' := [(7, .int (iI 1)), (6, .int (iI 1)), (9, .int (iI (bI (thM ca (gaT ca r ix) (f_a k.toNat, g_a k.toNat))))), (8, .int (iI k)), (0, .ref mo), (1, .int (iI r)), (2, .int (iI ix)), (3, .int (iI rel)), (4, .int (iI x)), (5, .int (iI y))]) hx hb d_M_satisfies_209 hl (by decide) rfl (fun ls hl => ?_)
                        obtain ⟨k_n, ek_n⟩ : ∃ y_9 : Int, y_9 = k + 1 := ⟨_, rfl⟩
                        refine lv_iinc (v := iI k_n) (lv' := [(8, .int (iI k_n)), (7, .int (iI 1)), (6, .int (iI 1)), (9, .int (iI (bI (thM ca (gaT ca r ix) (f_a k.toNat, g_a k.toNat))))), (0, .ref mo), (1, .int (iI r)), (2, .int (iI ix)), (3, .int (iI rel)), (4, .int (iI x)), (5, .int (iI y))]) hx hb d_M_satisfies_211 hl (k := 3) rfl (by rw [ek_n]; exact iI_add _ _) (by decide) rfl (fun ls hl => ?_)
                        refine lv_goto (tgt := 160) hx hb d_M_satisfies_214 (by decide) ?_
                        exact ih_160 k_n true true n_w f_w g_w (by omega) (by rw [ek_n, ← hso]; simp only [*, Bool.true_or, Bool.false_or, Bool.or_true]) (by rw [ek_n, ← hev]; simp only [*, Bool.true_and, Bool.false_and]) (by omega) _ _ (hP.sub [4, 5, 2, 3, 0, 1, 6, 7] rfl) (hD.sub [4, 5, 2, 3, 0, 1, 6, 7] (by decide) rfl) hS _ (lv_sub hl [0, 1, 2, 4, 5, 6, 7, 8, 9] rfl)
          exact K_160 ((n_a - 0).toNat + 1) 0 false true mwd cwf cwt (by omega) (by rfl) (by rfl) (Nat.lt_succ_self _) _ _ hP hD hS _ (lv_sub hl [0, 1, 2, 3, 4, 5, 6, 7, 8] rfl)
    · have _q := c4
      have hE : saM ca r ix rel x y = false := by unfold saM; rw [if_neg (by omega), if_pos (by have := hp129.1.1; omega)]
      refine lv_iconst (v := iI 0) hx hb d_M_satisfies_139 rfl ?_
      exact fin (n_t, f_t, g_t, mwd, cwf, cwt, n_a, f_a, g_a) _ _ _ _ _ (by exact bI_f hE) (by trivial) (by first | exact hP.sub [4, 5, 2, 3, 0, 1, 6, 7] rfl | (subst_vars; exact hP.sub [4, 5, 2, 3, 0, 1, 6, 7] rfl)) (by first | exact hD.sub [4, 5, 2, 3, 0, 1, 6, 7] (by decide) rfl | (subst_vars; exact hD.sub [4, 5, 2, 3, 0, 1, 6, 7] (by decide) rfl)) hS d_M_satisfies_140
  · have _q := c1
    refine lv_aload_n hx hb d_M_satisfies_5 rfl (lv_at hl 0 rfl) ?_
    refine lv_iload_n hx hb d_M_satisfies_6 rfl (lv_at hl 1 rfl) ?_
    refine li_callw (wc := [(mo, .inr (10, [.int (iI mrf), .ref (ma 0), .int (iI mz), .ref (ma 1), .ref (ma 2), .int (iI mls), .int (iI mfp), .int (iI mfm), .ref (ma 3), .int (iI mtx), .ref (ma 4), .ref (ma 5), .int (iI mwd), .ref (ma 6), .ref (ma 7), .int (iI mak), .ref (ma 8), .ref (ma 9), .int (iI mli), .int (iI mlx), .ref (ma 10), .ref (ma 11), .int (iI mat), .int (iI mtk), .int (iI mtf), .int (iI mtt), .int (iI mfa), .int (iI mla), .int (iI mlp), .int (iI mdp), .ref (ma 12), .ref (ma 13), .int (iI msi), .int (iI (bI mdn)), .int (iI mpf), .int (iI mpt)])), (ma 1, .inl (kA 0, 4120, .inl (aI ca))), (ma 4, .inl (kA 0, 400, .inl (aI ctf))), (ma 5, .inl (kA 0, 400, .inl (aI ctt)))]) (wr := [(ma 6, .inl (kA 0, 400, .inl (aI cwf))), (ma 7, .inl (kA 0, 400, .inl (aI cwt))), (ma 8, .inl (kA 0, 110, .inl (aI caf))), (ma 9, .inl (kA 0, 110, .inl (aI cat)))]) (va_runV (As := [.int (iI r)]) (rest := []) ⟨hx, hb, hml, hown, hts⟩ (c_M_dateOf l dC dI kA H.size mo ma mrf mz mls mfp mfm mtx mwd mak mli mlx mat mtk mtf mtt mfa mla mlp mdp msi mpf mpt mdn ca ctf ctt r rn (by exact hca) (by exact hr0) (by exact hRA)) (cw_M_162 hts rfl rfl ⟨Nat.le_of_ble_eq_true rfl, Nat.le_of_ble_eq_true rfl⟩) (li_preV (va_recv hK hP (ci := 10) (q0 := 0) rfl rfl) ⟨rfl, hP.sub [0, 1, 2, 3] rfl, (hD.sub [0, 1, 2, 3] (by decide) rfl).weaken (fun _ _ _ h => hAN _ h), trivial⟩ hK hN (hG.go hS hAN)) rfl rfl hl.1 rfl (lv_room (Nat.le_of_ble_eq_true rfl)) d_M_satisfies_7 ⟨(by show 0 + 0 ≤ 0; omega), (by show 0 + 0 ≤ 0; omega)⟩) hP hD hS hA [0, 1, 2, 3] [4, 5, 6, 7] rfl rfl (by decide) (by decide) (fun u38 H locs hu38 hP hD hS _hk => ?_)
    obtain ⟨n_t, f_t, g_t⟩ := u38
    have hP : va_P (dC, dI) CL [(ma 6, .inl (kA 0, 400, .inl (aI cwf))), (ma 7, .inl (kA 0, 400, .inl (aI cwt))), (ma 8, .inl (kA 0, 110, .inl (aI caf))), (ma 9, .inl (kA 0, 110, .inl (aI cat))), (mo, .inr (10, [.int (iI mrf), .ref (ma 0), .int (iI mz), .ref (ma 1), .ref (ma 2), .int (iI mls), .int (iI mfp), .int (iI mfm), .ref (ma 3), .int (iI n_t), .ref (ma 4), .ref (ma 5), .int (iI mwd), .ref (ma 6), .ref (ma 7), .int (iI mak), .ref (ma 8), .ref (ma 9), .int (iI mli), .int (iI mlx), .ref (ma 10), .ref (ma 11), .int (iI mat), .int (iI mtk), .int (iI mtf), .int (iI mtt), .int (iI mfa), .int (iI mla), .int (iI mlp), .int (iI mdp), .ref (ma 12), .ref (ma 13), .int (iI msi), .int (iI (bI mdn)), .int (iI mpf), .int (iI mpt)])), (ma 1, .inl (kA 0, 4120, .inl (aI ca))), (ma 4, .inl (kA 0, 400, .inl (aI f_t))), (ma 5, .inl (kA 0, 400, .inl (aI g_t)))] H := hP
    have hD : va_D A [(ma 6, .inl (kA 0, 400, .inl (aI cwf))), (ma 7, .inl (kA 0, 400, .inl (aI cwt))), (ma 8, .inl (kA 0, 110, .inl (aI caf))), (ma 9, .inl (kA 0, 110, .inl (aI cat))), (mo, .inr (10, [.int (iI mrf), .ref (ma 0), .int (iI mz), .ref (ma 1), .ref (ma 2), .int (iI mls), .int (iI mfp), .int (iI mfm), .ref (ma 3), .int (iI n_t), .ref (ma 4), .ref (ma 5), .int (iI mwd), .ref (ma 6), .ref (ma 7), .int (iI mak), .ref (ma 8), .ref (ma 9), .int (iI mli), .int (iI mlx), .ref (ma 10), .ref (ma 11), .int (iI mat), .int (iI mtk), .int (iI mtf), .int (iI mtt), .int (iI mfa), .int (iI mla), .int (iI mlp), .int (iI mdp), .ref (ma 12), .ref (ma 13), .int (iI msi), .int (iI (bI mdn)), .int (iI mpf), .int (iI mpt)])), (ma 1, .inl (kA 0, 4120, .inl (aI ca))), (ma 4, .inl (kA 0, 400, .inl (aI f_t))), (ma 5, .inl (kA 0, 400, .inl (aI g_t)))] := hD
    refine li_nm (fun dt edt => ?_)
    refine lv_istore (lv' := [(6, .int (iI dt)), (0, .ref mo), (1, .int (iI r)), (2, .int (iI ix)), (3, .int (iI rel)), (4, .int (iI x)), (5, .int (iI y))]) hx hb d_M_satisfies_10 hl (by decide) rfl (fun ls hl => ?_)
    have hdt := dtM_r hca r
    rw [← edt] at hdt
    refine lv_aload_n hx hb d_M_satisfies_12 rfl (lv_at hl 1 rfl) ?_
    refine lv_iload hx hb d_M_satisfies_13 (lv_at hl 5 rfl) ?_
    refine lv_iload hx hb d_M_satisfies_15 (lv_at hl 6 rfl) ?_
    refine li_callr ((va_runV (As := [.int (iI x), .int (iI y)]) (rest := []) ⟨hx, hb, hml, hown, hts⟩ (c_M_fourAt l dC dI kA mo ma mrf mz mls mfp mfm n_t mwd mak mli mlx mat mtk mtf mtt mfa mla mlp mdp msi mpf mpt mdn ca x y (by exact hca) (by omega)) (cw_M_133 hts rfl rfl ⟨Nat.le_of_ble_eq_true rfl, Nat.le_of_ble_eq_true rfl⟩) (li_preV (va_recv hK hP (ci := 10) (q0 := 4) rfl rfl) (hP.sub [4, 5] rfl) hK hN (hG.go hS hAN)) rfl rfl hl.1 rfl (lv_room (Nat.le_of_ble_eq_true rfl)) d_M_satisfies_17 ⟨(by show 0 + 0 ≤ 0; omega), (by show 0 + 0 ≤ 0; omega)⟩).run) ?_
    refine li_nm (fun fo efo => ?_)
    refine lv_istore (lv' := [(7, .int (iI fo)), (6, .int (iI dt)), (0, .ref mo), (1, .int (iI r)), (2, .int (iI ix)), (3, .int (iI rel)), (4, .int (iI x)), (5, .int (iI y))]) hx hb d_M_satisfies_20 hl (by decide) rfl (fun ls hl => ?_)
    have hfo := fouM_r9 (f := ca) (x := x) (y := y) (by omega)
    rw [← efo] at hfo
    refine lv_iload hx hb d_M_satisfies_22 (lv_at hl 1 rfl) ?_
    refine li_if_lt (tgt := 32) hx hb d_M_satisfies_24 (by decide) (by omega) (fun c39 => ?_) (fun c39 => ?_)
    · have _q := c39
      refine lv_iconst (v := iI 0) hx hb d_M_satisfies_32 rfl ?_
      exact fin (n_t, f_t, g_t, mwd, cwf, cwt, mak, caf, cat) _ _ _ _ _ (by exact bI_f (by unfold saM; rw [if_pos (by omega), if_pos (by omega)])) (by trivial) (by first | exact hP.sub [4, 5, 6, 7, 0, 1, 2, 3] rfl | (subst_vars; exact hP.sub [4, 5, 6, 7, 0, 1, 2, 3] rfl)) (by first | exact hD.sub [4, 5, 6, 7, 0, 1, 2, 3] (by decide) rfl | (subst_vars; exact hD.sub [4, 5, 6, 7, 0, 1, 2, 3] (by decide) rfl)) hS d_M_satisfies_33
    · have _q := c39
      refine lv_iload hx hb d_M_satisfies_27 (lv_at hl 0 rfl) ?_
      refine li_if_ge (tgt := 34) hx hb d_M_satisfies_29 (by decide) (by omega) (fun c40 => ?_) (fun c40 => ?_)
      · have _q := c40
        refine lv_aload_n hx hb d_M_satisfies_34 rfl (lv_at hl 2 rfl) ?_
        refine lv_iload hx hb d_M_satisfies_35 (lv_at hl 0 rfl) ?_
        refine lv_iconst (v := iI 4) hx hb d_M_satisfies_37 rfl ?_
        refine li_callr ((va_runV (As := [.int (iI fo), .int (iI 4)]) (rest := []) ⟨hx, hb, hml, hown, hts⟩ (c_M_numberOf l dC dI kA mo ma mrf mz mls mfp mfm n_t mwd mak mli mlx mat mtk mtf mtt mfa mla mlp mdp msi mpf mpt mdn ca fo 4 (by omega)) (cw_M_110 hts rfl rfl ⟨Nat.le_of_ble_eq_true rfl, Nat.le_of_ble_eq_true rfl⟩) (li_preV (va_recv hK hP (ci := 10) (q0 := 4) rfl rfl) (hP.sub [4, 5] rfl) hK hN (hG.go hS hAN)) rfl rfl hl.1 rfl (lv_room (Nat.le_of_ble_eq_true rfl)) d_M_satisfies_38 ⟨(by show 0 + 0 ≤ 0; omega), (by show 0 + 0 ≤ 0; omega)⟩).run) ?_
        refine li_nm (fun dq edq => ?_)
        refine lv_istore (lv' := [(8, .int (iI dq)), (7, .int (iI fo)), (6, .int (iI dt)), (0, .ref mo), (1, .int (iI r)), (2, .int (iI ix)), (3, .int (iI rel)), (4, .int (iI x)), (5, .int (iI y))]) hx hb d_M_satisfies_41 hl (by decide) rfl (fun ls hl => ?_)
        have hdq := numM_r hca fo
        have edq2 : dq = numM ca 4 fo 0 := edq
        rw [← edq2] at hdq
        refine lv_iload_n hx hb d_M_satisfies_43 rfl (lv_at hl 6 rfl) ?_
        refine lv_iconst (v := iI 5) hx hb d_M_satisfies_44 rfl ?_
        refine li_icmp_ne (tgt := 63) hx hb d_M_satisfies_45 (by decide) (by omega) (by omega) (fun c41 => ?_) (fun c41 => ?_)
        · have _q := c41
          refine lv_iload_n hx hb d_M_satisfies_63 rfl (lv_at hl 6 rfl) ?_
          refine lv_bipush (v := iI 6) hx hb d_M_satisfies_64 (by decide) ?_
          refine li_icmp_ne (tgt := 84) hx hb d_M_satisfies_66 (by decide) (by omega) (by omega) (fun c42 => ?_) (fun c42 => ?_)
          · have _q := c42
            refine lv_iload_n hx hb d_M_satisfies_84 rfl (lv_at hl 6 rfl) ?_
            refine lv_bipush (v := iI 7) hx hb d_M_satisfies_85 (by decide) ?_
            refine li_icmp_ne (tgt := 105) hx hb d_M_satisfies_87 (by decide) (by omega) (by omega) (fun c43 => ?_) (fun c43 => ?_)
            · have _q := c43
              refine lv_iload hx hb d_M_satisfies_105 (lv_at hl 2 rfl) ?_
              refine lv_iload hx hb d_M_satisfies_107 (lv_at hl 0 rfl) ?_
              refine li_icmp_lt (tgt := 116) hx hb d_M_satisfies_109 (by decide) (by omega) (by omega) (fun c44 => ?_) (fun c44 => ?_)
              · have _q := c44
                refine lv_iconst (v := iI 0) hx hb d_M_satisfies_116 rfl ?_
                exact fin (n_t, f_t, g_t, mwd, cwf, cwt, mak, caf, cat) _ _ _ _ _ (by unfold saM; rw [if_pos (by omega), if_neg (by omega), ← edt, ← efo, ← edq2]; unfold cdM; (repeat (first | rw [if_pos (by omega)] | rw [if_neg (by omega)])); first | exact bI_t (decide_eq_true (by omega)) | exact bI_f (decide_eq_false (by omega))) (by trivial) (by first | exact hP.sub [4, 5, 6, 7, 0, 1, 2, 3] rfl | (subst_vars; exact hP.sub [4, 5, 6, 7, 0, 1, 2, 3] rfl)) (by first | exact hD.sub [4, 5, 6, 7, 0, 1, 2, 3] (by decide) rfl | (subst_vars; exact hD.sub [4, 5, 6, 7, 0, 1, 2, 3] (by decide) rfl)) hS d_M_satisfies_117
              · have _q := c44
                refine lv_iconst (v := iI 1) hx hb d_M_satisfies_112 rfl ?_
                refine lv_goto (tgt := 117) hx hb d_M_satisfies_113 (by decide) ?_
                exact fin (n_t, f_t, g_t, mwd, cwf, cwt, mak, caf, cat) _ _ _ _ _ (by unfold saM; rw [if_pos (by omega), if_neg (by omega), ← edt, ← efo, ← edq2]; unfold cdM; (repeat (first | rw [if_pos (by omega)] | rw [if_neg (by omega)])); first | exact bI_t (decide_eq_true (by omega)) | exact bI_f (decide_eq_false (by omega))) (by trivial) (by first | exact hP.sub [4, 5, 6, 7, 0, 1, 2, 3] rfl | (subst_vars; exact hP.sub [4, 5, 6, 7, 0, 1, 2, 3] rfl)) (by first | exact hD.sub [4, 5, 6, 7, 0, 1, 2, 3] (by decide) rfl | (subst_vars; exact hD.sub [4, 5, 6, 7, 0, 1, 2, 3] (by decide) rfl)) hS d_M_satisfies_117
            · have _q := c43
              refine lv_iload hx hb d_M_satisfies_90 (lv_at hl 2 rfl) ?_
              refine lv_iload hx hb d_M_satisfies_92 (lv_at hl 0 rfl) ?_
              refine li_icmp_gt (tgt := 101) hx hb d_M_satisfies_94 (by decide) (by omega) (by omega) (fun c45 => ?_) (fun c45 => ?_)
              · have _q := c45
                refine lv_iconst (v := iI 0) hx hb d_M_satisfies_101 rfl ?_
                refine lv_goto (tgt := 117) hx hb d_M_satisfies_102 (by decide) ?_
                exact fin (n_t, f_t, g_t, mwd, cwf, cwt, mak, caf, cat) _ _ _ _ _ (by unfold saM; rw [if_pos (by omega), if_neg (by omega), ← edt, ← efo, ← edq2]; unfold cdM; (repeat (first | rw [if_pos (by omega)] | rw [if_neg (by omega)])); first | exact bI_t (decide_eq_true (by omega)) | exact bI_f (decide_eq_false (by omega))) (by trivial) (by first | exact hP.sub [4, 5, 6, 7, 0, 1, 2, 3] rfl | (subst_vars; exact hP.sub [4, 5, 6, 7, 0, 1, 2, 3] rfl)) (by first | exact hD.sub [4, 5, 6, 7, 0, 1, 2, 3] (by decide) rfl | (subst_vars; exact hD.sub [4, 5, 6, 7, 0, 1, 2, 3] (by decide) rfl)) hS d_M_satisfies_117
              · have _q := c45
                refine lv_iconst (v := iI 1) hx hb d_M_satisfies_97 rfl ?_
                refine lv_goto (tgt := 117) hx hb d_M_satisfies_98 (by decide) ?_
                exact fin (n_t, f_t, g_t, mwd, cwf, cwt, mak, caf, cat) _ _ _ _ _ (by unfold saM; rw [if_pos (by omega), if_neg (by omega), ← edt, ← efo, ← edq2]; unfold cdM; (repeat (first | rw [if_pos (by omega)] | rw [if_neg (by omega)])); first | exact bI_t (decide_eq_true (by omega)) | exact bI_f (decide_eq_false (by omega))) (by trivial) (by first | exact hP.sub [4, 5, 6, 7, 0, 1, 2, 3] rfl | (subst_vars; exact hP.sub [4, 5, 6, 7, 0, 1, 2, 3] rfl)) (by first | exact hD.sub [4, 5, 6, 7, 0, 1, 2, 3] (by decide) rfl | (subst_vars; exact hD.sub [4, 5, 6, 7, 0, 1, 2, 3] (by decide) rfl)) hS d_M_satisfies_117
          · have _q := c42
            refine lv_iload hx hb d_M_satisfies_69 (lv_at hl 2 rfl) ?_
            refine lv_iload hx hb d_M_satisfies_71 (lv_at hl 0 rfl) ?_
            refine li_icmp_le (tgt := 80) hx hb d_M_satisfies_73 (by decide) (by omega) (by omega) (fun c46 => ?_) (fun c46 => ?_)
            · have _q := c46
              refine lv_iconst (v := iI 0) hx hb d_M_satisfies_80 rfl ?_
              refine lv_goto (tgt := 117) hx hb d_M_satisfies_81 (by decide) ?_
              exact fin (n_t, f_t, g_t, mwd, cwf, cwt, mak, caf, cat) _ _ _ _ _ (by unfold saM; rw [if_pos (by omega), if_neg (by omega), ← edt, ← efo, ← edq2]; unfold cdM; (repeat (first | rw [if_pos (by omega)] | rw [if_neg (by omega)])); first | exact bI_t (decide_eq_true (by omega)) | exact bI_f (decide_eq_false (by omega))) (by trivial) (by first | exact hP.sub [4, 5, 6, 7, 0, 1, 2, 3] rfl | (subst_vars; exact hP.sub [4, 5, 6, 7, 0, 1, 2, 3] rfl)) (by first | exact hD.sub [4, 5, 6, 7, 0, 1, 2, 3] (by decide) rfl | (subst_vars; exact hD.sub [4, 5, 6, 7, 0, 1, 2, 3] (by decide) rfl)) hS d_M_satisfies_117
            · have _q := c46
              refine lv_iconst (v := iI 1) hx hb d_M_satisfies_76 rfl ?_
              refine lv_goto (tgt := 117) hx hb d_M_satisfies_77 (by decide) ?_
              exact fin (n_t, f_t, g_t, mwd, cwf, cwt, mak, caf, cat) _ _ _ _ _ (by unfold saM; rw [if_pos (by omega), if_neg (by omega), ← edt, ← efo, ← edq2]; unfold cdM; (repeat (first | rw [if_pos (by omega)] | rw [if_neg (by omega)])); first | exact bI_t (decide_eq_true (by omega)) | exact bI_f (decide_eq_false (by omega))) (by trivial) (by first | exact hP.sub [4, 5, 6, 7, 0, 1, 2, 3] rfl | (subst_vars; exact hP.sub [4, 5, 6, 7, 0, 1, 2, 3] rfl)) (by first | exact hD.sub [4, 5, 6, 7, 0, 1, 2, 3] (by decide) rfl | (subst_vars; exact hD.sub [4, 5, 6, 7, 0, 1, 2, 3] (by decide) rfl)) hS d_M_satisfies_117
        · have _q := c41
          refine lv_iload hx hb d_M_satisfies_48 (lv_at hl 2 rfl) ?_
          refine lv_iload hx hb d_M_satisfies_50 (lv_at hl 0 rfl) ?_
          refine li_icmp_ge (tgt := 59) hx hb d_M_satisfies_52 (by decide) (by omega) (by omega) (fun c47 => ?_) (fun c47 => ?_)
          · have _q := c47
            refine lv_iconst (v := iI 0) hx hb d_M_satisfies_59 rfl ?_
            refine lv_goto (tgt := 117) hx hb d_M_satisfies_60 (by decide) ?_
            exact fin (n_t, f_t, g_t, mwd, cwf, cwt, mak, caf, cat) _ _ _ _ _ (by unfold saM; rw [if_pos (by omega), if_neg (by omega), ← edt, ← efo, ← edq2]; unfold cdM; (repeat (first | rw [if_pos (by omega)] | rw [if_neg (by omega)])); first | exact bI_t (decide_eq_true (by omega)) | exact bI_f (decide_eq_false (by omega))) (by trivial) (by first | exact hP.sub [4, 5, 6, 7, 0, 1, 2, 3] rfl | (subst_vars; exact hP.sub [4, 5, 6, 7, 0, 1, 2, 3] rfl)) (by first | exact hD.sub [4, 5, 6, 7, 0, 1, 2, 3] (by decide) rfl | (subst_vars; exact hD.sub [4, 5, 6, 7, 0, 1, 2, 3] (by decide) rfl)) hS d_M_satisfies_117
          · have _q := c47
            refine lv_iconst (v := iI 1) hx hb d_M_satisfies_55 rfl ?_
            refine lv_goto (tgt := 117) hx hb d_M_satisfies_56 (by decide) ?_
            exact fin (n_t, f_t, g_t, mwd, cwf, cwt, mak, caf, cat) _ _ _ _ _ (by unfold saM; rw [if_pos (by omega), if_neg (by omega), ← edt, ← efo, ← edq2]; unfold cdM; (repeat (first | rw [if_pos (by omega)] | rw [if_neg (by omega)])); first | exact bI_t (decide_eq_true (by omega)) | exact bI_f (decide_eq_false (by omega))) (by trivial) (by first | exact hP.sub [4, 5, 6, 7, 0, 1, 2, 3] rfl | (subst_vars; exact hP.sub [4, 5, 6, 7, 0, 1, 2, 3] rfl)) (by first | exact hD.sub [4, 5, 6, 7, 0, 1, 2, 3] (by decide) rfl | (subst_vars; exact hD.sub [4, 5, 6, 7, 0, 1, 2, 3] (by decide) rfl)) hS d_M_satisfies_117
      · have _q := c40
        refine lv_iconst (v := iI 0) hx hb d_M_satisfies_32 rfl ?_
        exact fin (n_t, f_t, g_t, mwd, cwf, cwt, mak, caf, cat) _ _ _ _ _ (by exact bI_f (by unfold saM; rw [if_pos (by omega), if_pos (by omega)])) (by trivial) (by first | exact hP.sub [4, 5, 6, 7, 0, 1, 2, 3] rfl | (subst_vars; exact hP.sub [4, 5, 6, 7, 0, 1, 2, 3] rfl)) (by first | exact hD.sub [4, 5, 6, 7, 0, 1, 2, 3] (by decide) rfl | (subst_vars; exact hD.sub [4, 5, 6, 7, 0, 1, 2, 3] (by decide) rfl)) hS d_M_satisfies_33

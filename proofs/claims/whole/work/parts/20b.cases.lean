/-! ===== the law's cases ===== -/
abbrev MLaw (n : String) : zM := (RL, ⟨RL, n, ""⟩, cL_law, 4, ret)
abbrev lvL (G : zG) (x m t : Nat) : List (Option Value) := [some (.ref (zb G)), some (.ref x), some (.ref m), some (.int (nI (6 * t)))]
abbrev sx (G : zG) (t : Nat) (j : Int32) : Int32 := zbx G (nI (6 * t) + j).toNatClampNeg
abbrev sy (G : zG) (t : Nat) : Int64 := ((sx G t 3).toInt64 <<< ((32 : Int32).toInt64 &&& 63)) ||| ((sx G t 4).toInt64 &&& 4294967295)
def KK (G : zG) (n : String) (F : zFin) (sh : Nat → Option zSh) (x m t sz : Nat) : Prop := ∀ (S : zSt) (w : Wd), wOK w → rRC S x w → rMo S m w → zW G (MLaw n) room_1 F 390 8337 1207 (lvL G x m t) [] (zhp sh S) sz
def vIn (G : zG) (t : Nat) : Prop := ∀ j, j < 6 → vp_in (nI (6 * t) + nI j) (zbL G)
theorem lcmp_self (x : Int64) : lg_cmp x x = 0 := by simp [lg_cmp]
section LC
variable {G : zG} {n : String} {F : zFin} {sh : Nat → Option zSh} {x m t sz : Nat} {S : zSt} {w : Wd}
theorem La_c0 (hx : tRC sh x) (hm : tMo sh m) (hd : m = x + 367) (hW : wOK w) (hR : rRC S x w) (hM : rMo S m w) (v : vIn G t) (kk : KK G n F sh x m t sz) : zW G (MLaw n) room_1 F 390 8337 168 (lvL G x m t) [] (zhp sh S) sz := by
  have v1 : vp_in (nI (6 * t) + 1) (zbL G) := v 1 (by decide)
  have v2 : vp_in (nI (6 * t) + 2) (zbL G) := v 2 (by decide)
  have v3 : vp_in (nI (6 * t) + 3) (zbL G) := v 3 (by decide)
  have v4 : vp_in (nI (6 * t) + 4) (zbL G) := v 4 (by decide)
  obtain ⟨r, w2, hW2, h1, h2⟩ := P_add (G := G) (a := sx G t 1) (b := sx G t 2) (c := sx G t 3) (d := sx G t 4) hx hm hW
  refine z_aload_n dL_law_168 rfl ?_
  refine z_aload_n dL_law_169 rfl ?_
  refine z_iload_n dL_law_170 rfl ?_
  refine z_iconst 1 dL_law_171 rfl ?_
  refine z_iadd dL_law_172 ?_
  refine z_sld dL_law_173 v1 ?_
  refine z_aload_n dL_law_174 rfl ?_
  refine z_iload_n dL_law_175 rfl ?_
  refine z_iconst 2 dL_law_176 rfl ?_
  refine z_iadd dL_law_177 ?_
  refine z_sld dL_law_178 v2 ?_
  refine z_aload_n dL_law_179 rfl ?_
  refine z_iload_n dL_law_180 rfl ?_
  refine z_iconst 3 dL_law_181 rfl ?_
  refine z_iadd dL_law_182 ?_
  refine z_sld dL_law_183 v3 ?_
  refine z_aload_n dL_law_184 rfl ?_
  refine z_iload_n dL_law_185 rfl ?_
  refine z_iconst 4 dL_law_186 rfl ?_
  refine z_iadd dL_law_187 ?_
  refine z_sld dL_law_188 v4 ?_
  refine n_callV1 l_La_13 (h1 S hR) hx.1 dL_law_189 rfl rfl (Nat.le_of_ble_eq_true rfl) ⟨⟨Nat.le_of_ble_eq_true rfl, Nat.le_of_ble_eq_true rfl⟩, Nat.le_of_ble_eq_true rfl, Nat.le_of_ble_eq_true rfl⟩ (fun S189 q189 => ?_)
  obtain ⟨f1, R1⟩ := q189
  have M1 := hM.fr f1 (fun b g1 g2 _ _ _ => by unfold inX; omega)
  refine z_aload_n dL_law_192 rfl ?_
  refine z_aload_n dL_law_193 rfl ?_
  refine z_iload_n dL_law_194 rfl ?_
  refine z_iconst 1 dL_law_195 rfl ?_
  refine z_iadd dL_law_196 ?_
  refine z_sld dL_law_197 v1 ?_
  refine z_aload_n dL_law_198 rfl ?_
  refine z_iload_n dL_law_199 rfl ?_
  refine z_iconst 2 dL_law_200 rfl ?_
  refine z_iadd dL_law_201 ?_
  refine z_sld dL_law_202 v2 ?_
  refine z_aload_n dL_law_203 rfl ?_
  refine z_iload_n dL_law_204 rfl ?_
  refine z_iconst 3 dL_law_205 rfl ?_
  refine z_iadd dL_law_206 ?_
  refine z_sld dL_law_207 v3 ?_
  refine z_aload_n dL_law_208 rfl ?_
  refine z_iload_n dL_law_209 rfl ?_
  refine z_iconst 4 dL_law_210 rfl ?_
  refine z_iadd dL_law_211 ?_
  refine z_sld dL_law_212 v4 ?_
  refine n_callV1 l_La_17 (h2 S189 M1) hm.1 dL_law_213 rfl rfl (Nat.le_of_ble_eq_true rfl) ⟨⟨Nat.le_of_ble_eq_true rfl, Nat.le_of_ble_eq_true rfl⟩, Nat.le_of_ble_eq_true rfl, Nat.le_of_ble_eq_true rfl⟩ (fun S213 q213 => ?_)
  obtain ⟨f2, M2⟩ := q213
  have R2 := R1.fr f2 (fun b g1 g2 _ => by unfold inM; omega)
  refine z_icmp_eq 1207 dL_law_216 (by decide) (fun c216 => ?_) (fun c216 => ?_)
  · exact kk _ _ hW2 R2 M2
  · exact absurd rfl c216
theorem La_c1 (hx : tRC sh x) (hm : tMo sh m) (hd : m = x + 367) (hW : wOK w) (hR : rRC S x w) (hM : rMo S m w) (v : vIn G t) (kk : KK G n F sh x m t sz) : zW G (MLaw n) room_1 F 390 8337 221 (lvL G x m t) [] (zhp sh S) sz := by
  have v1 : vp_in (nI (6 * t) + 1) (zbL G) := v 1 (by decide)
  have v2 : vp_in (nI (6 * t) + 2) (zbL G) := v 2 (by decide)
  obtain ⟨r, w2, hW2, h1, h2⟩ := P_at (G := G) (a := sx G t 1) (b := sx G t 2) hx hm hW
  refine z_aload_n dL_law_221 rfl ?_
  refine z_aload_n dL_law_222 rfl ?_
  refine z_iload_n dL_law_223 rfl ?_
  refine z_iconst 1 dL_law_224 rfl ?_
  refine z_iadd dL_law_225 ?_
  refine z_sld dL_law_226 v1 ?_
  refine z_aload_n dL_law_227 rfl ?_
  refine z_iload_n dL_law_228 rfl ?_
  refine z_iconst 2 dL_law_229 rfl ?_
  refine z_iadd dL_law_230 ?_
  refine z_sld dL_law_231 v2 ?_
  refine n_callV1 l_La_18 (h1 S hR) hx.1 dL_law_232 rfl rfl (Nat.le_of_ble_eq_true rfl) ⟨⟨Nat.le_of_ble_eq_true rfl, Nat.le_of_ble_eq_true rfl⟩, Nat.le_of_ble_eq_true rfl, Nat.le_of_ble_eq_true rfl⟩ (fun S232 q232 => ?_)
  obtain ⟨f1, R1⟩ := q232
  have M1 := hM.fr f1 (fun b g1 g2 _ _ _ => by unfold inX; omega)
  refine z_aload_n dL_law_235 rfl ?_
  refine z_aload_n dL_law_236 rfl ?_
  refine z_iload_n dL_law_237 rfl ?_
  refine z_iconst 1 dL_law_238 rfl ?_
  refine z_iadd dL_law_239 ?_
  refine z_sld dL_law_240 v1 ?_
  refine z_aload_n dL_law_241 rfl ?_
  refine z_iload_n dL_law_242 rfl ?_
  refine z_iconst 2 dL_law_243 rfl ?_
  refine z_iadd dL_law_244 ?_
  refine z_sld dL_law_245 v2 ?_
  refine n_callV1 l_La_22 (h2 S232 M1) hm.1 dL_law_246 rfl rfl (Nat.le_of_ble_eq_true rfl) ⟨⟨Nat.le_of_ble_eq_true rfl, Nat.le_of_ble_eq_true rfl⟩, Nat.le_of_ble_eq_true rfl, Nat.le_of_ble_eq_true rfl⟩ (fun S246 q246 => ?_)
  obtain ⟨f2, M2⟩ := q246
  have R2 := R1.fr f2 (fun b g1 g2 _ => by unfold inM; omega)
  refine z_icmp_eq 1207 dL_law_249 (by decide) (fun c249 => ?_) (fun c249 => ?_)
  · exact kk _ _ hW2 R2 M2
  · exact absurd rfl c249
theorem La_c2 (hx : tRC sh x) (hm : tMo sh m) (hd : m = x + 367) (hW : wOK w) (hR : rRC S x w) (hM : rMo S m w) (v : vIn G t) (kk : KK G n F sh x m t sz) : zW G (MLaw n) room_1 F 390 8337 254 (lvL G x m t) [] (zhp sh S) sz := by
  obtain ⟨r, w2, hW2, h1, h2⟩ := P_mark (G := G) hx hm hW
  refine z_aload_n dL_law_254 rfl ?_
  refine n_callV1 l_La_23 (h1 S hR) hx.1 dL_law_255 rfl rfl (Nat.le_of_ble_eq_true rfl) ⟨⟨Nat.le_of_ble_eq_true rfl, Nat.le_of_ble_eq_true rfl⟩, Nat.le_of_ble_eq_true rfl, Nat.le_of_ble_eq_true rfl⟩ (fun S255 q255 => ?_)
  obtain ⟨f1, R1⟩ := q255
  have M1 := hM.fr f1 (fun b g1 g2 _ _ _ => by unfold inX; omega)
  refine z_aload_n dL_law_258 rfl ?_
  refine n_callV1 l_La_27 (h2 S255 M1) hm.1 dL_law_259 rfl rfl (Nat.le_of_ble_eq_true rfl) ⟨⟨Nat.le_of_ble_eq_true rfl, Nat.le_of_ble_eq_true rfl⟩, Nat.le_of_ble_eq_true rfl, Nat.le_of_ble_eq_true rfl⟩ (fun S259 q259 => ?_)
  obtain ⟨f2, M2⟩ := q259
  have R2 := R1.fr f2 (fun b g1 g2 _ => by unfold inM; omega)
  refine z_icmp_eq 1207 dL_law_262 (by decide) (fun c262 => ?_) (fun c262 => ?_)
  · exact kk _ _ hW2 R2 M2
  · exact absurd rfl c262
theorem La_c3 (hx : tRC sh x) (hm : tMo sh m) (hd : m = x + 367) (hW : wOK w) (hR : rRC S x w) (hM : rMo S m w) (v : vIn G t) (kk : KK G n F sh x m t sz) : zW G (MLaw n) room_1 F 390 8337 267 (lvL G x m t) [] (zhp sh S) sz := by
  have v1 : vp_in (nI (6 * t) + 1) (zbL G) := v 1 (by decide)
  obtain ⟨r, w2, hW2, h1, h2⟩ := P_back (G := G) (a := sx G t 1) hx hm hW
  refine z_aload_n dL_law_267 rfl ?_
  refine z_aload_n dL_law_268 rfl ?_
  refine z_iload_n dL_law_269 rfl ?_
  refine z_iconst 1 dL_law_270 rfl ?_
  refine z_iadd dL_law_271 ?_
  refine z_sld dL_law_272 v1 ?_
  refine n_callV1 l_La_28 (h1 S hR) hx.1 dL_law_273 rfl rfl (Nat.le_of_ble_eq_true rfl) ⟨⟨Nat.le_of_ble_eq_true rfl, Nat.le_of_ble_eq_true rfl⟩, Nat.le_of_ble_eq_true rfl, Nat.le_of_ble_eq_true rfl⟩ (fun S273 q273 => ?_)
  obtain ⟨f1, R1⟩ := q273
  have M1 := hM.fr f1 (fun b g1 g2 _ _ _ => by unfold inX; omega)
  refine z_aload_n dL_law_276 rfl ?_
  refine z_aload_n dL_law_277 rfl ?_
  refine z_iload_n dL_law_278 rfl ?_
  refine z_iconst 1 dL_law_279 rfl ?_
  refine z_iadd dL_law_280 ?_
  refine z_sld dL_law_281 v1 ?_
  refine n_callV1 l_La_32 (h2 S273 M1) hm.1 dL_law_282 rfl rfl (Nat.le_of_ble_eq_true rfl) ⟨⟨Nat.le_of_ble_eq_true rfl, Nat.le_of_ble_eq_true rfl⟩, Nat.le_of_ble_eq_true rfl, Nat.le_of_ble_eq_true rfl⟩ (fun S282 q282 => ?_)
  obtain ⟨f2, M2⟩ := q282
  have R2 := R1.fr f2 (fun b g1 g2 _ => by unfold inM; omega)
  refine z_icmp_eq 1207 dL_law_285 (by decide) (fun c285 => ?_) (fun c285 => ?_)
  · exact kk _ _ hW2 R2 M2
  · exact absurd rfl c285
theorem La_c4 (hx : tRC sh x) (hm : tMo sh m) (hd : m = x + 367) (hW : wOK w) (hR : rRC S x w) (hM : rMo S m w) (v : vIn G t) (kk : KK G n F sh x m t sz) : zW G (MLaw n) room_1 F 390 8337 290 (lvL G x m t) [] (zhp sh S) sz := by
  have v1 : vp_in (nI (6 * t) + 1) (zbL G) := v 1 (by decide)
  have v2 : vp_in (nI (6 * t) + 2) (zbL G) := v 2 (by decide)
  obtain ⟨r, w2, hW2, h1, h2⟩ := P_runs (G := G) (a := sx G t 1) (b := sx G t 2) hx hm hW
  refine z_aload_n dL_law_290 rfl ?_
  refine z_aload_n dL_law_291 rfl ?_
  refine z_iload_n dL_law_292 rfl ?_
  refine z_iconst 1 dL_law_293 rfl ?_
  refine z_iadd dL_law_294 ?_
  refine z_sld dL_law_295 v1 ?_
  refine z_aload_n dL_law_296 rfl ?_
  refine z_iload_n dL_law_297 rfl ?_
  refine z_iconst 2 dL_law_298 rfl ?_
  refine z_iadd dL_law_299 ?_
  refine z_sld dL_law_300 v2 ?_
  refine n_callV1 l_La_33 (h1 S hR) hx.1 dL_law_301 rfl rfl (Nat.le_of_ble_eq_true rfl) ⟨⟨Nat.le_of_ble_eq_true rfl, Nat.le_of_ble_eq_true rfl⟩, Nat.le_of_ble_eq_true rfl, Nat.le_of_ble_eq_true rfl⟩ (fun S301 q301 => ?_)
  obtain ⟨f1, R1⟩ := q301
  have M1 := hM.fr f1 (fun b g1 g2 _ _ _ => by unfold inX; omega)
  refine z_aload_n dL_law_304 rfl ?_
  refine z_aload_n dL_law_305 rfl ?_
  refine z_iload_n dL_law_306 rfl ?_
  refine z_iconst 1 dL_law_307 rfl ?_
  refine z_iadd dL_law_308 ?_
  refine z_sld dL_law_309 v1 ?_
  refine z_aload_n dL_law_310 rfl ?_
  refine z_iload_n dL_law_311 rfl ?_
  refine z_iconst 2 dL_law_312 rfl ?_
  refine z_iadd dL_law_313 ?_
  refine z_sld dL_law_314 v2 ?_
  refine n_callV1 l_La_36 (h2 S301 M1) hm.1 dL_law_315 rfl rfl (Nat.le_of_ble_eq_true rfl) ⟨⟨Nat.le_of_ble_eq_true rfl, Nat.le_of_ble_eq_true rfl⟩, Nat.le_of_ble_eq_true rfl, Nat.le_of_ble_eq_true rfl⟩ (fun S315 q315 => ?_)
  obtain ⟨f2, M2⟩ := q315
  have R2 := R1.fr f2 (fun b g1 g2 _ => by unfold inM; omega)
  refine z_icmp_eq 1207 dL_law_318 (by decide) (fun c318 => ?_) (fun c318 => ?_)
  · exact kk _ _ hW2 R2 M2
  · exact absurd rfl c318
theorem La_c5 (hx : tRC sh x) (hm : tMo sh m) (hd : m = x + 367) (hW : wOK w) (hR : rRC S x w) (hM : rMo S m w) (v : vIn G t) (kk : KK G n F sh x m t sz) : zW G (MLaw n) room_1 F 390 8337 323 (lvL G x m t) [] (zhp sh S) sz := by
  have v1 : vp_in (nI (6 * t) + 1) (zbL G) := v 1 (by decide)
  have v2 : vp_in (nI (6 * t) + 2) (zbL G) := v 2 (by decide)
  have v3 : vp_in (nI (6 * t) + 3) (zbL G) := v 3 (by decide)
  obtain ⟨r, w2, hW2, h1, h2⟩ := P_run (G := G) (a := sx G t 1) (b := sx G t 2) (d := sx G t 3) hx hm hW
  refine z_aload_n dL_law_323 rfl ?_
  refine z_aload_n dL_law_324 rfl ?_
  refine z_iload_n dL_law_325 rfl ?_
  refine z_iconst 1 dL_law_326 rfl ?_
  refine z_iadd dL_law_327 ?_
  refine z_sld dL_law_328 v1 ?_
  refine z_aload_n dL_law_329 rfl ?_
  refine z_iload_n dL_law_330 rfl ?_
  refine z_iconst 2 dL_law_331 rfl ?_
  refine z_iadd dL_law_332 ?_
  refine z_sld dL_law_333 v2 ?_
  refine z_aload_n dL_law_334 rfl ?_
  refine z_iload_n dL_law_335 rfl ?_
  refine z_iconst 3 dL_law_336 rfl ?_
  refine z_iadd dL_law_337 ?_
  refine z_sld dL_law_338 v3 ?_
  refine n_callV1 l_La_37 (h1 S hR) hx.1 dL_law_339 rfl rfl (Nat.le_of_ble_eq_true rfl) ⟨⟨Nat.le_of_ble_eq_true rfl, Nat.le_of_ble_eq_true rfl⟩, Nat.le_of_ble_eq_true rfl, Nat.le_of_ble_eq_true rfl⟩ (fun S339 q339 => ?_)
  obtain ⟨f1, R1⟩ := q339
  have M1 := hM.fr f1 (fun b g1 g2 _ _ _ => by unfold inX; omega)
  refine z_aload_n dL_law_342 rfl ?_
  refine z_aload_n dL_law_343 rfl ?_
  refine z_iload_n dL_law_344 rfl ?_
  refine z_iconst 1 dL_law_345 rfl ?_
  refine z_iadd dL_law_346 ?_
  refine z_sld dL_law_347 v1 ?_
  refine z_aload_n dL_law_348 rfl ?_
  refine z_iload_n dL_law_349 rfl ?_
  refine z_iconst 2 dL_law_350 rfl ?_
  refine z_iadd dL_law_351 ?_
  refine z_sld dL_law_352 v2 ?_
  refine z_aload_n dL_law_353 rfl ?_
  refine z_iload_n dL_law_354 rfl ?_
  refine z_iconst 3 dL_law_355 rfl ?_
  refine z_iadd dL_law_356 ?_
  refine z_sld dL_law_357 v3 ?_
  refine n_callV1 l_La_41 (h2 S339 M1) hm.1 dL_law_358 rfl rfl (Nat.le_of_ble_eq_true rfl) ⟨⟨Nat.le_of_ble_eq_true rfl, Nat.le_of_ble_eq_true rfl⟩, Nat.le_of_ble_eq_true rfl, Nat.le_of_ble_eq_true rfl⟩ (fun S358 q358 => ?_)
  obtain ⟨f2, M2⟩ := q358
  have R2 := R1.fr f2 (fun b g1 g2 _ => by unfold inM; omega)
  refine z_icmp_eq 1207 dL_law_361 (by decide) (fun c361 => ?_) (fun c361 => ?_)
  · exact kk _ _ hW2 R2 M2
  · exact absurd rfl c361
theorem La_c6 (hx : tRC sh x) (hm : tMo sh m) (hd : m = x + 367) (hW : wOK w) (hR : rRC S x w) (hM : rMo S m w) (v : vIn G t) (kk : KK G n F sh x m t sz) : zW G (MLaw n) room_1 F 390 8337 366 (lvL G x m t) [] (zhp sh S) sz := by
  have v1 : vp_in (nI (6 * t) + 1) (zbL G) := v 1 (by decide)
  obtain ⟨r, w2, hW2, h1, h2⟩ := P_feed (G := G) (a := sx G t 1) hx hm hW
  refine z_aload_n dL_law_366 rfl ?_
  refine z_aload_n dL_law_367 rfl ?_
  refine z_iload_n dL_law_368 rfl ?_
  refine z_iconst 1 dL_law_369 rfl ?_
  refine z_iadd dL_law_370 ?_
  refine z_sld dL_law_371 v1 ?_
  refine n_callV1 l_La_42 (h1 S hR) hx.1 dL_law_372 rfl rfl (Nat.le_of_ble_eq_true rfl) ⟨⟨Nat.le_of_ble_eq_true rfl, Nat.le_of_ble_eq_true rfl⟩, Nat.le_of_ble_eq_true rfl, Nat.le_of_ble_eq_true rfl⟩ (fun S372 q372 => ?_)
  obtain ⟨f1, R1⟩ := q372
  have M1 := hM.fr f1 (fun b g1 g2 _ _ _ => by unfold inX; omega)
  refine z_aload_n dL_law_375 rfl ?_
  refine z_aload_n dL_law_376 rfl ?_
  refine z_iload_n dL_law_377 rfl ?_
  refine z_iconst 1 dL_law_378 rfl ?_
  refine z_iadd dL_law_379 ?_
  refine z_sld dL_law_380 v1 ?_
  refine n_callV1 l_La_45 (h2 S372 M1) hm.1 dL_law_381 rfl rfl (Nat.le_of_ble_eq_true rfl) ⟨⟨Nat.le_of_ble_eq_true rfl, Nat.le_of_ble_eq_true rfl⟩, Nat.le_of_ble_eq_true rfl, Nat.le_of_ble_eq_true rfl⟩ (fun S381 q381 => ?_)
  obtain ⟨f2, M2⟩ := q381
  have R2 := R1.fr f2 (fun b g1 g2 _ => by unfold inM; omega)
  refine z_icmp_eq 1207 dL_law_384 (by decide) (fun c384 => ?_) (fun c384 => ?_)
  · exact kk _ _ hW2 R2 M2
  · exact absurd rfl c384
theorem La_c7 (hx : tRC sh x) (hm : tMo sh m) (hd : m = x + 367) (hW : wOK w) (hR : rRC S x w) (hM : rMo S m w) (v : vIn G t) (kk : KK G n F sh x m t sz) : zW G (MLaw n) room_1 F 390 8337 389 (lvL G x m t) [] (zhp sh S) sz := by
  obtain ⟨r, w2, hW2, h1, h2⟩ := P_query (G := G) hx hm hW
  refine z_aload_n dL_law_389 rfl ?_
  refine n_callV1 l_La_46 (h1 S hR) hx.1 dL_law_390 rfl rfl (Nat.le_of_ble_eq_true rfl) ⟨⟨Nat.le_of_ble_eq_true rfl, Nat.le_of_ble_eq_true rfl⟩, Nat.le_of_ble_eq_true rfl, Nat.le_of_ble_eq_true rfl⟩ (fun S390 q390 => ?_)
  obtain ⟨f1, R1⟩ := q390
  have M1 := hM.fr f1 (fun b g1 g2 _ _ _ => by unfold inX; omega)
  refine z_aload_n dL_law_393 rfl ?_
  refine n_callV1 l_La_49 (h2 S390 M1) hm.1 dL_law_394 rfl rfl (Nat.le_of_ble_eq_true rfl) ⟨⟨Nat.le_of_ble_eq_true rfl, Nat.le_of_ble_eq_true rfl⟩, Nat.le_of_ble_eq_true rfl, Nat.le_of_ble_eq_true rfl⟩ (fun S394 q394 => ?_)
  obtain ⟨f2, M2⟩ := q394
  have R2 := R1.fr f2 (fun b g1 g2 _ => by unfold inM; omega)
  refine z_icmp_eq 1207 dL_law_397 (by decide) (fun c397 => ?_) (fun c397 => ?_)
  · exact kk _ _ hW2 R2 M2
  · exact absurd rfl c397
theorem La_c8 (hx : tRC sh x) (hm : tMo sh m) (hd : m = x + 367) (hW : wOK w) (hR : rRC S x w) (hM : rMo S m w) (v : vIn G t) (kk : KK G n F sh x m t sz) : zW G (MLaw n) room_1 F 390 8337 402 (lvL G x m t) [] (zhp sh S) sz := by
  have v1 : vp_in (nI (6 * t) + 1) (zbL G) := v 1 (by decide)
  have v2 : vp_in (nI (6 * t) + 2) (zbL G) := v 2 (by decide)
  obtain ⟨r, w2, hW2, h1, h2⟩ := P_of (G := G) (a := sx G t 1) (b := sx G t 2) hx hm hW
  refine z_aload_n dL_law_402 rfl ?_
  refine z_aload_n dL_law_403 rfl ?_
  refine z_iload_n dL_law_404 rfl ?_
  refine z_iconst 1 dL_law_405 rfl ?_
  refine z_iadd dL_law_406 ?_
  refine z_sld dL_law_407 v1 ?_
  refine z_aload_n dL_law_408 rfl ?_
  refine z_iload_n dL_law_409 rfl ?_
  refine z_iconst 2 dL_law_410 rfl ?_
  refine z_iadd dL_law_411 ?_
  refine z_sld dL_law_412 v2 ?_
  refine n_callV1 l_La_50 (h1 S hR) hx.1 dL_law_413 rfl rfl (Nat.le_of_ble_eq_true rfl) ⟨⟨Nat.le_of_ble_eq_true rfl, Nat.le_of_ble_eq_true rfl⟩, Nat.le_of_ble_eq_true rfl, Nat.le_of_ble_eq_true rfl⟩ (fun S413 q413 => ?_)
  obtain ⟨f1, R1⟩ := q413
  have M1 := hM.fr f1 (fun b g1 g2 _ _ _ => by unfold inX; omega)
  refine z_aload_n dL_law_416 rfl ?_
  refine z_aload_n dL_law_417 rfl ?_
  refine z_iload_n dL_law_418 rfl ?_
  refine z_iconst 1 dL_law_419 rfl ?_
  refine z_iadd dL_law_420 ?_
  refine z_sld dL_law_421 v1 ?_
  refine z_aload_n dL_law_422 rfl ?_
  refine z_iload_n dL_law_423 rfl ?_
  refine z_iconst 2 dL_law_424 rfl ?_
  refine z_iadd dL_law_425 ?_
  refine z_sld dL_law_426 v2 ?_
  refine n_callV1 l_La_53 (h2 S413 M1) hm.1 dL_law_427 rfl rfl (Nat.le_of_ble_eq_true rfl) ⟨⟨Nat.le_of_ble_eq_true rfl, Nat.le_of_ble_eq_true rfl⟩, Nat.le_of_ble_eq_true rfl, Nat.le_of_ble_eq_true rfl⟩ (fun S427 q427 => ?_)
  obtain ⟨f2, M2⟩ := q427
  have R2 := R1.fr f2 (fun b g1 g2 _ => by unfold inM; omega)
  refine z_icmp_eq 1207 dL_law_430 (by decide) (fun c430 => ?_) (fun c430 => ?_)
  · exact kk _ _ hW2 R2 M2
  · exact absurd rfl c430
theorem La_c9 (hx : tRC sh x) (hm : tMo sh m) (hd : m = x + 367) (hW : wOK w) (hR : rRC S x w) (hM : rMo S m w) (v : vIn G t) (kk : KK G n F sh x m t sz) : zW G (MLaw n) room_1 F 390 8337 435 (lvL G x m t) [] (zhp sh S) sz := by
  have v1 : vp_in (nI (6 * t) + 1) (zbL G) := v 1 (by decide)
  have v2 : vp_in (nI (6 * t) + 2) (zbL G) := v 2 (by decide)
  obtain ⟨r, w2, hW2, h1, h2⟩ := P_row (G := G) (a := sx G t 1) (b := sx G t 2) hx hm hW
  refine z_aload_n dL_law_435 rfl ?_
  refine z_aload_n dL_law_436 rfl ?_
  refine z_iload_n dL_law_437 rfl ?_
  refine z_iconst 1 dL_law_438 rfl ?_
  refine z_iadd dL_law_439 ?_
  refine z_sld dL_law_440 v1 ?_
  refine z_aload_n dL_law_441 rfl ?_
  refine z_iload_n dL_law_442 rfl ?_
  refine z_iconst 2 dL_law_443 rfl ?_
  refine z_iadd dL_law_444 ?_
  refine z_sld dL_law_445 v2 ?_
  refine n_callV1 l_La_54 (h1 S hR) hx.1 dL_law_446 rfl rfl (Nat.le_of_ble_eq_true rfl) ⟨⟨Nat.le_of_ble_eq_true rfl, Nat.le_of_ble_eq_true rfl⟩, Nat.le_of_ble_eq_true rfl, Nat.le_of_ble_eq_true rfl⟩ (fun S446 q446 => ?_)
  obtain ⟨f1, R1⟩ := q446
  have M1 := hM.fr f1 (fun b g1 g2 _ _ _ => by unfold inX; omega)
  refine z_aload_n dL_law_449 rfl ?_
  refine z_aload_n dL_law_450 rfl ?_
  refine z_iload_n dL_law_451 rfl ?_
  refine z_iconst 1 dL_law_452 rfl ?_
  refine z_iadd dL_law_453 ?_
  refine z_sld dL_law_454 v1 ?_
  refine z_aload_n dL_law_455 rfl ?_
  refine z_iload_n dL_law_456 rfl ?_
  refine z_iconst 2 dL_law_457 rfl ?_
  refine z_iadd dL_law_458 ?_
  refine z_sld dL_law_459 v2 ?_
  refine n_callV1 l_La_57 (h2 S446 M1) hm.1 dL_law_460 rfl rfl (Nat.le_of_ble_eq_true rfl) ⟨⟨Nat.le_of_ble_eq_true rfl, Nat.le_of_ble_eq_true rfl⟩, Nat.le_of_ble_eq_true rfl, Nat.le_of_ble_eq_true rfl⟩ (fun S460 q460 => ?_)
  obtain ⟨f2, M2⟩ := q460
  have R2 := R1.fr f2 (fun b g1 g2 _ => by unfold inM; omega)
  refine z_icmp_eq 1207 dL_law_463 (by decide) (fun c463 => ?_) (fun c463 => ?_)
  · exact kk _ _ hW2 R2 M2
  · exact absurd rfl c463
theorem La_c10 (hx : tRC sh x) (hm : tMo sh m) (hd : m = x + 367) (hW : wOK w) (hR : rRC S x w) (hM : rMo S m w) (v : vIn G t) (kk : KK G n F sh x m t sz) : zW G (MLaw n) room_1 F 390 8337 468 (lvL G x m t) [] (zhp sh S) sz := by
  have v1 : vp_in (nI (6 * t) + 1) (zbL G) := v 1 (by decide)
  have v2 : vp_in (nI (6 * t) + 2) (zbL G) := v 2 (by decide)
  have v3 : vp_in (nI (6 * t) + 3) (zbL G) := v 3 (by decide)
  obtain ⟨r, w2, hW2, h1, h2⟩ := P_group (G := G) (a := sx G t 1) (b := sx G t 2) (d := sx G t 3) hx hm hW
  refine z_aload_n dL_law_468 rfl ?_
  refine z_aload_n dL_law_469 rfl ?_
  refine z_iload_n dL_law_470 rfl ?_
  refine z_iconst 1 dL_law_471 rfl ?_
  refine z_iadd dL_law_472 ?_
  refine z_sld dL_law_473 v1 ?_
  refine z_aload_n dL_law_474 rfl ?_
  refine z_iload_n dL_law_475 rfl ?_
  refine z_iconst 2 dL_law_476 rfl ?_
  refine z_iadd dL_law_477 ?_
  refine z_sld dL_law_478 v2 ?_
  refine z_aload_n dL_law_479 rfl ?_
  refine z_iload_n dL_law_480 rfl ?_
  refine z_iconst 3 dL_law_481 rfl ?_
  refine z_iadd dL_law_482 ?_
  refine z_sld dL_law_483 v3 ?_
  refine n_callV1 l_La_58 (h1 S hR) hx.1 dL_law_484 rfl rfl (Nat.le_of_ble_eq_true rfl) ⟨⟨Nat.le_of_ble_eq_true rfl, Nat.le_of_ble_eq_true rfl⟩, Nat.le_of_ble_eq_true rfl, Nat.le_of_ble_eq_true rfl⟩ (fun S484 q484 => ?_)
  obtain ⟨f1, R1⟩ := q484
  have M1 := hM.fr f1 (fun b g1 g2 _ _ _ => by unfold inX; omega)
  refine z_aload_n dL_law_487 rfl ?_
  refine z_aload_n dL_law_488 rfl ?_
  refine z_iload_n dL_law_489 rfl ?_
  refine z_iconst 1 dL_law_490 rfl ?_
  refine z_iadd dL_law_491 ?_
  refine z_sld dL_law_492 v1 ?_
  refine z_aload_n dL_law_493 rfl ?_
  refine z_iload_n dL_law_494 rfl ?_
  refine z_iconst 2 dL_law_495 rfl ?_
  refine z_iadd dL_law_496 ?_
  refine z_sld dL_law_497 v2 ?_
  refine z_aload_n dL_law_498 rfl ?_
  refine z_iload_n dL_law_499 rfl ?_
  refine z_iconst 3 dL_law_500 rfl ?_
  refine z_iadd dL_law_501 ?_
  refine z_sld dL_law_502 v3 ?_
  refine n_callV1 l_La_61 (h2 S484 M1) hm.1 dL_law_503 rfl rfl (Nat.le_of_ble_eq_true rfl) ⟨⟨Nat.le_of_ble_eq_true rfl, Nat.le_of_ble_eq_true rfl⟩, Nat.le_of_ble_eq_true rfl, Nat.le_of_ble_eq_true rfl⟩ (fun S503 q503 => ?_)
  obtain ⟨f2, M2⟩ := q503
  have R2 := R1.fr f2 (fun b g1 g2 _ => by unfold inM; omega)
  refine z_icmp_eq 1207 dL_law_506 (by decide) (fun c506 => ?_) (fun c506 => ?_)
  · exact kk _ _ hW2 R2 M2
  · exact absurd rfl c506
theorem La_c11 (hx : tRC sh x) (hm : tMo sh m) (hd : m = x + 367) (hW : wOK w) (hR : rRC S x w) (hM : rMo S m w) (v : vIn G t) (kk : KK G n F sh x m t sz) : zW G (MLaw n) room_1 F 390 8337 511 (lvL G x m t) [] (zhp sh S) sz := by
  have v1 : vp_in (nI (6 * t) + 1) (zbL G) := v 1 (by decide)
  have v2 : vp_in (nI (6 * t) + 2) (zbL G) := v 2 (by decide)
  have v3 : vp_in (nI (6 * t) + 3) (zbL G) := v 3 (by decide)
  obtain ⟨r, w2, hW2, h1, h2⟩ := P_edge (G := G) (a := sx G t 1) (b := sx G t 2) (d := sx G t 3) hx hm hW
  refine z_aload_n dL_law_511 rfl ?_
  refine z_aload_n dL_law_512 rfl ?_
  refine z_iload_n dL_law_513 rfl ?_
  refine z_iconst 1 dL_law_514 rfl ?_
  refine z_iadd dL_law_515 ?_
  refine z_sld dL_law_516 v1 ?_
  refine z_aload_n dL_law_517 rfl ?_
  refine z_iload_n dL_law_518 rfl ?_
  refine z_iconst 2 dL_law_519 rfl ?_
  refine z_iadd dL_law_520 ?_
  refine z_sld dL_law_521 v2 ?_
  refine z_aload_n dL_law_522 rfl ?_
  refine z_iload_n dL_law_523 rfl ?_
  refine z_iconst 3 dL_law_524 rfl ?_
  refine z_iadd dL_law_525 ?_
  refine z_sld dL_law_526 v3 ?_
  refine n_callV1 l_La_62 (h1 S hR) hx.1 dL_law_527 rfl rfl (Nat.le_of_ble_eq_true rfl) ⟨⟨Nat.le_of_ble_eq_true rfl, Nat.le_of_ble_eq_true rfl⟩, Nat.le_of_ble_eq_true rfl, Nat.le_of_ble_eq_true rfl⟩ (fun S527 q527 => ?_)
  obtain ⟨f1, R1⟩ := q527
  have M1 := hM.fr f1 (fun b g1 g2 _ _ _ => by unfold inX; omega)
  refine z_aload_n dL_law_530 rfl ?_
  refine z_aload_n dL_law_531 rfl ?_
  refine z_iload_n dL_law_532 rfl ?_
  refine z_iconst 1 dL_law_533 rfl ?_
  refine z_iadd dL_law_534 ?_
  refine z_sld dL_law_535 v1 ?_
  refine z_aload_n dL_law_536 rfl ?_
  refine z_iload_n dL_law_537 rfl ?_
  refine z_iconst 2 dL_law_538 rfl ?_
  refine z_iadd dL_law_539 ?_
  refine z_sld dL_law_540 v2 ?_
  refine z_aload_n dL_law_541 rfl ?_
  refine z_iload_n dL_law_542 rfl ?_
  refine z_iconst 3 dL_law_543 rfl ?_
  refine z_iadd dL_law_544 ?_
  refine z_sld dL_law_545 v3 ?_
  refine n_callV1 l_La_65 (h2 S527 M1) hm.1 dL_law_546 rfl rfl (Nat.le_of_ble_eq_true rfl) ⟨⟨Nat.le_of_ble_eq_true rfl, Nat.le_of_ble_eq_true rfl⟩, Nat.le_of_ble_eq_true rfl, Nat.le_of_ble_eq_true rfl⟩ (fun S546 q546 => ?_)
  obtain ⟨f2, M2⟩ := q546
  have R2 := R1.fr f2 (fun b g1 g2 _ => by unfold inM; omega)
  refine z_icmp_eq 1207 dL_law_549 (by decide) (fun c549 => ?_) (fun c549 => ?_)
  · exact kk _ _ hW2 R2 M2
  · exact absurd rfl c549
theorem La_c12 (hx : tRC sh x) (hm : tMo sh m) (hd : m = x + 367) (hW : wOK w) (hR : rRC S x w) (hM : rMo S m w) (v : vIn G t) (kk : KK G n F sh x m t sz) : zW G (MLaw n) room_1 F 390 8337 554 (lvL G x m t) [] (zhp sh S) sz := by
  have v1 : vp_in (nI (6 * t) + 1) (zbL G) := v 1 (by decide)
  have v2 : vp_in (nI (6 * t) + 2) (zbL G) := v 2 (by decide)
  have v3 : vp_in (nI (6 * t) + 3) (zbL G) := v 3 (by decide)
  obtain ⟨r, w2, hW2, h1, h2⟩ := P_two (G := G) (a := sx G t 1) (b := sx G t 2) (d := sx G t 3) hx hm hW
  refine z_aload_n dL_law_554 rfl ?_
  refine z_aload_n dL_law_555 rfl ?_
  refine z_iload_n dL_law_556 rfl ?_
  refine z_iconst 1 dL_law_557 rfl ?_
  refine z_iadd dL_law_558 ?_
  refine z_sld dL_law_559 v1 ?_
  refine z_aload_n dL_law_560 rfl ?_
  refine z_iload_n dL_law_561 rfl ?_
  refine z_iconst 2 dL_law_562 rfl ?_
  refine z_iadd dL_law_563 ?_
  refine z_sld dL_law_564 v2 ?_
  refine z_aload_n dL_law_565 rfl ?_
  refine z_iload_n dL_law_566 rfl ?_
  refine z_iconst 3 dL_law_567 rfl ?_
  refine z_iadd dL_law_568 ?_
  refine z_sld dL_law_569 v3 ?_
  refine n_callV1 l_La_66 (h1 S hR) hx.1 dL_law_570 rfl rfl (Nat.le_of_ble_eq_true rfl) ⟨⟨Nat.le_of_ble_eq_true rfl, Nat.le_of_ble_eq_true rfl⟩, Nat.le_of_ble_eq_true rfl, Nat.le_of_ble_eq_true rfl⟩ (fun S570 q570 => ?_)
  obtain ⟨f1, R1⟩ := q570
  have M1 := hM.fr f1 (fun b g1 g2 _ _ _ => by unfold inX; omega)
  refine z_aload_n dL_law_573 rfl ?_
  refine z_aload_n dL_law_574 rfl ?_
  refine z_iload_n dL_law_575 rfl ?_
  refine z_iconst 1 dL_law_576 rfl ?_
  refine z_iadd dL_law_577 ?_
  refine z_sld dL_law_578 v1 ?_
  refine z_aload_n dL_law_579 rfl ?_
  refine z_iload_n dL_law_580 rfl ?_
  refine z_iconst 2 dL_law_581 rfl ?_
  refine z_iadd dL_law_582 ?_
  refine z_sld dL_law_583 v2 ?_
  refine z_aload_n dL_law_584 rfl ?_
  refine z_iload_n dL_law_585 rfl ?_
  refine z_iconst 3 dL_law_586 rfl ?_
  refine z_iadd dL_law_587 ?_
  refine z_sld dL_law_588 v3 ?_
  refine n_callV1 l_La_69 (h2 S570 M1) hm.1 dL_law_589 rfl rfl (Nat.le_of_ble_eq_true rfl) ⟨⟨Nat.le_of_ble_eq_true rfl, Nat.le_of_ble_eq_true rfl⟩, Nat.le_of_ble_eq_true rfl, Nat.le_of_ble_eq_true rfl⟩ (fun S589 q589 => ?_)
  obtain ⟨f2, M2⟩ := q589
  have R2 := R1.fr f2 (fun b g1 g2 _ => by unfold inM; omega)
  refine z_icmp_eq 1207 dL_law_592 (by decide) (fun c592 => ?_) (fun c592 => ?_)
  · exact kk _ _ hW2 R2 M2
  · exact absurd rfl c592
theorem La_c13 (hx : tRC sh x) (hm : tMo sh m) (hd : m = x + 367) (hW : wOK w) (hR : rRC S x w) (hM : rMo S m w) (v : vIn G t) (kk : KK G n F sh x m t sz) : zW G (MLaw n) room_1 F 390 8337 597 (lvL G x m t) [] (zhp sh S) sz := by
  have v1 : vp_in (nI (6 * t) + 1) (zbL G) := v 1 (by decide)
  have v2 : vp_in (nI (6 * t) + 2) (zbL G) := v 2 (by decide)
  by_cases hz : sx G t 2 = 0
  · skip
    obtain ⟨r, w2, hW2, h1, h2⟩ := P_see (G := G) (a := sx G t 1) (b := 0) hx hm hW
    refine z_aload_n dL_law_597 rfl ?_
    refine z_aload_n dL_law_598 rfl ?_
    refine z_iload_n dL_law_599 rfl ?_
    refine z_iconst 1 dL_law_600 rfl ?_
    refine z_iadd dL_law_601 ?_
    refine z_sld dL_law_602 v1 ?_
    refine z_aload_n dL_law_603 rfl ?_
    refine z_iload_n dL_law_604 rfl ?_
    refine z_iconst 2 dL_law_605 rfl ?_
    refine z_iadd dL_law_606 ?_
    refine z_sld dL_law_607 v2 ?_
    refine z_if_eq 615 dL_law_608 (by decide) (fun c608 => ?_) (fun c608 => ?_)
    · refine z_iconst 0 dL_law_615 rfl ?_
      refine n_callV1 l_La_70 (h1 S hR) hx.1 dL_law_616 rfl rfl (Nat.le_of_ble_eq_true rfl) ⟨⟨Nat.le_of_ble_eq_true rfl, Nat.le_of_ble_eq_true rfl⟩, Nat.le_of_ble_eq_true rfl, Nat.le_of_ble_eq_true rfl⟩ (fun S616 q616 => ?_)
      obtain ⟨f1, R1⟩ := q616
      have M1 := hM.fr f1 (fun b g1 g2 _ _ _ => by unfold inX; omega)
      refine z_aload_n dL_law_619 rfl ?_
      refine z_aload_n dL_law_620 rfl ?_
      refine z_iload_n dL_law_621 rfl ?_
      refine z_iconst 1 dL_law_622 rfl ?_
      refine z_iadd dL_law_623 ?_
      refine z_sld dL_law_624 v1 ?_
      refine z_aload_n dL_law_625 rfl ?_
      refine z_iload_n dL_law_626 rfl ?_
      refine z_iconst 2 dL_law_627 rfl ?_
      refine z_iadd dL_law_628 ?_
      refine z_sld dL_law_629 v2 ?_
      refine z_if_eq 637 dL_law_630 (by decide) (fun c630 => ?_) (fun c630 => ?_)
      · refine z_iconst 0 dL_law_637 rfl ?_
        refine n_callV1 l_La_74 (h2 S616 M1) hm.1 dL_law_638 rfl rfl (Nat.le_of_ble_eq_true rfl) ⟨⟨Nat.le_of_ble_eq_true rfl, Nat.le_of_ble_eq_true rfl⟩, Nat.le_of_ble_eq_true rfl, Nat.le_of_ble_eq_true rfl⟩ (fun S638 q638 => ?_)
        obtain ⟨f2, M2⟩ := q638
        have R2 := R1.fr f2 (fun b g1 g2 _ => by unfold inM; omega)
        refine z_icmp_eq 1207 dL_law_641 (by decide) (fun c641 => ?_) (fun c641 => ?_)
        · exact kk _ _ hW2 R2 M2
        · exact absurd rfl c641
      · exact absurd hz c630
    · exact absurd hz c608
  · skip
    obtain ⟨r, w2, hW2, h1, h2⟩ := P_see (G := G) (a := sx G t 1) (b := 1) hx hm hW
    refine z_aload_n dL_law_597 rfl ?_
    refine z_aload_n dL_law_598 rfl ?_
    refine z_iload_n dL_law_599 rfl ?_
    refine z_iconst 1 dL_law_600 rfl ?_
    refine z_iadd dL_law_601 ?_
    refine z_sld dL_law_602 v1 ?_
    refine z_aload_n dL_law_603 rfl ?_
    refine z_iload_n dL_law_604 rfl ?_
    refine z_iconst 2 dL_law_605 rfl ?_
    refine z_iadd dL_law_606 ?_
    refine z_sld dL_law_607 v2 ?_
    refine z_if_eq 615 dL_law_608 (by decide) (fun c608 => ?_) (fun c608 => ?_)
    · exact absurd c608 hz
    · refine z_iconst 1 dL_law_611 rfl ?_
      refine z_goto 616 dL_law_612 (by decide) ?_
      refine n_callV1 l_La_70 (h1 S hR) hx.1 dL_law_616 rfl rfl (Nat.le_of_ble_eq_true rfl) ⟨⟨Nat.le_of_ble_eq_true rfl, Nat.le_of_ble_eq_true rfl⟩, Nat.le_of_ble_eq_true rfl, Nat.le_of_ble_eq_true rfl⟩ (fun S616 q616 => ?_)
      obtain ⟨f1, R1⟩ := q616
      have M1 := hM.fr f1 (fun b g1 g2 _ _ _ => by unfold inX; omega)
      refine z_aload_n dL_law_619 rfl ?_
      refine z_aload_n dL_law_620 rfl ?_
      refine z_iload_n dL_law_621 rfl ?_
      refine z_iconst 1 dL_law_622 rfl ?_
      refine z_iadd dL_law_623 ?_
      refine z_sld dL_law_624 v1 ?_
      refine z_aload_n dL_law_625 rfl ?_
      refine z_iload_n dL_law_626 rfl ?_
      refine z_iconst 2 dL_law_627 rfl ?_
      refine z_iadd dL_law_628 ?_
      refine z_sld dL_law_629 v2 ?_
      refine z_if_eq 637 dL_law_630 (by decide) (fun c630 => ?_) (fun c630 => ?_)
      · exact absurd c630 hz
      · refine z_iconst 1 dL_law_633 rfl ?_
        refine z_goto 638 dL_law_634 (by decide) ?_
        refine n_callV1 l_La_74 (h2 S616 M1) hm.1 dL_law_638 rfl rfl (Nat.le_of_ble_eq_true rfl) ⟨⟨Nat.le_of_ble_eq_true rfl, Nat.le_of_ble_eq_true rfl⟩, Nat.le_of_ble_eq_true rfl, Nat.le_of_ble_eq_true rfl⟩ (fun S638 q638 => ?_)
        obtain ⟨f2, M2⟩ := q638
        have R2 := R1.fr f2 (fun b g1 g2 _ => by unfold inM; omega)
        refine z_icmp_eq 1207 dL_law_641 (by decide) (fun c641 => ?_) (fun c641 => ?_)
        · exact kk _ _ hW2 R2 M2
        · exact absurd rfl c641
theorem La_c14 (hx : tRC sh x) (hm : tMo sh m) (hd : m = x + 367) (hW : wOK w) (hR : rRC S x w) (hM : rMo S m w) (v : vIn G t) (kk : KK G n F sh x m t sz) : zW G (MLaw n) room_1 F 390 8337 646 (lvL G x m t) [] (zhp sh S) sz := by
  have v1 : vp_in (nI (6 * t) + 1) (zbL G) := v 1 (by decide)
  have v2 : vp_in (nI (6 * t) + 2) (zbL G) := v 2 (by decide)
  obtain ⟨r, w2, hW2, h1, h2⟩ := P_bounds (G := G) (a := sx G t 1) (b := sx G t 2) hx hm hW
  refine z_aload_n dL_law_646 rfl ?_
  refine z_aload_n dL_law_647 rfl ?_
  refine z_iload_n dL_law_648 rfl ?_
  refine z_iconst 1 dL_law_649 rfl ?_
  refine z_iadd dL_law_650 ?_
  refine z_sld dL_law_651 v1 ?_
  refine z_aload_n dL_law_652 rfl ?_
  refine z_iload_n dL_law_653 rfl ?_
  refine z_iconst 2 dL_law_654 rfl ?_
  refine z_iadd dL_law_655 ?_
  refine z_sld dL_law_656 v2 ?_
  refine n_callV1 l_La_75 (h1 S hR) hx.1 dL_law_657 rfl rfl (Nat.le_of_ble_eq_true rfl) ⟨⟨Nat.le_of_ble_eq_true rfl, Nat.le_of_ble_eq_true rfl⟩, Nat.le_of_ble_eq_true rfl, Nat.le_of_ble_eq_true rfl⟩ (fun S657 q657 => ?_)
  obtain ⟨f1, R1⟩ := q657
  have M1 := hM.fr f1 (fun b g1 g2 _ _ _ => by unfold inX; omega)
  refine z_aload_n dL_law_660 rfl ?_
  refine z_aload_n dL_law_661 rfl ?_
  refine z_iload_n dL_law_662 rfl ?_
  refine z_iconst 1 dL_law_663 rfl ?_
  refine z_iadd dL_law_664 ?_
  refine z_sld dL_law_665 v1 ?_
  refine z_aload_n dL_law_666 rfl ?_
  refine z_iload_n dL_law_667 rfl ?_
  refine z_iconst 2 dL_law_668 rfl ?_
  refine z_iadd dL_law_669 ?_
  refine z_sld dL_law_670 v2 ?_
  refine n_callV1 l_La_78 (h2 S657 M1) hm.1 dL_law_671 rfl rfl (Nat.le_of_ble_eq_true rfl) ⟨⟨Nat.le_of_ble_eq_true rfl, Nat.le_of_ble_eq_true rfl⟩, Nat.le_of_ble_eq_true rfl, Nat.le_of_ble_eq_true rfl⟩ (fun S671 q671 => ?_)
  obtain ⟨f2, M2⟩ := q671
  have R2 := R1.fr f2 (fun b g1 g2 _ => by unfold inM; omega)
  refine z_icmp_eq 1207 dL_law_674 (by decide) (fun c674 => ?_) (fun c674 => ?_)
  · exact kk _ _ hW2 R2 M2
  · exact absurd rfl c674
theorem La_c15 (hx : tRC sh x) (hm : tMo sh m) (hd : m = x + 367) (hW : wOK w) (hR : rRC S x w) (hM : rMo S m w) (v : vIn G t) (kk : KK G n F sh x m t sz) : zW G (MLaw n) room_1 F 390 8337 679 (lvL G x m t) [] (zhp sh S) sz := by
  have v1 : vp_in (nI (6 * t) + 1) (zbL G) := v 1 (by decide)
  have v2 : vp_in (nI (6 * t) + 2) (zbL G) := v 2 (by decide)
  obtain ⟨r, w2, hW2, h1, h2⟩ := P_odds (G := G) (a := sx G t 1) (b := sx G t 2) hx hm hW
  refine z_aload_n dL_law_679 rfl ?_
  refine z_aload_n dL_law_680 rfl ?_
  refine z_iload_n dL_law_681 rfl ?_
  refine z_iconst 1 dL_law_682 rfl ?_
  refine z_iadd dL_law_683 ?_
  refine z_sld dL_law_684 v1 ?_
  refine z_aload_n dL_law_685 rfl ?_
  refine z_iload_n dL_law_686 rfl ?_
  refine z_iconst 2 dL_law_687 rfl ?_
  refine z_iadd dL_law_688 ?_
  refine z_sld dL_law_689 v2 ?_
  refine n_callV1 l_La_79 (h1 S hR) hx.1 dL_law_690 rfl rfl (Nat.le_of_ble_eq_true rfl) ⟨⟨Nat.le_of_ble_eq_true rfl, Nat.le_of_ble_eq_true rfl⟩, Nat.le_of_ble_eq_true rfl, Nat.le_of_ble_eq_true rfl⟩ (fun S690 q690 => ?_)
  obtain ⟨f1, R1⟩ := q690
  have M1 := hM.fr f1 (fun b g1 g2 _ _ _ => by unfold inX; omega)
  refine z_aload_n dL_law_693 rfl ?_
  refine z_aload_n dL_law_694 rfl ?_
  refine z_iload_n dL_law_695 rfl ?_
  refine z_iconst 1 dL_law_696 rfl ?_
  refine z_iadd dL_law_697 ?_
  refine z_sld dL_law_698 v1 ?_
  refine z_aload_n dL_law_699 rfl ?_
  refine z_iload_n dL_law_700 rfl ?_
  refine z_iconst 2 dL_law_701 rfl ?_
  refine z_iadd dL_law_702 ?_
  refine z_sld dL_law_703 v2 ?_
  refine n_callV1 l_La_83 (h2 S690 M1) hm.1 dL_law_704 rfl rfl (Nat.le_of_ble_eq_true rfl) ⟨⟨Nat.le_of_ble_eq_true rfl, Nat.le_of_ble_eq_true rfl⟩, Nat.le_of_ble_eq_true rfl, Nat.le_of_ble_eq_true rfl⟩ (fun S704 q704 => ?_)
  obtain ⟨f2, M2⟩ := q704
  have R2 := R1.fr f2 (fun b g1 g2 _ => by unfold inM; omega)
  refine z_lcmp dL_law_707 ?_
  rw [lcmp_self]
  refine z_if_eq 1207 dL_law_708 (by decide) (fun c708 => ?_) (fun c708 => ?_)
  · exact kk _ _ hW2 R2 M2
  · exact absurd rfl c708
theorem La_c16 (hx : tRC sh x) (hm : tMo sh m) (hd : m = x + 367) (hW : wOK w) (hR : rRC S x w) (hM : rMo S m w) (v : vIn G t) (kk : KK G n F sh x m t sz) : zW G (MLaw n) room_1 F 390 8337 713 (lvL G x m t) [] (zhp sh S) sz := by
  have v1 : vp_in (nI (6 * t) + 1) (zbL G) := v 1 (by decide)
  have v2 : vp_in (nI (6 * t) + 2) (zbL G) := v 2 (by decide)
  have v3 : vp_in (nI (6 * t) + 3) (zbL G) := v 3 (by decide)
  obtain ⟨r, w2, hW2, h1, h2⟩ := P_mean (G := G) (a := sx G t 1) (b := sx G t 2) (d := sx G t 3) hx hm hW
  refine z_aload_n dL_law_713 rfl ?_
  refine z_aload_n dL_law_714 rfl ?_
  refine z_iload_n dL_law_715 rfl ?_
  refine z_iconst 1 dL_law_716 rfl ?_
  refine z_iadd dL_law_717 ?_
  refine z_sld dL_law_718 v1 ?_
  refine z_aload_n dL_law_719 rfl ?_
  refine z_iload_n dL_law_720 rfl ?_
  refine z_iconst 2 dL_law_721 rfl ?_
  refine z_iadd dL_law_722 ?_
  refine z_sld dL_law_723 v2 ?_
  refine z_aload_n dL_law_724 rfl ?_
  refine z_iload_n dL_law_725 rfl ?_
  refine z_iconst 3 dL_law_726 rfl ?_
  refine z_iadd dL_law_727 ?_
  refine z_sld dL_law_728 v3 ?_
  refine n_callV1 l_La_84 (h1 S hR) hx.1 dL_law_729 rfl rfl (Nat.le_of_ble_eq_true rfl) ⟨⟨Nat.le_of_ble_eq_true rfl, Nat.le_of_ble_eq_true rfl⟩, Nat.le_of_ble_eq_true rfl, Nat.le_of_ble_eq_true rfl⟩ (fun S729 q729 => ?_)
  obtain ⟨f1, R1⟩ := q729
  have M1 := hM.fr f1 (fun b g1 g2 _ _ _ => by unfold inX; omega)
  refine z_aload_n dL_law_732 rfl ?_
  refine z_aload_n dL_law_733 rfl ?_
  refine z_iload_n dL_law_734 rfl ?_
  refine z_iconst 1 dL_law_735 rfl ?_
  refine z_iadd dL_law_736 ?_
  refine z_sld dL_law_737 v1 ?_
  refine z_aload_n dL_law_738 rfl ?_
  refine z_iload_n dL_law_739 rfl ?_
  refine z_iconst 2 dL_law_740 rfl ?_
  refine z_iadd dL_law_741 ?_
  refine z_sld dL_law_742 v2 ?_
  refine z_aload_n dL_law_743 rfl ?_
  refine z_iload_n dL_law_744 rfl ?_
  refine z_iconst 3 dL_law_745 rfl ?_
  refine z_iadd dL_law_746 ?_
  refine z_sld dL_law_747 v3 ?_
  refine n_callV1 l_La_88 (h2 S729 M1) hm.1 dL_law_748 rfl rfl (Nat.le_of_ble_eq_true rfl) ⟨⟨Nat.le_of_ble_eq_true rfl, Nat.le_of_ble_eq_true rfl⟩, Nat.le_of_ble_eq_true rfl, Nat.le_of_ble_eq_true rfl⟩ (fun S748 q748 => ?_)
  obtain ⟨f2, M2⟩ := q748
  have R2 := R1.fr f2 (fun b g1 g2 _ => by unfold inM; omega)
  refine z_lcmp dL_law_751 ?_
  rw [lcmp_self]
  refine z_if_eq 1207 dL_law_752 (by decide) (fun c752 => ?_) (fun c752 => ?_)
  · exact kk _ _ hW2 R2 M2
  · exact absurd rfl c752
theorem La_c17 (hx : tRC sh x) (hm : tMo sh m) (hd : m = x + 367) (hW : wOK w) (hR : rRC S x w) (hM : rMo S m w) (v : vIn G t) (kk : KK G n F sh x m t sz) : zW G (MLaw n) room_1 F 390 8337 757 (lvL G x m t) [] (zhp sh S) sz := by
  have v1 : vp_in (nI (6 * t) + 1) (zbL G) := v 1 (by decide)
  have v2 : vp_in (nI (6 * t) + 2) (zbL G) := v 2 (by decide)
  obtain ⟨r, w2, hW2, h1, h2⟩ := P_plan (G := G) (a := sx G t 1) (b := sx G t 2) hx hm hW
  refine z_aload_n dL_law_757 rfl ?_
  refine z_aload_n dL_law_758 rfl ?_
  refine z_iload_n dL_law_759 rfl ?_
  refine z_iconst 1 dL_law_760 rfl ?_
  refine z_iadd dL_law_761 ?_
  refine z_sld dL_law_762 v1 ?_
  refine z_aload_n dL_law_763 rfl ?_
  refine z_iload_n dL_law_764 rfl ?_
  refine z_iconst 2 dL_law_765 rfl ?_
  refine z_iadd dL_law_766 ?_
  refine z_sld dL_law_767 v2 ?_
  refine n_callV1 l_La_89 (h1 S hR) hx.1 dL_law_768 rfl rfl (Nat.le_of_ble_eq_true rfl) ⟨⟨Nat.le_of_ble_eq_true rfl, Nat.le_of_ble_eq_true rfl⟩, Nat.le_of_ble_eq_true rfl, Nat.le_of_ble_eq_true rfl⟩ (fun S768 q768 => ?_)
  obtain ⟨f1, R1⟩ := q768
  have M1 := hM.fr f1 (fun b g1 g2 _ _ _ => by unfold inX; omega)
  refine z_aload_n dL_law_771 rfl ?_
  refine z_aload_n dL_law_772 rfl ?_
  refine z_iload_n dL_law_773 rfl ?_
  refine z_iconst 1 dL_law_774 rfl ?_
  refine z_iadd dL_law_775 ?_
  refine z_sld dL_law_776 v1 ?_
  refine z_aload_n dL_law_777 rfl ?_
  refine z_iload_n dL_law_778 rfl ?_
  refine z_iconst 2 dL_law_779 rfl ?_
  refine z_iadd dL_law_780 ?_
  refine z_sld dL_law_781 v2 ?_
  refine n_callV1 l_La_92 (h2 S768 M1) hm.1 dL_law_782 rfl rfl (Nat.le_of_ble_eq_true rfl) ⟨⟨Nat.le_of_ble_eq_true rfl, Nat.le_of_ble_eq_true rfl⟩, Nat.le_of_ble_eq_true rfl, Nat.le_of_ble_eq_true rfl⟩ (fun S782 q782 => ?_)
  obtain ⟨f2, M2⟩ := q782
  have R2 := R1.fr f2 (fun b g1 g2 _ => by unfold inM; omega)
  refine z_icmp_eq 1207 dL_law_785 (by decide) (fun c785 => ?_) (fun c785 => ?_)
  · exact kk _ _ hW2 R2 M2
  · exact absurd rfl c785
theorem La_c18 (hx : tRC sh x) (hm : tMo sh m) (hd : m = x + 367) (hW : wOK w) (hR : rRC S x w) (hM : rMo S m w) (v : vIn G t) (kk : KK G n F sh x m t sz) : zW G (MLaw n) room_1 F 390 8337 790 (lvL G x m t) [] (zhp sh S) sz := by
  have v1 : vp_in (nI (6 * t) + 1) (zbL G) := v 1 (by decide)
  have v2 : vp_in (nI (6 * t) + 2) (zbL G) := v 2 (by decide)
  obtain ⟨r, w2, hW2, h1, h2⟩ := P_ends (G := G) (a := sx G t 1) (b := sx G t 2) hx hm hW
  refine z_aload_n dL_law_790 rfl ?_
  refine z_aload_n dL_law_791 rfl ?_
  refine z_iload_n dL_law_792 rfl ?_
  refine z_iconst 1 dL_law_793 rfl ?_
  refine z_iadd dL_law_794 ?_
  refine z_sld dL_law_795 v1 ?_
  refine z_aload_n dL_law_796 rfl ?_
  refine z_iload_n dL_law_797 rfl ?_
  refine z_iconst 2 dL_law_798 rfl ?_
  refine z_iadd dL_law_799 ?_
  refine z_sld dL_law_800 v2 ?_
  refine n_callV1 l_La_93 (h1 S hR) hx.1 dL_law_801 rfl rfl (Nat.le_of_ble_eq_true rfl) ⟨⟨Nat.le_of_ble_eq_true rfl, Nat.le_of_ble_eq_true rfl⟩, Nat.le_of_ble_eq_true rfl, Nat.le_of_ble_eq_true rfl⟩ (fun S801 q801 => ?_)
  obtain ⟨f1, R1⟩ := q801
  have M1 := hM.fr f1 (fun b g1 g2 _ _ _ => by unfold inX; omega)
  refine z_aload_n dL_law_804 rfl ?_
  refine z_aload_n dL_law_805 rfl ?_
  refine z_iload_n dL_law_806 rfl ?_
  refine z_iconst 1 dL_law_807 rfl ?_
  refine z_iadd dL_law_808 ?_
  refine z_sld dL_law_809 v1 ?_
  refine z_aload_n dL_law_810 rfl ?_
  refine z_iload_n dL_law_811 rfl ?_
  refine z_iconst 2 dL_law_812 rfl ?_
  refine z_iadd dL_law_813 ?_
  refine z_sld dL_law_814 v2 ?_
  refine n_callV1 l_La_96 (h2 S801 M1) hm.1 dL_law_815 rfl rfl (Nat.le_of_ble_eq_true rfl) ⟨⟨Nat.le_of_ble_eq_true rfl, Nat.le_of_ble_eq_true rfl⟩, Nat.le_of_ble_eq_true rfl, Nat.le_of_ble_eq_true rfl⟩ (fun S815 q815 => ?_)
  obtain ⟨f2, M2⟩ := q815
  have R2 := R1.fr f2 (fun b g1 g2 _ => by unfold inM; omega)
  refine z_icmp_eq 1207 dL_law_818 (by decide) (fun c818 => ?_) (fun c818 => ?_)
  · exact kk _ _ hW2 R2 M2
  · exact absurd rfl c818
theorem La_c19 (hx : tRC sh x) (hm : tMo sh m) (hd : m = x + 367) (hW : wOK w) (hR : rRC S x w) (hM : rMo S m w) (v : vIn G t) (kk : KK G n F sh x m t sz) : zW G (MLaw n) room_1 F 390 8337 823 (lvL G x m t) [] (zhp sh S) sz := by
  have v1 : vp_in (nI (6 * t) + 1) (zbL G) := v 1 (by decide)
  have v2 : vp_in (nI (6 * t) + 2) (zbL G) := v 2 (by decide)
  obtain ⟨r, w2, hW2, h1, h2⟩ := P_book (G := G) (a := sx G t 1) (b := sx G t 2) hx hm hW
  refine z_aload_n dL_law_823 rfl ?_
  refine z_aload_n dL_law_824 rfl ?_
  refine z_iload_n dL_law_825 rfl ?_
  refine z_iconst 1 dL_law_826 rfl ?_
  refine z_iadd dL_law_827 ?_
  refine z_sld dL_law_828 v1 ?_
  refine z_aload_n dL_law_829 rfl ?_
  refine z_iload_n dL_law_830 rfl ?_
  refine z_iconst 2 dL_law_831 rfl ?_
  refine z_iadd dL_law_832 ?_
  refine z_sld dL_law_833 v2 ?_
  refine n_callV1 l_La_97 (h1 S hR) hx.1 dL_law_834 rfl rfl (Nat.le_of_ble_eq_true rfl) ⟨⟨Nat.le_of_ble_eq_true rfl, Nat.le_of_ble_eq_true rfl⟩, Nat.le_of_ble_eq_true rfl, Nat.le_of_ble_eq_true rfl⟩ (fun S834 q834 => ?_)
  obtain ⟨f1, R1⟩ := q834
  have M1 := hM.fr f1 (fun b g1 g2 _ _ _ => by unfold inX; omega)
  refine z_aload_n dL_law_837 rfl ?_
  refine z_aload_n dL_law_838 rfl ?_
  refine z_iload_n dL_law_839 rfl ?_
  refine z_iconst 1 dL_law_840 rfl ?_
  refine z_iadd dL_law_841 ?_
  refine z_sld dL_law_842 v1 ?_
  refine z_aload_n dL_law_843 rfl ?_
  refine z_iload_n dL_law_844 rfl ?_
  refine z_iconst 2 dL_law_845 rfl ?_
  refine z_iadd dL_law_846 ?_
  refine z_sld dL_law_847 v2 ?_
  refine n_callV1 l_La_100 (h2 S834 M1) hm.1 dL_law_848 rfl rfl (Nat.le_of_ble_eq_true rfl) ⟨⟨Nat.le_of_ble_eq_true rfl, Nat.le_of_ble_eq_true rfl⟩, Nat.le_of_ble_eq_true rfl, Nat.le_of_ble_eq_true rfl⟩ (fun S848 q848 => ?_)
  obtain ⟨f2, M2⟩ := q848
  have R2 := R1.fr f2 (fun b g1 g2 _ => by unfold inM; omega)
  refine z_icmp_eq 1207 dL_law_851 (by decide) (fun c851 => ?_) (fun c851 => ?_)
  · exact kk _ _ hW2 R2 M2
  · exact absurd rfl c851
theorem La_c20 (hx : tRC sh x) (hm : tMo sh m) (hd : m = x + 367) (hW : wOK w) (hR : rRC S x w) (hM : rMo S m w) (v : vIn G t) (kk : KK G n F sh x m t sz) : zW G (MLaw n) room_1 F 390 8337 856 (lvL G x m t) [] (zhp sh S) sz := by
  obtain ⟨r, w2, hW2, h1, h2⟩ := P_looked (G := G) hx hm hW
  refine z_aload_n dL_law_856 rfl ?_
  refine n_callV1 l_La_101 (h1 S hR) hx.1 dL_law_857 rfl rfl (Nat.le_of_ble_eq_true rfl) ⟨⟨Nat.le_of_ble_eq_true rfl, Nat.le_of_ble_eq_true rfl⟩, Nat.le_of_ble_eq_true rfl, Nat.le_of_ble_eq_true rfl⟩ (fun S857 q857 => ?_)
  obtain ⟨f1, R1⟩ := q857
  have M1 := hM.fr f1 (fun b g1 g2 _ _ _ => by unfold inX; omega)
  refine z_aload_n dL_law_860 rfl ?_
  refine n_callV1 l_La_104 (h2 S857 M1) hm.1 dL_law_861 rfl rfl (Nat.le_of_ble_eq_true rfl) ⟨⟨Nat.le_of_ble_eq_true rfl, Nat.le_of_ble_eq_true rfl⟩, Nat.le_of_ble_eq_true rfl, Nat.le_of_ble_eq_true rfl⟩ (fun S861 q861 => ?_)
  obtain ⟨f2, M2⟩ := q861
  have R2 := R1.fr f2 (fun b g1 g2 _ => by unfold inM; omega)
  refine z_icmp_eq 1207 dL_law_864 (by decide) (fun c864 => ?_) (fun c864 => ?_)
  · exact kk _ _ hW2 R2 M2
  · exact absurd rfl c864
theorem La_c21 (hx : tRC sh x) (hm : tMo sh m) (hd : m = x + 367) (hW : wOK w) (hR : rRC S x w) (hM : rMo S m w) (v : vIn G t) (kk : KK G n F sh x m t sz) : zW G (MLaw n) room_1 F 390 8337 869 (lvL G x m t) [] (zhp sh S) sz := by
  have v1 : vp_in (nI (6 * t) + 1) (zbL G) := v 1 (by decide)
  have v2 : vp_in (nI (6 * t) + 2) (zbL G) := v 2 (by decide)
  have v3 : vp_in (nI (6 * t) + 3) (zbL G) := v 3 (by decide)
  obtain ⟨r, w2, hW2, h1, h2⟩ := P_judge (G := G) (a := sx G t 1) (b := sx G t 2) (y := sx G t 3) hx hm hW
  refine z_aload_n dL_law_869 rfl ?_
  refine z_aload_n dL_law_870 rfl ?_
  refine z_iload_n dL_law_871 rfl ?_
  refine z_iconst 1 dL_law_872 rfl ?_
  refine z_iadd dL_law_873 ?_
  refine z_sld dL_law_874 v1 ?_
  refine z_aload_n dL_law_875 rfl ?_
  refine z_iload_n dL_law_876 rfl ?_
  refine z_iconst 2 dL_law_877 rfl ?_
  refine z_iadd dL_law_878 ?_
  refine z_sld dL_law_879 v2 ?_
  refine z_aload_n dL_law_880 rfl ?_
  refine z_iload_n dL_law_881 rfl ?_
  refine z_iconst 3 dL_law_882 rfl ?_
  refine z_iadd dL_law_883 ?_
  refine z_sld dL_law_884 v3 ?_
  refine n_callV1 l_La_105 (h1 S hR) hx.1 dL_law_885 rfl rfl (Nat.le_of_ble_eq_true rfl) ⟨⟨Nat.le_of_ble_eq_true rfl, Nat.le_of_ble_eq_true rfl⟩, Nat.le_of_ble_eq_true rfl, Nat.le_of_ble_eq_true rfl⟩ (fun S885 q885 => ?_)
  obtain ⟨f1, R1⟩ := q885
  have M1 := hM.fr f1 (fun b g1 g2 _ _ _ => by unfold inX; omega)
  refine z_aload_n dL_law_888 rfl ?_
  refine z_aload_n dL_law_889 rfl ?_
  refine z_iload_n dL_law_890 rfl ?_
  refine z_iconst 1 dL_law_891 rfl ?_
  refine z_iadd dL_law_892 ?_
  refine z_sld dL_law_893 v1 ?_
  refine z_aload_n dL_law_894 rfl ?_
  refine z_iload_n dL_law_895 rfl ?_
  refine z_iconst 2 dL_law_896 rfl ?_
  refine z_iadd dL_law_897 ?_
  refine z_sld dL_law_898 v2 ?_
  refine z_aload_n dL_law_899 rfl ?_
  refine z_iload_n dL_law_900 rfl ?_
  refine z_iconst 3 dL_law_901 rfl ?_
  refine z_iadd dL_law_902 ?_
  refine z_sld dL_law_903 v3 ?_
  refine n_callV1 l_La_108 (h2 S885 M1) hm.1 dL_law_904 rfl rfl (Nat.le_of_ble_eq_true rfl) ⟨⟨Nat.le_of_ble_eq_true rfl, Nat.le_of_ble_eq_true rfl⟩, Nat.le_of_ble_eq_true rfl, Nat.le_of_ble_eq_true rfl⟩ (fun S904 q904 => ?_)
  obtain ⟨f2, M2⟩ := q904
  have R2 := R1.fr f2 (fun b g1 g2 _ => by unfold inM; omega)
  refine z_icmp_eq 1207 dL_law_907 (by decide) (fun c907 => ?_) (fun c907 => ?_)
  · exact kk _ _ hW2 R2 M2
  · exact absurd rfl c907
theorem La_c22 (hx : tRC sh x) (hm : tMo sh m) (hd : m = x + 367) (hW : wOK w) (hR : rRC S x w) (hM : rMo S m w) (v : vIn G t) (kk : KK G n F sh x m t sz) : zW G (MLaw n) room_1 F 390 8337 912 (lvL G x m t) [] (zhp sh S) sz := by
  obtain ⟨r, w2, hW2, h1, h2⟩ := P_image (G := G) hx hm hW
  refine z_aload_n dL_law_912 rfl ?_
  refine n_callV1 l_La_109 (h1 S hR) hx.1 dL_law_913 rfl rfl (Nat.le_of_ble_eq_true rfl) ⟨⟨Nat.le_of_ble_eq_true rfl, Nat.le_of_ble_eq_true rfl⟩, Nat.le_of_ble_eq_true rfl, Nat.le_of_ble_eq_true rfl⟩ (fun S913 q913 => ?_)
  obtain ⟨f1, R1⟩ := q913
  have M1 := hM.fr f1 (fun b g1 g2 _ _ _ => by unfold inX; omega)
  refine z_aload_n dL_law_916 rfl ?_
  refine n_callV1 l_La_112 (h2 S913 M1) hm.1 dL_law_917 rfl rfl (Nat.le_of_ble_eq_true rfl) ⟨⟨Nat.le_of_ble_eq_true rfl, Nat.le_of_ble_eq_true rfl⟩, Nat.le_of_ble_eq_true rfl, Nat.le_of_ble_eq_true rfl⟩ (fun S917 q917 => ?_)
  obtain ⟨f2, M2⟩ := q917
  have R2 := R1.fr f2 (fun b g1 g2 _ => by unfold inM; omega)
  refine z_icmp_eq 1207 dL_law_920 (by decide) (fun c920 => ?_) (fun c920 => ?_)
  · exact kk _ _ hW2 R2 M2
  · exact absurd rfl c920
theorem La_c23 (hx : tRC sh x) (hm : tMo sh m) (hd : m = x + 367) (hW : wOK w) (hR : rRC S x w) (hM : rMo S m w) (v : vIn G t) (kk : KK G n F sh x m t sz) : zW G (MLaw n) room_1 F 390 8337 925 (lvL G x m t) [] (zhp sh S) sz := by
  obtain ⟨r, w2, hW2, h1, h2⟩ := P_undo (G := G) hx hm hW
  refine z_aload_n dL_law_925 rfl ?_
  refine n_callV1 l_La_113 (h1 S hR) hx.1 dL_law_926 rfl rfl (Nat.le_of_ble_eq_true rfl) ⟨⟨Nat.le_of_ble_eq_true rfl, Nat.le_of_ble_eq_true rfl⟩, Nat.le_of_ble_eq_true rfl, Nat.le_of_ble_eq_true rfl⟩ (fun S926 q926 => ?_)
  obtain ⟨f1, R1⟩ := q926
  have M1 := hM.fr f1 (fun b g1 g2 _ _ _ => by unfold inX; omega)
  refine z_aload_n dL_law_929 rfl ?_
  refine n_callV1 l_La_116 (h2 S926 M1) hm.1 dL_law_930 rfl rfl (Nat.le_of_ble_eq_true rfl) ⟨⟨Nat.le_of_ble_eq_true rfl, Nat.le_of_ble_eq_true rfl⟩, Nat.le_of_ble_eq_true rfl, Nat.le_of_ble_eq_true rfl⟩ (fun S930 q930 => ?_)
  obtain ⟨f2, M2⟩ := q930
  have R2 := R1.fr f2 (fun b g1 g2 _ => by unfold inM; omega)
  refine z_icmp_eq 1207 dL_law_933 (by decide) (fun c933 => ?_) (fun c933 => ?_)
  · exact kk _ _ hW2 R2 M2
  · exact absurd rfl c933
theorem La_c24 (hx : tRC sh x) (hm : tMo sh m) (hd : m = x + 367) (hW : wOK w) (hR : rRC S x w) (hM : rMo S m w) (v : vIn G t) (kk : KK G n F sh x m t sz) : zW G (MLaw n) room_1 F 390 8337 938 (lvL G x m t) [] (zhp sh S) sz := by
  have v1 : vp_in (nI (6 * t) + 1) (zbL G) := v 1 (by decide)
  have v2 : vp_in (nI (6 * t) + 2) (zbL G) := v 2 (by decide)
  obtain ⟨r, w2, hW2, h1, h2⟩ := P_taken (G := G) (a := sx G t 1) (b := sx G t 2) hx hm hW
  refine z_aload_n dL_law_938 rfl ?_
  refine z_aload_n dL_law_939 rfl ?_
  refine z_iload_n dL_law_940 rfl ?_
  refine z_iconst 1 dL_law_941 rfl ?_
  refine z_iadd dL_law_942 ?_
  refine z_sld dL_law_943 v1 ?_
  refine z_aload_n dL_law_944 rfl ?_
  refine z_iload_n dL_law_945 rfl ?_
  refine z_iconst 2 dL_law_946 rfl ?_
  refine z_iadd dL_law_947 ?_
  refine z_sld dL_law_948 v2 ?_
  refine n_callV1 l_La_117 (h1 S hR) hx.1 dL_law_949 rfl rfl (Nat.le_of_ble_eq_true rfl) ⟨⟨Nat.le_of_ble_eq_true rfl, Nat.le_of_ble_eq_true rfl⟩, Nat.le_of_ble_eq_true rfl, Nat.le_of_ble_eq_true rfl⟩ (fun S949 q949 => ?_)
  obtain ⟨f1, R1⟩ := q949
  have M1 := hM.fr f1 (fun b g1 g2 _ _ _ => by unfold inX; omega)
  refine z_aload_n dL_law_952 rfl ?_
  refine z_aload_n dL_law_953 rfl ?_
  refine z_iload_n dL_law_954 rfl ?_
  refine z_iconst 1 dL_law_955 rfl ?_
  refine z_iadd dL_law_956 ?_
  refine z_sld dL_law_957 v1 ?_
  refine z_aload_n dL_law_958 rfl ?_
  refine z_iload_n dL_law_959 rfl ?_
  refine z_iconst 2 dL_law_960 rfl ?_
  refine z_iadd dL_law_961 ?_
  refine z_sld dL_law_962 v2 ?_
  refine n_callV1 l_La_120 (h2 S949 M1) hm.1 dL_law_963 rfl rfl (Nat.le_of_ble_eq_true rfl) ⟨⟨Nat.le_of_ble_eq_true rfl, Nat.le_of_ble_eq_true rfl⟩, Nat.le_of_ble_eq_true rfl, Nat.le_of_ble_eq_true rfl⟩ (fun S963 q963 => ?_)
  obtain ⟨f2, M2⟩ := q963
  have R2 := R1.fr f2 (fun b g1 g2 _ => by unfold inM; omega)
  refine z_icmp_eq 1207 dL_law_966 (by decide) (fun c966 => ?_) (fun c966 => ?_)
  · exact kk _ _ hW2 R2 M2
  · exact absurd rfl c966
theorem La_c25 (hx : tRC sh x) (hm : tMo sh m) (hd : m = x + 367) (hW : wOK w) (hR : rRC S x w) (hM : rMo S m w) (v : vIn G t) (kk : KK G n F sh x m t sz) : zW G (MLaw n) room_1 F 390 8337 971 (lvL G x m t) [] (zhp sh S) sz := by
  have v1 : vp_in (nI (6 * t) + 1) (zbL G) := v 1 (by decide)
  obtain ⟨r, w2, hW2, h1, h2⟩ := P_count (G := G) (a := sx G t 1) hx hm hW
  refine z_aload_n dL_law_971 rfl ?_
  refine z_aload_n dL_law_972 rfl ?_
  refine z_iload_n dL_law_973 rfl ?_
  refine z_iconst 1 dL_law_974 rfl ?_
  refine z_iadd dL_law_975 ?_
  refine z_sld dL_law_976 v1 ?_
  refine n_callV1 l_La_121 (h1 S hR) hx.1 dL_law_977 rfl rfl (Nat.le_of_ble_eq_true rfl) ⟨⟨Nat.le_of_ble_eq_true rfl, Nat.le_of_ble_eq_true rfl⟩, Nat.le_of_ble_eq_true rfl, Nat.le_of_ble_eq_true rfl⟩ (fun S977 q977 => ?_)
  obtain ⟨f1, R1⟩ := q977
  have M1 := hM.fr f1 (fun b g1 g2 _ _ _ => by unfold inX; omega)
  refine z_aload_n dL_law_980 rfl ?_
  refine z_aload_n dL_law_981 rfl ?_
  refine z_iload_n dL_law_982 rfl ?_
  refine z_iconst 1 dL_law_983 rfl ?_
  refine z_iadd dL_law_984 ?_
  refine z_sld dL_law_985 v1 ?_
  refine n_callV1 l_La_124 (h2 S977 M1) hm.1 dL_law_986 rfl rfl (Nat.le_of_ble_eq_true rfl) ⟨⟨Nat.le_of_ble_eq_true rfl, Nat.le_of_ble_eq_true rfl⟩, Nat.le_of_ble_eq_true rfl, Nat.le_of_ble_eq_true rfl⟩ (fun S986 q986 => ?_)
  obtain ⟨f2, M2⟩ := q986
  have R2 := R1.fr f2 (fun b g1 g2 _ => by unfold inM; omega)
  refine z_icmp_eq 1207 dL_law_989 (by decide) (fun c989 => ?_) (fun c989 => ?_)
  · exact kk _ _ hW2 R2 M2
  · exact absurd rfl c989
theorem La_c26 (hx : tRC sh x) (hm : tMo sh m) (hd : m = x + 367) (hW : wOK w) (hR : rRC S x w) (hM : rMo S m w) (v : vIn G t) (kk : KK G n F sh x m t sz) : zW G (MLaw n) room_1 F 390 8337 994 (lvL G x m t) [] (zhp sh S) sz := by
  have v1 : vp_in (nI (6 * t) + 1) (zbL G) := v 1 (by decide)
  have v2 : vp_in (nI (6 * t) + 2) (zbL G) := v 2 (by decide)
  have v3 : vp_in (nI (6 * t) + 3) (zbL G) := v 3 (by decide)
  obtain ⟨r, w2, hW2, h1, h2⟩ := P_tape (G := G) (a := sx G t 1) (b := sx G t 2) (c := sx G t 3) hx hm hW
  refine z_aload_n dL_law_994 rfl ?_
  refine z_aload_n dL_law_995 rfl ?_
  refine z_iload_n dL_law_996 rfl ?_
  refine z_iconst 1 dL_law_997 rfl ?_
  refine z_iadd dL_law_998 ?_
  refine z_sld dL_law_999 v1 ?_
  refine z_aload_n dL_law_1000 rfl ?_
  refine z_iload_n dL_law_1001 rfl ?_
  refine z_iconst 2 dL_law_1002 rfl ?_
  refine z_iadd dL_law_1003 ?_
  refine z_sld dL_law_1004 v2 ?_
  refine z_aload_n dL_law_1005 rfl ?_
  refine z_iload_n dL_law_1006 rfl ?_
  refine z_iconst 3 dL_law_1007 rfl ?_
  refine z_iadd dL_law_1008 ?_
  refine z_sld dL_law_1009 v3 ?_
  refine n_callV1 l_La_125 (h1 S hR) hx.1 dL_law_1010 rfl rfl (Nat.le_of_ble_eq_true rfl) ⟨⟨Nat.le_of_ble_eq_true rfl, Nat.le_of_ble_eq_true rfl⟩, Nat.le_of_ble_eq_true rfl, Nat.le_of_ble_eq_true rfl⟩ (fun S1010 q1010 => ?_)
  obtain ⟨f1, R1⟩ := q1010
  have M1 := hM.fr f1 (fun b g1 g2 _ _ _ => by unfold inX; omega)
  refine z_aload_n dL_law_1013 rfl ?_
  refine z_aload_n dL_law_1014 rfl ?_
  refine z_iload_n dL_law_1015 rfl ?_
  refine z_iconst 1 dL_law_1016 rfl ?_
  refine z_iadd dL_law_1017 ?_
  refine z_sld dL_law_1018 v1 ?_
  refine z_aload_n dL_law_1019 rfl ?_
  refine z_iload_n dL_law_1020 rfl ?_
  refine z_iconst 2 dL_law_1021 rfl ?_
  refine z_iadd dL_law_1022 ?_
  refine z_sld dL_law_1023 v2 ?_
  refine z_aload_n dL_law_1024 rfl ?_
  refine z_iload_n dL_law_1025 rfl ?_
  refine z_iconst 3 dL_law_1026 rfl ?_
  refine z_iadd dL_law_1027 ?_
  refine z_sld dL_law_1028 v3 ?_
  refine n_callV1 l_La_128 (h2 S1010 M1) hm.1 dL_law_1029 rfl rfl (Nat.le_of_ble_eq_true rfl) ⟨⟨Nat.le_of_ble_eq_true rfl, Nat.le_of_ble_eq_true rfl⟩, Nat.le_of_ble_eq_true rfl, Nat.le_of_ble_eq_true rfl⟩ (fun S1029 q1029 => ?_)
  obtain ⟨f2, M2⟩ := q1029
  have R2 := R1.fr f2 (fun b g1 g2 _ => by unfold inM; omega)
  refine z_icmp_eq 1207 dL_law_1032 (by decide) (fun c1032 => ?_) (fun c1032 => ?_)
  · exact kk _ _ hW2 R2 M2
  · exact absurd rfl c1032
theorem La_c27 (hx : tRC sh x) (hm : tMo sh m) (hd : m = x + 367) (hW : wOK w) (hR : rRC S x w) (hM : rMo S m w) (v : vIn G t) (kk : KK G n F sh x m t sz) : zW G (MLaw n) room_1 F 390 8337 1037 (lvL G x m t) [] (zhp sh S) sz := by
  have v1 : vp_in (nI (6 * t) + 1) (zbL G) := v 1 (by decide)
  have v2 : vp_in (nI (6 * t) + 2) (zbL G) := v 2 (by decide)
  have v3 : vp_in (nI (6 * t) + 3) (zbL G) := v 3 (by decide)
  have v4 : vp_in (nI (6 * t) + 4) (zbL G) := v 4 (by decide)
  obtain ⟨r, w2, hW2, h1, h2⟩ := P_item (G := G) (a := sx G t 1) (b := sx G t 2) (y := sy G t) hx hm hW
  refine z_aload_n dL_law_1037 rfl ?_
  refine z_aload_n dL_law_1038 rfl ?_
  refine z_iload_n dL_law_1039 rfl ?_
  refine z_iconst 1 dL_law_1040 rfl ?_
  refine z_iadd dL_law_1041 ?_
  refine z_sld dL_law_1042 v1 ?_
  refine z_aload_n dL_law_1043 rfl ?_
  refine z_iload_n dL_law_1044 rfl ?_
  refine z_iconst 2 dL_law_1045 rfl ?_
  refine z_iadd dL_law_1046 ?_
  refine z_sld dL_law_1047 v2 ?_
  refine z_aload_n dL_law_1048 rfl ?_
  refine z_iload_n dL_law_1049 rfl ?_
  refine z_iconst 3 dL_law_1050 rfl ?_
  refine z_iadd dL_law_1051 ?_
  refine z_sld dL_law_1052 v3 ?_
  refine z_i2l dL_law_1053 ?_
  refine z_bipush 32 dL_law_1054 (by decide) ?_
  refine z_lshl dL_law_1056 ?_
  refine z_aload_n dL_law_1057 rfl ?_
  refine z_iload_n dL_law_1058 rfl ?_
  refine z_iconst 4 dL_law_1059 rfl ?_
  refine z_iadd dL_law_1060 ?_
  refine z_sld dL_law_1061 v4 ?_
  refine z_i2l dL_law_1062 ?_
  refine z_ldc2 (4294967295) v_La_129 dL_law_1063 ?_
  refine z_land dL_law_1066 ?_
  refine z_lor dL_law_1067 ?_
  refine n_callV1 l_La_131 (h1 S hR) hx.1 dL_law_1068 rfl rfl (Nat.le_of_ble_eq_true rfl) ⟨⟨Nat.le_of_ble_eq_true rfl, Nat.le_of_ble_eq_true rfl⟩, Nat.le_of_ble_eq_true rfl, Nat.le_of_ble_eq_true rfl⟩ (fun S1068 q1068 => ?_)
  obtain ⟨f1, R1⟩ := q1068
  have M1 := hM.fr f1 (fun b g1 g2 _ _ _ => by unfold inX; omega)
  refine z_aload_n dL_law_1071 rfl ?_
  refine z_aload_n dL_law_1072 rfl ?_
  refine z_iload_n dL_law_1073 rfl ?_
  refine z_iconst 1 dL_law_1074 rfl ?_
  refine z_iadd dL_law_1075 ?_
  refine z_sld dL_law_1076 v1 ?_
  refine z_aload_n dL_law_1077 rfl ?_
  refine z_iload_n dL_law_1078 rfl ?_
  refine z_iconst 2 dL_law_1079 rfl ?_
  refine z_iadd dL_law_1080 ?_
  refine z_sld dL_law_1081 v2 ?_
  refine z_aload_n dL_law_1082 rfl ?_
  refine z_iload_n dL_law_1083 rfl ?_
  refine z_iconst 3 dL_law_1084 rfl ?_
  refine z_iadd dL_law_1085 ?_
  refine z_sld dL_law_1086 v3 ?_
  refine z_i2l dL_law_1087 ?_
  refine z_bipush 32 dL_law_1088 (by decide) ?_
  refine z_lshl dL_law_1090 ?_
  refine z_aload_n dL_law_1091 rfl ?_
  refine z_iload_n dL_law_1092 rfl ?_
  refine z_iconst 4 dL_law_1093 rfl ?_
  refine z_iadd dL_law_1094 ?_
  refine z_sld dL_law_1095 v4 ?_
  refine z_i2l dL_law_1096 ?_
  refine z_ldc2 (4294967295) v_La_129 dL_law_1097 ?_
  refine z_land dL_law_1100 ?_
  refine z_lor dL_law_1101 ?_
  refine n_callV1 l_La_135 (h2 S1068 M1) hm.1 dL_law_1102 rfl rfl (Nat.le_of_ble_eq_true rfl) ⟨⟨Nat.le_of_ble_eq_true rfl, Nat.le_of_ble_eq_true rfl⟩, Nat.le_of_ble_eq_true rfl, Nat.le_of_ble_eq_true rfl⟩ (fun S1102 q1102 => ?_)
  obtain ⟨f2, M2⟩ := q1102
  have R2 := R1.fr f2 (fun b g1 g2 _ => by unfold inM; omega)
  refine z_icmp_eq 1207 dL_law_1105 (by decide) (fun c1105 => ?_) (fun c1105 => ?_)
  · exact kk _ _ hW2 R2 M2
  · exact absurd rfl c1105
theorem La_c28 (hx : tRC sh x) (hm : tMo sh m) (hd : m = x + 367) (hW : wOK w) (hR : rRC S x w) (hM : rMo S m w) (v : vIn G t) (kk : KK G n F sh x m t sz) : zW G (MLaw n) room_1 F 390 8337 1110 (lvL G x m t) [] (zhp sh S) sz := by
  have v1 : vp_in (nI (6 * t) + 1) (zbL G) := v 1 (by decide)
  have v2 : vp_in (nI (6 * t) + 2) (zbL G) := v 2 (by decide)
  obtain ⟨r, w2, hW2, h1, h2⟩ := P_read (G := G) (a := sx G t 1) (b := sx G t 2) hx hm hW
  refine z_aload_n dL_law_1110 rfl ?_
  refine z_aload_n dL_law_1111 rfl ?_
  refine z_iload_n dL_law_1112 rfl ?_
  refine z_iconst 1 dL_law_1113 rfl ?_
  refine z_iadd dL_law_1114 ?_
  refine z_sld dL_law_1115 v1 ?_
  refine z_aload_n dL_law_1116 rfl ?_
  refine z_iload_n dL_law_1117 rfl ?_
  refine z_iconst 2 dL_law_1118 rfl ?_
  refine z_iadd dL_law_1119 ?_
  refine z_sld dL_law_1120 v2 ?_
  refine n_callV1 l_La_136 (h1 S hR) hx.1 dL_law_1121 rfl rfl (Nat.le_of_ble_eq_true rfl) ⟨⟨Nat.le_of_ble_eq_true rfl, Nat.le_of_ble_eq_true rfl⟩, Nat.le_of_ble_eq_true rfl, Nat.le_of_ble_eq_true rfl⟩ (fun S1121 q1121 => ?_)
  obtain ⟨f1, R1⟩ := q1121
  have M1 := hM.fr f1 (fun b g1 g2 _ _ _ => by unfold inX; omega)
  refine z_aload_n dL_law_1124 rfl ?_
  refine z_aload_n dL_law_1125 rfl ?_
  refine z_iload_n dL_law_1126 rfl ?_
  refine z_iconst 1 dL_law_1127 rfl ?_
  refine z_iadd dL_law_1128 ?_
  refine z_sld dL_law_1129 v1 ?_
  refine z_aload_n dL_law_1130 rfl ?_
  refine z_iload_n dL_law_1131 rfl ?_
  refine z_iconst 2 dL_law_1132 rfl ?_
  refine z_iadd dL_law_1133 ?_
  refine z_sld dL_law_1134 v2 ?_
  refine n_callV1 l_La_139 (h2 S1121 M1) hm.1 dL_law_1135 rfl rfl (Nat.le_of_ble_eq_true rfl) ⟨⟨Nat.le_of_ble_eq_true rfl, Nat.le_of_ble_eq_true rfl⟩, Nat.le_of_ble_eq_true rfl, Nat.le_of_ble_eq_true rfl⟩ (fun S1135 q1135 => ?_)
  obtain ⟨f2, M2⟩ := q1135
  have R2 := R1.fr f2 (fun b g1 g2 _ => by unfold inM; omega)
  refine z_lcmp dL_law_1138 ?_
  rw [lcmp_self]
  refine z_if_eq 1207 dL_law_1139 (by decide) (fun c1139 => ?_) (fun c1139 => ?_)
  · exact kk _ _ hW2 R2 M2
  · exact absurd rfl c1139
theorem La_c29 (hx : tRC sh x) (hm : tMo sh m) (hd : m = x + 367) (hW : wOK w) (hR : rRC S x w) (hM : rMo S m w) (v : vIn G t) (kk : KK G n F sh x m t sz) : zW G (MLaw n) room_1 F 390 8337 1144 (lvL G x m t) [] (zhp sh S) sz := by
  have v1 : vp_in (nI (6 * t) + 1) (zbL G) := v 1 (by decide)
  have v2 : vp_in (nI (6 * t) + 2) (zbL G) := v 2 (by decide)
  have v3 : vp_in (nI (6 * t) + 3) (zbL G) := v 3 (by decide)
  have v4 : vp_in (nI (6 * t) + 4) (zbL G) := v 4 (by decide)
  have v5 : vp_in (nI (6 * t) + 5) (zbL G) := v 5 (by decide)
  obtain ⟨r, w2, hW2, h1, h2⟩ := P_shift (G := G) (a := sx G t 1) (b := sx G t 2) (c := sx G t 3) (d := sx G t 4) (e := sx G t 5) hx hm hW
  refine z_aload_n dL_law_1144 rfl ?_
  refine z_aload_n dL_law_1145 rfl ?_
  refine z_iload_n dL_law_1146 rfl ?_
  refine z_iconst 1 dL_law_1147 rfl ?_
  refine z_iadd dL_law_1148 ?_
  refine z_sld dL_law_1149 v1 ?_
  refine z_aload_n dL_law_1150 rfl ?_
  refine z_iload_n dL_law_1151 rfl ?_
  refine z_iconst 2 dL_law_1152 rfl ?_
  refine z_iadd dL_law_1153 ?_
  refine z_sld dL_law_1154 v2 ?_
  refine z_aload_n dL_law_1155 rfl ?_
  refine z_iload_n dL_law_1156 rfl ?_
  refine z_iconst 3 dL_law_1157 rfl ?_
  refine z_iadd dL_law_1158 ?_
  refine z_sld dL_law_1159 v3 ?_
  refine z_aload_n dL_law_1160 rfl ?_
  refine z_iload_n dL_law_1161 rfl ?_
  refine z_iconst 4 dL_law_1162 rfl ?_
  refine z_iadd dL_law_1163 ?_
  refine z_sld dL_law_1164 v4 ?_
  refine z_aload_n dL_law_1165 rfl ?_
  refine z_iload_n dL_law_1166 rfl ?_
  refine z_iconst 5 dL_law_1167 rfl ?_
  refine z_iadd dL_law_1168 ?_
  refine z_sld dL_law_1169 v5 ?_
  refine n_callV1 l_La_140 (h1 S hR) hx.1 dL_law_1170 rfl rfl (Nat.le_of_ble_eq_true rfl) ⟨⟨Nat.le_of_ble_eq_true rfl, Nat.le_of_ble_eq_true rfl⟩, Nat.le_of_ble_eq_true rfl, Nat.le_of_ble_eq_true rfl⟩ (fun S1170 q1170 => ?_)
  obtain ⟨f1, R1⟩ := q1170
  have M1 := hM.fr f1 (fun b g1 g2 _ _ _ => by unfold inX; omega)
  refine z_aload_n dL_law_1173 rfl ?_
  refine z_aload_n dL_law_1174 rfl ?_
  refine z_iload_n dL_law_1175 rfl ?_
  refine z_iconst 1 dL_law_1176 rfl ?_
  refine z_iadd dL_law_1177 ?_
  refine z_sld dL_law_1178 v1 ?_
  refine z_aload_n dL_law_1179 rfl ?_
  refine z_iload_n dL_law_1180 rfl ?_
  refine z_iconst 2 dL_law_1181 rfl ?_
  refine z_iadd dL_law_1182 ?_
  refine z_sld dL_law_1183 v2 ?_
  refine z_aload_n dL_law_1184 rfl ?_
  refine z_iload_n dL_law_1185 rfl ?_
  refine z_iconst 3 dL_law_1186 rfl ?_
  refine z_iadd dL_law_1187 ?_
  refine z_sld dL_law_1188 v3 ?_
  refine z_aload_n dL_law_1189 rfl ?_
  refine z_iload_n dL_law_1190 rfl ?_
  refine z_iconst 4 dL_law_1191 rfl ?_
  refine z_iadd dL_law_1192 ?_
  refine z_sld dL_law_1193 v4 ?_
  refine z_aload_n dL_law_1194 rfl ?_
  refine z_iload_n dL_law_1195 rfl ?_
  refine z_iconst 5 dL_law_1196 rfl ?_
  refine z_iadd dL_law_1197 ?_
  refine z_sld dL_law_1198 v5 ?_
  refine n_callV1 l_La_144 (h2 S1170 M1) hm.1 dL_law_1199 rfl rfl (Nat.le_of_ble_eq_true rfl) ⟨⟨Nat.le_of_ble_eq_true rfl, Nat.le_of_ble_eq_true rfl⟩, Nat.le_of_ble_eq_true rfl, Nat.le_of_ble_eq_true rfl⟩ (fun S1199 q1199 => ?_)
  obtain ⟨f2, M2⟩ := q1199
  have R2 := R1.fr f2 (fun b g1 g2 _ => by unfold inM; omega)
  refine z_icmp_eq 1207 dL_law_1202 (by decide) (fun c1202 => ?_) (fun c1202 => ?_)
  · exact kk _ _ hW2 R2 M2
  · exact absurd rfl c1202
end LC


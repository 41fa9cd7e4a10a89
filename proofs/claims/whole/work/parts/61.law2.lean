section LO
variable {K : KL} {θ : Site} {ad : Nat → Nat} {b L : Nat} {xs : Nat → Int32}
theorem nI_and31 (x : Int32) : ∃ k, k < 32 ∧ x &&& nI 31 = nI k := by
  refine ⟨(x &&& nI 31).toBitVec.toNat, ?_, ?_⟩
  · have h1 : (x &&& nI 31).toBitVec = x.toBitVec &&& (nI 31).toBitVec := rfl
    rw [h1, BitVec.toNat_and]
    have h2 : (nI 31).toBitVec.toNat = 2 ^ 5 - 1 := by decide
    rw [h2, Nat.and_two_pow_sub_one_eq_mod]
    exact Nat.mod_lt _ (by decide)
  · apply Int32.toBitVec_inj.mp
    rw [nI_bv]
    simp
theorem la_next (hC : OkL K θ ad b L xs) {i ad0 : Nat} (hi : i + 4 ≤ 2048) (ih : ∀ S S', Both S S' → K 18 [some (.ref b), some (.ref (sA θ 0)), some (.ref ad0), some (.int (nI (i + 4)))] [] S S') {S S' : St} (hB : Both S S') : K 913 [some (.ref b), some (.ref (sA θ 0)), some (.ref ad0), some (.int (nI i))] [] S S' := by
  refine l_iinc_3 (v := nI (i + 4)) hC dL_law_913 ?_ ?_
  · show nI i + nI 4 = nI (i + 4)
    rw [nI_add]
  refine l_goto hC 18 dL_law_916 (by decide) ?_
  exact ih S S' hB
set_option maxRecDepth 100000 in
theorem la_type (hC : OkL K θ ad b L xs) {i ad0 : Nat} (e0 : ad 0 = ad0) (hL : L ≤ 2048) (hi : i + 4 ≤ L) (ih : ∀ S S', Both S S' → K 18 [some (.ref b), some (.ref (sA θ 0)), some (.ref ad0), some (.int (nI (i + 4)))] [] S S') {S S' : St} (hB : Both S S') : K 164 [some (.ref b), some (.ref (sA θ 0)), some (.ref ad0), some (.int (nI i))] [] S S' := by
  subst e0
  obtain ⟨L0, x, T, N, im, tr, hA, hR, hM⟩ := hB
  refine l_aload_n hC dL_law_164 ?_
  refine l_aload_n hC dL_law_165 ?_
  refine l_iload_n hC dL_law_166 ?_
  refine l_iconst (v := nI 1) hC dL_law_167 (by decide) ?_
  refine l_iadd hC dL_law_168 ?_
  rw [nI_add]
  refine l_sld hC dL_law_169 (by omega) hL ?_
  refine l_i2l hC dL_law_170 ?_
  refine l_bipush (v := nI 32) hC dL_law_171 (by decide) ?_
  refine l_lshl hC dL_law_173 ?_
  refine l_aload_n hC dL_law_174 ?_
  refine l_iload_n hC dL_law_175 ?_
  refine l_iconst (v := nI 2) hC dL_law_176 (by decide) ?_
  refine l_iadd hC dL_law_177 ?_
  rw [nI_add]
  refine l_sld hC dL_law_178 (by omega) hL ?_
  refine l_i2l hC dL_law_179 ?_
  refine l_ldc2 hC dL_law_180 klL_13 ?_
  refine l_land hC dL_law_183 ?_
  refine l_lor hC dL_law_184 ?_
  refine l_aload_n hC dL_law_185 ?_
  refine l_iload_n hC dL_law_186 ?_
  refine l_iconst (v := nI 3) hC dL_law_187 (by decide) ?_
  refine l_iadd hC dL_law_188 ?_
  rw [nI_add]
  refine l_sld hC dL_law_189 (by omega) hL ?_
  refine l_xi hC cvL_15 dL_law_190 (x_type θ S L0 x T N im tr hA hR _ (xs (i + 3))) rfl rfl (fun rx Sx hx => ?_)
  refine l_aload_n hC dL_law_193 ?_
  refine l_aload_n hC dL_law_194 ?_
  refine l_iload_n hC dL_law_195 ?_
  refine l_iconst (v := nI 1) hC dL_law_196 (by decide) ?_
  refine l_iadd hC dL_law_197 ?_
  rw [nI_add]
  refine l_sld hC dL_law_198 (by omega) hL ?_
  refine l_i2l hC dL_law_199 ?_
  refine l_bipush (v := nI 32) hC dL_law_200 (by decide) ?_
  refine l_lshl hC dL_law_202 ?_
  refine l_aload_n hC dL_law_203 ?_
  refine l_iload_n hC dL_law_204 ?_
  refine l_iconst (v := nI 2) hC dL_law_205 (by decide) ?_
  refine l_iadd hC dL_law_206 ?_
  rw [nI_add]
  refine l_sld hC dL_law_207 (by omega) hL ?_
  refine l_i2l hC dL_law_208 ?_
  refine l_ldc2 hC dL_law_209 klL_13 ?_
  refine l_land hC dL_law_212 ?_
  refine l_lor hC dL_law_213 ?_
  refine l_aload_n hC dL_law_214 ?_
  refine l_iload_n hC dL_law_215 ?_
  refine l_iconst (v := nI 3) hC dL_law_216 (by decide) ?_
  refine l_iadd hC dL_law_217 ?_
  rw [nI_add]
  refine l_sld hC dL_law_218 (by omega) hL ?_
  refine l_mi hC cvL_19 dL_law_219 (m_type (othS θ ad) S' L0 x T N im tr hA hM _ (xs (i + 3))) rfl rfl (fun rm Sm hm => ?_)
  obtain ⟨rfl, hR1⟩ := hx
  obtain ⟨rfl, hM1⟩ := hm
  refine l_icmp_eq hC 913 dL_law_222 (by decide) (fun _ => ?_) (fun hz => absurd rfl hz)
  exact la_next hC (by omega) ih ⟨_, _, _, _, _, _, hA, hR1, hM1⟩
set_option maxRecDepth 100000 in
theorem la_clear (hC : OkL K θ ad b L xs) {i ad0 : Nat} (e0 : ad 0 = ad0) (hL : L ≤ 2048) (hi : i + 4 ≤ L) (ih : ∀ S S', Both S S' → K 18 [some (.ref b), some (.ref (sA θ 0)), some (.ref ad0), some (.int (nI (i + 4)))] [] S S') {S S' : St} (hB : Both S S') : K 227 [some (.ref b), some (.ref (sA θ 0)), some (.ref ad0), some (.int (nI i))] [] S S' := by
  subst e0
  obtain ⟨L0, x, T, N, im, tr, hA, hR, hM⟩ := hB
  refine l_aload_n hC dL_law_227 ?_
  refine l_xi hC cvL_20 dL_law_228 (x_clear θ S L0 x T N im tr hA hR ) rfl rfl (fun rx Sx hx => ?_)
  refine l_aload_n hC dL_law_231 ?_
  refine l_mi hC cvL_24 dL_law_232 (m_clear (othS θ ad) S' L0 x T N im tr hA hM ) rfl rfl (fun rm Sm hm => ?_)
  obtain ⟨rfl, hR1⟩ := hx
  obtain ⟨rfl, hM1⟩ := hm
  refine l_icmp_eq hC 913 dL_law_235 (by decide) (fun _ => ?_) (fun hz => absurd rfl hz)
  exact la_next hC (by omega) ih ⟨_, _, _, _, _, _, hA, hR1, hM1⟩
set_option maxRecDepth 100000 in
theorem la_town (hC : OkL K θ ad b L xs) {i ad0 : Nat} (e0 : ad 0 = ad0) (hL : L ≤ 2048) (hi : i + 4 ≤ L) (ih : ∀ S S', Both S S' → K 18 [some (.ref b), some (.ref (sA θ 0)), some (.ref ad0), some (.int (nI (i + 4)))] [] S S') {S S' : St} (hB : Both S S') : K 240 [some (.ref b), some (.ref (sA θ 0)), some (.ref ad0), some (.int (nI i))] [] S S' := by
  subst e0
  obtain ⟨L0, x, T, N, im, tr, hA, hR, hM⟩ := hB
  refine l_aload_n hC dL_law_240 ?_
  refine l_xi hC cvL_25 dL_law_241 (x_town θ S L0 x T N im tr hA hR ) rfl rfl (fun rx Sx hx => ?_)
  refine l_aload_n hC dL_law_244 ?_
  refine l_mi hC cvL_28 dL_law_245 (m_town (othS θ ad) S' L0 x T N im tr hA hM ) rfl rfl (fun rm Sm hm => ?_)
  cases hp : pAll L0 x 301 0 T00 N00 0 with
  | inl s =>
    obtain ⟨rfl, hR1⟩ := hx.1 s hp
    obtain ⟨rfl, hM1⟩ := hm.1 s hp
    refine l_icmp_eq hC 913 dL_law_248 (by decide) (fun _ => ?_) (fun hz => absurd rfl hz)
    exact la_next hC (by omega) ih ⟨L0, x, T, N, im, tr, hA, hR1, hM1⟩
  | inr r =>
    obtain ⟨k, T1, N1⟩ := r
    obtain ⟨rfl, hR1, h1, h2⟩ := hx.2 k T1 N1 hp
    obtain ⟨rfl, hM1⟩ := hm.2 k T1 N1 hp
    rw [town_for hp] at hM1
    refine l_icmp_eq hC 913 dL_law_248 (by decide) (fun _ => ?_) (fun hz => absurd rfl hz)
    exact la_next hC (by omega) ih ⟨0, x, T1, N1, fun _ => none, tr, ok_town (L := L0) (x := x) h1 h2, hR1, hM1⟩
set_option maxRecDepth 100000 in
theorem la_piece (hC : OkL K θ ad b L xs) {i ad0 : Nat} (e0 : ad 0 = ad0) (hL : L ≤ 2048) (hi : i + 4 ≤ L) (ih : ∀ S S', Both S S' → K 18 [some (.ref b), some (.ref (sA θ 0)), some (.ref ad0), some (.int (nI (i + 4)))] [] S S') {S S' : St} (hB : Both S S') : K 253 [some (.ref b), some (.ref (sA θ 0)), some (.ref ad0), some (.int (nI i))] [] S S' := by
  subst e0
  obtain ⟨L0, x, T, N, im, tr, hA, hR, hM⟩ := hB
  refine l_aload_n hC dL_law_253 ?_
  refine l_aload_n hC dL_law_254 ?_
  refine l_iload_n hC dL_law_255 ?_
  refine l_iconst (v := nI 1) hC dL_law_256 (by decide) ?_
  refine l_iadd hC dL_law_257 ?_
  rw [nI_add]
  refine l_sld hC dL_law_258 (by omega) hL ?_
  refine l_aload_n hC dL_law_259 ?_
  refine l_iload_n hC dL_law_260 ?_
  refine l_iconst (v := nI 2) hC dL_law_261 (by decide) ?_
  refine l_iadd hC dL_law_262 ?_
  rw [nI_add]
  refine l_sld hC dL_law_263 (by omega) hL ?_
  refine l_xi hC cvL_29 dL_law_264 (x_piece θ S L0 x T N im tr hA hR (xs (i + 1)) (xs (i + 2))) rfl rfl (fun rx Sx hx => ?_)
  refine l_aload_n hC dL_law_267 ?_
  refine l_aload_n hC dL_law_268 ?_
  refine l_iload_n hC dL_law_269 ?_
  refine l_iconst (v := nI 1) hC dL_law_270 (by decide) ?_
  refine l_iadd hC dL_law_271 ?_
  rw [nI_add]
  refine l_sld hC dL_law_272 (by omega) hL ?_
  refine l_aload_n hC dL_law_273 ?_
  refine l_iload_n hC dL_law_274 ?_
  refine l_iconst (v := nI 2) hC dL_law_275 (by decide) ?_
  refine l_iadd hC dL_law_276 ?_
  rw [nI_add]
  refine l_sld hC dL_law_277 (by omega) hL ?_
  refine l_mi hC cvL_33 dL_law_278 (m_piece (othS θ ad) S' L0 x T N im tr hA hM (xs (i + 1)) (xs (i + 2))) rfl rfl (fun rm Sm hm => ?_)
  obtain ⟨rfl, hR1⟩ := hx
  obtain ⟨rfl, hM1⟩ := hm
  refine l_icmp_eq hC 913 dL_law_281 (by decide) (fun _ => ?_) (fun hz => absurd rfl hz)
  exact la_next hC (by omega) ih ⟨_, _, _, _, _, _, hA, hR1, hM1⟩
set_option maxRecDepth 100000 in
theorem la_family (hC : OkL K θ ad b L xs) {i ad0 : Nat} (e0 : ad 0 = ad0) (hL : L ≤ 2048) (hi : i + 4 ≤ L) (ih : ∀ S S', Both S S' → K 18 [some (.ref b), some (.ref (sA θ 0)), some (.ref ad0), some (.int (nI (i + 4)))] [] S S') {S S' : St} (hB : Both S S') : K 286 [some (.ref b), some (.ref (sA θ 0)), some (.ref ad0), some (.int (nI i))] [] S S' := by
  subst e0
  obtain ⟨L0, x, T, N, im, tr, hA, hR, hM⟩ := hB
  refine l_aload_n hC dL_law_286 ?_
  refine l_aload_n hC dL_law_287 ?_
  refine l_iload_n hC dL_law_288 ?_
  refine l_iconst (v := nI 1) hC dL_law_289 (by decide) ?_
  refine l_iadd hC dL_law_290 ?_
  rw [nI_add]
  refine l_sld hC dL_law_291 (by omega) hL ?_
  refine l_aload_n hC dL_law_292 ?_
  refine l_iload_n hC dL_law_293 ?_
  refine l_iconst (v := nI 2) hC dL_law_294 (by decide) ?_
  refine l_iadd hC dL_law_295 ?_
  rw [nI_add]
  refine l_sld hC dL_law_296 (by omega) hL ?_
  refine l_xi hC cvL_34 dL_law_297 (x_family θ S L0 x T N im tr hA hR (xs (i + 1)) (xs (i + 2))) rfl rfl (fun rx Sx hx => ?_)
  refine l_aload_n hC dL_law_300 ?_
  refine l_aload_n hC dL_law_301 ?_
  refine l_iload_n hC dL_law_302 ?_
  refine l_iconst (v := nI 1) hC dL_law_303 (by decide) ?_
  refine l_iadd hC dL_law_304 ?_
  rw [nI_add]
  refine l_sld hC dL_law_305 (by omega) hL ?_
  refine l_aload_n hC dL_law_306 ?_
  refine l_iload_n hC dL_law_307 ?_
  refine l_iconst (v := nI 2) hC dL_law_308 (by decide) ?_
  refine l_iadd hC dL_law_309 ?_
  rw [nI_add]
  refine l_sld hC dL_law_310 (by omega) hL ?_
  refine l_mi hC cvL_37 dL_law_311 (m_family (othS θ ad) S' L0 x T N im tr hA hM (xs (i + 1)) (xs (i + 2))) rfl rfl (fun rm Sm hm => ?_)
  obtain ⟨rfl, hR1⟩ := hx
  obtain ⟨rfl, hM1⟩ := hm
  refine l_icmp_eq hC 913 dL_law_314 (by decide) (fun _ => ?_) (fun hz => absurd rfl hz)
  exact la_next hC (by omega) ih ⟨_, _, _, _, _, _, hA, hR1, hM1⟩
set_option maxRecDepth 100000 in
theorem la_pave (hC : OkL K θ ad b L xs) {i ad0 : Nat} (e0 : ad 0 = ad0) (hL : L ≤ 2048) (hi : i + 4 ≤ L) (ih : ∀ S S', Both S S' → K 18 [some (.ref b), some (.ref (sA θ 0)), some (.ref ad0), some (.int (nI (i + 4)))] [] S S') {S S' : St} (hB : Both S S') : K 319 [some (.ref b), some (.ref (sA θ 0)), some (.ref ad0), some (.int (nI i))] [] S S' := by
  subst e0
  obtain ⟨L0, x, T, N, im, tr, hA, hR, hM⟩ := hB
  refine l_aload_n hC dL_law_319 ?_
  refine l_aload_n hC dL_law_320 ?_
  refine l_iload_n hC dL_law_321 ?_
  refine l_iconst (v := nI 1) hC dL_law_322 (by decide) ?_
  refine l_iadd hC dL_law_323 ?_
  rw [nI_add]
  refine l_sld hC dL_law_324 (by omega) hL ?_
  refine l_aload_n hC dL_law_325 ?_
  refine l_iload_n hC dL_law_326 ?_
  refine l_iconst (v := nI 2) hC dL_law_327 (by decide) ?_
  refine l_iadd hC dL_law_328 ?_
  rw [nI_add]
  refine l_sld hC dL_law_329 (by omega) hL ?_
  refine l_xi hC cvL_38 dL_law_330 (x_pave θ S L0 x T N im tr hA hR (xs (i + 1)) (xs (i + 2))) rfl rfl (fun rx Sx hx => ?_)
  refine l_aload_n hC dL_law_333 ?_
  refine l_aload_n hC dL_law_334 ?_
  refine l_iload_n hC dL_law_335 ?_
  refine l_iconst (v := nI 1) hC dL_law_336 (by decide) ?_
  refine l_iadd hC dL_law_337 ?_
  rw [nI_add]
  refine l_sld hC dL_law_338 (by omega) hL ?_
  refine l_aload_n hC dL_law_339 ?_
  refine l_iload_n hC dL_law_340 ?_
  refine l_iconst (v := nI 2) hC dL_law_341 (by decide) ?_
  refine l_iadd hC dL_law_342 ?_
  rw [nI_add]
  refine l_sld hC dL_law_343 (by omega) hL ?_
  refine l_mi hC cvL_41 dL_law_344 (m_pave (othS θ ad) S' L0 x T N im tr hA hM (xs (i + 1)) (xs (i + 2))) rfl rfl (fun rm Sm hm => ?_)
  obtain ⟨rfl, hR1⟩ := hx
  obtain ⟨rfl, hM1⟩ := hm
  refine l_icmp_eq hC 913 dL_law_347 (by decide) (fun _ => ?_) (fun hz => absurd rfl hz)
  exact la_next hC (by omega) ih ⟨_, _, _, _, _, _, ok_pave hA _ _, hR1, hM1⟩
set_option maxRecDepth 100000 in
theorem la_free (hC : OkL K θ ad b L xs) {i ad0 : Nat} (e0 : ad 0 = ad0) (hL : L ≤ 2048) (hi : i + 4 ≤ L) (ih : ∀ S S', Both S S' → K 18 [some (.ref b), some (.ref (sA θ 0)), some (.ref ad0), some (.int (nI (i + 4)))] [] S S') {S S' : St} (hB : Both S S') : K 352 [some (.ref b), some (.ref (sA θ 0)), some (.ref ad0), some (.int (nI i))] [] S S' := by
  subst e0
  obtain ⟨L0, x, T, N, im, tr, hA, hR, hM⟩ := hB
  refine l_aload_n hC dL_law_352 ?_
  refine l_aload_n hC dL_law_353 ?_
  refine l_iload_n hC dL_law_354 ?_
  refine l_iconst (v := nI 1) hC dL_law_355 (by decide) ?_
  refine l_iadd hC dL_law_356 ?_
  rw [nI_add]
  refine l_sld hC dL_law_357 (by omega) hL ?_
  refine l_xi hC cvL_42 dL_law_358 (x_free θ S L0 x T N im tr hA hR (xs (i + 1))) rfl rfl (fun rx Sx hx => ?_)
  refine l_aload_n hC dL_law_361 ?_
  refine l_aload_n hC dL_law_362 ?_
  refine l_iload_n hC dL_law_363 ?_
  refine l_iconst (v := nI 1) hC dL_law_364 (by decide) ?_
  refine l_iadd hC dL_law_365 ?_
  rw [nI_add]
  refine l_sld hC dL_law_366 (by omega) hL ?_
  refine l_mi hC cvL_46 dL_law_367 (m_free (othS θ ad) S' L0 x T N im tr hA hM (xs (i + 1))) rfl rfl (fun rm Sm hm => ?_)
  obtain ⟨rfl, hR1⟩ := hx
  obtain ⟨rfl, hM1⟩ := hm
  refine l_icmp_eq hC 913 dL_law_370 (by decide) (fun _ => ?_) (fun hz => absurd rfl hz)
  exact la_next hC (by omega) ih ⟨_, _, _, _, _, _, ok_free hA _, hR1, hM1⟩
set_option maxRecDepth 100000 in
theorem la_stone (hC : OkL K θ ad b L xs) {i ad0 : Nat} (e0 : ad 0 = ad0) (hL : L ≤ 2048) (hi : i + 4 ≤ L) (ih : ∀ S S', Both S S' → K 18 [some (.ref b), some (.ref (sA θ 0)), some (.ref ad0), some (.int (nI (i + 4)))] [] S S') {S S' : St} (hB : Both S S') : K 375 [some (.ref b), some (.ref (sA θ 0)), some (.ref ad0), some (.int (nI i))] [] S S' := by
  subst e0
  obtain ⟨L0, x, T, N, im, tr, hA, hR, hM⟩ := hB
  refine l_aload_n hC dL_law_375 ?_
  refine l_aload_n hC dL_law_376 ?_
  refine l_iload_n hC dL_law_377 ?_
  refine l_iconst (v := nI 1) hC dL_law_378 (by decide) ?_
  refine l_iadd hC dL_law_379 ?_
  rw [nI_add]
  refine l_sld hC dL_law_380 (by omega) hL ?_
  refine l_aload_n hC dL_law_381 ?_
  refine l_iload_n hC dL_law_382 ?_
  refine l_iconst (v := nI 2) hC dL_law_383 (by decide) ?_
  refine l_iadd hC dL_law_384 ?_
  rw [nI_add]
  refine l_sld hC dL_law_385 (by omega) hL ?_
  refine l_xi hC cvL_47 dL_law_386 (x_stone θ S L0 x T N im tr hA hR (xs (i + 1)) (xs (i + 2))) rfl rfl (fun rx Sx hx => ?_)
  refine l_aload_n hC dL_law_389 ?_
  refine l_aload_n hC dL_law_390 ?_
  refine l_iload_n hC dL_law_391 ?_
  refine l_iconst (v := nI 1) hC dL_law_392 (by decide) ?_
  refine l_iadd hC dL_law_393 ?_
  rw [nI_add]
  refine l_sld hC dL_law_394 (by omega) hL ?_
  refine l_aload_n hC dL_law_395 ?_
  refine l_iload_n hC dL_law_396 ?_
  refine l_iconst (v := nI 2) hC dL_law_397 (by decide) ?_
  refine l_iadd hC dL_law_398 ?_
  rw [nI_add]
  refine l_sld hC dL_law_399 (by omega) hL ?_
  refine l_mi hC cvL_50 dL_law_400 (m_stone (othS θ ad) S' L0 x T N im tr hA hM (xs (i + 1)) (xs (i + 2))) rfl rfl (fun rm Sm hm => ?_)
  obtain ⟨rfl, hR1⟩ := hx
  obtain ⟨rfl, hM1⟩ := hm
  refine l_icmp_eq hC 913 dL_law_403 (by decide) (fun _ => ?_) (fun hz => absurd rfl hz)
  exact la_next hC (by omega) ih ⟨_, _, _, _, _, _, ok_stone hA _ _, hR1, hM1⟩
set_option maxRecDepth 100000 in
theorem la_flood (hC : OkL K θ ad b L xs) {i ad0 : Nat} (e0 : ad 0 = ad0) (hL : L ≤ 2048) (hi : i + 4 ≤ L) (ih : ∀ S S', Both S S' → K 18 [some (.ref b), some (.ref (sA θ 0)), some (.ref ad0), some (.int (nI (i + 4)))] [] S S') {S S' : St} (hB : Both S S') : K 408 [some (.ref b), some (.ref (sA θ 0)), some (.ref ad0), some (.int (nI i))] [] S S' := by
  subst e0
  obtain ⟨L0, x, T, N, im, tr, hA, hR, hM⟩ := hB
  refine l_aload_n hC dL_law_408 ?_
  refine l_aload_n hC dL_law_409 ?_
  refine l_iload_n hC dL_law_410 ?_
  refine l_iconst (v := nI 1) hC dL_law_411 (by decide) ?_
  refine l_iadd hC dL_law_412 ?_
  rw [nI_add]
  refine l_sld hC dL_law_413 (by omega) hL ?_
  refine l_aload_n hC dL_law_414 ?_
  refine l_iload_n hC dL_law_415 ?_
  refine l_iconst (v := nI 2) hC dL_law_416 (by decide) ?_
  refine l_iadd hC dL_law_417 ?_
  rw [nI_add]
  refine l_sld hC dL_law_418 (by omega) hL ?_
  refine l_xi hC cvL_51 dL_law_419 (x_flood θ S L0 x T N im tr hA hR (xs (i + 1)) (xs (i + 2))) rfl rfl (fun rx Sx hx => ?_)
  refine l_aload_n hC dL_law_422 ?_
  refine l_aload_n hC dL_law_423 ?_
  refine l_iload_n hC dL_law_424 ?_
  refine l_iconst (v := nI 1) hC dL_law_425 (by decide) ?_
  refine l_iadd hC dL_law_426 ?_
  rw [nI_add]
  refine l_sld hC dL_law_427 (by omega) hL ?_
  refine l_aload_n hC dL_law_428 ?_
  refine l_iload_n hC dL_law_429 ?_
  refine l_iconst (v := nI 2) hC dL_law_430 (by decide) ?_
  refine l_iadd hC dL_law_431 ?_
  rw [nI_add]
  refine l_sld hC dL_law_432 (by omega) hL ?_
  refine l_mi hC cvL_54 dL_law_433 (m_flood (othS θ ad) S' L0 x T N im tr hA hM (xs (i + 1)) (xs (i + 2))) rfl rfl (fun rm Sm hm => ?_)
  obtain ⟨rfl, hR1⟩ := hx
  obtain ⟨rfl, hM1⟩ := hm
  refine l_icmp_eq hC 913 dL_law_436 (by decide) (fun _ => ?_) (fun hz => absurd rfl hz)
  exact la_next hC (by omega) ih ⟨_, _, _, _, _, _, ok_flood hA _ _, hR1, hM1⟩
set_option maxRecDepth 100000 in
theorem la_way (hC : OkL K θ ad b L xs) {i ad0 : Nat} (e0 : ad 0 = ad0) (hL : L ≤ 2048) (hi : i + 4 ≤ L) (ih : ∀ S S', Both S S' → K 18 [some (.ref b), some (.ref (sA θ 0)), some (.ref ad0), some (.int (nI (i + 4)))] [] S S') {S S' : St} (hB : Both S S') : K 441 [some (.ref b), some (.ref (sA θ 0)), some (.ref ad0), some (.int (nI i))] [] S S' := by
  subst e0
  obtain ⟨L0, x, T, N, im, tr, hA, hR, hM⟩ := hB
  refine l_aload_n hC dL_law_441 ?_
  refine l_aload_n hC dL_law_442 ?_
  refine l_iload_n hC dL_law_443 ?_
  refine l_iconst (v := nI 1) hC dL_law_444 (by decide) ?_
  refine l_iadd hC dL_law_445 ?_
  rw [nI_add]
  refine l_sld hC dL_law_446 (by omega) hL ?_
  refine l_xi hC cvL_55 dL_law_447 (x_way θ S L0 x T N im tr hA hR (xs (i + 1))) rfl rfl (fun rx Sx hx => ?_)
  refine l_aload_n hC dL_law_450 ?_
  refine l_aload_n hC dL_law_451 ?_
  refine l_iload_n hC dL_law_452 ?_
  refine l_iconst (v := nI 1) hC dL_law_453 (by decide) ?_
  refine l_iadd hC dL_law_454 ?_
  rw [nI_add]
  refine l_sld hC dL_law_455 (by omega) hL ?_
  refine l_mi hC cvL_58 dL_law_456 (m_way (othS θ ad) S' L0 x T N im tr hA hM (xs (i + 1))) rfl rfl (fun rm Sm hm => ?_)
  obtain ⟨rfl, hR1⟩ := hx
  obtain ⟨rfl, hM1⟩ := hm
  refine l_icmp_eq hC 913 dL_law_459 (by decide) (fun _ => ?_) (fun hz => absurd rfl hz)
  exact la_next hC (by omega) ih ⟨_, _, _, _, _, _, hA, hR1, hM1⟩
set_option maxRecDepth 100000 in
theorem la_place (hC : OkL K θ ad b L xs) {i ad0 : Nat} (e0 : ad 0 = ad0) (hL : L ≤ 2048) (hi : i + 4 ≤ L) (ih : ∀ S S', Both S S' → K 18 [some (.ref b), some (.ref (sA θ 0)), some (.ref ad0), some (.int (nI (i + 4)))] [] S S') {S S' : St} (hB : Both S S') : K 464 [some (.ref b), some (.ref (sA θ 0)), some (.ref ad0), some (.int (nI i))] [] S S' := by
  subst e0
  obtain ⟨L0, x, T, N, im, tr, hA, hR, hM⟩ := hB
  refine l_aload_n hC dL_law_464 ?_
  refine l_aload_n hC dL_law_465 ?_
  refine l_iload_n hC dL_law_466 ?_
  refine l_iconst (v := nI 1) hC dL_law_467 (by decide) ?_
  refine l_iadd hC dL_law_468 ?_
  rw [nI_add]
  refine l_sld hC dL_law_469 (by omega) hL ?_
  refine l_aload_n hC dL_law_470 ?_
  refine l_iload_n hC dL_law_471 ?_
  refine l_iconst (v := nI 2) hC dL_law_472 (by decide) ?_
  refine l_iadd hC dL_law_473 ?_
  rw [nI_add]
  refine l_sld hC dL_law_474 (by omega) hL ?_
  refine l_xi hC cvL_59 dL_law_475 (x_place θ S L0 x T N im tr hA hR (xs (i + 1)) (xs (i + 2))) rfl rfl (fun rx Sx hx => ?_)
  refine l_aload_n hC dL_law_478 ?_
  refine l_aload_n hC dL_law_479 ?_
  refine l_iload_n hC dL_law_480 ?_
  refine l_iconst (v := nI 1) hC dL_law_481 (by decide) ?_
  refine l_iadd hC dL_law_482 ?_
  rw [nI_add]
  refine l_sld hC dL_law_483 (by omega) hL ?_
  refine l_aload_n hC dL_law_484 ?_
  refine l_iload_n hC dL_law_485 ?_
  refine l_iconst (v := nI 2) hC dL_law_486 (by decide) ?_
  refine l_iadd hC dL_law_487 ?_
  rw [nI_add]
  refine l_sld hC dL_law_488 (by omega) hL ?_
  refine l_mi hC cvL_62 dL_law_489 (m_place (othS θ ad) S' L0 x T N im tr hA hM (xs (i + 1)) (xs (i + 2))) rfl rfl (fun rm Sm hm => ?_)
  obtain ⟨rfl, hR1⟩ := hx
  obtain ⟨rfl, hM1⟩ := hm
  refine l_icmp_eq hC 913 dL_law_492 (by decide) (fun _ => ?_) (fun hz => absurd rfl hz)
  exact la_next hC (by omega) ih ⟨_, _, _, _, _, _, hA, hR1, hM1⟩
set_option maxRecDepth 100000 in
theorem la_pole (hC : OkL K θ ad b L xs) {i ad0 : Nat} (e0 : ad 0 = ad0) (hL : L ≤ 2048) (hi : i + 4 ≤ L) (ih : ∀ S S', Both S S' → K 18 [some (.ref b), some (.ref (sA θ 0)), some (.ref ad0), some (.int (nI (i + 4)))] [] S S') {S S' : St} (hB : Both S S') : K 497 [some (.ref b), some (.ref (sA θ 0)), some (.ref ad0), some (.int (nI i))] [] S S' := by
  subst e0
  obtain ⟨L0, x, T, N, im, tr, hA, hR, hM⟩ := hB
  refine l_aload_n hC dL_law_497 ?_
  refine l_aload_n hC dL_law_498 ?_
  refine l_iload_n hC dL_law_499 ?_
  refine l_iconst (v := nI 1) hC dL_law_500 (by decide) ?_
  refine l_iadd hC dL_law_501 ?_
  rw [nI_add]
  refine l_sld hC dL_law_502 (by omega) hL ?_
  refine l_aload_n hC dL_law_503 ?_
  refine l_iload_n hC dL_law_504 ?_
  refine l_iconst (v := nI 2) hC dL_law_505 (by decide) ?_
  refine l_iadd hC dL_law_506 ?_
  rw [nI_add]
  refine l_sld hC dL_law_507 (by omega) hL ?_
  refine l_xi hC cvL_63 dL_law_508 (x_pole θ S L0 x T N im tr hA hR (xs (i + 1)) (xs (i + 2))) rfl rfl (fun rx Sx hx => ?_)
  refine l_aload_n hC dL_law_511 ?_
  refine l_aload_n hC dL_law_512 ?_
  refine l_iload_n hC dL_law_513 ?_
  refine l_iconst (v := nI 1) hC dL_law_514 (by decide) ?_
  refine l_iadd hC dL_law_515 ?_
  rw [nI_add]
  refine l_sld hC dL_law_516 (by omega) hL ?_
  refine l_aload_n hC dL_law_517 ?_
  refine l_iload_n hC dL_law_518 ?_
  refine l_iconst (v := nI 2) hC dL_law_519 (by decide) ?_
  refine l_iadd hC dL_law_520 ?_
  rw [nI_add]
  refine l_sld hC dL_law_521 (by omega) hL ?_
  refine l_mi hC cvL_66 dL_law_522 (m_pole (othS θ ad) S' L0 x T N im tr hA hM (xs (i + 1)) (xs (i + 2))) rfl rfl (fun rm Sm hm => ?_)
  obtain ⟨rfl, hR1⟩ := hx
  obtain ⟨rfl, hM1⟩ := hm
  refine l_icmp_eq hC 913 dL_law_525 (by decide) (fun _ => ?_) (fun hz => absurd rfl hz)
  exact la_next hC (by omega) ih ⟨_, _, _, _, _, _, hA, hR1, hM1⟩
set_option maxRecDepth 100000 in
theorem la_judge (hC : OkL K θ ad b L xs) {i ad0 : Nat} (e0 : ad 0 = ad0) (hL : L ≤ 2048) (hi : i + 4 ≤ L) (ih : ∀ S S', Both S S' → K 18 [some (.ref b), some (.ref (sA θ 0)), some (.ref ad0), some (.int (nI (i + 4)))] [] S S') {S S' : St} (hB : Both S S') : K 530 [some (.ref b), some (.ref (sA θ 0)), some (.ref ad0), some (.int (nI i))] [] S S' := by
  subst e0
  obtain ⟨L0, x, T, N, im, tr, hA, hR, hM⟩ := hB
  refine l_aload_n hC dL_law_530 ?_
  refine l_aload_n hC dL_law_531 ?_
  refine l_iload_n hC dL_law_532 ?_
  refine l_iconst (v := nI 1) hC dL_law_533 (by decide) ?_
  refine l_iadd hC dL_law_534 ?_
  rw [nI_add]
  refine l_sld hC dL_law_535 (by omega) hL ?_
  refine l_xi hC cvL_67 dL_law_536 (x_judge θ S L0 x T N im tr hA hR (xs (i + 1))) rfl rfl (fun rx Sx hx => ?_)
  refine l_aload_n hC dL_law_539 ?_
  refine l_aload_n hC dL_law_540 ?_
  refine l_iload_n hC dL_law_541 ?_
  refine l_iconst (v := nI 1) hC dL_law_542 (by decide) ?_
  refine l_iadd hC dL_law_543 ?_
  rw [nI_add]
  refine l_sld hC dL_law_544 (by omega) hL ?_
  refine l_mi hC cvL_70 dL_law_545 (m_judge (othS θ ad) S' L0 x T N im tr hA hM (xs (i + 1))) rfl rfl (fun rm Sm hm => ?_)
  obtain ⟨rfl, hR1⟩ := hx
  obtain ⟨rfl, hM1⟩ := hm
  refine l_icmp_eq hC 913 dL_law_548 (by decide) (fun _ => ?_) (fun hz => absurd rfl hz)
  exact la_next hC (by omega) ih ⟨_, _, _, _, _, _, hA, hR1, hM1⟩
set_option maxRecDepth 100000 in
theorem la_one (hC : OkL K θ ad b L xs) {i ad0 : Nat} (e0 : ad 0 = ad0) (hL : L ≤ 2048) (hi : i + 4 ≤ L) (ih : ∀ S S', Both S S' → K 18 [some (.ref b), some (.ref (sA θ 0)), some (.ref ad0), some (.int (nI (i + 4)))] [] S S') {S S' : St} (hB : Both S S') : K 553 [some (.ref b), some (.ref (sA θ 0)), some (.ref ad0), some (.int (nI i))] [] S S' := by
  subst e0
  obtain ⟨L0, x, T, N, im, tr, hA, hR, hM⟩ := hB
  refine l_aload_n hC dL_law_553 ?_
  refine l_aload_n hC dL_law_554 ?_
  refine l_iload_n hC dL_law_555 ?_
  refine l_iconst (v := nI 1) hC dL_law_556 (by decide) ?_
  refine l_iadd hC dL_law_557 ?_
  rw [nI_add]
  refine l_sld hC dL_law_558 (by omega) hL ?_
  refine l_aload_n hC dL_law_559 ?_
  refine l_iload_n hC dL_law_560 ?_
  refine l_iconst (v := nI 2) hC dL_law_561 (by decide) ?_
  refine l_iadd hC dL_law_562 ?_
  rw [nI_add]
  refine l_sld hC dL_law_563 (by omega) hL ?_
  refine l_xi hC cvL_71 dL_law_564 (x_one θ S L0 x T N im tr hA hR (xs (i + 1)) (xs (i + 2))) rfl rfl (fun rx Sx hx => ?_)
  refine l_aload_n hC dL_law_567 ?_
  refine l_aload_n hC dL_law_568 ?_
  refine l_iload_n hC dL_law_569 ?_
  refine l_iconst (v := nI 1) hC dL_law_570 (by decide) ?_
  refine l_iadd hC dL_law_571 ?_
  rw [nI_add]
  refine l_sld hC dL_law_572 (by omega) hL ?_
  refine l_aload_n hC dL_law_573 ?_
  refine l_iload_n hC dL_law_574 ?_
  refine l_iconst (v := nI 2) hC dL_law_575 (by decide) ?_
  refine l_iadd hC dL_law_576 ?_
  rw [nI_add]
  refine l_sld hC dL_law_577 (by omega) hL ?_
  refine l_mi hC cvL_74 dL_law_578 (m_one (othS θ ad) S' L0 x T N im tr hA hM (xs (i + 1)) (xs (i + 2))) rfl rfl (fun rm Sm hm => ?_)
  obtain ⟨hx0, hR1⟩ := hx
  obtain ⟨rfl, hM1⟩ := hm
  have hx1 := oAns_val hA.1 hx0
  subst hx1
  refine l_icmp_eq hC 913 dL_law_581 (by decide) (fun _ => ?_) (fun hz => absurd rfl hz)
  exact la_next hC (by omega) ih ⟨_, _, _, _, _, _, hA, hR1, hM1⟩
set_option maxRecDepth 100000 in
theorem la_all (hC : OkL K θ ad b L xs) {i ad0 : Nat} (e0 : ad 0 = ad0) (hL : L ≤ 2048) (hi : i + 4 ≤ L) (ih : ∀ S S', Both S S' → K 18 [some (.ref b), some (.ref (sA θ 0)), some (.ref ad0), some (.int (nI (i + 4)))] [] S S') {S S' : St} (hB : Both S S') : K 586 [some (.ref b), some (.ref (sA θ 0)), some (.ref ad0), some (.int (nI i))] [] S S' := by
  subst e0
  obtain ⟨L0, x, T, N, im, tr, hA, hR, hM⟩ := hB
  refine l_aload_n hC dL_law_586 ?_
  refine l_aload_n hC dL_law_587 ?_
  refine l_iload_n hC dL_law_588 ?_
  refine l_iconst (v := nI 1) hC dL_law_589 (by decide) ?_
  refine l_iadd hC dL_law_590 ?_
  rw [nI_add]
  refine l_sld hC dL_law_591 (by omega) hL ?_
  refine l_xi hC cvL_75 dL_law_592 (x_all θ S L0 x T N im tr hA hR (xs (i + 1))) rfl rfl (fun rx Sx hx => ?_)
  refine l_aload_n hC dL_law_595 ?_
  refine l_aload_n hC dL_law_596 ?_
  refine l_iload_n hC dL_law_597 ?_
  refine l_iconst (v := nI 1) hC dL_law_598 (by decide) ?_
  refine l_iadd hC dL_law_599 ?_
  rw [nI_add]
  refine l_sld hC dL_law_600 (by omega) hL ?_
  refine l_mi hC cvL_78 dL_law_601 (m_all (othS θ ad) S' L0 x T N im tr hA hM (xs (i + 1))) rfl rfl (fun rm Sm hm => ?_)
  obtain ⟨hx0, hR1⟩ := hx
  obtain ⟨rfl, hM1⟩ := hm
  have hx1 := aAns_val hA.1 hx0
  subst hx1
  refine l_icmp_eq hC 913 dL_law_604 (by decide) (fun _ => ?_) (fun hz => absurd rfl hz)
  exact la_next hC (by omega) ih ⟨_, _, _, _, _, _, hA, hR1, hM1⟩
set_option maxRecDepth 100000 in
theorem la_change (hC : OkL K θ ad b L xs) {i ad0 : Nat} (e0 : ad 0 = ad0) (hL : L ≤ 2048) (hi : i + 4 ≤ L) (ih : ∀ S S', Both S S' → K 18 [some (.ref b), some (.ref (sA θ 0)), some (.ref ad0), some (.int (nI (i + 4)))] [] S S') {S S' : St} (hB : Both S S') : K 609 [some (.ref b), some (.ref (sA θ 0)), some (.ref ad0), some (.int (nI i))] [] S S' := by
  subst e0
  obtain ⟨L0, x, T, N, im, tr, hA, hR, hM⟩ := hB
  refine l_aload_n hC dL_law_609 ?_
  refine l_xi hC cvL_79 dL_law_610 (x_change θ S L0 x T N im tr hA hR ) rfl rfl (fun rx Sx hx => ?_)
  refine l_aload_n hC dL_law_613 ?_
  refine l_mi hC cvL_82 dL_law_614 (m_change (othS θ ad) S' L0 x T N im tr hA hM ) rfl rfl (fun rm Sm hm => ?_)
  obtain ⟨rfl, hR1⟩ := hx
  obtain ⟨rfl, hM1⟩ := hm
  refine l_icmp_eq hC 913 dL_law_617 (by decide) (fun _ => ?_) (fun hz => absurd rfl hz)
  exact la_next hC (by omega) ih ⟨_, _, _, _, _, _, hA, hR1, hM1⟩
set_option maxRecDepth 100000 in
theorem la_rest (hC : OkL K θ ad b L xs) {i ad0 : Nat} (e0 : ad 0 = ad0) (hL : L ≤ 2048) (hi : i + 4 ≤ L) (ih : ∀ S S', Both S S' → K 18 [some (.ref b), some (.ref (sA θ 0)), some (.ref ad0), some (.int (nI (i + 4)))] [] S S') {S S' : St} (hB : Both S S') : K 622 [some (.ref b), some (.ref (sA θ 0)), some (.ref ad0), some (.int (nI i))] [] S S' := by
  subst e0
  obtain ⟨L0, x, T, N, im, tr, hA, hR, hM⟩ := hB
  refine l_aload_n hC dL_law_622 ?_
  refine l_xi hC cvL_83 dL_law_623 (x_rest θ S L0 x T N im tr hA hR ) rfl rfl (fun rx Sx hx => ?_)
  refine l_aload_n hC dL_law_626 ?_
  refine l_mi hC cvL_86 dL_law_627 (m_rest (othS θ ad) S' L0 x T N im tr hA hM ) rfl rfl (fun rm Sm hm => ?_)
  obtain ⟨rfl, hR1⟩ := hx
  obtain ⟨rfl, hM1⟩ := hm
  refine l_icmp_eq hC 913 dL_law_630 (by decide) (fun _ => ?_) (fun hz => absurd rfl hz)
  exact la_next hC (by omega) ih ⟨_, _, _, _, _, _, hA, hR1, hM1⟩
set_option maxRecDepth 100000 in
theorem la_match (hC : OkL K θ ad b L xs) {i ad0 : Nat} (e0 : ad 0 = ad0) (hL : L ≤ 2048) (hi : i + 4 ≤ L) (ih : ∀ S S', Both S S' → K 18 [some (.ref b), some (.ref (sA θ 0)), some (.ref ad0), some (.int (nI (i + 4)))] [] S S') {S S' : St} (hB : Both S S') : K 635 [some (.ref b), some (.ref (sA θ 0)), some (.ref ad0), some (.int (nI i))] [] S S' := by
  subst e0
  obtain ⟨L0, x, T, N, im, tr, hA, hR, hM⟩ := hB
  refine l_aload_n hC dL_law_635 ?_
  refine l_aload_n hC dL_law_636 ?_
  refine l_iload_n hC dL_law_637 ?_
  refine l_iconst (v := nI 1) hC dL_law_638 (by decide) ?_
  refine l_iadd hC dL_law_639 ?_
  rw [nI_add]
  refine l_sld hC dL_law_640 (by omega) hL ?_
  refine l_aload_n hC dL_law_641 ?_
  refine l_iload_n hC dL_law_642 ?_
  refine l_iconst (v := nI 2) hC dL_law_643 (by decide) ?_
  refine l_iadd hC dL_law_644 ?_
  rw [nI_add]
  refine l_sld hC dL_law_645 (by omega) hL ?_
  refine l_xi hC cvL_87 dL_law_646 (x_match θ S L0 x T N im tr hA hR (xs (i + 1)) (xs (i + 2))) rfl rfl (fun rx Sx hx => ?_)
  refine l_aload_n hC dL_law_649 ?_
  refine l_aload_n hC dL_law_650 ?_
  refine l_iload_n hC dL_law_651 ?_
  refine l_iconst (v := nI 1) hC dL_law_652 (by decide) ?_
  refine l_iadd hC dL_law_653 ?_
  rw [nI_add]
  refine l_sld hC dL_law_654 (by omega) hL ?_
  refine l_aload_n hC dL_law_655 ?_
  refine l_iload_n hC dL_law_656 ?_
  refine l_iconst (v := nI 2) hC dL_law_657 (by decide) ?_
  refine l_iadd hC dL_law_658 ?_
  rw [nI_add]
  refine l_sld hC dL_law_659 (by omega) hL ?_
  refine l_mi hC cvL_90 dL_law_660 (m_match (othS θ ad) S' L0 x T N im tr hA hM (xs (i + 1)) (xs (i + 2))) rfl rfl (fun rm Sm hm => ?_)
  obtain ⟨rfl, hR1⟩ := hx
  obtain ⟨rfl, hM1⟩ := hm
  refine l_icmp_eq hC 913 dL_law_663 (by decide) (fun _ => ?_) (fun hz => absurd rfl hz)
  exact la_next hC (by omega) ih ⟨_, _, _, _, _, _, hA, hR1, hM1⟩
set_option maxRecDepth 100000 in
theorem la_always (hC : OkL K θ ad b L xs) {i ad0 : Nat} (e0 : ad 0 = ad0) (hL : L ≤ 2048) (hi : i + 4 ≤ L) (ih : ∀ S S', Both S S' → K 18 [some (.ref b), some (.ref (sA θ 0)), some (.ref ad0), some (.int (nI (i + 4)))] [] S S') {S S' : St} (hB : Both S S') : K 668 [some (.ref b), some (.ref (sA θ 0)), some (.ref ad0), some (.int (nI i))] [] S S' := by
  subst e0
  obtain ⟨L0, x, T, N, im, tr, hA, hR, hM⟩ := hB
  refine l_aload_n hC dL_law_668 ?_
  refine l_xi hC cvL_91 dL_law_669 (x_always θ S L0 x T N im tr hA hR ) rfl rfl (fun rx Sx hx => ?_)
  refine l_aload_n hC dL_law_672 ?_
  refine l_mi hC cvL_94 dL_law_673 (m_always (othS θ ad) S' L0 x T N im tr hA hM ) rfl rfl (fun rm Sm hm => ?_)
  obtain ⟨rfl, hR1⟩ := hx
  obtain ⟨rfl, hM1⟩ := hm
  refine l_icmp_eq hC 913 dL_law_676 (by decide) (fun _ => ?_) (fun hz => absurd rfl hz)
  exact la_next hC (by omega) ih ⟨_, _, _, _, _, _, hA, hR1, hM1⟩
set_option maxRecDepth 100000 in
theorem la_shut (hC : OkL K θ ad b L xs) {i ad0 : Nat} (e0 : ad 0 = ad0) (hL : L ≤ 2048) (hi : i + 4 ≤ L) (ih : ∀ S S', Both S S' → K 18 [some (.ref b), some (.ref (sA θ 0)), some (.ref ad0), some (.int (nI (i + 4)))] [] S S') {S S' : St} (hB : Both S S') : K 681 [some (.ref b), some (.ref (sA θ 0)), some (.ref ad0), some (.int (nI i))] [] S S' := by
  subst e0
  obtain ⟨L0, x, T, N, im, tr, hA, hR, hM⟩ := hB
  refine l_aload_n hC dL_law_681 ?_
  refine l_aload_n hC dL_law_682 ?_
  refine l_iload_n hC dL_law_683 ?_
  refine l_iconst (v := nI 1) hC dL_law_684 (by decide) ?_
  refine l_iadd hC dL_law_685 ?_
  rw [nI_add]
  refine l_sld hC dL_law_686 (by omega) hL ?_
  refine l_aload_n hC dL_law_687 ?_
  refine l_iload_n hC dL_law_688 ?_
  refine l_iconst (v := nI 2) hC dL_law_689 (by decide) ?_
  refine l_iadd hC dL_law_690 ?_
  rw [nI_add]
  refine l_sld hC dL_law_691 (by omega) hL ?_
  refine l_xl hC cvL_95 dL_law_692 (x_shut θ S L0 x T N im tr hA hR (xs (i + 1)) (xs (i + 2))) rfl rfl (fun rx Sx hx => ?_)
  refine l_aload_n hC dL_law_695 ?_
  refine l_aload_n hC dL_law_696 ?_
  refine l_iload_n hC dL_law_697 ?_
  refine l_iconst (v := nI 1) hC dL_law_698 (by decide) ?_
  refine l_iadd hC dL_law_699 ?_
  rw [nI_add]
  refine l_sld hC dL_law_700 (by omega) hL ?_
  refine l_aload_n hC dL_law_701 ?_
  refine l_iload_n hC dL_law_702 ?_
  refine l_iconst (v := nI 2) hC dL_law_703 (by decide) ?_
  refine l_iadd hC dL_law_704 ?_
  rw [nI_add]
  refine l_sld hC dL_law_705 (by omega) hL ?_
  refine l_ml hC cvL_99 dL_law_706 (m_shut (othS θ ad) S' L0 x T N im tr hA hM (xs (i + 1)) (xs (i + 2))) rfl rfl (fun rm Sm hm => ?_)
  refine l_lcmp hC dL_law_709 ?_
  obtain ⟨rfl, hR1⟩ := hx
  obtain ⟨rfl, hM1⟩ := hm
  refine l_if_eq hC 913 dL_law_710 (by decide) (fun _ => ?_) (fun hz => absurd ((lg_eq _ _).mpr rfl) hz)
  exact la_next hC (by omega) ih ⟨_, _, _, _, _, _, hA, hR1, hM1⟩
set_option maxRecDepth 100000 in
theorem la_saw (hC : OkL K θ ad b L xs) {i ad0 : Nat} (e0 : ad 0 = ad0) (hL : L ≤ 2048) (hi : i + 4 ≤ L) (ih : ∀ S S', Both S S' → K 18 [some (.ref b), some (.ref (sA θ 0)), some (.ref ad0), some (.int (nI (i + 4)))] [] S S') {S S' : St} (hB : Both S S') : K 715 [some (.ref b), some (.ref (sA θ 0)), some (.ref ad0), some (.int (nI i))] [] S S' := by
  subst e0
  obtain ⟨L0, x, T, N, im, tr, hA, hR, hM⟩ := hB
  refine l_aload_n hC dL_law_715 ?_
  refine l_aload_n hC dL_law_716 ?_
  refine l_iload_n hC dL_law_717 ?_
  refine l_iconst (v := nI 1) hC dL_law_718 (by decide) ?_
  refine l_iadd hC dL_law_719 ?_
  rw [nI_add]
  refine l_sld hC dL_law_720 (by omega) hL ?_
  refine l_aload_n hC dL_law_721 ?_
  refine l_iload_n hC dL_law_722 ?_
  refine l_iconst (v := nI 2) hC dL_law_723 (by decide) ?_
  refine l_iadd hC dL_law_724 ?_
  rw [nI_add]
  refine l_sld hC dL_law_725 (by omega) hL ?_
  refine l_xi hC cvL_100 dL_law_726 (x_saw θ S L0 x T N im tr hA hR (xs (i + 1)) (xs (i + 2))) rfl rfl (fun rx Sx hx => ?_)
  refine l_aload_n hC dL_law_729 ?_
  refine l_aload_n hC dL_law_730 ?_
  refine l_iload_n hC dL_law_731 ?_
  refine l_iconst (v := nI 1) hC dL_law_732 (by decide) ?_
  refine l_iadd hC dL_law_733 ?_
  rw [nI_add]
  refine l_sld hC dL_law_734 (by omega) hL ?_
  refine l_aload_n hC dL_law_735 ?_
  refine l_iload_n hC dL_law_736 ?_
  refine l_iconst (v := nI 2) hC dL_law_737 (by decide) ?_
  refine l_iadd hC dL_law_738 ?_
  rw [nI_add]
  refine l_sld hC dL_law_739 (by omega) hL ?_
  refine l_mi hC cvL_103 dL_law_740 (m_saw (othS θ ad) S' L0 x T N im tr hA hM (xs (i + 1)) (xs (i + 2))) rfl rfl (fun rm Sm hm => ?_)
  obtain ⟨rfl, hR1⟩ := hx
  obtain ⟨rfl, hM1⟩ := hm
  refine l_icmp_eq hC 913 dL_law_743 (by decide) (fun _ => ?_) (fun hz => absurd rfl hz)
  exact la_next hC (by omega) ih ⟨_, _, _, _, _, _, ok_saw hA _ _, hR1, hM1⟩
set_option maxRecDepth 100000 in
theorem la_forget (hC : OkL K θ ad b L xs) {i ad0 : Nat} (e0 : ad 0 = ad0) (hL : L ≤ 2048) (hi : i + 4 ≤ L) (ih : ∀ S S', Both S S' → K 18 [some (.ref b), some (.ref (sA θ 0)), some (.ref ad0), some (.int (nI (i + 4)))] [] S S') {S S' : St} (hB : Both S S') : K 748 [some (.ref b), some (.ref (sA θ 0)), some (.ref ad0), some (.int (nI i))] [] S S' := by
  subst e0
  obtain ⟨L0, x, T, N, im, tr, hA, hR, hM⟩ := hB
  refine l_aload_n hC dL_law_748 ?_
  refine l_xi hC cvL_104 dL_law_749 (x_forget θ S L0 x T N im tr hA hR ) rfl rfl (fun rx Sx hx => ?_)
  refine l_aload_n hC dL_law_752 ?_
  refine l_mi hC cvL_107 dL_law_753 (m_forget (othS θ ad) S' L0 x T N im tr hA hM ) rfl rfl (fun rm Sm hm => ?_)
  obtain ⟨rfl, hR1⟩ := hx
  obtain ⟨rfl, hM1⟩ := hm
  refine l_icmp_eq hC 913 dL_law_756 (by decide) (fun _ => ?_) (fun hz => absurd rfl hz)
  exact la_next hC (by omega) ih ⟨_, _, _, _, _, _, ok_forget hA, hR1, hM1⟩
set_option maxRecDepth 100000 in
theorem la_fits (hC : OkL K θ ad b L xs) {i ad0 : Nat} (e0 : ad 0 = ad0) (hL : L ≤ 2048) (hi : i + 4 ≤ L) (ih : ∀ S S', Both S S' → K 18 [some (.ref b), some (.ref (sA θ 0)), some (.ref ad0), some (.int (nI (i + 4)))] [] S S') {S S' : St} (hB : Both S S') : K 761 [some (.ref b), some (.ref (sA θ 0)), some (.ref ad0), some (.int (nI i))] [] S S' := by
  subst e0
  obtain ⟨L0, x, T, N, im, tr, hA, hR, hM⟩ := hB
  refine l_aload_n hC dL_law_761 ?_
  refine l_xi hC cvL_108 dL_law_762 (x_fits θ S L0 x T N im tr hA hR ) rfl rfl (fun rx Sx hx => ?_)
  refine l_aload_n hC dL_law_765 ?_
  refine l_mi hC cvL_111 dL_law_766 (m_fits (othS θ ad) S' L0 x T N im tr hA hM ) rfl rfl (fun rm Sm hm => ?_)
  obtain ⟨rfl, hR1⟩ := hx
  obtain ⟨rfl, hM1⟩ := hm
  refine l_icmp_eq hC 913 dL_law_769 (by decide) (fun _ => ?_) (fun hz => absurd rfl hz)
  exact la_next hC (by omega) ih ⟨_, _, _, _, _, _, hA, hR1, hM1⟩
set_option maxRecDepth 100000 in
theorem la_who (hC : OkL K θ ad b L xs) {i ad0 : Nat} (e0 : ad 0 = ad0) (hL : L ≤ 2048) (hi : i + 4 ≤ L) (ih : ∀ S S', Both S S' → K 18 [some (.ref b), some (.ref (sA θ 0)), some (.ref ad0), some (.int (nI (i + 4)))] [] S S') {S S' : St} (hB : Both S S') : K 774 [some (.ref b), some (.ref (sA θ 0)), some (.ref ad0), some (.int (nI i))] [] S S' := by
  subst e0
  obtain ⟨L0, x, T, N, im, tr, hA, hR, hM⟩ := hB
  refine l_aload_n hC dL_law_774 ?_
  refine l_aload_n hC dL_law_775 ?_
  refine l_iload_n hC dL_law_776 ?_
  refine l_iconst (v := nI 1) hC dL_law_777 (by decide) ?_
  refine l_iadd hC dL_law_778 ?_
  rw [nI_add]
  refine l_sld hC dL_law_779 (by omega) hL ?_
  refine l_xi hC cvL_112 dL_law_780 (x_who θ S L0 x T N im tr hA hR (xs (i + 1))) rfl rfl (fun rx Sx hx => ?_)
  refine l_aload_n hC dL_law_783 ?_
  refine l_aload_n hC dL_law_784 ?_
  refine l_iload_n hC dL_law_785 ?_
  refine l_iconst (v := nI 1) hC dL_law_786 (by decide) ?_
  refine l_iadd hC dL_law_787 ?_
  rw [nI_add]
  refine l_sld hC dL_law_788 (by omega) hL ?_
  refine l_mi hC cvL_115 dL_law_789 (m_who (othS θ ad) S' L0 x T N im tr hA hM (xs (i + 1))) rfl rfl (fun rm Sm hm => ?_)
  obtain ⟨rfl, hR1⟩ := hx
  obtain ⟨rfl, hM1⟩ := hm
  refine l_icmp_eq hC 913 dL_law_792 (by decide) (fun _ => ?_) (fun hz => absurd rfl hz)
  exact la_next hC (by omega) ih ⟨_, _, _, _, _, _, hA, hR1, hM1⟩
set_option maxRecDepth 100000 in
theorem la_mark (hC : OkL K θ ad b L xs) {i ad0 : Nat} (e0 : ad 0 = ad0) (hL : L ≤ 2048) (hi : i + 4 ≤ L) (ih : ∀ S S', Both S S' → K 18 [some (.ref b), some (.ref (sA θ 0)), some (.ref ad0), some (.int (nI (i + 4)))] [] S S') {S S' : St} (hB : Both S S') : K 797 [some (.ref b), some (.ref (sA θ 0)), some (.ref ad0), some (.int (nI i))] [] S S' := by
  subst e0
  obtain ⟨L0, x, T, N, im, tr, hA, hR, hM⟩ := hB
  refine l_aload_n hC dL_law_797 ?_
  refine l_aload_n hC dL_law_798 ?_
  refine l_iload_n hC dL_law_799 ?_
  refine l_iconst (v := nI 1) hC dL_law_800 (by decide) ?_
  refine l_iadd hC dL_law_801 ?_
  rw [nI_add]
  refine l_sld hC dL_law_802 (by omega) hL ?_
  refine l_aload_n hC dL_law_803 ?_
  refine l_iload_n hC dL_law_804 ?_
  refine l_iconst (v := nI 2) hC dL_law_805 (by decide) ?_
  refine l_iadd hC dL_law_806 ?_
  rw [nI_add]
  refine l_sld hC dL_law_807 (by omega) hL ?_
  refine l_xi hC cvL_116 dL_law_808 (x_mark θ S L0 x T N im tr hA hR (xs (i + 1)) (xs (i + 2))) rfl rfl (fun rx Sx hx => ?_)
  refine l_aload_n hC dL_law_811 ?_
  refine l_aload_n hC dL_law_812 ?_
  refine l_iload_n hC dL_law_813 ?_
  refine l_iconst (v := nI 1) hC dL_law_814 (by decide) ?_
  refine l_iadd hC dL_law_815 ?_
  rw [nI_add]
  refine l_sld hC dL_law_816 (by omega) hL ?_
  refine l_aload_n hC dL_law_817 ?_
  refine l_iload_n hC dL_law_818 ?_
  refine l_iconst (v := nI 2) hC dL_law_819 (by decide) ?_
  refine l_iadd hC dL_law_820 ?_
  rw [nI_add]
  refine l_sld hC dL_law_821 (by omega) hL ?_
  refine l_mi hC cvL_119 dL_law_822 (m_mark (othS θ ad) S' L0 x T N im tr hA hM (xs (i + 1)) (xs (i + 2))) rfl rfl (fun rm Sm hm => ?_)
  obtain ⟨rfl, hR1⟩ := hx
  obtain ⟨rfl, hM1⟩ := hm
  refine l_icmp_eq hC 913 dL_law_825 (by decide) (fun _ => ?_) (fun hz => absurd rfl hz)
  exact la_next hC (by omega) ih ⟨_, _, _, _, _, _, hA, hR1, hM1⟩
set_option maxRecDepth 100000 in
theorem la_keep (hC : OkL K θ ad b L xs) {i ad0 : Nat} (e0 : ad 0 = ad0) (hL : L ≤ 2048) (hi : i + 4 ≤ L) (ih : ∀ S S', Both S S' → K 18 [some (.ref b), some (.ref (sA θ 0)), some (.ref ad0), some (.int (nI (i + 4)))] [] S S') {S S' : St} (hB : Both S S') : K 830 [some (.ref b), some (.ref (sA θ 0)), some (.ref ad0), some (.int (nI i))] [] S S' := by
  subst e0
  obtain ⟨L0, x, T, N, im, tr, hA, hR, hM⟩ := hB
  refine l_aload_n hC dL_law_830 ?_
  refine l_aload_n hC dL_law_831 ?_
  refine l_iload_n hC dL_law_832 ?_
  refine l_iconst (v := nI 1) hC dL_law_833 (by decide) ?_
  refine l_iadd hC dL_law_834 ?_
  rw [nI_add]
  refine l_sld hC dL_law_835 (by omega) hL ?_
  refine l_xi hC cvL_120 dL_law_836 (x_keep θ S L0 x T N im tr hA hR (xs (i + 1))) rfl rfl (fun rx Sx hx => ?_)
  refine l_aload_n hC dL_law_839 ?_
  refine l_aload_n hC dL_law_840 ?_
  refine l_iload_n hC dL_law_841 ?_
  refine l_iconst (v := nI 1) hC dL_law_842 (by decide) ?_
  refine l_iadd hC dL_law_843 ?_
  rw [nI_add]
  refine l_sld hC dL_law_844 (by omega) hL ?_
  refine l_mi hC cvL_123 dL_law_845 (m_keep (othS θ ad) S' L0 x T N im tr hA hM (xs (i + 1))) rfl rfl (fun rm Sm hm => ?_)
  obtain ⟨rfl, hR1⟩ := hx
  obtain ⟨rfl, hM1⟩ := hm
  refine l_icmp_eq hC 913 dL_law_848 (by decide) (fun _ => ?_) (fun hz => absurd rfl hz)
  exact la_next hC (by omega) ih ⟨_, _, _, _, _, _, ok_keep hA _, hR1, hM1⟩
set_option maxRecDepth 100000 in
theorem la_back (hC : OkL K θ ad b L xs) {i ad0 : Nat} (e0 : ad 0 = ad0) (hL : L ≤ 2048) (hi : i + 4 ≤ L) (ih : ∀ S S', Both S S' → K 18 [some (.ref b), some (.ref (sA θ 0)), some (.ref ad0), some (.int (nI (i + 4)))] [] S S') {S S' : St} (hB : Both S S') : K 853 [some (.ref b), some (.ref (sA θ 0)), some (.ref ad0), some (.int (nI i))] [] S S' := by
  subst e0
  obtain ⟨L0, x, T, N, im, tr, hA, hR, hM⟩ := hB
  refine l_aload_n hC dL_law_853 ?_
  refine l_aload_n hC dL_law_854 ?_
  refine l_iload_n hC dL_law_855 ?_
  refine l_iconst (v := nI 1) hC dL_law_856 (by decide) ?_
  refine l_iadd hC dL_law_857 ?_
  rw [nI_add]
  refine l_sld hC dL_law_858 (by omega) hL ?_
  refine l_xi hC cvL_124 dL_law_859 (x_back θ S L0 x T N im tr hA hR (xs (i + 1))) rfl rfl (fun rx Sx hx => ?_)
  refine l_aload_n hC dL_law_862 ?_
  refine l_aload_n hC dL_law_863 ?_
  refine l_iload_n hC dL_law_864 ?_
  refine l_iconst (v := nI 1) hC dL_law_865 (by decide) ?_
  refine l_iadd hC dL_law_866 ?_
  rw [nI_add]
  refine l_sld hC dL_law_867 (by omega) hL ?_
  refine l_mi hC cvL_127 dL_law_868 (m_back (othS θ ad) S' L0 x T N im tr hA hM (xs (i + 1))) rfl rfl (fun rm Sm hm => ?_)
  obtain ⟨rfl, hR1⟩ := hx
  obtain ⟨rfl, hM1⟩ := hm
  refine l_icmp_eq hC 913 dL_law_871 (by decide) (fun _ => ?_) (fun hz => absurd rfl hz)
  exact la_next hC (by omega) ih ⟨_, _, _, _, _, _, ok_back hA _, hR1, hM1⟩
set_option maxRecDepth 100000 in
theorem la_count (hC : OkL K θ ad b L xs) {i ad0 : Nat} (e0 : ad 0 = ad0) (hL : L ≤ 2048) (hi : i + 4 ≤ L) (ih : ∀ S S', Both S S' → K 18 [some (.ref b), some (.ref (sA θ 0)), some (.ref ad0), some (.int (nI (i + 4)))] [] S S') {S S' : St} (hB : Both S S') : K 876 [some (.ref b), some (.ref (sA θ 0)), some (.ref ad0), some (.int (nI i))] [] S S' := by
  subst e0
  obtain ⟨L0, x, T, N, im, tr, hA, hR, hM⟩ := hB
  refine l_aload_n hC dL_law_876 ?_
  refine l_aload_n hC dL_law_877 ?_
  refine l_iload_n hC dL_law_878 ?_
  refine l_iconst (v := nI 1) hC dL_law_879 (by decide) ?_
  refine l_iadd hC dL_law_880 ?_
  rw [nI_add]
  refine l_sld hC dL_law_881 (by omega) hL ?_
  refine l_xi hC cvL_128 dL_law_882 (x_count θ S L0 x T N im tr hA hR (xs (i + 1))) rfl rfl (fun rx Sx hx => ?_)
  refine l_aload_n hC dL_law_885 ?_
  refine l_aload_n hC dL_law_886 ?_
  refine l_iload_n hC dL_law_887 ?_
  refine l_iconst (v := nI 1) hC dL_law_888 (by decide) ?_
  refine l_iadd hC dL_law_889 ?_
  rw [nI_add]
  refine l_sld hC dL_law_890 (by omega) hL ?_
  refine l_mi hC cvL_131 dL_law_891 (m_count (othS θ ad) S' L0 x T N im tr hA hM (xs (i + 1))) rfl rfl (fun rm Sm hm => ?_)
  obtain ⟨rfl, hR1⟩ := hx
  obtain ⟨rfl, hM1⟩ := hm
  refine l_icmp_eq hC 913 dL_law_894 (by decide) (fun _ => ?_) (fun hz => absurd rfl hz)
  exact la_next hC (by omega) ih ⟨_, _, _, _, _, _, hA, hR1, hM1⟩
set_option maxRecDepth 100000 in
theorem la_trace (hC : OkL K θ ad b L xs) {i ad0 : Nat} (e0 : ad 0 = ad0) (hL : L ≤ 2048) (hi : i + 4 ≤ L) (ih : ∀ S S', Both S S' → K 18 [some (.ref b), some (.ref (sA θ 0)), some (.ref ad0), some (.int (nI (i + 4)))] [] S S') {S S' : St} (hB : Both S S') : K 899 [some (.ref b), some (.ref (sA θ 0)), some (.ref ad0), some (.int (nI i))] [] S S' := by
  subst e0
  obtain ⟨L0, x, T, N, im, tr, hA, hR, hM⟩ := hB
  refine l_aload_n hC dL_law_899 ?_
  refine l_xl hC cvL_132 dL_law_900 (x_trace θ S L0 x T N im tr hA hR ) rfl rfl (fun rx Sx hx => ?_)
  refine l_aload_n hC dL_law_903 ?_
  refine l_ml hC cvL_136 dL_law_904 (m_trace (othS θ ad) S' L0 x T N im tr hA hM ) rfl rfl (fun rm Sm hm => ?_)
  refine l_lcmp hC dL_law_907 ?_
  obtain ⟨rfl, hR1⟩ := hx
  obtain ⟨rfl, hM1⟩ := hm
  refine l_if_eq hC 913 dL_law_908 (by decide) (fun _ => ?_) (fun hz => absurd ((lg_eq _ _).mpr rfl) hz)
  exact la_next hC (by omega) ih ⟨_, _, _, _, _, _, hA, hR1, hM1⟩
set_option maxRecDepth 100000 in
theorem la_loop (hC : OkL K θ ad b L xs) {ad0 : Nat} (e0 : ad 0 = ad0) (hL : L ≤ 2048) : ∀ n i, i ≤ L + 4 → L + 8 ≤ i + n → ∀ S S', Both S S' → K 18 [some (.ref b), some (.ref (sA θ 0)), some (.ref ad0), some (.int (nI i))] [] S S' := by
  intro n
  induction n with
  | zero => intro i h1 h2; omega
  | succ n ih =>
    intro i h1 h2 S S' hB
    refine l_iload_n hC dL_law_18 ?_
    refine l_aload_n hC dL_law_19 ?_
    refine l_slen hC dL_law_20 ?_
    refine l_iconst (v := nI 4) hC dL_law_21 (by decide) ?_
    refine l_isub hC dL_law_22 ?_
    have hlt : (nI L - nI 4 < nI i) ↔ L < i + 4 := by
      rw [Int32.lt_iff_toInt_lt, pk_sub_toInt (by omega) (by omega), nI_toInt (by omega)]
      omega
    refine l_icmp_gt hC 919 dL_law_23 (by decide) (fun _ => ?_) (fun hge => ?_)
    · refine l_iconst (v := 1) hC dL_law_919 (by decide) ?_
      exact l_ret hC dL_law_920
    have hi : i + 4 ≤ L := by
      rcases Nat.lt_or_ge L (i + 4) with q | q
      · exact absurd (hlt.mpr q) hge
      · exact q
    have ih' : ∀ S S', Both S S' → K 18 [some (.ref b), some (.ref (sA θ 0)), some (.ref ad0), some (.int (nI (i + 4)))] [] S S' := fun S S' h => ih (i + 4) (by omega) (by omega) S S' h
    refine l_aload_n hC dL_law_26 ?_
    refine l_iload_n hC dL_law_27 ?_
    refine l_sld hC dL_law_28 (by omega) hL ?_
    refine l_bipush (v := nI 31) hC dL_law_29 (by decide) ?_
    refine l_iand hC dL_law_31 ?_
    obtain ⟨k, hk, ek⟩ := nI_and31 (xs i)
    rw [ek]
    have et : (nI k).toInt = k := nI_toInt (by omega)
    by_cases h29 : k < 29
    · have go : ∀ (off : Int) (tgt : Nat), (#[132, 195, 208, 221, 254, 287, 320, 343, 376, 409, 432, 465, 498, 521, 554, 577, 590, 603, 636, 649, 683, 716, 729, 742, 765, 798, 821, 844, 867] : Array Int)[k]? = some off → (32 : Int) + off = (tgt : Int) → K tgt [some (.ref b), some (.ref (sA θ 0)), some (.ref ad0), some (.int (nI i))] [] S S' → K (29 + 2 + 1) [some (.ref b), some (.ref (sA θ 0)), some (.ref ad0), some (.int (nI i))] [.int (nI k)] S S' := fun off tgt g1 g2 g3 => l_tabIn hC dL_law_32 (by rw [et]; omega) (by rw [et]; omega) (by rw [et]; simpa using g1) g2 g3
      match k, h29, go with
      | 0, _, go => exact go 132 164 rfl rfl (la_type hC e0 hL hi ih' hB)
      | 1, _, go => exact go 195 227 rfl rfl (la_clear hC e0 hL hi ih' hB)
      | 2, _, go => exact go 208 240 rfl rfl (la_town hC e0 hL hi ih' hB)
      | 3, _, go => exact go 221 253 rfl rfl (la_piece hC e0 hL hi ih' hB)
      | 4, _, go => exact go 254 286 rfl rfl (la_family hC e0 hL hi ih' hB)
      | 5, _, go => exact go 287 319 rfl rfl (la_pave hC e0 hL hi ih' hB)
      | 6, _, go => exact go 320 352 rfl rfl (la_free hC e0 hL hi ih' hB)
      | 7, _, go => exact go 343 375 rfl rfl (la_stone hC e0 hL hi ih' hB)
      | 8, _, go => exact go 376 408 rfl rfl (la_flood hC e0 hL hi ih' hB)
      | 9, _, go => exact go 409 441 rfl rfl (la_way hC e0 hL hi ih' hB)
      | 10, _, go => exact go 432 464 rfl rfl (la_place hC e0 hL hi ih' hB)
      | 11, _, go => exact go 465 497 rfl rfl (la_pole hC e0 hL hi ih' hB)
      | 12, _, go => exact go 498 530 rfl rfl (la_judge hC e0 hL hi ih' hB)
      | 13, _, go => exact go 521 553 rfl rfl (la_one hC e0 hL hi ih' hB)
      | 14, _, go => exact go 554 586 rfl rfl (la_all hC e0 hL hi ih' hB)
      | 15, _, go => exact go 577 609 rfl rfl (la_change hC e0 hL hi ih' hB)
      | 16, _, go => exact go 590 622 rfl rfl (la_rest hC e0 hL hi ih' hB)
      | 17, _, go => exact go 603 635 rfl rfl (la_match hC e0 hL hi ih' hB)
      | 18, _, go => exact go 636 668 rfl rfl (la_always hC e0 hL hi ih' hB)
      | 19, _, go => exact go 649 681 rfl rfl (la_shut hC e0 hL hi ih' hB)
      | 20, _, go => exact go 683 715 rfl rfl (la_saw hC e0 hL hi ih' hB)
      | 21, _, go => exact go 716 748 rfl rfl (la_forget hC e0 hL hi ih' hB)
      | 22, _, go => exact go 729 761 rfl rfl (la_fits hC e0 hL hi ih' hB)
      | 23, _, go => exact go 742 774 rfl rfl (la_who hC e0 hL hi ih' hB)
      | 24, _, go => exact go 765 797 rfl rfl (la_mark hC e0 hL hi ih' hB)
      | 25, _, go => exact go 798 830 rfl rfl (la_keep hC e0 hL hi ih' hB)
      | 26, _, go => exact go 821 853 rfl rfl (la_back hC e0 hL hi ih' hB)
      | 27, _, go => exact go 844 876 rfl rfl (la_count hC e0 hL hi ih' hB)
      | 28, _, go => exact go 867 899 rfl rfl (la_trace hC e0 hL hi ih' hB)
      | k + 29, h, _ => exact absurd h (by omega)
    · refine l_tabOut (tgt := 913) hC dL_law_32 (Or.inr (by rw [et]; omega)) (by decide) ?_
      exact la_next hC (by omega) ih' hB
end LO

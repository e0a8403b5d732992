/-! THE LAW'S LOOP, call by call: by wip/whole/mkloop.py -/
section LPCS
theorem lc_feed {N T cb sb : Nat} {xs : Nat → Int32} {fm : Value} {c u : cS} {w : cW} {lv : rx_L} {Q : ((Option Value) ⊕ String) → List va_E → Prop} (hN : N ≤ 3072) (h6 : 6 * T + 6 ≤ N) (hI : INV T c u) (hw : rOK fm w) (hl : lvK lv T) (hk : ∀ c' u' w' lv', INV (T + 1) c' u' → rOK fm w' → lvK lv' T → rq (rt_P (N, xs) fm) 0 2048 84000 cb sb 1334 lv' [] (hq true c' u' w') Q) : rq (rt_P (N, xs) fm) 0 2048 84000 (1 + (1 + cb)) (6 + (6 + sb)) 188 lv [] (hq true c u w) Q := by
  obtain ⟨l0, l1, l2, l3, l4⟩ := id hl
  have hT : T < 512 := by omega
  have hS : ∀ {x y : cS} {w : cW}, (hq true x y w)[rx_S]? = none := hq_S
  have hS2 : ∀ {x y : cS} {w : cW}, (hq false x y w)[rx_S]? = none := hq_S2
  refine rq_aldn j0_188 l1 ?_
  refine rq_aldn j0_189 l0 ?_
  refine rq_ild j0_190 l4 ?_
  refine rq_pure j0_192 rfl ?_
  refine rq_topi (v := 1) (by decide) ?_
  refine rq_pure j0_193 rfl ?_
  refine rq_topi (v := nI (6 * T + 1)) (nI_add (6 * T) 1) ?_
  refine rq_sald1 (x := xs (6 * T + 1)) j0_194 hS rfl (sc_in h6 hN (by decide)) (sc_x h6 hN (by decide)) ?_
  refine rq_aldn j0_195 l0 ?_
  refine rq_ild j0_196 l4 ?_
  refine rq_pure j0_198 rfl ?_
  refine rq_topi (v := 2) (by decide) ?_
  refine rq_pure j0_199 rfl ?_
  refine rq_topi (v := nI (6 * T + 2)) (nI_add (6 * T) 2) ?_
  refine rq_sald1 (x := xs (6 * T + 2)) j0_200 hS rfl (sc_in h6 hN (by decide)) (sc_x h6 hN (by decide)) ?_
  refine rq_aldn j0_201 l0 ?_
  refine rq_ild j0_202 l4 ?_
  refine rq_pure j0_204 rfl ?_
  refine rq_topi (v := 3) (by decide) ?_
  refine rq_pure j0_205 rfl ?_
  refine rq_topi (v := nI (6 * T + 3)) (nI_add (6 * T) 3) ?_
  refine rq_sald1 (x := xs (6 * T + 3)) j0_206 hS rfl (sc_in h6 hN (by decide)) (sc_x h6 hN (by decide)) ?_
  refine rq_aldn j0_207 l0 ?_
  refine rq_ild j0_208 l4 ?_
  refine rq_pure j0_210 rfl ?_
  refine rq_topi (v := 4) (by decide) ?_
  refine rq_pure j0_211 rfl ?_
  refine rq_topi (v := nI (6 * T + 4)) (nI_add (6 * T) 4) ?_
  refine rq_sald1 (x := xs (6 * T + 4)) j0_212 hS rfl (sc_in h6 hN (by decide)) (sc_x h6 hN (by decide)) ?_
  refine rq_aldn j0_213 l0 ?_
  refine rq_ild j0_214 l4 ?_
  refine rq_pure j0_216 rfl ?_
  refine rq_topi (v := 5) (by decide) ?_
  refine rq_pure j0_217 rfl ?_
  refine rq_topi (v := nI (6 * T + 5)) (nI_add (6 * T) 5) ?_
  refine rq_sald1 (x := xs (6 * T + 5)) j0_218 hS rfl (sc_in h6 hN (by decide)) (sc_x h6 hN (by decide)) ?_
  refine rq_V1 (c1 := 1) (s1 := 6) (F' := 2047) (Lo' := 83975) j0_219 kt0_31 rfl (isa0 ka14_56) rfl rfl rfl ?_
  refine rs_rq (sp_56 hw (by decide) (by decide) (i_feed (n := 1100000) (a1 := (xs (6 * T + 1))) (a2 := (xs (6 * T + 2))) (a3 := (xs (6 * T + 3))) (a4 := (xs (6 * T + 4))) (a5 := (xs (6 * T + 5))) (by decide) hT hI) (fun r hr => ?_)) (by decide) (by decide)
  refine rq_back1 ?_
  rw [hq_sw]
  refine rq_aldn j0_222 l2 ?_
  refine rq_aldn j0_223 l0 ?_
  refine rq_ild j0_224 l4 ?_
  refine rq_pure j0_226 rfl ?_
  refine rq_topi (v := 1) (by decide) ?_
  refine rq_pure j0_227 rfl ?_
  refine rq_topi (v := nI (6 * T + 1)) (nI_add (6 * T) 1) ?_
  refine rq_sald1 (x := xs (6 * T + 1)) j0_228 hS2 rfl (sc_in h6 hN (by decide)) (sc_x h6 hN (by decide)) ?_
  refine rq_aldn j0_229 l0 ?_
  refine rq_ild j0_230 l4 ?_
  refine rq_pure j0_232 rfl ?_
  refine rq_topi (v := 2) (by decide) ?_
  refine rq_pure j0_233 rfl ?_
  refine rq_topi (v := nI (6 * T + 2)) (nI_add (6 * T) 2) ?_
  refine rq_sald1 (x := xs (6 * T + 2)) j0_234 hS2 rfl (sc_in h6 hN (by decide)) (sc_x h6 hN (by decide)) ?_
  refine rq_aldn j0_235 l0 ?_
  refine rq_ild j0_236 l4 ?_
  refine rq_pure j0_238 rfl ?_
  refine rq_topi (v := 3) (by decide) ?_
  refine rq_pure j0_239 rfl ?_
  refine rq_topi (v := nI (6 * T + 3)) (nI_add (6 * T) 3) ?_
  refine rq_sald1 (x := xs (6 * T + 3)) j0_240 hS2 rfl (sc_in h6 hN (by decide)) (sc_x h6 hN (by decide)) ?_
  refine rq_aldn j0_241 l0 ?_
  refine rq_ild j0_242 l4 ?_
  refine rq_pure j0_244 rfl ?_
  refine rq_topi (v := 4) (by decide) ?_
  refine rq_pure j0_245 rfl ?_
  refine rq_topi (v := nI (6 * T + 4)) (nI_add (6 * T) 4) ?_
  refine rq_sald1 (x := xs (6 * T + 4)) j0_246 hS2 rfl (sc_in h6 hN (by decide)) (sc_x h6 hN (by decide)) ?_
  refine rq_aldn j0_247 l0 ?_
  refine rq_ild j0_248 l4 ?_
  refine rq_pure j0_250 rfl ?_
  refine rq_topi (v := 5) (by decide) ?_
  refine rq_pure j0_251 rfl ?_
  refine rq_topi (v := nI (6 * T + 5)) (nI_add (6 * T) 5) ?_
  refine rq_sald1 (x := xs (6 * T + 5)) j0_252 hS2 rfl (sc_in h6 hN (by decide)) (sc_x h6 hN (by decide)) ?_
  refine rq_V1 (c1 := 1) (s1 := 6) (F' := 2047) (Lo' := 83975) j0_253 kt0_35 rfl (isa174 ka15_93) rfl rfl rfl ?_
  refine rs_rq (sp_93 hw (by decide) (by decide) hr (fun s hs => ?_)) (by decide) (by decide)
  refine rq_back1 ?_
  rw [← hq_sw]
  refine rq_iceq (tg := 1334) j0_256 ⟨by decide, by decide⟩ (fun _ => ?_) (fun q => absurd hs.1 q)
  exact hk _ _ _ _ hs.2 hw hl
theorem lc_end {N T cb sb : Nat} {xs : Nat → Int32} {fm : Value} {c u : cS} {w : cW} {lv : rx_L} {Q : ((Option Value) ⊕ String) → List va_E → Prop} (hN : N ≤ 3072) (h6 : 6 * T + 6 ≤ N) (hI : INV T c u) (hw : rOK fm w) (hl : lvK lv T) (hk : ∀ c' u' w' lv', INV (T + 1) c' u' → rOK fm w' → lvK lv' T → rq (rt_P (N, xs) fm) 0 2048 84000 cb sb 1334 lv' [] (hq true c' u' w') Q) : rq (rt_P (N, xs) fm) 0 2048 84000 (1 + (1 + cb)) (6 + (6 + sb)) 261 lv [] (hq true c u w) Q := by
  obtain ⟨l0, l1, l2, l3, l4⟩ := id hl
  have hT : T < 512 := by omega
  have hS : ∀ {x y : cS} {w : cW}, (hq true x y w)[rx_S]? = none := hq_S
  have hS2 : ∀ {x y : cS} {w : cW}, (hq false x y w)[rx_S]? = none := hq_S2
  refine rq_aldn j0_261 l1 ?_
  refine rq_aldn j0_262 l0 ?_
  refine rq_ild j0_263 l4 ?_
  refine rq_pure j0_265 rfl ?_
  refine rq_topi (v := 1) (by decide) ?_
  refine rq_pure j0_266 rfl ?_
  refine rq_topi (v := nI (6 * T + 1)) (nI_add (6 * T) 1) ?_
  refine rq_sald1 (x := xs (6 * T + 1)) j0_267 hS rfl (sc_in h6 hN (by decide)) (sc_x h6 hN (by decide)) ?_
  refine rq_V1 (c1 := 1) (s1 := 6) (F' := 2047) (Lo' := 83979) j0_268 kt0_36 rfl (isa0 ka14_57) rfl rfl rfl ?_
  refine rs_rq (sp_57 hw (by decide) (by decide) (i_end (n := 1100000) (a1 := (xs (6 * T + 1))) hT hI) (fun r hr => ?_)) (by decide) (by decide)
  refine rq_back1 ?_
  rw [hq_sw]
  refine rq_aldn j0_271 l2 ?_
  refine rq_aldn j0_272 l0 ?_
  refine rq_ild j0_273 l4 ?_
  refine rq_pure j0_275 rfl ?_
  refine rq_topi (v := 1) (by decide) ?_
  refine rq_pure j0_276 rfl ?_
  refine rq_topi (v := nI (6 * T + 1)) (nI_add (6 * T) 1) ?_
  refine rq_sald1 (x := xs (6 * T + 1)) j0_277 hS2 rfl (sc_in h6 hN (by decide)) (sc_x h6 hN (by decide)) ?_
  refine rq_V1 (c1 := 1) (s1 := 6) (F' := 2047) (Lo' := 83979) j0_278 kt0_39 rfl (isa174 ka15_95) rfl rfl rfl ?_
  refine rs_rq (sp_95 hw (by decide) (by decide) hr (fun s hs => ?_)) (by decide) (by decide)
  refine rq_back1 ?_
  rw [← hq_sw]
  refine rq_iceq (tg := 1334) j0_281 ⟨by decide, by decide⟩ (fun _ => ?_) (fun q => absurd hs.1 q)
  exact hk _ _ _ _ hs.2 hw hl
theorem lc_out {N T cb sb : Nat} {xs : Nat → Int32} {fm : Value} {c u : cS} {w : cW} {lv : rx_L} {Q : ((Option Value) ⊕ String) → List va_E → Prop} (hN : N ≤ 3072) (h6 : 6 * T + 6 ≤ N) (hI : INV T c u) (hw : rOK fm w) (hl : lvK lv T) (hk : ∀ c' u' w' lv', INV (T + 1) c' u' → rOK fm w' → lvK lv' T → rq (rt_P (N, xs) fm) 0 2048 84000 cb sb 1334 lv' [] (hq true c' u' w') Q) : rq (rt_P (N, xs) fm) 0 2048 84000 (1 + (1 + cb)) (6 + (6 + sb)) 286 lv [] (hq true c u w) Q := by
  obtain ⟨l0, l1, l2, l3, l4⟩ := id hl
  have hT : T < 512 := by omega
  have hS : ∀ {x y : cS} {w : cW}, (hq true x y w)[rx_S]? = none := hq_S
  have hS2 : ∀ {x y : cS} {w : cW}, (hq false x y w)[rx_S]? = none := hq_S2
  refine rq_aldn j0_286 l1 ?_
  refine rq_aldn j0_287 l0 ?_
  refine rq_ild j0_288 l4 ?_
  refine rq_pure j0_290 rfl ?_
  refine rq_topi (v := 1) (by decide) ?_
  refine rq_pure j0_291 rfl ?_
  refine rq_topi (v := nI (6 * T + 1)) (nI_add (6 * T) 1) ?_
  refine rq_sald1 (x := xs (6 * T + 1)) j0_292 hS rfl (sc_in h6 hN (by decide)) (sc_x h6 hN (by decide)) ?_
  refine rq_V1 (c1 := 1) (s1 := 6) (F' := 2047) (Lo' := 83979) j0_293 kt0_40 rfl (isa0 ka14_58) rfl rfl rfl ?_
  refine rs_rq (sp_58 hw (by decide) (by decide) (i_out (n := 1100000) (a1 := (xs (6 * T + 1))) hT hI) (fun r hr => ?_)) (by decide) (by decide)
  refine rq_back1 ?_
  rw [hq_sw]
  refine rq_aldn j0_296 l2 ?_
  refine rq_aldn j0_297 l0 ?_
  refine rq_ild j0_298 l4 ?_
  refine rq_pure j0_300 rfl ?_
  refine rq_topi (v := 1) (by decide) ?_
  refine rq_pure j0_301 rfl ?_
  refine rq_topi (v := nI (6 * T + 1)) (nI_add (6 * T) 1) ?_
  refine rq_sald1 (x := xs (6 * T + 1)) j0_302 hS2 rfl (sc_in h6 hN (by decide)) (sc_x h6 hN (by decide)) ?_
  refine rq_V1 (c1 := 1) (s1 := 6) (F' := 2047) (Lo' := 83979) j0_303 kt0_43 rfl (isa174 ka15_96) rfl rfl rfl ?_
  refine rs_rq (sp_96 hw (by decide) (by decide) hr (fun s hs => ?_)) (by decide) (by decide)
  refine rq_back1 ?_
  rw [← hq_sw]
  refine rq_iceq (tg := 1334) j0_306 ⟨by decide, by decide⟩ (fun _ => ?_) (fun q => absurd hs.1 q)
  exact hk _ _ _ _ hs.2 hw hl
theorem lc_compile {N T cb sb : Nat} {xs : Nat → Int32} {fm : Value} {c u : cS} {w : cW} {lv : rx_L} {Q : ((Option Value) ⊕ String) → List va_E → Prop} (hN : N ≤ 3072) (h6 : 6 * T + 6 ≤ N) (hI : INV T c u) (hw : rOK fm w) (hl : lvK lv T) (hk : ∀ c' u' w' lv', INV (T + 1) c' u' → rOK fm w' → lvK lv' T → rq (rt_P (N, xs) fm) 0 2048 84000 cb sb 1334 lv' [] (hq true c' u' w') Q) : rq (rt_P (N, xs) fm) 0 2048 84000 (1 + (1 + (1 + cb))) (6 + (6 + (6 + sb))) 311 lv [] (hq true c u w) Q := by
  obtain ⟨l0, l1, l2, l3, l4⟩ := id hl
  have hT : T < 512 := by omega
  have hS : ∀ {x y : cS} {w : cW}, (hq true x y w)[rx_S]? = none := hq_S
  have hS2 : ∀ {x y : cS} {w : cW}, (hq false x y w)[rx_S]? = none := hq_S2
  obtain ⟨r, s, e1, e2, d, v, hI2, hX⟩ := jw_ex (i_compile (n := 1100000) (by decide) hT hI)
  refine rq_aldn j0_311 l1 ?_
  refine rq_aldn j0_312 l3 ?_
  refine rq_S1 (c1 := 1) (s1 := 6) (F' := 2047) (Lo' := 83978) j0_313 kt0_44 (by decide) rfl rfl rfl rfl ?_
  refine rq_loc j16_0 rfl rfl ?_
  refine rq_pure j16_1 rfl ?_
  refine rq_topi (v := 0) (by decide) ?_
  refine rq_loc j16_2 rfl rfl ?_
  refine rq_V1 (c1 := 1) (s1 := 6) (cb := 0) (sb := 0) (F' := 2046) (Lo' := 83958) j16_3 kt16_7 rfl (isa0 ka14_59) rfl rfl rfl ?_
  rcases hX with ⟨k, z1, z2, z3⟩ | ⟨z1, z2, z3⟩
  · rw [z1] at e1
    have hw2 : rOK fm (pL w.1 266 0 k.toInt64, w.2) := hw
    refine rs_rq (sp_59 hw (by decide) (by decide) (wp_of (K := fun z => z = .inl (k, d)) e1 rfl) (fun r2 hr2 => ?_) (fun r2 hr2 => by cases hr2)) (by decide) (by decide)
    cases hr2
    refine rq_back1 ?_
    refine rq_pure j16_6 rfl ?_
    refine rq_last j16_7 hq_266 (by decide) ?_
    rw [hq_s266 (q := (0 : Int32).toNatClampNeg) (by decide)]
    refine rq_goto (tg := 14) j16_8 ⟨by decide, by decide⟩ ?_
    refine rq_pure j16_14 rfl ?_
    refine rq_topi (v := nI 0) (by decide) ?_
    refine rq_iret j16_15 rt16 rfl ?_
    refine rq_back1 ?_
    refine rq_ist j0_316 rfl ?_
    have hl5 := lvK_5 (x := nI 0) hl
    obtain ⟨g0, g1, g2, g3, g4⟩ := id hl5.1
    have g5 := hl5.2
    rw [hq_sw]
    refine rq_aldn j0_318 g2 ?_
    refine rq_V1 (c1 := 1) (s1 := 6) (F' := 2047) (Lo' := 83977) j0_319 kt0_49 rfl (isa174 ka15_106) rfl rfl rfl ?_
    refine rs_rq (sp_106 hw2 (by decide) (by decide) (wp_of (K := fun z => z = s) e2 rfl) (fun s2 hs2 => ?_)) (by decide) (by decide)
    rw [hs2, z2]
    refine rq_back1 ?_
    refine rq_ist j0_322 rfl ?_
    have hl6 := lvK_6 (x := k) hl5.1 g5
    obtain ⟨f0, f1, f2, f3, f4⟩ := id hl6.1
    obtain ⟨f5, f6⟩ := hl6.2
    refine rq_aldn j0_324 f2 ?_
    refine rq_V1 (c1 := 1) (s1 := 6) (F' := 2047) (Lo' := 83980) j0_325 kt0_50 rfl (isa174 ka15_92) rfl rfl rfl ?_
    refine rs_rq (sp_92 (n := 0) hw2 (by decide) (by decide) (show wp (d_92 0 v) (fun z => z = v.1 174 0) from rfl) (fun t ht => ?_)) (by decide) (by decide)
    rw [ht, z3]
    refine rq_back1 ?_
    rw [← hq_sw]
    refine rq_ild j0_328 f5 ?_
    refine rq_iceq (tg := 335) j0_330 ⟨by decide, by decide⟩ (fun _ => ?_) (fun q => absurd rfl q)
    refine rq_ild j0_335 f5 ?_
    refine rq_ifne (tg := 352) j0_337 ⟨by decide, by decide⟩ (fun q => absurd rfl q) (fun _ => ?_)
    refine rq_aldn j0_340 f3 ?_
    refine rq_pure j0_341 rfl ?_
    refine rq_topi (v := 0) (by decide) ?_
    refine rq_lald j0_342 hq_266 (by decide) ?_
    refine rq_topl (v := k.toInt64) (pL_266 (w := w)) ?_
    refine rq_ild j0_343 f6 ?_
    refine rq_pure j0_345 rfl ?_
    refine rq_pure j0_346 rfl ?_
    refine rq_ifeq (tg := 352) j0_347 ⟨by decide, by decide⟩ (fun _ => ?_) (fun q => absurd lg_self q)
    refine rq_goto (tg := 1334) j0_352 ⟨by decide, by decide⟩ ?_
    exact hk _ _ _ _ hI2 hw2 hl6.1
  · rw [z1] at e1
    have hw2 : rOK fm w := hw
    refine rs_rq (sp_59 hw (by decide) (by decide) (wp_of (K := fun z => z = .inr d) e1 rfl) (fun r2 hr2 => by cases hr2) (fun r2 hr2 => ?_)) (by decide) (by decide)
    cases hr2
    refine rq_catch1 (E := "java/lang/IllegalArgumentException") (hpc := 11) (k' := 2) kh16_11 rfl ?_
    refine rq_pure j16_12 rfl ?_
    refine rq_topi (v := nI 1) (by decide) ?_
    refine rq_iret j16_13 rt16 rfl ?_
    refine rq_back1 ?_
    refine rq_ist j0_316 rfl ?_
    have hl5 := lvK_5 (x := nI 1) hl
    obtain ⟨g0, g1, g2, g3, g4⟩ := id hl5.1
    have g5 := hl5.2
    rw [hq_sw]
    refine rq_aldn j0_318 g2 ?_
    refine rq_V1 (c1 := 1) (s1 := 6) (F' := 2047) (Lo' := 83977) j0_319 kt0_49 rfl (isa174 ka15_106) rfl rfl rfl ?_
    refine rs_rq (sp_106 hw2 (by decide) (by decide) (wp_of (K := fun z => z = s) e2 rfl) (fun s2 hs2 => ?_)) (by decide) (by decide)
    rw [hs2, z2]
    refine rq_back1 ?_
    refine rq_ist j0_322 rfl ?_
    have hl6 := lvK_6 (x := 0) hl5.1 g5
    obtain ⟨f0, f1, f2, f3, f4⟩ := id hl6.1
    obtain ⟨f5, f6⟩ := hl6.2
    refine rq_aldn j0_324 f2 ?_
    refine rq_V1 (c1 := 1) (s1 := 6) (F' := 2047) (Lo' := 83980) j0_325 kt0_50 rfl (isa174 ka15_92) rfl rfl rfl ?_
    refine rs_rq (sp_92 (n := 0) hw2 (by decide) (by decide) (show wp (d_92 0 v) (fun z => z = v.1 174 0) from rfl) (fun t ht => ?_)) (by decide) (by decide)
    rw [ht, z3]
    refine rq_back1 ?_
    rw [← hq_sw]
    refine rq_ild j0_328 f5 ?_
    refine rq_iceq (tg := 335) j0_330 ⟨by decide, by decide⟩ (fun _ => ?_) (fun q => absurd rfl q)
    refine rq_ild j0_335 f5 ?_
    refine rq_ifne (tg := 352) j0_337 ⟨by decide, by decide⟩ (fun _ => ?_) (fun q => absurd q (by decide))
    refine rq_goto (tg := 1334) j0_352 ⟨by decide, by decide⟩ ?_
    exact hk _ _ _ _ hI2 hw2 hl6.1
theorem lc_fault {N T cb sb : Nat} {xs : Nat → Int32} {fm : Value} {c u : cS} {w : cW} {lv : rx_L} {Q : ((Option Value) ⊕ String) → List va_E → Prop} (hN : N ≤ 3072) (h6 : 6 * T + 6 ≤ N) (hI : INV T c u) (hw : rOK fm w) (hl : lvK lv T) (hk : ∀ c' u' w' lv', INV (T + 1) c' u' → rOK fm w' → lvK lv' T → rq (rt_P (N, xs) fm) 0 2048 84000 cb sb 1334 lv' [] (hq true c' u' w') Q) : rq (rt_P (N, xs) fm) 0 2048 84000 (1 + (1 + cb)) (6 + (6 + sb)) 355 lv [] (hq true c u w) Q := by
  obtain ⟨l0, l1, l2, l3, l4⟩ := id hl
  have hT : T < 512 := by omega
  have hS : ∀ {x y : cS} {w : cW}, (hq true x y w)[rx_S]? = none := hq_S
  have hS2 : ∀ {x y : cS} {w : cW}, (hq false x y w)[rx_S]? = none := hq_S2
  refine rq_aldn j0_355 l1 ?_
  refine rq_aldn j0_356 l0 ?_
  refine rq_ild j0_357 l4 ?_
  refine rq_pure j0_359 rfl ?_
  refine rq_topi (v := 1) (by decide) ?_
  refine rq_pure j0_360 rfl ?_
  refine rq_topi (v := nI (6 * T + 1)) (nI_add (6 * T) 1) ?_
  refine rq_sald1 (x := xs (6 * T + 1)) j0_361 hS rfl (sc_in h6 hN (by decide)) (sc_x h6 hN (by decide)) ?_
  refine rq_V1 (c1 := 1) (s1 := 6) (F' := 2047) (Lo' := 83979) j0_362 kt0_53 rfl (isa0 ka14_60) rfl rfl rfl ?_
  refine rs_rq (sp_60 hw (by decide) (by decide) (i_fault (n := 1100000) (a1 := (xs (6 * T + 1))) hT hI) (fun r hr => ?_)) (by decide) (by decide)
  refine rq_back1 ?_
  rw [hq_sw]
  refine rq_aldn j0_365 l2 ?_
  refine rq_aldn j0_366 l0 ?_
  refine rq_ild j0_367 l4 ?_
  refine rq_pure j0_369 rfl ?_
  refine rq_topi (v := 1) (by decide) ?_
  refine rq_pure j0_370 rfl ?_
  refine rq_topi (v := nI (6 * T + 1)) (nI_add (6 * T) 1) ?_
  refine rq_sald1 (x := xs (6 * T + 1)) j0_371 hS2 rfl (sc_in h6 hN (by decide)) (sc_x h6 hN (by decide)) ?_
  refine rq_V1 (c1 := 1) (s1 := 6) (F' := 2047) (Lo' := 83979) j0_372 kt0_56 rfl (isa174 ka15_107) rfl rfl rfl ?_
  refine rs_rq (sp_107 hw (by decide) (by decide) hr (fun s hs => ?_)) (by decide) (by decide)
  refine rq_back1 ?_
  rw [← hq_sw]
  refine rq_iceq (tg := 1334) j0_375 ⟨by decide, by decide⟩ (fun _ => ?_) (fun q => absurd hs.1 q)
  exact hk _ _ _ _ hs.2 hw hl
theorem lc_tell {N T cb sb : Nat} {xs : Nat → Int32} {fm : Value} {c u : cS} {w : cW} {lv : rx_L} {Q : ((Option Value) ⊕ String) → List va_E → Prop} (hN : N ≤ 3072) (h6 : 6 * T + 6 ≤ N) (hI : INV T c u) (hw : rOK fm w) (hl : lvK lv T) (hk : ∀ c' u' w' lv', INV (T + 1) c' u' → rOK fm w' → lvK lv' T → rq (rt_P (N, xs) fm) 0 2048 84000 cb sb 1334 lv' [] (hq true c' u' w') Q) : rq (rt_P (N, xs) fm) 0 2048 84000 (1 + (1 + cb)) (6 + (6 + sb)) 380 lv [] (hq true c u w) Q := by
  obtain ⟨l0, l1, l2, l3, l4⟩ := id hl
  have hT : T < 512 := by omega
  have hS : ∀ {x y : cS} {w : cW}, (hq true x y w)[rx_S]? = none := hq_S
  have hS2 : ∀ {x y : cS} {w : cW}, (hq false x y w)[rx_S]? = none := hq_S2
  refine rq_aldn j0_380 l1 ?_
  refine rq_V1 (c1 := 1) (s1 := 6) (F' := 2047) (Lo' := 83980) j0_381 kt0_57 rfl (isa0 ka14_61) rfl rfl rfl ?_
  refine rs_rq (sp_61 hw (by decide) (by decide) (i_tell (n := 1100000)  (by decide) hT hI) (fun r hr => ?_)) (by decide) (by decide)
  refine rq_back1 ?_
  rw [hq_sw]
  refine rq_aldn j0_384 l2 ?_
  refine rq_V1 (c1 := 1) (s1 := 6) (F' := 2047) (Lo' := 83979) j0_385 kt0_60 rfl (isa174 ka15_123) rfl rfl rfl ?_
  refine rs_rq (sp_123 hw (by decide) (by decide) hr (fun s hs => ?_)) (by decide) (by decide)
  refine rq_back1 ?_
  rw [← hq_sw]
  refine rq_iceq (tg := 1334) j0_388 ⟨by decide, by decide⟩ (fun _ => ?_) (fun q => absurd hs.1 q)
  exact hk _ _ _ _ hs.2 hw hl
theorem lc_size {N T cb sb : Nat} {xs : Nat → Int32} {fm : Value} {c u : cS} {w : cW} {lv : rx_L} {Q : ((Option Value) ⊕ String) → List va_E → Prop} (hN : N ≤ 3072) (h6 : 6 * T + 6 ≤ N) (hI : INV T c u) (hw : rOK fm w) (hl : lvK lv T) (hk : ∀ c' u' w' lv', INV (T + 1) c' u' → rOK fm w' → lvK lv' T → rq (rt_P (N, xs) fm) 0 2048 84000 cb sb 1334 lv' [] (hq true c' u' w') Q) : rq (rt_P (N, xs) fm) 0 2048 84000 (1 + (1 + cb)) (6 + (6 + sb)) 393 lv [] (hq true c u w) Q := by
  obtain ⟨l0, l1, l2, l3, l4⟩ := id hl
  have hT : T < 512 := by omega
  have hS : ∀ {x y : cS} {w : cW}, (hq true x y w)[rx_S]? = none := hq_S
  have hS2 : ∀ {x y : cS} {w : cW}, (hq false x y w)[rx_S]? = none := hq_S2
  refine rq_aldn j0_393 l1 ?_
  refine rq_aldn j0_394 l0 ?_
  refine rq_ild j0_395 l4 ?_
  refine rq_pure j0_397 rfl ?_
  refine rq_topi (v := 1) (by decide) ?_
  refine rq_pure j0_398 rfl ?_
  refine rq_topi (v := nI (6 * T + 1)) (nI_add (6 * T) 1) ?_
  refine rq_sald1 (x := xs (6 * T + 1)) j0_399 hS rfl (sc_in h6 hN (by decide)) (sc_x h6 hN (by decide)) ?_
  refine rq_aldn j0_400 l0 ?_
  refine rq_ild j0_401 l4 ?_
  refine rq_pure j0_403 rfl ?_
  refine rq_topi (v := 2) (by decide) ?_
  refine rq_pure j0_404 rfl ?_
  refine rq_topi (v := nI (6 * T + 2)) (nI_add (6 * T) 2) ?_
  refine rq_sald1 (x := xs (6 * T + 2)) j0_405 hS rfl (sc_in h6 hN (by decide)) (sc_x h6 hN (by decide)) ?_
  refine rq_V1 (c1 := 1) (s1 := 6) (F' := 2047) (Lo' := 83978) j0_406 kt0_61 rfl (isa0 ka14_62) rfl rfl rfl ?_
  refine rs_rq (sp_62 hw (by decide) (by decide) (i_size (n := 1100000) (a1 := (xs (6 * T + 1))) (a2 := (xs (6 * T + 2))) hT hI) (fun r hr => ?_)) (by decide) (by decide)
  refine rq_back1 ?_
  rw [hq_sw]
  refine rq_aldn j0_409 l2 ?_
  refine rq_aldn j0_410 l0 ?_
  refine rq_ild j0_411 l4 ?_
  refine rq_pure j0_413 rfl ?_
  refine rq_topi (v := 1) (by decide) ?_
  refine rq_pure j0_414 rfl ?_
  refine rq_topi (v := nI (6 * T + 1)) (nI_add (6 * T) 1) ?_
  refine rq_sald1 (x := xs (6 * T + 1)) j0_415 hS2 rfl (sc_in h6 hN (by decide)) (sc_x h6 hN (by decide)) ?_
  refine rq_aldn j0_416 l0 ?_
  refine rq_ild j0_417 l4 ?_
  refine rq_pure j0_419 rfl ?_
  refine rq_topi (v := 2) (by decide) ?_
  refine rq_pure j0_420 rfl ?_
  refine rq_topi (v := nI (6 * T + 2)) (nI_add (6 * T) 2) ?_
  refine rq_sald1 (x := xs (6 * T + 2)) j0_421 hS2 rfl (sc_in h6 hN (by decide)) (sc_x h6 hN (by decide)) ?_
  refine rq_V1 (c1 := 1) (s1 := 6) (F' := 2047) (Lo' := 83978) j0_422 kt0_65 rfl (isa174 ka15_118) rfl rfl rfl ?_
  refine rs_rq (sp_118 hw (by decide) (by decide) hr (fun s hs => ?_)) (by decide) (by decide)
  refine rq_back1 ?_
  rw [← hq_sw]
  refine rq_iceq (tg := 1334) j0_425 ⟨by decide, by decide⟩ (fun _ => ?_) (fun q => absurd hs.1 q)
  exact hk _ _ _ _ hs.2 hw hl
theorem lc_order {N T cb sb : Nat} {xs : Nat → Int32} {fm : Value} {c u : cS} {w : cW} {lv : rx_L} {Q : ((Option Value) ⊕ String) → List va_E → Prop} (hN : N ≤ 3072) (h6 : 6 * T + 6 ≤ N) (hI : INV T c u) (hw : rOK fm w) (hl : lvK lv T) (hk : ∀ c' u' w' lv', INV (T + 1) c' u' → rOK fm w' → lvK lv' T → rq (rt_P (N, xs) fm) 0 2048 84000 cb sb 1334 lv' [] (hq true c' u' w') Q) : rq (rt_P (N, xs) fm) 0 2048 84000 (1 + (1 + cb)) (6 + (6 + sb)) 430 lv [] (hq true c u w) Q := by
  obtain ⟨l0, l1, l2, l3, l4⟩ := id hl
  have hT : T < 512 := by omega
  have hS : ∀ {x y : cS} {w : cW}, (hq true x y w)[rx_S]? = none := hq_S
  have hS2 : ∀ {x y : cS} {w : cW}, (hq false x y w)[rx_S]? = none := hq_S2
  refine rq_aldn j0_430 l1 ?_
  refine rq_aldn j0_431 l0 ?_
  refine rq_ild j0_432 l4 ?_
  refine rq_pure j0_434 rfl ?_
  refine rq_topi (v := 1) (by decide) ?_
  refine rq_pure j0_435 rfl ?_
  refine rq_topi (v := nI (6 * T + 1)) (nI_add (6 * T) 1) ?_
  refine rq_sald1 (x := xs (6 * T + 1)) j0_436 hS rfl (sc_in h6 hN (by decide)) (sc_x h6 hN (by decide)) ?_
  refine rq_aldn j0_437 l0 ?_
  refine rq_ild j0_438 l4 ?_
  refine rq_pure j0_440 rfl ?_
  refine rq_topi (v := 2) (by decide) ?_
  refine rq_pure j0_441 rfl ?_
  refine rq_topi (v := nI (6 * T + 2)) (nI_add (6 * T) 2) ?_
  refine rq_sald1 (x := xs (6 * T + 2)) j0_442 hS rfl (sc_in h6 hN (by decide)) (sc_x h6 hN (by decide)) ?_
  refine rq_aldn j0_443 l0 ?_
  refine rq_ild j0_444 l4 ?_
  refine rq_pure j0_446 rfl ?_
  refine rq_topi (v := 3) (by decide) ?_
  refine rq_pure j0_447 rfl ?_
  refine rq_topi (v := nI (6 * T + 3)) (nI_add (6 * T) 3) ?_
  refine rq_sald1 (x := xs (6 * T + 3)) j0_448 hS rfl (sc_in h6 hN (by decide)) (sc_x h6 hN (by decide)) ?_
  refine rq_aldn j0_449 l0 ?_
  refine rq_ild j0_450 l4 ?_
  refine rq_pure j0_452 rfl ?_
  refine rq_topi (v := 4) (by decide) ?_
  refine rq_pure j0_453 rfl ?_
  refine rq_topi (v := nI (6 * T + 4)) (nI_add (6 * T) 4) ?_
  refine rq_sald1 (x := xs (6 * T + 4)) j0_454 hS rfl (sc_in h6 hN (by decide)) (sc_x h6 hN (by decide)) ?_
  refine rq_V1 (c1 := 1) (s1 := 6) (F' := 2047) (Lo' := 83975) j0_455 kt0_66 rfl (isa0 ka14_63) rfl rfl rfl ?_
  refine rs_rq (sp_63 hw (by decide) (by decide) (i_order (n := 1100000) (a1 := (xs (6 * T + 1))) (a2 := (xs (6 * T + 2))) (a3 := (xs (6 * T + 3))) (a4 := (xs (6 * T + 4))) hT hI) (fun r hr => ?_)) (by decide) (by decide)
  refine rq_back1 ?_
  rw [hq_sw]
  refine rq_aldn j0_458 l2 ?_
  refine rq_aldn j0_459 l0 ?_
  refine rq_ild j0_460 l4 ?_
  refine rq_pure j0_462 rfl ?_
  refine rq_topi (v := 1) (by decide) ?_
  refine rq_pure j0_463 rfl ?_
  refine rq_topi (v := nI (6 * T + 1)) (nI_add (6 * T) 1) ?_
  refine rq_sald1 (x := xs (6 * T + 1)) j0_464 hS2 rfl (sc_in h6 hN (by decide)) (sc_x h6 hN (by decide)) ?_
  refine rq_aldn j0_465 l0 ?_
  refine rq_ild j0_466 l4 ?_
  refine rq_pure j0_468 rfl ?_
  refine rq_topi (v := 2) (by decide) ?_
  refine rq_pure j0_469 rfl ?_
  refine rq_topi (v := nI (6 * T + 2)) (nI_add (6 * T) 2) ?_
  refine rq_sald1 (x := xs (6 * T + 2)) j0_470 hS2 rfl (sc_in h6 hN (by decide)) (sc_x h6 hN (by decide)) ?_
  refine rq_aldn j0_471 l0 ?_
  refine rq_ild j0_472 l4 ?_
  refine rq_pure j0_474 rfl ?_
  refine rq_topi (v := 3) (by decide) ?_
  refine rq_pure j0_475 rfl ?_
  refine rq_topi (v := nI (6 * T + 3)) (nI_add (6 * T) 3) ?_
  refine rq_sald1 (x := xs (6 * T + 3)) j0_476 hS2 rfl (sc_in h6 hN (by decide)) (sc_x h6 hN (by decide)) ?_
  refine rq_aldn j0_477 l0 ?_
  refine rq_ild j0_478 l4 ?_
  refine rq_pure j0_480 rfl ?_
  refine rq_topi (v := 4) (by decide) ?_
  refine rq_pure j0_481 rfl ?_
  refine rq_topi (v := nI (6 * T + 4)) (nI_add (6 * T) 4) ?_
  refine rq_sald1 (x := xs (6 * T + 4)) j0_482 hS2 rfl (sc_in h6 hN (by decide)) (sc_x h6 hN (by decide)) ?_
  refine rq_V1 (c1 := 1) (s1 := 6) (F' := 2047) (Lo' := 83976) j0_483 kt0_70 rfl (isa174 ka15_120) rfl rfl rfl ?_
  refine rs_rq (sp_120 hw (by decide) (by decide) hr (fun s hs => ?_)) (by decide) (by decide)
  refine rq_back1 ?_
  rw [← hq_sw]
  refine rq_iceq (tg := 1334) j0_486 ⟨by decide, by decide⟩ (fun _ => ?_) (fun q => absurd hs.1 q)
  exact hk _ _ _ _ hs.2 hw hl
theorem lc_mark {N T cb sb : Nat} {xs : Nat → Int32} {fm : Value} {c u : cS} {w : cW} {lv : rx_L} {Q : ((Option Value) ⊕ String) → List va_E → Prop} (hN : N ≤ 3072) (h6 : 6 * T + 6 ≤ N) (hI : INV T c u) (hw : rOK fm w) (hl : lvK lv T) (hk : ∀ c' u' w' lv', INV (T + 1) c' u' → rOK fm w' → lvK lv' T → rq (rt_P (N, xs) fm) 0 2048 84000 cb sb 1334 lv' [] (hq true c' u' w') Q) : rq (rt_P (N, xs) fm) 0 2048 84000 (1 + (1 + cb)) (6 + (6 + sb)) 491 lv [] (hq true c u w) Q := by
  obtain ⟨l0, l1, l2, l3, l4⟩ := id hl
  have hT : T < 512 := by omega
  have hS : ∀ {x y : cS} {w : cW}, (hq true x y w)[rx_S]? = none := hq_S
  have hS2 : ∀ {x y : cS} {w : cW}, (hq false x y w)[rx_S]? = none := hq_S2
  refine rq_aldn j0_491 l1 ?_
  refine rq_aldn j0_492 l0 ?_
  refine rq_ild j0_493 l4 ?_
  refine rq_pure j0_495 rfl ?_
  refine rq_topi (v := 1) (by decide) ?_
  refine rq_pure j0_496 rfl ?_
  refine rq_topi (v := nI (6 * T + 1)) (nI_add (6 * T) 1) ?_
  refine rq_sald1 (x := xs (6 * T + 1)) j0_497 hS rfl (sc_in h6 hN (by decide)) (sc_x h6 hN (by decide)) ?_
  refine rq_aldn j0_498 l0 ?_
  refine rq_ild j0_499 l4 ?_
  refine rq_pure j0_501 rfl ?_
  refine rq_topi (v := 2) (by decide) ?_
  refine rq_pure j0_502 rfl ?_
  refine rq_topi (v := nI (6 * T + 2)) (nI_add (6 * T) 2) ?_
  refine rq_sald1 (x := xs (6 * T + 2)) j0_503 hS rfl (sc_in h6 hN (by decide)) (sc_x h6 hN (by decide)) ?_
  refine rq_aldn j0_504 l0 ?_
  refine rq_ild j0_505 l4 ?_
  refine rq_pure j0_507 rfl ?_
  refine rq_topi (v := 3) (by decide) ?_
  refine rq_pure j0_508 rfl ?_
  refine rq_topi (v := nI (6 * T + 3)) (nI_add (6 * T) 3) ?_
  refine rq_sald1 (x := xs (6 * T + 3)) j0_509 hS rfl (sc_in h6 hN (by decide)) (sc_x h6 hN (by decide)) ?_
  refine rq_V1 (c1 := 1) (s1 := 6) (F' := 2047) (Lo' := 83976) j0_510 kt0_71 rfl (isa0 ka14_64) rfl rfl rfl ?_
  refine rs_rq (sp_64 hw (by decide) (by decide) (i_mark (n := 1100000) (a1 := (xs (6 * T + 1))) (a2 := (xs (6 * T + 2))) (a3 := (xs (6 * T + 3))) (by decide) hT hI) (fun r hr => ?_)) (by decide) (by decide)
  refine rq_back1 ?_
  rw [hq_sw]
  refine rq_aldn j0_513 l2 ?_
  refine rq_aldn j0_514 l0 ?_
  refine rq_ild j0_515 l4 ?_
  refine rq_pure j0_517 rfl ?_
  refine rq_topi (v := 1) (by decide) ?_
  refine rq_pure j0_518 rfl ?_
  refine rq_topi (v := nI (6 * T + 1)) (nI_add (6 * T) 1) ?_
  refine rq_sald1 (x := xs (6 * T + 1)) j0_519 hS2 rfl (sc_in h6 hN (by decide)) (sc_x h6 hN (by decide)) ?_
  refine rq_aldn j0_520 l0 ?_
  refine rq_ild j0_521 l4 ?_
  refine rq_pure j0_523 rfl ?_
  refine rq_topi (v := 2) (by decide) ?_
  refine rq_pure j0_524 rfl ?_
  refine rq_topi (v := nI (6 * T + 2)) (nI_add (6 * T) 2) ?_
  refine rq_sald1 (x := xs (6 * T + 2)) j0_525 hS2 rfl (sc_in h6 hN (by decide)) (sc_x h6 hN (by decide)) ?_
  refine rq_aldn j0_526 l0 ?_
  refine rq_ild j0_527 l4 ?_
  refine rq_pure j0_529 rfl ?_
  refine rq_topi (v := 3) (by decide) ?_
  refine rq_pure j0_530 rfl ?_
  refine rq_topi (v := nI (6 * T + 3)) (nI_add (6 * T) 3) ?_
  refine rq_sald1 (x := xs (6 * T + 3)) j0_531 hS2 rfl (sc_in h6 hN (by decide)) (sc_x h6 hN (by decide)) ?_
  refine rq_V1 (c1 := 1) (s1 := 6) (F' := 2047) (Lo' := 83975) j0_532 kt0_75 rfl (isa174 ka15_117) rfl rfl rfl ?_
  refine rs_rq (sp_117 hw (by decide) (by decide) hr (fun s hs => ?_)) (by decide) (by decide)
  refine rq_back1 ?_
  rw [← hq_sw]
  refine rq_iceq (tg := 1334) j0_535 ⟨by decide, by decide⟩ (fun _ => ?_) (fun q => absurd hs.1 q)
  exact hk _ _ _ _ hs.2 hw hl
theorem lc_give {N T cb sb : Nat} {xs : Nat → Int32} {fm : Value} {c u : cS} {w : cW} {lv : rx_L} {Q : ((Option Value) ⊕ String) → List va_E → Prop} (hN : N ≤ 3072) (h6 : 6 * T + 6 ≤ N) (hI : INV T c u) (hw : rOK fm w) (hl : lvK lv T) (hk : ∀ c' u' w' lv', INV (T + 1) c' u' → rOK fm w' → lvK lv' T → rq (rt_P (N, xs) fm) 0 2048 84000 cb sb 1334 lv' [] (hq true c' u' w') Q) : rq (rt_P (N, xs) fm) 0 2048 84000 (1 + (1 + cb)) (6 + (6 + sb)) 540 lv [] (hq true c u w) Q := by
  obtain ⟨l0, l1, l2, l3, l4⟩ := id hl
  have hT : T < 512 := by omega
  have hS : ∀ {x y : cS} {w : cW}, (hq true x y w)[rx_S]? = none := hq_S
  have hS2 : ∀ {x y : cS} {w : cW}, (hq false x y w)[rx_S]? = none := hq_S2
  refine rq_aldn j0_540 l1 ?_
  refine rq_aldn j0_541 l0 ?_
  refine rq_ild j0_542 l4 ?_
  refine rq_pure j0_544 rfl ?_
  refine rq_topi (v := 1) (by decide) ?_
  refine rq_pure j0_545 rfl ?_
  refine rq_topi (v := nI (6 * T + 1)) (nI_add (6 * T) 1) ?_
  refine rq_sald1 (x := xs (6 * T + 1)) j0_546 hS rfl (sc_in h6 hN (by decide)) (sc_x h6 hN (by decide)) ?_
  refine rq_V1 (c1 := 1) (s1 := 6) (F' := 2047) (Lo' := 83977) j0_547 kt0_76 rfl (isa0 ka14_65) rfl rfl rfl ?_
  refine rs_rq (sp_65 hw (by decide) (by decide) (i_give (n := 1100000) (a1 := (xs (6 * T + 1))) (by decide) hT hI) (fun r hr => ?_)) (by decide) (by decide)
  refine rq_back1 ?_
  rw [hq_sw]
  refine rq_aldn j0_550 l2 ?_
  refine rq_aldn j0_551 l0 ?_
  refine rq_ild j0_552 l4 ?_
  refine rq_pure j0_554 rfl ?_
  refine rq_topi (v := 1) (by decide) ?_
  refine rq_pure j0_555 rfl ?_
  refine rq_topi (v := nI (6 * T + 1)) (nI_add (6 * T) 1) ?_
  refine rq_sald1 (x := xs (6 * T + 1)) j0_556 hS2 rfl (sc_in h6 hN (by decide)) (sc_x h6 hN (by decide)) ?_
  refine rq_V1 (c1 := 1) (s1 := 6) (F' := 2047) (Lo' := 83972) j0_557 kt0_79 rfl (isa174 ka15_121) rfl rfl rfl ?_
  refine rs_rq (sp_121 hw (by decide) (by decide) hr (fun s hs => ?_)) (by decide) (by decide)
  refine rq_back1 ?_
  rw [← hq_sw]
  refine rq_iceq (tg := 1334) j0_560 ⟨by decide, by decide⟩ (fun _ => ?_) (fun q => absurd hs.1 q)
  exact hk _ _ _ _ hs.2 hw hl
theorem lc_file {N T cb sb : Nat} {xs : Nat → Int32} {fm : Value} {c u : cS} {w : cW} {lv : rx_L} {Q : ((Option Value) ⊕ String) → List va_E → Prop} (hN : N ≤ 3072) (h6 : 6 * T + 6 ≤ N) (hI : INV T c u) (hw : rOK fm w) (hl : lvK lv T) (hk : ∀ c' u' w' lv', INV (T + 1) c' u' → rOK fm w' → lvK lv' T → rq (rt_P (N, xs) fm) 0 2048 84000 cb sb 1334 lv' [] (hq true c' u' w') Q) : rq (rt_P (N, xs) fm) 0 2048 84000 (1 + (1 + cb)) (6 + (6 + sb)) 565 lv [] (hq true c u w) Q := by
  obtain ⟨l0, l1, l2, l3, l4⟩ := id hl
  have hT : T < 512 := by omega
  have hS : ∀ {x y : cS} {w : cW}, (hq true x y w)[rx_S]? = none := hq_S
  have hS2 : ∀ {x y : cS} {w : cW}, (hq false x y w)[rx_S]? = none := hq_S2
  refine rq_aldn j0_565 l1 ?_
  refine rq_aldn j0_566 l0 ?_
  refine rq_ild j0_567 l4 ?_
  refine rq_pure j0_569 rfl ?_
  refine rq_topi (v := 1) (by decide) ?_
  refine rq_pure j0_570 rfl ?_
  refine rq_topi (v := nI (6 * T + 1)) (nI_add (6 * T) 1) ?_
  refine rq_sald1 (x := xs (6 * T + 1)) j0_571 hS rfl (sc_in h6 hN (by decide)) (sc_x h6 hN (by decide)) ?_
  refine rq_V1 (c1 := 1) (s1 := 6) (F' := 2047) (Lo' := 83979) j0_572 kt0_80 rfl (isa0 ka14_66) rfl rfl rfl ?_
  refine rs_rq (sp_66 hw (by decide) (by decide) (i_file (n := 1100000) (a1 := (xs (6 * T + 1))) (by decide) hT hI) (fun r hr => ?_)) (by decide) (by decide)
  refine rq_back1 ?_
  rw [hq_sw]
  refine rq_aldn j0_575 l2 ?_
  refine rq_aldn j0_576 l0 ?_
  refine rq_ild j0_577 l4 ?_
  refine rq_pure j0_579 rfl ?_
  refine rq_topi (v := 1) (by decide) ?_
  refine rq_pure j0_580 rfl ?_
  refine rq_topi (v := nI (6 * T + 1)) (nI_add (6 * T) 1) ?_
  refine rq_sald1 (x := xs (6 * T + 1)) j0_581 hS2 rfl (sc_in h6 hN (by decide)) (sc_x h6 hN (by decide)) ?_
  refine rq_V1 (c1 := 1) (s1 := 6) (F' := 2047) (Lo' := 83974) j0_582 kt0_83 rfl (isa174 ka15_122) rfl rfl rfl ?_
  refine rs_rq (sp_122 hw (by decide) (by decide) hr (fun s hs => ?_)) (by decide) (by decide)
  refine rq_back1 ?_
  rw [← hq_sw]
  refine rq_iceq (tg := 1334) j0_585 ⟨by decide, by decide⟩ (fun _ => ?_) (fun q => absurd hs.1 q)
  exact hk _ _ _ _ hs.2 hw hl
theorem lc_effective {N T cb sb : Nat} {xs : Nat → Int32} {fm : Value} {c u : cS} {w : cW} {lv : rx_L} {Q : ((Option Value) ⊕ String) → List va_E → Prop} (hN : N ≤ 3072) (h6 : 6 * T + 6 ≤ N) (hI : INV T c u) (hw : rOK fm w) (hl : lvK lv T) (hk : ∀ c' u' w' lv', INV (T + 1) c' u' → rOK fm w' → lvK lv' T → rq (rt_P (N, xs) fm) 0 2048 84000 cb sb 1334 lv' [] (hq true c' u' w') Q) : rq (rt_P (N, xs) fm) 0 2048 84000 (1 + (1 + cb)) (6 + (6 + sb)) 590 lv [] (hq true c u w) Q := by
  obtain ⟨l0, l1, l2, l3, l4⟩ := id hl
  have hT : T < 512 := by omega
  have hS : ∀ {x y : cS} {w : cW}, (hq true x y w)[rx_S]? = none := hq_S
  have hS2 : ∀ {x y : cS} {w : cW}, (hq false x y w)[rx_S]? = none := hq_S2
  refine rq_aldn j0_590 l1 ?_
  refine rq_aldn j0_591 l0 ?_
  refine rq_ild j0_592 l4 ?_
  refine rq_pure j0_594 rfl ?_
  refine rq_topi (v := 1) (by decide) ?_
  refine rq_pure j0_595 rfl ?_
  refine rq_topi (v := nI (6 * T + 1)) (nI_add (6 * T) 1) ?_
  refine rq_sald1 (x := xs (6 * T + 1)) j0_596 hS rfl (sc_in h6 hN (by decide)) (sc_x h6 hN (by decide)) ?_
  refine rq_aldn j0_597 l0 ?_
  refine rq_ild j0_598 l4 ?_
  refine rq_pure j0_600 rfl ?_
  refine rq_topi (v := 2) (by decide) ?_
  refine rq_pure j0_601 rfl ?_
  refine rq_topi (v := nI (6 * T + 2)) (nI_add (6 * T) 2) ?_
  refine rq_sald1 (x := xs (6 * T + 2)) j0_602 hS rfl (sc_in h6 hN (by decide)) (sc_x h6 hN (by decide)) ?_
  refine rq_V1 (c1 := 1) (s1 := 6) (F' := 2047) (Lo' := 83978) j0_603 kt0_84 rfl (isa0 ka14_67) rfl rfl rfl ?_
  refine rs_rq (sp_67 hw (by decide) (by decide) (i_effective (n := 1100000) (a1 := (xs (6 * T + 1))) (a2 := (xs (6 * T + 2))) (by decide) hT hI) (fun r hr => ?_)) (by decide) (by decide)
  refine rq_back1 ?_
  rw [hq_sw]
  refine rq_aldn j0_606 l2 ?_
  refine rq_aldn j0_607 l0 ?_
  refine rq_ild j0_608 l4 ?_
  refine rq_pure j0_610 rfl ?_
  refine rq_topi (v := 1) (by decide) ?_
  refine rq_pure j0_611 rfl ?_
  refine rq_topi (v := nI (6 * T + 1)) (nI_add (6 * T) 1) ?_
  refine rq_sald1 (x := xs (6 * T + 1)) j0_612 hS2 rfl (sc_in h6 hN (by decide)) (sc_x h6 hN (by decide)) ?_
  refine rq_aldn j0_613 l0 ?_
  refine rq_ild j0_614 l4 ?_
  refine rq_pure j0_616 rfl ?_
  refine rq_topi (v := 2) (by decide) ?_
  refine rq_pure j0_617 rfl ?_
  refine rq_topi (v := nI (6 * T + 2)) (nI_add (6 * T) 2) ?_
  refine rq_sald1 (x := xs (6 * T + 2)) j0_618 hS2 rfl (sc_in h6 hN (by decide)) (sc_x h6 hN (by decide)) ?_
  refine rq_V1 (c1 := 1) (s1 := 6) (F' := 2047) (Lo' := 83978) j0_619 kt0_87 rfl (isa174 ka15_114) rfl rfl rfl ?_
  refine rs_rq (sp_114 hw (by decide) (by decide) hr (fun s hs => ?_)) (by decide) (by decide)
  refine rq_back1 ?_
  rw [← hq_sw]
  refine rq_iceq (tg := 1334) j0_622 ⟨by decide, by decide⟩ (fun _ => ?_) (fun q => absurd hs.1 q)
  exact hk _ _ _ _ hs.2 hw hl
theorem lc_whence {N T cb sb : Nat} {xs : Nat → Int32} {fm : Value} {c u : cS} {w : cW} {lv : rx_L} {Q : ((Option Value) ⊕ String) → List va_E → Prop} (hN : N ≤ 3072) (h6 : 6 * T + 6 ≤ N) (hI : INV T c u) (hw : rOK fm w) (hl : lvK lv T) (hk : ∀ c' u' w' lv', INV (T + 1) c' u' → rOK fm w' → lvK lv' T → rq (rt_P (N, xs) fm) 0 2048 84000 cb sb 1334 lv' [] (hq true c' u' w') Q) : rq (rt_P (N, xs) fm) 0 2048 84000 (1 + (1 + cb)) (6 + (6 + sb)) 627 lv [] (hq true c u w) Q := by
  obtain ⟨l0, l1, l2, l3, l4⟩ := id hl
  have hT : T < 512 := by omega
  have hS : ∀ {x y : cS} {w : cW}, (hq true x y w)[rx_S]? = none := hq_S
  have hS2 : ∀ {x y : cS} {w : cW}, (hq false x y w)[rx_S]? = none := hq_S2
  refine rq_aldn j0_627 l1 ?_
  refine rq_aldn j0_628 l0 ?_
  refine rq_ild j0_629 l4 ?_
  refine rq_pure j0_631 rfl ?_
  refine rq_topi (v := 1) (by decide) ?_
  refine rq_pure j0_632 rfl ?_
  refine rq_topi (v := nI (6 * T + 1)) (nI_add (6 * T) 1) ?_
  refine rq_sald1 (x := xs (6 * T + 1)) j0_633 hS rfl (sc_in h6 hN (by decide)) (sc_x h6 hN (by decide)) ?_
  refine rq_aldn j0_634 l0 ?_
  refine rq_ild j0_635 l4 ?_
  refine rq_pure j0_637 rfl ?_
  refine rq_topi (v := 2) (by decide) ?_
  refine rq_pure j0_638 rfl ?_
  refine rq_topi (v := nI (6 * T + 2)) (nI_add (6 * T) 2) ?_
  refine rq_sald1 (x := xs (6 * T + 2)) j0_639 hS rfl (sc_in h6 hN (by decide)) (sc_x h6 hN (by decide)) ?_
  refine rq_aldn j0_640 l0 ?_
  refine rq_ild j0_641 l4 ?_
  refine rq_pure j0_643 rfl ?_
  refine rq_topi (v := 3) (by decide) ?_
  refine rq_pure j0_644 rfl ?_
  refine rq_topi (v := nI (6 * T + 3)) (nI_add (6 * T) 3) ?_
  refine rq_sald1 (x := xs (6 * T + 3)) j0_645 hS rfl (sc_in h6 hN (by decide)) (sc_x h6 hN (by decide)) ?_
  refine rq_V1 (c1 := 1) (s1 := 6) (F' := 2047) (Lo' := 83977) j0_646 kt0_88 rfl (isa0 ka14_68) rfl rfl rfl ?_
  refine rs_rq (sp_68 hw (by decide) (by decide) (i_whence (n := 1100000) (a1 := (xs (6 * T + 1))) (a2 := (xs (6 * T + 2))) (a3 := (xs (6 * T + 3))) (by decide) hT hI) (fun r hr => ?_)) (by decide) (by decide)
  refine rq_back1 ?_
  rw [hq_sw]
  refine rq_aldn j0_649 l2 ?_
  refine rq_aldn j0_650 l0 ?_
  refine rq_ild j0_651 l4 ?_
  refine rq_pure j0_653 rfl ?_
  refine rq_topi (v := 1) (by decide) ?_
  refine rq_pure j0_654 rfl ?_
  refine rq_topi (v := nI (6 * T + 1)) (nI_add (6 * T) 1) ?_
  refine rq_sald1 (x := xs (6 * T + 1)) j0_655 hS2 rfl (sc_in h6 hN (by decide)) (sc_x h6 hN (by decide)) ?_
  refine rq_aldn j0_656 l0 ?_
  refine rq_ild j0_657 l4 ?_
  refine rq_pure j0_659 rfl ?_
  refine rq_topi (v := 2) (by decide) ?_
  refine rq_pure j0_660 rfl ?_
  refine rq_topi (v := nI (6 * T + 2)) (nI_add (6 * T) 2) ?_
  refine rq_sald1 (x := xs (6 * T + 2)) j0_661 hS2 rfl (sc_in h6 hN (by decide)) (sc_x h6 hN (by decide)) ?_
  refine rq_aldn j0_662 l0 ?_
  refine rq_ild j0_663 l4 ?_
  refine rq_pure j0_665 rfl ?_
  refine rq_topi (v := 3) (by decide) ?_
  refine rq_pure j0_666 rfl ?_
  refine rq_topi (v := nI (6 * T + 3)) (nI_add (6 * T) 3) ?_
  refine rq_sald1 (x := xs (6 * T + 3)) j0_667 hS2 rfl (sc_in h6 hN (by decide)) (sc_x h6 hN (by decide)) ?_
  refine rq_V1 (c1 := 1) (s1 := 6) (F' := 2047) (Lo' := 83974) j0_668 kt0_91 rfl (isa174 ka15_115) rfl rfl rfl ?_
  refine rs_rq (sp_115 hw (by decide) (by decide) hr (fun s hs => ?_)) (by decide) (by decide)
  refine rq_back1 ?_
  rw [← hq_sw]
  refine rq_iceq (tg := 1334) j0_671 ⟨by decide, by decide⟩ (fun _ => ?_) (fun q => absurd hs.1 q)
  exact hk _ _ _ _ hs.2 hw hl
theorem lc_ask {N T cb sb : Nat} {xs : Nat → Int32} {fm : Value} {c u : cS} {w : cW} {lv : rx_L} {Q : ((Option Value) ⊕ String) → List va_E → Prop} (hN : N ≤ 3072) (h6 : 6 * T + 6 ≤ N) (hI : INV T c u) (hw : rOK fm w) (hl : lvK lv T) (hk : ∀ c' u' w' lv', INV (T + 1) c' u' → rOK fm w' → lvK lv' T → rq (rt_P (N, xs) fm) 0 2048 84000 cb sb 1334 lv' [] (hq true c' u' w') Q) : rq (rt_P (N, xs) fm) 0 2048 84000 (1 + (1 + cb)) (6 + (6 + sb)) 676 lv [] (hq true c u w) Q := by
  obtain ⟨l0, l1, l2, l3, l4⟩ := id hl
  have hT : T < 512 := by omega
  have hS : ∀ {x y : cS} {w : cW}, (hq true x y w)[rx_S]? = none := hq_S
  have hS2 : ∀ {x y : cS} {w : cW}, (hq false x y w)[rx_S]? = none := hq_S2
  refine rq_aldn j0_676 l1 ?_
  refine rq_aldn j0_677 l0 ?_
  refine rq_ild j0_678 l4 ?_
  refine rq_pure j0_680 rfl ?_
  refine rq_topi (v := 1) (by decide) ?_
  refine rq_pure j0_681 rfl ?_
  refine rq_topi (v := nI (6 * T + 1)) (nI_add (6 * T) 1) ?_
  refine rq_sald1 (x := xs (6 * T + 1)) j0_682 hS rfl (sc_in h6 hN (by decide)) (sc_x h6 hN (by decide)) ?_
  refine rq_aldn j0_683 l0 ?_
  refine rq_ild j0_684 l4 ?_
  refine rq_pure j0_686 rfl ?_
  refine rq_topi (v := 2) (by decide) ?_
  refine rq_pure j0_687 rfl ?_
  refine rq_topi (v := nI (6 * T + 2)) (nI_add (6 * T) 2) ?_
  refine rq_sald1 (x := xs (6 * T + 2)) j0_688 hS rfl (sc_in h6 hN (by decide)) (sc_x h6 hN (by decide)) ?_
  refine rq_aldn j0_689 l0 ?_
  refine rq_ild j0_690 l4 ?_
  refine rq_pure j0_692 rfl ?_
  refine rq_topi (v := 3) (by decide) ?_
  refine rq_pure j0_693 rfl ?_
  refine rq_topi (v := nI (6 * T + 3)) (nI_add (6 * T) 3) ?_
  refine rq_sald1 (x := xs (6 * T + 3)) j0_694 hS rfl (sc_in h6 hN (by decide)) (sc_x h6 hN (by decide)) ?_
  refine rq_aldn j0_695 l0 ?_
  refine rq_ild j0_696 l4 ?_
  refine rq_pure j0_698 rfl ?_
  refine rq_topi (v := 4) (by decide) ?_
  refine rq_pure j0_699 rfl ?_
  refine rq_topi (v := nI (6 * T + 4)) (nI_add (6 * T) 4) ?_
  refine rq_sald1 (x := xs (6 * T + 4)) j0_700 hS rfl (sc_in h6 hN (by decide)) (sc_x h6 hN (by decide)) ?_
  refine rq_V1 (c1 := 1) (s1 := 6) (F' := 2047) (Lo' := 83974) j0_701 kt0_92 rfl (isa0 ka14_69) rfl rfl rfl ?_
  refine rs_rq (sp_69 hw (by decide) (by decide) (i_ask (n := 1100000) (a1 := (xs (6 * T + 1))) (a2 := (xs (6 * T + 2))) (a3 := (xs (6 * T + 3))) (a4 := (xs (6 * T + 4))) (by decide) hT hI) (fun r hr => ?_)) (by decide) (by decide)
  refine rq_back1 ?_
  rw [hq_sw]
  refine rq_aldn j0_704 l2 ?_
  refine rq_aldn j0_705 l0 ?_
  refine rq_ild j0_706 l4 ?_
  refine rq_pure j0_708 rfl ?_
  refine rq_topi (v := 1) (by decide) ?_
  refine rq_pure j0_709 rfl ?_
  refine rq_topi (v := nI (6 * T + 1)) (nI_add (6 * T) 1) ?_
  refine rq_sald1 (x := xs (6 * T + 1)) j0_710 hS2 rfl (sc_in h6 hN (by decide)) (sc_x h6 hN (by decide)) ?_
  refine rq_aldn j0_711 l0 ?_
  refine rq_ild j0_712 l4 ?_
  refine rq_pure j0_714 rfl ?_
  refine rq_topi (v := 2) (by decide) ?_
  refine rq_pure j0_715 rfl ?_
  refine rq_topi (v := nI (6 * T + 2)) (nI_add (6 * T) 2) ?_
  refine rq_sald1 (x := xs (6 * T + 2)) j0_716 hS2 rfl (sc_in h6 hN (by decide)) (sc_x h6 hN (by decide)) ?_
  refine rq_aldn j0_717 l0 ?_
  refine rq_ild j0_718 l4 ?_
  refine rq_pure j0_720 rfl ?_
  refine rq_topi (v := 3) (by decide) ?_
  refine rq_pure j0_721 rfl ?_
  refine rq_topi (v := nI (6 * T + 3)) (nI_add (6 * T) 3) ?_
  refine rq_sald1 (x := xs (6 * T + 3)) j0_722 hS2 rfl (sc_in h6 hN (by decide)) (sc_x h6 hN (by decide)) ?_
  refine rq_aldn j0_723 l0 ?_
  refine rq_ild j0_724 l4 ?_
  refine rq_pure j0_726 rfl ?_
  refine rq_topi (v := 4) (by decide) ?_
  refine rq_pure j0_727 rfl ?_
  refine rq_topi (v := nI (6 * T + 4)) (nI_add (6 * T) 4) ?_
  refine rq_sald1 (x := xs (6 * T + 4)) j0_728 hS2 rfl (sc_in h6 hN (by decide)) (sc_x h6 hN (by decide)) ?_
  refine rq_V1 (c1 := 1) (s1 := 6) (F' := 2047) (Lo' := 83975) j0_729 kt0_95 rfl (isa174 ka15_116) rfl rfl rfl ?_
  refine rs_rq (sp_116 hw (by decide) (by decide) hr (fun s hs => ?_)) (by decide) (by decide)
  refine rq_back1 ?_
  rw [← hq_sw]
  refine rq_iceq (tg := 1334) j0_732 ⟨by decide, by decide⟩ (fun _ => ?_) (fun q => absurd hs.1 q)
  exact hk _ _ _ _ hs.2 hw hl
theorem lc_markOf {N T cb sb : Nat} {xs : Nat → Int32} {fm : Value} {c u : cS} {w : cW} {lv : rx_L} {Q : ((Option Value) ⊕ String) → List va_E → Prop} (hN : N ≤ 3072) (h6 : 6 * T + 6 ≤ N) (hI : INV T c u) (hw : rOK fm w) (hl : lvK lv T) (hk : ∀ c' u' w' lv', INV (T + 1) c' u' → rOK fm w' → lvK lv' T → rq (rt_P (N, xs) fm) 0 2048 84000 cb sb 1334 lv' [] (hq true c' u' w') Q) : rq (rt_P (N, xs) fm) 0 2048 84000 (1 + (1 + cb)) (6 + (6 + sb)) 737 lv [] (hq true c u w) Q := by
  obtain ⟨l0, l1, l2, l3, l4⟩ := id hl
  have hT : T < 512 := by omega
  have hS : ∀ {x y : cS} {w : cW}, (hq true x y w)[rx_S]? = none := hq_S
  have hS2 : ∀ {x y : cS} {w : cW}, (hq false x y w)[rx_S]? = none := hq_S2
  refine rq_aldn j0_737 l1 ?_
  refine rq_aldn j0_738 l0 ?_
  refine rq_ild j0_739 l4 ?_
  refine rq_pure j0_741 rfl ?_
  refine rq_topi (v := 1) (by decide) ?_
  refine rq_pure j0_742 rfl ?_
  refine rq_topi (v := nI (6 * T + 1)) (nI_add (6 * T) 1) ?_
  refine rq_sald1 (x := xs (6 * T + 1)) j0_743 hS rfl (sc_in h6 hN (by decide)) (sc_x h6 hN (by decide)) ?_
  refine rq_aldn j0_744 l0 ?_
  refine rq_ild j0_745 l4 ?_
  refine rq_pure j0_747 rfl ?_
  refine rq_topi (v := 2) (by decide) ?_
  refine rq_pure j0_748 rfl ?_
  refine rq_topi (v := nI (6 * T + 2)) (nI_add (6 * T) 2) ?_
  refine rq_sald1 (x := xs (6 * T + 2)) j0_749 hS rfl (sc_in h6 hN (by decide)) (sc_x h6 hN (by decide)) ?_
  refine rq_V1 (c1 := 1) (s1 := 6) (F' := 2047) (Lo' := 83978) j0_750 kt0_96 rfl (isa0 ka14_71) rfl rfl rfl ?_
  refine rs_rq (sp_71 hw (by decide) (by decide) (i_markOf (n := 1100000) (a1 := (xs (6 * T + 1))) (a2 := (xs (6 * T + 2))) (by decide) hT hI) (fun r hr => ?_)) (by decide) (by decide)
  refine rq_back1 ?_
  rw [hq_sw]
  refine rq_aldn j0_753 l2 ?_
  refine rq_aldn j0_754 l0 ?_
  refine rq_ild j0_755 l4 ?_
  refine rq_pure j0_757 rfl ?_
  refine rq_topi (v := 1) (by decide) ?_
  refine rq_pure j0_758 rfl ?_
  refine rq_topi (v := nI (6 * T + 1)) (nI_add (6 * T) 1) ?_
  refine rq_sald1 (x := xs (6 * T + 1)) j0_759 hS2 rfl (sc_in h6 hN (by decide)) (sc_x h6 hN (by decide)) ?_
  refine rq_aldn j0_760 l0 ?_
  refine rq_ild j0_761 l4 ?_
  refine rq_pure j0_763 rfl ?_
  refine rq_topi (v := 2) (by decide) ?_
  refine rq_pure j0_764 rfl ?_
  refine rq_topi (v := nI (6 * T + 2)) (nI_add (6 * T) 2) ?_
  refine rq_sald1 (x := xs (6 * T + 2)) j0_765 hS2 rfl (sc_in h6 hN (by decide)) (sc_x h6 hN (by decide)) ?_
  refine rq_V1 (c1 := 1) (s1 := 6) (F' := 2047) (Lo' := 83978) j0_766 kt0_99 rfl (isa174 ka15_125) rfl rfl rfl ?_
  refine rs_rq (sp_125 hw (by decide) (by decide) hr (fun s hs => ?_)) (by decide) (by decide)
  refine rq_back1 ?_
  rw [← hq_sw]
  refine rq_iceq (tg := 1334) j0_769 ⟨by decide, by decide⟩ (fun _ => ?_) (fun q => absurd hs.1 q)
  exact hk _ _ _ _ hs.2 hw hl
theorem lc_rounds {N T cb sb : Nat} {xs : Nat → Int32} {fm : Value} {c u : cS} {w : cW} {lv : rx_L} {Q : ((Option Value) ⊕ String) → List va_E → Prop} (hN : N ≤ 3072) (h6 : 6 * T + 6 ≤ N) (hI : INV T c u) (hw : rOK fm w) (hl : lvK lv T) (hk : ∀ c' u' w' lv', INV (T + 1) c' u' → rOK fm w' → lvK lv' T → rq (rt_P (N, xs) fm) 0 2048 84000 cb sb 1334 lv' [] (hq true c' u' w') Q) : rq (rt_P (N, xs) fm) 0 2048 84000 (1 + (1 + cb)) (6 + (6 + sb)) 774 lv [] (hq true c u w) Q := by
  obtain ⟨l0, l1, l2, l3, l4⟩ := id hl
  have hT : T < 512 := by omega
  have hS : ∀ {x y : cS} {w : cW}, (hq true x y w)[rx_S]? = none := hq_S
  have hS2 : ∀ {x y : cS} {w : cW}, (hq false x y w)[rx_S]? = none := hq_S2
  refine rq_aldn j0_774 l1 ?_
  refine rq_V1 (c1 := 1) (s1 := 6) (F' := 2047) (Lo' := 83979) j0_775 kt0_100 rfl (isa0 ka14_72) rfl rfl rfl ?_
  refine rs_rq (sp_72 hw (by decide) (by decide) (i_rounds (n := 1100000)  (by decide) hT hI) (fun r hr => ?_)) (by decide) (by decide)
  refine rq_back1 ?_
  rw [hq_sw]
  refine rq_aldn j0_778 l2 ?_
  refine rq_V1 (c1 := 1) (s1 := 6) (F' := 2047) (Lo' := 83974) j0_779 kt0_103 rfl (isa174 ka15_124) rfl rfl rfl ?_
  refine rs_rq (sp_124 hw (by decide) (by decide) hr (fun s hs => ?_)) (by decide) (by decide)
  refine rq_back1 ?_
  rw [← hq_sw]
  refine rq_iceq (tg := 1334) j0_782 ⟨by decide, by decide⟩ (fun _ => ?_) (fun q => absurd hs.1 q)
  exact hk _ _ _ _ hs.2 hw hl
theorem lc_flow {N T cb sb : Nat} {xs : Nat → Int32} {fm : Value} {c u : cS} {w : cW} {lv : rx_L} {Q : ((Option Value) ⊕ String) → List va_E → Prop} (hN : N ≤ 3072) (h6 : 6 * T + 6 ≤ N) (hI : INV T c u) (hw : rOK fm w) (hl : lvK lv T) (hk : ∀ c' u' w' lv', INV (T + 1) c' u' → rOK fm w' → lvK lv' T → rq (rt_P (N, xs) fm) 0 2048 84000 cb sb 1334 lv' [] (hq true c' u' w') Q) : rq (rt_P (N, xs) fm) 0 2048 84000 (1 + (1 + cb)) (6 + (6 + sb)) 787 lv [] (hq true c u w) Q := by
  obtain ⟨l0, l1, l2, l3, l4⟩ := id hl
  have hT : T < 512 := by omega
  have hS : ∀ {x y : cS} {w : cW}, (hq true x y w)[rx_S]? = none := hq_S
  have hS2 : ∀ {x y : cS} {w : cW}, (hq false x y w)[rx_S]? = none := hq_S2
  refine rq_aldn j0_787 l1 ?_
  refine rq_aldn j0_788 l0 ?_
  refine rq_ild j0_789 l4 ?_
  refine rq_pure j0_791 rfl ?_
  refine rq_topi (v := 1) (by decide) ?_
  refine rq_pure j0_792 rfl ?_
  refine rq_topi (v := nI (6 * T + 1)) (nI_add (6 * T) 1) ?_
  refine rq_sald1 (x := xs (6 * T + 1)) j0_793 hS rfl (sc_in h6 hN (by decide)) (sc_x h6 hN (by decide)) ?_
  refine rq_V1 (c1 := 1) (s1 := 6) (F' := 2047) (Lo' := 83979) j0_794 kt0_104 rfl (isa0 ka14_73) rfl rfl rfl ?_
  refine rs_rq (sp_73 hw (by decide) (by decide) (i_flow (n := 1100000) (a1 := (xs (6 * T + 1))) (by decide) hT hI) (fun r hr => ?_)) (by decide) (by decide)
  refine rq_back1 ?_
  rw [hq_sw]
  refine rq_aldn j0_797 l2 ?_
  refine rq_aldn j0_798 l0 ?_
  refine rq_ild j0_799 l4 ?_
  refine rq_pure j0_801 rfl ?_
  refine rq_topi (v := 1) (by decide) ?_
  refine rq_pure j0_802 rfl ?_
  refine rq_topi (v := nI (6 * T + 1)) (nI_add (6 * T) 1) ?_
  refine rq_sald1 (x := xs (6 * T + 1)) j0_803 hS2 rfl (sc_in h6 hN (by decide)) (sc_x h6 hN (by decide)) ?_
  refine rq_V1 (c1 := 1) (s1 := 6) (F' := 2047) (Lo' := 83979) j0_804 kt0_107 rfl (isa174 ka15_126) rfl rfl rfl ?_
  refine rs_rq (sp_126 hw (by decide) (by decide) hr (fun s hs => ?_)) (by decide) (by decide)
  refine rq_back1 ?_
  rw [← hq_sw]
  refine rq_iceq (tg := 1334) j0_807 ⟨by decide, by decide⟩ (fun _ => ?_) (fun q => absurd hs.1 q)
  exact hk _ _ _ _ hs.2 hw hl
theorem lc_error {N T cb sb : Nat} {xs : Nat → Int32} {fm : Value} {c u : cS} {w : cW} {lv : rx_L} {Q : ((Option Value) ⊕ String) → List va_E → Prop} (hN : N ≤ 3072) (h6 : 6 * T + 6 ≤ N) (hI : INV T c u) (hw : rOK fm w) (hl : lvK lv T) (hk : ∀ c' u' w' lv', INV (T + 1) c' u' → rOK fm w' → lvK lv' T → rq (rt_P (N, xs) fm) 0 2048 84000 cb sb 1334 lv' [] (hq true c' u' w') Q) : rq (rt_P (N, xs) fm) 0 2048 84000 (1 + (1 + cb)) (6 + (6 + sb)) 812 lv [] (hq true c u w) Q := by
  obtain ⟨l0, l1, l2, l3, l4⟩ := id hl
  have hT : T < 512 := by omega
  have hS : ∀ {x y : cS} {w : cW}, (hq true x y w)[rx_S]? = none := hq_S
  have hS2 : ∀ {x y : cS} {w : cW}, (hq false x y w)[rx_S]? = none := hq_S2
  refine rq_aldn j0_812 l1 ?_
  refine rq_aldn j0_813 l0 ?_
  refine rq_ild j0_814 l4 ?_
  refine rq_pure j0_816 rfl ?_
  refine rq_topi (v := 1) (by decide) ?_
  refine rq_pure j0_817 rfl ?_
  refine rq_topi (v := nI (6 * T + 1)) (nI_add (6 * T) 1) ?_
  refine rq_sald1 (x := xs (6 * T + 1)) j0_818 hS rfl (sc_in h6 hN (by decide)) (sc_x h6 hN (by decide)) ?_
  refine rq_aldn j0_819 l0 ?_
  refine rq_ild j0_820 l4 ?_
  refine rq_pure j0_822 rfl ?_
  refine rq_topi (v := 2) (by decide) ?_
  refine rq_pure j0_823 rfl ?_
  refine rq_topi (v := nI (6 * T + 2)) (nI_add (6 * T) 2) ?_
  refine rq_sald1 (x := xs (6 * T + 2)) j0_824 hS rfl (sc_in h6 hN (by decide)) (sc_x h6 hN (by decide)) ?_
  refine rq_V1 (c1 := 1) (s1 := 6) (F' := 2047) (Lo' := 83978) j0_825 kt0_108 rfl (isa0 ka14_74) rfl rfl rfl ?_
  refine rs_rq (sp_74 hw (by decide) (by decide) (i_error (n := 1100000) (a1 := (xs (6 * T + 1))) (a2 := (xs (6 * T + 2))) hT hI) (fun r hr => ?_)) (by decide) (by decide)
  refine rq_back1 ?_
  rw [hq_sw]
  refine rq_aldn j0_828 l2 ?_
  refine rq_aldn j0_829 l0 ?_
  refine rq_ild j0_830 l4 ?_
  refine rq_pure j0_832 rfl ?_
  refine rq_topi (v := 1) (by decide) ?_
  refine rq_pure j0_833 rfl ?_
  refine rq_topi (v := nI (6 * T + 1)) (nI_add (6 * T) 1) ?_
  refine rq_sald1 (x := xs (6 * T + 1)) j0_834 hS2 rfl (sc_in h6 hN (by decide)) (sc_x h6 hN (by decide)) ?_
  refine rq_aldn j0_835 l0 ?_
  refine rq_ild j0_836 l4 ?_
  refine rq_pure j0_838 rfl ?_
  refine rq_topi (v := 2) (by decide) ?_
  refine rq_pure j0_839 rfl ?_
  refine rq_topi (v := nI (6 * T + 2)) (nI_add (6 * T) 2) ?_
  refine rq_sald1 (x := xs (6 * T + 2)) j0_840 hS2 rfl (sc_in h6 hN (by decide)) (sc_x h6 hN (by decide)) ?_
  refine rq_V1 (c1 := 1) (s1 := 6) (F' := 2047) (Lo' := 83978) j0_841 kt0_111 rfl (isa174 ka15_127) rfl rfl rfl ?_
  refine rs_rq (sp_127 hw (by decide) (by decide) hr (fun s hs => ?_)) (by decide) (by decide)
  refine rq_back1 ?_
  rw [← hq_sw]
  refine rq_iceq (tg := 1334) j0_844 ⟨by decide, by decide⟩ (fun _ => ?_) (fun q => absurd hs.1 q)
  exact hk _ _ _ _ hs.2 hw hl
theorem lc_way {N T cb sb : Nat} {xs : Nat → Int32} {fm : Value} {c u : cS} {w : cW} {lv : rx_L} {Q : ((Option Value) ⊕ String) → List va_E → Prop} (hN : N ≤ 3072) (h6 : 6 * T + 6 ≤ N) (hI : INV T c u) (hw : rOK fm w) (hl : lvK lv T) (hk : ∀ c' u' w' lv', INV (T + 1) c' u' → rOK fm w' → lvK lv' T → rq (rt_P (N, xs) fm) 0 2048 84000 cb sb 1334 lv' [] (hq true c' u' w') Q) : rq (rt_P (N, xs) fm) 0 2048 84000 (1 + (1 + cb)) (6 + (6 + sb)) 849 lv [] (hq true c u w) Q := by
  obtain ⟨l0, l1, l2, l3, l4⟩ := id hl
  have hT : T < 512 := by omega
  have hS : ∀ {x y : cS} {w : cW}, (hq true x y w)[rx_S]? = none := hq_S
  have hS2 : ∀ {x y : cS} {w : cW}, (hq false x y w)[rx_S]? = none := hq_S2
  refine rq_aldn j0_849 l1 ?_
  refine rq_aldn j0_850 l0 ?_
  refine rq_ild j0_851 l4 ?_
  refine rq_pure j0_853 rfl ?_
  refine rq_topi (v := 1) (by decide) ?_
  refine rq_pure j0_854 rfl ?_
  refine rq_topi (v := nI (6 * T + 1)) (nI_add (6 * T) 1) ?_
  refine rq_sald1 (x := xs (6 * T + 1)) j0_855 hS rfl (sc_in h6 hN (by decide)) (sc_x h6 hN (by decide)) ?_
  refine rq_V1 (c1 := 1) (s1 := 6) (F' := 2047) (Lo' := 83979) j0_856 kt0_112 rfl (isa0 ka14_75) rfl rfl rfl ?_
  refine rs_rq (sp_75 hw (by decide) (by decide) (i_way (n := 1100000) (a1 := (xs (6 * T + 1))) (by decide) hT hI) (fun r hr => ?_)) (by decide) (by decide)
  refine rq_back1 ?_
  rw [hq_sw]
  refine rq_aldn j0_859 l2 ?_
  refine rq_aldn j0_860 l0 ?_
  refine rq_ild j0_861 l4 ?_
  refine rq_pure j0_863 rfl ?_
  refine rq_topi (v := 1) (by decide) ?_
  refine rq_pure j0_864 rfl ?_
  refine rq_topi (v := nI (6 * T + 1)) (nI_add (6 * T) 1) ?_
  refine rq_sald1 (x := xs (6 * T + 1)) j0_865 hS2 rfl (sc_in h6 hN (by decide)) (sc_x h6 hN (by decide)) ?_
  refine rq_V1 (c1 := 1) (s1 := 6) (F' := 2047) (Lo' := 83973) j0_866 kt0_115 rfl (isa174 ka15_129) rfl rfl rfl ?_
  refine rs_rq (sp_129 hw (by decide) (by decide) hr (fun s hs => ?_)) (by decide) (by decide)
  refine rq_back1 ?_
  rw [← hq_sw]
  refine rq_iceq (tg := 1334) j0_869 ⟨by decide, by decide⟩ (fun _ => ?_) (fun q => absurd hs.1 q)
  exact hk _ _ _ _ hs.2 hw hl
theorem lc_step {N T cb sb : Nat} {xs : Nat → Int32} {fm : Value} {c u : cS} {w : cW} {lv : rx_L} {Q : ((Option Value) ⊕ String) → List va_E → Prop} (hN : N ≤ 3072) (h6 : 6 * T + 6 ≤ N) (hI : INV T c u) (hw : rOK fm w) (hl : lvK lv T) (hk : ∀ c' u' w' lv', INV (T + 1) c' u' → rOK fm w' → lvK lv' T → rq (rt_P (N, xs) fm) 0 2048 84000 cb sb 1334 lv' [] (hq true c' u' w') Q) : rq (rt_P (N, xs) fm) 0 2048 84000 (1 + (1 + cb)) (6 + (6 + sb)) 874 lv [] (hq true c u w) Q := by
  obtain ⟨l0, l1, l2, l3, l4⟩ := id hl
  have hT : T < 512 := by omega
  have hS : ∀ {x y : cS} {w : cW}, (hq true x y w)[rx_S]? = none := hq_S
  have hS2 : ∀ {x y : cS} {w : cW}, (hq false x y w)[rx_S]? = none := hq_S2
  refine rq_aldn j0_874 l1 ?_
  refine rq_aldn j0_875 l0 ?_
  refine rq_ild j0_876 l4 ?_
  refine rq_pure j0_878 rfl ?_
  refine rq_topi (v := 1) (by decide) ?_
  refine rq_pure j0_879 rfl ?_
  refine rq_topi (v := nI (6 * T + 1)) (nI_add (6 * T) 1) ?_
  refine rq_sald1 (x := xs (6 * T + 1)) j0_880 hS rfl (sc_in h6 hN (by decide)) (sc_x h6 hN (by decide)) ?_
  refine rq_V1 (c1 := 1) (s1 := 6) (F' := 2047) (Lo' := 83979) j0_881 kt0_116 rfl (isa0 ka14_76) rfl rfl rfl ?_
  refine rs_rq (sp_76 hw (by decide) (by decide) (i_step (n := 1100000) (a1 := (xs (6 * T + 1))) hT hI) (fun r hr => ?_)) (by decide) (by decide)
  refine rq_back1 ?_
  rw [hq_sw]
  refine rq_aldn j0_884 l2 ?_
  refine rq_aldn j0_885 l0 ?_
  refine rq_ild j0_886 l4 ?_
  refine rq_pure j0_888 rfl ?_
  refine rq_topi (v := 1) (by decide) ?_
  refine rq_pure j0_889 rfl ?_
  refine rq_topi (v := nI (6 * T + 1)) (nI_add (6 * T) 1) ?_
  refine rq_sald1 (x := xs (6 * T + 1)) j0_890 hS2 rfl (sc_in h6 hN (by decide)) (sc_x h6 hN (by decide)) ?_
  refine rq_V1 (c1 := 1) (s1 := 6) (F' := 2047) (Lo' := 83979) j0_891 kt0_119 rfl (isa174 ka15_130) rfl rfl rfl ?_
  refine rs_rq (sp_130 hw (by decide) (by decide) hr (fun s hs => ?_)) (by decide) (by decide)
  refine rq_back1 ?_
  rw [← hq_sw]
  refine rq_iceq (tg := 1334) j0_894 ⟨by decide, by decide⟩ (fun _ => ?_) (fun q => absurd hs.1 q)
  exact hk _ _ _ _ hs.2 hw hl
theorem lc_state {N T cb sb : Nat} {xs : Nat → Int32} {fm : Value} {c u : cS} {w : cW} {lv : rx_L} {Q : ((Option Value) ⊕ String) → List va_E → Prop} (hN : N ≤ 3072) (h6 : 6 * T + 6 ≤ N) (hI : INV T c u) (hw : rOK fm w) (hl : lvK lv T) (hk : ∀ c' u' w' lv', INV (T + 1) c' u' → rOK fm w' → lvK lv' T → rq (rt_P (N, xs) fm) 0 2048 84000 cb sb 1334 lv' [] (hq true c' u' w') Q) : rq (rt_P (N, xs) fm) 0 2048 84000 (1 + (1 + cb)) (6 + (6 + sb)) 899 lv [] (hq true c u w) Q := by
  obtain ⟨l0, l1, l2, l3, l4⟩ := id hl
  have hT : T < 512 := by omega
  have hS : ∀ {x y : cS} {w : cW}, (hq true x y w)[rx_S]? = none := hq_S
  have hS2 : ∀ {x y : cS} {w : cW}, (hq false x y w)[rx_S]? = none := hq_S2
  refine rq_aldn j0_899 l1 ?_
  refine rq_aldn j0_900 l0 ?_
  refine rq_ild j0_901 l4 ?_
  refine rq_pure j0_903 rfl ?_
  refine rq_topi (v := 1) (by decide) ?_
  refine rq_pure j0_904 rfl ?_
  refine rq_topi (v := nI (6 * T + 1)) (nI_add (6 * T) 1) ?_
  refine rq_sald1 (x := xs (6 * T + 1)) j0_905 hS rfl (sc_in h6 hN (by decide)) (sc_x h6 hN (by decide)) ?_
  refine rq_aldn j0_906 l0 ?_
  refine rq_ild j0_907 l4 ?_
  refine rq_pure j0_909 rfl ?_
  refine rq_topi (v := 2) (by decide) ?_
  refine rq_pure j0_910 rfl ?_
  refine rq_topi (v := nI (6 * T + 2)) (nI_add (6 * T) 2) ?_
  refine rq_sald1 (x := xs (6 * T + 2)) j0_911 hS rfl (sc_in h6 hN (by decide)) (sc_x h6 hN (by decide)) ?_
  refine rq_aldn j0_912 l0 ?_
  refine rq_ild j0_913 l4 ?_
  refine rq_pure j0_915 rfl ?_
  refine rq_topi (v := 3) (by decide) ?_
  refine rq_pure j0_916 rfl ?_
  refine rq_topi (v := nI (6 * T + 3)) (nI_add (6 * T) 3) ?_
  refine rq_sald1 (x := xs (6 * T + 3)) j0_917 hS rfl (sc_in h6 hN (by decide)) (sc_x h6 hN (by decide)) ?_
  refine rq_V1 (c1 := 1) (s1 := 6) (F' := 2047) (Lo' := 83977) j0_918 kt0_120 rfl (isa0 ka14_77) rfl rfl rfl ?_
  refine rs_rq (sp_77 hw (by decide) (by decide) (i_state (n := 1100000) (a1 := (xs (6 * T + 1))) (a2 := (xs (6 * T + 2))) (a3 := (xs (6 * T + 3))) hT hI) (fun r hr => ?_)) (by decide) (by decide)
  refine rq_back1 ?_
  rw [hq_sw]
  refine rq_aldn j0_921 l2 ?_
  refine rq_aldn j0_922 l0 ?_
  refine rq_ild j0_923 l4 ?_
  refine rq_pure j0_925 rfl ?_
  refine rq_topi (v := 1) (by decide) ?_
  refine rq_pure j0_926 rfl ?_
  refine rq_topi (v := nI (6 * T + 1)) (nI_add (6 * T) 1) ?_
  refine rq_sald1 (x := xs (6 * T + 1)) j0_927 hS2 rfl (sc_in h6 hN (by decide)) (sc_x h6 hN (by decide)) ?_
  refine rq_aldn j0_928 l0 ?_
  refine rq_ild j0_929 l4 ?_
  refine rq_pure j0_931 rfl ?_
  refine rq_topi (v := 2) (by decide) ?_
  refine rq_pure j0_932 rfl ?_
  refine rq_topi (v := nI (6 * T + 2)) (nI_add (6 * T) 2) ?_
  refine rq_sald1 (x := xs (6 * T + 2)) j0_933 hS2 rfl (sc_in h6 hN (by decide)) (sc_x h6 hN (by decide)) ?_
  refine rq_aldn j0_934 l0 ?_
  refine rq_ild j0_935 l4 ?_
  refine rq_pure j0_937 rfl ?_
  refine rq_topi (v := 3) (by decide) ?_
  refine rq_pure j0_938 rfl ?_
  refine rq_topi (v := nI (6 * T + 3)) (nI_add (6 * T) 3) ?_
  refine rq_sald1 (x := xs (6 * T + 3)) j0_939 hS2 rfl (sc_in h6 hN (by decide)) (sc_x h6 hN (by decide)) ?_
  refine rq_V1 (c1 := 1) (s1 := 6) (F' := 2047) (Lo' := 83975) j0_940 kt0_123 rfl (isa174 ka15_128) rfl rfl rfl ?_
  refine rs_rq (sp_128 hw (by decide) (by decide) hr (fun s hs => ?_)) (by decide) (by decide)
  refine rq_back1 ?_
  rw [← hq_sw]
  refine rq_iceq (tg := 1334) j0_943 ⟨by decide, by decide⟩ (fun _ => ?_) (fun q => absurd hs.1 q)
  exact hk _ _ _ _ hs.2 hw hl
theorem lc_find {N T cb sb : Nat} {xs : Nat → Int32} {fm : Value} {c u : cS} {w : cW} {lv : rx_L} {Q : ((Option Value) ⊕ String) → List va_E → Prop} (hN : N ≤ 3072) (h6 : 6 * T + 6 ≤ N) (hI : INV T c u) (hw : rOK fm w) (hl : lvK lv T) (hk : ∀ c' u' w' lv', INV (T + 1) c' u' → rOK fm w' → lvK lv' T → rq (rt_P (N, xs) fm) 0 2048 84000 cb sb 1334 lv' [] (hq true c' u' w') Q) : rq (rt_P (N, xs) fm) 0 2048 84000 (1 + (1 + cb)) (6 + (6 + sb)) 948 lv [] (hq true c u w) Q := by
  obtain ⟨l0, l1, l2, l3, l4⟩ := id hl
  have hT : T < 512 := by omega
  have hS : ∀ {x y : cS} {w : cW}, (hq true x y w)[rx_S]? = none := hq_S
  have hS2 : ∀ {x y : cS} {w : cW}, (hq false x y w)[rx_S]? = none := hq_S2
  refine rq_aldn j0_948 l1 ?_
  refine rq_aldn j0_949 l0 ?_
  refine rq_ild j0_950 l4 ?_
  refine rq_pure j0_952 rfl ?_
  refine rq_topi (v := 1) (by decide) ?_
  refine rq_pure j0_953 rfl ?_
  refine rq_topi (v := nI (6 * T + 1)) (nI_add (6 * T) 1) ?_
  refine rq_sald1 (x := xs (6 * T + 1)) j0_954 hS rfl (sc_in h6 hN (by decide)) (sc_x h6 hN (by decide)) ?_
  refine rq_V1 (c1 := 1) (s1 := 6) (F' := 2047) (Lo' := 83978) j0_955 kt0_124 rfl (isa0 ka14_78) rfl rfl rfl ?_
  refine rs_rq (sp_78 hw (by decide) (by decide) (i_find (n := 1100000) (a1 := (xs (6 * T + 1))) (by decide) hT hI) (fun r hr => ?_)) (by decide) (by decide)
  refine rq_back1 ?_
  rw [hq_sw]
  refine rq_aldn j0_958 l2 ?_
  refine rq_aldn j0_959 l0 ?_
  refine rq_ild j0_960 l4 ?_
  refine rq_pure j0_962 rfl ?_
  refine rq_topi (v := 1) (by decide) ?_
  refine rq_pure j0_963 rfl ?_
  refine rq_topi (v := nI (6 * T + 1)) (nI_add (6 * T) 1) ?_
  refine rq_sald1 (x := xs (6 * T + 1)) j0_964 hS2 rfl (sc_in h6 hN (by decide)) (sc_x h6 hN (by decide)) ?_
  refine rq_V1 (c1 := 1) (s1 := 6) (F' := 2047) (Lo' := 83972) j0_965 kt0_127 rfl (isa174 ka15_131) rfl rfl rfl ?_
  refine rs_rq (sp_131 hw (by decide) (by decide) hr (fun s hs => ?_)) (by decide) (by decide)
  refine rq_back1 ?_
  rw [← hq_sw]
  refine rq_iceq (tg := 1334) j0_968 ⟨by decide, by decide⟩ (fun _ => ?_) (fun q => absurd hs.1 q)
  exact hk _ _ _ _ hs.2 hw hl
theorem lc_plain {N T cb sb : Nat} {xs : Nat → Int32} {fm : Value} {c u : cS} {w : cW} {lv : rx_L} {Q : ((Option Value) ⊕ String) → List va_E → Prop} (hN : N ≤ 3072) (h6 : 6 * T + 6 ≤ N) (hI : INV T c u) (hw : rOK fm w) (hl : lvK lv T) (hk : ∀ c' u' w' lv', INV (T + 1) c' u' → rOK fm w' → lvK lv' T → rq (rt_P (N, xs) fm) 0 2048 84000 cb sb 1334 lv' [] (hq true c' u' w') Q) : rq (rt_P (N, xs) fm) 0 2048 84000 (1 + (1 + cb)) (6 + (6 + sb)) 973 lv [] (hq true c u w) Q := by
  obtain ⟨l0, l1, l2, l3, l4⟩ := id hl
  have hT : T < 512 := by omega
  have hS : ∀ {x y : cS} {w : cW}, (hq true x y w)[rx_S]? = none := hq_S
  have hS2 : ∀ {x y : cS} {w : cW}, (hq false x y w)[rx_S]? = none := hq_S2
  refine rq_aldn j0_973 l1 ?_
  refine rq_aldn j0_974 l0 ?_
  refine rq_ild j0_975 l4 ?_
  refine rq_pure j0_977 rfl ?_
  refine rq_topi (v := 1) (by decide) ?_
  refine rq_pure j0_978 rfl ?_
  refine rq_topi (v := nI (6 * T + 1)) (nI_add (6 * T) 1) ?_
  refine rq_sald1 (x := xs (6 * T + 1)) j0_979 hS rfl (sc_in h6 hN (by decide)) (sc_x h6 hN (by decide)) ?_
  refine rq_V1 (c1 := 1) (s1 := 6) (F' := 2047) (Lo' := 83979) j0_980 kt0_128 rfl (isa0 ka14_79) rfl rfl rfl ?_
  refine rs_rq (sp_79 hw (by decide) (by decide) (i_plain (n := 1100000) (a1 := (xs (6 * T + 1))) (by decide) hT hI) (fun r hr => ?_)) (by decide) (by decide)
  refine rq_back1 ?_
  rw [hq_sw]
  refine rq_aldn j0_983 l2 ?_
  refine rq_aldn j0_984 l0 ?_
  refine rq_ild j0_985 l4 ?_
  refine rq_pure j0_987 rfl ?_
  refine rq_topi (v := 1) (by decide) ?_
  refine rq_pure j0_988 rfl ?_
  refine rq_topi (v := nI (6 * T + 1)) (nI_add (6 * T) 1) ?_
  refine rq_sald1 (x := xs (6 * T + 1)) j0_989 hS2 rfl (sc_in h6 hN (by decide)) (sc_x h6 hN (by decide)) ?_
  refine rq_V1 (c1 := 1) (s1 := 6) (F' := 2047) (Lo' := 83978) j0_990 kt0_132 rfl (isa174 ka15_132) rfl rfl rfl ?_
  refine rs_rq (sp_132 hw (by decide) (by decide) hr (fun s hs => ?_)) (by decide) (by decide)
  refine rq_back1 ?_
  rw [← hq_sw]
  refine rq_iceq (tg := 1334) j0_993 ⟨by decide, by decide⟩ (fun _ => ?_) (fun q => absurd hs.1 q)
  exact hk _ _ _ _ hs.2 hw hl
theorem lc_weave {N T cb sb : Nat} {xs : Nat → Int32} {fm : Value} {c u : cS} {w : cW} {lv : rx_L} {Q : ((Option Value) ⊕ String) → List va_E → Prop} (hN : N ≤ 3072) (h6 : 6 * T + 6 ≤ N) (hI : INV T c u) (hw : rOK fm w) (hl : lvK lv T) (hk : ∀ c' u' w' lv', INV (T + 1) c' u' → rOK fm w' → lvK lv' T → rq (rt_P (N, xs) fm) 0 2048 84000 cb sb 1334 lv' [] (hq true c' u' w') Q) : rq (rt_P (N, xs) fm) 0 2048 84000 (1 + (1 + cb)) (6 + (6 + sb)) 998 lv [] (hq true c u w) Q := by
  obtain ⟨l0, l1, l2, l3, l4⟩ := id hl
  have hT : T < 512 := by omega
  have hS : ∀ {x y : cS} {w : cW}, (hq true x y w)[rx_S]? = none := hq_S
  have hS2 : ∀ {x y : cS} {w : cW}, (hq false x y w)[rx_S]? = none := hq_S2
  refine rq_aldn j0_998 l1 ?_
  refine rq_V1 (c1 := 1) (s1 := 6) (F' := 2047) (Lo' := 83977) j0_999 kt0_133 rfl (isa0 ka14_80) rfl rfl rfl ?_
  refine rs_rq (sp_80 hw (by decide) (by decide) (i_weave (n := 1100000)  (by decide) hT hI) (fun r hr => ?_)) (by decide) (by decide)
  refine rq_back1 ?_
  rw [hq_sw]
  refine rq_aldn j0_1002 l2 ?_
  refine rq_V1 (c1 := 1) (s1 := 6) (F' := 2047) (Lo' := 83977) j0_1003 kt0_136 rfl (isa174 ka15_134) rfl rfl rfl ?_
  refine rs_rq (sp_134 hw (by decide) (by decide) hr (fun s hs => ?_)) (by decide) (by decide)
  refine rq_back1 ?_
  rw [← hq_sw]
  refine rq_iceq (tg := 1334) j0_1006 ⟨by decide, by decide⟩ (fun _ => ?_) (fun q => absurd hs.1 q)
  exact hk _ _ _ _ hs.2 hw hl
theorem lc_code {N T cb sb : Nat} {xs : Nat → Int32} {fm : Value} {c u : cS} {w : cW} {lv : rx_L} {Q : ((Option Value) ⊕ String) → List va_E → Prop} (hN : N ≤ 3072) (h6 : 6 * T + 6 ≤ N) (hI : INV T c u) (hw : rOK fm w) (hl : lvK lv T) (hk : ∀ c' u' w' lv', INV (T + 1) c' u' → rOK fm w' → lvK lv' T → rq (rt_P (N, xs) fm) 0 2048 84000 cb sb 1334 lv' [] (hq true c' u' w') Q) : rq (rt_P (N, xs) fm) 0 2048 84000 (1 + (1 + cb)) (6 + (6 + sb)) 1011 lv [] (hq true c u w) Q := by
  obtain ⟨l0, l1, l2, l3, l4⟩ := id hl
  have hT : T < 512 := by omega
  have hS : ∀ {x y : cS} {w : cW}, (hq true x y w)[rx_S]? = none := hq_S
  have hS2 : ∀ {x y : cS} {w : cW}, (hq false x y w)[rx_S]? = none := hq_S2
  by_cases h0 : xs (6 * T + 2) = 0
  · refine rq_aldn j0_1011 l1 ?_
    refine rq_aldn j0_1012 l0 ?_
    refine rq_ild j0_1013 l4 ?_
    refine rq_pure j0_1015 rfl ?_
    refine rq_topi (v := 1) (by decide) ?_
    refine rq_pure j0_1016 rfl ?_
    refine rq_topi (v := nI (6 * T + 1)) (nI_add (6 * T) 1) ?_
    refine rq_sald1 (x := xs (6 * T + 1)) j0_1017 hS rfl (sc_in h6 hN (by decide)) (sc_x h6 hN (by decide)) ?_
    refine rq_aldn j0_1018 l0 ?_
    refine rq_ild j0_1019 l4 ?_
    refine rq_pure j0_1021 rfl ?_
    refine rq_topi (v := 2) (by decide) ?_
    refine rq_pure j0_1022 rfl ?_
    refine rq_topi (v := nI (6 * T + 2)) (nI_add (6 * T) 2) ?_
    refine rq_sald1 (x := xs (6 * T + 2)) j0_1023 hS rfl (sc_in h6 hN (by decide)) (sc_x h6 hN (by decide)) ?_
    refine rq_ifeq (tg := 1031) j0_1024 ⟨by decide, by decide⟩ (fun _ => ?_) (fun q => absurd h0 q)
    refine rq_pure j0_1031 rfl ?_
    refine rq_topi (v := 0) (by decide) ?_
    refine rq_V1 (c1 := 1) (s1 := 6) (F' := 2047) (Lo' := 83978) j0_1032 kt0_137 rfl (isa0 ka14_81) rfl rfl rfl ?_
    refine rs_rq (sp_81 hw (by decide) (by decide) (i_code (n := 1100000) (a1 := (xs (6 * T + 1))) (a2 := 0) (by decide) hT hI) (fun r hr => ?_)) (by decide) (by decide)
    refine rq_back1 ?_
    rw [hq_sw]
    refine rq_aldn j0_1035 l2 ?_
    refine rq_aldn j0_1036 l0 ?_
    refine rq_ild j0_1037 l4 ?_
    refine rq_pure j0_1039 rfl ?_
    refine rq_topi (v := 1) (by decide) ?_
    refine rq_pure j0_1040 rfl ?_
    refine rq_topi (v := nI (6 * T + 1)) (nI_add (6 * T) 1) ?_
    refine rq_sald1 (x := xs (6 * T + 1)) j0_1041 hS2 rfl (sc_in h6 hN (by decide)) (sc_x h6 hN (by decide)) ?_
    refine rq_aldn j0_1042 l0 ?_
    refine rq_ild j0_1043 l4 ?_
    refine rq_pure j0_1045 rfl ?_
    refine rq_topi (v := 2) (by decide) ?_
    refine rq_pure j0_1046 rfl ?_
    refine rq_topi (v := nI (6 * T + 2)) (nI_add (6 * T) 2) ?_
    refine rq_sald1 (x := xs (6 * T + 2)) j0_1047 hS2 rfl (sc_in h6 hN (by decide)) (sc_x h6 hN (by decide)) ?_
    refine rq_ifeq (tg := 1055) j0_1048 ⟨by decide, by decide⟩ (fun _ => ?_) (fun q => absurd h0 q)
    refine rq_pure j0_1055 rfl ?_
    refine rq_topi (v := 0) (by decide) ?_
    refine rq_V1 (c1 := 1) (s1 := 6) (F' := 2047) (Lo' := 83973) j0_1056 kt0_141 rfl (isa174 ka15_135) rfl rfl rfl ?_
    refine rs_rq (sp_135 hw (by decide) (by decide) hr (fun s hs => ?_)) (by decide) (by decide)
    refine rq_back1 ?_
    rw [← hq_sw]
    refine rq_iceq (tg := 1334) j0_1059 ⟨by decide, by decide⟩ (fun _ => ?_) (fun q => absurd hs.1 q)
    exact hk _ _ _ _ hs.2 hw hl
  · refine rq_aldn j0_1011 l1 ?_
    refine rq_aldn j0_1012 l0 ?_
    refine rq_ild j0_1013 l4 ?_
    refine rq_pure j0_1015 rfl ?_
    refine rq_topi (v := 1) (by decide) ?_
    refine rq_pure j0_1016 rfl ?_
    refine rq_topi (v := nI (6 * T + 1)) (nI_add (6 * T) 1) ?_
    refine rq_sald1 (x := xs (6 * T + 1)) j0_1017 hS rfl (sc_in h6 hN (by decide)) (sc_x h6 hN (by decide)) ?_
    refine rq_aldn j0_1018 l0 ?_
    refine rq_ild j0_1019 l4 ?_
    refine rq_pure j0_1021 rfl ?_
    refine rq_topi (v := 2) (by decide) ?_
    refine rq_pure j0_1022 rfl ?_
    refine rq_topi (v := nI (6 * T + 2)) (nI_add (6 * T) 2) ?_
    refine rq_sald1 (x := xs (6 * T + 2)) j0_1023 hS rfl (sc_in h6 hN (by decide)) (sc_x h6 hN (by decide)) ?_
    refine rq_ifeq (tg := 1031) j0_1024 ⟨by decide, by decide⟩ (fun q => absurd q h0) (fun _ => ?_)
    refine rq_pure j0_1027 rfl ?_
    refine rq_topi (v := 1) (by decide) ?_
    refine rq_goto (tg := 1032) j0_1028 ⟨by decide, by decide⟩ ?_
    refine rq_V1 (c1 := 1) (s1 := 6) (F' := 2047) (Lo' := 83978) j0_1032 kt0_137 rfl (isa0 ka14_81) rfl rfl rfl ?_
    refine rs_rq (sp_81 hw (by decide) (by decide) (i_code (n := 1100000) (a1 := (xs (6 * T + 1))) (a2 := 1) (by decide) hT hI) (fun r hr => ?_)) (by decide) (by decide)
    refine rq_back1 ?_
    rw [hq_sw]
    refine rq_aldn j0_1035 l2 ?_
    refine rq_aldn j0_1036 l0 ?_
    refine rq_ild j0_1037 l4 ?_
    refine rq_pure j0_1039 rfl ?_
    refine rq_topi (v := 1) (by decide) ?_
    refine rq_pure j0_1040 rfl ?_
    refine rq_topi (v := nI (6 * T + 1)) (nI_add (6 * T) 1) ?_
    refine rq_sald1 (x := xs (6 * T + 1)) j0_1041 hS2 rfl (sc_in h6 hN (by decide)) (sc_x h6 hN (by decide)) ?_
    refine rq_aldn j0_1042 l0 ?_
    refine rq_ild j0_1043 l4 ?_
    refine rq_pure j0_1045 rfl ?_
    refine rq_topi (v := 2) (by decide) ?_
    refine rq_pure j0_1046 rfl ?_
    refine rq_topi (v := nI (6 * T + 2)) (nI_add (6 * T) 2) ?_
    refine rq_sald1 (x := xs (6 * T + 2)) j0_1047 hS2 rfl (sc_in h6 hN (by decide)) (sc_x h6 hN (by decide)) ?_
    refine rq_ifeq (tg := 1055) j0_1048 ⟨by decide, by decide⟩ (fun q => absurd q h0) (fun _ => ?_)
    refine rq_pure j0_1051 rfl ?_
    refine rq_topi (v := 1) (by decide) ?_
    refine rq_goto (tg := 1056) j0_1052 ⟨by decide, by decide⟩ ?_
    refine rq_V1 (c1 := 1) (s1 := 6) (F' := 2047) (Lo' := 83973) j0_1056 kt0_141 rfl (isa174 ka15_135) rfl rfl rfl ?_
    refine rs_rq (sp_135 hw (by decide) (by decide) hr (fun s hs => ?_)) (by decide) (by decide)
    refine rq_back1 ?_
    rw [← hq_sw]
    refine rq_iceq (tg := 1334) j0_1059 ⟨by decide, by decide⟩ (fun _ => ?_) (fun q => absurd hs.1 q)
    exact hk _ _ _ _ hs.2 hw hl
theorem lc_argument {N T cb sb : Nat} {xs : Nat → Int32} {fm : Value} {c u : cS} {w : cW} {lv : rx_L} {Q : ((Option Value) ⊕ String) → List va_E → Prop} (hN : N ≤ 3072) (h6 : 6 * T + 6 ≤ N) (hI : INV T c u) (hw : rOK fm w) (hl : lvK lv T) (hk : ∀ c' u' w' lv', INV (T + 1) c' u' → rOK fm w' → lvK lv' T → rq (rt_P (N, xs) fm) 0 2048 84000 cb sb 1334 lv' [] (hq true c' u' w') Q) : rq (rt_P (N, xs) fm) 0 2048 84000 (1 + (1 + cb)) (6 + (6 + sb)) 1064 lv [] (hq true c u w) Q := by
  obtain ⟨l0, l1, l2, l3, l4⟩ := id hl
  have hT : T < 512 := by omega
  have hS : ∀ {x y : cS} {w : cW}, (hq true x y w)[rx_S]? = none := hq_S
  have hS2 : ∀ {x y : cS} {w : cW}, (hq false x y w)[rx_S]? = none := hq_S2
  refine rq_aldn j0_1064 l1 ?_
  refine rq_aldn j0_1065 l0 ?_
  refine rq_ild j0_1066 l4 ?_
  refine rq_pure j0_1068 rfl ?_
  refine rq_topi (v := 1) (by decide) ?_
  refine rq_pure j0_1069 rfl ?_
  refine rq_topi (v := nI (6 * T + 1)) (nI_add (6 * T) 1) ?_
  refine rq_sald1 (x := xs (6 * T + 1)) j0_1070 hS rfl (sc_in h6 hN (by decide)) (sc_x h6 hN (by decide)) ?_
  refine rq_aldn j0_1071 l0 ?_
  refine rq_ild j0_1072 l4 ?_
  refine rq_pure j0_1074 rfl ?_
  refine rq_topi (v := 2) (by decide) ?_
  refine rq_pure j0_1075 rfl ?_
  refine rq_topi (v := nI (6 * T + 2)) (nI_add (6 * T) 2) ?_
  refine rq_sald1 (x := xs (6 * T + 2)) j0_1076 hS rfl (sc_in h6 hN (by decide)) (sc_x h6 hN (by decide)) ?_
  refine rq_V1 (c1 := 1) (s1 := 6) (F' := 2047) (Lo' := 83978) j0_1077 kt0_142 rfl (isa0 ka14_82) rfl rfl rfl ?_
  refine rs_rq (sp_82 hw (by decide) (by decide) (i_argument (n := 1100000) (a1 := (xs (6 * T + 1))) (a2 := (xs (6 * T + 2))) hT hI) (fun r hr => ?_)) (by decide) (by decide)
  refine rq_back1 ?_
  rw [hq_sw]
  refine rq_aldn j0_1080 l2 ?_
  refine rq_aldn j0_1081 l0 ?_
  refine rq_ild j0_1082 l4 ?_
  refine rq_pure j0_1084 rfl ?_
  refine rq_topi (v := 1) (by decide) ?_
  refine rq_pure j0_1085 rfl ?_
  refine rq_topi (v := nI (6 * T + 1)) (nI_add (6 * T) 1) ?_
  refine rq_sald1 (x := xs (6 * T + 1)) j0_1086 hS2 rfl (sc_in h6 hN (by decide)) (sc_x h6 hN (by decide)) ?_
  refine rq_aldn j0_1087 l0 ?_
  refine rq_ild j0_1088 l4 ?_
  refine rq_pure j0_1090 rfl ?_
  refine rq_topi (v := 2) (by decide) ?_
  refine rq_pure j0_1091 rfl ?_
  refine rq_topi (v := nI (6 * T + 2)) (nI_add (6 * T) 2) ?_
  refine rq_sald1 (x := xs (6 * T + 2)) j0_1092 hS2 rfl (sc_in h6 hN (by decide)) (sc_x h6 hN (by decide)) ?_
  refine rq_V1 (c1 := 1) (s1 := 6) (F' := 2047) (Lo' := 83978) j0_1093 kt0_146 rfl (isa174 ka15_136) rfl rfl rfl ?_
  refine rs_rq (sp_136 hw (by decide) (by decide) hr (fun s hs => ?_)) (by decide) (by decide)
  refine rq_back1 ?_
  rw [← hq_sw]
  refine rq_iceq (tg := 1334) j0_1096 ⟨by decide, by decide⟩ (fun _ => ?_) (fun q => absurd hs.1 q)
  exact hk _ _ _ _ hs.2 hw hl
theorem lc_input {N T cb sb : Nat} {xs : Nat → Int32} {fm : Value} {c u : cS} {w : cW} {lv : rx_L} {Q : ((Option Value) ⊕ String) → List va_E → Prop} (hN : N ≤ 3072) (h6 : 6 * T + 6 ≤ N) (hI : INV T c u) (hw : rOK fm w) (hl : lvK lv T) (hk : ∀ c' u' w' lv', INV (T + 1) c' u' → rOK fm w' → lvK lv' T → rq (rt_P (N, xs) fm) 0 2048 84000 cb sb 1334 lv' [] (hq true c' u' w') Q) : rq (rt_P (N, xs) fm) 0 2048 84000 (1 + (1 + cb)) (6 + (6 + sb)) 1101 lv [] (hq true c u w) Q := by
  obtain ⟨l0, l1, l2, l3, l4⟩ := id hl
  have hT : T < 512 := by omega
  have hS : ∀ {x y : cS} {w : cW}, (hq true x y w)[rx_S]? = none := hq_S
  have hS2 : ∀ {x y : cS} {w : cW}, (hq false x y w)[rx_S]? = none := hq_S2
  refine rq_aldn j0_1101 l1 ?_
  refine rq_aldn j0_1102 l0 ?_
  refine rq_ild j0_1103 l4 ?_
  refine rq_pure j0_1105 rfl ?_
  refine rq_topi (v := 1) (by decide) ?_
  refine rq_pure j0_1106 rfl ?_
  refine rq_topi (v := nI (6 * T + 1)) (nI_add (6 * T) 1) ?_
  refine rq_sald1 (x := xs (6 * T + 1)) j0_1107 hS rfl (sc_in h6 hN (by decide)) (sc_x h6 hN (by decide)) ?_
  refine rq_V1 (c1 := 1) (s1 := 6) (F' := 2047) (Lo' := 83979) j0_1108 kt0_147 rfl (isa0 ka14_83) rfl rfl rfl ?_
  refine rs_rq (sp_83 hw (by decide) (by decide) (i_input (n := 1100000) (a1 := (xs (6 * T + 1))) hT hI) (fun r hr => ?_)) (by decide) (by decide)
  refine rq_back1 ?_
  rw [hq_sw]
  refine rq_aldn j0_1111 l2 ?_
  refine rq_aldn j0_1112 l0 ?_
  refine rq_ild j0_1113 l4 ?_
  refine rq_pure j0_1115 rfl ?_
  refine rq_topi (v := 1) (by decide) ?_
  refine rq_pure j0_1116 rfl ?_
  refine rq_topi (v := nI (6 * T + 1)) (nI_add (6 * T) 1) ?_
  refine rq_sald1 (x := xs (6 * T + 1)) j0_1117 hS2 rfl (sc_in h6 hN (by decide)) (sc_x h6 hN (by decide)) ?_
  refine rq_V1 (c1 := 1) (s1 := 6) (F' := 2047) (Lo' := 83979) j0_1118 kt0_150 rfl (isa174 ka15_137) rfl rfl rfl ?_
  refine rs_rq (sp_137 hw (by decide) (by decide) hr (fun s hs => ?_)) (by decide) (by decide)
  refine rq_back1 ?_
  rw [← hq_sw]
  refine rq_iceq (tg := 1334) j0_1121 ⟨by decide, by decide⟩ (fun _ => ?_) (fun q => absurd hs.1 q)
  exact hk _ _ _ _ hs.2 hw hl
theorem lc_begin {N T cb sb : Nat} {xs : Nat → Int32} {fm : Value} {c u : cS} {w : cW} {lv : rx_L} {Q : ((Option Value) ⊕ String) → List va_E → Prop} (hN : N ≤ 3072) (h6 : 6 * T + 6 ≤ N) (hI : INV T c u) (hw : rOK fm w) (hl : lvK lv T) (hk : ∀ c' u' w' lv', INV (T + 1) c' u' → rOK fm w' → lvK lv' T → rq (rt_P (N, xs) fm) 0 2048 84000 cb sb 1334 lv' [] (hq true c' u' w') Q) : rq (rt_P (N, xs) fm) 0 2048 84000 (1 + (1 + (1 + cb))) (6 + (6 + (6 + sb))) 1126 lv [] (hq true c u w) Q := by
  obtain ⟨l0, l1, l2, l3, l4⟩ := id hl
  have hT : T < 512 := by omega
  have hS : ∀ {x y : cS} {w : cW}, (hq true x y w)[rx_S]? = none := hq_S
  have hS2 : ∀ {x y : cS} {w : cW}, (hq false x y w)[rx_S]? = none := hq_S2
  by_cases h0 : xs (6 * T + 2) = 0
  · obtain ⟨r, s, e1, e2, d, hI2, hX⟩ := jw_ex (i_begin (n := 1100000) (a1 := (xs (6 * T + 1))) (a2 := 0) (by decide) (by decide) hT hI)
    refine rq_aldn j0_1126 l1 ?_
    refine rq_aldn j0_1127 l0 ?_
    refine rq_ild j0_1128 l4 ?_
    refine rq_pure j0_1130 rfl ?_
    refine rq_topi (v := 1) (by decide) ?_
    refine rq_pure j0_1131 rfl ?_
    refine rq_topi (v := nI (6 * T + 1)) (nI_add (6 * T) 1) ?_
    refine rq_sald1 (x := xs (6 * T + 1)) j0_1132 hS rfl (sc_in h6 hN (by decide)) (sc_x h6 hN (by decide)) ?_
    refine rq_aldn j0_1133 l0 ?_
    refine rq_ild j0_1134 l4 ?_
    refine rq_pure j0_1136 rfl ?_
    refine rq_topi (v := 2) (by decide) ?_
    refine rq_pure j0_1137 rfl ?_
    refine rq_topi (v := nI (6 * T + 2)) (nI_add (6 * T) 2) ?_
    refine rq_sald1 (x := xs (6 * T + 2)) j0_1138 hS rfl (sc_in h6 hN (by decide)) (sc_x h6 hN (by decide)) ?_
    refine rq_ifeq (tg := 1146) j0_1139 ⟨by decide, by decide⟩ (fun _ => ?_) (fun q => absurd h0 q)
    refine rq_pure j0_1146 rfl ?_
    refine rq_topi (v := 0) (by decide) ?_
    refine rq_S1 (c1 := 1) (s1 := 6) (F' := 2047) (Lo' := 83977) j0_1147 kt0_151 (by decide) rfl rfl rfl rfl ?_
    refine rq_loc j17_0 rfl rfl ?_
    refine rq_loc j17_1 rfl rfl ?_
    refine rq_loc j17_2 rfl rfl ?_
    refine rq_V1 (c1 := 1) (s1 := 6) (cb := 0) (sb := 0) (F' := 2046) (Lo' := 83955) j17_3 kt17_15 rfl (isa0 ka14_84) rfl rfl rfl ?_
    rcases hX with ⟨z1, z3⟩ | ⟨z1, z3⟩ | ⟨z1, z3⟩
    · rw [z1] at e1
      refine rs_rq (sp_84 hw (by decide) (by decide) (wp_of (K := fun z => z = .inl d) e1 rfl) (fun r2 hr2 => ?_) (fun r2 hr2 => by cases hr2)) (by decide) (by decide)
      cases hr2
      refine rq_back0 ?_
      refine rq_goto (tg := 15) j17_6 ⟨by decide, by decide⟩ ?_
      refine rq_pure j17_15 rfl ?_
      refine rq_topi (v := nI 0) (by decide) ?_
      refine rq_iret j17_16 rt17 rfl ?_
      refine rq_back1 ?_
      refine rq_ist j0_1150 rfl ?_
      have hl5 := lvK_5 (x := nI 0) hl
      obtain ⟨g0, g1, g2, g3, g4⟩ := id hl5.1
      have g5 := hl5.2
      rw [hq_sw]
      refine rq_aldn j0_1152 g2 ?_
      refine rq_aldn j0_1153 g0 ?_
      refine rq_ild j0_1154 g4 ?_
      refine rq_pure j0_1156 rfl ?_
      refine rq_topi (v := 1) (by decide) ?_
      refine rq_pure j0_1157 rfl ?_
      refine rq_topi (v := nI (6 * T + 1)) (nI_add (6 * T) 1) ?_
      refine rq_sald1 (x := xs (6 * T + 1)) j0_1158 hS2 rfl (sc_in h6 hN (by decide)) (sc_x h6 hN (by decide)) ?_
      refine rq_aldn j0_1159 g0 ?_
      refine rq_ild j0_1160 g4 ?_
      refine rq_pure j0_1162 rfl ?_
      refine rq_topi (v := 2) (by decide) ?_
      refine rq_pure j0_1163 rfl ?_
      refine rq_topi (v := nI (6 * T + 2)) (nI_add (6 * T) 2) ?_
      refine rq_sald1 (x := xs (6 * T + 2)) j0_1164 hS2 rfl (sc_in h6 hN (by decide)) (sc_x h6 hN (by decide)) ?_
      refine rq_ifeq (tg := 1172) j0_1165 ⟨by decide, by decide⟩ (fun _ => ?_) (fun q => absurd h0 q)
      refine rq_pure j0_1172 rfl ?_
      refine rq_topi (v := 0) (by decide) ?_
      refine rq_V1 (c1 := 1) (s1 := 6) (F' := 2047) (Lo' := 83976) j0_1173 kt0_154 rfl (isa174 ka15_139) rfl rfl rfl ?_
      refine rs_rq (sp_139 hw (by decide) (by decide) (wp_of (K := fun z => z = s) e2 rfl) (fun s2 hs2 => ?_)) (by decide) (by decide)
      rw [hs2]
      refine rq_back0 ?_
      refine rq_aldn j0_1176 g2 ?_
      refine rq_V1 (c1 := 1) (s1 := 6) (F' := 2047) (Lo' := 83980) j0_1177 kt0_50 rfl (isa174 ka15_92) rfl rfl rfl ?_
      refine rs_rq (sp_92 (n := 0) hw (by decide) (by decide) (show wp (d_92 0 s) (fun z => z = s.1 174 0) from rfl) (fun t ht => ?_)) (by decide) (by decide)
      rw [ht, z3]
      refine rq_back1 ?_
      rw [← hq_sw]
      refine rq_ild j0_1180 g5 ?_
      refine rq_iceq (tg := 1187) j0_1182 ⟨by decide, by decide⟩ (fun _ => ?_) (fun q => absurd rfl q)
      refine rq_goto (tg := 1334) j0_1187 ⟨by decide, by decide⟩ ?_
      exact hk _ _ _ _ hI2 hw hl5.1
    · rw [z1] at e1
      refine rs_rq (sp_84 hw (by decide) (by decide) (wp_of (K := fun z => z = .inr (1, d)) e1 rfl) (fun r2 hr2 => by cases hr2) (fun r2 hr2 => ?_)) (by decide) (by decide)
      cases hr2
      refine rq_catch1 (E := "java/lang/IllegalStateException") (hpc := 9) (k' := 3) kh17_9 rfl ?_
      refine rq_pure j17_10 rfl ?_
      refine rq_topi (v := nI 1) (by decide) ?_
      refine rq_iret j17_11 rt17 rfl ?_
      refine rq_back1 ?_
      refine rq_ist j0_1150 rfl ?_
      have hl5 := lvK_5 (x := nI 1) hl
      obtain ⟨g0, g1, g2, g3, g4⟩ := id hl5.1
      have g5 := hl5.2
      rw [hq_sw]
      refine rq_aldn j0_1152 g2 ?_
      refine rq_aldn j0_1153 g0 ?_
      refine rq_ild j0_1154 g4 ?_
      refine rq_pure j0_1156 rfl ?_
      refine rq_topi (v := 1) (by decide) ?_
      refine rq_pure j0_1157 rfl ?_
      refine rq_topi (v := nI (6 * T + 1)) (nI_add (6 * T) 1) ?_
      refine rq_sald1 (x := xs (6 * T + 1)) j0_1158 hS2 rfl (sc_in h6 hN (by decide)) (sc_x h6 hN (by decide)) ?_
      refine rq_aldn j0_1159 g0 ?_
      refine rq_ild j0_1160 g4 ?_
      refine rq_pure j0_1162 rfl ?_
      refine rq_topi (v := 2) (by decide) ?_
      refine rq_pure j0_1163 rfl ?_
      refine rq_topi (v := nI (6 * T + 2)) (nI_add (6 * T) 2) ?_
      refine rq_sald1 (x := xs (6 * T + 2)) j0_1164 hS2 rfl (sc_in h6 hN (by decide)) (sc_x h6 hN (by decide)) ?_
      refine rq_ifeq (tg := 1172) j0_1165 ⟨by decide, by decide⟩ (fun _ => ?_) (fun q => absurd h0 q)
      refine rq_pure j0_1172 rfl ?_
      refine rq_topi (v := 0) (by decide) ?_
      refine rq_V1 (c1 := 1) (s1 := 6) (F' := 2047) (Lo' := 83976) j0_1173 kt0_154 rfl (isa174 ka15_139) rfl rfl rfl ?_
      refine rs_rq (sp_139 hw (by decide) (by decide) (wp_of (K := fun z => z = s) e2 rfl) (fun s2 hs2 => ?_)) (by decide) (by decide)
      rw [hs2]
      refine rq_back0 ?_
      refine rq_aldn j0_1176 g2 ?_
      refine rq_V1 (c1 := 1) (s1 := 6) (F' := 2047) (Lo' := 83980) j0_1177 kt0_50 rfl (isa174 ka15_92) rfl rfl rfl ?_
      refine rs_rq (sp_92 (n := 0) hw (by decide) (by decide) (show wp (d_92 0 s) (fun z => z = s.1 174 0) from rfl) (fun t ht => ?_)) (by decide) (by decide)
      rw [ht, z3]
      refine rq_back1 ?_
      rw [← hq_sw]
      refine rq_ild j0_1180 g5 ?_
      refine rq_iceq (tg := 1187) j0_1182 ⟨by decide, by decide⟩ (fun _ => ?_) (fun q => absurd rfl q)
      refine rq_goto (tg := 1334) j0_1187 ⟨by decide, by decide⟩ ?_
      exact hk _ _ _ _ hI2 hw hl5.1
    · rw [z1] at e1
      refine rs_rq (sp_84 hw (by decide) (by decide) (wp_of (K := fun z => z = .inr (2, d)) e1 rfl) (fun r2 hr2 => by cases hr2) (fun r2 hr2 => ?_)) (by decide) (by decide)
      cases hr2
      refine rq_catch1 (E := "java/util/NoSuchElementException") (hpc := 12) (k' := 3) kh17_12 rfl ?_
      refine rq_pure j17_13 rfl ?_
      refine rq_topi (v := nI 2) (by decide) ?_
      refine rq_iret j17_14 rt17 rfl ?_
      refine rq_back1 ?_
      refine rq_ist j0_1150 rfl ?_
      have hl5 := lvK_5 (x := nI 2) hl
      obtain ⟨g0, g1, g2, g3, g4⟩ := id hl5.1
      have g5 := hl5.2
      rw [hq_sw]
      refine rq_aldn j0_1152 g2 ?_
      refine rq_aldn j0_1153 g0 ?_
      refine rq_ild j0_1154 g4 ?_
      refine rq_pure j0_1156 rfl ?_
      refine rq_topi (v := 1) (by decide) ?_
      refine rq_pure j0_1157 rfl ?_
      refine rq_topi (v := nI (6 * T + 1)) (nI_add (6 * T) 1) ?_
      refine rq_sald1 (x := xs (6 * T + 1)) j0_1158 hS2 rfl (sc_in h6 hN (by decide)) (sc_x h6 hN (by decide)) ?_
      refine rq_aldn j0_1159 g0 ?_
      refine rq_ild j0_1160 g4 ?_
      refine rq_pure j0_1162 rfl ?_
      refine rq_topi (v := 2) (by decide) ?_
      refine rq_pure j0_1163 rfl ?_
      refine rq_topi (v := nI (6 * T + 2)) (nI_add (6 * T) 2) ?_
      refine rq_sald1 (x := xs (6 * T + 2)) j0_1164 hS2 rfl (sc_in h6 hN (by decide)) (sc_x h6 hN (by decide)) ?_
      refine rq_ifeq (tg := 1172) j0_1165 ⟨by decide, by decide⟩ (fun _ => ?_) (fun q => absurd h0 q)
      refine rq_pure j0_1172 rfl ?_
      refine rq_topi (v := 0) (by decide) ?_
      refine rq_V1 (c1 := 1) (s1 := 6) (F' := 2047) (Lo' := 83976) j0_1173 kt0_154 rfl (isa174 ka15_139) rfl rfl rfl ?_
      refine rs_rq (sp_139 hw (by decide) (by decide) (wp_of (K := fun z => z = s) e2 rfl) (fun s2 hs2 => ?_)) (by decide) (by decide)
      rw [hs2]
      refine rq_back0 ?_
      refine rq_aldn j0_1176 g2 ?_
      refine rq_V1 (c1 := 1) (s1 := 6) (F' := 2047) (Lo' := 83980) j0_1177 kt0_50 rfl (isa174 ka15_92) rfl rfl rfl ?_
      refine rs_rq (sp_92 (n := 0) hw (by decide) (by decide) (show wp (d_92 0 s) (fun z => z = s.1 174 0) from rfl) (fun t ht => ?_)) (by decide) (by decide)
      rw [ht, z3]
      refine rq_back1 ?_
      rw [← hq_sw]
      refine rq_ild j0_1180 g5 ?_
      refine rq_iceq (tg := 1187) j0_1182 ⟨by decide, by decide⟩ (fun _ => ?_) (fun q => absurd rfl q)
      refine rq_goto (tg := 1334) j0_1187 ⟨by decide, by decide⟩ ?_
      exact hk _ _ _ _ hI2 hw hl5.1
  · obtain ⟨r, s, e1, e2, d, hI2, hX⟩ := jw_ex (i_begin (n := 1100000) (a1 := (xs (6 * T + 1))) (a2 := 1) (by decide) (by decide) hT hI)
    refine rq_aldn j0_1126 l1 ?_
    refine rq_aldn j0_1127 l0 ?_
    refine rq_ild j0_1128 l4 ?_
    refine rq_pure j0_1130 rfl ?_
    refine rq_topi (v := 1) (by decide) ?_
    refine rq_pure j0_1131 rfl ?_
    refine rq_topi (v := nI (6 * T + 1)) (nI_add (6 * T) 1) ?_
    refine rq_sald1 (x := xs (6 * T + 1)) j0_1132 hS rfl (sc_in h6 hN (by decide)) (sc_x h6 hN (by decide)) ?_
    refine rq_aldn j0_1133 l0 ?_
    refine rq_ild j0_1134 l4 ?_
    refine rq_pure j0_1136 rfl ?_
    refine rq_topi (v := 2) (by decide) ?_
    refine rq_pure j0_1137 rfl ?_
    refine rq_topi (v := nI (6 * T + 2)) (nI_add (6 * T) 2) ?_
    refine rq_sald1 (x := xs (6 * T + 2)) j0_1138 hS rfl (sc_in h6 hN (by decide)) (sc_x h6 hN (by decide)) ?_
    refine rq_ifeq (tg := 1146) j0_1139 ⟨by decide, by decide⟩ (fun q => absurd q h0) (fun _ => ?_)
    refine rq_pure j0_1142 rfl ?_
    refine rq_topi (v := 1) (by decide) ?_
    refine rq_goto (tg := 1147) j0_1143 ⟨by decide, by decide⟩ ?_
    refine rq_S1 (c1 := 1) (s1 := 6) (F' := 2047) (Lo' := 83977) j0_1147 kt0_151 (by decide) rfl rfl rfl rfl ?_
    refine rq_loc j17_0 rfl rfl ?_
    refine rq_loc j17_1 rfl rfl ?_
    refine rq_loc j17_2 rfl rfl ?_
    refine rq_V1 (c1 := 1) (s1 := 6) (cb := 0) (sb := 0) (F' := 2046) (Lo' := 83955) j17_3 kt17_15 rfl (isa0 ka14_84) rfl rfl rfl ?_
    rcases hX with ⟨z1, z3⟩ | ⟨z1, z3⟩ | ⟨z1, z3⟩
    · rw [z1] at e1
      refine rs_rq (sp_84 hw (by decide) (by decide) (wp_of (K := fun z => z = .inl d) e1 rfl) (fun r2 hr2 => ?_) (fun r2 hr2 => by cases hr2)) (by decide) (by decide)
      cases hr2
      refine rq_back0 ?_
      refine rq_goto (tg := 15) j17_6 ⟨by decide, by decide⟩ ?_
      refine rq_pure j17_15 rfl ?_
      refine rq_topi (v := nI 0) (by decide) ?_
      refine rq_iret j17_16 rt17 rfl ?_
      refine rq_back1 ?_
      refine rq_ist j0_1150 rfl ?_
      have hl5 := lvK_5 (x := nI 0) hl
      obtain ⟨g0, g1, g2, g3, g4⟩ := id hl5.1
      have g5 := hl5.2
      rw [hq_sw]
      refine rq_aldn j0_1152 g2 ?_
      refine rq_aldn j0_1153 g0 ?_
      refine rq_ild j0_1154 g4 ?_
      refine rq_pure j0_1156 rfl ?_
      refine rq_topi (v := 1) (by decide) ?_
      refine rq_pure j0_1157 rfl ?_
      refine rq_topi (v := nI (6 * T + 1)) (nI_add (6 * T) 1) ?_
      refine rq_sald1 (x := xs (6 * T + 1)) j0_1158 hS2 rfl (sc_in h6 hN (by decide)) (sc_x h6 hN (by decide)) ?_
      refine rq_aldn j0_1159 g0 ?_
      refine rq_ild j0_1160 g4 ?_
      refine rq_pure j0_1162 rfl ?_
      refine rq_topi (v := 2) (by decide) ?_
      refine rq_pure j0_1163 rfl ?_
      refine rq_topi (v := nI (6 * T + 2)) (nI_add (6 * T) 2) ?_
      refine rq_sald1 (x := xs (6 * T + 2)) j0_1164 hS2 rfl (sc_in h6 hN (by decide)) (sc_x h6 hN (by decide)) ?_
      refine rq_ifeq (tg := 1172) j0_1165 ⟨by decide, by decide⟩ (fun q => absurd q h0) (fun _ => ?_)
      refine rq_pure j0_1168 rfl ?_
      refine rq_topi (v := 1) (by decide) ?_
      refine rq_goto (tg := 1173) j0_1169 ⟨by decide, by decide⟩ ?_
      refine rq_V1 (c1 := 1) (s1 := 6) (F' := 2047) (Lo' := 83976) j0_1173 kt0_154 rfl (isa174 ka15_139) rfl rfl rfl ?_
      refine rs_rq (sp_139 hw (by decide) (by decide) (wp_of (K := fun z => z = s) e2 rfl) (fun s2 hs2 => ?_)) (by decide) (by decide)
      rw [hs2]
      refine rq_back0 ?_
      refine rq_aldn j0_1176 g2 ?_
      refine rq_V1 (c1 := 1) (s1 := 6) (F' := 2047) (Lo' := 83980) j0_1177 kt0_50 rfl (isa174 ka15_92) rfl rfl rfl ?_
      refine rs_rq (sp_92 (n := 0) hw (by decide) (by decide) (show wp (d_92 0 s) (fun z => z = s.1 174 0) from rfl) (fun t ht => ?_)) (by decide) (by decide)
      rw [ht, z3]
      refine rq_back1 ?_
      rw [← hq_sw]
      refine rq_ild j0_1180 g5 ?_
      refine rq_iceq (tg := 1187) j0_1182 ⟨by decide, by decide⟩ (fun _ => ?_) (fun q => absurd rfl q)
      refine rq_goto (tg := 1334) j0_1187 ⟨by decide, by decide⟩ ?_
      exact hk _ _ _ _ hI2 hw hl5.1
    · rw [z1] at e1
      refine rs_rq (sp_84 hw (by decide) (by decide) (wp_of (K := fun z => z = .inr (1, d)) e1 rfl) (fun r2 hr2 => by cases hr2) (fun r2 hr2 => ?_)) (by decide) (by decide)
      cases hr2
      refine rq_catch1 (E := "java/lang/IllegalStateException") (hpc := 9) (k' := 3) kh17_9 rfl ?_
      refine rq_pure j17_10 rfl ?_
      refine rq_topi (v := nI 1) (by decide) ?_
      refine rq_iret j17_11 rt17 rfl ?_
      refine rq_back1 ?_
      refine rq_ist j0_1150 rfl ?_
      have hl5 := lvK_5 (x := nI 1) hl
      obtain ⟨g0, g1, g2, g3, g4⟩ := id hl5.1
      have g5 := hl5.2
      rw [hq_sw]
      refine rq_aldn j0_1152 g2 ?_
      refine rq_aldn j0_1153 g0 ?_
      refine rq_ild j0_1154 g4 ?_
      refine rq_pure j0_1156 rfl ?_
      refine rq_topi (v := 1) (by decide) ?_
      refine rq_pure j0_1157 rfl ?_
      refine rq_topi (v := nI (6 * T + 1)) (nI_add (6 * T) 1) ?_
      refine rq_sald1 (x := xs (6 * T + 1)) j0_1158 hS2 rfl (sc_in h6 hN (by decide)) (sc_x h6 hN (by decide)) ?_
      refine rq_aldn j0_1159 g0 ?_
      refine rq_ild j0_1160 g4 ?_
      refine rq_pure j0_1162 rfl ?_
      refine rq_topi (v := 2) (by decide) ?_
      refine rq_pure j0_1163 rfl ?_
      refine rq_topi (v := nI (6 * T + 2)) (nI_add (6 * T) 2) ?_
      refine rq_sald1 (x := xs (6 * T + 2)) j0_1164 hS2 rfl (sc_in h6 hN (by decide)) (sc_x h6 hN (by decide)) ?_
      refine rq_ifeq (tg := 1172) j0_1165 ⟨by decide, by decide⟩ (fun q => absurd q h0) (fun _ => ?_)
      refine rq_pure j0_1168 rfl ?_
      refine rq_topi (v := 1) (by decide) ?_
      refine rq_goto (tg := 1173) j0_1169 ⟨by decide, by decide⟩ ?_
      refine rq_V1 (c1 := 1) (s1 := 6) (F' := 2047) (Lo' := 83976) j0_1173 kt0_154 rfl (isa174 ka15_139) rfl rfl rfl ?_
      refine rs_rq (sp_139 hw (by decide) (by decide) (wp_of (K := fun z => z = s) e2 rfl) (fun s2 hs2 => ?_)) (by decide) (by decide)
      rw [hs2]
      refine rq_back0 ?_
      refine rq_aldn j0_1176 g2 ?_
      refine rq_V1 (c1 := 1) (s1 := 6) (F' := 2047) (Lo' := 83980) j0_1177 kt0_50 rfl (isa174 ka15_92) rfl rfl rfl ?_
      refine rs_rq (sp_92 (n := 0) hw (by decide) (by decide) (show wp (d_92 0 s) (fun z => z = s.1 174 0) from rfl) (fun t ht => ?_)) (by decide) (by decide)
      rw [ht, z3]
      refine rq_back1 ?_
      rw [← hq_sw]
      refine rq_ild j0_1180 g5 ?_
      refine rq_iceq (tg := 1187) j0_1182 ⟨by decide, by decide⟩ (fun _ => ?_) (fun q => absurd rfl q)
      refine rq_goto (tg := 1334) j0_1187 ⟨by decide, by decide⟩ ?_
      exact hk _ _ _ _ hI2 hw hl5.1
    · rw [z1] at e1
      refine rs_rq (sp_84 hw (by decide) (by decide) (wp_of (K := fun z => z = .inr (2, d)) e1 rfl) (fun r2 hr2 => by cases hr2) (fun r2 hr2 => ?_)) (by decide) (by decide)
      cases hr2
      refine rq_catch1 (E := "java/util/NoSuchElementException") (hpc := 12) (k' := 3) kh17_12 rfl ?_
      refine rq_pure j17_13 rfl ?_
      refine rq_topi (v := nI 2) (by decide) ?_
      refine rq_iret j17_14 rt17 rfl ?_
      refine rq_back1 ?_
      refine rq_ist j0_1150 rfl ?_
      have hl5 := lvK_5 (x := nI 2) hl
      obtain ⟨g0, g1, g2, g3, g4⟩ := id hl5.1
      have g5 := hl5.2
      rw [hq_sw]
      refine rq_aldn j0_1152 g2 ?_
      refine rq_aldn j0_1153 g0 ?_
      refine rq_ild j0_1154 g4 ?_
      refine rq_pure j0_1156 rfl ?_
      refine rq_topi (v := 1) (by decide) ?_
      refine rq_pure j0_1157 rfl ?_
      refine rq_topi (v := nI (6 * T + 1)) (nI_add (6 * T) 1) ?_
      refine rq_sald1 (x := xs (6 * T + 1)) j0_1158 hS2 rfl (sc_in h6 hN (by decide)) (sc_x h6 hN (by decide)) ?_
      refine rq_aldn j0_1159 g0 ?_
      refine rq_ild j0_1160 g4 ?_
      refine rq_pure j0_1162 rfl ?_
      refine rq_topi (v := 2) (by decide) ?_
      refine rq_pure j0_1163 rfl ?_
      refine rq_topi (v := nI (6 * T + 2)) (nI_add (6 * T) 2) ?_
      refine rq_sald1 (x := xs (6 * T + 2)) j0_1164 hS2 rfl (sc_in h6 hN (by decide)) (sc_x h6 hN (by decide)) ?_
      refine rq_ifeq (tg := 1172) j0_1165 ⟨by decide, by decide⟩ (fun q => absurd q h0) (fun _ => ?_)
      refine rq_pure j0_1168 rfl ?_
      refine rq_topi (v := 1) (by decide) ?_
      refine rq_goto (tg := 1173) j0_1169 ⟨by decide, by decide⟩ ?_
      refine rq_V1 (c1 := 1) (s1 := 6) (F' := 2047) (Lo' := 83976) j0_1173 kt0_154 rfl (isa174 ka15_139) rfl rfl rfl ?_
      refine rs_rq (sp_139 hw (by decide) (by decide) (wp_of (K := fun z => z = s) e2 rfl) (fun s2 hs2 => ?_)) (by decide) (by decide)
      rw [hs2]
      refine rq_back0 ?_
      refine rq_aldn j0_1176 g2 ?_
      refine rq_V1 (c1 := 1) (s1 := 6) (F' := 2047) (Lo' := 83980) j0_1177 kt0_50 rfl (isa174 ka15_92) rfl rfl rfl ?_
      refine rs_rq (sp_92 (n := 0) hw (by decide) (by decide) (show wp (d_92 0 s) (fun z => z = s.1 174 0) from rfl) (fun t ht => ?_)) (by decide) (by decide)
      rw [ht, z3]
      refine rq_back1 ?_
      rw [← hq_sw]
      refine rq_ild j0_1180 g5 ?_
      refine rq_iceq (tg := 1187) j0_1182 ⟨by decide, by decide⟩ (fun _ => ?_) (fun q => absurd rfl q)
      refine rq_goto (tg := 1334) j0_1187 ⟨by decide, by decide⟩ ?_
      exact hk _ _ _ _ hI2 hw hl5.1
theorem lc_go {N T cb sb : Nat} {xs : Nat → Int32} {fm : Value} {c u : cS} {w : cW} {lv : rx_L} {Q : ((Option Value) ⊕ String) → List va_E → Prop} (hN : N ≤ 3072) (h6 : 6 * T + 6 ≤ N) (hI : INV T c u) (hw : rOK fm w) (hl : lvK lv T) (hk : ∀ c' u' w' lv', INV (T + 1) c' u' → rOK fm w' → lvK lv' T → rq (rt_P (N, xs) fm) 0 2048 84000 cb sb 1334 lv' [] (hq true c' u' w') Q) : rq (rt_P (N, xs) fm) 0 2048 84000 (1 + (1 + (1 + cb))) (6 + (6 + (6 + sb))) 1190 lv [] (hq true c u w) Q := by
  obtain ⟨l0, l1, l2, l3, l4⟩ := id hl
  have hT : T < 512 := by omega
  have hS : ∀ {x y : cS} {w : cW}, (hq true x y w)[rx_S]? = none := hq_S
  have hS2 : ∀ {x y : cS} {w : cW}, (hq false x y w)[rx_S]? = none := hq_S2
  obtain ⟨r, s, e1, e2, d, v, hI2, hX⟩ := jw_ex (i_go (n := 1100000) (a1 := (xs (6 * T + 1))) (by decide) hT hI)
  refine rq_aldn j0_1190 l1 ?_
  refine rq_aldn j0_1191 l0 ?_
  refine rq_ild j0_1192 l4 ?_
  refine rq_pure j0_1194 rfl ?_
  refine rq_topi (v := 1) (by decide) ?_
  refine rq_pure j0_1195 rfl ?_
  refine rq_topi (v := nI (6 * T + 1)) (nI_add (6 * T) 1) ?_
  refine rq_sald1 (x := xs (6 * T + 1)) j0_1196 hS rfl (sc_in h6 hN (by decide)) (sc_x h6 hN (by decide)) ?_
  refine rq_aldn j0_1197 l3 ?_
  refine rq_S1 (c1 := 1) (s1 := 6) (F' := 2047) (Lo' := 83977) j0_1198 kt0_155 (by decide) rfl rfl rfl rfl ?_
  refine rq_loc j18_0 rfl rfl ?_
  refine rq_pure j18_1 rfl ?_
  refine rq_topi (v := 0) (by decide) ?_
  refine rq_loc j18_2 rfl rfl ?_
  refine rq_loc j18_3 rfl rfl ?_
  refine rq_V1 (c1 := 1) (s1 := 6) (cb := 0) (sb := 0) (F' := 2046) (Lo' := 83956) j18_4 kt18_23 rfl (isa0 ka14_85) rfl rfl rfl ?_
  rcases hX with ⟨k, z1, z2, z3⟩ | ⟨z1, z2, z3⟩ | ⟨z1, z2, z3⟩
  · rw [z1] at e1
    have hw2 : rOK fm (pL w.1 266 0 k.toInt64, w.2) := hw
    refine rs_rq (sp_85 hw (by decide) (by decide) (wp_of (K := fun z => z = .inl (k, d)) e1 rfl) (fun r2 hr2 => ?_) (fun r2 hr2 => by cases hr2)) (by decide) (by decide)
    cases hr2
    refine rq_back1 ?_
    refine rq_pure j18_7 rfl ?_
    refine rq_last j18_8 hq_266 (by decide) ?_
    rw [hq_s266 (q := (0 : Int32).toNatClampNeg) (by decide)]
    refine rq_goto (tg := 18) j18_9 ⟨by decide, by decide⟩ ?_
    refine rq_pure j18_18 rfl ?_
    refine rq_topi (v := nI 0) (by decide) ?_
    refine rq_iret j18_19 rt18 rfl ?_
    refine rq_back1 ?_
    refine rq_ist j0_1201 rfl ?_
    have hl5 := lvK_5 (x := nI 0) hl
    obtain ⟨g0, g1, g2, g3, g4⟩ := id hl5.1
    have g5 := hl5.2
    rw [hq_sw]
    refine rq_aldn j0_1203 g2 ?_
    refine rq_aldn j0_1204 g0 ?_
    refine rq_ild j0_1205 g4 ?_
    refine rq_pure j0_1207 rfl ?_
    refine rq_topi (v := 1) (by decide) ?_
    refine rq_pure j0_1208 rfl ?_
    refine rq_topi (v := nI (6 * T + 1)) (nI_add (6 * T) 1) ?_
    refine rq_sald1 (x := xs (6 * T + 1)) j0_1209 hS2 rfl (sc_in h6 hN (by decide)) (sc_x h6 hN (by decide)) ?_
    refine rq_V1 (c1 := 1) (s1 := 6) (F' := 2047) (Lo' := 83976) j0_1210 kt0_158 rfl (isa174 ka15_140) rfl rfl rfl ?_
    refine rs_rq (sp_140 hw2 (by decide) (by decide) (wp_of (K := fun z => z = s) e2 rfl) (fun s2 hs2 => ?_)) (by decide) (by decide)
    rw [hs2, z2]
    refine rq_back1 ?_
    refine rq_ist j0_1213 rfl ?_
    have hl6 := lvK_6 (x := k) hl5.1 g5
    obtain ⟨f0, f1, f2, f3, f4⟩ := id hl6.1
    obtain ⟨f5, f6⟩ := hl6.2
    refine rq_aldn j0_1215 f2 ?_
    refine rq_V1 (c1 := 1) (s1 := 6) (F' := 2047) (Lo' := 83980) j0_1216 kt0_50 rfl (isa174 ka15_92) rfl rfl rfl ?_
    refine rs_rq (sp_92 (n := 0) hw2 (by decide) (by decide) (show wp (d_92 0 v) (fun z => z = v.1 174 0) from rfl) (fun t ht => ?_)) (by decide) (by decide)
    rw [ht, z3]
    refine rq_back1 ?_
    rw [← hq_sw]
    refine rq_ild j0_1219 f5 ?_
    refine rq_iceq (tg := 1226) j0_1221 ⟨by decide, by decide⟩ (fun _ => ?_) (fun q => absurd rfl q)
    refine rq_ild j0_1226 f5 ?_
    refine rq_ifne (tg := 1243) j0_1228 ⟨by decide, by decide⟩ (fun q => absurd rfl q) (fun _ => ?_)
    refine rq_aldn j0_1231 f3 ?_
    refine rq_pure j0_1232 rfl ?_
    refine rq_topi (v := 0) (by decide) ?_
    refine rq_lald j0_1233 hq_266 (by decide) ?_
    refine rq_topl (v := k.toInt64) (pL_266 (w := w)) ?_
    refine rq_ild j0_1234 f6 ?_
    refine rq_pure j0_1236 rfl ?_
    refine rq_pure j0_1237 rfl ?_
    refine rq_ifeq (tg := 1243) j0_1238 ⟨by decide, by decide⟩ (fun _ => ?_) (fun q => absurd lg_self q)
    refine rq_goto (tg := 1334) j0_1243 ⟨by decide, by decide⟩ ?_
    exact hk _ _ _ _ hI2 hw2 hl6.1
  · rw [z1] at e1
    have hw2 : rOK fm w := hw
    refine rs_rq (sp_85 hw (by decide) (by decide) (wp_of (K := fun z => z = .inr (0, d)) e1 rfl) (fun r2 hr2 => by cases hr2) (fun r2 hr2 => ?_)) (by decide) (by decide)
    cases hr2
    refine rq_catch1 (E := "java/lang/IllegalArgumentException") (hpc := 12) (k' := 3) kh18_12 rfl ?_
    refine rq_pure j18_13 rfl ?_
    refine rq_topi (v := nI 1) (by decide) ?_
    refine rq_iret j18_14 rt18 rfl ?_
    refine rq_back1 ?_
    refine rq_ist j0_1201 rfl ?_
    have hl5 := lvK_5 (x := nI 1) hl
    obtain ⟨g0, g1, g2, g3, g4⟩ := id hl5.1
    have g5 := hl5.2
    rw [hq_sw]
    refine rq_aldn j0_1203 g2 ?_
    refine rq_aldn j0_1204 g0 ?_
    refine rq_ild j0_1205 g4 ?_
    refine rq_pure j0_1207 rfl ?_
    refine rq_topi (v := 1) (by decide) ?_
    refine rq_pure j0_1208 rfl ?_
    refine rq_topi (v := nI (6 * T + 1)) (nI_add (6 * T) 1) ?_
    refine rq_sald1 (x := xs (6 * T + 1)) j0_1209 hS2 rfl (sc_in h6 hN (by decide)) (sc_x h6 hN (by decide)) ?_
    refine rq_V1 (c1 := 1) (s1 := 6) (F' := 2047) (Lo' := 83976) j0_1210 kt0_158 rfl (isa174 ka15_140) rfl rfl rfl ?_
    refine rs_rq (sp_140 hw2 (by decide) (by decide) (wp_of (K := fun z => z = s) e2 rfl) (fun s2 hs2 => ?_)) (by decide) (by decide)
    rw [hs2, z2]
    refine rq_back1 ?_
    refine rq_ist j0_1213 rfl ?_
    have hl6 := lvK_6 (x := 0) hl5.1 g5
    obtain ⟨f0, f1, f2, f3, f4⟩ := id hl6.1
    obtain ⟨f5, f6⟩ := hl6.2
    refine rq_aldn j0_1215 f2 ?_
    refine rq_V1 (c1 := 1) (s1 := 6) (F' := 2047) (Lo' := 83980) j0_1216 kt0_50 rfl (isa174 ka15_92) rfl rfl rfl ?_
    refine rs_rq (sp_92 (n := 0) hw2 (by decide) (by decide) (show wp (d_92 0 v) (fun z => z = v.1 174 0) from rfl) (fun t ht => ?_)) (by decide) (by decide)
    rw [ht, z3]
    refine rq_back1 ?_
    rw [← hq_sw]
    refine rq_ild j0_1219 f5 ?_
    refine rq_iceq (tg := 1226) j0_1221 ⟨by decide, by decide⟩ (fun _ => ?_) (fun q => absurd rfl q)
    refine rq_ild j0_1226 f5 ?_
    refine rq_ifne (tg := 1243) j0_1228 ⟨by decide, by decide⟩ (fun _ => ?_) (fun q => absurd q (by decide))
    refine rq_goto (tg := 1334) j0_1243 ⟨by decide, by decide⟩ ?_
    exact hk _ _ _ _ hI2 hw2 hl6.1
  · rw [z1] at e1
    have hw2 : rOK fm w := hw
    refine rs_rq (sp_85 hw (by decide) (by decide) (wp_of (K := fun z => z = .inr (1, d)) e1 rfl) (fun r2 hr2 => by cases hr2) (fun r2 hr2 => ?_)) (by decide) (by decide)
    cases hr2
    refine rq_catch1 (E := "java/lang/IllegalStateException") (hpc := 15) (k' := 3) kh18_15 rfl ?_
    refine rq_pure j18_16 rfl ?_
    refine rq_topi (v := nI 2) (by decide) ?_
    refine rq_iret j18_17 rt18 rfl ?_
    refine rq_back1 ?_
    refine rq_ist j0_1201 rfl ?_
    have hl5 := lvK_5 (x := nI 2) hl
    obtain ⟨g0, g1, g2, g3, g4⟩ := id hl5.1
    have g5 := hl5.2
    rw [hq_sw]
    refine rq_aldn j0_1203 g2 ?_
    refine rq_aldn j0_1204 g0 ?_
    refine rq_ild j0_1205 g4 ?_
    refine rq_pure j0_1207 rfl ?_
    refine rq_topi (v := 1) (by decide) ?_
    refine rq_pure j0_1208 rfl ?_
    refine rq_topi (v := nI (6 * T + 1)) (nI_add (6 * T) 1) ?_
    refine rq_sald1 (x := xs (6 * T + 1)) j0_1209 hS2 rfl (sc_in h6 hN (by decide)) (sc_x h6 hN (by decide)) ?_
    refine rq_V1 (c1 := 1) (s1 := 6) (F' := 2047) (Lo' := 83976) j0_1210 kt0_158 rfl (isa174 ka15_140) rfl rfl rfl ?_
    refine rs_rq (sp_140 hw2 (by decide) (by decide) (wp_of (K := fun z => z = s) e2 rfl) (fun s2 hs2 => ?_)) (by decide) (by decide)
    rw [hs2, z2]
    refine rq_back1 ?_
    refine rq_ist j0_1213 rfl ?_
    have hl6 := lvK_6 (x := 0) hl5.1 g5
    obtain ⟨f0, f1, f2, f3, f4⟩ := id hl6.1
    obtain ⟨f5, f6⟩ := hl6.2
    refine rq_aldn j0_1215 f2 ?_
    refine rq_V1 (c1 := 1) (s1 := 6) (F' := 2047) (Lo' := 83980) j0_1216 kt0_50 rfl (isa174 ka15_92) rfl rfl rfl ?_
    refine rs_rq (sp_92 (n := 0) hw2 (by decide) (by decide) (show wp (d_92 0 v) (fun z => z = v.1 174 0) from rfl) (fun t ht => ?_)) (by decide) (by decide)
    rw [ht, z3]
    refine rq_back1 ?_
    rw [← hq_sw]
    refine rq_ild j0_1219 f5 ?_
    refine rq_iceq (tg := 1226) j0_1221 ⟨by decide, by decide⟩ (fun _ => ?_) (fun q => absurd rfl q)
    refine rq_ild j0_1226 f5 ?_
    refine rq_ifne (tg := 1243) j0_1228 ⟨by decide, by decide⟩ (fun _ => ?_) (fun q => absurd q (by decide))
    refine rq_goto (tg := 1334) j0_1243 ⟨by decide, by decide⟩ ?_
    exact hk _ _ _ _ hI2 hw2 hl6.1
theorem lc_run {N T cb sb : Nat} {xs : Nat → Int32} {fm : Value} {c u : cS} {w : cW} {lv : rx_L} {Q : ((Option Value) ⊕ String) → List va_E → Prop} (hN : N ≤ 3072) (h6 : 6 * T + 6 ≤ N) (hI : INV T c u) (hw : rOK fm w) (hl : lvK lv T) (hk : ∀ c' u' w' lv', INV (T + 1) c' u' → rOK fm w' → lvK lv' T → rq (rt_P (N, xs) fm) 0 2048 84000 cb sb 1334 lv' [] (hq true c' u' w') Q) : rq (rt_P (N, xs) fm) 0 2048 84000 (1 + (1 + cb)) (6 + (6 + sb)) 1246 lv [] (hq true c u w) Q := by
  obtain ⟨l0, l1, l2, l3, l4⟩ := id hl
  have hT : T < 512 := by omega
  have hS : ∀ {x y : cS} {w : cW}, (hq true x y w)[rx_S]? = none := hq_S
  have hS2 : ∀ {x y : cS} {w : cW}, (hq false x y w)[rx_S]? = none := hq_S2
  refine rq_aldn j0_1246 l1 ?_
  refine rq_aldn j0_1247 l0 ?_
  refine rq_ild j0_1248 l4 ?_
  refine rq_pure j0_1250 rfl ?_
  refine rq_topi (v := 1) (by decide) ?_
  refine rq_pure j0_1251 rfl ?_
  refine rq_topi (v := nI (6 * T + 1)) (nI_add (6 * T) 1) ?_
  refine rq_sald1 (x := xs (6 * T + 1)) j0_1252 hS rfl (sc_in h6 hN (by decide)) (sc_x h6 hN (by decide)) ?_
  refine rq_V1 (c1 := 1) (s1 := 6) (F' := 2047) (Lo' := 83979) j0_1253 kt0_159 rfl (isa0 ka14_86) rfl rfl rfl ?_
  refine rs_rq (sp_86 hw (by decide) (by decide) (i_run (n := 1100000) (a1 := (xs (6 * T + 1))) hT hI) (fun r hr => ?_)) (by decide) (by decide)
  refine rq_back1 ?_
  rw [hq_sw]
  refine rq_aldn j0_1256 l2 ?_
  refine rq_aldn j0_1257 l0 ?_
  refine rq_ild j0_1258 l4 ?_
  refine rq_pure j0_1260 rfl ?_
  refine rq_topi (v := 1) (by decide) ?_
  refine rq_pure j0_1261 rfl ?_
  refine rq_topi (v := nI (6 * T + 1)) (nI_add (6 * T) 1) ?_
  refine rq_sald1 (x := xs (6 * T + 1)) j0_1262 hS2 rfl (sc_in h6 hN (by decide)) (sc_x h6 hN (by decide)) ?_
  refine rq_V1 (c1 := 1) (s1 := 6) (F' := 2047) (Lo' := 83978) j0_1263 kt0_162 rfl (isa174 ka15_141) rfl rfl rfl ?_
  refine rs_rq (sp_141 hw (by decide) (by decide) hr (fun s hs => ?_)) (by decide) (by decide)
  refine rq_back1 ?_
  rw [← hq_sw]
  refine rq_iceq (tg := 1334) j0_1266 ⟨by decide, by decide⟩ (fun _ => ?_) (fun q => absurd hs.1 q)
  exact hk _ _ _ _ hs.2 hw hl
theorem lc_truth {N T cb sb : Nat} {xs : Nat → Int32} {fm : Value} {c u : cS} {w : cW} {lv : rx_L} {Q : ((Option Value) ⊕ String) → List va_E → Prop} (hN : N ≤ 3072) (h6 : 6 * T + 6 ≤ N) (hI : INV T c u) (hw : rOK fm w) (hl : lvK lv T) (hk : ∀ c' u' w' lv', INV (T + 1) c' u' → rOK fm w' → lvK lv' T → rq (rt_P (N, xs) fm) 0 2048 84000 cb sb 1334 lv' [] (hq true c' u' w') Q) : rq (rt_P (N, xs) fm) 0 2048 84000 (1 + (1 + cb)) (6 + (6 + sb)) 1271 lv [] (hq true c u w) Q := by
  obtain ⟨l0, l1, l2, l3, l4⟩ := id hl
  have hT : T < 512 := by omega
  have hS : ∀ {x y : cS} {w : cW}, (hq true x y w)[rx_S]? = none := hq_S
  have hS2 : ∀ {x y : cS} {w : cW}, (hq false x y w)[rx_S]? = none := hq_S2
  refine rq_aldn j0_1271 l1 ?_
  refine rq_aldn j0_1272 l0 ?_
  refine rq_ild j0_1273 l4 ?_
  refine rq_pure j0_1275 rfl ?_
  refine rq_topi (v := 1) (by decide) ?_
  refine rq_pure j0_1276 rfl ?_
  refine rq_topi (v := nI (6 * T + 1)) (nI_add (6 * T) 1) ?_
  refine rq_sald1 (x := xs (6 * T + 1)) j0_1277 hS rfl (sc_in h6 hN (by decide)) (sc_x h6 hN (by decide)) ?_
  refine rq_V1 (c1 := 1) (s1 := 6) (F' := 2047) (Lo' := 83979) j0_1278 kt0_163 rfl (isa0 ka14_87) rfl rfl rfl ?_
  refine rs_rq (sp_87 hw (by decide) (by decide) (i_truth (n := 1100000) (a1 := (xs (6 * T + 1))) hT hI) (fun r hr => ?_)) (by decide) (by decide)
  refine rq_back1 ?_
  rw [hq_sw]
  refine rq_aldn j0_1281 l2 ?_
  refine rq_aldn j0_1282 l0 ?_
  refine rq_ild j0_1283 l4 ?_
  refine rq_pure j0_1285 rfl ?_
  refine rq_topi (v := 1) (by decide) ?_
  refine rq_pure j0_1286 rfl ?_
  refine rq_topi (v := nI (6 * T + 1)) (nI_add (6 * T) 1) ?_
  refine rq_sald1 (x := xs (6 * T + 1)) j0_1287 hS2 rfl (sc_in h6 hN (by decide)) (sc_x h6 hN (by decide)) ?_
  refine rq_V1 (c1 := 1) (s1 := 6) (F' := 2047) (Lo' := 83979) j0_1288 kt0_166 rfl (isa174 ka15_142) rfl rfl rfl ?_
  refine rs_rq (sp_142 hw (by decide) (by decide) hr (fun s hs => ?_)) (by decide) (by decide)
  refine rq_back1 ?_
  rw [← hq_sw]
  refine rq_iceq (tg := 1334) j0_1291 ⟨by decide, by decide⟩ (fun _ => ?_) (fun q => absurd hs.1 q)
  exact hk _ _ _ _ hs.2 hw hl
theorem lc_wire {N T cb sb : Nat} {xs : Nat → Int32} {fm : Value} {c u : cS} {w : cW} {lv : rx_L} {Q : ((Option Value) ⊕ String) → List va_E → Prop} (hN : N ≤ 3072) (h6 : 6 * T + 6 ≤ N) (hI : INV T c u) (hw : rOK fm w) (hl : lvK lv T) (hk : ∀ c' u' w' lv', INV (T + 1) c' u' → rOK fm w' → lvK lv' T → rq (rt_P (N, xs) fm) 0 2048 84000 cb sb 1334 lv' [] (hq true c' u' w') Q) : rq (rt_P (N, xs) fm) 0 2048 84000 (1 + (1 + cb)) (6 + (6 + sb)) 1296 lv [] (hq true c u w) Q := by
  obtain ⟨l0, l1, l2, l3, l4⟩ := id hl
  have hT : T < 512 := by omega
  have hS : ∀ {x y : cS} {w : cW}, (hq true x y w)[rx_S]? = none := hq_S
  have hS2 : ∀ {x y : cS} {w : cW}, (hq false x y w)[rx_S]? = none := hq_S2
  refine rq_aldn j0_1296 l1 ?_
  refine rq_V1 (c1 := 1) (s1 := 6) (F' := 2047) (Lo' := 83980) j0_1297 kt0_167 rfl (isa0 ka14_88) rfl rfl rfl ?_
  refine rs_rq (sp_88 hw (by decide) (by decide) (i_wire (n := 1100000)  (by decide) hT hI) (fun r hr => ?_)) (by decide) (by decide)
  refine rq_back1 ?_
  rw [hq_sw]
  refine rq_aldn j0_1300 l2 ?_
  refine rq_V1 (c1 := 1) (s1 := 6) (F' := 2047) (Lo' := 83978) j0_1301 kt0_170 rfl (isa174 ka15_143) rfl rfl rfl ?_
  refine rs_rq (sp_143 hw (by decide) (by decide) hr (fun s hs => ?_)) (by decide) (by decide)
  refine rq_back1 ?_
  rw [← hq_sw]
  refine rq_iceq (tg := 1334) j0_1304 ⟨by decide, by decide⟩ (fun _ => ?_) (fun q => absurd hs.1 q)
  exact hk _ _ _ _ hs.2 hw hl
theorem lc_wired {N T cb sb : Nat} {xs : Nat → Int32} {fm : Value} {c u : cS} {w : cW} {lv : rx_L} {Q : ((Option Value) ⊕ String) → List va_E → Prop} (hN : N ≤ 3072) (h6 : 6 * T + 6 ≤ N) (hI : INV T c u) (hw : rOK fm w) (hl : lvK lv T) (hk : ∀ c' u' w' lv', INV (T + 1) c' u' → rOK fm w' → lvK lv' T → rq (rt_P (N, xs) fm) 0 2048 84000 cb sb 1334 lv' [] (hq true c' u' w') Q) : rq (rt_P (N, xs) fm) 0 2048 84000 (1 + (1 + cb)) (6 + (6 + sb)) 1309 lv [] (hq true c u w) Q := by
  obtain ⟨l0, l1, l2, l3, l4⟩ := id hl
  have hT : T < 512 := by omega
  have hS : ∀ {x y : cS} {w : cW}, (hq true x y w)[rx_S]? = none := hq_S
  have hS2 : ∀ {x y : cS} {w : cW}, (hq false x y w)[rx_S]? = none := hq_S2
  refine rq_aldn j0_1309 l1 ?_
  refine rq_aldn j0_1310 l0 ?_
  refine rq_ild j0_1311 l4 ?_
  refine rq_pure j0_1313 rfl ?_
  refine rq_topi (v := 1) (by decide) ?_
  refine rq_pure j0_1314 rfl ?_
  refine rq_topi (v := nI (6 * T + 1)) (nI_add (6 * T) 1) ?_
  refine rq_sald1 (x := xs (6 * T + 1)) j0_1315 hS rfl (sc_in h6 hN (by decide)) (sc_x h6 hN (by decide)) ?_
  refine rq_V1 (c1 := 1) (s1 := 6) (F' := 2047) (Lo' := 83979) j0_1316 kt0_171 rfl (isa0 ka14_89) rfl rfl rfl ?_
  refine rs_rq (sp_89 hw (by decide) (by decide) (i_wired (n := 1100000) (a1 := (xs (6 * T + 1))) hT hI) (fun r hr => ?_)) (by decide) (by decide)
  refine rq_back1 ?_
  rw [hq_sw]
  refine rq_aldn j0_1319 l2 ?_
  refine rq_aldn j0_1320 l0 ?_
  refine rq_ild j0_1321 l4 ?_
  refine rq_pure j0_1323 rfl ?_
  refine rq_topi (v := 1) (by decide) ?_
  refine rq_pure j0_1324 rfl ?_
  refine rq_topi (v := nI (6 * T + 1)) (nI_add (6 * T) 1) ?_
  refine rq_sald1 (x := xs (6 * T + 1)) j0_1325 hS2 rfl (sc_in h6 hN (by decide)) (sc_x h6 hN (by decide)) ?_
  refine rq_V1 (c1 := 1) (s1 := 6) (F' := 2047) (Lo' := 83979) j0_1326 kt0_174 rfl (isa174 ka15_144) rfl rfl rfl ?_
  refine rs_rq (sp_144 hw (by decide) (by decide) hr (fun s hs => ?_)) (by decide) (by decide)
  refine rq_back1 ?_
  rw [← hq_sw]
  refine rq_iceq (tg := 1334) j0_1329 ⟨by decide, by decide⟩ (fun _ => ?_) (fun q => absurd hs.1 q)
  exact hk _ _ _ _ hs.2 hw hl
/-- THE LOOP -/
theorem lp_go {N : Nat} {xs : Nat → Int32} {fm : Value} (hN : N ≤ 3072) : ∀ (k T cb sb : Nat) (c u : cS) (w : cW) (lv : rx_L), N ≤ 6 * T + 6 * k + 5 → 3 * k ≤ cb → 18 * k ≤ sb → INV T c u → rOK fm w → lvK lv T → rq (rt_P (N, xs) fm) 0 2048 84000 cb sb 23 lv [] (hq true c u w) lpQ
  | 0, T, cb, sb, c, u, w, lv, hk, hc, hs, hI, hw, hl => by
    obtain ⟨l0, l1, l2, l3, l4⟩ := id hl
    refine rq_ild j0_23 l4 ?_
    refine rq_aldn j0_25 l0 ?_
    refine rq_slen j0_26 hq_S rfl ?_
    refine rq_pure j0_27 rfl ?_
    refine rq_topi (v := 6) (by decide) ?_
    refine rq_pure j0_29 rfl ?_
    refine rq_icgt (tg := 1340) j0_30 ⟨by decide, by decide⟩ (fun _ => ?_) (fun q => absurd (lp_gt hN hI.1 (by omega)) q)
    refine rq_pure j0_1340 rfl ?_
    refine rq_topi (v := 1) (by decide) ?_
    exact rq_iret j0_1341 rt0 rfl rfl
  | k + 1, T, cb, sb, c, u, w, lv, hk, hc, hs, hI, hw, hl => by
    obtain ⟨l0, l1, l2, l3, l4⟩ := id hl
    refine rq_ild j0_23 l4 ?_
    refine rq_aldn j0_25 l0 ?_
    refine rq_slen j0_26 hq_S rfl ?_
    refine rq_pure j0_27 rfl ?_
    refine rq_topi (v := 6) (by decide) ?_
    refine rq_pure j0_29 rfl ?_
    by_cases hb6 : 6 * T + 6 ≤ N
    · have hT : T < 512 := by omega
      refine rq_icgt (tg := 1340) j0_30 ⟨by decide, by decide⟩ (fun q => absurd q (lp_le hN hb6)) (fun _ => ?_)
      refine rq_aldn j0_33 l0 ?_
      refine rq_ild j0_34 l4 ?_
      refine rq_sald1 (x := xs (6 * T + 0)) j0_36 hq_S rfl (sc_in (j := 0) hb6 hN (by decide)) (sc_x (j := 0) hb6 hN (by decide)) ?_
      refine rq_pure j0_37 rfl ?_
      refine rq_topi (v := 63) (by decide) ?_
      refine rq_pure j0_39 rfl ?_
      have hk2 : ∀ c' u' w' lv', INV (T + 1) c' u' → rOK fm w' → lvK lv' T → rq (rt_P (N, xs) fm) 0 2048 84000 (3 * k) (18 * k) 1334 lv' [] (hq true c' u' w') lpQ := fun c' u' w' lv' q1 q2 q3 => by
        refine rq_inc j0_1334 q3.2.2.2.2 rfl (nI_add (6 * T) 6) ?_
        refine rq_goto (tg := 23) j0_1337 ⟨by decide, by decide⟩ ?_
        exact lp_go hN k (T + 1) (3 * k) (18 * k) c' u' w' _ (by omega) (Nat.le_refl _) (Nat.le_refl _) q1 q2 (lvK_4 q3)
      have up2 : ∀ {pc : Nat} {st : List Value}, rq (rt_P (N, xs) fm) 0 2048 84000 (1 + (1 + 3 * k)) (6 + (6 + 18 * k)) pc lv st (hq true c u w) lpQ → rq (rt_P (N, xs) fm) 0 2048 84000 cb sb pc lv st (hq true c u w) lpQ := fun {pc st} q => rq_mono q (by omega) (by omega) (fun _ _ z => z)
      have up3 : ∀ {pc : Nat} {st : List Value}, rq (rt_P (N, xs) fm) 0 2048 84000 (1 + (1 + (1 + 3 * k))) (6 + (6 + (6 + 18 * k))) pc lv st (hq true c u w) lpQ → rq (rt_P (N, xs) fm) 0 2048 84000 cb sb pc lv st (hq true c u w) lpQ := fun {pc st} q => rq_mono q (by omega) (by omega) (fun _ _ z => z)
      by_cases h0 : xs (6 * T + 0) &&& 63 = 0
      · refine rq_tsk (tg := 188) (off := 148) (v := 0) j0_40 h0 (by decide) (by decide) ⟨by decide, by decide⟩ ?_
        exact up2 (lc_feed hN hb6 hI hw hl hk2)
      by_cases h1 : xs (6 * T + 0) &&& 63 = 1
      · refine rq_tsk (tg := 261) (off := 221) (v := 1) j0_40 h1 (by decide) (by decide) ⟨by decide, by decide⟩ ?_
        exact up2 (lc_end hN hb6 hI hw hl hk2)
      by_cases h2 : xs (6 * T + 0) &&& 63 = 2
      · refine rq_tsk (tg := 286) (off := 246) (v := 2) j0_40 h2 (by decide) (by decide) ⟨by decide, by decide⟩ ?_
        exact up2 (lc_out hN hb6 hI hw hl hk2)
      by_cases h3 : xs (6 * T + 0) &&& 63 = 3
      · refine rq_tsk (tg := 311) (off := 271) (v := 3) j0_40 h3 (by decide) (by decide) ⟨by decide, by decide⟩ ?_
        exact up3 (lc_compile hN hb6 hI hw hl hk2)
      by_cases h4 : xs (6 * T + 0) &&& 63 = 4
      · refine rq_tsk (tg := 355) (off := 315) (v := 4) j0_40 h4 (by decide) (by decide) ⟨by decide, by decide⟩ ?_
        exact up2 (lc_fault hN hb6 hI hw hl hk2)
      by_cases h5 : xs (6 * T + 0) &&& 63 = 5
      · refine rq_tsk (tg := 380) (off := 340) (v := 5) j0_40 h5 (by decide) (by decide) ⟨by decide, by decide⟩ ?_
        exact up2 (lc_tell hN hb6 hI hw hl hk2)
      by_cases h6 : xs (6 * T + 0) &&& 63 = 6
      · refine rq_tsk (tg := 393) (off := 353) (v := 6) j0_40 h6 (by decide) (by decide) ⟨by decide, by decide⟩ ?_
        exact up2 (lc_size hN hb6 hI hw hl hk2)
      by_cases h7 : xs (6 * T + 0) &&& 63 = 7
      · refine rq_tsk (tg := 430) (off := 390) (v := 7) j0_40 h7 (by decide) (by decide) ⟨by decide, by decide⟩ ?_
        exact up2 (lc_order hN hb6 hI hw hl hk2)
      by_cases h8 : xs (6 * T + 0) &&& 63 = 8
      · refine rq_tsk (tg := 491) (off := 451) (v := 8) j0_40 h8 (by decide) (by decide) ⟨by decide, by decide⟩ ?_
        exact up2 (lc_mark hN hb6 hI hw hl hk2)
      by_cases h9 : xs (6 * T + 0) &&& 63 = 9
      · refine rq_tsk (tg := 540) (off := 500) (v := 9) j0_40 h9 (by decide) (by decide) ⟨by decide, by decide⟩ ?_
        exact up2 (lc_give hN hb6 hI hw hl hk2)
      by_cases h10 : xs (6 * T + 0) &&& 63 = 10
      · refine rq_tsk (tg := 565) (off := 525) (v := 10) j0_40 h10 (by decide) (by decide) ⟨by decide, by decide⟩ ?_
        exact up2 (lc_file hN hb6 hI hw hl hk2)
      by_cases h11 : xs (6 * T + 0) &&& 63 = 11
      · refine rq_tsk (tg := 590) (off := 550) (v := 11) j0_40 h11 (by decide) (by decide) ⟨by decide, by decide⟩ ?_
        exact up2 (lc_effective hN hb6 hI hw hl hk2)
      by_cases h12 : xs (6 * T + 0) &&& 63 = 12
      · refine rq_tsk (tg := 627) (off := 587) (v := 12) j0_40 h12 (by decide) (by decide) ⟨by decide, by decide⟩ ?_
        exact up2 (lc_whence hN hb6 hI hw hl hk2)
      by_cases h13 : xs (6 * T + 0) &&& 63 = 13
      · refine rq_tsk (tg := 676) (off := 636) (v := 13) j0_40 h13 (by decide) (by decide) ⟨by decide, by decide⟩ ?_
        exact up2 (lc_ask hN hb6 hI hw hl hk2)
      by_cases h14 : xs (6 * T + 0) &&& 63 = 14
      · refine rq_tsk (tg := 737) (off := 697) (v := 14) j0_40 h14 (by decide) (by decide) ⟨by decide, by decide⟩ ?_
        exact up2 (lc_markOf hN hb6 hI hw hl hk2)
      by_cases h15 : xs (6 * T + 0) &&& 63 = 15
      · refine rq_tsk (tg := 774) (off := 734) (v := 15) j0_40 h15 (by decide) (by decide) ⟨by decide, by decide⟩ ?_
        exact up2 (lc_rounds hN hb6 hI hw hl hk2)
      by_cases h16 : xs (6 * T + 0) &&& 63 = 16
      · refine rq_tsk (tg := 787) (off := 747) (v := 16) j0_40 h16 (by decide) (by decide) ⟨by decide, by decide⟩ ?_
        exact up2 (lc_flow hN hb6 hI hw hl hk2)
      by_cases h17 : xs (6 * T + 0) &&& 63 = 17
      · refine rq_tsk (tg := 812) (off := 772) (v := 17) j0_40 h17 (by decide) (by decide) ⟨by decide, by decide⟩ ?_
        exact up2 (lc_error hN hb6 hI hw hl hk2)
      by_cases h18 : xs (6 * T + 0) &&& 63 = 18
      · refine rq_tsk (tg := 849) (off := 809) (v := 18) j0_40 h18 (by decide) (by decide) ⟨by decide, by decide⟩ ?_
        exact up2 (lc_way hN hb6 hI hw hl hk2)
      by_cases h19 : xs (6 * T + 0) &&& 63 = 19
      · refine rq_tsk (tg := 874) (off := 834) (v := 19) j0_40 h19 (by decide) (by decide) ⟨by decide, by decide⟩ ?_
        exact up2 (lc_step hN hb6 hI hw hl hk2)
      by_cases h20 : xs (6 * T + 0) &&& 63 = 20
      · refine rq_tsk (tg := 899) (off := 859) (v := 20) j0_40 h20 (by decide) (by decide) ⟨by decide, by decide⟩ ?_
        exact up2 (lc_state hN hb6 hI hw hl hk2)
      by_cases h21 : xs (6 * T + 0) &&& 63 = 21
      · refine rq_tsk (tg := 948) (off := 908) (v := 21) j0_40 h21 (by decide) (by decide) ⟨by decide, by decide⟩ ?_
        exact up2 (lc_find hN hb6 hI hw hl hk2)
      by_cases h22 : xs (6 * T + 0) &&& 63 = 22
      · refine rq_tsk (tg := 973) (off := 933) (v := 22) j0_40 h22 (by decide) (by decide) ⟨by decide, by decide⟩ ?_
        exact up2 (lc_plain hN hb6 hI hw hl hk2)
      by_cases h23 : xs (6 * T + 0) &&& 63 = 23
      · refine rq_tsk (tg := 998) (off := 958) (v := 23) j0_40 h23 (by decide) (by decide) ⟨by decide, by decide⟩ ?_
        exact up2 (lc_weave hN hb6 hI hw hl hk2)
      by_cases h24 : xs (6 * T + 0) &&& 63 = 24
      · refine rq_tsk (tg := 1011) (off := 971) (v := 24) j0_40 h24 (by decide) (by decide) ⟨by decide, by decide⟩ ?_
        exact up2 (lc_code hN hb6 hI hw hl hk2)
      by_cases h25 : xs (6 * T + 0) &&& 63 = 25
      · refine rq_tsk (tg := 1064) (off := 1024) (v := 25) j0_40 h25 (by decide) (by decide) ⟨by decide, by decide⟩ ?_
        exact up2 (lc_argument hN hb6 hI hw hl hk2)
      by_cases h26 : xs (6 * T + 0) &&& 63 = 26
      · refine rq_tsk (tg := 1101) (off := 1061) (v := 26) j0_40 h26 (by decide) (by decide) ⟨by decide, by decide⟩ ?_
        exact up2 (lc_input hN hb6 hI hw hl hk2)
      by_cases h27 : xs (6 * T + 0) &&& 63 = 27
      · refine rq_tsk (tg := 1126) (off := 1086) (v := 27) j0_40 h27 (by decide) (by decide) ⟨by decide, by decide⟩ ?_
        exact up3 (lc_begin hN hb6 hI hw hl hk2)
      by_cases h28 : xs (6 * T + 0) &&& 63 = 28
      · refine rq_tsk (tg := 1190) (off := 1150) (v := 28) j0_40 h28 (by decide) (by decide) ⟨by decide, by decide⟩ ?_
        exact up3 (lc_go hN hb6 hI hw hl hk2)
      by_cases h29 : xs (6 * T + 0) &&& 63 = 29
      · refine rq_tsk (tg := 1246) (off := 1206) (v := 29) j0_40 h29 (by decide) (by decide) ⟨by decide, by decide⟩ ?_
        exact up2 (lc_run hN hb6 hI hw hl hk2)
      by_cases h30 : xs (6 * T + 0) &&& 63 = 30
      · refine rq_tsk (tg := 1271) (off := 1231) (v := 30) j0_40 h30 (by decide) (by decide) ⟨by decide, by decide⟩ ?_
        exact up2 (lc_truth hN hb6 hI hw hl hk2)
      by_cases h31 : xs (6 * T + 0) &&& 63 = 31
      · refine rq_tsk (tg := 1296) (off := 1256) (v := 31) j0_40 h31 (by decide) (by decide) ⟨by decide, by decide⟩ ?_
        exact up2 (lc_wire hN hb6 hI hw hl hk2)
      by_cases h32 : xs (6 * T + 0) &&& 63 = 32
      · refine rq_tsk (tg := 1309) (off := 1269) (v := 32) j0_40 h32 (by decide) (by decide) ⟨by decide, by decide⟩ ?_
        exact up2 (lc_wired hN hb6 hI hw hl hk2)
      refine rq_tsd (tg := 1334) j0_40 (rz_sw fun k k1 k2 => by
        have kk : k = 0 ∨ k = 1 ∨ k = 2 ∨ k = 3 ∨ k = 4 ∨ k = 5 ∨ k = 6 ∨ k = 7 ∨ k = 8 ∨ k = 9 ∨ k = 10 ∨ k = 11 ∨ k = 12 ∨ k = 13 ∨ k = 14 ∨ k = 15 ∨ k = 16 ∨ k = 17 ∨ k = 18 ∨ k = 19 ∨ k = 20 ∨ k = 21 ∨ k = 22 ∨ k = 23 ∨ k = 24 ∨ k = 25 ∨ k = 26 ∨ k = 27 ∨ k = 28 ∨ k = 29 ∨ k = 30 ∨ k = 31 ∨ k = 32 := by omega
        rcases kk with rfl | rfl | rfl | rfl | rfl | rfl | rfl | rfl | rfl | rfl | rfl | rfl | rfl | rfl | rfl | rfl | rfl | rfl | rfl | rfl | rfl | rfl | rfl | rfl | rfl | rfl | rfl | rfl | rfl | rfl | rfl | rfl | rfl
        · exact h0
        · exact h1
        · exact h2
        · exact h3
        · exact h4
        · exact h5
        · exact h6
        · exact h7
        · exact h8
        · exact h9
        · exact h10
        · exact h11
        · exact h12
        · exact h13
        · exact h14
        · exact h15
        · exact h16
        · exact h17
        · exact h18
        · exact h19
        · exact h20
        · exact h21
        · exact h22
        · exact h23
        · exact h24
        · exact h25
        · exact h26
        · exact h27
        · exact h28
        · exact h29
        · exact h30
        · exact h31
        · exact h32
        ) ⟨by decide, by decide⟩ ?_
      exact rq_mono (hk2 c u w lv (INV_up hI hT) hw hl) (by omega) (by omega) (fun _ _ z => z)
    · refine rq_icgt (tg := 1340) j0_30 ⟨by decide, by decide⟩ (fun _ => ?_) (fun q => absurd (lp_gt hN hI.1 (by omega)) q)
      refine rq_pure j0_1340 rfl ?_
      refine rq_topi (v := 1) (by decide) ?_
      exact rq_iret j0_1341 rt0 rfl rfl
end LPCS

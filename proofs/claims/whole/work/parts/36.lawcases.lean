theorem nI_small {v : Nat} (hv : v < 3) (h : nI v = 0) : v = 0 := by
  have h1 : (nI v).toInt = (v : Int) := nI_toI (by omega)
  rw [h, i32_0] at h1
  omega
theorem fail_0 {S : SS} {x y : Int32} (h : nI (sp_fail S x y).1 = 0) : (sp_fail S x y).1 = 0 := by
  refine nI_small ?_ h
  unfold sp_fail
  split
  · split
    · exact (by decide : 0 < 3)
    · exact (by decide : 2 < 3)
  · exact (by decide : 1 < 3)
theorem weight_0 {S : SS} {x y : Int32} (h : nI (sp_weight S x y).1 = 0) : (sp_weight S x y).1 = 0 := by
  refine nI_small ?_ h
  unfold sp_weight
  split
  · exact (by decide : 0 < 3)
  · exact (by decide : 1 < 3)
section Cases
variable {F : FX} {c : Nat → ClassId} {a : Nat → Nat} {o : Nat} {b : Nat → Nat} {μ : Me} {f : Nat → Int64} {τ : MM} {sb L : Nat} {xs : Nat → Int32} {k n i : Nat} {S : SS}
theorem x_ne0 (h : LC F c sb L xs) {wd : va_W} {lv : List (Nat × Value)} {st : List Value} {v : Int32} (g : XW F k n wd lv 729 (.int (bz (decide (v ≠ 0))) :: st)) : XW F k n wd lv 721 (.int v :: st) := by
  refine x_if_eq h.1 728 dL_law_721 rfl (fun q => ?_) (fun q => ?_)
  · refine x_iconst h.1 (v := nI 0) dL_law_728 rfl ?_
    have e : bz (decide (v ≠ 0)) = nI 0 := by rw [q]; rfl
    rw [e] at g
    exact g
  · refine x_iconst h.1 (v := nI 1) dL_law_724 rfl ?_
    refine x_goto h.1 729 dL_law_725 rfl ?_
    have e : bz (decide (v ≠ 0)) = nI 1 := by rw [decide_eq_true q]; rfl
    rw [e] at g
    exact g
theorem x_ne1 (h : LC F c sb L xs) {wd : va_W} {lv : List (Nat × Value)} {st : List Value} {v : Int32} (g : XW F k n wd lv 756 (.int (bz (decide (v ≠ 0))) :: st)) : XW F k n wd lv 748 (.int v :: st) := by
  refine x_if_eq h.1 755 dL_law_748 rfl (fun q => ?_) (fun q => ?_)
  · refine x_iconst h.1 (v := nI 0) dL_law_755 rfl ?_
    have e : bz (decide (v ≠ 0)) = nI 0 := by rw [q]; rfl
    rw [e] at g
    exact g
  · refine x_iconst h.1 (v := nI 1) dL_law_751 rfl ?_
    refine x_goto h.1 756 dL_law_752 rfl ?_
    have e : bz (decide (v ≠ 0)) = nI 1 := by rw [decide_eq_true q]; rfl
    rw [e] at g
    exact g
set_option maxHeartbeats 1000000 in
theorem la_0 (h : LC F c sb L xs) (hi : i + 3 < L) (hk : k + 1 ≤ 601024) (hn : n + 6 ≤ 7293033) (hI : XI μ S) (hM : MI τ S) (hV : SV S) (G : LG F c a o b sb i (k + 1) (n + 6)) : XW F k n (LW c a o b μ f τ) [(4, .int (nI i)), (3, .ref o), (2, .ref (b 0)), (1, .ref (a 0)), (0, .ref sb)] 39 [.int (nI 0)] := by
  refine x_tableIn h.1 180 dL_law_39 (by decide) (by decide) (off := 141) rfl rfl ?_
  refine x_aload_n h.1 3 rfl dL_law_180 ?_
  refine x_aload_n h.1 4 rfl dL_law_181 ?_
  refine x_iload h.1 0 rfl dL_law_182 ?_
  refine x_iconst h.1 (v := nI 1) dL_law_184 rfl ?_
  refine x_iaddE h.1 (nI_add i 1) dL_law_185 ?_
  refine x_sld h (j := i + 1) (by omega) dL_law_186 ?_
  refine x_lawX h cw_L_25 (c_X5_cells (l := fx_l F) (D := fx_D F) (c := c) (a := a) (x := xs (i + 1)) hI hV) (by decide) (by decide) dL_law_187 [] rfl (Nat.le_of_ble_eq_true rfl) rfl (by omega) (by omega) (fun r m hp => ?_)
  obtain ⟨rfl, hI1⟩ := hp
  refine x_aload_n h.1 2 rfl dL_law_190 ?_
  refine x_aload_n h.1 4 rfl dL_law_191 ?_
  refine x_iload h.1 0 rfl dL_law_192 ?_
  refine x_iconst h.1 (v := nI 1) dL_law_194 rfl ?_
  refine x_iaddE h.1 (nI_add i 1) dL_law_195 ?_
  refine x_sld h (j := i + 1) (by omega) dL_law_196 ?_
  refine x_lawM h cw_L_29 (c_X6_cells (l := fx_l F) (D := fx_D F) (c := c) (b := b) (x := xs (i + 1)) hM hV) (by decide) (by decide) dL_law_197 [.int (sp_cells S (xs (i + 1))).1] rfl (Nat.le_of_ble_eq_true rfl) rfl (by omega) (by omega) (fun r m hp => ?_)
  obtain ⟨rfl, hM1⟩ := hp
  refine x_icmp_eq_T h.1 1117 dL_law_200 rfl rfl ?_
  exact x_widen (Nat.le_add_right _ _) (Nat.le_add_right _ _) (G _ _ _ _ hI1 hM1 (V_cells (xs (i + 1)) hV))
set_option maxHeartbeats 1000000 in
theorem la_1 (h : LC F c sb L xs) (hi : i + 3 < L) (hk : k + 1 ≤ 601024) (hn : n + 6 ≤ 7293033) (hI : XI μ S) (hM : MI τ S) (hV : SV S) (G : LG F c a o b sb i (k + 1) (n + 6)) : XW F k n (LW c a o b μ f τ) [(4, .int (nI i)), (3, .ref o), (2, .ref (b 0)), (1, .ref (a 0)), (0, .ref sb)] 39 [.int (nI 1)] := by
  refine x_tableIn h.1 205 dL_law_39 (by decide) (by decide) (off := 166) rfl rfl ?_
  refine x_aload_n h.1 3 rfl dL_law_205 ?_
  refine x_aload_n h.1 4 rfl dL_law_206 ?_
  refine x_iload h.1 0 rfl dL_law_207 ?_
  refine x_iconst h.1 (v := nI 1) dL_law_209 rfl ?_
  refine x_iaddE h.1 (nI_add i 1) dL_law_210 ?_
  refine x_sld h (j := i + 1) (by omega) dL_law_211 ?_
  refine x_lawX h cw_L_30 (c_X5_chip (l := fx_l F) (D := fx_D F) (c := c) (a := a) (x := xs (i + 1)) hI hV) (by decide) (by decide) dL_law_212 [] rfl (Nat.le_of_ble_eq_true rfl) rfl (by omega) (by omega) (fun r m hp => ?_)
  obtain ⟨rfl, hI1⟩ := hp
  refine x_aload_n h.1 2 rfl dL_law_215 ?_
  refine x_aload_n h.1 4 rfl dL_law_216 ?_
  refine x_iload h.1 0 rfl dL_law_217 ?_
  refine x_iconst h.1 (v := nI 1) dL_law_219 rfl ?_
  refine x_iaddE h.1 (nI_add i 1) dL_law_220 ?_
  refine x_sld h (j := i + 1) (by omega) dL_law_221 ?_
  refine x_lawM h cw_L_33 (c_X6_chip (l := fx_l F) (D := fx_D F) (c := c) (b := b) (x := xs (i + 1)) hM hV) (by decide) (by decide) dL_law_222 [.int (sp_chip S (xs (i + 1))).1] rfl (Nat.le_of_ble_eq_true rfl) rfl (by omega) (by omega) (fun r m hp => ?_)
  obtain ⟨rfl, hM1⟩ := hp
  refine x_icmp_eq_T h.1 1117 dL_law_225 rfl rfl ?_
  exact x_widen (Nat.le_add_right _ _) (Nat.le_add_right _ _) (G _ _ _ _ hI1 hM1 (V_chip (xs (i + 1)) hV))
set_option maxHeartbeats 1000000 in
theorem la_2 (h : LC F c sb L xs) (hi : i + 3 < L) (hk : k + 1 ≤ 601024) (hn : n + 6 ≤ 7293033) (hI : XI μ S) (hM : MI τ S) (hV : SV S) (G : LG F c a o b sb i (k + 1) (n + 6)) : XW F k n (LW c a o b μ f τ) [(4, .int (nI i)), (3, .ref o), (2, .ref (b 0)), (1, .ref (a 0)), (0, .ref sb)] 39 [.int (nI 2)] := by
  refine x_tableIn h.1 230 dL_law_39 (by decide) (by decide) (off := 191) rfl rfl ?_
  refine x_aload_n h.1 3 rfl dL_law_230 ?_
  refine x_aload_n h.1 4 rfl dL_law_231 ?_
  refine x_iload h.1 0 rfl dL_law_232 ?_
  refine x_iconst h.1 (v := nI 1) dL_law_234 rfl ?_
  refine x_iaddE h.1 (nI_add i 1) dL_law_235 ?_
  refine x_sld h (j := i + 1) (by omega) dL_law_236 ?_
  refine x_aload_n h.1 4 rfl dL_law_237 ?_
  refine x_iload h.1 0 rfl dL_law_238 ?_
  refine x_iconst h.1 (v := nI 2) dL_law_240 rfl ?_
  refine x_iaddE h.1 (nI_add i 2) dL_law_241 ?_
  refine x_sld h (j := i + 2) (by omega) dL_law_242 ?_
  refine x_aload_n h.1 4 rfl dL_law_243 ?_
  refine x_iload h.1 0 rfl dL_law_244 ?_
  refine x_iconst h.1 (v := nI 3) dL_law_246 rfl ?_
  refine x_iaddE h.1 (nI_add i 3) dL_law_247 ?_
  refine x_sld h (j := i + 3) (by omega) dL_law_248 ?_
  refine x_lawX h cw_L_34 (c_X5_set (l := fx_l F) (D := fx_D F) (c := c) (a := a) (c0 := xs (i + 1)) (t := xs (i + 2)) (v := xs (i + 3)) hI hV) (by decide) (by decide) dL_law_249 [] rfl (Nat.le_of_ble_eq_true rfl) rfl (by omega) (by omega) (fun r m hp => ?_)
  obtain ⟨rfl, hI1⟩ := hp
  refine x_aload_n h.1 2 rfl dL_law_252 ?_
  refine x_aload_n h.1 4 rfl dL_law_253 ?_
  refine x_iload h.1 0 rfl dL_law_254 ?_
  refine x_iconst h.1 (v := nI 1) dL_law_256 rfl ?_
  refine x_iaddE h.1 (nI_add i 1) dL_law_257 ?_
  refine x_sld h (j := i + 1) (by omega) dL_law_258 ?_
  refine x_aload_n h.1 4 rfl dL_law_259 ?_
  refine x_iload h.1 0 rfl dL_law_260 ?_
  refine x_iconst h.1 (v := nI 2) dL_law_262 rfl ?_
  refine x_iaddE h.1 (nI_add i 2) dL_law_263 ?_
  refine x_sld h (j := i + 2) (by omega) dL_law_264 ?_
  refine x_aload_n h.1 4 rfl dL_law_265 ?_
  refine x_iload h.1 0 rfl dL_law_266 ?_
  refine x_iconst h.1 (v := nI 3) dL_law_268 rfl ?_
  refine x_iaddE h.1 (nI_add i 3) dL_law_269 ?_
  refine x_sld h (j := i + 3) (by omega) dL_law_270 ?_
  refine x_lawM h cw_L_38 (c_X6_set (l := fx_l F) (D := fx_D F) (c := c) (b := b) (c0 := xs (i + 1)) (t := xs (i + 2)) (v := xs (i + 3)) hM hV) (by decide) (by decide) dL_law_271 [.int (sp_set S (xs (i + 1)) (xs (i + 2)) (xs (i + 3))).1] rfl (Nat.le_of_ble_eq_true rfl) rfl (by omega) (by omega) (fun r m hp => ?_)
  obtain ⟨rfl, hM1⟩ := hp
  refine x_icmp_eq_T h.1 1117 dL_law_274 rfl rfl ?_
  exact x_widen (Nat.le_add_right _ _) (Nat.le_add_right _ _) (G _ _ _ _ hI1 hM1 (V_set (xs (i + 1)) (xs (i + 2)) (xs (i + 3)) hV))
set_option maxHeartbeats 1000000 in
theorem la_3 (h : LC F c sb L xs) (hi : i + 3 < L) (hk : k + 1 ≤ 601024) (hn : n + 6 ≤ 7293033) (hI : XI μ S) (hM : MI τ S) (hV : SV S) (G : LG F c a o b sb i (k + 1) (n + 6)) : XW F k n (LW c a o b μ f τ) [(4, .int (nI i)), (3, .ref o), (2, .ref (b 0)), (1, .ref (a 0)), (0, .ref sb)] 39 [.int (nI 3)] := by
  refine x_tableIn h.1 279 dL_law_39 (by decide) (by decide) (off := 240) rfl rfl ?_
  refine x_aload_n h.1 3 rfl dL_law_279 ?_
  refine x_aload_n h.1 4 rfl dL_law_280 ?_
  refine x_iload h.1 0 rfl dL_law_281 ?_
  refine x_iconst h.1 (v := nI 1) dL_law_283 rfl ?_
  refine x_iaddE h.1 (nI_add i 1) dL_law_284 ?_
  refine x_sld h (j := i + 1) (by omega) dL_law_285 ?_
  refine x_aload_n h.1 4 rfl dL_law_286 ?_
  refine x_iload h.1 0 rfl dL_law_287 ?_
  refine x_iconst h.1 (v := nI 2) dL_law_289 rfl ?_
  refine x_iaddE h.1 (nI_add i 2) dL_law_290 ?_
  refine x_sld h (j := i + 2) (by omega) dL_law_291 ?_
  refine x_lawX h cw_L_39 (c_X5_chance (l := fx_l F) (D := fx_D F) (c := c) (a := a) (x := xs (i + 1)) (age := xs (i + 2)) hI hV) (by decide) (by decide) dL_law_292 [] rfl (Nat.le_of_ble_eq_true rfl) rfl (by omega) (by omega) (fun r m hp => ?_)
  obtain ⟨rfl, hI1⟩ := hp
  refine x_aload_n h.1 2 rfl dL_law_295 ?_
  refine x_aload_n h.1 4 rfl dL_law_296 ?_
  refine x_iload h.1 0 rfl dL_law_297 ?_
  refine x_iconst h.1 (v := nI 1) dL_law_299 rfl ?_
  refine x_iaddE h.1 (nI_add i 1) dL_law_300 ?_
  refine x_sld h (j := i + 1) (by omega) dL_law_301 ?_
  refine x_aload_n h.1 4 rfl dL_law_302 ?_
  refine x_iload h.1 0 rfl dL_law_303 ?_
  refine x_iconst h.1 (v := nI 2) dL_law_305 rfl ?_
  refine x_iaddE h.1 (nI_add i 2) dL_law_306 ?_
  refine x_sld h (j := i + 2) (by omega) dL_law_307 ?_
  refine x_lawM h cw_L_43 (c_X6_chance (l := fx_l F) (D := fx_D F) (c := c) (b := b) (x := xs (i + 1)) (age := xs (i + 2)) hM hV) (by decide) (by decide) dL_law_308 [.int (sp_chance S (xs (i + 1)) (xs (i + 2))).1] rfl (Nat.le_of_ble_eq_true rfl) rfl (by omega) (by omega) (fun r m hp => ?_)
  obtain ⟨rfl, hM1⟩ := hp
  refine x_icmp_eq_T h.1 1117 dL_law_311 rfl rfl ?_
  exact x_widen (Nat.le_add_right _ _) (Nat.le_add_right _ _) (G _ _ _ _ hI1 hM1 (V_chance (xs (i + 1)) (xs (i + 2)) hV))
set_option maxHeartbeats 1000000 in
theorem la_4 (h : LC F c sb L xs) (hi : i + 3 < L) (hk : k + 1 ≤ 601024) (hn : n + 6 ≤ 7293033) (hI : XI μ S) (hM : MI τ S) (hV : SV S) (G : LG F c a o b sb i (k + 1) (n + 6)) : XW F k n (LW c a o b μ f τ) [(4, .int (nI i)), (3, .ref o), (2, .ref (b 0)), (1, .ref (a 0)), (0, .ref sb)] 39 [.int (nI 4)] := by
  refine x_tableIn h.1 316 dL_law_39 (by decide) (by decide) (off := 277) rfl rfl ?_
  refine x_aload_n h.1 3 rfl dL_law_316 ?_
  refine x_aload_n h.1 4 rfl dL_law_317 ?_
  refine x_iload h.1 0 rfl dL_law_318 ?_
  refine x_iconst h.1 (v := nI 1) dL_law_320 rfl ?_
  refine x_iaddE h.1 (nI_add i 1) dL_law_321 ?_
  refine x_sld h (j := i + 1) (by omega) dL_law_322 ?_
  refine x_lawX h cw_L_44 (c_X5_mask (l := fx_l F) (D := fx_D F) (c := c) (a := a) (x := xs (i + 1)) hI hV) (by decide) (by decide) dL_law_323 [] rfl (Nat.le_of_ble_eq_true rfl) rfl (by omega) (by omega) (fun r m hp => ?_)
  obtain ⟨rfl, hI1⟩ := hp
  refine x_aload_n h.1 2 rfl dL_law_326 ?_
  refine x_aload_n h.1 4 rfl dL_law_327 ?_
  refine x_iload h.1 0 rfl dL_law_328 ?_
  refine x_iconst h.1 (v := nI 1) dL_law_330 rfl ?_
  refine x_iaddE h.1 (nI_add i 1) dL_law_331 ?_
  refine x_sld h (j := i + 1) (by omega) dL_law_332 ?_
  refine x_lawM h cw_L_47 (c_X6_mask (l := fx_l F) (D := fx_D F) (c := c) (b := b) (x := xs (i + 1)) hM hV) (by decide) (by decide) dL_law_333 [.int (sp_mask S (xs (i + 1))).1] rfl (Nat.le_of_ble_eq_true rfl) rfl (by omega) (by omega) (fun r m hp => ?_)
  obtain ⟨rfl, hM1⟩ := hp
  refine x_icmp_eq_T h.1 1117 dL_law_336 rfl rfl ?_
  exact x_widen (Nat.le_add_right _ _) (Nat.le_add_right _ _) (G _ _ _ _ hI1 hM1 (V_mask (xs (i + 1)) hV))
set_option maxHeartbeats 1000000 in
theorem la_5 (h : LC F c sb L xs) (hi : i + 3 < L) (hk : k + 1 ≤ 601024) (hn : n + 6 ≤ 7293033) (hI : XI μ S) (hM : MI τ S) (hV : SV S) (G : LG F c a o b sb i (k + 1) (n + 6)) : XW F k n (LW c a o b μ f τ) [(4, .int (nI i)), (3, .ref o), (2, .ref (b 0)), (1, .ref (a 0)), (0, .ref sb)] 39 [.int (nI 5)] := by
  refine x_tableIn h.1 341 dL_law_39 (by decide) (by decide) (off := 302) rfl rfl ?_
  refine x_aload_n h.1 3 rfl dL_law_341 ?_
  refine x_aload_n h.1 4 rfl dL_law_342 ?_
  refine x_iload h.1 0 rfl dL_law_343 ?_
  refine x_iconst h.1 (v := nI 1) dL_law_345 rfl ?_
  refine x_iaddE h.1 (nI_add i 1) dL_law_346 ?_
  refine x_sld h (j := i + 1) (by omega) dL_law_347 ?_
  refine x_aload_n h.1 4 rfl dL_law_348 ?_
  refine x_iload h.1 0 rfl dL_law_349 ?_
  refine x_iconst h.1 (v := nI 2) dL_law_351 rfl ?_
  refine x_iaddE h.1 (nI_add i 2) dL_law_352 ?_
  refine x_sld h (j := i + 2) (by omega) dL_law_353 ?_
  refine x_lawX h cw_L_48 (c_X5_maskBy (l := fx_l F) (D := fx_D F) (c := c) (a := a) (age := xs (i + 1)) (most := xs (i + 2)) hI hV) (by decide) (by decide) dL_law_354 [] rfl (Nat.le_of_ble_eq_true rfl) rfl (by omega) (by omega) (fun r m hp => ?_)
  obtain ⟨rfl, hI1⟩ := hp
  refine x_aload_n h.1 2 rfl dL_law_357 ?_
  refine x_aload_n h.1 4 rfl dL_law_358 ?_
  refine x_iload h.1 0 rfl dL_law_359 ?_
  refine x_iconst h.1 (v := nI 1) dL_law_361 rfl ?_
  refine x_iaddE h.1 (nI_add i 1) dL_law_362 ?_
  refine x_sld h (j := i + 1) (by omega) dL_law_363 ?_
  refine x_aload_n h.1 4 rfl dL_law_364 ?_
  refine x_iload h.1 0 rfl dL_law_365 ?_
  refine x_iconst h.1 (v := nI 2) dL_law_367 rfl ?_
  refine x_iaddE h.1 (nI_add i 2) dL_law_368 ?_
  refine x_sld h (j := i + 2) (by omega) dL_law_369 ?_
  refine x_lawM h cw_L_51 (c_X6_maskBy (l := fx_l F) (D := fx_D F) (c := c) (b := b) (age := xs (i + 1)) (most := xs (i + 2)) hM hV) (by decide) (by decide) dL_law_370 [.int (sp_maskBy S (xs (i + 1)) (xs (i + 2))).1] rfl (Nat.le_of_ble_eq_true rfl) rfl (by omega) (by omega) (fun r m hp => ?_)
  obtain ⟨rfl, hM1⟩ := hp
  refine x_icmp_eq_T h.1 1117 dL_law_373 rfl rfl ?_
  exact x_widen (Nat.le_add_right _ _) (Nat.le_add_right _ _) (G _ _ _ _ hI1 hM1 (V_maskBy (xs (i + 1)) (xs (i + 2)) hV))
set_option maxHeartbeats 1000000 in
theorem la_6 (h : LC F c sb L xs) (hi : i + 3 < L) (hk : k + 1 ≤ 601024) (hn : n + 6 ≤ 7293033) (hI : XI μ S) (hM : MI τ S) (hV : SV S) (G : LG F c a o b sb i (k + 1) (n + 6)) : XW F k n (LW c a o b μ f τ) [(4, .int (nI i)), (3, .ref o), (2, .ref (b 0)), (1, .ref (a 0)), (0, .ref sb)] 39 [.int (nI 6)] := by
  refine x_tableIn h.1 378 dL_law_39 (by decide) (by decide) (off := 339) rfl rfl ?_
  refine x_aload_n h.1 3 rfl dL_law_378 ?_
  refine x_aload_n h.1 4 rfl dL_law_379 ?_
  refine x_iload h.1 0 rfl dL_law_380 ?_
  refine x_iconst h.1 (v := nI 1) dL_law_382 rfl ?_
  refine x_iaddE h.1 (nI_add i 1) dL_law_383 ?_
  refine x_sld h (j := i + 1) (by omega) dL_law_384 ?_
  refine x_lawX h cw_L_52 (c_X5_row (l := fx_l F) (D := fx_D F) (c := c) (a := a) (x := xs (i + 1)) hI hV) (by decide) (by decide) dL_law_385 [] rfl (Nat.le_of_ble_eq_true rfl) rfl (by omega) (by omega) (fun r m hp => ?_)
  obtain ⟨rfl, hI1⟩ := hp
  refine x_aload_n h.1 2 rfl dL_law_388 ?_
  refine x_aload_n h.1 4 rfl dL_law_389 ?_
  refine x_iload h.1 0 rfl dL_law_390 ?_
  refine x_iconst h.1 (v := nI 1) dL_law_392 rfl ?_
  refine x_iaddE h.1 (nI_add i 1) dL_law_393 ?_
  refine x_sld h (j := i + 1) (by omega) dL_law_394 ?_
  refine x_lawM h cw_L_55 (c_X6_row (l := fx_l F) (D := fx_D F) (c := c) (b := b) (x := xs (i + 1)) hM hV) (by decide) (by decide) dL_law_395 [.int (sp_row S (xs (i + 1))).1] rfl (Nat.le_of_ble_eq_true rfl) rfl (by omega) (by omega) (fun r m hp => ?_)
  obtain ⟨rfl, hM1⟩ := hp
  refine x_icmp_eq_T h.1 1117 dL_law_398 rfl rfl ?_
  exact x_widen (Nat.le_add_right _ _) (Nat.le_add_right _ _) (G _ _ _ _ hI1 hM1 (V_row (xs (i + 1)) hV))
set_option maxHeartbeats 1000000 in
theorem la_7 (h : LC F c sb L xs) (hi : i + 3 < L) (hk : k + 1 ≤ 601024) (hn : n + 6 ≤ 7293033) (hI : XI μ S) (hM : MI τ S) (hV : SV S) (G : LG F c a o b sb i (k + 1) (n + 6)) : XW F k n (LW c a o b μ f τ) [(4, .int (nI i)), (3, .ref o), (2, .ref (b 0)), (1, .ref (a 0)), (0, .ref sb)] 39 [.int (nI 7)] := by
  refine x_tableIn h.1 403 dL_law_39 (by decide) (by decide) (off := 364) rfl rfl ?_
  refine x_aload_n h.1 3 rfl dL_law_403 ?_
  refine x_lawX h cw_L_56 (c_X5_distance (l := fx_l F) (D := fx_D F) (c := c) (a := a)  hI hV) (by decide) (by decide) dL_law_404 [] rfl (Nat.le_of_ble_eq_true rfl) rfl (by omega) (by omega) (fun r m hp => ?_)
  obtain ⟨rfl, hI1⟩ := hp
  refine x_aload_n h.1 2 rfl dL_law_407 ?_
  refine x_lawM h cw_L_60 (c_X6_distance (l := fx_l F) (D := fx_D F) (c := c) (b := b)  hM hV) (by decide) (by decide) dL_law_408 [.int (sp_distance S ).1] rfl (Nat.le_of_ble_eq_true rfl) rfl (by omega) (by omega) (fun r m hp => ?_)
  obtain ⟨rfl, hM1⟩ := hp
  refine x_icmp_eq_T h.1 1117 dL_law_411 rfl rfl ?_
  exact x_widen (Nat.le_add_right _ _) (Nat.le_add_right _ _) (G _ _ _ _ hI1 hM1 (V_distance  hV))
set_option maxHeartbeats 1000000 in
theorem la_8 (h : LC F c sb L xs) (hi : i + 3 < L) (hk : k + 1 ≤ 601024) (hn : n + 6 ≤ 7293033) (hI : XI μ S) (hM : MI τ S) (hV : SV S) (G : LG F c a o b sb i (k + 1) (n + 6)) : XW F k n (LW c a o b μ f τ) [(4, .int (nI i)), (3, .ref o), (2, .ref (b 0)), (1, .ref (a 0)), (0, .ref sb)] 39 [.int (nI 8)] := by
  refine x_tableIn h.1 416 dL_law_39 (by decide) (by decide) (off := 377) rfl rfl ?_
  refine x_aload_n h.1 3 rfl dL_law_416 ?_
  refine x_aload_n h.1 4 rfl dL_law_417 ?_
  refine x_iload h.1 0 rfl dL_law_418 ?_
  refine x_iconst h.1 (v := nI 1) dL_law_420 rfl ?_
  refine x_iaddE h.1 (nI_add i 1) dL_law_421 ?_
  refine x_sld h (j := i + 1) (by omega) dL_law_422 ?_
  refine x_lawX h cw_L_61 (c_X5_codeword (l := fx_l F) (D := fx_D F) (c := c) (a := a) (x := xs (i + 1)) hI hV) (by decide) (by decide) dL_law_423 [] rfl (Nat.le_of_ble_eq_true rfl) rfl (by omega) (by omega) (fun r m hp => ?_)
  obtain ⟨rfl, hI1⟩ := hp
  refine x_aload_n h.1 2 rfl dL_law_426 ?_
  refine x_aload_n h.1 4 rfl dL_law_427 ?_
  refine x_iload h.1 0 rfl dL_law_428 ?_
  refine x_iconst h.1 (v := nI 1) dL_law_430 rfl ?_
  refine x_iaddE h.1 (nI_add i 1) dL_law_431 ?_
  refine x_sld h (j := i + 1) (by omega) dL_law_432 ?_
  refine x_lawM h cw_L_64 (c_X6_codeword (l := fx_l F) (D := fx_D F) (c := c) (b := b) (x := xs (i + 1)) hM hV) (by decide) (by decide) dL_law_433 [.int (sp_codeword S (xs (i + 1))).1] rfl (Nat.le_of_ble_eq_true rfl) rfl (by omega) (by omega) (fun r m hp => ?_)
  obtain ⟨rfl, hM1⟩ := hp
  refine x_icmp_eq_T h.1 1117 dL_law_436 rfl rfl ?_
  exact x_widen (Nat.le_add_right _ _) (Nat.le_add_right _ _) (G _ _ _ _ hI1 hM1 (V_codeword (xs (i + 1)) hV))
set_option maxHeartbeats 1000000 in
theorem la_9 (h : LC F c sb L xs) (hi : i + 3 < L) (hk : k + 1 ≤ 601024) (hn : n + 6 ≤ 7293033) (hI : XI μ S) (hM : MI τ S) (hV : SV S) (G : LG F c a o b sb i (k + 1) (n + 6)) : XW F k n (LW c a o b μ f τ) [(4, .int (nI i)), (3, .ref o), (2, .ref (b 0)), (1, .ref (a 0)), (0, .ref sb)] 39 [.int (nI 9)] := by
  refine x_tableIn h.1 441 dL_law_39 (by decide) (by decide) (off := 402) rfl rfl ?_
  refine x_aload_n h.1 3 rfl dL_law_441 ?_
  refine x_aload_n h.1 4 rfl dL_law_442 ?_
  refine x_iload h.1 0 rfl dL_law_443 ?_
  refine x_iconst h.1 (v := nI 1) dL_law_445 rfl ?_
  refine x_iaddE h.1 (nI_add i 1) dL_law_446 ?_
  refine x_sld h (j := i + 1) (by omega) dL_law_447 ?_
  refine x_lawX h cw_L_65 (c_X5_mended (l := fx_l F) (D := fx_D F) (c := c) (a := a) (x := xs (i + 1)) hI hV) (by decide) (by decide) dL_law_448 [] rfl (Nat.le_of_ble_eq_true rfl) rfl (by omega) (by omega) (fun r m hp => ?_)
  obtain ⟨rfl, hI1⟩ := hp
  refine x_aload_n h.1 2 rfl dL_law_451 ?_
  refine x_aload_n h.1 4 rfl dL_law_452 ?_
  refine x_iload h.1 0 rfl dL_law_453 ?_
  refine x_iconst h.1 (v := nI 1) dL_law_455 rfl ?_
  refine x_iaddE h.1 (nI_add i 1) dL_law_456 ?_
  refine x_sld h (j := i + 1) (by omega) dL_law_457 ?_
  refine x_lawM h cw_L_68 (c_X6_mended (l := fx_l F) (D := fx_D F) (c := c) (b := b) (x := xs (i + 1)) hM hV) (by decide) (by decide) dL_law_458 [.int (sp_mended S (xs (i + 1))).1] rfl (Nat.le_of_ble_eq_true rfl) rfl (by omega) (by omega) (fun r m hp => ?_)
  obtain ⟨rfl, hM1⟩ := hp
  refine x_icmp_eq_T h.1 1117 dL_law_461 rfl rfl ?_
  exact x_widen (Nat.le_add_right _ _) (Nat.le_add_right _ _) (G _ _ _ _ hI1 hM1 (V_mended (xs (i + 1)) hV))
set_option maxHeartbeats 1000000 in
theorem la_10 (h : LC F c sb L xs) (hi : i + 3 < L) (hk : k + 1 ≤ 601024) (hn : n + 6 ≤ 7293033) (hI : XI μ S) (hM : MI τ S) (hV : SV S) (G : LG F c a o b sb i (k + 1) (n + 6)) : XW F k n (LW c a o b μ f τ) [(4, .int (nI i)), (3, .ref o), (2, .ref (b 0)), (1, .ref (a 0)), (0, .ref sb)] 39 [.int (nI 10)] := by
  refine x_tableIn h.1 466 dL_law_39 (by decide) (by decide) (off := 427) rfl rfl ?_
  refine x_aload_n h.1 3 rfl dL_law_466 ?_
  refine x_aload_n h.1 4 rfl dL_law_467 ?_
  refine x_iload h.1 0 rfl dL_law_468 ?_
  refine x_iconst h.1 (v := nI 1) dL_law_470 rfl ?_
  refine x_iaddE h.1 (nI_add i 1) dL_law_471 ?_
  refine x_sld h (j := i + 1) (by omega) dL_law_472 ?_
  refine x_lawX h cw_L_69 (c_X5_clear (l := fx_l F) (D := fx_D F) (c := c) (a := a) (x := xs (i + 1)) hI hV) (by decide) (by decide) dL_law_473 [] rfl (Nat.le_of_ble_eq_true rfl) rfl (by omega) (by omega) (fun r m hp => ?_)
  obtain ⟨rfl, hI1⟩ := hp
  refine x_aload_n h.1 2 rfl dL_law_476 ?_
  refine x_aload_n h.1 4 rfl dL_law_477 ?_
  refine x_iload h.1 0 rfl dL_law_478 ?_
  refine x_iconst h.1 (v := nI 1) dL_law_480 rfl ?_
  refine x_iaddE h.1 (nI_add i 1) dL_law_481 ?_
  refine x_sld h (j := i + 1) (by omega) dL_law_482 ?_
  refine x_lawM h cw_L_72 (c_X6_clear (l := fx_l F) (D := fx_D F) (c := c) (b := b) (x := xs (i + 1)) hM hV) (by decide) (by decide) dL_law_483 [.int (sp_clear S (xs (i + 1))).1] rfl (Nat.le_of_ble_eq_true rfl) rfl (by omega) (by omega) (fun r m hp => ?_)
  obtain ⟨rfl, hM1⟩ := hp
  refine x_icmp_eq_T h.1 1117 dL_law_486 rfl rfl ?_
  exact x_widen (Nat.le_add_right _ _) (Nat.le_add_right _ _) (G _ _ _ _ hI1 hM1 (V_clear (xs (i + 1)) hV))
set_option maxHeartbeats 1000000 in
theorem la_11 (h : LC F c sb L xs) (hi : i + 3 < L) (hk : k + 1 ≤ 601024) (hn : n + 6 ≤ 7293033) (hI : XI μ S) (hM : MI τ S) (hV : SV S) (G : LG F c a o b sb i (k + 1) (n + 6)) : XW F k n (LW c a o b μ f τ) [(4, .int (nI i)), (3, .ref o), (2, .ref (b 0)), (1, .ref (a 0)), (0, .ref sb)] 39 [.int (nI 11)] := by
  refine x_tableIn h.1 491 dL_law_39 (by decide) (by decide) (off := 452) rfl rfl ?_
  refine x_aload_n h.1 3 rfl dL_law_491 ?_
  refine x_aload_n h.1 4 rfl dL_law_492 ?_
  refine x_iload h.1 0 rfl dL_law_493 ?_
  refine x_iconst h.1 (v := nI 1) dL_law_495 rfl ?_
  refine x_iaddE h.1 (nI_add i 1) dL_law_496 ?_
  refine x_sld h (j := i + 1) (by omega) dL_law_497 ?_
  refine x_aload_n h.1 4 rfl dL_law_498 ?_
  refine x_iload h.1 0 rfl dL_law_499 ?_
  refine x_iconst h.1 (v := nI 2) dL_law_501 rfl ?_
  refine x_iaddE h.1 (nI_add i 2) dL_law_502 ?_
  refine x_sld h (j := i + 2) (by omega) dL_law_503 ?_
  refine x_lawX h cw_L_73 (c_X5_enrol (l := fx_l F) (D := fx_D F) (c := c) (a := a) (x := xs (i + 1)) (key := xs (i + 2)) hI hV) (by decide) (by decide) dL_law_504 [] rfl (Nat.le_of_ble_eq_true rfl) rfl (by omega) (by omega) (fun r m hp => ?_)
  obtain ⟨rfl, hI1⟩ := hp
  refine x_aload_n h.1 2 rfl dL_law_507 ?_
  refine x_aload_n h.1 4 rfl dL_law_508 ?_
  refine x_iload h.1 0 rfl dL_law_509 ?_
  refine x_iconst h.1 (v := nI 1) dL_law_511 rfl ?_
  refine x_iaddE h.1 (nI_add i 1) dL_law_512 ?_
  refine x_sld h (j := i + 1) (by omega) dL_law_513 ?_
  refine x_aload_n h.1 4 rfl dL_law_514 ?_
  refine x_iload h.1 0 rfl dL_law_515 ?_
  refine x_iconst h.1 (v := nI 2) dL_law_517 rfl ?_
  refine x_iaddE h.1 (nI_add i 2) dL_law_518 ?_
  refine x_sld h (j := i + 2) (by omega) dL_law_519 ?_
  refine x_lawM h cw_L_76 (c_X6_enrol (l := fx_l F) (D := fx_D F) (c := c) (b := b) (x := xs (i + 1)) (key := xs (i + 2)) hM hV) (by decide) (by decide) dL_law_520 [.int (sp_enrol S (xs (i + 1)) (xs (i + 2))).1] rfl (Nat.le_of_ble_eq_true rfl) rfl (by omega) (by omega) (fun r m hp => ?_)
  obtain ⟨rfl, hM1⟩ := hp
  refine x_icmp_eq_T h.1 1117 dL_law_523 rfl rfl ?_
  exact x_widen (Nat.le_add_right _ _) (Nat.le_add_right _ _) (G _ _ _ _ hI1 hM1 (V_enrol (xs (i + 1)) (xs (i + 2)) hV))
set_option maxHeartbeats 1000000 in
theorem la_12 (h : LC F c sb L xs) (hi : i + 3 < L) (hk : k + 1 ≤ 601024) (hn : n + 6 ≤ 7293033) (hI : XI μ S) (hM : MI τ S) (hV : SV S) (G : LG F c a o b sb i (k + 1) (n + 6)) : XW F k n (LW c a o b μ f τ) [(4, .int (nI i)), (3, .ref o), (2, .ref (b 0)), (1, .ref (a 0)), (0, .ref sb)] 39 [.int (nI 12)] := by
  refine x_tableIn h.1 528 dL_law_39 (by decide) (by decide) (off := 489) rfl rfl ?_
  refine x_aload_n h.1 3 rfl dL_law_528 ?_
  refine x_aload_n h.1 4 rfl dL_law_529 ?_
  refine x_iload h.1 0 rfl dL_law_530 ?_
  refine x_iconst h.1 (v := nI 1) dL_law_532 rfl ?_
  refine x_iaddE h.1 (nI_add i 1) dL_law_533 ?_
  refine x_sld h (j := i + 1) (by omega) dL_law_534 ?_
  refine x_aload_n h.1 4 rfl dL_law_535 ?_
  refine x_iload h.1 0 rfl dL_law_536 ?_
  refine x_iconst h.1 (v := nI 2) dL_law_538 rfl ?_
  refine x_iaddE h.1 (nI_add i 2) dL_law_539 ?_
  refine x_sld h (j := i + 2) (by omega) dL_law_540 ?_
  refine x_lawX h cw_L_77 (c_X5_reading (l := fx_l F) (D := fx_D F) (c := c) (a := a) (x := xs (i + 1)) (w := xs (i + 2)) hI hV) (by decide) (by decide) dL_law_541 [] rfl (Nat.le_of_ble_eq_true rfl) rfl (by omega) (by omega) (fun r m hp => ?_)
  obtain ⟨rfl, hI1⟩ := hp
  refine x_aload_n h.1 2 rfl dL_law_544 ?_
  refine x_aload_n h.1 4 rfl dL_law_545 ?_
  refine x_iload h.1 0 rfl dL_law_546 ?_
  refine x_iconst h.1 (v := nI 1) dL_law_548 rfl ?_
  refine x_iaddE h.1 (nI_add i 1) dL_law_549 ?_
  refine x_sld h (j := i + 1) (by omega) dL_law_550 ?_
  refine x_aload_n h.1 4 rfl dL_law_551 ?_
  refine x_iload h.1 0 rfl dL_law_552 ?_
  refine x_iconst h.1 (v := nI 2) dL_law_554 rfl ?_
  refine x_iaddE h.1 (nI_add i 2) dL_law_555 ?_
  refine x_sld h (j := i + 2) (by omega) dL_law_556 ?_
  refine x_lawM h cw_L_80 (c_X6_reading (l := fx_l F) (D := fx_D F) (c := c) (b := b) (x := xs (i + 1)) (w := xs (i + 2)) hM hV) (by decide) (by decide) dL_law_557 [.int (sp_reading S (xs (i + 1)) (xs (i + 2))).1] rfl (Nat.le_of_ble_eq_true rfl) rfl (by omega) (by omega) (fun r m hp => ?_)
  obtain ⟨rfl, hM1⟩ := hp
  refine x_icmp_eq_T h.1 1117 dL_law_560 rfl rfl ?_
  exact x_widen (Nat.le_add_right _ _) (Nat.le_add_right _ _) (G _ _ _ _ hI1 hM1 (V_reading (xs (i + 1)) (xs (i + 2)) hV))
set_option maxHeartbeats 1000000 in
theorem la_14 (h : LC F c sb L xs) (hi : i + 3 < L) (hk : k + 1 ≤ 601024) (hn : n + 6 ≤ 7293033) (hI : XI μ S) (hM : MI τ S) (hV : SV S) (G : LG F c a o b sb i (k + 1) (n + 6)) : XW F k n (LW c a o b μ f τ) [(4, .int (nI i)), (3, .ref o), (2, .ref (b 0)), (1, .ref (a 0)), (0, .ref sb)] 39 [.int (nI 14)] := by
  refine x_tableIn h.1 632 dL_law_39 (by decide) (by decide) (off := 593) rfl rfl ?_
  refine x_aload_n h.1 3 rfl dL_law_632 ?_
  refine x_lawXL h cw_L_90 (c_X5_all (l := fx_l F) (D := fx_D F) (c := c) (a := a)  hI hV) (by decide) (by decide) dL_law_633 [] rfl (Nat.le_of_ble_eq_true rfl) rfl (by omega) (by omega) (fun r m hp => ?_)
  obtain ⟨rfl, rfl⟩ := hp
  refine x_aload_n h.1 2 rfl dL_law_636 ?_
  refine x_lawML h cw_L_94 (c_X6_all (l := fx_l F) (D := fx_D F) (c := c) (b := b)  hM hV) (by decide) (by decide) dL_law_637 [.long (sp_all S)] rfl (Nat.le_of_ble_eq_true rfl) rfl (by omega) (by omega) (fun r m hp => ?_)
  obtain ⟨rfl, rfl⟩ := hp
  refine x_lcmp h.1 dL_law_640 ?_
  refine x_if_eq_T h.1 1117 dL_law_641 rfl (lcmp_self rfl) ?_
  exact x_widen (Nat.le_add_right _ _) (Nat.le_add_right _ _) (G _ _ _ _ hI hM hV)
set_option maxHeartbeats 1000000 in
theorem la_15 (h : LC F c sb L xs) (hi : i + 3 < L) (hk : k + 1 ≤ 601024) (hn : n + 6 ≤ 7293033) (hI : XI μ S) (hM : MI τ S) (hV : SV S) (G : LG F c a o b sb i (k + 1) (n + 6)) : XW F k n (LW c a o b μ f τ) [(4, .int (nI i)), (3, .ref o), (2, .ref (b 0)), (1, .ref (a 0)), (0, .ref sb)] 39 [.int (nI 15)] := by
  refine x_tableIn h.1 646 dL_law_39 (by decide) (by decide) (off := 607) rfl rfl ?_
  refine x_aload_n h.1 3 rfl dL_law_646 ?_
  refine x_aload_n h.1 4 rfl dL_law_647 ?_
  refine x_iload h.1 0 rfl dL_law_648 ?_
  refine x_iconst h.1 (v := nI 1) dL_law_650 rfl ?_
  refine x_iaddE h.1 (nI_add i 1) dL_law_651 ?_
  refine x_sld h (j := i + 1) (by omega) dL_law_652 ?_
  refine x_aload_n h.1 4 rfl dL_law_653 ?_
  refine x_iload h.1 0 rfl dL_law_654 ?_
  refine x_iconst h.1 (v := nI 2) dL_law_656 rfl ?_
  refine x_iaddE h.1 (nI_add i 2) dL_law_657 ?_
  refine x_sld h (j := i + 2) (by omega) dL_law_658 ?_
  refine x_lawX h cw_L_95 (c_X5_lasts (l := fx_l F) (D := fx_D F) (c := c) (a := a) (x := xs (i + 1)) (e := xs (i + 2)) hI hV) (by decide) (by decide) dL_law_659 [] rfl (Nat.le_of_ble_eq_true rfl) rfl (by omega) (by omega) (fun r m hp => ?_)
  obtain ⟨rfl, hI1⟩ := hp
  refine x_aload_n h.1 2 rfl dL_law_662 ?_
  refine x_aload_n h.1 4 rfl dL_law_663 ?_
  refine x_iload h.1 0 rfl dL_law_664 ?_
  refine x_iconst h.1 (v := nI 1) dL_law_666 rfl ?_
  refine x_iaddE h.1 (nI_add i 1) dL_law_667 ?_
  refine x_sld h (j := i + 1) (by omega) dL_law_668 ?_
  refine x_aload_n h.1 4 rfl dL_law_669 ?_
  refine x_iload h.1 0 rfl dL_law_670 ?_
  refine x_iconst h.1 (v := nI 2) dL_law_672 rfl ?_
  refine x_iaddE h.1 (nI_add i 2) dL_law_673 ?_
  refine x_sld h (j := i + 2) (by omega) dL_law_674 ?_
  refine x_lawM h cw_L_98 (c_X6_lasts (l := fx_l F) (D := fx_D F) (c := c) (b := b) (x := xs (i + 1)) (e := xs (i + 2)) hM hV) (by decide) (by decide) dL_law_675 [.int (sp_lasts S (xs (i + 1)) (xs (i + 2))).1] rfl (Nat.le_of_ble_eq_true rfl) rfl (by omega) (by omega) (fun r m hp => ?_)
  obtain ⟨rfl, hM1⟩ := hp
  refine x_icmp_eq_T h.1 1117 dL_law_678 rfl rfl ?_
  exact x_widen (Nat.le_add_right _ _) (Nat.le_add_right _ _) (G _ _ _ _ hI1 hM1 (V_lasts (xs (i + 1)) (xs (i + 2)) hV))
set_option maxHeartbeats 1000000 in
theorem la_16 (h : LC F c sb L xs) (hi : i + 3 < L) (hk : k + 1 ≤ 601024) (hn : n + 6 ≤ 7293033) (hI : XI μ S) (hM : MI τ S) (hV : SV S) (G : LG F c a o b sb i (k + 1) (n + 6)) : XW F k n (LW c a o b μ f τ) [(4, .int (nI i)), (3, .ref o), (2, .ref (b 0)), (1, .ref (a 0)), (0, .ref sb)] 39 [.int (nI 16)] := by
  refine x_tableIn h.1 683 dL_law_39 (by decide) (by decide) (off := 644) rfl rfl ?_
  refine x_aload_n h.1 3 rfl dL_law_683 ?_
  refine x_aload_n h.1 4 rfl dL_law_684 ?_
  refine x_iload h.1 0 rfl dL_law_685 ?_
  refine x_iconst h.1 (v := nI 1) dL_law_687 rfl ?_
  refine x_iaddE h.1 (nI_add i 1) dL_law_688 ?_
  refine x_sld h (j := i + 1) (by omega) dL_law_689 ?_
  refine x_lawX h cw_L_99 (c_X5_guess (l := fx_l F) (D := fx_D F) (c := c) (a := a) (x := xs (i + 1)) hI hV) (by decide) (by decide) dL_law_690 [] rfl (Nat.le_of_ble_eq_true rfl) rfl (by omega) (by omega) (fun r m hp => ?_)
  obtain ⟨rfl, hI1⟩ := hp
  refine x_aload_n h.1 2 rfl dL_law_693 ?_
  refine x_aload_n h.1 4 rfl dL_law_694 ?_
  refine x_iload h.1 0 rfl dL_law_695 ?_
  refine x_iconst h.1 (v := nI 1) dL_law_697 rfl ?_
  refine x_iaddE h.1 (nI_add i 1) dL_law_698 ?_
  refine x_sld h (j := i + 1) (by omega) dL_law_699 ?_
  refine x_lawM h cw_L_102 (c_X6_guess (l := fx_l F) (D := fx_D F) (c := c) (b := b) (x := xs (i + 1)) hM hV) (by decide) (by decide) dL_law_700 [.int (sp_guess S (xs (i + 1))).1] rfl (Nat.le_of_ble_eq_true rfl) rfl (by omega) (by omega) (fun r m hp => ?_)
  obtain ⟨rfl, hM1⟩ := hp
  refine x_icmp_eq_T h.1 1117 dL_law_703 rfl rfl ?_
  exact x_widen (Nat.le_add_right _ _) (Nat.le_add_right _ _) (G _ _ _ _ hI1 hM1 (V_guess (xs (i + 1)) hV))
set_option maxHeartbeats 1000000 in
theorem la_18 (h : LC F c sb L xs) (hi : i + 3 < L) (hk : k + 1 ≤ 601024) (hn : n + 6 ≤ 7293033) (hI : XI μ S) (hM : MI τ S) (hV : SV S) (G : LG F c a o b sb i (k + 1) (n + 6)) : XW F k n (LW c a o b μ f τ) [(4, .int (nI i)), (3, .ref o), (2, .ref (b 0)), (1, .ref (a 0)), (0, .ref sb)] 39 [.int (nI 18)] := by
  refine x_tableIn h.1 791 dL_law_39 (by decide) (by decide) (off := 752) rfl rfl ?_
  refine x_aload_n h.1 3 rfl dL_law_791 ?_
  refine x_lawX h cw_L_107 (c_X5_leak (l := fx_l F) (D := fx_D F) (c := c) (a := a)  hI hV) (by decide) (by decide) dL_law_792 [] rfl (Nat.le_of_ble_eq_true rfl) rfl (by omega) (by omega) (fun r m hp => ?_)
  obtain ⟨rfl, hI1⟩ := hp
  refine x_aload_n h.1 2 rfl dL_law_795 ?_
  refine x_lawM h cw_L_110 (c_X6_leak (l := fx_l F) (D := fx_D F) (c := c) (b := b)  hM hV) (by decide) (by decide) dL_law_796 [.int (sp_leak S ).1] rfl (Nat.le_of_ble_eq_true rfl) rfl (by omega) (by omega) (fun r m hp => ?_)
  obtain ⟨rfl, hM1⟩ := hp
  refine x_icmp_eq_T h.1 1117 dL_law_799 rfl rfl ?_
  exact x_widen (Nat.le_add_right _ _) (Nat.le_add_right _ _) (G _ _ _ _ hI1 hM1 (V_leak  hV))
set_option maxHeartbeats 1000000 in
theorem la_19 (h : LC F c sb L xs) (hi : i + 3 < L) (hk : k + 1 ≤ 601024) (hn : n + 6 ≤ 7293033) (hI : XI μ S) (hM : MI τ S) (hV : SV S) (G : LG F c a o b sb i (k + 1) (n + 6)) : XW F k n (LW c a o b μ f τ) [(4, .int (nI i)), (3, .ref o), (2, .ref (b 0)), (1, .ref (a 0)), (0, .ref sb)] 39 [.int (nI 19)] := by
  refine x_tableIn h.1 804 dL_law_39 (by decide) (by decide) (off := 765) rfl rfl ?_
  refine x_aload_n h.1 3 rfl dL_law_804 ?_
  refine x_aload_n h.1 4 rfl dL_law_805 ?_
  refine x_iload h.1 0 rfl dL_law_806 ?_
  refine x_iconst h.1 (v := nI 1) dL_law_808 rfl ?_
  refine x_iaddE h.1 (nI_add i 1) dL_law_809 ?_
  refine x_sld h (j := i + 1) (by omega) dL_law_810 ?_
  refine x_aload_n h.1 4 rfl dL_law_811 ?_
  refine x_iload h.1 0 rfl dL_law_812 ?_
  refine x_iconst h.1 (v := nI 2) dL_law_814 rfl ?_
  refine x_iaddE h.1 (nI_add i 2) dL_law_815 ?_
  refine x_sld h (j := i + 2) (by omega) dL_law_816 ?_
  refine x_lawX h cw_L_111 (c_X5_even (l := fx_l F) (D := fx_D F) (c := c) (a := a) (x := xs (i + 1)) (t := xs (i + 2)) hI hV) (by decide) (by decide) dL_law_817 [] rfl (Nat.le_of_ble_eq_true rfl) rfl (by omega) (by omega) (fun r m hp => ?_)
  obtain ⟨rfl, hI1⟩ := hp
  refine x_aload_n h.1 2 rfl dL_law_820 ?_
  refine x_aload_n h.1 4 rfl dL_law_821 ?_
  refine x_iload h.1 0 rfl dL_law_822 ?_
  refine x_iconst h.1 (v := nI 1) dL_law_824 rfl ?_
  refine x_iaddE h.1 (nI_add i 1) dL_law_825 ?_
  refine x_sld h (j := i + 1) (by omega) dL_law_826 ?_
  refine x_aload_n h.1 4 rfl dL_law_827 ?_
  refine x_iload h.1 0 rfl dL_law_828 ?_
  refine x_iconst h.1 (v := nI 2) dL_law_830 rfl ?_
  refine x_iaddE h.1 (nI_add i 2) dL_law_831 ?_
  refine x_sld h (j := i + 2) (by omega) dL_law_832 ?_
  refine x_lawM h cw_L_114 (c_X6_even (l := fx_l F) (D := fx_D F) (c := c) (b := b) (x := xs (i + 1)) (t := xs (i + 2)) hM hV) (by decide) (by decide) dL_law_833 [.int (sp_even S (xs (i + 1)) (xs (i + 2))).1] rfl (Nat.le_of_ble_eq_true rfl) rfl (by omega) (by omega) (fun r m hp => ?_)
  obtain ⟨rfl, hM1⟩ := hp
  refine x_icmp_eq_T h.1 1117 dL_law_836 rfl rfl ?_
  exact x_widen (Nat.le_add_right _ _) (Nat.le_add_right _ _) (G _ _ _ _ hI1 hM1 (V_even (xs (i + 1)) (xs (i + 2)) hV))
set_option maxHeartbeats 1000000 in
theorem la_20 (h : LC F c sb L xs) (hi : i + 3 < L) (hk : k + 1 ≤ 601024) (hn : n + 6 ≤ 7293033) (hI : XI μ S) (hM : MI τ S) (hV : SV S) (G : LG F c a o b sb i (k + 1) (n + 6)) : XW F k n (LW c a o b μ f τ) [(4, .int (nI i)), (3, .ref o), (2, .ref (b 0)), (1, .ref (a 0)), (0, .ref sb)] 39 [.int (nI 20)] := by
  refine x_tableIn h.1 841 dL_law_39 (by decide) (by decide) (off := 802) rfl rfl ?_
  refine x_aload_n h.1 3 rfl dL_law_841 ?_
  refine x_lawX h cw_L_115 (c_X5_expected (l := fx_l F) (D := fx_D F) (c := c) (a := a)  hI hV) (by decide) (by decide) dL_law_842 [] rfl (Nat.le_of_ble_eq_true rfl) rfl (by omega) (by omega) (fun r m hp => ?_)
  obtain ⟨rfl, hI1⟩ := hp
  refine x_aload_n h.1 2 rfl dL_law_845 ?_
  refine x_lawM h cw_L_118 (c_X6_expected (l := fx_l F) (D := fx_D F) (c := c) (b := b)  hM hV) (by decide) (by decide) dL_law_846 [.int (sp_expected S ).1] rfl (Nat.le_of_ble_eq_true rfl) rfl (by omega) (by omega) (fun r m hp => ?_)
  obtain ⟨rfl, hM1⟩ := hp
  refine x_icmp_eq_T h.1 1117 dL_law_849 rfl rfl ?_
  exact x_widen (Nat.le_add_right _ _) (Nat.le_add_right _ _) (G _ _ _ _ hI1 hM1 (V_expected  hV))
set_option maxHeartbeats 1000000 in
theorem la_21 (h : LC F c sb L xs) (hi : i + 3 < L) (hk : k + 1 ≤ 601024) (hn : n + 6 ≤ 7293033) (hI : XI μ S) (hM : MI τ S) (hV : SV S) (G : LG F c a o b sb i (k + 1) (n + 6)) : XW F k n (LW c a o b μ f τ) [(4, .int (nI i)), (3, .ref o), (2, .ref (b 0)), (1, .ref (a 0)), (0, .ref sb)] 39 [.int (nI 21)] := by
  refine x_tableIn h.1 854 dL_law_39 (by decide) (by decide) (off := 815) rfl rfl ?_
  refine x_aload_n h.1 3 rfl dL_law_854 ?_
  refine x_aload_n h.1 4 rfl dL_law_855 ?_
  refine x_iload h.1 0 rfl dL_law_856 ?_
  refine x_iconst h.1 (v := nI 1) dL_law_858 rfl ?_
  refine x_iaddE h.1 (nI_add i 1) dL_law_859 ?_
  refine x_sld h (j := i + 1) (by omega) dL_law_860 ?_
  refine x_aload_n h.1 4 rfl dL_law_861 ?_
  refine x_iload h.1 0 rfl dL_law_862 ?_
  refine x_iconst h.1 (v := nI 2) dL_law_864 rfl ?_
  refine x_iaddE h.1 (nI_add i 2) dL_law_865 ?_
  refine x_sld h (j := i + 2) (by omega) dL_law_866 ?_
  refine x_lawX h cw_L_119 (c_X5_pair (l := fx_l F) (D := fx_D F) (c := c) (a := a) (q := xs (i + 1)) (g := xs (i + 2)) hI hV) (by decide) (by decide) dL_law_867 [] rfl (Nat.le_of_ble_eq_true rfl) rfl (by omega) (by omega) (fun r m hp => ?_)
  obtain ⟨rfl, hI1⟩ := hp
  refine x_aload_n h.1 2 rfl dL_law_870 ?_
  refine x_aload_n h.1 4 rfl dL_law_871 ?_
  refine x_iload h.1 0 rfl dL_law_872 ?_
  refine x_iconst h.1 (v := nI 1) dL_law_874 rfl ?_
  refine x_iaddE h.1 (nI_add i 1) dL_law_875 ?_
  refine x_sld h (j := i + 1) (by omega) dL_law_876 ?_
  refine x_aload_n h.1 4 rfl dL_law_877 ?_
  refine x_iload h.1 0 rfl dL_law_878 ?_
  refine x_iconst h.1 (v := nI 2) dL_law_880 rfl ?_
  refine x_iaddE h.1 (nI_add i 2) dL_law_881 ?_
  refine x_sld h (j := i + 2) (by omega) dL_law_882 ?_
  refine x_lawM h cw_L_122 (c_X6_pair (l := fx_l F) (D := fx_D F) (c := c) (b := b) (q := xs (i + 1)) (g := xs (i + 2)) hM hV) (by decide) (by decide) dL_law_883 [.int (sp_pair S (xs (i + 1)) (xs (i + 2))).1] rfl (Nat.le_of_ble_eq_true rfl) rfl (by omega) (by omega) (fun r m hp => ?_)
  obtain ⟨rfl, hM1⟩ := hp
  refine x_icmp_eq_T h.1 1117 dL_law_886 rfl rfl ?_
  exact x_widen (Nat.le_add_right _ _) (Nat.le_add_right _ _) (G _ _ _ _ hI1 hM1 (V_pair (xs (i + 1)) (xs (i + 2)) hV))
set_option maxHeartbeats 1000000 in
theorem la_22 (h : LC F c sb L xs) (hi : i + 3 < L) (hk : k + 1 ≤ 601024) (hn : n + 6 ≤ 7293033) (hI : XI μ S) (hM : MI τ S) (hV : SV S) (G : LG F c a o b sb i (k + 1) (n + 6)) : XW F k n (LW c a o b μ f τ) [(4, .int (nI i)), (3, .ref o), (2, .ref (b 0)), (1, .ref (a 0)), (0, .ref sb)] 39 [.int (nI 22)] := by
  refine x_tableIn h.1 891 dL_law_39 (by decide) (by decide) (off := 852) rfl rfl ?_
  refine x_aload_n h.1 3 rfl dL_law_891 ?_
  refine x_lawX h cw_L_123 (c_X5_planes (l := fx_l F) (D := fx_D F) (c := c) (a := a)  hI hV) (by decide) (by decide) dL_law_892 [] rfl (Nat.le_of_ble_eq_true rfl) rfl (by omega) (by omega) (fun r m hp => ?_)
  obtain ⟨rfl, hI1⟩ := hp
  refine x_aload_n h.1 2 rfl dL_law_895 ?_
  refine x_lawM h cw_L_126 (c_X6_planes (l := fx_l F) (D := fx_D F) (c := c) (b := b)  hM hV) (by decide) (by decide) dL_law_896 [.int (sp_planes S ).1] rfl (Nat.le_of_ble_eq_true rfl) rfl (by omega) (by omega) (fun r m hp => ?_)
  obtain ⟨rfl, hM1⟩ := hp
  refine x_icmp_eq_T h.1 1117 dL_law_899 rfl rfl ?_
  exact x_widen (Nat.le_add_right _ _) (Nat.le_add_right _ _) (G _ _ _ _ hI1 hM1 (V_planes  hV))
set_option maxHeartbeats 1000000 in
theorem la_23 (h : LC F c sb L xs) (hi : i + 3 < L) (hk : k + 1 ≤ 601024) (hn : n + 6 ≤ 7293033) (hI : XI μ S) (hM : MI τ S) (hV : SV S) (G : LG F c a o b sb i (k + 1) (n + 6)) : XW F k n (LW c a o b μ f τ) [(4, .int (nI i)), (3, .ref o), (2, .ref (b 0)), (1, .ref (a 0)), (0, .ref sb)] 39 [.int (nI 23)] := by
  refine x_tableIn h.1 904 dL_law_39 (by decide) (by decide) (off := 865) rfl rfl ?_
  refine x_aload_n h.1 3 rfl dL_law_904 ?_
  refine x_aload_n h.1 4 rfl dL_law_905 ?_
  refine x_iload h.1 0 rfl dL_law_906 ?_
  refine x_iconst h.1 (v := nI 1) dL_law_908 rfl ?_
  refine x_iaddE h.1 (nI_add i 1) dL_law_909 ?_
  refine x_sld h (j := i + 1) (by omega) dL_law_910 ?_
  refine x_lawX h cw_L_127 (c_X5_plane (l := fx_l F) (D := fx_D F) (c := c) (a := a) (x := xs (i + 1)) hI hV) (by decide) (by decide) dL_law_911 [] rfl (Nat.le_of_ble_eq_true rfl) rfl (by omega) (by omega) (fun r m hp => ?_)
  obtain ⟨rfl, hI1⟩ := hp
  refine x_aload_n h.1 2 rfl dL_law_914 ?_
  refine x_aload_n h.1 4 rfl dL_law_915 ?_
  refine x_iload h.1 0 rfl dL_law_916 ?_
  refine x_iconst h.1 (v := nI 1) dL_law_918 rfl ?_
  refine x_iaddE h.1 (nI_add i 1) dL_law_919 ?_
  refine x_sld h (j := i + 1) (by omega) dL_law_920 ?_
  refine x_lawM h cw_L_130 (c_X6_plane (l := fx_l F) (D := fx_D F) (c := c) (b := b) (x := xs (i + 1)) hM hV) (by decide) (by decide) dL_law_921 [.int (sp_plane S (xs (i + 1))).1] rfl (Nat.le_of_ble_eq_true rfl) rfl (by omega) (by omega) (fun r m hp => ?_)
  obtain ⟨rfl, hM1⟩ := hp
  refine x_icmp_eq_T h.1 1117 dL_law_924 rfl rfl ?_
  exact x_widen (Nat.le_add_right _ _) (Nat.le_add_right _ _) (G _ _ _ _ hI1 hM1 (V_plane (xs (i + 1)) hV))
set_option maxHeartbeats 1000000 in
theorem la_24 (h : LC F c sb L xs) (hi : i + 3 < L) (hk : k + 1 ≤ 601024) (hn : n + 6 ≤ 7293033) (hI : XI μ S) (hM : MI τ S) (hV : SV S) (G : LG F c a o b sb i (k + 1) (n + 6)) : XW F k n (LW c a o b μ f τ) [(4, .int (nI i)), (3, .ref o), (2, .ref (b 0)), (1, .ref (a 0)), (0, .ref sb)] 39 [.int (nI 24)] := by
  refine x_tableIn h.1 929 dL_law_39 (by decide) (by decide) (off := 890) rfl rfl ?_
  refine x_aload_n h.1 3 rfl dL_law_929 ?_
  refine x_aload_n h.1 4 rfl dL_law_930 ?_
  refine x_iload h.1 0 rfl dL_law_931 ?_
  refine x_iconst h.1 (v := nI 1) dL_law_933 rfl ?_
  refine x_iaddE h.1 (nI_add i 1) dL_law_934 ?_
  refine x_sld h (j := i + 1) (by omega) dL_law_935 ?_
  refine x_lawX h cw_L_131 (c_X5_foretold (l := fx_l F) (D := fx_D F) (c := c) (a := a) (x := xs (i + 1)) hI hV) (by decide) (by decide) dL_law_936 [] rfl (Nat.le_of_ble_eq_true rfl) rfl (by omega) (by omega) (fun r m hp => ?_)
  obtain ⟨rfl, hI1⟩ := hp
  refine x_aload_n h.1 2 rfl dL_law_939 ?_
  refine x_aload_n h.1 4 rfl dL_law_940 ?_
  refine x_iload h.1 0 rfl dL_law_941 ?_
  refine x_iconst h.1 (v := nI 1) dL_law_943 rfl ?_
  refine x_iaddE h.1 (nI_add i 1) dL_law_944 ?_
  refine x_sld h (j := i + 1) (by omega) dL_law_945 ?_
  refine x_lawM h cw_L_134 (c_X6_foretold (l := fx_l F) (D := fx_D F) (c := c) (b := b) (x := xs (i + 1)) hM hV) (by decide) (by decide) dL_law_946 [.int (sp_foretold S (xs (i + 1))).1] rfl (Nat.le_of_ble_eq_true rfl) rfl (by omega) (by omega) (fun r m hp => ?_)
  obtain ⟨rfl, hM1⟩ := hp
  refine x_icmp_eq_T h.1 1117 dL_law_949 rfl rfl ?_
  exact x_widen (Nat.le_add_right _ _) (Nat.le_add_right _ _) (G _ _ _ _ hI1 hM1 (V_foretold (xs (i + 1)) hV))
set_option maxHeartbeats 1000000 in
theorem la_25 (h : LC F c sb L xs) (hi : i + 3 < L) (hk : k + 1 ≤ 601024) (hn : n + 6 ≤ 7293033) (hI : XI μ S) (hM : MI τ S) (hV : SV S) (G : LG F c a o b sb i (k + 1) (n + 6)) : XW F k n (LW c a o b μ f τ) [(4, .int (nI i)), (3, .ref o), (2, .ref (b 0)), (1, .ref (a 0)), (0, .ref sb)] 39 [.int (nI 25)] := by
  refine x_tableIn h.1 954 dL_law_39 (by decide) (by decide) (off := 915) rfl rfl ?_
  refine x_aload_n h.1 3 rfl dL_law_954 ?_
  refine x_lawX h cw_L_135 (c_X5_next (l := fx_l F) (D := fx_D F) (c := c) (a := a)  hI hV) (by decide) (by decide) dL_law_955 [] rfl (Nat.le_of_ble_eq_true rfl) rfl (by omega) (by omega) (fun r m hp => ?_)
  obtain ⟨rfl, hI1⟩ := hp
  refine x_aload_n h.1 2 rfl dL_law_958 ?_
  refine x_lawM h cw_L_138 (c_X6_next (l := fx_l F) (D := fx_D F) (c := c) (b := b)  hM hV) (by decide) (by decide) dL_law_959 [.int (sp_next S ).1] rfl (Nat.le_of_ble_eq_true rfl) rfl (by omega) (by omega) (fun r m hp => ?_)
  obtain ⟨rfl, hM1⟩ := hp
  refine x_icmp_eq_T h.1 1117 dL_law_962 rfl rfl ?_
  exact x_widen (Nat.le_add_right _ _) (Nat.le_add_right _ _) (G _ _ _ _ hI1 hM1 (V_next  hV))
set_option maxHeartbeats 1000000 in
theorem la_26 (h : LC F c sb L xs) (hi : i + 3 < L) (hk : k + 1 ≤ 601024) (hn : n + 6 ≤ 7293033) (hI : XI μ S) (hM : MI τ S) (hV : SV S) (G : LG F c a o b sb i (k + 1) (n + 6)) : XW F k n (LW c a o b μ f τ) [(4, .int (nI i)), (3, .ref o), (2, .ref (b 0)), (1, .ref (a 0)), (0, .ref sb)] 39 [.int (nI 26)] := by
  refine x_tableIn h.1 967 dL_law_39 (by decide) (by decide) (off := 928) rfl rfl ?_
  refine x_aload_n h.1 3 rfl dL_law_967 ?_
  refine x_aload_n h.1 4 rfl dL_law_968 ?_
  refine x_iload h.1 0 rfl dL_law_969 ?_
  refine x_iconst h.1 (v := nI 1) dL_law_971 rfl ?_
  refine x_iaddE h.1 (nI_add i 1) dL_law_972 ?_
  refine x_sld h (j := i + 1) (by omega) dL_law_973 ?_
  refine x_aload_n h.1 4 rfl dL_law_974 ?_
  refine x_iload h.1 0 rfl dL_law_975 ?_
  refine x_iconst h.1 (v := nI 2) dL_law_977 rfl ?_
  refine x_iaddE h.1 (nI_add i 2) dL_law_978 ?_
  refine x_sld h (j := i + 2) (by omega) dL_law_979 ?_
  refine x_lawX h cw_L_139 (c_X5_check (l := fx_l F) (D := fx_D F) (c := c) (a := a) (q := xs (i + 1)) (g := xs (i + 2)) hI hV) (by decide) (by decide) dL_law_980 [] rfl (Nat.le_of_ble_eq_true rfl) rfl (by omega) (by omega) (fun r m hp => ?_)
  obtain ⟨rfl, hI1⟩ := hp
  refine x_aload_n h.1 2 rfl dL_law_983 ?_
  refine x_aload_n h.1 4 rfl dL_law_984 ?_
  refine x_iload h.1 0 rfl dL_law_985 ?_
  refine x_iconst h.1 (v := nI 1) dL_law_987 rfl ?_
  refine x_iaddE h.1 (nI_add i 1) dL_law_988 ?_
  refine x_sld h (j := i + 1) (by omega) dL_law_989 ?_
  refine x_aload_n h.1 4 rfl dL_law_990 ?_
  refine x_iload h.1 0 rfl dL_law_991 ?_
  refine x_iconst h.1 (v := nI 2) dL_law_993 rfl ?_
  refine x_iaddE h.1 (nI_add i 2) dL_law_994 ?_
  refine x_sld h (j := i + 2) (by omega) dL_law_995 ?_
  refine x_lawM h cw_L_142 (c_X6_check (l := fx_l F) (D := fx_D F) (c := c) (b := b) (q := xs (i + 1)) (g := xs (i + 2)) hM hV) (by decide) (by decide) dL_law_996 [.int (sp_check S (xs (i + 1)) (xs (i + 2))).1] rfl (Nat.le_of_ble_eq_true rfl) rfl (by omega) (by omega) (fun r m hp => ?_)
  obtain ⟨rfl, hM1⟩ := hp
  refine x_icmp_eq_T h.1 1117 dL_law_999 rfl rfl ?_
  exact x_widen (Nat.le_add_right _ _) (Nat.le_add_right _ _) (G _ _ _ _ hI1 hM1 (V_check (xs (i + 1)) (xs (i + 2)) hV))
set_option maxHeartbeats 1000000 in
theorem la_27 (h : LC F c sb L xs) (hi : i + 3 < L) (hk : k + 1 ≤ 601024) (hn : n + 6 ≤ 7293033) (hI : XI μ S) (hM : MI τ S) (hV : SV S) (G : LG F c a o b sb i (k + 1) (n + 6)) : XW F k n (LW c a o b μ f τ) [(4, .int (nI i)), (3, .ref o), (2, .ref (b 0)), (1, .ref (a 0)), (0, .ref sb)] 39 [.int (nI 27)] := by
  refine x_tableIn h.1 1004 dL_law_39 (by decide) (by decide) (off := 965) rfl rfl ?_
  refine x_aload_n h.1 3 rfl dL_law_1004 ?_
  refine x_aload_n h.1 4 rfl dL_law_1005 ?_
  refine x_iload h.1 0 rfl dL_law_1006 ?_
  refine x_iconst h.1 (v := nI 1) dL_law_1008 rfl ?_
  refine x_iaddE h.1 (nI_add i 1) dL_law_1009 ?_
  refine x_sld h (j := i + 1) (by omega) dL_law_1010 ?_
  refine x_lawX h cw_L_143 (c_X5_whose (l := fx_l F) (D := fx_D F) (c := c) (a := a) (x := xs (i + 1)) hI hV) (by decide) (by decide) dL_law_1011 [] rfl (Nat.le_of_ble_eq_true rfl) rfl (by omega) (by omega) (fun r m hp => ?_)
  obtain ⟨rfl, hI1⟩ := hp
  refine x_aload_n h.1 2 rfl dL_law_1014 ?_
  refine x_aload_n h.1 4 rfl dL_law_1015 ?_
  refine x_iload h.1 0 rfl dL_law_1016 ?_
  refine x_iconst h.1 (v := nI 1) dL_law_1018 rfl ?_
  refine x_iaddE h.1 (nI_add i 1) dL_law_1019 ?_
  refine x_sld h (j := i + 1) (by omega) dL_law_1020 ?_
  refine x_lawM h cw_L_146 (c_X6_whose (l := fx_l F) (D := fx_D F) (c := c) (b := b) (x := xs (i + 1)) hM hV) (by decide) (by decide) dL_law_1021 [.int (sp_whose S (xs (i + 1))).1] rfl (Nat.le_of_ble_eq_true rfl) rfl (by omega) (by omega) (fun r m hp => ?_)
  obtain ⟨rfl, hM1⟩ := hp
  refine x_icmp_eq_T h.1 1117 dL_law_1024 rfl rfl ?_
  exact x_widen (Nat.le_add_right _ _) (Nat.le_add_right _ _) (G _ _ _ _ hI1 hM1 (V_whose (xs (i + 1)) hV))
set_option maxHeartbeats 1000000 in
theorem la_28 (h : LC F c sb L xs) (hi : i + 3 < L) (hk : k + 1 ≤ 601024) (hn : n + 6 ≤ 7293033) (hI : XI μ S) (hM : MI τ S) (hV : SV S) (G : LG F c a o b sb i (k + 1) (n + 6)) : XW F k n (LW c a o b μ f τ) [(4, .int (nI i)), (3, .ref o), (2, .ref (b 0)), (1, .ref (a 0)), (0, .ref sb)] 39 [.int (nI 28)] := by
  refine x_tableIn h.1 1029 dL_law_39 (by decide) (by decide) (off := 990) rfl rfl ?_
  refine x_aload_n h.1 3 rfl dL_law_1029 ?_
  refine x_aload_n h.1 4 rfl dL_law_1030 ?_
  refine x_iload h.1 0 rfl dL_law_1031 ?_
  refine x_iconst h.1 (v := nI 1) dL_law_1033 rfl ?_
  refine x_iaddE h.1 (nI_add i 1) dL_law_1034 ?_
  refine x_sld h (j := i + 1) (by omega) dL_law_1035 ?_
  refine x_lawX h cw_L_147 (c_X5_sure (l := fx_l F) (D := fx_D F) (c := c) (a := a) (x := xs (i + 1)) hI hV) (by decide) (by decide) dL_law_1036 [] rfl (Nat.le_of_ble_eq_true rfl) rfl (by omega) (by omega) (fun r m hp => ?_)
  obtain ⟨rfl, hI1⟩ := hp
  refine x_aload_n h.1 2 rfl dL_law_1039 ?_
  refine x_aload_n h.1 4 rfl dL_law_1040 ?_
  refine x_iload h.1 0 rfl dL_law_1041 ?_
  refine x_iconst h.1 (v := nI 1) dL_law_1043 rfl ?_
  refine x_iaddE h.1 (nI_add i 1) dL_law_1044 ?_
  refine x_sld h (j := i + 1) (by omega) dL_law_1045 ?_
  refine x_lawM h cw_L_150 (c_X6_sure (l := fx_l F) (D := fx_D F) (c := c) (b := b) (x := xs (i + 1)) hM hV) (by decide) (by decide) dL_law_1046 [.int (sp_sure S (xs (i + 1))).1] rfl (Nat.le_of_ble_eq_true rfl) rfl (by omega) (by omega) (fun r m hp => ?_)
  obtain ⟨rfl, hM1⟩ := hp
  refine x_icmp_eq_T h.1 1117 dL_law_1049 rfl rfl ?_
  exact x_widen (Nat.le_add_right _ _) (Nat.le_add_right _ _) (G _ _ _ _ hI1 hM1 (V_sure (xs (i + 1)) hV))
set_option maxHeartbeats 1000000 in
theorem la_29 (h : LC F c sb L xs) (hi : i + 3 < L) (hk : k + 1 ≤ 601024) (hn : n + 6 ≤ 7293033) (hI : XI μ S) (hM : MI τ S) (hV : SV S) (G : LG F c a o b sb i (k + 1) (n + 6)) : XW F k n (LW c a o b μ f τ) [(4, .int (nI i)), (3, .ref o), (2, .ref (b 0)), (1, .ref (a 0)), (0, .ref sb)] 39 [.int (nI 29)] := by
  refine x_tableIn h.1 1054 dL_law_39 (by decide) (by decide) (off := 1015) rfl rfl ?_
  refine x_aload_n h.1 3 rfl dL_law_1054 ?_
  refine x_lawX h cw_L_151 (c_X5_apart (l := fx_l F) (D := fx_D F) (c := c) (a := a)  hI hV) (by decide) (by decide) dL_law_1055 [] rfl (Nat.le_of_ble_eq_true rfl) rfl (by omega) (by omega) (fun r m hp => ?_)
  obtain ⟨rfl, hI1⟩ := hp
  refine x_aload_n h.1 2 rfl dL_law_1058 ?_
  refine x_lawM h cw_L_154 (c_X6_apart (l := fx_l F) (D := fx_D F) (c := c) (b := b)  hM hV) (by decide) (by decide) dL_law_1059 [.int (sp_apart S ).1] rfl (Nat.le_of_ble_eq_true rfl) rfl (by omega) (by omega) (fun r m hp => ?_)
  obtain ⟨rfl, hM1⟩ := hp
  refine x_icmp_eq_T h.1 1117 dL_law_1062 rfl rfl ?_
  exact x_widen (Nat.le_add_right _ _) (Nat.le_add_right _ _) (G _ _ _ _ hI1 hM1 (V_apart  hV))
set_option maxHeartbeats 1000000 in
theorem la_30 (h : LC F c sb L xs) (hi : i + 3 < L) (hk : k + 1 ≤ 601024) (hn : n + 6 ≤ 7293033) (hI : XI μ S) (hM : MI τ S) (hV : SV S) (G : LG F c a o b sb i (k + 1) (n + 6)) : XW F k n (LW c a o b μ f τ) [(4, .int (nI i)), (3, .ref o), (2, .ref (b 0)), (1, .ref (a 0)), (0, .ref sb)] 39 [.int (nI 30)] := by
  refine x_tableIn h.1 1067 dL_law_39 (by decide) (by decide) (off := 1028) rfl rfl ?_
  refine x_aload_n h.1 3 rfl dL_law_1067 ?_
  refine x_aload_n h.1 4 rfl dL_law_1068 ?_
  refine x_iload h.1 0 rfl dL_law_1069 ?_
  refine x_iconst h.1 (v := nI 1) dL_law_1071 rfl ?_
  refine x_iaddE h.1 (nI_add i 1) dL_law_1072 ?_
  refine x_sld h (j := i + 1) (by omega) dL_law_1073 ?_
  refine x_lawX h cw_L_155 (c_X5_odd (l := fx_l F) (D := fx_D F) (c := c) (a := a) (x := xs (i + 1)) hI hV) (by decide) (by decide) dL_law_1074 [] rfl (Nat.le_of_ble_eq_true rfl) rfl (by omega) (by omega) (fun r m hp => ?_)
  obtain ⟨rfl, hI1⟩ := hp
  refine x_aload_n h.1 2 rfl dL_law_1077 ?_
  refine x_aload_n h.1 4 rfl dL_law_1078 ?_
  refine x_iload h.1 0 rfl dL_law_1079 ?_
  refine x_iconst h.1 (v := nI 1) dL_law_1081 rfl ?_
  refine x_iaddE h.1 (nI_add i 1) dL_law_1082 ?_
  refine x_sld h (j := i + 1) (by omega) dL_law_1083 ?_
  refine x_lawM h cw_L_158 (c_X6_odd (l := fx_l F) (D := fx_D F) (c := c) (b := b) (x := xs (i + 1)) hM hV) (by decide) (by decide) dL_law_1084 [.int (sp_odd S (xs (i + 1))).1] rfl (Nat.le_of_ble_eq_true rfl) rfl (by omega) (by omega) (fun r m hp => ?_)
  obtain ⟨rfl, hM1⟩ := hp
  refine x_icmp_eq_T h.1 1117 dL_law_1087 rfl rfl ?_
  exact x_widen (Nat.le_add_right _ _) (Nat.le_add_right _ _) (G _ _ _ _ hI1 hM1 (V_odd (xs (i + 1)) hV))
set_option maxHeartbeats 1000000 in
theorem la_31 (h : LC F c sb L xs) (hi : i + 3 < L) (hk : k + 1 ≤ 601024) (hn : n + 6 ≤ 7293033) (hI : XI μ S) (hM : MI τ S) (hV : SV S) (G : LG F c a o b sb i (k + 1) (n + 6)) : XW F k n (LW c a o b μ f τ) [(4, .int (nI i)), (3, .ref o), (2, .ref (b 0)), (1, .ref (a 0)), (0, .ref sb)] 39 [.int (nI 31)] := by
  refine x_tableIn h.1 1092 dL_law_39 (by decide) (by decide) (off := 1053) rfl rfl ?_
  refine x_aload_n h.1 3 rfl dL_law_1092 ?_
  refine x_aload_n h.1 4 rfl dL_law_1093 ?_
  refine x_iload h.1 0 rfl dL_law_1094 ?_
  refine x_iconst h.1 (v := nI 1) dL_law_1096 rfl ?_
  refine x_iaddE h.1 (nI_add i 1) dL_law_1097 ?_
  refine x_sld h (j := i + 1) (by omega) dL_law_1098 ?_
  refine x_lawX h cw_L_159 (c_X5_count (l := fx_l F) (D := fx_D F) (c := c) (a := a) (x := xs (i + 1)) hI hV) (by decide) (by decide) dL_law_1099 [] rfl (Nat.le_of_ble_eq_true rfl) rfl (by omega) (by omega) (fun r m hp => ?_)
  obtain ⟨rfl, hI1⟩ := hp
  refine x_aload_n h.1 2 rfl dL_law_1102 ?_
  refine x_aload_n h.1 4 rfl dL_law_1103 ?_
  refine x_iload h.1 0 rfl dL_law_1104 ?_
  refine x_iconst h.1 (v := nI 1) dL_law_1106 rfl ?_
  refine x_iaddE h.1 (nI_add i 1) dL_law_1107 ?_
  refine x_sld h (j := i + 1) (by omega) dL_law_1108 ?_
  refine x_lawM h cw_L_162 (c_X6_count (l := fx_l F) (D := fx_D F) (c := c) (b := b) (x := xs (i + 1)) hM hV) (by decide) (by decide) dL_law_1109 [.int (sp_count S (xs (i + 1))).1] rfl (Nat.le_of_ble_eq_true rfl) rfl (by omega) (by omega) (fun r m hp => ?_)
  obtain ⟨rfl, hM1⟩ := hp
  refine x_icmp_eq_T h.1 1117 dL_law_1112 rfl rfl ?_
  exact x_widen (Nat.le_add_right _ _) (Nat.le_add_right _ _) (G _ _ _ _ hI1 hM1 (V_count (xs (i + 1)) hV))
set_option maxHeartbeats 2000000 in
theorem la_13 (h : LC F c sb L xs) (hi : i + 3 < L) (hk : k + 1 ≤ 601024) (hn : n + 6 ≤ 7293033) (hI : XI μ S) (hM : MI τ S) (hV : SV S) (G : LG F c a o b sb i (k + 1) (n + 6)) (hst : (fx_l F).stackTraces = false) {sa : Nat → Nat} (hX : TX9 sa (fx_A F) (fx_s F) (fx_s F).heap) : XW F k n (LW c a o b μ f τ) [(4, .int (nI i)), (3, .ref o), (2, .ref (b 0)), (1, .ref (a 0)), (0, .ref sb)] 39 [.int (nI 13)] := by
  refine x_tableIn h.1 565 dL_law_39 (by decide) (by decide) (off := 526) rfl rfl ?_
  refine x_aload_n h.1 3 rfl dL_law_565 ?_
  refine x_aload_n h.1 4 rfl dL_law_566 ?_
  refine x_iload h.1 0 rfl dL_law_567 ?_
  refine x_iconst h.1 (v := nI 1) dL_law_569 rfl ?_
  refine x_iaddE h.1 (nI_add i 1) dL_law_570 ?_
  refine x_sld h (j := i + 1) (by omega) dL_law_571 ?_
  refine x_aload_n h.1 4 rfl dL_law_572 ?_
  refine x_iload h.1 0 rfl dL_law_573 ?_
  refine x_iconst h.1 (v := nI 2) dL_law_575 rfl ?_
  refine x_iaddE h.1 (nI_add i 2) dL_law_576 ?_
  refine x_sld h (j := i + 2) (by omega) dL_law_577 ?_
  refine x_aload_n h.1 1 rfl dL_law_578 ?_
  refine x_lawW h csw_fail (c_L_fail (l := fx_l F) (D := fx_D F) (c := c) (a := a) (o := o) (f := f) (sa := sa) hst (x := xs (i + 1)) (age := xs (i + 2)) hI hV) hX (by decide) (by decide) dL_law_579 [] rfl (Nat.le_of_ble_eq_true rfl) rfl hk hn (fun r u hp => ?_)
  obtain ⟨rfl, hI1, ho⟩ := hp
  refine x_istore h.1 [(5, .int (nI (sp_fail S (xs (i + 1)) (xs (i + 2))).1)), (4, .int (nI i)), (3, .ref o), (2, .ref (b 0)), (1, .ref (a 0)), (0, .ref sb)] rfl (lt_n h.2.2.1 rfl) dL_law_582 ?_
  refine x_aload_n h.1 3 rfl dL_law_584 ?_
  refine x_aload_n h.1 5 rfl dL_law_585 ?_
  refine x_iload h.1 1 rfl dL_law_586 ?_
  refine x_iconst h.1 (v := nI 1) dL_law_588 rfl ?_
  refine x_iaddE h.1 (nI_add i 1) dL_law_589 ?_
  refine x_sld h (j := i + 1) (by omega) dL_law_590 ?_
  refine x_aload_n h.1 5 rfl dL_law_591 ?_
  refine x_iload h.1 1 rfl dL_law_592 ?_
  refine x_iconst h.1 (v := nI 2) dL_law_594 rfl ?_
  refine x_iaddE h.1 (nI_add i 2) dL_law_595 ?_
  refine x_sld h (j := i + 2) (by omega) dL_law_596 ?_
  refine x_lawML h cw_L_86 (c_X6_fail (l := fx_l F) (D := fx_D F) (c := c) (b := b) (x := xs (i + 1)) (age := xs (i + 2)) hM hV) (by decide) (by decide) dL_law_597 [] rfl (Nat.le_of_ble_eq_true rfl) rfl hk hn (fun r m hp => ?_)
  obtain ⟨rfl, hM1, hc⟩ := hp
  refine x_lstore h.1 [(6, .long (lN (sp_fail S (xs (i + 1)) (xs (i + 2))).2)), (5, .int (nI (sp_fail S (xs (i + 1)) (xs (i + 2))).1)), (4, .int (nI i)), (3, .ref o), (2, .ref (b 0)), (1, .ref (a 0)), (0, .ref sb)] rfl (lt_n h.2.2.1 rfl) dL_law_600 ?_
  refine x_aload_n h.1 4 rfl dL_law_602 ?_
  refine x_lawM h cw_L_87 (c_X6_thrown (l := fx_l F) (D := fx_D F) (c := c) (b := b) hc) (by decide) (by decide) dL_law_603 [] rfl (Nat.le_of_ble_eq_true rfl) rfl hk hn (fun r m2 hp => ?_)
  obtain ⟨rfl, rfl⟩ := hp
  refine x_iload h.1 1 rfl dL_law_606 ?_
  refine x_icmp_eq_T h.1 613 dL_law_608 rfl rfl ?_
  refine x_iload h.1 1 rfl dL_law_613 ?_
  have fin : XW F (k + 1) (n + 6) (LW c a o b u.1 u.2 m) [(6, .long (lN (sp_fail S (xs (i + 1)) (xs (i + 2))).2)), (5, .int (nI (sp_fail S (xs (i + 1)) (xs (i + 2))).1)), (4, .int (nI i)), (3, .ref o), (2, .ref (b 0)), (1, .ref (a 0)), (0, .ref sb)] 629 [] := by
    refine x_goto h.1 1117 dL_law_629 rfl ?_
    exact x_lv [2, 3, 4, 5, 6] rfl (G _ _ _ _ hI1 hM1 hV)
  refine x_if_ne h.1 629 dL_law_615 rfl (fun _ => fin) (fun q => ?_)
  have e0 : (sp_fail S (xs (i + 1)) (xs (i + 2))).1 = 0 := fail_0 q
  refine x_aload_n h.1 3 rfl dL_law_618 ?_
  refine x_iconst h.1 (v := nI 0) dL_law_619 rfl ?_
  refine x_lald h.1 25 2 (N := 1) (f := u.2) rfl rfl (j := 0) (y := lN (sp_fail S (xs (i + 1)) (xs (i + 2))).2) (by decide) (by decide) (ho e0) dL_law_620 ?_
  refine x_lload h.1 0 rfl dL_law_621 ?_
  refine x_lcmp h.1 dL_law_623 ?_
  exact x_if_eq_T h.1 629 dL_law_624 rfl (lcmp_self rfl) fin
set_option maxHeartbeats 2000000 in
theorem la_17 (h : LC F c sb L xs) (hi : i + 3 < L) (hk : k + 1 ≤ 601024) (hn : n + 6 ≤ 7293033) (hI : XI μ S) (hM : MI τ S) (hV : SV S) (G : LG F c a o b sb i (k + 1) (n + 6)) (hst : (fx_l F).stackTraces = false) {sa : Nat → Nat} (hX : TX9 sa (fx_A F) (fx_s F) (fx_s F).heap) : XW F k n (LW c a o b μ f τ) [(4, .int (nI i)), (3, .ref o), (2, .ref (b 0)), (1, .ref (a 0)), (0, .ref sb)] 39 [.int (nI 17)] := by
  refine x_tableIn h.1 708 dL_law_39 (by decide) (by decide) (off := 669) rfl rfl ?_
  refine x_aload_n h.1 3 rfl dL_law_708 ?_
  refine x_aload_n h.1 4 rfl dL_law_709 ?_
  refine x_iload h.1 0 rfl dL_law_710 ?_
  refine x_iconst h.1 (v := nI 1) dL_law_712 rfl ?_
  refine x_iaddE h.1 (nI_add i 1) dL_law_713 ?_
  refine x_sld h (j := i + 1) (by omega) dL_law_714 ?_
  refine x_aload_n h.1 4 rfl dL_law_715 ?_
  refine x_iload h.1 0 rfl dL_law_716 ?_
  refine x_iconst h.1 (v := nI 2) dL_law_718 rfl ?_
  refine x_iaddE h.1 (nI_add i 2) dL_law_719 ?_
  refine x_sld h (j := i + 2) (by omega) dL_law_720 ?_
  refine x_ne0 h ?_
  refine x_aload_n h.1 1 rfl dL_law_729 ?_
  refine x_lawW h csw_weight (c_L_weight (l := fx_l F) (D := fx_D F) (c := c) (a := a) (o := o) (f := f) (sa := sa) hst (x := xs (i + 1)) (t := decide (xs (i + 2) ≠ 0)) hI hV) hX (by decide) (by decide) dL_law_730 [] rfl (Nat.le_of_ble_eq_true rfl) rfl hk hn (fun r u hp => ?_)
  obtain ⟨rfl, hI1, ho⟩ := hp
  refine x_istore h.1 [(5, .int (nI (sp_weight S (xs (i + 1)) (bz (decide (xs (i + 2) ≠ 0)))).1)), (4, .int (nI i)), (3, .ref o), (2, .ref (b 0)), (1, .ref (a 0)), (0, .ref sb)] rfl (lt_n h.2.2.1 rfl) dL_law_733 ?_
  refine x_aload_n h.1 3 rfl dL_law_735 ?_
  refine x_aload_n h.1 5 rfl dL_law_736 ?_
  refine x_iload h.1 1 rfl dL_law_737 ?_
  refine x_iconst h.1 (v := nI 1) dL_law_739 rfl ?_
  refine x_iaddE h.1 (nI_add i 1) dL_law_740 ?_
  refine x_sld h (j := i + 1) (by omega) dL_law_741 ?_
  refine x_aload_n h.1 5 rfl dL_law_742 ?_
  refine x_iload h.1 1 rfl dL_law_743 ?_
  refine x_iconst h.1 (v := nI 2) dL_law_745 rfl ?_
  refine x_iaddE h.1 (nI_add i 2) dL_law_746 ?_
  refine x_sld h (j := i + 2) (by omega) dL_law_747 ?_
  refine x_ne1 h ?_
  refine x_lawML h cw_L_106 (c_X6_weight (l := fx_l F) (D := fx_D F) (c := c) (b := b) (x := xs (i + 1)) (t := decide (xs (i + 2) ≠ 0)) hM hV) (by decide) (by decide) dL_law_756 [] rfl (Nat.le_of_ble_eq_true rfl) rfl hk hn (fun r m hp => ?_)
  obtain ⟨rfl, hM1, hc⟩ := hp
  refine x_lstore h.1 [(6, .long (lN (sp_weight S (xs (i + 1)) (bz (decide (xs (i + 2) ≠ 0)))).2)), (5, .int (nI (sp_weight S (xs (i + 1)) (bz (decide (xs (i + 2) ≠ 0)))).1)), (4, .int (nI i)), (3, .ref o), (2, .ref (b 0)), (1, .ref (a 0)), (0, .ref sb)] rfl (lt_n h.2.2.1 rfl) dL_law_759 ?_
  refine x_aload_n h.1 4 rfl dL_law_761 ?_
  refine x_lawM h cw_L_87 (c_X6_thrown (l := fx_l F) (D := fx_D F) (c := c) (b := b) hc) (by decide) (by decide) dL_law_762 [] rfl (Nat.le_of_ble_eq_true rfl) rfl hk hn (fun r m2 hp => ?_)
  obtain ⟨rfl, rfl⟩ := hp
  refine x_iload h.1 1 rfl dL_law_765 ?_
  refine x_icmp_eq_T h.1 772 dL_law_767 rfl rfl ?_
  refine x_iload h.1 1 rfl dL_law_772 ?_
  have fin : XW F (k + 1) (n + 6) (LW c a o b u.1 u.2 m) [(6, .long (lN (sp_weight S (xs (i + 1)) (bz (decide (xs (i + 2) ≠ 0)))).2)), (5, .int (nI (sp_weight S (xs (i + 1)) (bz (decide (xs (i + 2) ≠ 0)))).1)), (4, .int (nI i)), (3, .ref o), (2, .ref (b 0)), (1, .ref (a 0)), (0, .ref sb)] 788 [] := by
    refine x_goto h.1 1117 dL_law_788 rfl ?_
    exact x_lv [2, 3, 4, 5, 6] rfl (G _ _ _ _ hI1 hM1 hV)
  refine x_if_ne h.1 788 dL_law_774 rfl (fun _ => fin) (fun q => ?_)
  have e0 : (sp_weight S (xs (i + 1)) (bz (decide (xs (i + 2) ≠ 0)))).1 = 0 := weight_0 q
  refine x_aload_n h.1 3 rfl dL_law_777 ?_
  refine x_iconst h.1 (v := nI 0) dL_law_778 rfl ?_
  refine x_lald h.1 25 2 (N := 1) (f := u.2) rfl rfl (j := 0) (y := lN (sp_weight S (xs (i + 1)) (bz (decide (xs (i + 2) ≠ 0)))).2) (by decide) (by decide) (ho e0) dL_law_779 ?_
  refine x_lload h.1 0 rfl dL_law_780 ?_
  refine x_lcmp h.1 dL_law_782 ?_
  exact x_if_eq_T h.1 788 dL_law_783 rfl (lcmp_self rfl) fin
end Cases

section LW
variable {G : zG} {d : Nat} {mt : zMt} {pc : Nat} {ls st : List zV} {n n1 : Nat} {M : zM} {Q : zV → zM → Prop} {nm : String}
abbrev mLw (nm : String) : zMt := ((⟨RL, nm, "([I)Z"⟩ : MethodName), cL_law, 4, some .boolean)
abbrev lS (G : zG) (j : Int) : Int := ((G.2.2.2.2.2.1 (0 : Int).toNat).2 j.toNat).toInt
/-- what a method hands back is of its own kind -/
theorem Z_tag (h : Z G d mt pc ls st n n1 M Q) : Z G d mt pc ls st n n1 M (fun v M' => Q v M' ∧ ((v.1 = 0 ∧ ∃ ty, mt.2.2.2 = some ty ∧ narrow ty (.int (Int32.ofInt v.2)) = .int (Int32.ofInt v.2)) ∨ (v.1 = 1 ∧ mt.2.2.2 = some .long) ∨ (v = (9, 0) ∧ mt.2.2.2 = none))) := by
  intro oM oF oL oS p e R s m args below meth c H locs c1 s1 lsC QS X hS hr hl hll hz hn hc hs hE
  refine h oM oF oL oS p e R s m args below meth c H locs c1 s1 lsC QS X hS hr hl hll hz hn hc hs ?_
  intro v M' H' locs' c' s' pc' ls' a1 a2 a3 a4 a5 a6 a7 a8 a9
  refine ⟨fun hv hret hd => ?_, fun hv hret hd => ?_, fun hv hret hd => ?_⟩
  · exact (hE v M' H' locs' c' s' pc' ls' a1 a2 a3 ⟨a4, Or.inl ⟨hv, hret⟩⟩ a5 a6 a7 a8 a9).1 hv hret hd
  · exact (hE v M' H' locs' c' s' pc' ls' a1 a2 a3 ⟨a4, Or.inr (Or.inl ⟨hv, hret⟩)⟩ a5 a6 a7 a8 a9).2.1 hv hret hd
  · exact (hE v M' H' locs' c' s' pc' ls' a1 a2 a3 ⟨a4, Or.inr (Or.inr ⟨hv, hret⟩)⟩ a5 a6 a7 a8 a9).2.2 hv hret hd
theorem lw_po {mx mm : zMt} {lx lm : List zV} (hp : zPr G d mx mm lx lm M) (ht : mx.2.2.2 = some .int ∨ mx.2.2.2 = some .boolean) (h : ∀ (x : Int) (M1 : zM), Y G (d + 400) mm 0 lm [] M1 (fun r2 M2 => r2 = (0, x) ∧ zJn M M2) → Q (0, x) M1) : Y G (d + 400) mx 0 lx [] M Q := by
  refine (Z_tag hp).post (fun v M1 _ _ _ q => ?_)
  obtain ⟨q1, q2⟩ := q
  obtain ⟨t, x⟩ := v
  rcases q2 with ⟨e, -⟩ | ⟨-, e⟩ | ⟨-, e⟩
  · have e : t = 0 := e
    subst e
    exact h x M1 q1
  · rw [e] at ht; rcases ht with ht | ht <;> cases ht
  · rw [e] at ht; rcases ht with ht | ht <;> cases ht
theorem lw_pl {mx mm : zMt} {lx lm : List zV} (hp : Y G (d + 400) mx 0 lx [] M (fun r M1 => r.1 = 1 ∧ Y G (d + 400) mm 0 lm [] M1 (fun r2 M2 => r2 = r ∧ zJn M M2))) (h : ∀ (x : Int) (M1 : zM), Y G (d + 400) mm 0 lm [] M1 (fun r2 M2 => r2 = (1, x) ∧ zJn M M2) → Q (1, x) M1) : Y G (d + 400) mx 0 lx [] M Q := by
  refine Z.post hp (fun v M1 _ _ _ q => ?_)
  obtain ⟨q1, q2⟩ := q
  obtain ⟨t, x⟩ := v
  have e : t = 1 := q1
  subst e
  exact h x M1 q2
theorem pr_kindsT (hG : zP G) (hJ : zJ M) {x1 x2 x3 : Int} : Y G (d + 400) mX11_kinds 0 [(2, 1), (0, x1), (0, x2), (0, x3)] [] M (fun r M1 => r.1 = 1 ∧ Y G (d + 400) mX12_kinds 0 [(2, 234), (0, x1), (0, x2), (0, x3)] [] M1 (fun r2 M2 => r2 = r ∧ zJn M M2)) := by
  have no : ¬ ((1 ≤ x1 ∧ x1 ≤ 5) ∧ (0 ≤ x2 ∧ x2 ≤ 9) ∧ -500 ≤ x3 ∧ x3 ≤ 500) → Y G (d + 400) mX12_kinds 0 [(2, 234), (0, x1), (0, x2), (0, x3)] [] M (fun r2 M2 => r2 = (1, -1) ∧ zJn M M2) := fun q =>
    bX12_kinds_0 hG ⟨fun c1 => ⟨fun c2 => ⟨fun c3 => absurd ⟨c1, c2, c3⟩ q, fun _ => ⟨rfl, zJ_rf hJ⟩⟩, fun _ => ⟨rfl, zJ_rf hJ⟩⟩, fun _ => ⟨rfl, zJ_rf hJ⟩⟩
  refine bX11_kinds_0 hG ⟨fun c1 => ⟨fun c2 => ⟨fun c3 => ?_, fun c3 => ⟨rfl, no (fun z => c3 z.2.2)⟩⟩, fun c2 => ⟨rfl, no (fun z => c2 z.2.1)⟩⟩, fun c1 => ⟨rfl, no (fun z => c1 z.1)⟩⟩
  have b := zpl_b c2 c1 c3.1 c3.2
  have b2 := zce_b (n := x1) (v := x3) (by omega) (by omega) c3.1 c3.2
  refine s_kp (d := d + 397) hG c2 c1 zfr_rfl (zj_C hJ).1 (tr_ht hJ) (fun X fX jX eX => bX11_kinds_52 hG (bX9_countOf_0 hG ⟨fun _ => ⟨fun _ => ⟨fun _ => ⟨b.1, b.2, bX11_kinds_62 hG ⟨rfl, ?_⟩⟩, fun z => (z (by omega)).elim⟩, fun z => (z (by omega)).elim⟩, fun z => (z (by omega)).elim⟩))
  rw [eX x1 x3 c1.1 (Int.le_refl _) c3.1 c3.2]
  refine bX12_kinds_0 hG ⟨fun _ => ⟨fun _ => ⟨fun _ => ?_, fun z => absurd c3 z⟩, fun z => absurd c2 z⟩, fun z => absurd c1 z⟩
  refine m_kp (d := d + 397) hG hJ c2 c1 (zfr_sub fX (by decide)) jX (fun X2 f2 j2 e2 => bX12_kinds_42 hG ⟨b2.1, b2.2, ?_, J_tr hJ f2 j2⟩)
  rw [e2 x1 x3 c1.1 (Int.le_refl _) c3.1 c3.2]
theorem zlcmp_self (x : Int) : zlcmp x x = 0 := by unfold zlcmp; rw [if_neg (by omega), if_pos rfl]
set_option maxRecDepth 20000 in
set_option maxHeartbeats 4000000 in
theorem lc_0 (hG : zP G) (hJ : zJ M) (hv : M 2 10 ≤ 1000000) {i : Int} (hi : 0 ≤ i ∧ i + 6 ≤ ((G.2.2.2.2.2.1 (0 : Int).toNat).1 : Int)) (hL : (G.2.2.2.2.2.1 (0 : Int).toNat).1 ≤ 3072) (hk : ∀ M2, zJn M M2 → Y G (d + 400 + 1) (mLw nm) 1616 [(4, 0), (2, 1), (2, 234), (0, i)] [] M2 Q) : Y G (d + 400 + 1) (mLw nm) 228 [(4, 0), (2, 1), (2, 234), (0, i)] [] M Q := by
  refine z_aloadn dL_law_228 rfl (Or.inl rfl) ?_
  refine z_aloadn dL_law_229 rfl (Or.inr rfl) ?_
  refine z_iloadn dL_law_230 rfl ?_
  refine z_iconst dL_law_231 ki_1 ?_
  refine z_iadd dL_law_232 ⟨by omega, by omega⟩ ?_
  refine z_ialdx dL_law_233 (by decide) ⟨by omega, by omega, by omega⟩ ?_
  refine z_aloadn dL_law_234 rfl (Or.inr rfl) ?_
  refine z_iloadn dL_law_235 rfl ?_
  refine z_iconst dL_law_236 ki_2 ?_
  refine z_iadd dL_law_237 ⟨by omega, by omega⟩ ?_
  refine z_ialdx dL_law_238 (by decide) ⟨by omega, by omega, by omega⟩ ?_
  refine y_cv (mt2 := mX11_thing) (en := [(2, 1), (0, lS G (i + 1)), (0, lS G (i + 2))]) (st := []) (as := [(0, lS G (i + 1)), (0, lS G (i + 2))]) dL_law_239 lL_13 kX11_thing iX11_thing eX11_thing rfl sh1 (by decide +kernel) (Nat.le_of_ble_eq_true rfl) (Nat.le_of_ble_eq_true rfl) rfl (lw_po (pr_thing (d := d) hG hJ) (Or.inr rfl) (fun x M1 h1 => ?_))
  show Y G (d + 400 + 1) (mLw nm) 242 [(4, 0), (2, 1), (2, 234), (0, i)] [(0, x)] M1 Q
  refine z_aloadn dL_law_242 rfl (Or.inl rfl) ?_
  refine z_aloadn dL_law_243 rfl (Or.inr rfl) ?_
  refine z_iloadn dL_law_244 rfl ?_
  refine z_iconst dL_law_245 ki_1 ?_
  refine z_iadd dL_law_246 ⟨by omega, by omega⟩ ?_
  refine z_ialdx dL_law_247 (by decide) ⟨by omega, by omega, by omega⟩ ?_
  refine z_aloadn dL_law_248 rfl (Or.inr rfl) ?_
  refine z_iloadn dL_law_249 rfl ?_
  refine z_iconst dL_law_250 ki_2 ?_
  refine z_iadd dL_law_251 ⟨by omega, by omega⟩ ?_
  refine z_ialdx dL_law_252 (by decide) ⟨by omega, by omega, by omega⟩ ?_
  refine y_cv (mt2 := mX12_thing) (en := [(2, 234), (0, lS G (i + 1)), (0, lS G (i + 2))]) (st := [(0, x)]) (as := [(0, lS G (i + 1)), (0, lS G (i + 2))]) dL_law_253 lL_17 kX12_thing iX12_thing eX12_thing rfl sh234 (by decide +kernel) (Nat.le_of_ble_eq_true rfl) (Nat.le_of_ble_eq_true rfl) rfl (h1.post (fun r M2 _ _ _ q => ?_))
  obtain ⟨rfl, q2⟩ := q
  show Y G (d + 400 + 1) (mLw nm) 256 [(4, 0), (2, 1), (2, 234), (0, i)] [(0, x), (0, x)] M2 Q
  exact z_icmpeq (tgt := 1616) dL_law_256 rfl (fun _ => hk M2 q2) (fun q => absurd rfl q)
set_option maxRecDepth 20000 in
set_option maxHeartbeats 4000000 in
theorem lc_1 (hG : zP G) (hJ : zJ M) (hv : M 2 10 ≤ 1000000) {i : Int} (hi : 0 ≤ i ∧ i + 6 ≤ ((G.2.2.2.2.2.1 (0 : Int).toNat).1 : Int)) (hL : (G.2.2.2.2.2.1 (0 : Int).toNat).1 ≤ 3072) (hk : ∀ M2, zJn M M2 → Y G (d + 400 + 1) (mLw nm) 1616 [(4, 0), (2, 1), (2, 234), (0, i)] [] M2 Q) : Y G (d + 400 + 1) (mLw nm) 261 [(4, 0), (2, 1), (2, 234), (0, i)] [] M Q := by
  refine z_aloadn dL_law_261 rfl (Or.inl rfl) ?_
  refine z_aloadn dL_law_262 rfl (Or.inr rfl) ?_
  refine z_iloadn dL_law_263 rfl ?_
  refine z_iconst dL_law_264 ki_1 ?_
  refine z_iadd dL_law_265 ⟨by omega, by omega⟩ ?_
  refine z_ialdx dL_law_266 (by decide) ⟨by omega, by omega, by omega⟩ ?_
  refine z_aloadn dL_law_267 rfl (Or.inr rfl) ?_
  refine z_iloadn dL_law_268 rfl ?_
  refine z_iconst dL_law_269 ki_2 ?_
  refine z_iadd dL_law_270 ⟨by omega, by omega⟩ ?_
  refine z_ialdx dL_law_271 (by decide) ⟨by omega, by omega, by omega⟩ ?_
  refine z_aloadn dL_law_272 rfl (Or.inr rfl) ?_
  refine z_iloadn dL_law_273 rfl ?_
  refine z_iconst dL_law_274 ki_3 ?_
  refine z_iadd dL_law_275 ⟨by omega, by omega⟩ ?_
  refine z_ialdx dL_law_276 (by decide) ⟨by omega, by omega, by omega⟩ ?_
  refine y_cv (mt2 := mX11_person) (en := [(2, 1), (0, lS G (i + 1)), (0, lS G (i + 2)), (0, lS G (i + 3))]) (st := []) (as := [(0, lS G (i + 1)), (0, lS G (i + 2)), (0, lS G (i + 3))]) dL_law_277 lL_18 kX11_person iX11_person eX11_person rfl sh1 (by decide +kernel) (Nat.le_of_ble_eq_true rfl) (Nat.le_of_ble_eq_true rfl) rfl (lw_po (pr_person (d := d) hG hJ hv) (Or.inl rfl) (fun x M1 h1 => ?_))
  show Y G (d + 400 + 1) (mLw nm) 280 [(4, 0), (2, 1), (2, 234), (0, i)] [(0, x)] M1 Q
  refine z_aloadn dL_law_280 rfl (Or.inl rfl) ?_
  refine z_aloadn dL_law_281 rfl (Or.inr rfl) ?_
  refine z_iloadn dL_law_282 rfl ?_
  refine z_iconst dL_law_283 ki_1 ?_
  refine z_iadd dL_law_284 ⟨by omega, by omega⟩ ?_
  refine z_ialdx dL_law_285 (by decide) ⟨by omega, by omega, by omega⟩ ?_
  refine z_aloadn dL_law_286 rfl (Or.inr rfl) ?_
  refine z_iloadn dL_law_287 rfl ?_
  refine z_iconst dL_law_288 ki_2 ?_
  refine z_iadd dL_law_289 ⟨by omega, by omega⟩ ?_
  refine z_ialdx dL_law_290 (by decide) ⟨by omega, by omega, by omega⟩ ?_
  refine z_aloadn dL_law_291 rfl (Or.inr rfl) ?_
  refine z_iloadn dL_law_292 rfl ?_
  refine z_iconst dL_law_293 ki_3 ?_
  refine z_iadd dL_law_294 ⟨by omega, by omega⟩ ?_
  refine z_ialdx dL_law_295 (by decide) ⟨by omega, by omega, by omega⟩ ?_
  refine y_cv (mt2 := mX12_person) (en := [(2, 234), (0, lS G (i + 1)), (0, lS G (i + 2)), (0, lS G (i + 3)), (9, 0)]) (st := [(0, x)]) (as := [(0, lS G (i + 1)), (0, lS G (i + 2)), (0, lS G (i + 3))]) dL_law_296 lL_22 kX12_person iX12_person eX12_person rfl sh234 (by decide +kernel) (Nat.le_of_ble_eq_true rfl) (Nat.le_of_ble_eq_true rfl) rfl (h1.post (fun r M2 _ _ _ q => ?_))
  obtain ⟨rfl, q2⟩ := q
  show Y G (d + 400 + 1) (mLw nm) 299 [(4, 0), (2, 1), (2, 234), (0, i)] [(0, x), (0, x)] M2 Q
  exact z_icmpeq (tgt := 1616) dL_law_299 rfl (fun _ => hk M2 q2) (fun q => absurd rfl q)
set_option maxRecDepth 20000 in
set_option maxHeartbeats 4000000 in
theorem lc_2 (hG : zP G) (hJ : zJ M) (hv : M 2 10 ≤ 1000000) {i : Int} (hi : 0 ≤ i ∧ i + 6 ≤ ((G.2.2.2.2.2.1 (0 : Int).toNat).1 : Int)) (hL : (G.2.2.2.2.2.1 (0 : Int).toNat).1 ≤ 3072) (hk : ∀ M2, zJn M M2 → Y G (d + 400 + 1) (mLw nm) 1616 [(4, 0), (2, 1), (2, 234), (0, i)] [] M2 Q) : Y G (d + 400 + 1) (mLw nm) 304 [(4, 0), (2, 1), (2, 234), (0, i)] [] M Q := by
  refine z_aloadn dL_law_304 rfl (Or.inl rfl) ?_
  refine z_aloadn dL_law_305 rfl (Or.inr rfl) ?_
  refine z_iloadn dL_law_306 rfl ?_
  refine z_iconst dL_law_307 ki_1 ?_
  refine z_iadd dL_law_308 ⟨by omega, by omega⟩ ?_
  refine z_ialdx dL_law_309 (by decide) ⟨by omega, by omega, by omega⟩ ?_
  refine z_aloadn dL_law_310 rfl (Or.inr rfl) ?_
  refine z_iloadn dL_law_311 rfl ?_
  refine z_iconst dL_law_312 ki_2 ?_
  refine z_iadd dL_law_313 ⟨by omega, by omega⟩ ?_
  refine z_ialdx dL_law_314 (by decide) ⟨by omega, by omega, by omega⟩ ?_
  refine z_aloadn dL_law_315 rfl (Or.inr rfl) ?_
  refine z_iloadn dL_law_316 rfl ?_
  refine z_iconst dL_law_317 ki_3 ?_
  refine z_iadd dL_law_318 ⟨by omega, by omega⟩ ?_
  refine z_ialdx dL_law_319 (by decide) ⟨by omega, by omega, by omega⟩ ?_
  refine y_cv (mt2 := mX11_road) (en := [(2, 1), (0, lS G (i + 1)), (0, lS G (i + 2)), (0, lS G (i + 3))]) (st := []) (as := [(0, lS G (i + 1)), (0, lS G (i + 2)), (0, lS G (i + 3))]) dL_law_320 lL_23 kX11_road iX11_road eX11_road rfl sh1 (by decide +kernel) (Nat.le_of_ble_eq_true rfl) (Nat.le_of_ble_eq_true rfl) rfl (lw_po (pr_road (d := d) hG hJ hv) (Or.inr rfl) (fun x M1 h1 => ?_))
  show Y G (d + 400 + 1) (mLw nm) 323 [(4, 0), (2, 1), (2, 234), (0, i)] [(0, x)] M1 Q
  refine z_aloadn dL_law_323 rfl (Or.inl rfl) ?_
  refine z_aloadn dL_law_324 rfl (Or.inr rfl) ?_
  refine z_iloadn dL_law_325 rfl ?_
  refine z_iconst dL_law_326 ki_1 ?_
  refine z_iadd dL_law_327 ⟨by omega, by omega⟩ ?_
  refine z_ialdx dL_law_328 (by decide) ⟨by omega, by omega, by omega⟩ ?_
  refine z_aloadn dL_law_329 rfl (Or.inr rfl) ?_
  refine z_iloadn dL_law_330 rfl ?_
  refine z_iconst dL_law_331 ki_2 ?_
  refine z_iadd dL_law_332 ⟨by omega, by omega⟩ ?_
  refine z_ialdx dL_law_333 (by decide) ⟨by omega, by omega, by omega⟩ ?_
  refine z_aloadn dL_law_334 rfl (Or.inr rfl) ?_
  refine z_iloadn dL_law_335 rfl ?_
  refine z_iconst dL_law_336 ki_3 ?_
  refine z_iadd dL_law_337 ⟨by omega, by omega⟩ ?_
  refine z_ialdx dL_law_338 (by decide) ⟨by omega, by omega, by omega⟩ ?_
  refine y_cv (mt2 := mX12_road) (en := [(2, 234), (0, lS G (i + 1)), (0, lS G (i + 2)), (0, lS G (i + 3))]) (st := [(0, x)]) (as := [(0, lS G (i + 1)), (0, lS G (i + 2)), (0, lS G (i + 3))]) dL_law_339 lL_27 kX12_road iX12_road eX12_road rfl sh234 (by decide +kernel) (Nat.le_of_ble_eq_true rfl) (Nat.le_of_ble_eq_true rfl) rfl (h1.post (fun r M2 _ _ _ q => ?_))
  obtain ⟨rfl, q2⟩ := q
  show Y G (d + 400 + 1) (mLw nm) 342 [(4, 0), (2, 1), (2, 234), (0, i)] [(0, x), (0, x)] M2 Q
  exact z_icmpeq (tgt := 1616) dL_law_342 rfl (fun _ => hk M2 q2) (fun q => absurd rfl q)
set_option maxRecDepth 20000 in
set_option maxHeartbeats 4000000 in
theorem lc_3 (hG : zP G) (hJ : zJ M) (hv : M 2 10 ≤ 1000000) {i : Int} (hi : 0 ≤ i ∧ i + 6 ≤ ((G.2.2.2.2.2.1 (0 : Int).toNat).1 : Int)) (hL : (G.2.2.2.2.2.1 (0 : Int).toNat).1 ≤ 3072) (hk : ∀ M2, zJn M M2 → Y G (d + 400 + 1) (mLw nm) 1616 [(4, 0), (2, 1), (2, 234), (0, i)] [] M2 Q) : Y G (d + 400 + 1) (mLw nm) 347 [(4, 0), (2, 1), (2, 234), (0, i)] [] M Q := by
  refine z_aloadn dL_law_347 rfl (Or.inl rfl) ?_
  refine z_aloadn dL_law_348 rfl (Or.inr rfl) ?_
  refine z_iloadn dL_law_349 rfl ?_
  refine z_iconst dL_law_350 ki_1 ?_
  refine z_iadd dL_law_351 ⟨by omega, by omega⟩ ?_
  refine z_ialdx dL_law_352 (by decide) ⟨by omega, by omega, by omega⟩ ?_
  refine z_aloadn dL_law_353 rfl (Or.inr rfl) ?_
  refine z_iloadn dL_law_354 rfl ?_
  refine z_iconst dL_law_355 ki_2 ?_
  refine z_iadd dL_law_356 ⟨by omega, by omega⟩ ?_
  refine z_ialdx dL_law_357 (by decide) ⟨by omega, by omega, by omega⟩ ?_
  refine y_cv (mt2 := mX11_kin) (en := [(2, 1), (0, lS G (i + 1)), (0, lS G (i + 2))]) (st := []) (as := [(0, lS G (i + 1)), (0, lS G (i + 2))]) dL_law_358 lL_28 kX11_kin iX11_kin eX11_kin rfl sh1 (by decide +kernel) (Nat.le_of_ble_eq_true rfl) (Nat.le_of_ble_eq_true rfl) rfl (lw_po (pr_kin (d := d) hG hJ) (Or.inl rfl) (fun x M1 h1 => ?_))
  show Y G (d + 400 + 1) (mLw nm) 361 [(4, 0), (2, 1), (2, 234), (0, i)] [(0, x)] M1 Q
  refine z_aloadn dL_law_361 rfl (Or.inl rfl) ?_
  refine z_aloadn dL_law_362 rfl (Or.inr rfl) ?_
  refine z_iloadn dL_law_363 rfl ?_
  refine z_iconst dL_law_364 ki_1 ?_
  refine z_iadd dL_law_365 ⟨by omega, by omega⟩ ?_
  refine z_ialdx dL_law_366 (by decide) ⟨by omega, by omega, by omega⟩ ?_
  refine z_aloadn dL_law_367 rfl (Or.inr rfl) ?_
  refine z_iloadn dL_law_368 rfl ?_
  refine z_iconst dL_law_369 ki_2 ?_
  refine z_iadd dL_law_370 ⟨by omega, by omega⟩ ?_
  refine z_ialdx dL_law_371 (by decide) ⟨by omega, by omega, by omega⟩ ?_
  refine y_cv (mt2 := mX12_kin) (en := [(2, 234), (0, lS G (i + 1)), (0, lS G (i + 2))]) (st := [(0, x)]) (as := [(0, lS G (i + 1)), (0, lS G (i + 2))]) dL_law_372 lL_32 kX12_kin iX12_kin eX12_kin rfl sh234 (by decide +kernel) (Nat.le_of_ble_eq_true rfl) (Nat.le_of_ble_eq_true rfl) rfl (h1.post (fun r M2 _ _ _ q => ?_))
  obtain ⟨rfl, q2⟩ := q
  show Y G (d + 400 + 1) (mLw nm) 375 [(4, 0), (2, 1), (2, 234), (0, i)] [(0, x), (0, x)] M2 Q
  exact z_icmpeq (tgt := 1616) dL_law_375 rfl (fun _ => hk M2 q2) (fun q => absurd rfl q)
set_option maxRecDepth 20000 in
set_option maxHeartbeats 4000000 in
theorem lc_4 (hG : zP G) (hJ : zJ M) (hv : M 2 10 ≤ 1000000) {i : Int} (hi : 0 ≤ i ∧ i + 6 ≤ ((G.2.2.2.2.2.1 (0 : Int).toNat).1 : Int)) (hL : (G.2.2.2.2.2.1 (0 : Int).toNat).1 ≤ 3072) (hk : ∀ M2, zJn M M2 → Y G (d + 400 + 1) (mLw nm) 1616 [(4, 0), (2, 1), (2, 234), (0, i)] [] M2 Q) : Y G (d + 400 + 1) (mLw nm) 380 [(4, 0), (2, 1), (2, 234), (0, i)] [] M Q := by
  refine z_aloadn dL_law_380 rfl (Or.inl rfl) ?_
  refine z_aloadn dL_law_381 rfl (Or.inr rfl) ?_
  refine z_iloadn dL_law_382 rfl ?_
  refine z_iconst dL_law_383 ki_1 ?_
  refine z_iadd dL_law_384 ⟨by omega, by omega⟩ ?_
  refine z_ialdx dL_law_385 (by decide) ⟨by omega, by omega, by omega⟩ ?_
  refine z_aloadn dL_law_386 rfl (Or.inr rfl) ?_
  refine z_iloadn dL_law_387 rfl ?_
  refine z_iconst dL_law_388 ki_2 ?_
  refine z_iadd dL_law_389 ⟨by omega, by omega⟩ ?_
  refine z_ialdx dL_law_390 (by decide) ⟨by omega, by omega, by omega⟩ ?_
  refine y_cv (mt2 := mX11_way) (en := [(2, 1), (0, lS G (i + 1)), (0, lS G (i + 2))]) (st := []) (as := [(0, lS G (i + 1)), (0, lS G (i + 2))]) dL_law_391 lL_33 kX11_way iX11_way eX11_way rfl sh1 (by decide +kernel) (Nat.le_of_ble_eq_true rfl) (Nat.le_of_ble_eq_true rfl) rfl (lw_po (pr_way (d := d) hG hJ) (Or.inl rfl) (fun x M1 h1 => ?_))
  show Y G (d + 400 + 1) (mLw nm) 394 [(4, 0), (2, 1), (2, 234), (0, i)] [(0, x)] M1 Q
  refine z_aloadn dL_law_394 rfl (Or.inl rfl) ?_
  refine z_aloadn dL_law_395 rfl (Or.inr rfl) ?_
  refine z_iloadn dL_law_396 rfl ?_
  refine z_iconst dL_law_397 ki_1 ?_
  refine z_iadd dL_law_398 ⟨by omega, by omega⟩ ?_
  refine z_ialdx dL_law_399 (by decide) ⟨by omega, by omega, by omega⟩ ?_
  refine z_aloadn dL_law_400 rfl (Or.inr rfl) ?_
  refine z_iloadn dL_law_401 rfl ?_
  refine z_iconst dL_law_402 ki_2 ?_
  refine z_iadd dL_law_403 ⟨by omega, by omega⟩ ?_
  refine z_ialdx dL_law_404 (by decide) ⟨by omega, by omega, by omega⟩ ?_
  refine y_cv (mt2 := mX12_way) (en := [(2, 234), (0, lS G (i + 1)), (0, lS G (i + 2))]) (st := [(0, x)]) (as := [(0, lS G (i + 1)), (0, lS G (i + 2))]) dL_law_405 lL_36 kX12_way iX12_way eX12_way rfl sh234 (by decide +kernel) (Nat.le_of_ble_eq_true rfl) (Nat.le_of_ble_eq_true rfl) rfl (h1.post (fun r M2 _ _ _ q => ?_))
  obtain ⟨rfl, q2⟩ := q
  show Y G (d + 400 + 1) (mLw nm) 408 [(4, 0), (2, 1), (2, 234), (0, i)] [(0, x), (0, x)] M2 Q
  exact z_icmpeq (tgt := 1616) dL_law_408 rfl (fun _ => hk M2 q2) (fun q => absurd rfl q)
set_option maxRecDepth 20000 in
set_option maxHeartbeats 4000000 in
theorem lc_5 (hG : zP G) (hJ : zJ M) (hv : M 2 10 ≤ 1000000) {i : Int} (hi : 0 ≤ i ∧ i + 6 ≤ ((G.2.2.2.2.2.1 (0 : Int).toNat).1 : Int)) (hL : (G.2.2.2.2.2.1 (0 : Int).toNat).1 ≤ 3072) (hk : ∀ M2, zJn M M2 → Y G (d + 400 + 1) (mLw nm) 1616 [(4, 0), (2, 1), (2, 234), (0, i)] [] M2 Q) : Y G (d + 400 + 1) (mLw nm) 413 [(4, 0), (2, 1), (2, 234), (0, i)] [] M Q := by
  refine z_aloadn dL_law_413 rfl (Or.inl rfl) ?_
  refine z_aloadn dL_law_414 rfl (Or.inr rfl) ?_
  refine z_iloadn dL_law_415 rfl ?_
  refine z_iconst dL_law_416 ki_1 ?_
  refine z_iadd dL_law_417 ⟨by omega, by omega⟩ ?_
  refine z_ialdx dL_law_418 (by decide) ⟨by omega, by omega, by omega⟩ ?_
  refine z_aloadn dL_law_419 rfl (Or.inr rfl) ?_
  refine z_iloadn dL_law_420 rfl ?_
  refine z_iconst dL_law_421 ki_2 ?_
  refine z_iadd dL_law_422 ⟨by omega, by omega⟩ ?_
  refine z_ialdx dL_law_423 (by decide) ⟨by omega, by omega, by omega⟩ ?_
  refine z_aloadn dL_law_424 rfl (Or.inr rfl) ?_
  refine z_iloadn dL_law_425 rfl ?_
  refine z_iconst dL_law_426 ki_3 ?_
  refine z_iadd dL_law_427 ⟨by omega, by omega⟩ ?_
  refine z_ialdx dL_law_428 (by decide) ⟨by omega, by omega, by omega⟩ ?_
  refine z_aloadn dL_law_429 rfl (Or.inr rfl) ?_
  refine z_iloadn dL_law_430 rfl ?_
  refine z_iconst dL_law_431 ki_4 ?_
  refine z_iadd dL_law_432 ⟨by omega, by omega⟩ ?_
  refine z_ialdx dL_law_433 (by decide) ⟨by omega, by omega, by omega⟩ ?_
  refine z_aloadn dL_law_434 rfl (Or.inr rfl) ?_
  refine z_iloadn dL_law_435 rfl ?_
  refine z_iconst dL_law_436 ki_5 ?_
  refine z_iadd dL_law_437 ⟨by omega, by omega⟩ ?_
  refine z_ialdx dL_law_438 (by decide) ⟨by omega, by omega, by omega⟩ ?_
  refine y_cv (mt2 := mX11_feed) (en := [(2, 1), (0, lS G (i + 1)), (0, lS G (i + 2)), (0, lS G (i + 3)), (0, lS G (i + 4)), (0, lS G (i + 5))]) (st := []) (as := [(0, lS G (i + 1)), (0, lS G (i + 2)), (0, lS G (i + 3)), (0, lS G (i + 4)), (0, lS G (i + 5))]) dL_law_439 lL_37 kX11_feed iX11_feed eX11_feed rfl sh1 (by decide +kernel) (Nat.le_of_ble_eq_true rfl) (Nat.le_of_ble_eq_true rfl) rfl (lw_po (pr_feed (d := d) hG hJ) (Or.inl rfl) (fun x M1 h1 => ?_))
  show Y G (d + 400 + 1) (mLw nm) 442 [(4, 0), (2, 1), (2, 234), (0, i)] [(0, x)] M1 Q
  refine z_aloadn dL_law_442 rfl (Or.inl rfl) ?_
  refine z_aloadn dL_law_443 rfl (Or.inr rfl) ?_
  refine z_iloadn dL_law_444 rfl ?_
  refine z_iconst dL_law_445 ki_1 ?_
  refine z_iadd dL_law_446 ⟨by omega, by omega⟩ ?_
  refine z_ialdx dL_law_447 (by decide) ⟨by omega, by omega, by omega⟩ ?_
  refine z_aloadn dL_law_448 rfl (Or.inr rfl) ?_
  refine z_iloadn dL_law_449 rfl ?_
  refine z_iconst dL_law_450 ki_2 ?_
  refine z_iadd dL_law_451 ⟨by omega, by omega⟩ ?_
  refine z_ialdx dL_law_452 (by decide) ⟨by omega, by omega, by omega⟩ ?_
  refine z_aloadn dL_law_453 rfl (Or.inr rfl) ?_
  refine z_iloadn dL_law_454 rfl ?_
  refine z_iconst dL_law_455 ki_3 ?_
  refine z_iadd dL_law_456 ⟨by omega, by omega⟩ ?_
  refine z_ialdx dL_law_457 (by decide) ⟨by omega, by omega, by omega⟩ ?_
  refine z_aloadn dL_law_458 rfl (Or.inr rfl) ?_
  refine z_iloadn dL_law_459 rfl ?_
  refine z_iconst dL_law_460 ki_4 ?_
  refine z_iadd dL_law_461 ⟨by omega, by omega⟩ ?_
  refine z_ialdx dL_law_462 (by decide) ⟨by omega, by omega, by omega⟩ ?_
  refine z_aloadn dL_law_463 rfl (Or.inr rfl) ?_
  refine z_iloadn dL_law_464 rfl ?_
  refine z_iconst dL_law_465 ki_5 ?_
  refine z_iadd dL_law_466 ⟨by omega, by omega⟩ ?_
  refine z_ialdx dL_law_467 (by decide) ⟨by omega, by omega, by omega⟩ ?_
  refine y_cv (mt2 := mX12_feed) (en := [(2, 234), (0, lS G (i + 1)), (0, lS G (i + 2)), (0, lS G (i + 3)), (0, lS G (i + 4)), (0, lS G (i + 5))]) (st := [(0, x)]) (as := [(0, lS G (i + 1)), (0, lS G (i + 2)), (0, lS G (i + 3)), (0, lS G (i + 4)), (0, lS G (i + 5))]) dL_law_468 lL_41 kX12_feed iX12_feed eX12_feed rfl sh234 (by decide +kernel) (Nat.le_of_ble_eq_true rfl) (Nat.le_of_ble_eq_true rfl) rfl (h1.post (fun r M2 _ _ _ q => ?_))
  obtain ⟨rfl, q2⟩ := q
  show Y G (d + 400 + 1) (mLw nm) 471 [(4, 0), (2, 1), (2, 234), (0, i)] [(0, x), (0, x)] M2 Q
  exact z_icmpeq (tgt := 1616) dL_law_471 rfl (fun _ => hk M2 q2) (fun q => absurd rfl q)
set_option maxRecDepth 20000 in
set_option maxHeartbeats 4000000 in
theorem lc_6 (hG : zP G) (hJ : zJ M) (hv : M 2 10 ≤ 1000000) {i : Int} (hi : 0 ≤ i ∧ i + 6 ≤ ((G.2.2.2.2.2.1 (0 : Int).toNat).1 : Int)) (hL : (G.2.2.2.2.2.1 (0 : Int).toNat).1 ≤ 3072) (hk : ∀ M2, zJn M M2 → Y G (d + 400 + 1) (mLw nm) 1616 [(4, 0), (2, 1), (2, 234), (0, i)] [] M2 Q) : Y G (d + 400 + 1) (mLw nm) 476 [(4, 0), (2, 1), (2, 234), (0, i)] [] M Q := by
  refine z_aloadn dL_law_476 rfl (Or.inl rfl) ?_
  refine z_aloadn dL_law_477 rfl (Or.inr rfl) ?_
  refine z_iloadn dL_law_478 rfl ?_
  refine z_iconst dL_law_479 ki_1 ?_
  refine z_iadd dL_law_480 ⟨by omega, by omega⟩ ?_
  refine z_ialdx dL_law_481 (by decide) ⟨by omega, by omega, by omega⟩ ?_
  refine y_cv (mt2 := mX11_end) (en := [(2, 1), (0, lS G (i + 1))]) (st := []) (as := [(0, lS G (i + 1))]) dL_law_482 lL_42 kX11_end iX11_end eX11_end rfl sh1 (by decide +kernel) (Nat.le_of_ble_eq_true rfl) (Nat.le_of_ble_eq_true rfl) rfl (lw_po (pr_end (d := d) hG hJ) (Or.inl rfl) (fun x M1 h1 => ?_))
  show Y G (d + 400 + 1) (mLw nm) 485 [(4, 0), (2, 1), (2, 234), (0, i)] [(0, x)] M1 Q
  refine z_aloadn dL_law_485 rfl (Or.inl rfl) ?_
  refine z_aloadn dL_law_486 rfl (Or.inr rfl) ?_
  refine z_iloadn dL_law_487 rfl ?_
  refine z_iconst dL_law_488 ki_1 ?_
  refine z_iadd dL_law_489 ⟨by omega, by omega⟩ ?_
  refine z_ialdx dL_law_490 (by decide) ⟨by omega, by omega, by omega⟩ ?_
  refine y_cv (mt2 := mX12_end) (en := [(2, 234), (0, lS G (i + 1))]) (st := [(0, x)]) (as := [(0, lS G (i + 1))]) dL_law_491 lL_46 kX12_end iX12_end eX12_end rfl sh234 (by decide +kernel) (Nat.le_of_ble_eq_true rfl) (Nat.le_of_ble_eq_true rfl) rfl (h1.post (fun r M2 _ _ _ q => ?_))
  obtain ⟨rfl, q2⟩ := q
  show Y G (d + 400 + 1) (mLw nm) 494 [(4, 0), (2, 1), (2, 234), (0, i)] [(0, x), (0, x)] M2 Q
  exact z_icmpeq (tgt := 1616) dL_law_494 rfl (fun _ => hk M2 q2) (fun q => absurd rfl q)
set_option maxRecDepth 20000 in
set_option maxHeartbeats 4000000 in
theorem lc_7 (hG : zP G) (hJ : zJ M) (hv : M 2 10 ≤ 1000000) {i : Int} (hi : 0 ≤ i ∧ i + 6 ≤ ((G.2.2.2.2.2.1 (0 : Int).toNat).1 : Int)) (hL : (G.2.2.2.2.2.1 (0 : Int).toNat).1 ≤ 3072) (hk : ∀ M2, zJn M M2 → Y G (d + 400 + 1) (mLw nm) 1616 [(4, 0), (2, 1), (2, 234), (0, i)] [] M2 Q) : Y G (d + 400 + 1) (mLw nm) 499 [(4, 0), (2, 1), (2, 234), (0, i)] [] M Q := by
  refine z_aloadn dL_law_499 rfl (Or.inl rfl) ?_
  refine y_cv (mt2 := mX11_text) (en := [(2, 1), (9, 0)]) (st := []) (as := []) dL_law_500 lL_47 kX11_text iX11_text eX11_text rfl sh1 (by decide +kernel) (Nat.le_of_ble_eq_true rfl) (Nat.le_of_ble_eq_true rfl) rfl (lw_po (pr_text (d := d) hG (lx_Hok hG) hJ) (Or.inl rfl) (fun x M1 h1 => ?_))
  show Y G (d + 400 + 1) (mLw nm) 503 [(4, 0), (2, 1), (2, 234), (0, i)] [(0, x)] M1 Q
  refine z_aloadn dL_law_503 rfl (Or.inl rfl) ?_
  refine y_cv (mt2 := mX12_text) (en := [(2, 234)]) (st := [(0, x)]) (as := []) dL_law_504 lL_51 kX12_text iX12_text eX12_text rfl sh234 (by decide +kernel) (Nat.le_of_ble_eq_true rfl) (Nat.le_of_ble_eq_true rfl) rfl (h1.post (fun r M2 _ _ _ q => ?_))
  obtain ⟨rfl, q2⟩ := q
  show Y G (d + 400 + 1) (mLw nm) 507 [(4, 0), (2, 1), (2, 234), (0, i)] [(0, x), (0, x)] M2 Q
  exact z_icmpeq (tgt := 1616) dL_law_507 rfl (fun _ => hk M2 q2) (fun q => absurd rfl q)
set_option maxRecDepth 20000 in
set_option maxHeartbeats 4000000 in
theorem lc_8 (hG : zP G) (hJ : zJ M) (hv : M 2 10 ≤ 1000000) {i : Int} (hi : 0 ≤ i ∧ i + 6 ≤ ((G.2.2.2.2.2.1 (0 : Int).toNat).1 : Int)) (hL : (G.2.2.2.2.2.1 (0 : Int).toNat).1 ≤ 3072) (hk : ∀ M2, zJn M M2 → Y G (d + 400 + 1) (mLw nm) 1616 [(4, 0), (2, 1), (2, 234), (0, i)] [] M2 Q) : Y G (d + 400 + 1) (mLw nm) 512 [(4, 0), (2, 1), (2, 234), (0, i)] [] M Q := by
  refine z_aloadn dL_law_512 rfl (Or.inl rfl) ?_
  refine z_aloadn dL_law_513 rfl (Or.inr rfl) ?_
  refine z_iloadn dL_law_514 rfl ?_
  refine z_iconst dL_law_515 ki_1 ?_
  refine z_iadd dL_law_516 ⟨by omega, by omega⟩ ?_
  refine z_ialdx dL_law_517 (by decide) ⟨by omega, by omega, by omega⟩ ?_
  refine y_cv (mt2 := mX11_fault) (en := [(2, 1), (0, lS G (i + 1))]) (st := []) (as := [(0, lS G (i + 1))]) dL_law_518 lL_52 kX11_fault iX11_fault eX11_fault rfl sh1 (by decide +kernel) (Nat.le_of_ble_eq_true rfl) (Nat.le_of_ble_eq_true rfl) rfl (lw_po (pr_fault (d := d) hG hJ) (Or.inl rfl) (fun x M1 h1 => ?_))
  show Y G (d + 400 + 1) (mLw nm) 521 [(4, 0), (2, 1), (2, 234), (0, i)] [(0, x)] M1 Q
  refine z_aloadn dL_law_521 rfl (Or.inl rfl) ?_
  refine z_aloadn dL_law_522 rfl (Or.inr rfl) ?_
  refine z_iloadn dL_law_523 rfl ?_
  refine z_iconst dL_law_524 ki_1 ?_
  refine z_iadd dL_law_525 ⟨by omega, by omega⟩ ?_
  refine z_ialdx dL_law_526 (by decide) ⟨by omega, by omega, by omega⟩ ?_
  refine y_cv (mt2 := mX12_fault) (en := [(2, 234), (0, lS G (i + 1))]) (st := [(0, x)]) (as := [(0, lS G (i + 1))]) dL_law_527 lL_55 kX12_fault iX12_fault eX12_fault rfl sh234 (by decide +kernel) (Nat.le_of_ble_eq_true rfl) (Nat.le_of_ble_eq_true rfl) rfl (h1.post (fun r M2 _ _ _ q => ?_))
  obtain ⟨rfl, q2⟩ := q
  show Y G (d + 400 + 1) (mLw nm) 530 [(4, 0), (2, 1), (2, 234), (0, i)] [(0, x), (0, x)] M2 Q
  exact z_icmpeq (tgt := 1616) dL_law_530 rfl (fun _ => hk M2 q2) (fun q => absurd rfl q)
set_option maxRecDepth 20000 in
set_option maxHeartbeats 4000000 in
theorem lc_9 (hG : zP G) (hJ : zJ M) (hv : M 2 10 ≤ 1000000) {i : Int} (hi : 0 ≤ i ∧ i + 6 ≤ ((G.2.2.2.2.2.1 (0 : Int).toNat).1 : Int)) (hL : (G.2.2.2.2.2.1 (0 : Int).toNat).1 ≤ 3072) (hk : ∀ M2, zJn M M2 → Y G (d + 400 + 1) (mLw nm) 1616 [(4, 0), (2, 1), (2, 234), (0, i)] [] M2 Q) : Y G (d + 400 + 1) (mLw nm) 535 [(4, 0), (2, 1), (2, 234), (0, i)] [] M Q := by
  refine z_aloadn dL_law_535 rfl (Or.inl rfl) ?_
  refine z_aloadn dL_law_536 rfl (Or.inr rfl) ?_
  refine z_iloadn dL_law_537 rfl ?_
  refine z_iconst dL_law_538 ki_1 ?_
  refine z_iadd dL_law_539 ⟨by omega, by omega⟩ ?_
  refine z_ialdx dL_law_540 (by decide) ⟨by omega, by omega, by omega⟩ ?_
  refine y_cv (mt2 := mX11_played) (en := [(2, 1), (0, lS G (i + 1)), (9, 0), (9, 0)]) (st := []) (as := [(0, lS G (i + 1))]) dL_law_541 lL_56 kX11_played iX11_played eX11_played rfl sh1 (by decide +kernel) (Nat.le_of_ble_eq_true rfl) (Nat.le_of_ble_eq_true rfl) rfl (lw_po (pr_played (d := d) hG hJ hv) (Or.inl rfl) (fun x M1 h1 => ?_))
  show Y G (d + 400 + 1) (mLw nm) 544 [(4, 0), (2, 1), (2, 234), (0, i)] [(0, x)] M1 Q
  refine z_aloadn dL_law_544 rfl (Or.inl rfl) ?_
  refine z_aloadn dL_law_545 rfl (Or.inr rfl) ?_
  refine z_iloadn dL_law_546 rfl ?_
  refine z_iconst dL_law_547 ki_1 ?_
  refine z_iadd dL_law_548 ⟨by omega, by omega⟩ ?_
  refine z_ialdx dL_law_549 (by decide) ⟨by omega, by omega, by omega⟩ ?_
  refine y_cv (mt2 := mX12_played) (en := [(2, 234), (0, lS G (i + 1)), (9, 0)]) (st := [(0, x)]) (as := [(0, lS G (i + 1))]) dL_law_550 lL_59 kX12_played iX12_played eX12_played rfl sh234 (by decide +kernel) (Nat.le_of_ble_eq_true rfl) (Nat.le_of_ble_eq_true rfl) rfl (h1.post (fun r M2 _ _ _ q => ?_))
  obtain ⟨rfl, q2⟩ := q
  show Y G (d + 400 + 1) (mLw nm) 553 [(4, 0), (2, 1), (2, 234), (0, i)] [(0, x), (0, x)] M2 Q
  exact z_icmpeq (tgt := 1616) dL_law_553 rfl (fun _ => hk M2 q2) (fun q => absurd rfl q)
set_option maxRecDepth 20000 in
set_option maxHeartbeats 4000000 in
theorem lc_10 (hG : zP G) (hJ : zJ M) (hv : M 2 10 ≤ 1000000) {i : Int} (hi : 0 ≤ i ∧ i + 6 ≤ ((G.2.2.2.2.2.1 (0 : Int).toNat).1 : Int)) (hL : (G.2.2.2.2.2.1 (0 : Int).toNat).1 ≤ 3072) (hk : ∀ M2, zJn M M2 → Y G (d + 400 + 1) (mLw nm) 1616 [(4, 0), (2, 1), (2, 234), (0, i)] [] M2 Q) : Y G (d + 400 + 1) (mLw nm) 558 [(4, 0), (2, 1), (2, 234), (0, i)] [] M Q := by
  refine z_aloadn dL_law_558 rfl (Or.inl rfl) ?_
  refine z_aloadn dL_law_559 rfl (Or.inr rfl) ?_
  refine z_iloadn dL_law_560 rfl ?_
  refine z_iconst dL_law_561 ki_1 ?_
  refine z_iadd dL_law_562 ⟨by omega, by omega⟩ ?_
  refine z_ialdx dL_law_563 (by decide) ⟨by omega, by omega, by omega⟩ ?_
  refine y_cv (mt2 := mX11_equalities) (en := [(2, 1), (0, lS G (i + 1))]) (st := []) (as := [(0, lS G (i + 1))]) dL_law_564 lL_60 kX11_equalities iX11_equalities eX11_equalities rfl sh1 (by decide +kernel) (Nat.le_of_ble_eq_true rfl) (Nat.le_of_ble_eq_true rfl) rfl (lw_po (pr_equalities (d := d) hG hJ) (Or.inr rfl) (fun x M1 h1 => ?_))
  show Y G (d + 400 + 1) (mLw nm) 567 [(4, 0), (2, 1), (2, 234), (0, i)] [(0, x)] M1 Q
  refine z_aloadn dL_law_567 rfl (Or.inl rfl) ?_
  refine z_aloadn dL_law_568 rfl (Or.inr rfl) ?_
  refine z_iloadn dL_law_569 rfl ?_
  refine z_iconst dL_law_570 ki_1 ?_
  refine z_iadd dL_law_571 ⟨by omega, by omega⟩ ?_
  refine z_ialdx dL_law_572 (by decide) ⟨by omega, by omega, by omega⟩ ?_
  refine y_cv (mt2 := mX12_equalities) (en := [(2, 234), (0, lS G (i + 1))]) (st := [(0, x)]) (as := [(0, lS G (i + 1))]) dL_law_573 lL_64 kX12_equalities iX12_equalities eX12_equalities rfl sh234 (by decide +kernel) (Nat.le_of_ble_eq_true rfl) (Nat.le_of_ble_eq_true rfl) rfl (h1.post (fun r M2 _ _ _ q => ?_))
  obtain ⟨rfl, q2⟩ := q
  show Y G (d + 400 + 1) (mLw nm) 576 [(4, 0), (2, 1), (2, 234), (0, i)] [(0, x), (0, x)] M2 Q
  exact z_icmpeq (tgt := 1616) dL_law_576 rfl (fun _ => hk M2 q2) (fun q => absurd rfl q)
set_option maxRecDepth 20000 in
set_option maxHeartbeats 4000000 in
theorem lc_11 (hG : zP G) (hJ : zJ M) (hv : M 2 10 ≤ 1000000) {i : Int} (hi : 0 ≤ i ∧ i + 6 ≤ ((G.2.2.2.2.2.1 (0 : Int).toNat).1 : Int)) (hL : (G.2.2.2.2.2.1 (0 : Int).toNat).1 ≤ 3072) (hk : ∀ M2, zJn M M2 → Y G (d + 400 + 1) (mLw nm) 1616 [(4, 0), (2, 1), (2, 234), (0, i)] [] M2 Q) : Y G (d + 400 + 1) (mLw nm) 581 [(4, 0), (2, 1), (2, 234), (0, i)] [] M Q := by
  refine z_aloadn dL_law_581 rfl (Or.inl rfl) ?_
  refine z_aloadn dL_law_582 rfl (Or.inr rfl) ?_
  refine z_iloadn dL_law_583 rfl ?_
  refine z_iconst dL_law_584 ki_1 ?_
  refine z_iadd dL_law_585 ⟨by omega, by omega⟩ ?_
  refine z_ialdx dL_law_586 (by decide) ⟨by omega, by omega, by omega⟩ ?_
  refine z_aloadn dL_law_587 rfl (Or.inr rfl) ?_
  refine z_iloadn dL_law_588 rfl ?_
  refine z_iconst dL_law_589 ki_2 ?_
  refine z_iadd dL_law_590 ⟨by omega, by omega⟩ ?_
  refine z_ialdx dL_law_591 (by decide) ⟨by omega, by omega, by omega⟩ ?_
  refine z_aloadn dL_law_592 rfl (Or.inr rfl) ?_
  refine z_iloadn dL_law_593 rfl ?_
  refine z_iconst dL_law_594 ki_3 ?_
  refine z_iadd dL_law_595 ⟨by omega, by omega⟩ ?_
  refine z_ialdx dL_law_596 (by decide) ⟨by omega, by omega, by omega⟩ ?_
  refine z_aloadn dL_law_597 rfl (Or.inr rfl) ?_
  refine z_iloadn dL_law_598 rfl ?_
  refine z_iconst dL_law_599 ki_4 ?_
  refine z_iadd dL_law_600 ⟨by omega, by omega⟩ ?_
  refine z_ialdx dL_law_601 (by decide) ⟨by omega, by omega, by omega⟩ ?_
  refine z_aloadn dL_law_602 rfl (Or.inr rfl) ?_
  refine z_iloadn dL_law_603 rfl ?_
  refine z_iconst dL_law_604 ki_5 ?_
  refine z_iadd dL_law_605 ⟨by omega, by omega⟩ ?_
  refine z_ialdx dL_law_606 (by decide) ⟨by omega, by omega, by omega⟩ ?_
  refine y_cv (mt2 := mX11_pupil) (en := [(2, 1), (0, lS G (i + 1)), (0, lS G (i + 2)), (0, lS G (i + 3)), (0, lS G (i + 4)), (0, lS G (i + 5)), (9, 0)]) (st := []) (as := [(0, lS G (i + 1)), (0, lS G (i + 2)), (0, lS G (i + 3)), (0, lS G (i + 4)), (0, lS G (i + 5))]) dL_law_607 lL_65 kX11_pupil iX11_pupil eX11_pupil rfl sh1 (by decide +kernel) (Nat.le_of_ble_eq_true rfl) (Nat.le_of_ble_eq_true rfl) rfl (lw_po (pr_pupil (d := d) hG hJ) (Or.inl rfl) (fun x M1 h1 => ?_))
  show Y G (d + 400 + 1) (mLw nm) 610 [(4, 0), (2, 1), (2, 234), (0, i)] [(0, x)] M1 Q
  refine z_aloadn dL_law_610 rfl (Or.inl rfl) ?_
  refine z_aloadn dL_law_611 rfl (Or.inr rfl) ?_
  refine z_iloadn dL_law_612 rfl ?_
  refine z_iconst dL_law_613 ki_1 ?_
  refine z_iadd dL_law_614 ⟨by omega, by omega⟩ ?_
  refine z_ialdx dL_law_615 (by decide) ⟨by omega, by omega, by omega⟩ ?_
  refine z_aloadn dL_law_616 rfl (Or.inr rfl) ?_
  refine z_iloadn dL_law_617 rfl ?_
  refine z_iconst dL_law_618 ki_2 ?_
  refine z_iadd dL_law_619 ⟨by omega, by omega⟩ ?_
  refine z_ialdx dL_law_620 (by decide) ⟨by omega, by omega, by omega⟩ ?_
  refine z_aloadn dL_law_621 rfl (Or.inr rfl) ?_
  refine z_iloadn dL_law_622 rfl ?_
  refine z_iconst dL_law_623 ki_3 ?_
  refine z_iadd dL_law_624 ⟨by omega, by omega⟩ ?_
  refine z_ialdx dL_law_625 (by decide) ⟨by omega, by omega, by omega⟩ ?_
  refine z_aloadn dL_law_626 rfl (Or.inr rfl) ?_
  refine z_iloadn dL_law_627 rfl ?_
  refine z_iconst dL_law_628 ki_4 ?_
  refine z_iadd dL_law_629 ⟨by omega, by omega⟩ ?_
  refine z_ialdx dL_law_630 (by decide) ⟨by omega, by omega, by omega⟩ ?_
  refine z_aloadn dL_law_631 rfl (Or.inr rfl) ?_
  refine z_iloadn dL_law_632 rfl ?_
  refine z_iconst dL_law_633 ki_5 ?_
  refine z_iadd dL_law_634 ⟨by omega, by omega⟩ ?_
  refine z_ialdx dL_law_635 (by decide) ⟨by omega, by omega, by omega⟩ ?_
  refine y_cv (mt2 := mX12_pupil) (en := [(2, 234), (0, lS G (i + 1)), (0, lS G (i + 2)), (0, lS G (i + 3)), (0, lS G (i + 4)), (0, lS G (i + 5)), (9, 0)]) (st := [(0, x)]) (as := [(0, lS G (i + 1)), (0, lS G (i + 2)), (0, lS G (i + 3)), (0, lS G (i + 4)), (0, lS G (i + 5))]) dL_law_636 lL_68 kX12_pupil iX12_pupil eX12_pupil rfl sh234 (by decide +kernel) (Nat.le_of_ble_eq_true rfl) (Nat.le_of_ble_eq_true rfl) rfl (h1.post (fun r M2 _ _ _ q => ?_))
  obtain ⟨rfl, q2⟩ := q
  show Y G (d + 400 + 1) (mLw nm) 639 [(4, 0), (2, 1), (2, 234), (0, i)] [(0, x), (0, x)] M2 Q
  exact z_icmpeq (tgt := 1616) dL_law_639 rfl (fun _ => hk M2 q2) (fun q => absurd rfl q)
set_option maxRecDepth 20000 in
set_option maxHeartbeats 4000000 in
theorem lc_12 (hG : zP G) (hJ : zJ M) (hv : M 2 10 ≤ 1000000) {i : Int} (hi : 0 ≤ i ∧ i + 6 ≤ ((G.2.2.2.2.2.1 (0 : Int).toNat).1 : Int)) (hL : (G.2.2.2.2.2.1 (0 : Int).toNat).1 ≤ 3072) (hk : ∀ M2, zJn M M2 → Y G (d + 400 + 1) (mLw nm) 1616 [(4, 0), (2, 1), (2, 234), (0, i)] [] M2 Q) : Y G (d + 400 + 1) (mLw nm) 644 [(4, 0), (2, 1), (2, 234), (0, i)] [] M Q := by
  refine z_aloadn dL_law_644 rfl (Or.inl rfl) ?_
  refine z_aloadn dL_law_645 rfl (Or.inr rfl) ?_
  refine z_iloadn dL_law_646 rfl ?_
  refine z_iconst dL_law_647 ki_1 ?_
  refine z_iadd dL_law_648 ⟨by omega, by omega⟩ ?_
  refine z_ialdx dL_law_649 (by decide) ⟨by omega, by omega, by omega⟩ ?_
  refine y_cv (mt2 := mX11_answer) (en := [(2, 1), (0, lS G (i + 1))]) (st := []) (as := [(0, lS G (i + 1))]) dL_law_650 lL_69 kX11_answer iX11_answer eX11_answer rfl sh1 (by decide +kernel) (Nat.le_of_ble_eq_true rfl) (Nat.le_of_ble_eq_true rfl) rfl (lw_po (pr_answer (d := d) hG hJ) (Or.inr rfl) (fun x M1 h1 => ?_))
  show Y G (d + 400 + 1) (mLw nm) 653 [(4, 0), (2, 1), (2, 234), (0, i)] [(0, x)] M1 Q
  refine z_aloadn dL_law_653 rfl (Or.inl rfl) ?_
  refine z_aloadn dL_law_654 rfl (Or.inr rfl) ?_
  refine z_iloadn dL_law_655 rfl ?_
  refine z_iconst dL_law_656 ki_1 ?_
  refine z_iadd dL_law_657 ⟨by omega, by omega⟩ ?_
  refine z_ialdx dL_law_658 (by decide) ⟨by omega, by omega, by omega⟩ ?_
  refine y_cv (mt2 := mX12_answer) (en := [(2, 234), (0, lS G (i + 1))]) (st := [(0, x)]) (as := [(0, lS G (i + 1))]) dL_law_659 lL_72 kX12_answer iX12_answer eX12_answer rfl sh234 (by decide +kernel) (Nat.le_of_ble_eq_true rfl) (Nat.le_of_ble_eq_true rfl) rfl (h1.post (fun r M2 _ _ _ q => ?_))
  obtain ⟨rfl, q2⟩ := q
  show Y G (d + 400 + 1) (mLw nm) 662 [(4, 0), (2, 1), (2, 234), (0, i)] [(0, x), (0, x)] M2 Q
  exact z_icmpeq (tgt := 1616) dL_law_662 rfl (fun _ => hk M2 q2) (fun q => absurd rfl q)
set_option maxRecDepth 20000 in
set_option maxHeartbeats 4000000 in
theorem lc_13 (hG : zP G) (hJ : zJ M) (hv : M 2 10 ≤ 1000000) {i : Int} (hi : 0 ≤ i ∧ i + 6 ≤ ((G.2.2.2.2.2.1 (0 : Int).toNat).1 : Int)) (hL : (G.2.2.2.2.2.1 (0 : Int).toNat).1 ≤ 3072) (hk : ∀ M2, zJn M M2 → Y G (d + 400 + 1) (mLw nm) 1616 [(4, 0), (2, 1), (2, 234), (0, i)] [] M2 Q) : Y G (d + 400 + 1) (mLw nm) 667 [(4, 0), (2, 1), (2, 234), (0, i)] [] M Q := by
  refine z_aloadn dL_law_667 rfl (Or.inl rfl) ?_
  refine z_aloadn dL_law_668 rfl (Or.inr rfl) ?_
  refine z_iloadn dL_law_669 rfl ?_
  refine z_iconst dL_law_670 ki_1 ?_
  refine z_iadd dL_law_671 ⟨by omega, by omega⟩ ?_
  refine z_ialdx dL_law_672 (by decide) ⟨by omega, by omega, by omega⟩ ?_
  refine z_aloadn dL_law_673 rfl (Or.inr rfl) ?_
  refine z_iloadn dL_law_674 rfl ?_
  refine z_iconst dL_law_675 ki_2 ?_
  refine z_iadd dL_law_676 ⟨by omega, by omega⟩ ?_
  refine z_ialdx dL_law_677 (by decide) ⟨by omega, by omega, by omega⟩ ?_
  refine y_cv (mt2 := mX11_of) (en := [(2, 1), (0, lS G (i + 1)), (0, lS G (i + 2))]) (st := []) (as := [(0, lS G (i + 1)), (0, lS G (i + 2))]) dL_law_678 lL_73 kX11_of iX11_of eX11_of rfl sh1 (by decide +kernel) (Nat.le_of_ble_eq_true rfl) (Nat.le_of_ble_eq_true rfl) rfl (lw_po (pr_of (d := d) hG hJ) (Or.inl rfl) (fun x M1 h1 => ?_))
  show Y G (d + 400 + 1) (mLw nm) 681 [(4, 0), (2, 1), (2, 234), (0, i)] [(0, x)] M1 Q
  refine z_aloadn dL_law_681 rfl (Or.inl rfl) ?_
  refine z_aloadn dL_law_682 rfl (Or.inr rfl) ?_
  refine z_iloadn dL_law_683 rfl ?_
  refine z_iconst dL_law_684 ki_1 ?_
  refine z_iadd dL_law_685 ⟨by omega, by omega⟩ ?_
  refine z_ialdx dL_law_686 (by decide) ⟨by omega, by omega, by omega⟩ ?_
  refine z_aloadn dL_law_687 rfl (Or.inr rfl) ?_
  refine z_iloadn dL_law_688 rfl ?_
  refine z_iconst dL_law_689 ki_2 ?_
  refine z_iadd dL_law_690 ⟨by omega, by omega⟩ ?_
  refine z_ialdx dL_law_691 (by decide) ⟨by omega, by omega, by omega⟩ ?_
  refine y_cv (mt2 := mX12_of) (en := [(2, 234), (0, lS G (i + 1)), (0, lS G (i + 2))]) (st := [(0, x)]) (as := [(0, lS G (i + 1)), (0, lS G (i + 2))]) dL_law_692 lL_76 kX12_of iX12_of eX12_of rfl sh234 (by decide +kernel) (Nat.le_of_ble_eq_true rfl) (Nat.le_of_ble_eq_true rfl) rfl (h1.post (fun r M2 _ _ _ q => ?_))
  obtain ⟨rfl, q2⟩ := q
  show Y G (d + 400 + 1) (mLw nm) 695 [(4, 0), (2, 1), (2, 234), (0, i)] [(0, x), (0, x)] M2 Q
  exact z_icmpeq (tgt := 1616) dL_law_695 rfl (fun _ => hk M2 q2) (fun q => absurd rfl q)
set_option maxRecDepth 20000 in
set_option maxHeartbeats 4000000 in
theorem lc_14 (hG : zP G) (hJ : zJ M) (hv : M 2 10 ≤ 1000000) {i : Int} (hi : 0 ≤ i ∧ i + 6 ≤ ((G.2.2.2.2.2.1 (0 : Int).toNat).1 : Int)) (hL : (G.2.2.2.2.2.1 (0 : Int).toNat).1 ≤ 3072) (hk : ∀ M2, zJn M M2 → Y G (d + 400 + 1) (mLw nm) 1616 [(4, 0), (2, 1), (2, 234), (0, i)] [] M2 Q) : Y G (d + 400 + 1) (mLw nm) 700 [(4, 0), (2, 1), (2, 234), (0, i)] [] M Q := by
  refine z_aloadn dL_law_700 rfl (Or.inl rfl) ?_
  refine z_aloadn dL_law_701 rfl (Or.inr rfl) ?_
  refine z_iloadn dL_law_702 rfl ?_
  refine z_iconst dL_law_703 ki_1 ?_
  refine z_iadd dL_law_704 ⟨by omega, by omega⟩ ?_
  refine z_ialdx dL_law_705 (by decide) ⟨by omega, by omega, by omega⟩ ?_
  refine z_aloadn dL_law_706 rfl (Or.inr rfl) ?_
  refine z_iloadn dL_law_707 rfl ?_
  refine z_iconst dL_law_708 ki_2 ?_
  refine z_iadd dL_law_709 ⟨by omega, by omega⟩ ?_
  refine z_ialdx dL_law_710 (by decide) ⟨by omega, by omega, by omega⟩ ?_
  refine y_cv (mt2 := mX11_alike) (en := [(2, 1), (0, lS G (i + 1)), (0, lS G (i + 2))]) (st := []) (as := [(0, lS G (i + 1)), (0, lS G (i + 2))]) dL_law_711 lL_77 kX11_alike iX11_alike eX11_alike rfl sh1 (by decide +kernel) (Nat.le_of_ble_eq_true rfl) (Nat.le_of_ble_eq_true rfl) rfl (lw_po (pr_alike (d := d) hG hJ) (Or.inl rfl) (fun x M1 h1 => ?_))
  show Y G (d + 400 + 1) (mLw nm) 714 [(4, 0), (2, 1), (2, 234), (0, i)] [(0, x)] M1 Q
  refine z_aloadn dL_law_714 rfl (Or.inl rfl) ?_
  refine z_aloadn dL_law_715 rfl (Or.inr rfl) ?_
  refine z_iloadn dL_law_716 rfl ?_
  refine z_iconst dL_law_717 ki_1 ?_
  refine z_iadd dL_law_718 ⟨by omega, by omega⟩ ?_
  refine z_ialdx dL_law_719 (by decide) ⟨by omega, by omega, by omega⟩ ?_
  refine z_aloadn dL_law_720 rfl (Or.inr rfl) ?_
  refine z_iloadn dL_law_721 rfl ?_
  refine z_iconst dL_law_722 ki_2 ?_
  refine z_iadd dL_law_723 ⟨by omega, by omega⟩ ?_
  refine z_ialdx dL_law_724 (by decide) ⟨by omega, by omega, by omega⟩ ?_
  refine y_cv (mt2 := mX12_alike) (en := [(2, 234), (0, lS G (i + 1)), (0, lS G (i + 2))]) (st := [(0, x)]) (as := [(0, lS G (i + 1)), (0, lS G (i + 2))]) dL_law_725 lL_80 kX12_alike iX12_alike eX12_alike rfl sh234 (by decide +kernel) (Nat.le_of_ble_eq_true rfl) (Nat.le_of_ble_eq_true rfl) rfl (h1.post (fun r M2 _ _ _ q => ?_))
  obtain ⟨rfl, q2⟩ := q
  show Y G (d + 400 + 1) (mLw nm) 728 [(4, 0), (2, 1), (2, 234), (0, i)] [(0, x), (0, x)] M2 Q
  exact z_icmpeq (tgt := 1616) dL_law_728 rfl (fun _ => hk M2 q2) (fun q => absurd rfl q)
set_option maxRecDepth 20000 in
set_option maxHeartbeats 4000000 in
theorem lc_15 (hG : zP G) (hJ : zJ M) (hv : M 2 10 ≤ 1000000) {i : Int} (hi : 0 ≤ i ∧ i + 6 ≤ ((G.2.2.2.2.2.1 (0 : Int).toNat).1 : Int)) (hL : (G.2.2.2.2.2.1 (0 : Int).toNat).1 ≤ 3072) (hk : ∀ M2, zJn M M2 → Y G (d + 400 + 1) (mLw nm) 1616 [(4, 0), (2, 1), (2, 234), (0, i)] [] M2 Q) : Y G (d + 400 + 1) (mLw nm) 733 [(4, 0), (2, 1), (2, 234), (0, i)] [] M Q := by
  refine z_aloadn dL_law_733 rfl (Or.inl rfl) ?_
  refine z_aloadn dL_law_734 rfl (Or.inr rfl) ?_
  refine z_iloadn dL_law_735 rfl ?_
  refine z_iconst dL_law_736 ki_1 ?_
  refine z_iadd dL_law_737 ⟨by omega, by omega⟩ ?_
  refine z_ialdx dL_law_738 (by decide) ⟨by omega, by omega, by omega⟩ ?_
  refine z_aloadn dL_law_739 rfl (Or.inr rfl) ?_
  refine z_iloadn dL_law_740 rfl ?_
  refine z_iconst dL_law_741 ki_2 ?_
  refine z_iadd dL_law_742 ⟨by omega, by omega⟩ ?_
  refine z_ialdx dL_law_743 (by decide) ⟨by omega, by omega, by omega⟩ ?_
  refine y_cv (mt2 := mX11_nearly) (en := [(2, 1), (0, lS G (i + 1)), (0, lS G (i + 2))]) (st := []) (as := [(0, lS G (i + 1)), (0, lS G (i + 2))]) dL_law_744 lL_81 kX11_nearly iX11_nearly eX11_nearly rfl sh1 (by decide +kernel) (Nat.le_of_ble_eq_true rfl) (Nat.le_of_ble_eq_true rfl) rfl (lw_po (pr_nearly (d := d) hG hJ) (Or.inl rfl) (fun x M1 h1 => ?_))
  show Y G (d + 400 + 1) (mLw nm) 747 [(4, 0), (2, 1), (2, 234), (0, i)] [(0, x)] M1 Q
  refine z_aloadn dL_law_747 rfl (Or.inl rfl) ?_
  refine z_aloadn dL_law_748 rfl (Or.inr rfl) ?_
  refine z_iloadn dL_law_749 rfl ?_
  refine z_iconst dL_law_750 ki_1 ?_
  refine z_iadd dL_law_751 ⟨by omega, by omega⟩ ?_
  refine z_ialdx dL_law_752 (by decide) ⟨by omega, by omega, by omega⟩ ?_
  refine z_aloadn dL_law_753 rfl (Or.inr rfl) ?_
  refine z_iloadn dL_law_754 rfl ?_
  refine z_iconst dL_law_755 ki_2 ?_
  refine z_iadd dL_law_756 ⟨by omega, by omega⟩ ?_
  refine z_ialdx dL_law_757 (by decide) ⟨by omega, by omega, by omega⟩ ?_
  refine y_cv (mt2 := mX12_nearly) (en := [(2, 234), (0, lS G (i + 1)), (0, lS G (i + 2))]) (st := [(0, x)]) (as := [(0, lS G (i + 1)), (0, lS G (i + 2))]) dL_law_758 lL_84 kX12_nearly iX12_nearly eX12_nearly rfl sh234 (by decide +kernel) (Nat.le_of_ble_eq_true rfl) (Nat.le_of_ble_eq_true rfl) rfl (h1.post (fun r M2 _ _ _ q => ?_))
  obtain ⟨rfl, q2⟩ := q
  show Y G (d + 400 + 1) (mLw nm) 761 [(4, 0), (2, 1), (2, 234), (0, i)] [(0, x), (0, x)] M2 Q
  exact z_icmpeq (tgt := 1616) dL_law_761 rfl (fun _ => hk M2 q2) (fun q => absurd rfl q)
set_option maxRecDepth 20000 in
set_option maxHeartbeats 4000000 in
theorem lc_16 (hG : zP G) (hJ : zJ M) (hv : M 2 10 ≤ 1000000) {i : Int} (hi : 0 ≤ i ∧ i + 6 ≤ ((G.2.2.2.2.2.1 (0 : Int).toNat).1 : Int)) (hL : (G.2.2.2.2.2.1 (0 : Int).toNat).1 ≤ 3072) (hk : ∀ M2, zJn M M2 → Y G (d + 400 + 1) (mLw nm) 1616 [(4, 0), (2, 1), (2, 234), (0, i)] [] M2 Q) : Y G (d + 400 + 1) (mLw nm) 766 [(4, 0), (2, 1), (2, 234), (0, i)] [] M Q := by
  refine z_aloadn dL_law_766 rfl (Or.inl rfl) ?_
  refine z_aloadn dL_law_767 rfl (Or.inr rfl) ?_
  refine z_iloadn dL_law_768 rfl ?_
  refine z_iconst dL_law_769 ki_1 ?_
  refine z_iadd dL_law_770 ⟨by omega, by omega⟩ ?_
  refine z_ialdx dL_law_771 (by decide) ⟨by omega, by omega, by omega⟩ ?_
  refine z_aloadn dL_law_772 rfl (Or.inr rfl) ?_
  refine z_iloadn dL_law_773 rfl ?_
  refine z_iconst dL_law_774 ki_2 ?_
  refine z_iadd dL_law_775 ⟨by omega, by omega⟩ ?_
  refine z_ialdx dL_law_776 (by decide) ⟨by omega, by omega, by omega⟩ ?_
  refine z_aloadn dL_law_777 rfl (Or.inr rfl) ?_
  refine z_iloadn dL_law_778 rfl ?_
  refine z_iconst dL_law_779 ki_3 ?_
  refine z_iadd dL_law_780 ⟨by omega, by omega⟩ ?_
  refine z_ialdx dL_law_781 (by decide) ⟨by omega, by omega, by omega⟩ ?_
  refine y_cv (mt2 := mX11_parted) (en := [(2, 1), (0, lS G (i + 1)), (0, lS G (i + 2)), (0, lS G (i + 3))]) (st := []) (as := [(0, lS G (i + 1)), (0, lS G (i + 2)), (0, lS G (i + 3))]) dL_law_782 lL_85 kX11_parted iX11_parted eX11_parted rfl sh1 (by decide +kernel) (Nat.le_of_ble_eq_true rfl) (Nat.le_of_ble_eq_true rfl) rfl (lw_po (pr_parted (d := d) hG hJ) (Or.inl rfl) (fun x M1 h1 => ?_))
  show Y G (d + 400 + 1) (mLw nm) 785 [(4, 0), (2, 1), (2, 234), (0, i)] [(0, x)] M1 Q
  refine z_aloadn dL_law_785 rfl (Or.inl rfl) ?_
  refine z_aloadn dL_law_786 rfl (Or.inr rfl) ?_
  refine z_iloadn dL_law_787 rfl ?_
  refine z_iconst dL_law_788 ki_1 ?_
  refine z_iadd dL_law_789 ⟨by omega, by omega⟩ ?_
  refine z_ialdx dL_law_790 (by decide) ⟨by omega, by omega, by omega⟩ ?_
  refine z_aloadn dL_law_791 rfl (Or.inr rfl) ?_
  refine z_iloadn dL_law_792 rfl ?_
  refine z_iconst dL_law_793 ki_2 ?_
  refine z_iadd dL_law_794 ⟨by omega, by omega⟩ ?_
  refine z_ialdx dL_law_795 (by decide) ⟨by omega, by omega, by omega⟩ ?_
  refine z_aloadn dL_law_796 rfl (Or.inr rfl) ?_
  refine z_iloadn dL_law_797 rfl ?_
  refine z_iconst dL_law_798 ki_3 ?_
  refine z_iadd dL_law_799 ⟨by omega, by omega⟩ ?_
  refine z_ialdx dL_law_800 (by decide) ⟨by omega, by omega, by omega⟩ ?_
  refine y_cv (mt2 := mX12_parted) (en := [(2, 234), (0, lS G (i + 1)), (0, lS G (i + 2)), (0, lS G (i + 3)), (9, 0), (9, 0), (9, 0), (9, 0)]) (st := [(0, x)]) (as := [(0, lS G (i + 1)), (0, lS G (i + 2)), (0, lS G (i + 3))]) dL_law_801 lL_88 kX12_parted iX12_parted eX12_parted rfl sh234 (by decide +kernel) (Nat.le_of_ble_eq_true rfl) (Nat.le_of_ble_eq_true rfl) rfl (h1.post (fun r M2 _ _ _ q => ?_))
  obtain ⟨rfl, q2⟩ := q
  show Y G (d + 400 + 1) (mLw nm) 804 [(4, 0), (2, 1), (2, 234), (0, i)] [(0, x), (0, x)] M2 Q
  exact z_icmpeq (tgt := 1616) dL_law_804 rfl (fun _ => hk M2 q2) (fun q => absurd rfl q)
set_option maxRecDepth 20000 in
set_option maxHeartbeats 4000000 in
theorem lc_17 (hG : zP G) (hJ : zJ M) (hv : M 2 10 ≤ 1000000) {i : Int} (hi : 0 ≤ i ∧ i + 6 ≤ ((G.2.2.2.2.2.1 (0 : Int).toNat).1 : Int)) (hL : (G.2.2.2.2.2.1 (0 : Int).toNat).1 ≤ 3072) (hk : ∀ M2, zJn M M2 → Y G (d + 400 + 1) (mLw nm) 1616 [(4, 0), (2, 1), (2, 234), (0, i)] [] M2 Q) : Y G (d + 400 + 1) (mLw nm) 809 [(4, 0), (2, 1), (2, 234), (0, i)] [] M Q := by
  refine z_aloadn dL_law_809 rfl (Or.inl rfl) ?_
  refine z_aloadn dL_law_810 rfl (Or.inr rfl) ?_
  refine z_iloadn dL_law_811 rfl ?_
  refine z_iconst dL_law_812 ki_1 ?_
  refine z_iadd dL_law_813 ⟨by omega, by omega⟩ ?_
  refine z_ialdx dL_law_814 (by decide) ⟨by omega, by omega, by omega⟩ ?_
  refine z_aloadn dL_law_815 rfl (Or.inr rfl) ?_
  refine z_iloadn dL_law_816 rfl ?_
  refine z_iconst dL_law_817 ki_2 ?_
  refine z_iadd dL_law_818 ⟨by omega, by omega⟩ ?_
  refine z_ialdx dL_law_819 (by decide) ⟨by omega, by omega, by omega⟩ ?_
  refine y_cv (mt2 := mX11_can) (en := [(2, 1), (0, lS G (i + 1)), (0, lS G (i + 2))]) (st := []) (as := [(0, lS G (i + 1)), (0, lS G (i + 2))]) dL_law_820 lL_89 kX11_can iX11_can eX11_can rfl sh1 (by decide +kernel) (Nat.le_of_ble_eq_true rfl) (Nat.le_of_ble_eq_true rfl) rfl (lw_po (pr_can (d := d) hG hJ) (Or.inr rfl) (fun x M1 h1 => ?_))
  show Y G (d + 400 + 1) (mLw nm) 823 [(4, 0), (2, 1), (2, 234), (0, i)] [(0, x)] M1 Q
  refine z_aloadn dL_law_823 rfl (Or.inl rfl) ?_
  refine z_aloadn dL_law_824 rfl (Or.inr rfl) ?_
  refine z_iloadn dL_law_825 rfl ?_
  refine z_iconst dL_law_826 ki_1 ?_
  refine z_iadd dL_law_827 ⟨by omega, by omega⟩ ?_
  refine z_ialdx dL_law_828 (by decide) ⟨by omega, by omega, by omega⟩ ?_
  refine z_aloadn dL_law_829 rfl (Or.inr rfl) ?_
  refine z_iloadn dL_law_830 rfl ?_
  refine z_iconst dL_law_831 ki_2 ?_
  refine z_iadd dL_law_832 ⟨by omega, by omega⟩ ?_
  refine z_ialdx dL_law_833 (by decide) ⟨by omega, by omega, by omega⟩ ?_
  refine y_cv (mt2 := mX12_can) (en := [(2, 234), (0, lS G (i + 1)), (0, lS G (i + 2))]) (st := [(0, x)]) (as := [(0, lS G (i + 1)), (0, lS G (i + 2))]) dL_law_834 lL_92 kX12_can iX12_can eX12_can rfl sh234 (by decide +kernel) (Nat.le_of_ble_eq_true rfl) (Nat.le_of_ble_eq_true rfl) rfl (h1.post (fun r M2 _ _ _ q => ?_))
  obtain ⟨rfl, q2⟩ := q
  show Y G (d + 400 + 1) (mLw nm) 837 [(4, 0), (2, 1), (2, 234), (0, i)] [(0, x), (0, x)] M2 Q
  exact z_icmpeq (tgt := 1616) dL_law_837 rfl (fun _ => hk M2 q2) (fun q => absurd rfl q)
set_option maxRecDepth 20000 in
set_option maxHeartbeats 4000000 in
theorem lc_18 (hG : zP G) (hJ : zJ M) (hv : M 2 10 ≤ 1000000) {i : Int} (hi : 0 ≤ i ∧ i + 6 ≤ ((G.2.2.2.2.2.1 (0 : Int).toNat).1 : Int)) (hL : (G.2.2.2.2.2.1 (0 : Int).toNat).1 ≤ 3072) (hk : ∀ M2, zJn M M2 → Y G (d + 400 + 1) (mLw nm) 1616 [(4, 0), (2, 1), (2, 234), (0, i)] [] M2 Q) : Y G (d + 400 + 1) (mLw nm) 842 [(4, 0), (2, 1), (2, 234), (0, i)] [] M Q := by
  refine z_aloadn dL_law_842 rfl (Or.inl rfl) ?_
  refine z_aloadn dL_law_843 rfl (Or.inr rfl) ?_
  refine z_iloadn dL_law_844 rfl ?_
  refine z_iconst dL_law_845 ki_1 ?_
  refine z_iadd dL_law_846 ⟨by omega, by omega⟩ ?_
  refine z_ialdx dL_law_847 (by decide) ⟨by omega, by omega, by omega⟩ ?_
  refine z_aloadn dL_law_848 rfl (Or.inr rfl) ?_
  refine z_iloadn dL_law_849 rfl ?_
  refine z_iconst dL_law_850 ki_2 ?_
  refine z_iadd dL_law_851 ⟨by omega, by omega⟩ ?_
  refine z_ialdx dL_law_852 (by decide) ⟨by omega, by omega, by omega⟩ ?_
  refine y_cv (mt2 := mX11_lacks) (en := [(2, 1), (0, lS G (i + 1)), (0, lS G (i + 2))]) (st := []) (as := [(0, lS G (i + 1)), (0, lS G (i + 2))]) dL_law_853 lL_93 kX11_lacks iX11_lacks eX11_lacks rfl sh1 (by decide +kernel) (Nat.le_of_ble_eq_true rfl) (Nat.le_of_ble_eq_true rfl) rfl (lw_po (pr_lacks (d := d) hG hJ) (Or.inl rfl) (fun x M1 h1 => ?_))
  show Y G (d + 400 + 1) (mLw nm) 856 [(4, 0), (2, 1), (2, 234), (0, i)] [(0, x)] M1 Q
  refine z_aloadn dL_law_856 rfl (Or.inl rfl) ?_
  refine z_aloadn dL_law_857 rfl (Or.inr rfl) ?_
  refine z_iloadn dL_law_858 rfl ?_
  refine z_iconst dL_law_859 ki_1 ?_
  refine z_iadd dL_law_860 ⟨by omega, by omega⟩ ?_
  refine z_ialdx dL_law_861 (by decide) ⟨by omega, by omega, by omega⟩ ?_
  refine z_aloadn dL_law_862 rfl (Or.inr rfl) ?_
  refine z_iloadn dL_law_863 rfl ?_
  refine z_iconst dL_law_864 ki_2 ?_
  refine z_iadd dL_law_865 ⟨by omega, by omega⟩ ?_
  refine z_ialdx dL_law_866 (by decide) ⟨by omega, by omega, by omega⟩ ?_
  refine y_cv (mt2 := mX12_lacks) (en := [(2, 234), (0, lS G (i + 1)), (0, lS G (i + 2)), (9, 0)]) (st := [(0, x)]) (as := [(0, lS G (i + 1)), (0, lS G (i + 2))]) dL_law_867 lL_96 kX12_lacks iX12_lacks eX12_lacks rfl sh234 (by decide +kernel) (Nat.le_of_ble_eq_true rfl) (Nat.le_of_ble_eq_true rfl) rfl (h1.post (fun r M2 _ _ _ q => ?_))
  obtain ⟨rfl, q2⟩ := q
  show Y G (d + 400 + 1) (mLw nm) 870 [(4, 0), (2, 1), (2, 234), (0, i)] [(0, x), (0, x)] M2 Q
  exact z_icmpeq (tgt := 1616) dL_law_870 rfl (fun _ => hk M2 q2) (fun q => absurd rfl q)
set_option maxRecDepth 20000 in
set_option maxHeartbeats 4000000 in
theorem lc_19 (hG : zP G) (hJ : zJ M) (hv : M 2 10 ≤ 1000000) {i : Int} (hi : 0 ≤ i ∧ i + 6 ≤ ((G.2.2.2.2.2.1 (0 : Int).toNat).1 : Int)) (hL : (G.2.2.2.2.2.1 (0 : Int).toNat).1 ≤ 3072) (hk : ∀ M2, zJn M M2 → Y G (d + 400 + 1) (mLw nm) 1616 [(4, 0), (2, 1), (2, 234), (0, i)] [] M2 Q) : Y G (d + 400 + 1) (mLw nm) 875 [(4, 0), (2, 1), (2, 234), (0, i)] [] M Q := by
  refine z_aloadn dL_law_875 rfl (Or.inl rfl) ?_
  refine z_aloadn dL_law_876 rfl (Or.inr rfl) ?_
  refine z_iloadn dL_law_877 rfl ?_
  refine z_iconst dL_law_878 ki_1 ?_
  refine z_iadd dL_law_879 ⟨by omega, by omega⟩ ?_
  refine z_ialdx dL_law_880 (by decide) ⟨by omega, by omega, by omega⟩ ?_
  refine z_aloadn dL_law_881 rfl (Or.inr rfl) ?_
  refine z_iloadn dL_law_882 rfl ?_
  refine z_iconst dL_law_883 ki_2 ?_
  refine z_iadd dL_law_884 ⟨by omega, by omega⟩ ?_
  refine z_ialdx dL_law_885 (by decide) ⟨by omega, by omega, by omega⟩ ?_
  refine y_cv (mt2 := mX11_ask) (en := [(2, 1), (0, lS G (i + 1)), (0, lS G (i + 2))]) (st := []) (as := [(0, lS G (i + 1)), (0, lS G (i + 2))]) dL_law_886 lL_97 kX11_ask iX11_ask eX11_ask rfl sh1 (by decide +kernel) (Nat.le_of_ble_eq_true rfl) (Nat.le_of_ble_eq_true rfl) rfl (lw_po (pr_ask (d := d) hG hJ) (Or.inl rfl) (fun x M1 h1 => ?_))
  show Y G (d + 400 + 1) (mLw nm) 889 [(4, 0), (2, 1), (2, 234), (0, i)] [(0, x)] M1 Q
  refine z_aloadn dL_law_889 rfl (Or.inl rfl) ?_
  refine z_aloadn dL_law_890 rfl (Or.inr rfl) ?_
  refine z_iloadn dL_law_891 rfl ?_
  refine z_iconst dL_law_892 ki_1 ?_
  refine z_iadd dL_law_893 ⟨by omega, by omega⟩ ?_
  refine z_ialdx dL_law_894 (by decide) ⟨by omega, by omega, by omega⟩ ?_
  refine z_aloadn dL_law_895 rfl (Or.inr rfl) ?_
  refine z_iloadn dL_law_896 rfl ?_
  refine z_iconst dL_law_897 ki_2 ?_
  refine z_iadd dL_law_898 ⟨by omega, by omega⟩ ?_
  refine z_ialdx dL_law_899 (by decide) ⟨by omega, by omega, by omega⟩ ?_
  refine y_cv (mt2 := mX12_ask) (en := [(2, 234), (0, lS G (i + 1)), (0, lS G (i + 2))]) (st := [(0, x)]) (as := [(0, lS G (i + 1)), (0, lS G (i + 2))]) dL_law_900 lL_100 kX12_ask iX12_ask eX12_ask rfl sh234 (by decide +kernel) (Nat.le_of_ble_eq_true rfl) (Nat.le_of_ble_eq_true rfl) rfl (h1.post (fun r M2 _ _ _ q => ?_))
  obtain ⟨rfl, q2⟩ := q
  show Y G (d + 400 + 1) (mLw nm) 903 [(4, 0), (2, 1), (2, 234), (0, i)] [(0, x), (0, x)] M2 Q
  exact z_icmpeq (tgt := 1616) dL_law_903 rfl (fun _ => hk M2 q2) (fun q => absurd rfl q)
set_option maxRecDepth 20000 in
set_option maxHeartbeats 4000000 in
theorem lc_20 (hG : zP G) (hJ : zJ M) (hv : M 2 10 ≤ 1000000) {i : Int} (hi : 0 ≤ i ∧ i + 6 ≤ ((G.2.2.2.2.2.1 (0 : Int).toNat).1 : Int)) (hL : (G.2.2.2.2.2.1 (0 : Int).toNat).1 ≤ 3072) (hk : ∀ M2, zJn M M2 → Y G (d + 400 + 1) (mLw nm) 1616 [(4, 0), (2, 1), (2, 234), (0, i)] [] M2 Q) : Y G (d + 400 + 1) (mLw nm) 908 [(4, 0), (2, 1), (2, 234), (0, i)] [] M Q := by
  refine z_aloadn dL_law_908 rfl (Or.inl rfl) ?_
  refine z_aloadn dL_law_909 rfl (Or.inr rfl) ?_
  refine z_iloadn dL_law_910 rfl ?_
  refine z_iconst dL_law_911 ki_1 ?_
  refine z_iadd dL_law_912 ⟨by omega, by omega⟩ ?_
  refine z_ialdx dL_law_913 (by decide) ⟨by omega, by omega, by omega⟩ ?_
  refine z_aloadn dL_law_914 rfl (Or.inr rfl) ?_
  refine z_iloadn dL_law_915 rfl ?_
  refine z_iconst dL_law_916 ki_2 ?_
  refine z_iadd dL_law_917 ⟨by omega, by omega⟩ ?_
  refine z_ialdx dL_law_918 (by decide) ⟨by omega, by omega, by omega⟩ ?_
  refine y_cv (mt2 := mX11_why) (en := [(2, 1), (0, lS G (i + 1)), (0, lS G (i + 2))]) (st := []) (as := [(0, lS G (i + 1)), (0, lS G (i + 2))]) dL_law_919 lL_101 kX11_why iX11_why eX11_why rfl sh1 (by decide +kernel) (Nat.le_of_ble_eq_true rfl) (Nat.le_of_ble_eq_true rfl) rfl (lw_po (pr_why (d := d) hG hJ) (Or.inl rfl) (fun x M1 h1 => ?_))
  show Y G (d + 400 + 1) (mLw nm) 922 [(4, 0), (2, 1), (2, 234), (0, i)] [(0, x)] M1 Q
  refine z_aloadn dL_law_922 rfl (Or.inl rfl) ?_
  refine z_aloadn dL_law_923 rfl (Or.inr rfl) ?_
  refine z_iloadn dL_law_924 rfl ?_
  refine z_iconst dL_law_925 ki_1 ?_
  refine z_iadd dL_law_926 ⟨by omega, by omega⟩ ?_
  refine z_ialdx dL_law_927 (by decide) ⟨by omega, by omega, by omega⟩ ?_
  refine z_aloadn dL_law_928 rfl (Or.inr rfl) ?_
  refine z_iloadn dL_law_929 rfl ?_
  refine z_iconst dL_law_930 ki_2 ?_
  refine z_iadd dL_law_931 ⟨by omega, by omega⟩ ?_
  refine z_ialdx dL_law_932 (by decide) ⟨by omega, by omega, by omega⟩ ?_
  refine y_cv (mt2 := mX12_why) (en := [(2, 234), (0, lS G (i + 1)), (0, lS G (i + 2))]) (st := [(0, x)]) (as := [(0, lS G (i + 1)), (0, lS G (i + 2))]) dL_law_933 lL_104 kX12_why iX12_why eX12_why rfl sh234 (by decide +kernel) (Nat.le_of_ble_eq_true rfl) (Nat.le_of_ble_eq_true rfl) rfl (h1.post (fun r M2 _ _ _ q => ?_))
  obtain ⟨rfl, q2⟩ := q
  show Y G (d + 400 + 1) (mLw nm) 936 [(4, 0), (2, 1), (2, 234), (0, i)] [(0, x), (0, x)] M2 Q
  exact z_icmpeq (tgt := 1616) dL_law_936 rfl (fun _ => hk M2 q2) (fun q => absurd rfl q)
set_option maxRecDepth 20000 in
set_option maxHeartbeats 4000000 in
theorem lc_21 (hG : zP G) (hJ : zJ M) (hv : M 2 10 ≤ 1000000) {i : Int} (hi : 0 ≤ i ∧ i + 6 ≤ ((G.2.2.2.2.2.1 (0 : Int).toNat).1 : Int)) (hL : (G.2.2.2.2.2.1 (0 : Int).toNat).1 ≤ 3072) (hk : ∀ M2, zJn M M2 → Y G (d + 400 + 1) (mLw nm) 1616 [(4, 0), (2, 1), (2, 234), (0, i)] [] M2 Q) : Y G (d + 400 + 1) (mLw nm) 941 [(4, 0), (2, 1), (2, 234), (0, i)] [] M Q := by
  refine z_aloadn dL_law_941 rfl (Or.inl rfl) ?_
  refine z_aloadn dL_law_942 rfl (Or.inr rfl) ?_
  refine z_iloadn dL_law_943 rfl ?_
  refine z_iconst dL_law_944 ki_1 ?_
  refine z_iadd dL_law_945 ⟨by omega, by omega⟩ ?_
  refine z_ialdx dL_law_946 (by decide) ⟨by omega, by omega, by omega⟩ ?_
  refine y_cv (mt2 := mX11_barred) (en := [(2, 1), (0, lS G (i + 1))]) (st := []) (as := [(0, lS G (i + 1))]) dL_law_947 lL_105 kX11_barred iX11_barred eX11_barred rfl sh1 (by decide +kernel) (Nat.le_of_ble_eq_true rfl) (Nat.le_of_ble_eq_true rfl) rfl (lw_po (pr_barred (d := d) hG hJ) (Or.inl rfl) (fun x M1 h1 => ?_))
  show Y G (d + 400 + 1) (mLw nm) 950 [(4, 0), (2, 1), (2, 234), (0, i)] [(0, x)] M1 Q
  refine z_aloadn dL_law_950 rfl (Or.inl rfl) ?_
  refine z_aloadn dL_law_951 rfl (Or.inr rfl) ?_
  refine z_iloadn dL_law_952 rfl ?_
  refine z_iconst dL_law_953 ki_1 ?_
  refine z_iadd dL_law_954 ⟨by omega, by omega⟩ ?_
  refine z_ialdx dL_law_955 (by decide) ⟨by omega, by omega, by omega⟩ ?_
  refine y_cv (mt2 := mX12_barred) (en := [(2, 234), (0, lS G (i + 1))]) (st := [(0, x)]) (as := [(0, lS G (i + 1))]) dL_law_956 lL_108 kX12_barred iX12_barred eX12_barred rfl sh234 (by decide +kernel) (Nat.le_of_ble_eq_true rfl) (Nat.le_of_ble_eq_true rfl) rfl (h1.post (fun r M2 _ _ _ q => ?_))
  obtain ⟨rfl, q2⟩ := q
  show Y G (d + 400 + 1) (mLw nm) 959 [(4, 0), (2, 1), (2, 234), (0, i)] [(0, x), (0, x)] M2 Q
  exact z_icmpeq (tgt := 1616) dL_law_959 rfl (fun _ => hk M2 q2) (fun q => absurd rfl q)
set_option maxRecDepth 20000 in
set_option maxHeartbeats 4000000 in
theorem lc_22 (hG : zP G) (hJ : zJ M) (hv : M 2 10 ≤ 1000000) {i : Int} (hi : 0 ≤ i ∧ i + 6 ≤ ((G.2.2.2.2.2.1 (0 : Int).toNat).1 : Int)) (hL : (G.2.2.2.2.2.1 (0 : Int).toNat).1 ≤ 3072) (hk : ∀ M2, zJn M M2 → Y G (d + 400 + 1) (mLw nm) 1616 [(4, 0), (2, 1), (2, 234), (0, i)] [] M2 Q) : Y G (d + 400 + 1) (mLw nm) 964 [(4, 0), (2, 1), (2, 234), (0, i)] [] M Q := by
  refine z_aloadn dL_law_964 rfl (Or.inl rfl) ?_
  refine z_aloadn dL_law_965 rfl (Or.inr rfl) ?_
  refine z_iloadn dL_law_966 rfl ?_
  refine z_iconst dL_law_967 ki_1 ?_
  refine z_iadd dL_law_968 ⟨by omega, by omega⟩ ?_
  refine z_ialdx dL_law_969 (by decide) ⟨by omega, by omega, by omega⟩ ?_
  refine y_cv (mt2 := mX11_morning) (en := [(2, 1), (0, lS G (i + 1))]) (st := []) (as := [(0, lS G (i + 1))]) dL_law_970 lL_109 kX11_morning iX11_morning eX11_morning rfl sh1 (by decide +kernel) (Nat.le_of_ble_eq_true rfl) (Nat.le_of_ble_eq_true rfl) rfl (lw_po (pr_morning (d := d) hG hJ) (Or.inl rfl) (fun x M1 h1 => ?_))
  show Y G (d + 400 + 1) (mLw nm) 973 [(4, 0), (2, 1), (2, 234), (0, i)] [(0, x)] M1 Q
  refine z_aloadn dL_law_973 rfl (Or.inl rfl) ?_
  refine z_aloadn dL_law_974 rfl (Or.inr rfl) ?_
  refine z_iloadn dL_law_975 rfl ?_
  refine z_iconst dL_law_976 ki_1 ?_
  refine z_iadd dL_law_977 ⟨by omega, by omega⟩ ?_
  refine z_ialdx dL_law_978 (by decide) ⟨by omega, by omega, by omega⟩ ?_
  refine y_cv (mt2 := mX12_morning) (en := [(2, 234), (0, lS G (i + 1)), (9, 0), (9, 0), (9, 0), (9, 0)]) (st := [(0, x)]) (as := [(0, lS G (i + 1))]) dL_law_979 lL_112 kX12_morning iX12_morning eX12_morning rfl sh234 (by decide +kernel) (Nat.le_of_ble_eq_true rfl) (Nat.le_of_ble_eq_true rfl) rfl (h1.post (fun r M2 _ _ _ q => ?_))
  obtain ⟨rfl, q2⟩ := q
  show Y G (d + 400 + 1) (mLw nm) 982 [(4, 0), (2, 1), (2, 234), (0, i)] [(0, x), (0, x)] M2 Q
  exact z_icmpeq (tgt := 1616) dL_law_982 rfl (fun _ => hk M2 q2) (fun q => absurd rfl q)
set_option maxRecDepth 20000 in
set_option maxHeartbeats 4000000 in
theorem lc_23 (hG : zP G) (hJ : zJ M) (hv : M 2 10 ≤ 1000000) {i : Int} (hi : 0 ≤ i ∧ i + 6 ≤ ((G.2.2.2.2.2.1 (0 : Int).toNat).1 : Int)) (hL : (G.2.2.2.2.2.1 (0 : Int).toNat).1 ≤ 3072) (hk : ∀ M2, zJn M M2 → Y G (d + 400 + 1) (mLw nm) 1616 [(4, 0), (2, 1), (2, 234), (0, i)] [] M2 Q) : Y G (d + 400 + 1) (mLw nm) 987 [(4, 0), (2, 1), (2, 234), (0, i)] [] M Q := by
  refine z_aloadn dL_law_987 rfl (Or.inl rfl) ?_
  refine y_cv (mt2 := mX11_stuck) (en := [(2, 1)]) (st := []) (as := []) dL_law_988 lL_113 kX11_stuck iX11_stuck eX11_stuck rfl sh1 (by decide +kernel) (Nat.le_of_ble_eq_true rfl) (Nat.le_of_ble_eq_true rfl) rfl (lw_po (pr_stuck (d := d) hG hJ) (Or.inl rfl) (fun x M1 h1 => ?_))
  show Y G (d + 400 + 1) (mLw nm) 991 [(4, 0), (2, 1), (2, 234), (0, i)] [(0, x)] M1 Q
  refine z_aloadn dL_law_991 rfl (Or.inl rfl) ?_
  refine y_cv (mt2 := mX12_stuck) (en := [(2, 234), (9, 0), (9, 0), (9, 0), (9, 0)]) (st := [(0, x)]) (as := []) dL_law_992 lL_116 kX12_stuck iX12_stuck eX12_stuck rfl sh234 (by decide +kernel) (Nat.le_of_ble_eq_true rfl) (Nat.le_of_ble_eq_true rfl) rfl (h1.post (fun r M2 _ _ _ q => ?_))
  obtain ⟨rfl, q2⟩ := q
  show Y G (d + 400 + 1) (mLw nm) 995 [(4, 0), (2, 1), (2, 234), (0, i)] [(0, x), (0, x)] M2 Q
  exact z_icmpeq (tgt := 1616) dL_law_995 rfl (fun _ => hk M2 q2) (fun q => absurd rfl q)
set_option maxRecDepth 20000 in
set_option maxHeartbeats 4000000 in
theorem lc_24 (hG : zP G) (hJ : zJ M) (hv : M 2 10 ≤ 1000000) {i : Int} (hi : 0 ≤ i ∧ i + 6 ≤ ((G.2.2.2.2.2.1 (0 : Int).toNat).1 : Int)) (hL : (G.2.2.2.2.2.1 (0 : Int).toNat).1 ≤ 3072) (hk : ∀ M2, zJn M M2 → Y G (d + 400 + 1) (mLw nm) 1616 [(4, 0), (2, 1), (2, 234), (0, i)] [] M2 Q) : Y G (d + 400 + 1) (mLw nm) 1000 [(4, 0), (2, 1), (2, 234), (0, i)] [] M Q := by
  refine z_aloadn dL_law_1000 rfl (Or.inl rfl) ?_
  refine y_cv (mt2 := mX11_undo) (en := [(2, 1)]) (st := []) (as := []) dL_law_1001 lL_117 kX11_undo iX11_undo eX11_undo rfl sh1 (by decide +kernel) (Nat.le_of_ble_eq_true rfl) (Nat.le_of_ble_eq_true rfl) rfl (lw_po (pr_undo (d := d) hG hJ) (Or.inl rfl) (fun x M1 h1 => ?_))
  show Y G (d + 400 + 1) (mLw nm) 1004 [(4, 0), (2, 1), (2, 234), (0, i)] [(0, x)] M1 Q
  refine z_aloadn dL_law_1004 rfl (Or.inl rfl) ?_
  refine y_cv (mt2 := mX12_undo) (en := [(2, 234)]) (st := [(0, x)]) (as := []) dL_law_1005 lL_120 kX12_undo iX12_undo eX12_undo rfl sh234 (by decide +kernel) (Nat.le_of_ble_eq_true rfl) (Nat.le_of_ble_eq_true rfl) rfl (h1.post (fun r M2 _ _ _ q => ?_))
  obtain ⟨rfl, q2⟩ := q
  show Y G (d + 400 + 1) (mLw nm) 1008 [(4, 0), (2, 1), (2, 234), (0, i)] [(0, x), (0, x)] M2 Q
  exact z_icmpeq (tgt := 1616) dL_law_1008 rfl (fun _ => hk M2 q2) (fun q => absurd rfl q)
set_option maxRecDepth 20000 in
set_option maxHeartbeats 4000000 in
theorem lc_25 (hG : zP G) (hJ : zJ M) (hv : M 2 10 ≤ 1000000) {i : Int} (hi : 0 ≤ i ∧ i + 6 ≤ ((G.2.2.2.2.2.1 (0 : Int).toNat).1 : Int)) (hL : (G.2.2.2.2.2.1 (0 : Int).toNat).1 ≤ 3072) (hk : ∀ M2, zJn M M2 → Y G (d + 400 + 1) (mLw nm) 1616 [(4, 0), (2, 1), (2, 234), (0, i)] [] M2 Q) : Y G (d + 400 + 1) (mLw nm) 1013 [(4, 0), (2, 1), (2, 234), (0, i)] [] M Q := by
  by_cases hz : lS G (i + 2) = 0
  · refine z_aloadn dL_law_1013 rfl (Or.inl rfl) ?_
    refine z_aloadn dL_law_1014 rfl (Or.inr rfl) ?_
    refine z_iloadn dL_law_1015 rfl ?_
    refine z_iconst dL_law_1016 ki_1 ?_
    refine z_iadd dL_law_1017 ⟨by omega, by omega⟩ ?_
    refine z_ialdx dL_law_1018 (by decide) ⟨by omega, by omega, by omega⟩ ?_
    refine z_aloadn dL_law_1019 rfl (Or.inr rfl) ?_
    refine z_iloadn dL_law_1020 rfl ?_
    refine z_iconst dL_law_1021 ki_2 ?_
    refine z_iadd dL_law_1022 ⟨by omega, by omega⟩ ?_
    refine z_ialdx dL_law_1023 (by decide) ⟨by omega, by omega, by omega⟩ ?_
    refine z_ifeq (tgt := 1031) dL_law_1024 rfl (fun _ => ?_) (fun q => absurd hz q)
    refine z_iconst dL_law_1031 ki_0 ?_
    refine y_cv (mt2 := mX11_asked) (en := [(2, 1), (0, lS G (i + 1)), (0, 0)]) (st := []) (as := [(0, lS G (i + 1)), (0, 0)]) dL_law_1032 lL_121 kX11_asked iX11_asked eX11_asked rfl sh1 (by decide +kernel) (Nat.le_of_ble_eq_true rfl) (Nat.le_of_ble_eq_true rfl) rfl (lw_po (pr_asked (d := d) hG hJ) (Or.inl rfl) (fun x M1 h1 => ?_))
    show Y G (d + 400 + 1) (mLw nm) 1035 [(4, 0), (2, 1), (2, 234), (0, i)] [(0, x)] M1 Q
    refine z_aloadn dL_law_1035 rfl (Or.inl rfl) ?_
    refine z_aloadn dL_law_1036 rfl (Or.inr rfl) ?_
    refine z_iloadn dL_law_1037 rfl ?_
    refine z_iconst dL_law_1038 ki_1 ?_
    refine z_iadd dL_law_1039 ⟨by omega, by omega⟩ ?_
    refine z_ialdx dL_law_1040 (by decide) ⟨by omega, by omega, by omega⟩ ?_
    refine z_aloadn dL_law_1041 rfl (Or.inr rfl) ?_
    refine z_iloadn dL_law_1042 rfl ?_
    refine z_iconst dL_law_1043 ki_2 ?_
    refine z_iadd dL_law_1044 ⟨by omega, by omega⟩ ?_
    refine z_ialdx dL_law_1045 (by decide) ⟨by omega, by omega, by omega⟩ ?_
    refine z_ifeq (tgt := 1053) dL_law_1046 rfl (fun _ => ?_) (fun q => absurd hz q)
    refine z_iconst dL_law_1053 ki_0 ?_
    refine y_cv (mt2 := mX12_asked) (en := [(2, 234), (0, lS G (i + 1)), (0, 0)]) (st := [(0, x)]) (as := [(0, lS G (i + 1)), (0, 0)]) dL_law_1054 lL_125 kX12_asked iX12_asked eX12_asked rfl sh234 (by decide +kernel) (Nat.le_of_ble_eq_true rfl) (Nat.le_of_ble_eq_true rfl) rfl (h1.post (fun r M2 _ _ _ q => ?_))
    obtain ⟨rfl, q2⟩ := q
    show Y G (d + 400 + 1) (mLw nm) 1057 [(4, 0), (2, 1), (2, 234), (0, i)] [(0, x), (0, x)] M2 Q
    exact z_icmpeq (tgt := 1616) dL_law_1057 rfl (fun _ => hk M2 q2) (fun q => absurd rfl q)
  · refine z_aloadn dL_law_1013 rfl (Or.inl rfl) ?_
    refine z_aloadn dL_law_1014 rfl (Or.inr rfl) ?_
    refine z_iloadn dL_law_1015 rfl ?_
    refine z_iconst dL_law_1016 ki_1 ?_
    refine z_iadd dL_law_1017 ⟨by omega, by omega⟩ ?_
    refine z_ialdx dL_law_1018 (by decide) ⟨by omega, by omega, by omega⟩ ?_
    refine z_aloadn dL_law_1019 rfl (Or.inr rfl) ?_
    refine z_iloadn dL_law_1020 rfl ?_
    refine z_iconst dL_law_1021 ki_2 ?_
    refine z_iadd dL_law_1022 ⟨by omega, by omega⟩ ?_
    refine z_ialdx dL_law_1023 (by decide) ⟨by omega, by omega, by omega⟩ ?_
    refine z_ifeq (tgt := 1031) dL_law_1024 rfl (fun q => absurd q hz) (fun _ => ?_)
    refine z_iconst dL_law_1027 ki_1 ?_
    refine z_goto (tgt := 1032) dL_law_1028 rfl ?_
    refine y_cv (mt2 := mX11_asked) (en := [(2, 1), (0, lS G (i + 1)), (0, 1)]) (st := []) (as := [(0, lS G (i + 1)), (0, 1)]) dL_law_1032 lL_121 kX11_asked iX11_asked eX11_asked rfl sh1 (by decide +kernel) (Nat.le_of_ble_eq_true rfl) (Nat.le_of_ble_eq_true rfl) rfl (lw_po (pr_asked (d := d) hG hJ) (Or.inl rfl) (fun x M1 h1 => ?_))
    show Y G (d + 400 + 1) (mLw nm) 1035 [(4, 0), (2, 1), (2, 234), (0, i)] [(0, x)] M1 Q
    refine z_aloadn dL_law_1035 rfl (Or.inl rfl) ?_
    refine z_aloadn dL_law_1036 rfl (Or.inr rfl) ?_
    refine z_iloadn dL_law_1037 rfl ?_
    refine z_iconst dL_law_1038 ki_1 ?_
    refine z_iadd dL_law_1039 ⟨by omega, by omega⟩ ?_
    refine z_ialdx dL_law_1040 (by decide) ⟨by omega, by omega, by omega⟩ ?_
    refine z_aloadn dL_law_1041 rfl (Or.inr rfl) ?_
    refine z_iloadn dL_law_1042 rfl ?_
    refine z_iconst dL_law_1043 ki_2 ?_
    refine z_iadd dL_law_1044 ⟨by omega, by omega⟩ ?_
    refine z_ialdx dL_law_1045 (by decide) ⟨by omega, by omega, by omega⟩ ?_
    refine z_ifeq (tgt := 1053) dL_law_1046 rfl (fun q => absurd q hz) (fun _ => ?_)
    refine z_iconst dL_law_1049 ki_1 ?_
    refine z_goto (tgt := 1054) dL_law_1050 rfl ?_
    refine y_cv (mt2 := mX12_asked) (en := [(2, 234), (0, lS G (i + 1)), (0, 1)]) (st := [(0, x)]) (as := [(0, lS G (i + 1)), (0, 1)]) dL_law_1054 lL_125 kX12_asked iX12_asked eX12_asked rfl sh234 (by decide +kernel) (Nat.le_of_ble_eq_true rfl) (Nat.le_of_ble_eq_true rfl) rfl (h1.post (fun r M2 _ _ _ q => ?_))
    obtain ⟨rfl, q2⟩ := q
    show Y G (d + 400 + 1) (mLw nm) 1057 [(4, 0), (2, 1), (2, 234), (0, i)] [(0, x), (0, x)] M2 Q
    exact z_icmpeq (tgt := 1616) dL_law_1057 rfl (fun _ => hk M2 q2) (fun q => absurd rfl q)
set_option maxRecDepth 20000 in
set_option maxHeartbeats 4000000 in
theorem lc_26 (hG : zP G) (hJ : zJ M) (hv : M 2 10 ≤ 1000000) {i : Int} (hi : 0 ≤ i ∧ i + 6 ≤ ((G.2.2.2.2.2.1 (0 : Int).toNat).1 : Int)) (hL : (G.2.2.2.2.2.1 (0 : Int).toNat).1 ≤ 3072) (hk : ∀ M2, zJn M M2 → Y G (d + 400 + 1) (mLw nm) 1616 [(4, 0), (2, 1), (2, 234), (0, i)] [] M2 Q) : Y G (d + 400 + 1) (mLw nm) 1062 [(4, 0), (2, 1), (2, 234), (0, i)] [] M Q := by
  refine z_aloadn dL_law_1062 rfl (Or.inl rfl) ?_
  refine z_aloadn dL_law_1063 rfl (Or.inr rfl) ?_
  refine z_iloadn dL_law_1064 rfl ?_
  refine z_iconst dL_law_1065 ki_1 ?_
  refine z_iadd dL_law_1066 ⟨by omega, by omega⟩ ?_
  refine z_ialdx dL_law_1067 (by decide) ⟨by omega, by omega, by omega⟩ ?_
  refine y_cv (mt2 := mX11_order) (en := [(2, 1), (0, lS G (i + 1))]) (st := []) (as := [(0, lS G (i + 1))]) dL_law_1068 lL_126 kX11_order iX11_order eX11_order rfl sh1 (by decide +kernel) (Nat.le_of_ble_eq_true rfl) (Nat.le_of_ble_eq_true rfl) rfl (lw_po (pr_order (d := d) hG hJ) (Or.inl rfl) (fun x M1 h1 => ?_))
  show Y G (d + 400 + 1) (mLw nm) 1071 [(4, 0), (2, 1), (2, 234), (0, i)] [(0, x)] M1 Q
  refine z_aloadn dL_law_1071 rfl (Or.inl rfl) ?_
  refine z_aloadn dL_law_1072 rfl (Or.inr rfl) ?_
  refine z_iloadn dL_law_1073 rfl ?_
  refine z_iconst dL_law_1074 ki_1 ?_
  refine z_iadd dL_law_1075 ⟨by omega, by omega⟩ ?_
  refine z_ialdx dL_law_1076 (by decide) ⟨by omega, by omega, by omega⟩ ?_
  refine y_cv (mt2 := mX12_order) (en := [(2, 234), (0, lS G (i + 1)), (9, 0)]) (st := [(0, x)]) (as := [(0, lS G (i + 1))]) dL_law_1077 lL_129 kX12_order iX12_order eX12_order rfl sh234 (by decide +kernel) (Nat.le_of_ble_eq_true rfl) (Nat.le_of_ble_eq_true rfl) rfl (h1.post (fun r M2 _ _ _ q => ?_))
  obtain ⟨rfl, q2⟩ := q
  show Y G (d + 400 + 1) (mLw nm) 1080 [(4, 0), (2, 1), (2, 234), (0, i)] [(0, x), (0, x)] M2 Q
  exact z_icmpeq (tgt := 1616) dL_law_1080 rfl (fun _ => hk M2 q2) (fun q => absurd rfl q)
set_option maxRecDepth 20000 in
set_option maxHeartbeats 4000000 in
theorem lc_27 (hG : zP G) (hJ : zJ M) (hv : M 2 10 ≤ 1000000) {i : Int} (hi : 0 ≤ i ∧ i + 6 ≤ ((G.2.2.2.2.2.1 (0 : Int).toNat).1 : Int)) (hL : (G.2.2.2.2.2.1 (0 : Int).toNat).1 ≤ 3072) (hk : ∀ M2, zJn M M2 → Y G (d + 400 + 1) (mLw nm) 1616 [(4, 0), (2, 1), (2, 234), (0, i)] [] M2 Q) : Y G (d + 400 + 1) (mLw nm) 1085 [(4, 0), (2, 1), (2, 234), (0, i)] [] M Q := by
  refine z_aloadn dL_law_1085 rfl (Or.inl rfl) ?_
  refine y_cv (mt2 := mX11_shut) (en := [(2, 1)]) (st := []) (as := []) dL_law_1086 lL_130 kX11_shut iX11_shut eX11_shut rfl sh1 (by decide +kernel) (Nat.le_of_ble_eq_true rfl) (Nat.le_of_ble_eq_true rfl) rfl (lw_po (pr_shut (d := d) hG hJ) (Or.inl rfl) (fun x M1 h1 => ?_))
  show Y G (d + 400 + 1) (mLw nm) 1089 [(4, 0), (2, 1), (2, 234), (0, i)] [(0, x)] M1 Q
  refine z_aloadn dL_law_1089 rfl (Or.inl rfl) ?_
  refine y_cv (mt2 := mX12_shut) (en := [(2, 234), (9, 0), (9, 0), (9, 0)]) (st := [(0, x)]) (as := []) dL_law_1090 lL_133 kX12_shut iX12_shut eX12_shut rfl sh234 (by decide +kernel) (Nat.le_of_ble_eq_true rfl) (Nat.le_of_ble_eq_true rfl) rfl (h1.post (fun r M2 _ _ _ q => ?_))
  obtain ⟨rfl, q2⟩ := q
  show Y G (d + 400 + 1) (mLw nm) 1093 [(4, 0), (2, 1), (2, 234), (0, i)] [(0, x), (0, x)] M2 Q
  exact z_icmpeq (tgt := 1616) dL_law_1093 rfl (fun _ => hk M2 q2) (fun q => absurd rfl q)
set_option maxRecDepth 20000 in
set_option maxHeartbeats 4000000 in
theorem lc_28 (hG : zP G) (hJ : zJ M) (hv : M 2 10 ≤ 1000000) {i : Int} (hi : 0 ≤ i ∧ i + 6 ≤ ((G.2.2.2.2.2.1 (0 : Int).toNat).1 : Int)) (hL : (G.2.2.2.2.2.1 (0 : Int).toNat).1 ≤ 3072) (hk : ∀ M2, zJn M M2 → Y G (d + 400 + 1) (mLw nm) 1616 [(4, 0), (2, 1), (2, 234), (0, i)] [] M2 Q) : Y G (d + 400 + 1) (mLw nm) 1098 [(4, 0), (2, 1), (2, 234), (0, i)] [] M Q := by
  by_cases hz : lS G (i + 3) = 0
  · refine z_aloadn dL_law_1098 rfl (Or.inl rfl) ?_
    refine z_aloadn dL_law_1099 rfl (Or.inr rfl) ?_
    refine z_iloadn dL_law_1100 rfl ?_
    refine z_iconst dL_law_1101 ki_1 ?_
    refine z_iadd dL_law_1102 ⟨by omega, by omega⟩ ?_
    refine z_ialdx dL_law_1103 (by decide) ⟨by omega, by omega, by omega⟩ ?_
    refine z_aloadn dL_law_1104 rfl (Or.inr rfl) ?_
    refine z_iloadn dL_law_1105 rfl ?_
    refine z_iconst dL_law_1106 ki_2 ?_
    refine z_iadd dL_law_1107 ⟨by omega, by omega⟩ ?_
    refine z_ialdx dL_law_1108 (by decide) ⟨by omega, by omega, by omega⟩ ?_
    refine z_aloadn dL_law_1109 rfl (Or.inr rfl) ?_
    refine z_iloadn dL_law_1110 rfl ?_
    refine z_iconst dL_law_1111 ki_3 ?_
    refine z_iadd dL_law_1112 ⟨by omega, by omega⟩ ?_
    refine z_ialdx dL_law_1113 (by decide) ⟨by omega, by omega, by omega⟩ ?_
    refine z_ifeq (tgt := 1121) dL_law_1114 rfl (fun _ => ?_) (fun q => absurd hz q)
    refine z_iconst dL_law_1121 ki_0 ?_
    refine y_cv (mt2 := mX11_game) (en := [(2, 1), (0, lS G (i + 1)), (0, lS G (i + 2)), (0, 0), (9, 0)]) (st := []) (as := [(0, lS G (i + 1)), (0, lS G (i + 2)), (0, 0)]) dL_law_1122 lL_134 kX11_game iX11_game eX11_game rfl sh1 (by decide +kernel) (Nat.le_of_ble_eq_true rfl) (Nat.le_of_ble_eq_true rfl) rfl (lw_po (pr_game (d := d) hG hJ) (Or.inl rfl) (fun x M1 h1 => ?_))
    show Y G (d + 400 + 1) (mLw nm) 1125 [(4, 0), (2, 1), (2, 234), (0, i)] [(0, x)] M1 Q
    refine z_aloadn dL_law_1125 rfl (Or.inl rfl) ?_
    refine z_aloadn dL_law_1126 rfl (Or.inr rfl) ?_
    refine z_iloadn dL_law_1127 rfl ?_
    refine z_iconst dL_law_1128 ki_1 ?_
    refine z_iadd dL_law_1129 ⟨by omega, by omega⟩ ?_
    refine z_ialdx dL_law_1130 (by decide) ⟨by omega, by omega, by omega⟩ ?_
    refine z_aloadn dL_law_1131 rfl (Or.inr rfl) ?_
    refine z_iloadn dL_law_1132 rfl ?_
    refine z_iconst dL_law_1133 ki_2 ?_
    refine z_iadd dL_law_1134 ⟨by omega, by omega⟩ ?_
    refine z_ialdx dL_law_1135 (by decide) ⟨by omega, by omega, by omega⟩ ?_
    refine z_aloadn dL_law_1136 rfl (Or.inr rfl) ?_
    refine z_iloadn dL_law_1137 rfl ?_
    refine z_iconst dL_law_1138 ki_3 ?_
    refine z_iadd dL_law_1139 ⟨by omega, by omega⟩ ?_
    refine z_ialdx dL_law_1140 (by decide) ⟨by omega, by omega, by omega⟩ ?_
    refine z_ifeq (tgt := 1148) dL_law_1141 rfl (fun _ => ?_) (fun q => absurd hz q)
    refine z_iconst dL_law_1148 ki_0 ?_
    refine y_cv (mt2 := mX12_game) (en := [(2, 234), (0, lS G (i + 1)), (0, lS G (i + 2)), (0, 0), (9, 0)]) (st := [(0, x)]) (as := [(0, lS G (i + 1)), (0, lS G (i + 2)), (0, 0)]) dL_law_1149 lL_138 kX12_game iX12_game eX12_game rfl sh234 (by decide +kernel) (Nat.le_of_ble_eq_true rfl) (Nat.le_of_ble_eq_true rfl) rfl (h1.post (fun r M2 _ _ _ q => ?_))
    obtain ⟨rfl, q2⟩ := q
    show Y G (d + 400 + 1) (mLw nm) 1152 [(4, 0), (2, 1), (2, 234), (0, i)] [(0, x), (0, x)] M2 Q
    exact z_icmpeq (tgt := 1616) dL_law_1152 rfl (fun _ => hk M2 q2) (fun q => absurd rfl q)
  · refine z_aloadn dL_law_1098 rfl (Or.inl rfl) ?_
    refine z_aloadn dL_law_1099 rfl (Or.inr rfl) ?_
    refine z_iloadn dL_law_1100 rfl ?_
    refine z_iconst dL_law_1101 ki_1 ?_
    refine z_iadd dL_law_1102 ⟨by omega, by omega⟩ ?_
    refine z_ialdx dL_law_1103 (by decide) ⟨by omega, by omega, by omega⟩ ?_
    refine z_aloadn dL_law_1104 rfl (Or.inr rfl) ?_
    refine z_iloadn dL_law_1105 rfl ?_
    refine z_iconst dL_law_1106 ki_2 ?_
    refine z_iadd dL_law_1107 ⟨by omega, by omega⟩ ?_
    refine z_ialdx dL_law_1108 (by decide) ⟨by omega, by omega, by omega⟩ ?_
    refine z_aloadn dL_law_1109 rfl (Or.inr rfl) ?_
    refine z_iloadn dL_law_1110 rfl ?_
    refine z_iconst dL_law_1111 ki_3 ?_
    refine z_iadd dL_law_1112 ⟨by omega, by omega⟩ ?_
    refine z_ialdx dL_law_1113 (by decide) ⟨by omega, by omega, by omega⟩ ?_
    refine z_ifeq (tgt := 1121) dL_law_1114 rfl (fun q => absurd q hz) (fun _ => ?_)
    refine z_iconst dL_law_1117 ki_1 ?_
    refine z_goto (tgt := 1122) dL_law_1118 rfl ?_
    refine y_cv (mt2 := mX11_game) (en := [(2, 1), (0, lS G (i + 1)), (0, lS G (i + 2)), (0, 1), (9, 0)]) (st := []) (as := [(0, lS G (i + 1)), (0, lS G (i + 2)), (0, 1)]) dL_law_1122 lL_134 kX11_game iX11_game eX11_game rfl sh1 (by decide +kernel) (Nat.le_of_ble_eq_true rfl) (Nat.le_of_ble_eq_true rfl) rfl (lw_po (pr_game (d := d) hG hJ) (Or.inl rfl) (fun x M1 h1 => ?_))
    show Y G (d + 400 + 1) (mLw nm) 1125 [(4, 0), (2, 1), (2, 234), (0, i)] [(0, x)] M1 Q
    refine z_aloadn dL_law_1125 rfl (Or.inl rfl) ?_
    refine z_aloadn dL_law_1126 rfl (Or.inr rfl) ?_
    refine z_iloadn dL_law_1127 rfl ?_
    refine z_iconst dL_law_1128 ki_1 ?_
    refine z_iadd dL_law_1129 ⟨by omega, by omega⟩ ?_
    refine z_ialdx dL_law_1130 (by decide) ⟨by omega, by omega, by omega⟩ ?_
    refine z_aloadn dL_law_1131 rfl (Or.inr rfl) ?_
    refine z_iloadn dL_law_1132 rfl ?_
    refine z_iconst dL_law_1133 ki_2 ?_
    refine z_iadd dL_law_1134 ⟨by omega, by omega⟩ ?_
    refine z_ialdx dL_law_1135 (by decide) ⟨by omega, by omega, by omega⟩ ?_
    refine z_aloadn dL_law_1136 rfl (Or.inr rfl) ?_
    refine z_iloadn dL_law_1137 rfl ?_
    refine z_iconst dL_law_1138 ki_3 ?_
    refine z_iadd dL_law_1139 ⟨by omega, by omega⟩ ?_
    refine z_ialdx dL_law_1140 (by decide) ⟨by omega, by omega, by omega⟩ ?_
    refine z_ifeq (tgt := 1148) dL_law_1141 rfl (fun q => absurd q hz) (fun _ => ?_)
    refine z_iconst dL_law_1144 ki_1 ?_
    refine z_goto (tgt := 1149) dL_law_1145 rfl ?_
    refine y_cv (mt2 := mX12_game) (en := [(2, 234), (0, lS G (i + 1)), (0, lS G (i + 2)), (0, 1), (9, 0)]) (st := [(0, x)]) (as := [(0, lS G (i + 1)), (0, lS G (i + 2)), (0, 1)]) dL_law_1149 lL_138 kX12_game iX12_game eX12_game rfl sh234 (by decide +kernel) (Nat.le_of_ble_eq_true rfl) (Nat.le_of_ble_eq_true rfl) rfl (h1.post (fun r M2 _ _ _ q => ?_))
    obtain ⟨rfl, q2⟩ := q
    show Y G (d + 400 + 1) (mLw nm) 1152 [(4, 0), (2, 1), (2, 234), (0, i)] [(0, x), (0, x)] M2 Q
    exact z_icmpeq (tgt := 1616) dL_law_1152 rfl (fun _ => hk M2 q2) (fun q => absurd rfl q)
set_option maxRecDepth 20000 in
set_option maxHeartbeats 4000000 in
theorem lc_29 (hG : zP G) (hJ : zJ M) (hv : M 2 10 ≤ 1000000) {i : Int} (hi : 0 ≤ i ∧ i + 6 ≤ ((G.2.2.2.2.2.1 (0 : Int).toNat).1 : Int)) (hL : (G.2.2.2.2.2.1 (0 : Int).toNat).1 ≤ 3072) (hk : ∀ M2, zJn M M2 → Y G (d + 400 + 1) (mLw nm) 1616 [(4, 0), (2, 1), (2, 234), (0, i)] [] M2 Q) : Y G (d + 400 + 1) (mLw nm) 1157 [(4, 0), (2, 1), (2, 234), (0, i)] [] M Q := by
  refine z_aloadn dL_law_1157 rfl (Or.inl rfl) ?_
  refine z_aloadn dL_law_1158 rfl (Or.inr rfl) ?_
  refine z_iloadn dL_law_1159 rfl ?_
  refine z_iconst dL_law_1160 ki_1 ?_
  refine z_iadd dL_law_1161 ⟨by omega, by omega⟩ ?_
  refine z_ialdx dL_law_1162 (by decide) ⟨by omega, by omega, by omega⟩ ?_
  refine y_cv (mt2 := mX11_left) (en := [(2, 1), (0, lS G (i + 1))]) (st := []) (as := [(0, lS G (i + 1))]) dL_law_1163 lL_139 kX11_left iX11_left eX11_left rfl sh1 (by decide +kernel) (Nat.le_of_ble_eq_true rfl) (Nat.le_of_ble_eq_true rfl) rfl (lw_po (pr_left (d := d) hG hJ) (Or.inl rfl) (fun x M1 h1 => ?_))
  show Y G (d + 400 + 1) (mLw nm) 1166 [(4, 0), (2, 1), (2, 234), (0, i)] [(0, x)] M1 Q
  refine z_aloadn dL_law_1166 rfl (Or.inl rfl) ?_
  refine z_aloadn dL_law_1167 rfl (Or.inr rfl) ?_
  refine z_iloadn dL_law_1168 rfl ?_
  refine z_iconst dL_law_1169 ki_1 ?_
  refine z_iadd dL_law_1170 ⟨by omega, by omega⟩ ?_
  refine z_ialdx dL_law_1171 (by decide) ⟨by omega, by omega, by omega⟩ ?_
  refine y_cv (mt2 := mX12_left) (en := [(2, 234), (0, lS G (i + 1)), (9, 0), (9, 0)]) (st := [(0, x)]) (as := [(0, lS G (i + 1))]) dL_law_1172 lL_142 kX12_left iX12_left eX12_left rfl sh234 (by decide +kernel) (Nat.le_of_ble_eq_true rfl) (Nat.le_of_ble_eq_true rfl) rfl (h1.post (fun r M2 _ _ _ q => ?_))
  obtain ⟨rfl, q2⟩ := q
  show Y G (d + 400 + 1) (mLw nm) 1175 [(4, 0), (2, 1), (2, 234), (0, i)] [(0, x), (0, x)] M2 Q
  exact z_icmpeq (tgt := 1616) dL_law_1175 rfl (fun _ => hk M2 q2) (fun q => absurd rfl q)
set_option maxRecDepth 20000 in
set_option maxHeartbeats 4000000 in
theorem lc_30 (hG : zP G) (hJ : zJ M) (hv : M 2 10 ≤ 1000000) {i : Int} (hi : 0 ≤ i ∧ i + 6 ≤ ((G.2.2.2.2.2.1 (0 : Int).toNat).1 : Int)) (hL : (G.2.2.2.2.2.1 (0 : Int).toNat).1 ≤ 3072) (hk : ∀ M2, zJn M M2 → Y G (d + 400 + 1) (mLw nm) 1616 [(4, 0), (2, 1), (2, 234), (0, i)] [] M2 Q) : Y G (d + 400 + 1) (mLw nm) 1180 [(4, 0), (2, 1), (2, 234), (0, i)] [] M Q := by
  refine z_aloadn dL_law_1180 rfl (Or.inl rfl) ?_
  refine z_aloadn dL_law_1181 rfl (Or.inr rfl) ?_
  refine z_iloadn dL_law_1182 rfl ?_
  refine z_iconst dL_law_1183 ki_1 ?_
  refine z_iadd dL_law_1184 ⟨by omega, by omega⟩ ?_
  refine z_ialdx dL_law_1185 (by decide) ⟨by omega, by omega, by omega⟩ ?_
  refine z_aloadn dL_law_1186 rfl (Or.inr rfl) ?_
  refine z_iloadn dL_law_1187 rfl ?_
  refine z_iconst dL_law_1188 ki_2 ?_
  refine z_iadd dL_law_1189 ⟨by omega, by omega⟩ ?_
  refine z_ialdx dL_law_1190 (by decide) ⟨by omega, by omega, by omega⟩ ?_
  refine z_aloadn dL_law_1191 rfl (Or.inr rfl) ?_
  refine z_iloadn dL_law_1192 rfl ?_
  refine z_iconst dL_law_1193 ki_3 ?_
  refine z_iadd dL_law_1194 ⟨by omega, by omega⟩ ?_
  refine z_ialdx dL_law_1195 (by decide) ⟨by omega, by omega, by omega⟩ ?_
  refine y_cv (mt2 := mX11_kinds) (en := [(2, 1), (0, lS G (i + 1)), (0, lS G (i + 2)), (0, lS G (i + 3))]) (st := []) (as := [(0, lS G (i + 1)), (0, lS G (i + 2)), (0, lS G (i + 3))]) dL_law_1196 lL_143 kX11_kinds iX11_kinds eX11_kinds rfl sh1 (by decide +kernel) (Nat.le_of_ble_eq_true rfl) (Nat.le_of_ble_eq_true rfl) rfl (lw_pl (pr_kindsT (d := d) hG hJ) (fun x M1 h1 => ?_))
  show Y G (d + 400 + 1) (mLw nm) 1199 [(4, 0), (2, 1), (2, 234), (0, i)] [(1, x)] M1 Q
  refine z_aloadn dL_law_1199 rfl (Or.inl rfl) ?_
  refine z_aloadn dL_law_1200 rfl (Or.inr rfl) ?_
  refine z_iloadn dL_law_1201 rfl ?_
  refine z_iconst dL_law_1202 ki_1 ?_
  refine z_iadd dL_law_1203 ⟨by omega, by omega⟩ ?_
  refine z_ialdx dL_law_1204 (by decide) ⟨by omega, by omega, by omega⟩ ?_
  refine z_aloadn dL_law_1205 rfl (Or.inr rfl) ?_
  refine z_iloadn dL_law_1206 rfl ?_
  refine z_iconst dL_law_1207 ki_2 ?_
  refine z_iadd dL_law_1208 ⟨by omega, by omega⟩ ?_
  refine z_ialdx dL_law_1209 (by decide) ⟨by omega, by omega, by omega⟩ ?_
  refine z_aloadn dL_law_1210 rfl (Or.inr rfl) ?_
  refine z_iloadn dL_law_1211 rfl ?_
  refine z_iconst dL_law_1212 ki_3 ?_
  refine z_iadd dL_law_1213 ⟨by omega, by omega⟩ ?_
  refine z_ialdx dL_law_1214 (by decide) ⟨by omega, by omega, by omega⟩ ?_
  refine y_cv (mt2 := mX12_kinds) (en := [(2, 234), (0, lS G (i + 1)), (0, lS G (i + 2)), (0, lS G (i + 3))]) (st := [(1, x)]) (as := [(0, lS G (i + 1)), (0, lS G (i + 2)), (0, lS G (i + 3))]) dL_law_1215 lL_147 kX12_kinds iX12_kinds eX12_kinds rfl sh234 (by decide +kernel) (Nat.le_of_ble_eq_true rfl) (Nat.le_of_ble_eq_true rfl) rfl (h1.post (fun r M2 _ _ _ q => ?_))
  obtain ⟨rfl, q2⟩ := q
  show Y G (d + 400 + 1) (mLw nm) 1218 [(4, 0), (2, 1), (2, 234), (0, i)] [(1, x), (1, x)] M2 Q
  refine z_lcmp dL_law_1218 ?_
  rw [zlcmp_self]
  exact z_ifeq (tgt := 1616) dL_law_1219 rfl (fun _ => hk M2 q2) (fun q => absurd rfl q)
set_option maxRecDepth 20000 in
set_option maxHeartbeats 4000000 in
theorem lc_31 (hG : zP G) (hJ : zJ M) (hv : M 2 10 ≤ 1000000) {i : Int} (hi : 0 ≤ i ∧ i + 6 ≤ ((G.2.2.2.2.2.1 (0 : Int).toNat).1 : Int)) (hL : (G.2.2.2.2.2.1 (0 : Int).toNat).1 ≤ 3072) (hk : ∀ M2, zJn M M2 → Y G (d + 400 + 1) (mLw nm) 1616 [(4, 0), (2, 1), (2, 234), (0, i)] [] M2 Q) : Y G (d + 400 + 1) (mLw nm) 1224 [(4, 0), (2, 1), (2, 234), (0, i)] [] M Q := by
  refine z_aloadn dL_law_1224 rfl (Or.inl rfl) ?_
  refine z_aloadn dL_law_1225 rfl (Or.inr rfl) ?_
  refine z_iloadn dL_law_1226 rfl ?_
  refine z_iconst dL_law_1227 ki_1 ?_
  refine z_iadd dL_law_1228 ⟨by omega, by omega⟩ ?_
  refine z_ialdx dL_law_1229 (by decide) ⟨by omega, by omega, by omega⟩ ?_
  refine z_aloadn dL_law_1230 rfl (Or.inr rfl) ?_
  refine z_iloadn dL_law_1231 rfl ?_
  refine z_iconst dL_law_1232 ki_2 ?_
  refine z_iadd dL_law_1233 ⟨by omega, by omega⟩ ?_
  refine z_ialdx dL_law_1234 (by decide) ⟨by omega, by omega, by omega⟩ ?_
  refine y_cv (mt2 := mX11_fewest) (en := [(2, 1), (0, lS G (i + 1)), (0, lS G (i + 2))]) (st := []) (as := [(0, lS G (i + 1)), (0, lS G (i + 2))]) dL_law_1235 lL_148 kX11_fewest iX11_fewest eX11_fewest rfl sh1 (by decide +kernel) (Nat.le_of_ble_eq_true rfl) (Nat.le_of_ble_eq_true rfl) rfl (lw_po (pr_fewest (d := d) hG hJ) (Or.inl rfl) (fun x M1 h1 => ?_))
  show Y G (d + 400 + 1) (mLw nm) 1238 [(4, 0), (2, 1), (2, 234), (0, i)] [(0, x)] M1 Q
  refine z_aloadn dL_law_1238 rfl (Or.inl rfl) ?_
  refine z_aloadn dL_law_1239 rfl (Or.inr rfl) ?_
  refine z_iloadn dL_law_1240 rfl ?_
  refine z_iconst dL_law_1241 ki_1 ?_
  refine z_iadd dL_law_1242 ⟨by omega, by omega⟩ ?_
  refine z_ialdx dL_law_1243 (by decide) ⟨by omega, by omega, by omega⟩ ?_
  refine z_aloadn dL_law_1244 rfl (Or.inr rfl) ?_
  refine z_iloadn dL_law_1245 rfl ?_
  refine z_iconst dL_law_1246 ki_2 ?_
  refine z_iadd dL_law_1247 ⟨by omega, by omega⟩ ?_
  refine z_ialdx dL_law_1248 (by decide) ⟨by omega, by omega, by omega⟩ ?_
  refine y_cv (mt2 := mX12_fewest) (en := [(2, 234), (0, lS G (i + 1)), (0, lS G (i + 2))]) (st := [(0, x)]) (as := [(0, lS G (i + 1)), (0, lS G (i + 2))]) dL_law_1249 lL_151 kX12_fewest iX12_fewest eX12_fewest rfl sh234 (by decide +kernel) (Nat.le_of_ble_eq_true rfl) (Nat.le_of_ble_eq_true rfl) rfl (h1.post (fun r M2 _ _ _ q => ?_))
  obtain ⟨rfl, q2⟩ := q
  show Y G (d + 400 + 1) (mLw nm) 1252 [(4, 0), (2, 1), (2, 234), (0, i)] [(0, x), (0, x)] M2 Q
  exact z_icmpeq (tgt := 1616) dL_law_1252 rfl (fun _ => hk M2 q2) (fun q => absurd rfl q)
set_option maxRecDepth 20000 in
set_option maxHeartbeats 4000000 in
theorem lc_32 (hG : zP G) (hJ : zJ M) (hv : M 2 10 ≤ 1000000) {i : Int} (hi : 0 ≤ i ∧ i + 6 ≤ ((G.2.2.2.2.2.1 (0 : Int).toNat).1 : Int)) (hL : (G.2.2.2.2.2.1 (0 : Int).toNat).1 ≤ 3072) (hk : ∀ M2, zJn M M2 → Y G (d + 400 + 1) (mLw nm) 1616 [(4, 0), (2, 1), (2, 234), (0, i)] [] M2 Q) : Y G (d + 400 + 1) (mLw nm) 1257 [(4, 0), (2, 1), (2, 234), (0, i)] [] M Q := by
  refine z_aloadn dL_law_1257 rfl (Or.inl rfl) ?_
  refine z_aloadn dL_law_1258 rfl (Or.inr rfl) ?_
  refine z_iloadn dL_law_1259 rfl ?_
  refine z_iconst dL_law_1260 ki_1 ?_
  refine z_iadd dL_law_1261 ⟨by omega, by omega⟩ ?_
  refine z_ialdx dL_law_1262 (by decide) ⟨by omega, by omega, by omega⟩ ?_
  refine z_aloadn dL_law_1263 rfl (Or.inr rfl) ?_
  refine z_iloadn dL_law_1264 rfl ?_
  refine z_iconst dL_law_1265 ki_2 ?_
  refine z_iadd dL_law_1266 ⟨by omega, by omega⟩ ?_
  refine z_ialdx dL_law_1267 (by decide) ⟨by omega, by omega, by omega⟩ ?_
  refine z_aloadn dL_law_1268 rfl (Or.inr rfl) ?_
  refine z_iloadn dL_law_1269 rfl ?_
  refine z_iconst dL_law_1270 ki_3 ?_
  refine z_iadd dL_law_1271 ⟨by omega, by omega⟩ ?_
  refine z_ialdx dL_law_1272 (by decide) ⟨by omega, by omega, by omega⟩ ?_
  refine y_cv (mt2 := mX11_shortest) (en := [(2, 1), (0, lS G (i + 1)), (0, lS G (i + 2)), (0, lS G (i + 3)), (9, 0)]) (st := []) (as := [(0, lS G (i + 1)), (0, lS G (i + 2)), (0, lS G (i + 3))]) dL_law_1273 lL_152 kX11_shortest iX11_shortest eX11_shortest rfl sh1 (by decide +kernel) (Nat.le_of_ble_eq_true rfl) (Nat.le_of_ble_eq_true rfl) rfl (lw_po (pr_shortest (d := d) hG hJ) (Or.inl rfl) (fun x M1 h1 => ?_))
  show Y G (d + 400 + 1) (mLw nm) 1276 [(4, 0), (2, 1), (2, 234), (0, i)] [(0, x)] M1 Q
  refine z_aloadn dL_law_1276 rfl (Or.inl rfl) ?_
  refine z_aloadn dL_law_1277 rfl (Or.inr rfl) ?_
  refine z_iloadn dL_law_1278 rfl ?_
  refine z_iconst dL_law_1279 ki_1 ?_
  refine z_iadd dL_law_1280 ⟨by omega, by omega⟩ ?_
  refine z_ialdx dL_law_1281 (by decide) ⟨by omega, by omega, by omega⟩ ?_
  refine z_aloadn dL_law_1282 rfl (Or.inr rfl) ?_
  refine z_iloadn dL_law_1283 rfl ?_
  refine z_iconst dL_law_1284 ki_2 ?_
  refine z_iadd dL_law_1285 ⟨by omega, by omega⟩ ?_
  refine z_ialdx dL_law_1286 (by decide) ⟨by omega, by omega, by omega⟩ ?_
  refine z_aloadn dL_law_1287 rfl (Or.inr rfl) ?_
  refine z_iloadn dL_law_1288 rfl ?_
  refine z_iconst dL_law_1289 ki_3 ?_
  refine z_iadd dL_law_1290 ⟨by omega, by omega⟩ ?_
  refine z_ialdx dL_law_1291 (by decide) ⟨by omega, by omega, by omega⟩ ?_
  refine y_cv (mt2 := mX12_shortest) (en := [(2, 234), (0, lS G (i + 1)), (0, lS G (i + 2)), (0, lS G (i + 3)), (9, 0), (9, 0)]) (st := [(0, x)]) (as := [(0, lS G (i + 1)), (0, lS G (i + 2)), (0, lS G (i + 3))]) dL_law_1292 lL_155 kX12_shortest iX12_shortest eX12_shortest rfl sh234 (by decide +kernel) (Nat.le_of_ble_eq_true rfl) (Nat.le_of_ble_eq_true rfl) rfl (h1.post (fun r M2 _ _ _ q => ?_))
  obtain ⟨rfl, q2⟩ := q
  show Y G (d + 400 + 1) (mLw nm) 1295 [(4, 0), (2, 1), (2, 234), (0, i)] [(0, x), (0, x)] M2 Q
  exact z_icmpeq (tgt := 1616) dL_law_1295 rfl (fun _ => hk M2 q2) (fun q => absurd rfl q)
set_option maxRecDepth 20000 in
set_option maxHeartbeats 4000000 in
theorem lc_33 (hG : zP G) (hJ : zJ M) (hv : M 2 10 ≤ 1000000) {i : Int} (hi : 0 ≤ i ∧ i + 6 ≤ ((G.2.2.2.2.2.1 (0 : Int).toNat).1 : Int)) (hL : (G.2.2.2.2.2.1 (0 : Int).toNat).1 ≤ 3072) (hk : ∀ M2, zJn M M2 → Y G (d + 400 + 1) (mLw nm) 1616 [(4, 0), (2, 1), (2, 234), (0, i)] [] M2 Q) : Y G (d + 400 + 1) (mLw nm) 1300 [(4, 0), (2, 1), (2, 234), (0, i)] [] M Q := by
  refine z_aloadn dL_law_1300 rfl (Or.inl rfl) ?_
  refine z_aloadn dL_law_1301 rfl (Or.inr rfl) ?_
  refine z_iloadn dL_law_1302 rfl ?_
  refine z_iconst dL_law_1303 ki_1 ?_
  refine z_iadd dL_law_1304 ⟨by omega, by omega⟩ ?_
  refine z_ialdx dL_law_1305 (by decide) ⟨by omega, by omega, by omega⟩ ?_
  refine z_aloadn dL_law_1306 rfl (Or.inr rfl) ?_
  refine z_iloadn dL_law_1307 rfl ?_
  refine z_iconst dL_law_1308 ki_2 ?_
  refine z_iadd dL_law_1309 ⟨by omega, by omega⟩ ?_
  refine z_ialdx dL_law_1310 (by decide) ⟨by omega, by omega, by omega⟩ ?_
  refine z_aloadn dL_law_1311 rfl (Or.inr rfl) ?_
  refine z_iloadn dL_law_1312 rfl ?_
  refine z_iconst dL_law_1313 ki_3 ?_
  refine z_iadd dL_law_1314 ⟨by omega, by omega⟩ ?_
  refine z_ialdx dL_law_1315 (by decide) ⟨by omega, by omega, by omega⟩ ?_
  refine z_aloadn dL_law_1316 rfl (Or.inr rfl) ?_
  refine z_iloadn dL_law_1317 rfl ?_
  refine z_iconst dL_law_1318 ki_4 ?_
  refine z_iadd dL_law_1319 ⟨by omega, by omega⟩ ?_
  refine z_ialdx dL_law_1320 (by decide) ⟨by omega, by omega, by omega⟩ ?_
  refine y_cv (mt2 := mX11_rarest) (en := [(2, 1), (0, lS G (i + 1)), (0, lS G (i + 2)), (0, lS G (i + 3)), (0, lS G (i + 4))]) (st := []) (as := [(0, lS G (i + 1)), (0, lS G (i + 2)), (0, lS G (i + 3)), (0, lS G (i + 4))]) dL_law_1321 lL_156 kX11_rarest iX11_rarest eX11_rarest rfl sh1 (by decide +kernel) (Nat.le_of_ble_eq_true rfl) (Nat.le_of_ble_eq_true rfl) rfl (lw_po (pr_rarest (d := d) hG hJ) (Or.inl rfl) (fun x M1 h1 => ?_))
  show Y G (d + 400 + 1) (mLw nm) 1324 [(4, 0), (2, 1), (2, 234), (0, i)] [(0, x)] M1 Q
  refine z_aloadn dL_law_1324 rfl (Or.inl rfl) ?_
  refine z_aloadn dL_law_1325 rfl (Or.inr rfl) ?_
  refine z_iloadn dL_law_1326 rfl ?_
  refine z_iconst dL_law_1327 ki_1 ?_
  refine z_iadd dL_law_1328 ⟨by omega, by omega⟩ ?_
  refine z_ialdx dL_law_1329 (by decide) ⟨by omega, by omega, by omega⟩ ?_
  refine z_aloadn dL_law_1330 rfl (Or.inr rfl) ?_
  refine z_iloadn dL_law_1331 rfl ?_
  refine z_iconst dL_law_1332 ki_2 ?_
  refine z_iadd dL_law_1333 ⟨by omega, by omega⟩ ?_
  refine z_ialdx dL_law_1334 (by decide) ⟨by omega, by omega, by omega⟩ ?_
  refine z_aloadn dL_law_1335 rfl (Or.inr rfl) ?_
  refine z_iloadn dL_law_1336 rfl ?_
  refine z_iconst dL_law_1337 ki_3 ?_
  refine z_iadd dL_law_1338 ⟨by omega, by omega⟩ ?_
  refine z_ialdx dL_law_1339 (by decide) ⟨by omega, by omega, by omega⟩ ?_
  refine z_aloadn dL_law_1340 rfl (Or.inr rfl) ?_
  refine z_iloadn dL_law_1341 rfl ?_
  refine z_iconst dL_law_1342 ki_4 ?_
  refine z_iadd dL_law_1343 ⟨by omega, by omega⟩ ?_
  refine z_ialdx dL_law_1344 (by decide) ⟨by omega, by omega, by omega⟩ ?_
  refine y_cv (mt2 := mX12_rarest) (en := [(2, 234), (0, lS G (i + 1)), (0, lS G (i + 2)), (0, lS G (i + 3)), (0, lS G (i + 4)), (9, 0), (9, 0), (9, 0), (9, 0)]) (st := [(0, x)]) (as := [(0, lS G (i + 1)), (0, lS G (i + 2)), (0, lS G (i + 3)), (0, lS G (i + 4))]) dL_law_1345 lL_160 kX12_rarest iX12_rarest eX12_rarest rfl sh234 (by decide +kernel) (Nat.le_of_ble_eq_true rfl) (Nat.le_of_ble_eq_true rfl) rfl (h1.post (fun r M2 _ _ _ q => ?_))
  obtain ⟨rfl, q2⟩ := q
  show Y G (d + 400 + 1) (mLw nm) 1348 [(4, 0), (2, 1), (2, 234), (0, i)] [(0, x), (0, x)] M2 Q
  exact z_icmpeq (tgt := 1616) dL_law_1348 rfl (fun _ => hk M2 q2) (fun q => absurd rfl q)
set_option maxRecDepth 20000 in
set_option maxHeartbeats 4000000 in
theorem lc_34 (hG : zP G) (hJ : zJ M) (hv : M 2 10 ≤ 1000000) {i : Int} (hi : 0 ≤ i ∧ i + 6 ≤ ((G.2.2.2.2.2.1 (0 : Int).toNat).1 : Int)) (hL : (G.2.2.2.2.2.1 (0 : Int).toNat).1 ≤ 3072) (hk : ∀ M2, zJn M M2 → Y G (d + 400 + 1) (mLw nm) 1616 [(4, 0), (2, 1), (2, 234), (0, i)] [] M2 Q) : Y G (d + 400 + 1) (mLw nm) 1353 [(4, 0), (2, 1), (2, 234), (0, i)] [] M Q := by
  refine z_aloadn dL_law_1353 rfl (Or.inl rfl) ?_
  refine z_aloadn dL_law_1354 rfl (Or.inr rfl) ?_
  refine z_iloadn dL_law_1355 rfl ?_
  refine z_iconst dL_law_1356 ki_1 ?_
  refine z_iadd dL_law_1357 ⟨by omega, by omega⟩ ?_
  refine z_ialdx dL_law_1358 (by decide) ⟨by omega, by omega, by omega⟩ ?_
  refine z_aloadn dL_law_1359 rfl (Or.inr rfl) ?_
  refine z_iloadn dL_law_1360 rfl ?_
  refine z_iconst dL_law_1361 ki_2 ?_
  refine z_iadd dL_law_1362 ⟨by omega, by omega⟩ ?_
  refine z_ialdx dL_law_1363 (by decide) ⟨by omega, by omega, by omega⟩ ?_
  refine z_aloadn dL_law_1364 rfl (Or.inr rfl) ?_
  refine z_iloadn dL_law_1365 rfl ?_
  refine z_iconst dL_law_1366 ki_3 ?_
  refine z_iadd dL_law_1367 ⟨by omega, by omega⟩ ?_
  refine z_ialdx dL_law_1368 (by decide) ⟨by omega, by omega, by omega⟩ ?_
  refine y_cv (mt2 := mX11_fair) (en := [(2, 1), (0, lS G (i + 1)), (0, lS G (i + 2)), (0, lS G (i + 3)), (9, 0), (9, 0)]) (st := []) (as := [(0, lS G (i + 1)), (0, lS G (i + 2)), (0, lS G (i + 3))]) dL_law_1369 lL_161 kX11_fair iX11_fair eX11_fair rfl sh1 (by decide +kernel) (Nat.le_of_ble_eq_true rfl) (Nat.le_of_ble_eq_true rfl) rfl (lw_po (pr_fair (d := d) hG hJ) (Or.inl rfl) (fun x M1 h1 => ?_))
  show Y G (d + 400 + 1) (mLw nm) 1372 [(4, 0), (2, 1), (2, 234), (0, i)] [(0, x)] M1 Q
  refine z_aloadn dL_law_1372 rfl (Or.inl rfl) ?_
  refine z_aloadn dL_law_1373 rfl (Or.inr rfl) ?_
  refine z_iloadn dL_law_1374 rfl ?_
  refine z_iconst dL_law_1375 ki_1 ?_
  refine z_iadd dL_law_1376 ⟨by omega, by omega⟩ ?_
  refine z_ialdx dL_law_1377 (by decide) ⟨by omega, by omega, by omega⟩ ?_
  refine z_aloadn dL_law_1378 rfl (Or.inr rfl) ?_
  refine z_iloadn dL_law_1379 rfl ?_
  refine z_iconst dL_law_1380 ki_2 ?_
  refine z_iadd dL_law_1381 ⟨by omega, by omega⟩ ?_
  refine z_ialdx dL_law_1382 (by decide) ⟨by omega, by omega, by omega⟩ ?_
  refine z_aloadn dL_law_1383 rfl (Or.inr rfl) ?_
  refine z_iloadn dL_law_1384 rfl ?_
  refine z_iconst dL_law_1385 ki_3 ?_
  refine z_iadd dL_law_1386 ⟨by omega, by omega⟩ ?_
  refine z_ialdx dL_law_1387 (by decide) ⟨by omega, by omega, by omega⟩ ?_
  refine y_cv (mt2 := mX12_fair) (en := [(2, 234), (0, lS G (i + 1)), (0, lS G (i + 2)), (0, lS G (i + 3)), (9, 0), (9, 0), (9, 0), (9, 0), (9, 0)]) (st := [(0, x)]) (as := [(0, lS G (i + 1)), (0, lS G (i + 2)), (0, lS G (i + 3))]) dL_law_1388 lL_164 kX12_fair iX12_fair eX12_fair rfl sh234 (by decide +kernel) (Nat.le_of_ble_eq_true rfl) (Nat.le_of_ble_eq_true rfl) rfl (h1.post (fun r M2 _ _ _ q => ?_))
  obtain ⟨rfl, q2⟩ := q
  show Y G (d + 400 + 1) (mLw nm) 1391 [(4, 0), (2, 1), (2, 234), (0, i)] [(0, x), (0, x)] M2 Q
  exact z_icmpeq (tgt := 1616) dL_law_1391 rfl (fun _ => hk M2 q2) (fun q => absurd rfl q)
set_option maxRecDepth 20000 in
set_option maxHeartbeats 4000000 in
theorem lc_35 (hG : zP G) (hJ : zJ M) (hv : M 2 10 ≤ 1000000) {i : Int} (hi : 0 ≤ i ∧ i + 6 ≤ ((G.2.2.2.2.2.1 (0 : Int).toNat).1 : Int)) (hL : (G.2.2.2.2.2.1 (0 : Int).toNat).1 ≤ 3072) (hk : ∀ M2, zJn M M2 → Y G (d + 400 + 1) (mLw nm) 1616 [(4, 0), (2, 1), (2, 234), (0, i)] [] M2 Q) : Y G (d + 400 + 1) (mLw nm) 1396 [(4, 0), (2, 1), (2, 234), (0, i)] [] M Q := by
  refine z_aloadn dL_law_1396 rfl (Or.inl rfl) ?_
  refine z_aloadn dL_law_1397 rfl (Or.inr rfl) ?_
  refine z_iloadn dL_law_1398 rfl ?_
  refine z_iconst dL_law_1399 ki_1 ?_
  refine z_iadd dL_law_1400 ⟨by omega, by omega⟩ ?_
  refine z_ialdx dL_law_1401 (by decide) ⟨by omega, by omega, by omega⟩ ?_
  refine z_aloadn dL_law_1402 rfl (Or.inr rfl) ?_
  refine z_iloadn dL_law_1403 rfl ?_
  refine z_iconst dL_law_1404 ki_2 ?_
  refine z_iadd dL_law_1405 ⟨by omega, by omega⟩ ?_
  refine z_ialdx dL_law_1406 (by decide) ⟨by omega, by omega, by omega⟩ ?_
  refine y_cv (mt2 := mX11_unasked) (en := [(2, 1), (0, lS G (i + 1)), (0, lS G (i + 2)), (9, 0)]) (st := []) (as := [(0, lS G (i + 1)), (0, lS G (i + 2))]) dL_law_1407 lL_165 kX11_unasked iX11_unasked eX11_unasked rfl sh1 (by decide +kernel) (Nat.le_of_ble_eq_true rfl) (Nat.le_of_ble_eq_true rfl) rfl (lw_po (pr_unasked (d := d) hG hJ) (Or.inl rfl) (fun x M1 h1 => ?_))
  show Y G (d + 400 + 1) (mLw nm) 1410 [(4, 0), (2, 1), (2, 234), (0, i)] [(0, x)] M1 Q
  refine z_aloadn dL_law_1410 rfl (Or.inl rfl) ?_
  refine z_aloadn dL_law_1411 rfl (Or.inr rfl) ?_
  refine z_iloadn dL_law_1412 rfl ?_
  refine z_iconst dL_law_1413 ki_1 ?_
  refine z_iadd dL_law_1414 ⟨by omega, by omega⟩ ?_
  refine z_ialdx dL_law_1415 (by decide) ⟨by omega, by omega, by omega⟩ ?_
  refine z_aloadn dL_law_1416 rfl (Or.inr rfl) ?_
  refine z_iloadn dL_law_1417 rfl ?_
  refine z_iconst dL_law_1418 ki_2 ?_
  refine z_iadd dL_law_1419 ⟨by omega, by omega⟩ ?_
  refine z_ialdx dL_law_1420 (by decide) ⟨by omega, by omega, by omega⟩ ?_
  refine y_cv (mt2 := mX12_unasked) (en := [(2, 234), (0, lS G (i + 1)), (0, lS G (i + 2)), (9, 0)]) (st := [(0, x)]) (as := [(0, lS G (i + 1)), (0, lS G (i + 2))]) dL_law_1421 lL_168 kX12_unasked iX12_unasked eX12_unasked rfl sh234 (by decide +kernel) (Nat.le_of_ble_eq_true rfl) (Nat.le_of_ble_eq_true rfl) rfl (h1.post (fun r M2 _ _ _ q => ?_))
  obtain ⟨rfl, q2⟩ := q
  show Y G (d + 400 + 1) (mLw nm) 1424 [(4, 0), (2, 1), (2, 234), (0, i)] [(0, x), (0, x)] M2 Q
  exact z_icmpeq (tgt := 1616) dL_law_1424 rfl (fun _ => hk M2 q2) (fun q => absurd rfl q)
set_option maxRecDepth 20000 in
set_option maxHeartbeats 4000000 in
theorem lc_36 (hG : zP G) (hJ : zJ M) (hv : M 2 10 ≤ 1000000) {i : Int} (hi : 0 ≤ i ∧ i + 6 ≤ ((G.2.2.2.2.2.1 (0 : Int).toNat).1 : Int)) (hL : (G.2.2.2.2.2.1 (0 : Int).toNat).1 ≤ 3072) (hk : ∀ M2, zJn M M2 → Y G (d + 400 + 1) (mLw nm) 1616 [(4, 0), (2, 1), (2, 234), (0, i)] [] M2 Q) : Y G (d + 400 + 1) (mLw nm) 1429 [(4, 0), (2, 1), (2, 234), (0, i)] [] M Q := by
  refine z_aloadn dL_law_1429 rfl (Or.inl rfl) ?_
  refine z_aloadn dL_law_1430 rfl (Or.inr rfl) ?_
  refine z_iloadn dL_law_1431 rfl ?_
  refine z_iconst dL_law_1432 ki_1 ?_
  refine z_iadd dL_law_1433 ⟨by omega, by omega⟩ ?_
  refine z_ialdx dL_law_1434 (by decide) ⟨by omega, by omega, by omega⟩ ?_
  refine z_aloadn dL_law_1435 rfl (Or.inr rfl) ?_
  refine z_iloadn dL_law_1436 rfl ?_
  refine z_iconst dL_law_1437 ki_2 ?_
  refine z_iadd dL_law_1438 ⟨by omega, by omega⟩ ?_
  refine z_ialdx dL_law_1439 (by decide) ⟨by omega, by omega, by omega⟩ ?_
  refine y_cv (mt2 := mX11_hear) (en := [(2, 1), (0, lS G (i + 1)), (0, lS G (i + 2))]) (st := []) (as := [(0, lS G (i + 1)), (0, lS G (i + 2))]) dL_law_1440 lL_169 kX11_hear iX11_hear eX11_hear rfl sh1 (by decide +kernel) (Nat.le_of_ble_eq_true rfl) (Nat.le_of_ble_eq_true rfl) rfl (lw_po (pr_hear (d := d) hG hJ) (Or.inl rfl) (fun x M1 h1 => ?_))
  show Y G (d + 400 + 1) (mLw nm) 1443 [(4, 0), (2, 1), (2, 234), (0, i)] [(0, x)] M1 Q
  refine z_aloadn dL_law_1443 rfl (Or.inl rfl) ?_
  refine z_aloadn dL_law_1444 rfl (Or.inr rfl) ?_
  refine z_iloadn dL_law_1445 rfl ?_
  refine z_iconst dL_law_1446 ki_1 ?_
  refine z_iadd dL_law_1447 ⟨by omega, by omega⟩ ?_
  refine z_ialdx dL_law_1448 (by decide) ⟨by omega, by omega, by omega⟩ ?_
  refine z_aloadn dL_law_1449 rfl (Or.inr rfl) ?_
  refine z_iloadn dL_law_1450 rfl ?_
  refine z_iconst dL_law_1451 ki_2 ?_
  refine z_iadd dL_law_1452 ⟨by omega, by omega⟩ ?_
  refine z_ialdx dL_law_1453 (by decide) ⟨by omega, by omega, by omega⟩ ?_
  refine y_cv (mt2 := mX12_hear) (en := [(2, 234), (0, lS G (i + 1)), (0, lS G (i + 2))]) (st := [(0, x)]) (as := [(0, lS G (i + 1)), (0, lS G (i + 2))]) dL_law_1454 lL_172 kX12_hear iX12_hear eX12_hear rfl sh234 (by decide +kernel) (Nat.le_of_ble_eq_true rfl) (Nat.le_of_ble_eq_true rfl) rfl (h1.post (fun r M2 _ _ _ q => ?_))
  obtain ⟨rfl, q2⟩ := q
  show Y G (d + 400 + 1) (mLw nm) 1457 [(4, 0), (2, 1), (2, 234), (0, i)] [(0, x), (0, x)] M2 Q
  exact z_icmpeq (tgt := 1616) dL_law_1457 rfl (fun _ => hk M2 q2) (fun q => absurd rfl q)
set_option maxRecDepth 20000 in
set_option maxHeartbeats 4000000 in
theorem lc_37 (hG : zP G) (hJ : zJ M) (hv : M 2 10 ≤ 1000000) {i : Int} (hi : 0 ≤ i ∧ i + 6 ≤ ((G.2.2.2.2.2.1 (0 : Int).toNat).1 : Int)) (hL : (G.2.2.2.2.2.1 (0 : Int).toNat).1 ≤ 3072) (hk : ∀ M2, zJn M M2 → Y G (d + 400 + 1) (mLw nm) 1616 [(4, 0), (2, 1), (2, 234), (0, i)] [] M2 Q) : Y G (d + 400 + 1) (mLw nm) 1462 [(4, 0), (2, 1), (2, 234), (0, i)] [] M Q := by
  refine z_aloadn dL_law_1462 rfl (Or.inl rfl) ?_
  refine z_aloadn dL_law_1463 rfl (Or.inr rfl) ?_
  refine z_iloadn dL_law_1464 rfl ?_
  refine z_iconst dL_law_1465 ki_1 ?_
  refine z_iadd dL_law_1466 ⟨by omega, by omega⟩ ?_
  refine z_ialdx dL_law_1467 (by decide) ⟨by omega, by omega, by omega⟩ ?_
  refine y_cv (mt2 := mX11_worlds) (en := [(2, 1), (0, lS G (i + 1)), (9, 0)]) (st := []) (as := [(0, lS G (i + 1))]) dL_law_1468 lL_173 kX11_worlds iX11_worlds eX11_worlds rfl sh1 (by decide +kernel) (Nat.le_of_ble_eq_true rfl) (Nat.le_of_ble_eq_true rfl) rfl (lw_po (pr_worlds (d := d) hG hJ) (Or.inl rfl) (fun x M1 h1 => ?_))
  show Y G (d + 400 + 1) (mLw nm) 1471 [(4, 0), (2, 1), (2, 234), (0, i)] [(0, x)] M1 Q
  refine z_aloadn dL_law_1471 rfl (Or.inl rfl) ?_
  refine z_aloadn dL_law_1472 rfl (Or.inr rfl) ?_
  refine z_iloadn dL_law_1473 rfl ?_
  refine z_iconst dL_law_1474 ki_1 ?_
  refine z_iadd dL_law_1475 ⟨by omega, by omega⟩ ?_
  refine z_ialdx dL_law_1476 (by decide) ⟨by omega, by omega, by omega⟩ ?_
  refine y_cv (mt2 := mX12_worlds) (en := [(2, 234), (0, lS G (i + 1)), (9, 0), (9, 0), (9, 0)]) (st := [(0, x)]) (as := [(0, lS G (i + 1))]) dL_law_1477 lL_176 kX12_worlds iX12_worlds eX12_worlds rfl sh234 (by decide +kernel) (Nat.le_of_ble_eq_true rfl) (Nat.le_of_ble_eq_true rfl) rfl (h1.post (fun r M2 _ _ _ q => ?_))
  obtain ⟨rfl, q2⟩ := q
  show Y G (d + 400 + 1) (mLw nm) 1480 [(4, 0), (2, 1), (2, 234), (0, i)] [(0, x), (0, x)] M2 Q
  exact z_icmpeq (tgt := 1616) dL_law_1480 rfl (fun _ => hk M2 q2) (fun q => absurd rfl q)
set_option maxRecDepth 20000 in
set_option maxHeartbeats 4000000 in
theorem lc_38 (hG : zP G) (hJ : zJ M) (hv : M 2 10 ≤ 1000000) {i : Int} (hi : 0 ≤ i ∧ i + 6 ≤ ((G.2.2.2.2.2.1 (0 : Int).toNat).1 : Int)) (hL : (G.2.2.2.2.2.1 (0 : Int).toNat).1 ≤ 3072) (hk : ∀ M2, zJn M M2 → Y G (d + 400 + 1) (mLw nm) 1616 [(4, 0), (2, 1), (2, 234), (0, i)] [] M2 Q) : Y G (d + 400 + 1) (mLw nm) 1485 [(4, 0), (2, 1), (2, 234), (0, i)] [] M Q := by
  refine z_aloadn dL_law_1485 rfl (Or.inl rfl) ?_
  refine z_aloadn dL_law_1486 rfl (Or.inr rfl) ?_
  refine z_iloadn dL_law_1487 rfl ?_
  refine z_iconst dL_law_1488 ki_1 ?_
  refine z_iadd dL_law_1489 ⟨by omega, by omega⟩ ?_
  refine z_ialdx dL_law_1490 (by decide) ⟨by omega, by omega, by omega⟩ ?_
  refine y_cv (mt2 := mX11_knew) (en := [(2, 1), (0, lS G (i + 1))]) (st := []) (as := [(0, lS G (i + 1))]) dL_law_1491 lL_177 kX11_knew iX11_knew eX11_knew rfl sh1 (by decide +kernel) (Nat.le_of_ble_eq_true rfl) (Nat.le_of_ble_eq_true rfl) rfl (lw_po (pr_knew (d := d) hG hJ) (Or.inl rfl) (fun x M1 h1 => ?_))
  show Y G (d + 400 + 1) (mLw nm) 1494 [(4, 0), (2, 1), (2, 234), (0, i)] [(0, x)] M1 Q
  refine z_aloadn dL_law_1494 rfl (Or.inl rfl) ?_
  refine z_aloadn dL_law_1495 rfl (Or.inr rfl) ?_
  refine z_iloadn dL_law_1496 rfl ?_
  refine z_iconst dL_law_1497 ki_1 ?_
  refine z_iadd dL_law_1498 ⟨by omega, by omega⟩ ?_
  refine z_ialdx dL_law_1499 (by decide) ⟨by omega, by omega, by omega⟩ ?_
  refine y_cv (mt2 := mX12_knew) (en := [(2, 234), (0, lS G (i + 1)), (9, 0), (9, 0)]) (st := [(0, x)]) (as := [(0, lS G (i + 1))]) dL_law_1500 lL_180 kX12_knew iX12_knew eX12_knew rfl sh234 (by decide +kernel) (Nat.le_of_ble_eq_true rfl) (Nat.le_of_ble_eq_true rfl) rfl (h1.post (fun r M2 _ _ _ q => ?_))
  obtain ⟨rfl, q2⟩ := q
  show Y G (d + 400 + 1) (mLw nm) 1503 [(4, 0), (2, 1), (2, 234), (0, i)] [(0, x), (0, x)] M2 Q
  exact z_icmpeq (tgt := 1616) dL_law_1503 rfl (fun _ => hk M2 q2) (fun q => absurd rfl q)
set_option maxRecDepth 20000 in
set_option maxHeartbeats 4000000 in
theorem lc_39 (hG : zP G) (hJ : zJ M) (hv : M 2 10 ≤ 1000000) {i : Int} (hi : 0 ≤ i ∧ i + 6 ≤ ((G.2.2.2.2.2.1 (0 : Int).toNat).1 : Int)) (hL : (G.2.2.2.2.2.1 (0 : Int).toNat).1 ≤ 3072) (hk : ∀ M2, zJn M M2 → Y G (d + 400 + 1) (mLw nm) 1616 [(4, 0), (2, 1), (2, 234), (0, i)] [] M2 Q) : Y G (d + 400 + 1) (mLw nm) 1508 [(4, 0), (2, 1), (2, 234), (0, i)] [] M Q := by
  refine z_aloadn dL_law_1508 rfl (Or.inl rfl) ?_
  refine z_aloadn dL_law_1509 rfl (Or.inr rfl) ?_
  refine z_iloadn dL_law_1510 rfl ?_
  refine z_iconst dL_law_1511 ki_1 ?_
  refine z_iadd dL_law_1512 ⟨by omega, by omega⟩ ?_
  refine z_ialdx dL_law_1513 (by decide) ⟨by omega, by omega, by omega⟩ ?_
  refine z_aloadn dL_law_1514 rfl (Or.inr rfl) ?_
  refine z_iloadn dL_law_1515 rfl ?_
  refine z_iconst dL_law_1516 ki_2 ?_
  refine z_iadd dL_law_1517 ⟨by omega, by omega⟩ ?_
  refine z_ialdx dL_law_1518 (by decide) ⟨by omega, by omega, by omega⟩ ?_
  refine y_cv (mt2 := mX11_tell) (en := [(2, 1), (0, lS G (i + 1)), (0, lS G (i + 2)), (9, 0)]) (st := []) (as := [(0, lS G (i + 1)), (0, lS G (i + 2))]) dL_law_1519 lL_181 kX11_tell iX11_tell eX11_tell rfl sh1 (by decide +kernel) (Nat.le_of_ble_eq_true rfl) (Nat.le_of_ble_eq_true rfl) rfl (lw_po (pr_tell (d := d) hG hJ) (Or.inl rfl) (fun x M1 h1 => ?_))
  show Y G (d + 400 + 1) (mLw nm) 1522 [(4, 0), (2, 1), (2, 234), (0, i)] [(0, x)] M1 Q
  refine z_aloadn dL_law_1522 rfl (Or.inl rfl) ?_
  refine z_aloadn dL_law_1523 rfl (Or.inr rfl) ?_
  refine z_iloadn dL_law_1524 rfl ?_
  refine z_iconst dL_law_1525 ki_1 ?_
  refine z_iadd dL_law_1526 ⟨by omega, by omega⟩ ?_
  refine z_ialdx dL_law_1527 (by decide) ⟨by omega, by omega, by omega⟩ ?_
  refine z_aloadn dL_law_1528 rfl (Or.inr rfl) ?_
  refine z_iloadn dL_law_1529 rfl ?_
  refine z_iconst dL_law_1530 ki_2 ?_
  refine z_iadd dL_law_1531 ⟨by omega, by omega⟩ ?_
  refine z_ialdx dL_law_1532 (by decide) ⟨by omega, by omega, by omega⟩ ?_
  refine y_cv (mt2 := mX12_tell) (en := [(2, 234), (0, lS G (i + 1)), (0, lS G (i + 2))]) (st := [(0, x)]) (as := [(0, lS G (i + 1)), (0, lS G (i + 2))]) dL_law_1533 lL_184 kX12_tell iX12_tell eX12_tell rfl sh234 (by decide +kernel) (Nat.le_of_ble_eq_true rfl) (Nat.le_of_ble_eq_true rfl) rfl (h1.post (fun r M2 _ _ _ q => ?_))
  obtain ⟨rfl, q2⟩ := q
  show Y G (d + 400 + 1) (mLw nm) 1536 [(4, 0), (2, 1), (2, 234), (0, i)] [(0, x), (0, x)] M2 Q
  exact z_icmpeq (tgt := 1616) dL_law_1536 rfl (fun _ => hk M2 q2) (fun q => absurd rfl q)
set_option maxRecDepth 20000 in
set_option maxHeartbeats 4000000 in
theorem lc_40 (hG : zP G) (hJ : zJ M) (hv : M 2 10 ≤ 1000000) {i : Int} (hi : 0 ≤ i ∧ i + 6 ≤ ((G.2.2.2.2.2.1 (0 : Int).toNat).1 : Int)) (hL : (G.2.2.2.2.2.1 (0 : Int).toNat).1 ≤ 3072) (hk : ∀ M2, zJn M M2 → Y G (d + 400 + 1) (mLw nm) 1616 [(4, 0), (2, 1), (2, 234), (0, i)] [] M2 Q) : Y G (d + 400 + 1) (mLw nm) 1541 [(4, 0), (2, 1), (2, 234), (0, i)] [] M Q := by
  refine z_aloadn dL_law_1541 rfl (Or.inl rfl) ?_
  refine y_cv (mt2 := mX11_lies) (en := [(2, 1)]) (st := []) (as := []) dL_law_1542 lL_185 kX11_lies iX11_lies eX11_lies rfl sh1 (by decide +kernel) (Nat.le_of_ble_eq_true rfl) (Nat.le_of_ble_eq_true rfl) rfl (lw_po (pr_lies (d := d) hG hJ) (Or.inl rfl) (fun x M1 h1 => ?_))
  show Y G (d + 400 + 1) (mLw nm) 1545 [(4, 0), (2, 1), (2, 234), (0, i)] [(0, x)] M1 Q
  refine z_aloadn dL_law_1545 rfl (Or.inl rfl) ?_
  refine y_cv (mt2 := mX12_lies) (en := [(2, 234), (9, 0), (9, 0)]) (st := [(0, x)]) (as := []) dL_law_1546 lL_188 kX12_lies iX12_lies eX12_lies rfl sh234 (by decide +kernel) (Nat.le_of_ble_eq_true rfl) (Nat.le_of_ble_eq_true rfl) rfl (h1.post (fun r M2 _ _ _ q => ?_))
  obtain ⟨rfl, q2⟩ := q
  show Y G (d + 400 + 1) (mLw nm) 1549 [(4, 0), (2, 1), (2, 234), (0, i)] [(0, x), (0, x)] M2 Q
  exact z_icmpeq (tgt := 1616) dL_law_1549 rfl (fun _ => hk M2 q2) (fun q => absurd rfl q)
set_option maxRecDepth 20000 in
set_option maxHeartbeats 4000000 in
theorem lc_41 (hG : zP G) (hJ : zJ M) (hv : M 2 10 ≤ 1000000) {i : Int} (hi : 0 ≤ i ∧ i + 6 ≤ ((G.2.2.2.2.2.1 (0 : Int).toNat).1 : Int)) (hL : (G.2.2.2.2.2.1 (0 : Int).toNat).1 ≤ 3072) (hk : ∀ M2, zJn M M2 → Y G (d + 400 + 1) (mLw nm) 1616 [(4, 0), (2, 1), (2, 234), (0, i)] [] M2 Q) : Y G (d + 400 + 1) (mLw nm) 1554 [(4, 0), (2, 1), (2, 234), (0, i)] [] M Q := by
  refine z_aloadn dL_law_1554 rfl (Or.inl rfl) ?_
  refine y_cv (mt2 := mX11_clash) (en := [(2, 1)]) (st := []) (as := []) dL_law_1555 lL_189 kX11_clash iX11_clash eX11_clash rfl sh1 (by decide +kernel) (Nat.le_of_ble_eq_true rfl) (Nat.le_of_ble_eq_true rfl) rfl (lw_po (pr_clash (d := d) hG hJ) (Or.inl rfl) (fun x M1 h1 => ?_))
  show Y G (d + 400 + 1) (mLw nm) 1558 [(4, 0), (2, 1), (2, 234), (0, i)] [(0, x)] M1 Q
  refine z_aloadn dL_law_1558 rfl (Or.inl rfl) ?_
  refine y_cv (mt2 := mX12_clash) (en := [(2, 234), (9, 0), (9, 0)]) (st := [(0, x)]) (as := []) dL_law_1559 lL_192 kX12_clash iX12_clash eX12_clash rfl sh234 (by decide +kernel) (Nat.le_of_ble_eq_true rfl) (Nat.le_of_ble_eq_true rfl) rfl (h1.post (fun r M2 _ _ _ q => ?_))
  obtain ⟨rfl, q2⟩ := q
  show Y G (d + 400 + 1) (mLw nm) 1562 [(4, 0), (2, 1), (2, 234), (0, i)] [(0, x), (0, x)] M2 Q
  exact z_icmpeq (tgt := 1616) dL_law_1562 rfl (fun _ => hk M2 q2) (fun q => absurd rfl q)
set_option maxRecDepth 20000 in
set_option maxHeartbeats 4000000 in
theorem lc_42 (hG : zP G) (hJ : zJ M) (hv : M 2 10 ≤ 1000000) {i : Int} (hi : 0 ≤ i ∧ i + 6 ≤ ((G.2.2.2.2.2.1 (0 : Int).toNat).1 : Int)) (hL : (G.2.2.2.2.2.1 (0 : Int).toNat).1 ≤ 3072) (hk : ∀ M2, zJn M M2 → Y G (d + 400 + 1) (mLw nm) 1616 [(4, 0), (2, 1), (2, 234), (0, i)] [] M2 Q) : Y G (d + 400 + 1) (mLw nm) 1567 [(4, 0), (2, 1), (2, 234), (0, i)] [] M Q := by
  refine z_aloadn dL_law_1567 rfl (Or.inl rfl) ?_
  refine y_cv (mt2 := mX11_image) (en := [(2, 1)]) (st := []) (as := []) dL_law_1568 lL_193 kX11_image iX11_image eX11_image rfl sh1 (by decide +kernel) (Nat.le_of_ble_eq_true rfl) (Nat.le_of_ble_eq_true rfl) rfl (lw_po (pr_image (d := d) hG hJ) (Or.inl rfl) (fun x M1 h1 => ?_))
  show Y G (d + 400 + 1) (mLw nm) 1571 [(4, 0), (2, 1), (2, 234), (0, i)] [(0, x)] M1 Q
  refine z_aloadn dL_law_1571 rfl (Or.inl rfl) ?_
  refine y_cv (mt2 := mX12_image) (en := [(2, 234)]) (st := [(0, x)]) (as := []) dL_law_1572 lL_196 kX12_image iX12_image eX12_image rfl sh234 (by decide +kernel) (Nat.le_of_ble_eq_true rfl) (Nat.le_of_ble_eq_true rfl) rfl (h1.post (fun r M2 _ _ _ q => ?_))
  obtain ⟨rfl, q2⟩ := q
  show Y G (d + 400 + 1) (mLw nm) 1575 [(4, 0), (2, 1), (2, 234), (0, i)] [(0, x), (0, x)] M2 Q
  exact z_icmpeq (tgt := 1616) dL_law_1575 rfl (fun _ => hk M2 q2) (fun q => absurd rfl q)
set_option maxRecDepth 20000 in
set_option maxHeartbeats 4000000 in
theorem lc_43 (hG : zP G) (hJ : zJ M) (hv : M 2 10 ≤ 1000000) {i : Int} (hi : 0 ≤ i ∧ i + 6 ≤ ((G.2.2.2.2.2.1 (0 : Int).toNat).1 : Int)) (hL : (G.2.2.2.2.2.1 (0 : Int).toNat).1 ≤ 3072) (hk : ∀ M2, zJn M M2 → Y G (d + 400 + 1) (mLw nm) 1616 [(4, 0), (2, 1), (2, 234), (0, i)] [] M2 Q) : Y G (d + 400 + 1) (mLw nm) 1580 [(4, 0), (2, 1), (2, 234), (0, i)] [] M Q := by
  refine z_aloadn dL_law_1580 rfl (Or.inl rfl) ?_
  refine y_cv (mt2 := mX11_back) (en := [(2, 1)]) (st := []) (as := []) dL_law_1581 lL_197 kX11_back iX11_back eX11_back rfl sh1 (by decide +kernel) (Nat.le_of_ble_eq_true rfl) (Nat.le_of_ble_eq_true rfl) rfl (lw_po (pr_back (d := d) hG hJ hv) (Or.inl rfl) (fun x M1 h1 => ?_))
  show Y G (d + 400 + 1) (mLw nm) 1584 [(4, 0), (2, 1), (2, 234), (0, i)] [(0, x)] M1 Q
  refine z_aloadn dL_law_1584 rfl (Or.inl rfl) ?_
  refine y_cv (mt2 := mX12_back) (en := [(2, 234)]) (st := [(0, x)]) (as := []) dL_law_1585 lL_200 kX12_back iX12_back eX12_back rfl sh234 (by decide +kernel) (Nat.le_of_ble_eq_true rfl) (Nat.le_of_ble_eq_true rfl) rfl (h1.post (fun r M2 _ _ _ q => ?_))
  obtain ⟨rfl, q2⟩ := q
  show Y G (d + 400 + 1) (mLw nm) 1588 [(4, 0), (2, 1), (2, 234), (0, i)] [(0, x), (0, x)] M2 Q
  exact z_icmpeq (tgt := 1616) dL_law_1588 rfl (fun _ => hk M2 q2) (fun q => absurd rfl q)
set_option maxRecDepth 20000 in
set_option maxHeartbeats 4000000 in
theorem lc_44 (hG : zP G) (hJ : zJ M) (hv : M 2 10 ≤ 1000000) {i : Int} (hi : 0 ≤ i ∧ i + 6 ≤ ((G.2.2.2.2.2.1 (0 : Int).toNat).1 : Int)) (hL : (G.2.2.2.2.2.1 (0 : Int).toNat).1 ≤ 3072) (hk : ∀ M2, zJn M M2 → Y G (d + 400 + 1) (mLw nm) 1616 [(4, 0), (2, 1), (2, 234), (0, i)] [] M2 Q) : Y G (d + 400 + 1) (mLw nm) 1593 [(4, 0), (2, 1), (2, 234), (0, i)] [] M Q := by
  refine z_aloadn dL_law_1593 rfl (Or.inl rfl) ?_
  refine z_aloadn dL_law_1594 rfl (Or.inr rfl) ?_
  refine z_iloadn dL_law_1595 rfl ?_
  refine z_iconst dL_law_1596 ki_1 ?_
  refine z_iadd dL_law_1597 ⟨by omega, by omega⟩ ?_
  refine z_ialdx dL_law_1598 (by decide) ⟨by omega, by omega, by omega⟩ ?_
  refine y_cv (mt2 := mX11_about) (en := [(2, 1), (0, lS G (i + 1))]) (st := []) (as := [(0, lS G (i + 1))]) dL_law_1599 lL_201 kX11_about iX11_about eX11_about rfl sh1 (by decide +kernel) (Nat.le_of_ble_eq_true rfl) (Nat.le_of_ble_eq_true rfl) rfl (lw_po (pr_about (d := d) hG hJ) (Or.inl rfl) (fun x M1 h1 => ?_))
  show Y G (d + 400 + 1) (mLw nm) 1602 [(4, 0), (2, 1), (2, 234), (0, i)] [(0, x)] M1 Q
  refine z_aloadn dL_law_1602 rfl (Or.inl rfl) ?_
  refine z_aloadn dL_law_1603 rfl (Or.inr rfl) ?_
  refine z_iloadn dL_law_1604 rfl ?_
  refine z_iconst dL_law_1605 ki_1 ?_
  refine z_iadd dL_law_1606 ⟨by omega, by omega⟩ ?_
  refine z_ialdx dL_law_1607 (by decide) ⟨by omega, by omega, by omega⟩ ?_
  refine y_cv (mt2 := mX12_about) (en := [(2, 234), (0, lS G (i + 1))]) (st := [(0, x)]) (as := [(0, lS G (i + 1))]) dL_law_1608 lL_204 kX12_about iX12_about eX12_about rfl sh234 (by decide +kernel) (Nat.le_of_ble_eq_true rfl) (Nat.le_of_ble_eq_true rfl) rfl (h1.post (fun r M2 _ _ _ q => ?_))
  obtain ⟨rfl, q2⟩ := q
  show Y G (d + 400 + 1) (mLw nm) 1611 [(4, 0), (2, 1), (2, 234), (0, i)] [(0, x), (0, x)] M2 Q
  exact z_icmpeq (tgt := 1616) dL_law_1611 rfl (fun _ => hk M2 q2) (fun q => absurd rfl q)
end LW

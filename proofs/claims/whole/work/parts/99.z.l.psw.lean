section PSW
variable {G : zG} {d : Nat} {M : zM}
theorem pr_text (hG : zP G) (hH : lx_H G) (hJ : zJ M) : zPr G d mX11_text mX12_text [(2, 1), (9, 0)] [(2, 234)] M := by
  have o5 := zj_j5 hJ
  have e7 : M 1 3 = M 235 6 := zj_j7 hJ
  have n6 := hJ.1.2.2.2.2.2.2.1
  unfold zV6 at n6
  obtain ⟨t, et⟩ : ∃ t, M 235 6 = t := ⟨_, rfl⟩
  rw [et] at n6
  refine bX11_text_0 (d := d + 399) hG ?_
  rw [e7, et]
  refine ⟨fun t4 => ⟨⟨n6.1, t4⟩, ?_⟩, fun t4 => bX12_text_0 hG ⟨fun z => absurd (show M 235 6 = 4 by omega) z, fun _ => ⟨rfl, zJ_rf hJ⟩⟩⟩
  have ht : 0 ≤ t ∧ t < 4 := ⟨n6.1, t4⟩
  have zs := zSC_t ht
  have hB := ps_by_B o5
  refine bX4_readScript_0 (d := d + 398) hG zs (bX7_empty_0 hG zs (bX4_readScript_25 hG zs ?_))
  rw [show (186 + 12 * t + 3 : Int) = 189 + 12 * t by omega]
  have oM : ∀ a x, a ≠ 12 → ¬ (186 + 12 * t ≤ a ∧ a ≤ 189 + 12 * t) → zset (zset (zset (zset (zset (zset M 12 1 1) 12 2 0) 12 3 (-1)) (186 + 12 * t) 3 0) (186 + 12 * t) 2 0) (189 + 12 * t) 8 0 a x = M a x := fun a x a1 a2 => by rw [zset_off (by omega), zset_off (by omega), zset_off (by omega), zset_off a1, zset_off a1, zset_off a1]
  have m121 : zset (zset (zset (zset (zset (zset M 12 1 1) 12 2 0) 12 3 (-1)) (186 + 12 * t) 3 0) (186 + 12 * t) 2 0) (189 + 12 * t) 8 0 12 1 = 1 := by rw [zset_off (by omega), zset_off (by omega), zset_off (by omega), zr_set (by decide), zr_set (by decide), zset_same]
  have m122 : zset (zset (zset (zset (zset (zset M 12 1 1) 12 2 0) 12 3 (-1)) (186 + 12 * t) 3 0) (186 + 12 * t) 2 0) (189 + 12 * t) 8 0 12 2 = 0 := by rw [zset_off (by omega), zset_off (by omega), zset_off (by omega), zr_set (by decide), zset_same]
  have m3 : zset (zset (zset (zset (zset (zset M 12 1 1) 12 2 0) 12 3 (-1)) (186 + 12 * t) 3 0) (186 + 12 * t) 2 0) (189 + 12 * t) 8 0 (186 + 12 * t) 3 = 0 := by rw [zset_off (by omega), zset_ne (by omega), zset_same]
  have m8 : zset (zset (zset (zset (zset (zset M 12 1 1) 12 2 0) 12 3 (-1)) (186 + 12 * t) 3 0) (186 + 12 * t) 2 0) (189 + 12 * t) 8 0 (189 + 12 * t) 8 = 0 := zset_same
  have mF : zfr zFT M (zset (zset (zset (zset (zset (zset M 12 1 1) 12 2 0) 12 3 (-1)) (186 + 12 * t) 3 0) (186 + 12 * t) 2 0) (189 + 12 * t) 8 0) := zfr_set (zfr_set (zfr_set (zfr_set (zfr_set (zfr_set zfr_rfl (zhit_at 1 rfl (by decide))) (zhit_at 1 rfl (by decide))) (zhit_at 1 rfl (by decide))) (zFT_h (by omega) (by decide))) (zFT_h (by omega) (by decide))) (zFT_h (by omega) (by decide))
  generalize zset (zset (zset (zset (zset (zset M 12 1 1) 12 2 0) 12 3 (-1)) (186 + 12 * t) 3 0) (186 + 12 * t) 2 0) (189 + 12 * t) 8 0 = Ms at oM m121 m122 m3 m8 mF ⊢
  have hC : lx_C (ps_by M) (M 13 1) Ms := ⟨oM 13 1 (by decide) (by omega), fun i i0 i1 => by
    rw [oM 14 i (by decide) (by omega)]
    unfold ps_by
    rw [if_pos ⟨i0, i1⟩]⟩
  refine s_split (d := d + 368) hG hH hB hC (fun X m fX m300 hk hend hA => bX4_readScript_32 hG zs ?_)
  have hE : ps_E (ps_by M) (M 13 1) m := ⟨hB, m300, hk, hend⟩
  have oX : ∀ a x, ¬ (a = 13 ∧ 5 ≤ x) → a ≠ 15 → a ≠ 16 → a ≠ 17 → 0 ≤ x → x < 1000000 → X a x = Ms a x := fun a x a1 a2 a3 a4 x0 x1 => fX a x (by unfold lx_fr zhw zhit; simp; omega)
  have hCS : ps_CS (ps_by M) t m X X 0 0 0 ps_z := ⟨hA, ⟨by rw [oX _ _ (by omega) (by omega) (by omega) (by omega) (by decide) (by decide)]; exact m3, by decide, by decide⟩, ⟨by rw [oX _ _ (by omega) (by omega) (by omega) (by omega) (by decide) (by decide)]; exact m8, by decide, by decide⟩, fun c' c0 c1 => by omega, zfr_rfl⟩
  -- what the class leaves, whatever it comes to
  have cl : ∀ M1, zfr (ps_HHF t) X M1 → zfr zFT M M1 ∧ (∀ a x, a ≠ 12 → a ≠ 13 → a ≠ 15 → a ≠ 16 → a ≠ 17 → ¬ (186 + 12 * t ≤ a ∧ a ≤ 189 + 12 * t + 7) → 0 ≤ x → x < 1000000 → M1 a x = M a x) ∧ M1 12 1 = 1 ∧ M1 13 1 = M 13 1 := fun M1 gF => by
    have f1 : ∀ a x, a ≠ 12 ∨ x < 2 → a ≠ 13 ∨ x < 6 → ¬ (186 + 12 * t ≤ a ∧ a ≤ 189 + 12 * t + 7) → 0 ≤ x → x < 1000000 → M1 a x = X a x := fun a x a1 a2 a3 x0 x1 => gF a x (by unfold ps_HHF ps_HH zhw zhit; simp; omega)
    refine ⟨zfr_trans (zfr_trans mF (zFT_l fX)) (zFT_c ht gF), fun a x a1 a2 a3 a4 a5 a6 x0 x1 => ?_, ?_, ?_⟩
    · rw [f1 a x (Or.inl a1) (Or.inl a2) a6 x0 x1, oX a x (by omega) a3 a4 a5 x0 x1]; exact oM a x a1 (by omega)
    · rw [f1 12 1 (Or.inr (by decide)) (Or.inl (by decide)) (by omega) (by decide) (by decide), oX 12 1 (by omega) (by decide) (by decide) (by decide) (by decide) (by decide)]; exact m121
    · rw [f1 13 1 (Or.inl (by decide)) (Or.inr (by decide)) (by omega) (by decide) (by decide), oX 13 1 (by omega) (by decide) (by decide) (by decide) (by decide) (by decide)]; exact oM 13 1 (by decide) (by omega)
  refine s_loop (d := d + 355) hG hE ht m 0 0 0 ps_z X (by omega) hCS (fun M1 k1 c1 f1 T1 g1 k1m end0 R => bX11_text_26 hG ⟨fun _ => ?_, fun w => absurd w (by decide)⟩) (fun M1 e k1 gF e2 e3 he CF => bX11_text_26 hG ⟨fun w => absurd rfl w, fun _ => ?_⟩)
  · -- it is read
    obtain ⟨cF, co, c121, c131⟩ := cl M1 (zfr_sub g1.2.2.2.2 (fun y hy => List.mem_cons_of_mem _ hy))
    have c122 : M1 12 2 = 0 := by
      rw [g1.2.2.2.2 12 2 (by unfold ps_HH zhw zhit; simp; omega), oX 12 2 (by omega) (by decide) (by decide) (by decide) (by decide) (by decide)]; exact m122
    have e13 : M1 1 3 = t := by rw [co 1 3 (by decide) (by decide) (by decide) (by decide) (by decide) (by omega) (by decide) (by decide), e7, et]
    rw [e13]
    refine ⟨by omega, by omega, ?_⟩
    have w0 : ∀ a x, a ≠ 13 → a ≠ 1 → zset (zset M1 13 1 0) 1 3 (t + 1) a x = M1 a x := fun a x a1 a2 => by rw [zset_off a2, zset_off a1]
    have w13 : zset (zset M1 13 1 0) 1 3 (t + 1) 13 1 = 0 := by rw [zset_off (by decide), zset_same]
    have w1 : zset (zset M1 13 1 0) 1 3 (t + 1) 1 3 = t + 1 := zset_same
    have wF : zfr zFT M (zset (zset M1 13 1 0) 1 3 (t + 1)) := zfr_set (zfr_set cF (zhit_at 2 rfl (by decide))) (zhit_at 0 rfl (by decide))
    generalize zset (zset M1 13 1 0) 1 3 (t + 1) = W at w0 w13 w1 wF ⊢
    have wm : ∀ a x, a ≠ 1 → a ≠ 12 → a ≠ 13 → a ≠ 15 → a ≠ 16 → a ≠ 17 → ¬ (186 + 12 * t ≤ a ∧ a ≤ 189 + 12 * t + 7) → 0 ≤ x → x < 1000000 → W a x = M a x := fun a x b1 a1 a2 a3 a4 a5 a6 x0 x1 => by rw [w0 a x a2 b1]; exact co a x a1 a2 a3 a4 a5 a6 x0 x1
    have hM : lx_M (ps_by M) (M 13 1) W := ⟨by rw [wm 234 5 (by decide) (by decide) (by decide) (by decide) (by decide) (by decide) (by omega) (by decide) (by decide)]; exact o5.1.symm, fun i i0 i1 => by
      rw [wm 239 i (by decide) (by decide) (by decide) (by decide) (by decide) (by decide) (by omega) i0 (by have := o5.2.1.2; omega)]
      unfold ps_by
      rw [if_pos ⟨i0, i1⟩]; exact (o5.2.2 i i0 i1).1.symm⟩
    have w6 : W 235 6 = t := by rw [wm 235 6 (by decide) (by decide) (by decide) (by decide) (by decide) (by decide) (by omega) (by decide) (by decide)]; exact et
    refine m_txt (d := d + 366) hG hE ht hM w6 (fun Xa hZ fa => R (d + 366) Xa Xa _ hZ (fun X3 h3 => bX12_readText_39 hG ⟨fun _ => bX12_text_18 hG ⟨fun z => absurd rfl z, fun _ => ⟨fun _ => ?_, fun z => absurd rfl z⟩⟩, fun z => absurd ((ps_0 h3.1.2).mpr end0) z⟩))
    obtain ⟨⟨h3M, h3T⟩, ⟨a4, a5, a0⟩, hag, hst, h3F⟩ := h3
    have oa : ∀ a x, a ≠ 234 → ¬ (a = 240 ∧ 889 * t ≤ x) → ¬ (241 ≤ a ∧ a ≤ 245) → 0 ≤ x → x < 1000000 → X3 a x = W a x := fun a x a1 a2 a3 x0 x1 => by rw [h3F a x (by unfold ps_GG zhw zhit; simp; omega), fa a x (by unfold zhw zhit; simp; omega)]
    have x6 : X3 235 6 = t := by rw [oa 235 6 (by decide) (by omega) (by omega) (by decide) (by decide)]; exact w6
    rw [x6]
    refine ⟨by omega, by omega, rfl, ?_⟩
    have zo : ∀ a x, a ≠ 234 → a ≠ 235 → zset (zset (zset (zset X3 234 6 0) 234 7 (-1)) 234 5 0) 235 6 (t + 1) a x = X3 a x := fun a x a1 a2 => by rw [zset_off a2, zset_off a1, zset_off a1, zset_off a1]
    have z5 : zset (zset (zset (zset X3 234 6 0) 234 7 (-1)) 234 5 0) 235 6 (t + 1) 234 5 = 0 := by rw [zset_off (by decide), zset_same]
    have z6 : zset (zset (zset (zset X3 234 6 0) 234 7 (-1)) 234 5 0) 235 6 (t + 1) 234 6 = 0 := by rw [zset_off (by decide), zr_set (by decide), zr_set (by decide), zset_same]
    have z7 : zset (zset (zset (zset X3 234 6 0) 234 7 (-1)) 234 5 0) 235 6 (t + 1) 234 7 = -1 := by rw [zset_off (by decide), zr_set (by decide), zset_same]
    have z35 : zset (zset (zset (zset X3 234 6 0) 234 7 (-1)) 234 5 0) 235 6 (t + 1) 235 6 = t + 1 := zset_same
    have fa' : zfr zFT W Xa := zfr_cov fa (fun x hx => by
      simp only [List.mem_cons, List.not_mem_nil, or_false] at hx
      rcases hx with g | g <;> subst g
      · exact ⟨(234, 5, 28), zFT_i 7 rfl, rfl, by decide, by decide⟩
      · exact ⟨(240, 0, 1000000), zFT_i 9 rfl, rfl, by show (0 : Int) ≤ 889 * t; omega, by show 889 * t + 1 ≤ 1000000; omega⟩)
    have zF : zfr zFT M (zset (zset (zset (zset X3 234 6 0) 234 7 (-1)) 234 5 0) 235 6 (t + 1)) := zfr_set (zfr_set (zfr_set (zfr_set (zfr_trans (zfr_trans wF fa') (zFT_g ht h3F)) (zhit_at 7 rfl (by decide))) (zhit_at 7 rfl (by decide))) (zhit_at 7 rfl (by decide))) (zhit_at 8 rfl (by decide))
    generalize zset (zset (zset (zset X3 234 6 0) 234 7 (-1)) 234 5 0) 235 6 (t + 1) = Z at zo z5 z6 z7 z35 zF ⊢
    -- the class's rows in the last memory
    have zc : ∀ a x, a ≠ 13 → a ≠ 1 → a < 234 → 0 ≤ x → x < 1000000 → Z a x = M1 a x := fun a x a1 a2 a3 x0 x1 => by rw [zo a x (by omega) (by omega), oa a x (by omega) (by omega) (by omega) x0 x1]; exact w0 a x a1 a2
    have z13 : Z 13 1 = 0 := by rw [zo 13 1 (by decide) (by decide), oa 13 1 (by decide) (by omega) (by omega) (by decide) (by decide)]; exact w13
    have z1 : Z 1 3 = t + 1 := by rw [zo 1 3 (by decide) (by decide), oa 1 3 (by decide) (by omega) (by omega) (by decide) (by decide)]; exact w1
    have z121 : Z 12 1 = 1 := by rw [zc 12 1 (by decide) (by decide) (by decide) (by decide) (by decide)]; exact c121
    have z122 : Z 12 2 = 0 := by rw [zc 12 2 (by decide) (by decide) (by decide) (by decide) (by decide)]; exact c122
    obtain ⟨_, ⟨g3, g30, g31⟩, ⟨g8, g80, g81⟩, gX, _⟩ := g1
    refine J_tx hJ et t4 zF (fun a x a0 a1 x0 x1 => by rw [zc a x (by omega) (by omega) (by omega) x0 x1]; exact co a x (by omega) (by omega) (by omega) (by omega) (by omega) (by omega) x0 x1) (fun x x0 x1 => by rw [zo 240 x (by decide) (by decide), oa 240 x (by decide) (by omega) (by omega) x0 (by omega)]; exact wm 240 x (by decide) (by decide) (by decide) (by decide) (by decide) (by decide) (by omega) x0 (by omega)) ⟨by rw [z13, z5], by rw [z13]; decide, fun k k0 k1 => by rw [z13] at k1; omega⟩ (Or.inr ⟨z121, by rw [z122, z6], by rw [z122]; decide, fun _ => z7, fun w => absurd z122 w⟩) (by unfold zJ7; rw [z1, z35]) (Or.inr ⟨z35, ?_⟩)
    have z40 : ∀ x, 0 ≤ x → x < 1000000 → Z 240 x = X3 240 x := fun x _ _ => zo 240 x (by decide) (by decide)
    refine ⟨⟨by rw [z40 _ (by omega) (by omega), a0, zc _ _ (by omega) (by omega) (by omega) (by decide) (by decide)]; exact g3, by rw [z40 _ (by omega) (by omega), a0]; exact g30, by rw [z40 _ (by omega) (by omega), a0]; exact g31⟩, fun c c0 c1' => ?_⟩
    rw [z40 _ (by omega) (by omega), a0] at c1'
    obtain ⟨q1, q2, q3⟩ := hag c c0 c1'
    have q8 : ps_gh M1 T1 (189 + 12 * t) 8 = f1 := by rw [ps_gh_n (by omega)]; exact g8
    have nb := znpt_b (ps_gh M1 T1 240 (889 * t + 12 * c + 1))
    refine ps_Xc_c (gX c c0 c1') ?_ (fun w x x0 x1 => ?_) (fun j j0 j1 => ?_) (fun i i0 i1 => ?_) ?_ (fun x x0 x1 => ?_) ?_ (fun a x a0' a1' x0 x1 => ?_)
    · rw [ps_gh_t, z40 _ (by omega) (by omega)]; exact q1
    · rw [ps_gh_t] at w
      rw [ps_gh_t, z40 _ (by omega) (by omega)]; exact q2 w x x0 x1
    · rw [ps_gh_t, z40 _ (by omega) (by omega)]
      rw [ps_gh_t] at j1
      exact q3 j j0 j1
    · rw [q8] at i1
      have h300 : m ≤ 300 := m300
      rw [ps_gh_t, ps_gh_t, z40 _ (by omega) (by omega), z40 _ (by omega) (by omega)]
      exact hst i i0 i1
    · rw [ps_gh_n (by omega)]; exact zc _ _ (by omega) (by omega) (by omega) c0 (by omega)
    · rw [ps_gh_n (by omega)]; exact zc _ _ (by omega) (by omega) (by omega) (by omega) (by omega)
    · have h300 : m ≤ 300 := m300
      rw [q8, zc _ _ (by omega) (by omega) (by omega) (by decide) (by decide), g8]; omega
    · rw [q8] at x1
      have h300 : m ≤ 300 := m300
      rw [ps_gh_n (by omega)]; exact zc _ _ (by omega) (by omega) (by omega) x0 (by omega)
  · -- a fault
    obtain ⟨cF, co, c121, c131⟩ := cl M1 gF
    have w0 : ∀ a x, a ≠ 13 → zset M1 13 1 0 a x = M1 a x := fun a x a1 => by rw [zset_off a1]
    have w13 : zset M1 13 1 0 13 1 = 0 := zset_same
    have wF : zfr zFT M (zset M1 13 1 0) := zfr_set cF (zhit_at 2 rfl (by decide))
    generalize zset M1 13 1 0 = W at w0 w13 wF ⊢
    have wm : ∀ a x, a ≠ 12 → a ≠ 13 → a ≠ 15 → a ≠ 16 → a ≠ 17 → ¬ (186 + 12 * t ≤ a ∧ a ≤ 189 + 12 * t + 7) → 0 ≤ x → x < 1000000 → W a x = M a x := fun a x a1 a2 a3 a4 a5 a6 x0 x1 => by rw [w0 a x a2]; exact co a x a1 a2 a3 a4 a5 a6 x0 x1
    have hM : lx_M (ps_by M) (M 13 1) W := ⟨by rw [wm 234 5 (by decide) (by decide) (by decide) (by decide) (by decide) (by omega) (by decide) (by decide)]; exact o5.1.symm, fun i i0 i1 => by
      rw [wm 239 i (by decide) (by decide) (by decide) (by decide) (by decide) (by omega) i0 (by have := o5.2.1.2; omega)]
      unfold ps_by
      rw [if_pos ⟨i0, i1⟩]; exact (o5.2.2 i i0 i1).1.symm⟩
    have w6 : W 235 6 = t := by rw [wm 235 6 (by decide) (by decide) (by decide) (by decide) (by decide) (by omega) (by decide) (by decide)]; exact et
    refine m_txt (d := d + 366) hG hE ht hM w6 (fun Xa hZ fa => CF (d + 366) Xa Xa _ hZ (fun X3 h3F e9 => bX12_text_18 hG ⟨fun _ => ⟨fun z => by omega, fun _ => ?_⟩, fun z => by omega⟩))
    refine ⟨rfl, ?_⟩
    have oa : ∀ a x, a ≠ 234 → ¬ (a = 240 ∧ 889 * t ≤ x) → ¬ (241 ≤ a ∧ a ≤ 245) → 0 ≤ x → x < 1000000 → X3 a x = W a x := fun a x a1 a2 a3 x0 x1 => by rw [h3F a x (by unfold ps_GG zhw zhit; simp; omega), fa a x (by unfold zhw zhit; simp; omega)]
    have zo : ∀ a x, a ≠ 234 → zset (zset (zset X3 234 6 e) 234 7 (X3 234 9)) 234 5 0 a x = X3 a x := fun a x a1 => by rw [zset_off a1, zset_off a1, zset_off a1]
    have z5 : zset (zset (zset X3 234 6 e) 234 7 (X3 234 9)) 234 5 0 234 5 = 0 := zset_same
    have z6 : zset (zset (zset X3 234 6 e) 234 7 (X3 234 9)) 234 5 0 234 6 = e := by rw [zr_set (by decide), zr_set (by decide), zset_same]
    have z7 : zset (zset (zset X3 234 6 e) 234 7 (X3 234 9)) 234 5 0 234 7 = lx_j (ps_by M) k1 := by rw [zr_set (by decide), zset_same]; exact e9
    have fa' : zfr zFT W Xa := zfr_cov fa (fun x hx => by
      simp only [List.mem_cons, List.not_mem_nil, or_false] at hx
      rcases hx with g | g <;> subst g
      · exact ⟨(234, 5, 28), zFT_i 7 rfl, rfl, by decide, by decide⟩
      · exact ⟨(240, 0, 1000000), zFT_i 9 rfl, rfl, by show (0 : Int) ≤ 889 * t; omega, by show 889 * t + 1 ≤ 1000000; omega⟩)
    have zF : zfr zFT M (zset (zset (zset X3 234 6 e) 234 7 (X3 234 9)) 234 5 0) := zfr_set (zfr_set (zfr_set (zfr_trans (zfr_trans wF fa') (zFT_g ht h3F)) (zhit_at 7 rfl (by decide))) (zhit_at 7 rfl (by decide))) (zhit_at 7 rfl (by decide))
    generalize zset (zset (zset X3 234 6 e) 234 7 (X3 234 9)) 234 5 0 = Z at zo z5 z6 z7 zF ⊢
    have zc : ∀ a x, a ≠ 13 → a < 234 → 0 ≤ x → x < 1000000 → Z a x = M1 a x := fun a x a1 a3 x0 x1 => by rw [zo a x (by omega), oa a x (by omega) (by omega) (by omega) x0 x1]; exact w0 a x a1
    have z13 : Z 13 1 = 0 := by rw [zo 13 1 (by decide), oa 13 1 (by decide) (by omega) (by omega) (by decide) (by decide)]; exact w13
    have z1 : Z 1 3 = t := by rw [zc 1 3 (by decide) (by decide) (by decide) (by decide), co 1 3 (by decide) (by decide) (by decide) (by decide) (by decide) (by omega) (by decide) (by decide), e7, et]
    have z35 : Z 235 6 = t := by rw [zo 235 6 (by decide), oa 235 6 (by decide) (by omega) (by omega) (by decide) (by decide)]; exact w6
    have z121 : Z 12 1 = 1 := by rw [zc 12 1 (by decide) (by decide) (by decide) (by decide)]; exact c121
    have z122 : Z 12 2 = e := by rw [zc 12 2 (by decide) (by decide) (by decide) (by decide)]; exact e2
    have z123 : Z 12 3 = lx_j (ps_by M) k1 := by rw [zc 12 3 (by decide) (by decide) (by decide) (by decide)]; exact e3
    exact J_tx hJ et t4 zF (fun a x a0 a1 x0 x1 => by rw [zc a x (by omega) (by omega) x0 x1]; exact co a x (by omega) (by omega) (by omega) (by omega) (by omega) (by omega) x0 x1) (fun x x0 x1 => by rw [zo 240 x (by decide), oa 240 x (by decide) (by omega) (by omega) x0 (by omega)]; exact wm 240 x (by decide) (by decide) (by decide) (by decide) (by decide) (by omega) x0 (by omega)) ⟨by rw [z13, z5], by rw [z13]; decide, fun k k0 k1 => by rw [z13] at k1; omega⟩ (Or.inr ⟨z121, by rw [z122, z6], by rw [z122]; omega, fun w => by omega, fun _ => by rw [z123, z7]⟩) (by unfold zJ7; rw [z1, z35]) (Or.inl z35)
end PSW

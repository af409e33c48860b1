section PSS
variable {G : zG} {d : Nat} {M M0 : zM} {Q : zV → zM → Prop} {B : Int → Int} {n t f c : Int} {m k : Nat} {T : Int → Int}
/-- six numbers are given -/
theorem s_g6 (hG : zP G) (ht : 0 ≤ t ∧ t < 4) (hc : 0 ≤ c ∧ c < 24) {x y : Int} {lv dp wd gr : Int} (h : ps_CI B t m M0 M k c 20 0 ps_p) (q4 : M0 12 4 = lv) (q5 : M0 12 5 = dp) (q6 : M0 12 6 = wd) (q7 : M0 12 7 = gr) (hh : ∀ M' p, ps_CI B t m M0 M' k c 20 6 p → (p 0 = x ∧ p 1 = y ∧ p 2 = lv ∧ p 3 = dp ∧ p 4 = wd ∧ p 5 = gr) → Q (0, 1) M') (hy : y ≠ -1) : Y G (d + 1) mX4_readQuestion 37 [(2, 12), (2, 186 + 12 * t), (0, x), (9, 0)] [(0, y)] M Q := by
  have zs := zSC_t ht
  have rd : ∀ {W : zM} {g : Int} {p : Int → Int} (i : Int), 4 ≤ i → i ≤ 7 → ps_CI B t m M0 W k c 20 g p → W 12 i = M0 12 i := fun {W g p} i i0 i1 hW => hW.2.2.2.2 12 i (by unfold ps_HI zhw zhit; simp; omega)
  refine bX4_readQuestion_37 hG zs ⟨fun _ => s_giv hG ht hc (by decide) h (fun M1 h1 => bX4_readQuestion_50 hG zs (s_giv hG ht hc (by decide) h1 (fun M2 h2 => bX4_readQuestion_55 hG zs ?_))), fun z => absurd z hy⟩
  rw [rd 4 (by decide) (by decide) h2, q4]
  refine s_giv hG ht hc (by decide) h2 (fun M3 h3 => bX4_readQuestion_63 hG zs ?_)
  rw [rd 5 (by decide) (by decide) h3, q5]
  refine s_giv hG ht hc (by decide) h3 (fun M4 h4 => bX4_readQuestion_71 hG zs ?_)
  rw [rd 6 (by decide) (by decide) h4, q6]
  refine s_giv hG ht hc (by decide) h4 (fun M5 h5 => bX4_readQuestion_79 hG zs ?_)
  rw [rd 7 (by decide) (by decide) h5, q7]
  refine s_giv hG ht hc (by decide) h5 (fun M6 h6 => bX4_readQuestion_87 hG zs (hh M6 _ h6 ⟨?_, ?_, ?_, ?_, ?_, ?_⟩))
  · rw [zup_ne (by decide), zup_ne (by decide), zup_ne (by decide), zup_ne (by decide), zup_ne (by decide), zup_at]
  · rw [zup_ne (by decide), zup_ne (by decide), zup_ne (by decide), zup_ne (by decide)]; exact zup_at _ _ _
  · rw [zup_ne (by decide), zup_ne (by decide), zup_ne (by decide)]; exact zup_at _ _ _
  · rw [zup_ne (by decide), zup_ne (by decide)]; exact zup_at _ _ _
  · rw [zup_ne (by decide)]; exact zup_at _ _ _
  · exact zup_at _ _ _
/-- a question that is a clause, on both sides -/
theorem s_clA (hG : zP G) (hE : ps_E B n m) (ht : 0 ≤ t ∧ t < 4) (hk : k < m) (h : ps_CS B t m M0 M k c f T) (hc : c < 24) (hs : lx_c B (lx_j B k) = 20) {x2 : Int} (hx2 : 0 ≤ x2 ∧ x2 ≤ 24) {M2 : zM} (hI : ps_CI B t m M2 M2 (k + 1) c (lx_c B (lx_j B k)) 0 ps_p) (fB : zfr (ps_HB t c) M M2)
    (hok : ∀ M' k' f' T', ps_CS B t m M0 M' k' (c + 1) f' T' → k < k' → k' ≤ m → ps_CR G B n t k c f T k' (c + 1) f' T' → Y G (d + 44) mX4_readScript 34 [(2, 12), (2, 186 + 12 * t), (0, x2 + 1), (9, 0)] [] M' Q)
    (hfl : ∀ M' e k', zfr (ps_HHF t) M0 M' → M' 12 2 = e → M' 12 3 = lx_j B k' → (1 ≤ e ∧ e ≤ 5) → ps_CF G B n t k c f T e k' → Q (0, 0) M') : Y G (d + 43) mX4_readRest 0 [(2, 12), (2, 186 + 12 * t), (0, lx_c B (lx_j B k))] [] M2 (fun r M' => Y G (d + 43 + 1) mX4_readScript 72 [(2, 12), (2, 186 + 12 * t), (0, x2), (0, lx_c B (lx_j B k))] (zpush r []) M' Q) := by
  have zs := zSC_t ht
  have h' := h
  obtain ⟨hA, ⟨h3, c0, _⟩, ⟨h8, f0, fk⟩, hX, hF⟩ := h'
  have hc' : 0 ≤ c ∧ c < 24 := ⟨c0, hc⟩
  have m3 := hE.2.1
  have F2 := ps_cF hF fB (Or.inl rfl) hc'
  have fb : ∀ a x, a ≠ 13 → a ≠ 186 + 12 * t → ¬ (a = 186 + 12 * t + 1 ∧ x = c) → ¬ (a = 186 + 12 * t + 2 ∧ 6 * c ≤ x ∧ x < 6 * c + 6) → 0 ≤ x → x < 1000000 → M2 a x = M a x := fun a x a1 a2 a3 a4 x0 x1 => fB a x (by unfold ps_HB zhw zhit; simp; omega)
  have e8 : M2 (189 + 12 * t) 8 = f := by rw [fb _ _ (by omega) (by omega) (by omega) (by omega) (by decide) (by decide)]; exact h8
  refine bX4_readRest_0 hG zs ⟨fun _ => ?_, fun z => absurd (hs.symm.trans z) (by decide), fun z => absurd (hs.symm.trans z) (by decide), fun z => absurd (hs.symm.trans z) (by decide), fun z => absurd (hs.symm.trans z) (by decide), fun z => absurd (hs.symm.trans z) (by decide), fun z => absurd (hs.symm.trans z) (by decide), fun z => absurd (hs.symm.trans z) (by decide), fun z => by omega⟩
  refine bX4_readQuestion_0 hG zs ?_
  rw [show (186 + 12 * t + 3 : Int) = 189 + 12 * t by omega]
  have oq : ∀ a x, a ≠ 12 → zset (zset (zset (zset M2 12 4 0) 12 5 0) 12 6 0) 12 7 (-1) a x = M2 a x := fun a x ha => by rw [zset_off ha, zset_off ha, zset_off ha, zset_off ha]
  have q4 : zset (zset (zset (zset M2 12 4 0) 12 5 0) 12 6 0) 12 7 (-1) 12 4 = 0 := by rw [zr_set (by decide), zr_set (by decide), zr_set (by decide), zset_same]
  have q5 : zset (zset (zset (zset M2 12 4 0) 12 5 0) 12 6 0) 12 7 (-1) 12 5 = 0 := by rw [zr_set (by decide), zr_set (by decide), zset_same]
  have q6 : zset (zset (zset (zset M2 12 4 0) 12 5 0) 12 6 0) 12 7 (-1) 12 6 = 0 := by rw [zr_set (by decide), zset_same]
  have q7 : zset (zset (zset (zset M2 12 4 0) 12 5 0) 12 6 0) 12 7 (-1) 12 7 = -1 := zset_same
  have Fq : zfr (ps_H t) M2 (zset (zset (zset (zset M2 12 4 0) 12 5 0) 12 6 0) 12 7 (-1)) := zfr_set (zfr_set (zfr_set (zfr_set zfr_rfl (zhit_at 8 rfl (by decide))) (zhit_at 8 rfl (by decide))) (zhit_at 8 rfl (by decide))) (zhit_at 8 rfl (by decide))
  generalize zset (zset (zset (zset M2 12 4 0) 12 5 0) 12 6 0) 12 7 (-1) = Mq at oq q4 q5 q6 q7 Fq ⊢
  have FqH := ps_cF F2 Fq (Or.inr (Or.inr (Or.inl rfl))) hc'
  rw [oq (189 + 12 * t) 8 (by omega), e8]
  have hS := s_sumA (d := d + 1) (f := f) hG hE ht 8 0 (by decide) (by decide)
  rw [show d + 1 + 8 + 4 * 8 = d + 41 by omega] at hS
  have hMq : ps_M B t f m Mq Mq (k + 1) 0 ps_z ps_z 0 0 0 (-1) := ⟨lx_A_c hI.1 (fun i _ _ => oq _ _ (by decide)) (fun i _ => ⟨oq _ _ (by decide), oq _ _ (by decide), oq _ _ (by decide)⟩), ⟨⟨f0, by rw [oq _ _ (by omega), e8]; exact (Int.add_zero f).symm⟩, fun i hi => absurd hi (Nat.not_lt_zero i)⟩, ⟨q4, q5, q6, q7, by decide, by decide, by decide⟩, zfr_rfl, by omega⟩
  refine hS Mq Mq _ (k + 1) 0 ps_z ps_z 0 0 0 (-1) (by omega) (by omega) (by decide) hMq (fun M3 k' L' st' v' lv' dp' wd' gr' h3' k'm o3 r3 D3 R3 => ?_) (fun M3 e k' fF e2 e3 hcc FL => bX4_readQuestion_37 hG zs ⟨fun z => absurd rfl z, fun _ => bX4_readRest_53 hG zs ⟨by decide, bX4_readScript_72 hG zs ⟨fun _ => hfl M3 e k' (ps_cFF FqH fF (Or.inl rfl) hc') e2 e3 (by omega) (m_clX hG hE ht hk hc' f0 hcc hs FL), fun w => absurd rfl w⟩⟩⟩)
  obtain ⟨hA3, hR3, ⟨c4, c5, c6, c7, iv⟩, fF3, l3⟩ := h3'
  obtain ⟨d0, ⟨d1a, d1b, d1c, d1d⟩, ⟨d2a, d2b⟩, d3, ⟨s1, s2, s3⟩, d5, d6⟩ := D3
  have F3 := ps_cF FqH fF3 (Or.inr (Or.inr (Or.inl rfl))) hc'
  have o3q : ∀ a x, a ≠ 12 → a ≠ 13 → ¬ (189 + 12 * t ≤ a ∧ a ≤ 189 + 12 * t + 7) → 0 ≤ x → x < 1000000 → M3 a x = M2 a x := fun a x a1 a2 a3 x0 x1 => by
    rw [fF3 a x (by unfold ps_H zhw zhit; simp; omega)]; exact oq a x a1
  have hI3 : ps_CI B t m M3 M3 k' c 20 0 ps_p := by
    rw [hs] at hI
    obtain ⟨_, ⟨i3, i2⟩, i7, i8, _⟩ := hI
    exact ⟨hA3, ⟨by rw [o3q _ _ (by omega) (by omega) (by omega) (by decide) (by decide)]; exact i3, by rw [o3q _ _ (by omega) (by omega) (by omega) (by decide) (by decide)]; exact i2⟩, by rw [o3q _ _ (by omega) (by omega) (by omega) (by omega) (by omega)]; exact i7, fun j j0 j1 => by rw [o3q _ _ (by omega) (by omega) (by omega) (by omega) (by omega)]; exact i8 j j0 j1, zfr_rfl⟩
  refine s_g6 (d := d + 41) hG ht hc' hI3 c4 c5 c6 c7 (fun M4 p h4 hp => bX4_readRest_53 hG zs ⟨by decide, bX4_readScript_72 hG zs ⟨fun w => absurd w (by decide), fun _ => ?_⟩⟩) (by omega)
  have F4 := ps_cF F3 h4.2.2.2.2 (Or.inr (Or.inl rfl)) hc'
  refine s_exA (d := d + 42) hG hE k'm (by decide) h4.1 (fun c13 km' M5 hA5 f5 => bX4_readScript_81 hG zs ⟨fun _ => ?_, fun w => absurd w (by decide)⟩) (fun hn M5 f5 e2 e3 => bX4_readScript_81 hG zs ⟨fun w => absurd rfl w, fun _ => hfl M5 1 k' (ps_cFF F4 f5 (Or.inr (Or.inr rfl)) hc') e2 e3 (by decide) (fun D X0 X Q hZ hh => m_clQ hG hE ht hk hc' f0 l3 k'm hs D hZ R3 (fun w => absurd w hn) (fun _ X3 f6 e9 => hh X3 (zfr_trans hZ.2.2.2.2 f6) e9))⟩)
  have o5 : ∀ a x, a ≠ 13 → 0 ≤ x → x < 1000000 → M5 a x = M4 a x := fun a x ha x0 x1 => f5 a x (by unfold zhw zhit; simp; omega)
  have o4 : ∀ a x, a ≠ 13 → a ≠ 12 → a ≠ 186 + 12 * t → ¬ (a = 186 + 12 * t + 2 ∧ 6 * c ≤ x ∧ x < 6 * c + 6) → 0 ≤ x → x < 1000000 → M4 a x = M3 a x := fun a x a1 a2 a3 a4 x0 x1 => h4.2.2.2.2 a x (by unfold ps_HI zhw zhit; simp; omega)
  have e53 : M5 (186 + 12 * t) 3 = c := by rw [o5 _ _ (by omega) (by decide) (by decide)]; exact h4.2.1.1
  rw [e53]
  refine ⟨by omega, by omega, ?_⟩
  obtain ⟨T', t1, t2, t3, t4⟩ := ps_mkT T (fun j => if j = 0 then 0 else if j = 6 then f else if j = 7 then f + L' else if j = 8 then wd' else if j = 9 then dp' else if j = 10 then lv' else gr') t c f L' st' v' hc' f0
  have w0 : T' (889 * t + 12 * c + 1) = 0 := by have q := t3 0 (by decide) (by decide); rw [Int.add_zero] at q; exact q
  have w6 : T' (889 * t + 12 * c + 7) = f := by have q := t3 6 (by decide) (by decide); rw [show 889 * t + 12 * c + 1 + 6 = 889 * t + 12 * c + 7 by omega] at q; exact q
  have w7 : T' (889 * t + 12 * c + 8) = f + L' := by have q := t3 7 (by decide) (by decide); rw [show 889 * t + 12 * c + 1 + 7 = 889 * t + 12 * c + 8 by omega] at q; exact q
  have w8 : T' (889 * t + 12 * c + 9) = wd' := by have q := t3 8 (by decide) (by decide); rw [show 889 * t + 12 * c + 1 + 8 = 889 * t + 12 * c + 9 by omega] at q; exact q
  have w9 : T' (889 * t + 12 * c + 10) = dp' := by have q := t3 9 (by decide) (by decide); rw [show 889 * t + 12 * c + 1 + 9 = 889 * t + 12 * c + 10 by omega] at q; exact q
  have w10 : T' (889 * t + 12 * c + 11) = lv' := by have q := t3 10 (by decide) (by decide); rw [show 889 * t + 12 * c + 1 + 10 = 889 * t + 12 * c + 11 by omega] at q; exact q
  have w11 : T' (889 * t + 12 * c + 12) = gr' := by have q := t3 11 (by decide) (by decide); rw [show 889 * t + 12 * c + 1 + 11 = 889 * t + 12 * c + 12 by omega] at q; exact q
  have o6 : ∀ a x, a ≠ 186 + 12 * t → zset M5 (186 + 12 * t) 3 (c + 1) a x = M5 a x := fun a x ha => by rw [zset_off ha]
  -- nodes as they were when the sum was read
  have nd : ∀ a x, 189 + 12 * t ≤ a → a ≤ 189 + 12 * t + 7 → 0 ≤ x → x < 1000000 → zset M5 (186 + 12 * t) 3 (c + 1) a x = M3 a x := fun a x a0 a1 x0 x1 => by rw [o6 _ _ (by omega), o5 _ _ (by omega) x0 x1, o4 _ _ (by omega) (by omega) (by omega) (by omega) x0 x1]
  have al : ∀ a x, a ≠ 13 → a ≠ 12 → a ≠ 186 + 12 * t → ¬ (189 + 12 * t ≤ a ∧ a ≤ 189 + 12 * t + 7) → ¬ (a = 186 + 12 * t + 1 ∧ x = c) → ¬ (a = 186 + 12 * t + 2 ∧ 6 * c ≤ x ∧ x < 6 * c + 6) → 0 ≤ x → x < 1000000 → zset M5 (186 + 12 * t) 3 (c + 1) a x = M a x := fun a x a1 a2 a3 a4 a5 a6 x0 x1 => by rw [o6 _ _ a3, o5 _ _ a1 x0 x1, o4 _ _ a1 a2 a3 a6 x0 x1, o3q _ _ a2 a1 a4 x0 x1, fb _ _ a1 a3 a5 a6 x0 x1]
  have pt : ∀ j, 0 ≤ j → j < 6 → zset M5 (186 + 12 * t) 3 (c + 1) (188 + 12 * t) (6 * c + j) = p j := fun j j0 j1 => by
    rw [o6 _ _ (by omega), o5 _ _ (by omega) (by omega) (by omega), h4.2.2.2.1 j j0 j1, if_pos j1]
  have H8 : zset M5 (186 + 12 * t) 3 (c + 1) (189 + 12 * t) 8 = f + L' := by rw [nd _ _ (by omega) (by omega) (by decide) (by decide)]; exact hR3.1.2
  have L120 : 1 ≤ L' ∧ L' ≤ 120 := by omega
  refine hok _ (k' + 1) (f + L') T' (ps_CSn h ht hc' (lx_A_c hA5 (fun i _ _ => o6 _ _ (by omega)) (fun i _ => ⟨o6 _ _ (by omega), o6 _ _ (by omega), o6 _ _ (by omega)⟩)) zset_same ⟨H8, by omega, by omega, l3⟩ (fun a x a0 a1 x0 x1 => ?_) (fun x x0 x1 => al _ _ (by omega) (by omega) (by omega) (by omega) (by omega) (by omega) x0 (by omega)) (fun x x0 x1 => al _ _ (by omega) (by omega) (by omega) (by omega) (by omega) (by omega) x0 (by omega)) t1 t2 ?_ ?_) (by omega) (by omega) (fun D X0 X Q hZ hh => m_clQ hG hE ht hk hc' f0 l3 k'm hs D hZ R3 (fun _ X3 m3' t3' q0 q14 q15 qs q7' q8' qst qo qs2 qF => ?_) (fun w => absurd c13 w))
  · rw [nd _ _ (by omega) (by omega) x0 (by omega), o3 a x a0 a1 x0 (by omega), oq _ _ (by omega), fb _ _ (by omega) (by omega) (by omega) (by omega) x0 (by omega)]
  · -- the clause is told
    unfold zXc
    rw [ps_gh_t, w0, ps_gh_n (by omega), o6 _ _ (by omega), o5 _ _ (by omega) (by omega) (by omega)]
    refine ⟨by decide, h4.2.2.1, fun _ => ?_, fun j j0 j1 => ?_⟩
    · unfold zXa
      have p0 := pt 0 (by decide) (by decide)
      rw [Int.add_zero] at p0
      rw [ps_gh_t, ps_gh_t, ps_gh_t, ps_gh_t, ps_gh_t, ps_gh_t, ps_gh_n (by omega), ps_gh_n (by omega), ps_gh_n (by omega), ps_gh_n (by omega), ps_gh_n (by omega), ps_gh_n (by omega), w6, w7, w8, w9, w10, w11, p0, pt 1 (by decide) (by decide), pt 2 (by decide) (by decide), pt 3 (by decide) (by decide), pt 4 (by decide) (by decide), pt 5 (by decide) (by decide), hp.1, hp.2.1, hp.2.2.1, hp.2.2.2.1, hp.2.2.2.2.1, hp.2.2.2.2.2]
      obtain ⟨iv1, iv2, iv3⟩ := iv
      refine ⟨⟨rfl, rfl⟩, ?_, ⟨rfl, rfl, rfl, rfl⟩, iv2, iv1, ⟨by omega, by omega⟩, iv3⟩
      rw [show f + (L' : Int) - f = (L' : Int) by omega]
      refine ps_mkq (st := st') (v := v') (fun i hi => ?_) ?_ f0 L120 l3 ?_ ?_ (fun i i0 i1 => ?_) (fun i hi => ?_)
      · have ci := fun j (j0 : 0 ≤ j) (j1 : j < zpn (st' i) (v' i)) => ps_cd (ps_R_ok hR3) hi ⟨j0, j1⟩
        have gn : ∀ a x, 1 ≤ a → a ≤ 7 → 0 ≤ x → x < 1000000 → ps_gh (zset M5 (186 + 12 * t) 3 (c + 1)) T' (189 + 12 * t + a) x = M3 (189 + 12 * t + a) x := fun a x a0 a1 x0 x1 => by rw [ps_gh_n (by omega)]; exact nd _ _ (by omega) (by omega) x0 x1
        exact ps_N_c (hR3.2 i hi) (gn 1 _ (by decide) (by decide) (by omega) (by omega)) (gn 2 _ (by decide) (by decide) (by omega) (by omega)) (gn 4 _ (by decide) (by decide) (by omega) (by omega)) (gn 5 _ (by decide) (by decide) (by omega) (by omega)) (fun j j0 j1 => ⟨gn 7 _ (by decide) (by decide) (by have := ci j j0 j1; omega) (by have := ci j j0 j1; omega), gn 3 _ (by decide) (by decide) (by have := ci j j0 j1; omega) (by have := ci j j0 j1; omega)⟩) (fun _ _ => ⟨rfl, rfl⟩)
      · rw [ps_gh_n (by omega)]; exact H8
      · have z0 : (zsp ps_z ps_z 0).1 = 0 := rfl
        omega
      · have z0 : zlc ps_z 0 = 0 := rfl
        omega
      · have := d6 i (by omega) i1
        omega
      · rw [ps_gh_t, ps_gh_t]; exact t4 i hi
    · have z0 : znpt 0 = 0 := rfl
      omega
  · exact ps_cF (ps_cF F4 f5 (Or.inr (Or.inr (Or.inr (Or.inl rfl)))) hc') (zfr_set zfr_rfl (zhit_at 0 rfl (by decide))) (Or.inr (Or.inr (Or.inr (Or.inr (Or.inr rfl))))) hc'
  · -- the model's run
    refine hh X3 (ps_Zn hZ hc' m3' t3' q14 q15 q0 qo qs2 t1 t2 ⟨by rw [qs, w0], fun _ x x0 x1 => ?_, fun j j0 j1 => ?_⟩ (fun i i0 i1 i2 => ?_) qF)
    · have hx : x = 889 * t + 12 * c + 7 ∨ x = 889 * t + 12 * c + 8 ∨ x = 889 * t + 12 * c + 9 ∨ x = 889 * t + 12 * c + 10 ∨ x = 889 * t + 12 * c + 11 ∨ x = 889 * t + 12 * c + 12 := by omega
      rcases hx with e | e | e | e | e | e <;> subst e
      · rw [q7', w6]
      · rw [q8'.1, w7]
      · rw [q8'.2.1, w8]
      · rw [q8'.2.2.1, w9]
      · rw [q8'.2.2.2.1, w10]
      · rw [q8'.2.2.2.2, w11]
    · rw [w0] at j1
      have z0 : znpt 0 = 0 := rfl
      omega
    · obtain ⟨y, hy⟩ := Int.eq_ofNat_of_zero_le (show 0 ≤ i - f by omega)
      have a := qst y (by omega)
      have b := t4 y (by omega)
      rw [show f + (y : Int) = i by omega] at a b
      rw [a.1, a.2, b.1, b.2]
      exact ⟨rfl, rfl⟩
end PSS

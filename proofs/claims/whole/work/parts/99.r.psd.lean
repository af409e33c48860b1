section PSD
variable {G : zG} {d : Nat} {B : Int → Int} {n t f op : Int} {m : Nat}
abbrev ps_sn (s : Nat) : Int → Int := fun j => if s.testBit j.toNat = true then -1 else 1
theorem s_sum (hG : zP G) (hE : ps_E B n m) (ht : 0 ≤ t ∧ t < 4) (ho : 0 ≤ op ∧ op ≤ 8) {H : Int} (hH : 0 ≤ H) (hprod : ps_Sp G B n m t f op H ps_pp (ps_OP G B n t f op) (fun M Q => Y G (d + 2) mX4_readProduct 0 [(2, 12), (2, 189 + 12 * t), (0, op), (9, 0), (9, 0), (9, 0), (9, 0), (9, 0)] [] M Q)) : ps_Sp G B n m t f op (H + 1) ps_p0 (ps_OS G B n t f op) (fun M Q => Y G (d + 3) mX4_readSum 0 [(2, 12), (2, 189 + 12 * t), (0, op), (9, 0), (9, 0), (9, 0), (9, 0), (9, 0), (9, 0)] [] M Q) := by
  intro M0 M Q k L st v lv dp wd gr hk hf hl h hok hfl
  have zn := zND_t ht
  have m3 := hE.2.1
  have f0 := h.2.1.1.1
  have c0 := (zsp_in L (ps_R_ok h.2.1)).1
  have lp : ∀ (r : Nat) (k1 L1 : Nat) (st1 v1 : Int → Int) (lv1 dp1 wd1 gr1 x : Int) (cn s : Nat) (M1 : zM), k1 + r = m → ps_M B t f m M0 M1 k1 L1 st1 v1 lv1 dp1 wd1 gr1 → ps_old t f L M M1 → (∀ b, zor wd b = wd → zor wd1 b = wd1) → (k < k1 ∧ L < L1 ∧ 1 ≤ cn ∧ lv + cn ≤ lv1 ∧ lv1 ≤ 16) → ((L1 : Int) - L + (cn - 1) ≤ k1 - k ∧ 3 * ((L1 : Int) - L) + (cn - 1) ≤ k1 - k + 4 * (lv1 - lv) - 2 * cn) → (∀ i : Nat, i < L → st1 i = st i ∧ v1 i = v i) → ps_W t f M1 L st v L1 st1 v1 (cn : Int) (ps_sn s) → zlc st1 L1 = zlc st L + (lv1 - lv) → (∀ i : Int, L ≤ i → i < L1 → zhv st1 v1 L1 i ≤ H) → x = f + (zsp st1 v1 L1).2 (zsp st v L).1 → (s < 2 ^ 17 ∧ s.testBit 0 = false ∧ ∀ j : Nat, cn ≤ j → s.testBit j = false) → (cn = 1 → lx_c B (lx_j B k1) = 7 ∨ lx_c B (lx_j B k1) = 8) → lx_c B (lx_j B k1) ≠ 9 → (∀ (D : Nat) (X0 X : zM) (Q : zV → zM → Prop) (fk fw : Int), ps_P B n t f X0 X k L st v lv dp wd gr op 0 fk fw 0 0 0 → (∀ (X' : zM) (fc : Int) (Lp : Nat) (stp vp : Int → Int), (1 ≤ fc ∧ fc ≤ 16) → ps_P B n t f X0 X' k1 Lp stp vp lv1 dp1 wd1 gr1 op 1 fk fw ((cn : Int) - 1) (s : Int) fc → (fc = 1 → Lp = L1 ∧ stp = st1 ∧ vp = v1) → (1 < fc → L1 = Lp + 1 ∧ st1 = zup stp Lp 3 ∧ v1 = zup vp Lp fc) → Y G (D + 30) mX12_summed 36 [(2, 234), (9, 0)] [] X' Q) → Y G (D + 30) mX12_summed 36 [(2, 234), (9, 0)] [] X Q) → Y G (d + 2 + 1) mX4_readSum 47 [(2, 12), (2, 189 + 12 * t), (0, op), (0, x), (0, f + L1 - 1), (0, (cn : Int)), (0, (cn : Int) - 1), (9, 0), (9, 0)] [] M1 Q := fun r => by
    induction r using Nat.strongRecOn with
    | ind r ih =>
      intro k1 L1 st1 v1 lv1 dp1 wd1 gr1 x cn s M1 hr h1 o1 wmo b1 pr ag hW lc hv hx hs c1 c9 mo
      obtain ⟨w1, w2, w3, w4, w5, w6⟩ := hW
      have a7 := h1.1.2.2.2.1
      have ok1 := ps_R_ok h1.2.1
      have zi1 := zsp_in L1 ok1
      refine bX4_readSum_47 hG zn ?_
      rw [a7, h1.2.2.1.2.2.1]
      -- the sum ends
      have fin : lx_c B (lx_j B k1) ≠ 7 → lx_c B (lx_j B k1) ≠ 8 → Y G (d + 2) mX1_makeOf 0 [(2, 189 + 12 * t), (0, 2), (0, x), (0, f + L1 - 1), (0, (cn : Int)), (9, 0)] [] M1 (fun r M' => Y G (d + 2 + 1) mX4_readSum 175 [(2, 12), (2, 189 + 12 * t), (0, op), (0, x), (0, f + L1 - 1), (0, (cn : Int)), (0, (cn : Int) - 1), (9, 0), (9, 0)] (zpush r []) M' Q) := fun z7 z8 => by
        have c2 : 2 ≤ cn := by
          by_cases e : cn = 1
          · rcases c1 e with y | y
            · exact absurd y z7
            · exact absurd y z8
          · omega
        have zp : zpn 2 (zor (cn : Int) (zshl (s : Int) 8)) = (cn : Int) := ps_pn hs.1 (by omega)
        refine s_mko (d := d + 1) (w := zor (cn : Int) (zshl (s : Int) 8)) (c := (zsp st v L).1) hG ht (Or.inl rfl) (by omega) zp ⟨by omega, by omega⟩ ⟨c0, by omega⟩ hx (fun _ z => by have := (ps_sg (j := 0) hs.1 (show cn < 256 by omega) (by decide)).mp z; rw [hs.2.1] at this; cases this) h1 w5 (fun j j0 j1 => ?_) (fun M2 h2 o2 r2 => bX4_readSum_175 hG zn ?_)
        · rw [w6 j j0 j1]
          obtain ⟨y, hy⟩ := Int.eq_ofNat_of_zero_le j0
          have q := ps_sg (j := y) hs.1 (show cn < 256 by omega) (by omega)
          rw [hy]
          show (if s.testBit y = true then (-1 : Int) else 1) = _
          by_cases e : s.testBit y = true
          · rw [if_pos e, if_pos ⟨rfl, q.mpr e⟩]
          · rw [if_neg e, if_neg (fun w => e (q.mp w.2))]
        · have q := hok M2 k1 (L1 + 1) _ _ _ _ _ _ h2 (by omega) (ps_old_tr o1 o2 (by omega)) (by rw [show f + ((L1 + 1 : Nat) : Int) - 1 = f + L1 by omega]; exact r2) ⟨wmo, ⟨by omega, by omega, by omega, by omega⟩, ⟨by omega, by omega⟩, fun i hi => ?_, ⟨?_, fun a a0 a1 => ?_, ?_⟩, ?_, fun i i0 i1 => ?_⟩ (fun D X0 X Q fk fw hP hh => mo D X0 X Q fk fw hP (fun X' fc Lp stp vp fcb hX q1 q2 => ?_))
          · rw [show f + ((L1 + 1 : Nat) : Int) - 1 = f + L1 by omega] at q
            exact q
          · rw [zup_ne (by omega), zup_ne (by omega)]; exact ag i hi
          · rw [ps_up1, zp]; omega
          · rw [ps_up1, zp]
            show zup _ _ _ a = _
            rw [zup_ne (by omega)]; exact w2 a a0 a1
          · rw [ps_up1, zp]
            show zup (zsp st1 v1 L1).2 ((zsp st1 v1 L1).1 - cn) L1 (zsp st v L).1 = _
            rw [show (zsp st1 v1 L1).1 - (cn : Int) = (zsp st v L).1 by omega, zup_at]; omega
          · show zlc (zup st1 L1 2) L1 + (if zup st1 L1 2 L1 < 2 then 1 else 0) = _
            rw [zlc_e (st := st1) L1 (fun i hi => zup_ne (by omega)), zup_at, if_neg (by decide), lc]
            omega
          · have eo : ∀ y, zhv (zup st1 L1 2) (zup v1 L1 (zor (cn : Int) (zshl (s : Int) 8))) L1 y = zhv st1 v1 L1 y := fun y => by rw [zhv_e (st := st1) (v := v1) L1 (fun k hk => ⟨zup_ne (by omega), zup_ne (by omega)⟩)]
            by_cases e : i = (L1 : Int)
            · rw [e, zhv_at, zup_at, zup_at, zp]
              have zm : zmx (fun j => zhv (zup st1 L1 2) (zup v1 L1 (zor (cn : Int) (zshl (s : Int) 8))) L1 (zcd (zup st1 L1 2) (zup v1 L1 (zor (cn : Int) (zshl (s : Int) 8))) L1 j)) (cn : Int).toNat ≤ H := zmx_le hH _ (fun j hj => by
                show zhv (zup st1 L1 2) (zup v1 L1 (zor (cn : Int) (zshl (s : Int) 8))) L1 (zcd (zup st1 L1 2) (zup v1 L1 (zor (cn : Int) (zshl (s : Int) 8))) L1 j) ≤ H
                rw [eo, ps_upcd, zp, show (zsp st1 v1 L1).1 - (cn : Int) + (j : Int) = (zsp st v L).1 + j by omega]
                exact hv _ (w4 j (by omega) (by omega)) (zi1.2 _ (by omega) (by omega)).2)
              omega
            · rw [zhv_ne e, eo]
              have := hv i i0 (by omega)
              omega
          · refine m_se (d := D) hG ho ht ⟨f0, fun z => ?_, fun z => ?_⟩ ⟨by omega, by omega⟩ ⟨z7, z8, c9⟩ hX (fun X2 Lq stq vq hq g => hh X2 (cn : Int) (s : Int) ?_)
            · have := q2 z; omega
            · by_cases e : 1 < fc
              · rw [if_pos e]; have := q2 e; omega
              · rw [if_neg e]; have := q1 (by omega); omega
            · have g2 := g.2 (by omega)
              rw [show (cn : Int) - 1 + 1 = cn by omega] at g2
              rcases hq with ⟨e1, e2, e3, e4⟩ | ⟨e1, e2, e3, e4⟩
              · obtain ⟨y1, y2, y3⟩ := q1 (by omega)
                rw [e2, e3, e4, y1, y2, y3] at g2
                exact g2
              · obtain ⟨y1, y2, y3⟩ := q2 e1
                rw [e2, e3, e4, ← y1, ← y2, ← y3] at g2
                exact g2
      have term : ∀ (sgn w1v : Int) (s' : Nat), ((lx_c B (lx_j B k1) = 7 ∧ sgn = 1 ∧ w1v = 16 ∧ s' = s) ∨ (lx_c B (lx_j B k1) = 8 ∧ sgn = -1 ∧ w1v = 32 ∧ s' = s ||| 2 ^ cn)) → Y G (d + 2) mX8_advance 0 [(2, 13)] [] (zset M1 12 6 (zor wd1 w1v)) (fun r M' => Y G (d + 2 + 1) mX4_readSum 126 [(2, 12), (2, 189 + 12 * t), (0, op), (0, x), (0, f + L1 - 1), (0, (cn : Int)), (0, (cn : Int) - 1), (0, sgn), (9, 0)] (zpush r []) M' Q) := fun sgn w1v s' hc => by
        have km := ps_lt hE (show k1 ≤ m by omega) (by omega)
        have h2 : ps_M B t f m M0 (zset M1 12 6 (zor wd1 w1v)) k1 L1 st1 v1 lv1 dp1 (zor wd1 w1v) gr1 ∧ ps_old t f L1 M1 (zset M1 12 6 (zor wd1 w1v)) := s_fd ht h1 (by decide) (ps_iv_w h1.2.2.1.2.2.2.2 (by omega))
        have sb := ps_sb (s := s) (c := cn) hs.1 (by omega)
        have hs' : s' < 2 ^ 17 ∧ s'.testBit 0 = false ∧ (∀ j : Nat, cn + 1 ≤ j → s'.testBit j = false) ∧ (∀ j : Nat, j < cn → s'.testBit j = s.testBit j) ∧ (if s'.testBit cn = true then (-1 : Int) else 1) = sgn := by
          rcases hc with ⟨_, e1, _, e2⟩ | ⟨_, e1, _, e2⟩
          · rw [e2]
            exact ⟨hs.1, hs.2.1, fun j hj => hs.2.2 j (by omega), fun _ _ => rfl, by rw [hs.2.2 cn (Nat.le_refl cn), e1]; rfl⟩
          · rw [e2]
            refine ⟨sb.2.1, ?_, fun j hj => ?_, fun j hj => ?_, ?_⟩
            · rw [sb.2.2, hs.2.1, decide_eq_false (by omega)]; rfl
            · rw [sb.2.2, hs.2.2 j (by omega), decide_eq_false (by omega)]; rfl
            · rw [sb.2.2, decide_eq_false (by omega), Bool.or_false]
            · rw [sb.2.2, decide_eq_true rfl, Bool.or_true, if_pos rfl, e1]
        have run : ∀ (D : Nat) (X0 X : zM) (Q : zV → zM → Prop) (fk fw : Int), ps_P B n t f X0 X k L st v lv dp wd gr op 0 fk fw 0 0 0 → (∀ X', ps_P B n t f X0 X' (k1 + 1) L1 st1 v1 lv1 dp1 (zor wd1 w1v) gr1 op 0 fk fw (cn : Int) (s' : Int) 0 → Y G (D + 30) mX12_summed 36 [(2, 234), (9, 0)] [] X' Q) → Y G (D + 30) mX12_summed 36 [(2, 234), (9, 0)] [] X Q := fun D X0 X Q fk fw hP hh => mo D X0 X Q fk fw hP (fun X' fc Lp stp vp fcb hX q1 q2 => by
          refine m_pl (d := D) (s := (s' : Int)) (w1 := w1v) hG hE km ho ht ⟨f0, ?_⟩ ⟨by omega, by omega⟩ ?_ hX (fun z X2 g => hh X2 ?_) (fun z X2 g => hh X2 ?_)
          · by_cases e : 1 < fc
            · have := (q2 e).1; omega
            · have := (q1 (by omega)).1; omega
          · rw [show (cn : Int) - 1 + 1 = cn by omega]
            rcases hc with ⟨e0, _, e3, e2⟩ | ⟨e0, _, e3, e2⟩
            · exact Or.inl ⟨e0, by rw [e2], e3⟩
            · exact Or.inr ⟨e0, by rw [e2, sb.1], e3⟩
          · obtain ⟨y1, y2, y3⟩ := q1 (by omega)
            rw [y1, y2, y3, show (cn : Int) - 1 + 1 = cn by omega] at g
            exact g
          · obtain ⟨y1, y2, y3⟩ := q2 z
            rw [← y1, ← y2, ← y3, show (cn : Int) - 1 + 1 = cn by omega] at g
            exact g)
        refine s_nx hG ht m3 km h2.1 (fun M2 h3 o3 => bX4_readSum_126 hG zn (hprod M0 M2 _ (k1 + 1) L1 st1 v1 lv1 dp1 (zor wd1 w1v) gr1 (by omega) (by omega) ⟨by omega, by omega⟩ h3 (fun M3 k3 L3 st3 v3 lv3 dp3 wd3 gr3 h4 k3m o4 r4 D3 R3 => ?_) (fun M3 c k3 fF e2 e3 hcc FL => bX4_readSum_132 hG zn ⟨fun z => absurd rfl z, fun _ => hfl M3 c k3 fF e2 e3 hcc ?_⟩)))
        · obtain ⟨d0, d1, d2, d3, ⟨s1, s2, s3⟩, d5, d6⟩ := id D3
          have ok3 := ps_R_ok h4.2.1
          have o2 := ps_old_tr h2.2 o3 (Nat.le_refl L1)
          have el : (zsp st3 v3 L3).2 ((zsp st v L).1 + cn - 1) = (L1 : Int) - 1 := by rw [s2 _ (by omega) (by omega)]; exact w3
          have er : (zsp st3 v3 L3).2 ((zsp st v L).1 + cn) = (L3 : Int) - 1 := by rw [← w1]; exact s3
          refine bX4_readSum_132 hG zn ⟨fun _ => s_lk (L0 := L) (a := (zsp st v L).1 + cn - 1) (b := (zsp st v L).1 + cn) hG ht h4 ⟨by omega, by omega⟩ ⟨by omega, by omega⟩ (by rw [el]; omega) (by rw [er]; omega) (by omega) (by omega) (fun M4 h5 o5 e7 e3 p7 p3 => bX4_readSum_152 hG zn ⟨by omega, by omega, ?_⟩), fun z => by omega⟩
          have nW := ps_W_s (M1 := M2) (sn := ps_sn s) (s := sgn) c0 (show (1 : Int) ≤ (cn : Int) by omega) (show L ≤ L1 by omega) (M2 := M3) (M3 := M4) (st1 := st1) (v1 := v1) ⟨w1, w2, w3, w4, fun j j0 j1 => by
            have := zi1.2 ((zsp st v L).1 + j) (by omega) (by omega)
            rw [o2 7 _ (by decide) (by decide) (by omega) (by omega)]; exact w5 j j0 j1, fun j j0 j1 => by
            have := zi1.2 ((zsp st v L).1 + j) (by omega) (by omega)
            rw [o2 3 _ (by decide) (by decide) (by omega) (by omega)]; exact w6 j j0 j1⟩ ok3 D3 o4 f0 zi1.2 e7 e3 p7 p3
          have nW2 := ps_W_n (sn' := ps_sn s') nW (fun j j0 j1 => by
            obtain ⟨y, hy⟩ := Int.eq_ofNat_of_zero_le j0
            rw [hy]
            show (if s'.testBit y = true then (-1 : Int) else 1) = _
            by_cases e : y = cn
            · rw [e, zup_at]; exact hs'.2.2.2.2
            · rw [zup_ne (by omega)]
              show _ = (if s.testBit y = true then (-1 : Int) else 1)
              rw [hs'.2.2.2.1 y (by omega)])
          have ec : (cn : Int) + 1 = ((cn + 1 : Nat) : Int) := by omega
          rw [show (cn : Int) - 1 + 1 = ((cn + 1 : Nat) : Int) - 1 by omega, ec]
          rw [ec] at nW2
          refine ih (m - k3) (by omega) k3 L3 st3 v3 lv3 dp3 wd3 gr3 x (cn + 1) s' M4 (by omega) h5 (ps_old_tr (ps_old_tr (ps_old_tr o1 o2 (by omega)) o4 (by omega)) o5 (Nat.le_refl L)) (fun b hb => d0 b (zor_gr (wmo b hb))) ⟨by omega, by omega, by omega, by omega, by omega⟩ ⟨by omega, by omega⟩ (fun i hi => ⟨(d3 i (by omega)).1.trans (ag i hi).1, (d3 i (by omega)).2.trans (ag i hi).2⟩) nW2 (by rw [d5, lc]; omega) (fun i i0 i1 => ?_) (by rw [s2 _ c0 (by omega)]; exact hx) ⟨hs'.1, hs'.2.1, hs'.2.2.1⟩ (fun e => by omega) R3.1 (fun D X0 X Q fk fw hP hh => run D X0 X Q fk fw hP (fun X2 g => R3.2 D X0 X2 Q fk fw (cn : Int) (s' : Int) g (fun X3 fc Lp stp vp a1 a2 a3 a4 => hh X3 fc Lp stp vp a1 (by rw [show ((cn + 1 : Nat) : Int) - 1 = (cn : Int) by omega]; exact a2) a3 a4)))
          by_cases e : (L1 : Int) ≤ i
          · exact d6 i e i1
          · have en : zhv st3 v3 L3 i = zhv st1 v1 L1 i := by
              have g : ∀ (q : Nat), L1 + q ≤ L3 → zhv st3 v3 (L1 + q) i = zhv st1 v1 L1 i := fun q => by
                induction q with
                | zero => exact fun _ => by rw [Nat.add_zero, zhv_e (st := st1) (v := v1) L1 (fun y hy => d3 y hy)]
                | succ q iq =>
                  intro hq
                  rw [← Nat.add_assoc, zhv_ne (by omega)]
                  exact iq (by omega)
              have g2 := g (L3 - L1) (by omega)
              rw [show L1 + (L3 - L1) = L3 by omega] at g2
              exact g2
            rw [en]; exact hv i i0 (by omega)
        · exact fun D X0 X Q fk fw tm sg fc pp hP hh => by
            obtain ⟨e1, e2, e3⟩ := pp
            subst e1; subst e2; subst e3
            exact run D X0 X Q fk fw hP (fun X2 g => FL D X0 X2 Q fk fw (cn : Int) (s' : Int) 0 ⟨rfl, by omega, by omega⟩ g hh)
      refine ⟨fun z => by omega, fun _ => ⟨fun z => ⟨fun z2 => absurd z z2, fun _ => term 1 16 s (Or.inl ⟨z, rfl, rfl, rfl⟩)⟩, fun z => ⟨fun z2 => fin z z2, fun z2 => ⟨fun _ => term (-1) 32 _ (Or.inr ⟨z2, rfl, rfl, rfl⟩), fun z3 => absurd z3 z⟩⟩⟩⟩
  refine bX4_readSum_0 hG zn (hprod M0 M _ k L st v lv dp wd gr hk hf hl h (fun M1 k1 L1 st1 v1 lv1 dp1 wd1 gr1 h1 k1m o1 r1 D1 R1 => bX4_readSum_6 hG zn ?_) (fun M1 c k1 fF e2 e3 hc FL => bX4_readSum_6 hG zn ⟨fun _ => hfl M1 c k1 fF e2 e3 hc (fun D X0 X Q fk fw tm sg fc pp hP hh => FL D X0 X Q fk fw tm sg fc ⟨pp.2.2, by have : tm = 0 := pp.1; omega⟩ hP hh), fun z => absurd rfl z⟩))
  obtain ⟨d0, d1, d2, d3, ⟨s1, s2, s3⟩, d5, d6⟩ := id D1
  have a7 := h1.1.2.2.2.1
  rw [a7]
  have go : (lx_c B (lx_j B k1) = 7 ∨ lx_c B (lx_j B k1) = 8) → Y G (d + 2 + 1) mX4_readSum 47 [(2, 12), (2, 189 + 12 * t), (0, op), (0, f + L1 - 1), (0, f + L1 - 1), (0, 1), (0, 0), (9, 0), (9, 0)] [] M1 Q := fun z =>
    lp (m - k1) k1 L1 st1 v1 lv1 dp1 wd1 gr1 (f + L1 - 1) 1 0 M1 (by omega) h1 o1 d0 ⟨by omega, by omega, by omega, by omega, by omega⟩ ⟨by omega, by omega⟩ d3 (ps_W_1 D1 r1 rfl) d5 d6 (by rw [s3]; omega) ⟨by decide, rfl, fun j _ => Nat.zero_testBit j⟩ (fun _ => z) R1.1 (fun D X0 X Q fk fw hP hh => R1.2 D X0 X Q fk fw 0 0 hP hh)
  refine ⟨fun z => by omega, fun _ => ⟨fun z => go (Or.inl z), fun z7 => ⟨fun z => go (Or.inr z), fun z8 => ?_⟩⟩⟩
  refine hok M1 k1 L1 st1 v1 lv1 dp1 wd1 gr1 h1 k1m o1 r1 ⟨d0, d1, d2, d3, ⟨s1, s2, s3⟩, d5, fun i i0 i1 => by have := d6 i i0 i1; omega⟩ (fun D X0 X Q fk fw hP hh => R1.2 D X0 X Q fk fw 0 0 hP (fun X' fc Lp stp vp fcb hX q1 q2 => m_se (d := D) hG ho ht ⟨f0, fun z => ?_, fun z => absurd z (by decide)⟩ (by decide) ⟨z7, z8, R1.1⟩ hX (fun X2 Lq stq vq hq g => hh X2 1 0 ?_)))
  · have := (q2 z).1
    have := h1.2.2.2.2
    omega
  · have g1 := g.1 rfl
    rcases hq with ⟨e1, e2, e3, e4⟩ | ⟨e1, e2, e3, e4⟩
    · obtain ⟨y1, y2, y3⟩ := q1 (by omega)
      rw [e2, e3, e4, y1, y2, y3] at g1
      exact g1
    · obtain ⟨y1, y2, y3⟩ := q2 e1
      rw [e2, e3, e4, ← y1, ← y2, ← y3] at g1
      exact g1
end PSD

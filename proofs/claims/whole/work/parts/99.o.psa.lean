section PSA
variable {G : zG} {d : Nat} {B : Int → Int} {n t f op : Int} {m : Nat}
theorem zmx_le {c : Int → Int} {H : Int} (h0 : 0 ≤ H) : ∀ n : Nat, (∀ j : Nat, j < n → c j ≤ H) → zmx c n ≤ H
  | 0, _ => h0
  | n + 1, h => by
    have a := zmx_le h0 n (fun j hj => h j (by omega))
    have b := h n (by omega)
    show max (zmx c n) (c n) ≤ H
    omega
theorem ps_u1 {cnt : Int} : zup (fun _ => (1 : Int)) cnt 1 = fun _ => 1 := by
  funext j
  unfold zup
  split <;> rfl
theorem s_prod (hG : zP G) (hE : ps_E B n m) (ht : 0 ≤ t ∧ t < 4) (ho : 0 ≤ op ∧ op ≤ 8) {H : Int} (hH : 0 ≤ H) (hone : ps_Sp G B n m t f op H ps_p1 (ps_O1 G B n t f op) (fun M Q => Y G (d + 1) mX4_readOne 0 [(2, 12), (2, 189 + 12 * t), (0, op), (9, 0)] [] M Q)) : ps_Sp G B n m t f op (H + 1) ps_pp (ps_OP G B n t f op) (fun M Q => Y G (d + 2) mX4_readProduct 0 [(2, 12), (2, 189 + 12 * t), (0, op), (9, 0), (9, 0), (9, 0), (9, 0), (9, 0)] [] M Q) := by
  intro M0 M Q k L st v lv dp wd gr hk hf hl h hok hfl
  have zn := zND_t ht
  have m3 := hE.2.1
  have f0 := h.2.1.1.1
  have c0 := (zsp_in L (ps_R_ok h.2.1)).1
  have lp : ∀ (r : Nat) (k1 L1 : Nat) (st1 v1 : Int → Int) (lv1 dp1 wd1 gr1 wm cnt x : Int) (M1 : zM), k1 + r = m → ps_M B t f m M0 M1 k1 L1 st1 v1 lv1 dp1 wd1 gr1 → ps_old t f L M M1 → (∀ b, zor wd b = wd → zor wd1 b = wd1) → (k < k1 ∧ L < L1 ∧ 1 ≤ cnt ∧ lv + cnt ≤ lv1 ∧ lv1 ≤ 16) → ((L1 : Int) - L + (cnt - 1) ≤ k1 - k ∧ 3 * ((L1 : Int) - L) + (cnt - 1) ≤ k1 - k + 4 * (lv1 - lv) - 2 * cnt) → (∀ i : Nat, i < L → st1 i = st i ∧ v1 i = v i) → ps_W t f M1 L st v L1 st1 v1 cnt (fun _ => 1) → zlc st1 L1 = zlc st L + (lv1 - lv) → (∀ i : Int, L ≤ i → i < L1 → zhv st1 v1 L1 i ≤ H) → x = f + (zsp st1 v1 L1).2 (zsp st v L).1 → zor wm 64 = wd1 → (cnt = 1 → lx_c B (lx_j B k1) = 9) → (2 ≤ cnt → wm = wd1) → (∀ (D : Nat) (X0 X : zM) (Q : zV → zM → Prop) (fk fw tm sg : Int), ps_P B n t f X0 X k L st v lv dp wd gr op 0 fk fw tm sg 0 → (∀ X', ps_P B n t f X0 X' k1 L1 st1 v1 lv1 dp1 wm gr1 op 1 fk fw tm sg cnt → Y G (D + 30) mX12_summed 36 [(2, 234), (9, 0)] [] X' Q) → Y G (D + 30) mX12_summed 36 [(2, 234), (9, 0)] [] X Q) → Y G (d + 1 + 1) mX4_readProduct 46 [(2, 12), (2, 189 + 12 * t), (0, op), (0, x), (0, f + L1 - 1), (0, cnt), (0, cnt - 1), (9, 0)] [] M1 Q := fun r => by
    induction r using Nat.strongRecOn with
    | ind r ih =>
      intro k1 L1 st1 v1 lv1 dp1 wd1 gr1 wm cnt x M1 hr h1 o1 wmo b1 pr ag hW lc hv hx w64 c9 cw mo
      have hW' := hW
      obtain ⟨w1, w2, w3, w4, w5, w6⟩ := hW
      have a7 := h1.1.2.2.2.1
      have ok1 := ps_R_ok h1.2.1
      have zi1 := zsp_in L1 ok1
      refine bX4_readProduct_46 hG zn ?_
      rw [a7]
      refine ⟨fun z => by omega, fun _ => ⟨fun z => ?_, fun z => ?_⟩⟩
      · -- the product ends
        have c2 : 2 ≤ cnt := by
          by_cases e : cnt = 1
          · exact absurd (c9 e) z
          · omega
        have zp : zpn 3 cnt = cnt := by unfold zpn; rw [if_neg (by decide), if_neg (by decide), if_pos rfl]
        refine s_mko (d := d) (w := cnt) (c := (zsp st v L).1) hG ht (Or.inr rfl) (by omega) zp ⟨c2, by omega⟩ ⟨c0, by omega⟩ hx (fun e => absurd e (by decide)) h1 w5 (fun j j0 j1 => by rw [w6 j j0 j1, if_neg (fun e => absurd e.1 (by decide))]) (fun M2 h2 o2 r2 => bX4_readProduct_121 hG zn ?_)
        have q := hok M2 k1 (L1 + 1) _ _ _ _ _ _ h2 (by omega) (ps_old_tr o1 o2 (by omega)) (by rw [show f + ((L1 + 1 : Nat) : Int) - 1 = f + L1 by omega]; exact r2) ⟨wmo, ⟨by omega, by omega, by omega, by omega⟩, ⟨by omega, by omega⟩, fun i hi => ?_, ⟨?_, fun a a0 a1 => ?_, ?_⟩, ?_, fun i i0 i1 => ?_⟩ ⟨z, fun D X0 X Q fk fw tm sg hP hh => mo D X0 X Q fk fw tm sg hP (fun X' hX => hh X' cnt L1 st1 v1 ⟨by omega, by omega⟩ (by rw [cw c2] at hX; exact hX) (fun e => by omega) (fun _ => ⟨rfl, rfl, rfl⟩))⟩
        · rw [show f + ((L1 + 1 : Nat) : Int) - 1 = f + L1 by omega] at q
          exact q
        · rw [zup_ne (by omega), zup_ne (by omega)]; exact ag i hi
        · rw [ps_up1, zp]; omega
        · rw [ps_up1, zp]
          show zup _ _ _ a = _
          rw [zup_ne (by omega)]; exact w2 a a0 a1
        · rw [ps_up1, zp]
          show zup (zsp st1 v1 L1).2 ((zsp st1 v1 L1).1 - cnt) L1 (zsp st v L).1 = _
          rw [show (zsp st1 v1 L1).1 - cnt = (zsp st v L).1 by omega, zup_at]; omega
        · show zlc (zup st1 L1 3) L1 + (if zup st1 L1 3 L1 < 2 then 1 else 0) = _
          rw [zlc_e (st := st1) L1 (fun i hi => zup_ne (by omega)), zup_at, if_neg (by decide), lc]
          omega
        · have eo : ∀ y, zhv (zup st1 L1 3) (zup v1 L1 cnt) L1 y = zhv st1 v1 L1 y := fun y => by rw [zhv_e (st := st1) (v := v1) L1 (fun k hk => ⟨zup_ne (by omega), zup_ne (by omega)⟩)]
          by_cases e : i = (L1 : Int)
          · rw [e, zhv_at, zup_at, zup_at, zp]
            have zm : zmx (fun j => zhv (zup st1 L1 3) (zup v1 L1 cnt) L1 (zcd (zup st1 L1 3) (zup v1 L1 cnt) L1 j)) cnt.toNat ≤ H := zmx_le hH _ (fun j hj => by
              show zhv (zup st1 L1 3) (zup v1 L1 cnt) L1 (zcd (zup st1 L1 3) (zup v1 L1 cnt) L1 j) ≤ H
              rw [eo, ps_upcd, zp, show (zsp st1 v1 L1).1 - cnt + (j : Int) = (zsp st v L).1 + j by omega]
              exact hv _ (w4 j (by omega) (by omega)) (zi1.2 _ (by omega) (by omega)).2)
            omega
          · rw [zhv_ne e, eo]
            have := hv i i0 (by omega)
            omega
      · -- one factor more
        have km := ps_lt hE (show k1 ≤ m by omega) (by omega)
        refine s_nx hG ht m3 km h1 (fun M2 h2 o2 => bX4_readProduct_73 hG zn (hone M0 M2 _ (k1 + 1) L1 st1 v1 lv1 dp1 wd1 gr1 (by omega) (by omega) ⟨by omega, by omega⟩ h2 (fun M3 k3 L3 st3 v3 lv3 dp3 wd3 gr3 h3 k3m o3 r3 D3 R3 => ?_) (fun M3 c k3 fF e2 e3 hc FL => bX4_readProduct_79 hG zn ⟨fun z => absurd rfl z, fun _ => hfl M3 c k3 fF e2 e3 hc ?_⟩)))
        · obtain ⟨d0, d1, d2, d3, ⟨s1, s2, s3⟩, d5, d6⟩ := id D3
          have ok3 := ps_R_ok h3.2.1
          have el : (zsp st3 v3 L3).2 ((zsp st v L).1 + cnt - 1) = (L1 : Int) - 1 := by rw [s2 _ (by omega) (by omega)]; exact w3
          have er : (zsp st3 v3 L3).2 ((zsp st v L).1 + cnt) = (L3 : Int) - 1 := by rw [← w1]; exact s3
          refine bX4_readProduct_79 hG zn ⟨fun _ => s_lk (L0 := L) (a := (zsp st v L).1 + cnt - 1) (b := (zsp st v L).1 + cnt) hG ht h3 ⟨by omega, by omega⟩ ⟨by omega, by omega⟩ (by rw [el]; omega) (by rw [er]; omega) (by omega) (by omega) (fun M4 h4 o4 e7 e3 p7 p3 => bX4_readProduct_98 hG zn ⟨by omega, by omega, ?_⟩), fun z => by omega⟩
          rw [show cnt - 1 + 1 = cnt + 1 - 1 by omega]
          have nW := ps_W_s (M1 := M2) (sn := fun _ => 1) (s := 1) c0 b1.2.2.1 (by omega) (M2 := M3) (M3 := M4) (L1 := L1) (st1 := st1) (v1 := v1) (cnt := cnt) ⟨w1, w2, w3, w4, fun j j0 j1 => by
            have := zi1.2 ((zsp st v L).1 + j) (by omega) (by omega)
            rw [o2 7 _ (by decide) (by decide) (by omega) (by omega)]; exact w5 j j0 j1, fun j j0 j1 => by
            have := zi1.2 ((zsp st v L).1 + j) (by omega) (by omega)
            rw [o2 3 _ (by decide) (by decide) (by omega) (by omega)]; exact w6 j j0 j1⟩ ok3 D3 o3 f0 zi1.2 e7 e3 p7 p3
          rw [ps_u1] at nW
          have w65 : zor wd1 64 = wd1 := by rw [← w64]; exact zor_sf
          refine ih (m - k3) (by omega) k3 L3 st3 v3 lv3 dp3 wd3 gr3 wd3 (cnt + 1) x M4 (by omega) h4 (ps_old_tr (ps_old_tr (ps_old_tr o1 o2 (by omega)) o3 (by omega)) o4 (Nat.le_refl L)) (fun b hb => d0 b (wmo b hb)) ⟨by omega, by omega, by omega, by omega, by omega⟩ ⟨by omega, by omega⟩ (fun i hi => ⟨(d3 i (by omega)).1.trans (ag i hi).1, (d3 i (by omega)).2.trans (ag i hi).2⟩) nW (by rw [d5, lc]; omega) (fun i i0 i1 => ?_) (by rw [s2 _ c0 (by omega)]; exact hx) (d0 64 w65) (fun e => by omega) (fun _ => rfl) (fun D X0 X Q fk fw tm sg hP hh => mo D X0 X Q fk fw tm sg hP (fun X' hX => m_ti (d := D) hG hE km ho ht ⟨f0, h1.2.2.2.2⟩ z hX (fun X2 hX2 => R3 D X0 X2 Q fk fw tm sg cnt ⟨by omega, by omega⟩ (by rw [w64] at hX2; exact hX2) hh)))
          by_cases e : (L1 : Int) ≤ i
          · exact d6 i e i1
          · -- a node that was there
            have en : zhv st3 v3 L3 i = zhv st1 v1 L1 i := by
              have g : ∀ (q : Nat), L1 + q ≤ L3 → zhv st3 v3 (L1 + q) i = zhv st1 v1 L1 i := fun q => by
                induction q with
                | zero => exact fun _ => by rw [Nat.add_zero, zhv_e (st := st1) (v := v1) L1 (fun y hy => d3 y hy)]
                | succ q iq =>
                  intro hq
                  rw [← Nat.add_assoc, zhv_ne (by omega)]
                  exact iq (by omega)
              have g2 := g (L3 - L1) (by omega)
              rw [show L1 + (L3 - L1) = L3 by omega] at g2
              exact g2
            rw [en]; exact hv i i0 (by omega)
        · exact fun D X0 X Q fk fw tm sg fc pp hP hh => by
            have e0 : fc = 0 := pp.1
            subst e0
            exact mo D X0 X Q fk fw tm sg hP (fun X' hX => m_ti (d := D) hG hE km ho ht ⟨f0, h1.2.2.2.2⟩ z hX (fun X2 hX2 => FL D X0 X2 Q fk fw tm sg cnt ⟨⟨by omega, by omega⟩, pp.2⟩ (by rw [w64] at hX2; exact hX2) hh))
  refine bX4_readProduct_0 hG zn (hone M0 M _ k L st v lv dp wd gr hk hf hl h (fun M1 k1 L1 st1 v1 lv1 dp1 wd1 gr1 h1 k1m o1 r1 D1 R1 => bX4_readProduct_6 hG zn ?_) (fun M1 c k1 fF e2 e3 hc FL => bX4_readProduct_6 hG zn ⟨fun _ => hfl M1 c k1 fF e2 e3 hc (fun D X0 X Q fk fw tm sg fc pp hP hh => FL D X0 X Q fk fw tm sg fc ⟨by have : fc = 0 := pp.1; omega, pp.2⟩ hP hh), fun z => absurd rfl z⟩))
  obtain ⟨d0, d1, d2, d3, ⟨s1, s2, s3⟩, d5, d6⟩ := id D1
  have a7 := h1.1.2.2.2.1
  rw [a7, h1.2.2.1.2.2.1]
  refine ⟨fun z => by omega, fun _ => ⟨fun z => ?_, fun z => ?_⟩⟩
  · have h2 : ps_M B t f m M0 (zset M1 12 6 (zor wd1 64)) k1 L1 st1 v1 lv1 dp1 (zor wd1 64) gr1 ∧ ps_old t f L1 M1 (zset M1 12 6 (zor wd1 64)) := s_fd ht h1 (by decide) (ps_iv_w h1.2.2.1.2.2.2.2 (by decide))
    have e3 : zset M1 12 6 (zor wd1 64) (189 + 12 * t + 3) (f + L1 - 1) = 1 := by rw [zset_off (by omega)]; exact r1
    refine lp (m - k1) k1 L1 st1 v1 lv1 dp1 (zor wd1 64) gr1 wd1 1 (f + L1 - 1) _ (by omega) h2.1 (ps_old_tr o1 h2.2 (by omega)) (fun b hb => zor_gr (d0 b hb)) ⟨by omega, by omega, by omega, by omega, by omega⟩ ⟨by omega, by omega⟩ d3 (ps_W_1 D1 e3 rfl) d5 d6 (by rw [s3]; omega) rfl (fun _ => z) (fun e => absurd e (by decide)) (fun D X0 X Q fk fw tm sg hP hh => R1 D X0 X Q fk fw tm sg 0 (by decide) hP hh)
  · exact hok M1 k1 L1 st1 v1 lv1 dp1 wd1 gr1 h1 k1m o1 r1 ⟨d0, d1, d2, d3, ⟨s1, s2, s3⟩, d5, fun i i0 i1 => by have := d6 i i0 i1; omega⟩ ⟨z, fun D X0 X Q fk fw tm sg hP hh => R1 D X0 X Q fk fw tm sg 0 (by decide) hP (fun X' hX => hh X' 1 L1 st1 v1 (by decide) hX (fun _ => ⟨rfl, rfl, rfl⟩) (fun e => absurd e (by decide)))⟩
end PSA

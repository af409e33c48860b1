section PSH
variable {G : zG} {d : Nat} {B : Int → Int} {n t f op H : Int} {m : Nat} {k0 L0 k L : Nat} {st0 v0 st v : Int → Int} {lv0 wd0 lv wd cnt a : Int}
theorem zhv_old {L1 L3 : Nat} {st1 v1 st3 v3 : Int → Int} {i : Int} (d3 : ∀ y : Nat, y < L1 → st3 y = st1 y ∧ v3 y = v1 y) (h : L1 ≤ L3) (hi : i < L1) : zhv st3 v3 L3 i = zhv st1 v1 L1 i := by
  have g : ∀ (q : Nat), L1 + q ≤ L3 → zhv st3 v3 (L1 + q) i = zhv st1 v1 L1 i := fun q => by
    induction q with
    | zero => exact fun _ => by rw [Nat.add_zero, zhv_e (st := st1) (v := v1) L1 (fun y hy => d3 y hy)]
    | succ q iq =>
      intro hq
      rw [← Nat.add_assoc, zhv_ne (by omega)]
      exact iq (by omega)
  have g2 := g (L3 - L1) (by omega)
  rw [show L1 + (L3 - L1) = L3 by omega] at g2
  exact g2
/-- so many sums have been read behind what was opened, and so many tokens beside them -/
def ps_K (k0 L0 : Nat) (st0 v0 : Int → Int) (lv0 wd0 : Int) (k L : Nat) (st v : Int → Int) (lv wd cnt H a : Int) : Prop :=
  (∀ b, zor wd0 b = wd0 → zor wd b = wd) ∧ (L0 ≤ L ∧ 0 ≤ cnt ∧ lv0 + cnt ≤ lv ∧ lv ≤ 16 ∧ 0 ≤ a) ∧ ((L : Int) - L0 + a ≤ k - k0 ∧ 3 * ((L : Int) - L0) + a ≤ k - k0 + 4 * (lv - lv0) - 2 * cnt) ∧ (∀ i : Nat, i < L0 → st i = st0 i ∧ v i = v0 i) ∧
  ((zsp st v L).1 = (zsp st0 v0 L0).1 + cnt ∧ (∀ x, 0 ≤ x → x < (zsp st0 v0 L0).1 → (zsp st v L).2 x = (zsp st0 v0 L0).2 x) ∧ (∀ j, 0 ≤ j → j < cnt → (L0 : Int) ≤ (zsp st v L).2 ((zsp st0 v0 L0).1 + j))) ∧ zlc st L = zlc st0 L0 + (lv - lv0) ∧ ∀ i : Int, L0 ≤ i → i < L → zhv st v L i ≤ H
theorem ps_K_0 (h : lv ≤ 16) : ps_K k L st v lv wd k L st v lv wd 0 H 0 :=
  ⟨fun _ hb => hb, ⟨Nat.le_refl L, by omega, by omega, h, by omega⟩, ⟨by omega, by omega⟩, fun _ _ => ⟨rfl, rfl⟩, ⟨by omega, fun _ _ _ => rfl, fun j j0 j1 => by omega⟩, by omega, fun i i0 i1 => by omega⟩
theorem ps_K_t (h : ps_K k0 L0 st0 v0 lv0 wd0 k L st v lv wd cnt H a) : ps_K k0 L0 st0 v0 lv0 wd0 (k + 1) L st v lv wd cnt H (a + 1) := by
  obtain ⟨h0, h1, h2, h3, h4, h5, h6⟩ := h
  exact ⟨h0, ⟨h1.1, h1.2.1, h1.2.2.1, h1.2.2.2.1, by omega⟩, ⟨by omega, by omega⟩, h3, h4, h5, h6⟩
theorem ps_K_w {x : Int} (h : ps_K k0 L0 st0 v0 lv0 wd0 k L st v lv wd cnt H a) : ps_K k0 L0 st0 v0 lv0 wd0 k L st v lv (zor wd x) cnt H a := by
  obtain ⟨h0, h1, h2, h3, h4, h5, h6⟩ := h
  exact ⟨fun b hb => zor_gr (h0 b hb), h1, h2, h3, h4, h5, h6⟩
variable {k' L' : Nat} {st' v' : Int → Int} {lv' wd' : Int}
theorem ps_K_s (c0 : 0 ≤ (zsp st0 v0 L0).1) (h : ps_K k0 L0 st0 v0 lv0 wd0 k L st v lv wd cnt H a) (hD : ps_D k L st v lv wd k' L' st' v' lv' wd' H) : ps_K k0 L0 st0 v0 lv0 wd0 k' L' st' v' lv' wd' (cnt + 1) H a ∧ (zsp st' v' L').2 ((zsp st0 v0 L0).1 + cnt) = (L' : Int) - 1 ∧ ∀ j, 0 ≤ j → j < cnt → (zsp st' v' L').2 ((zsp st0 v0 L0).1 + j) = (zsp st v L).2 ((zsp st0 v0 L0).1 + j) := by
  obtain ⟨h0, h1, h2, h3, ⟨h4, h4b, h4c⟩, h5, h6⟩ := h
  obtain ⟨d0, d1, d2, d3, ⟨s1, s2, s3⟩, d5, d6⟩ := hD
  rw [h4] at s3
  refine ⟨⟨fun b hb => d0 b (h0 b hb), ⟨by omega, by omega, by omega, by omega, by omega⟩, ⟨by omega, by omega⟩, fun i hi => ⟨(d3 i (by omega)).1.trans (h3 i hi).1, (d3 i (by omega)).2.trans (h3 i hi).2⟩, ⟨by omega, fun x x0 x1 => ?_, fun j j0 j1 => ?_⟩, by omega, fun i i0 i1 => ?_⟩, s3, fun j j0 j1 => s2 _ (by omega) (by omega)⟩
  · rw [s2 x x0 (by omega)]; exact h4b x x0 x1
  · by_cases e : j = cnt
    · rw [e, s3]; omega
    · rw [s2 _ (by omega) (by omega)]; exact h4c j j0 (by omega)
  · by_cases e : (L : Int) ≤ i
    · exact d6 i e i1
    · rw [zhv_old d3 (by omega) (by omega)]; exact h6 i i0 (by omega)
/-- a whole of them -/
theorem ps_K_n {s w : Int} (hH : 0 ≤ H) (c0 : 0 ≤ (zsp st0 v0 L0).1) (ok : ps_ok st v L) (h : ps_K k0 L0 st0 v0 lv0 wd0 k L st v lv wd cnt H a) (hs : 2 ≤ s) (hw : zpn s w = cnt) (h1c : 1 ≤ cnt) (ha : 1 ≤ a ∧ 5 ≤ a + 2 * cnt) : ps_D k0 L0 st0 v0 lv0 wd0 k (L + 1) (zup st L s) (zup v L w) lv wd (H + 1) := by
  obtain ⟨h0, h1, h2, h3, ⟨h4, h4b, h4c⟩, h5, h6⟩ := h
  have zi := (zsp_in L ok).2
  refine ⟨h0, ⟨by omega, by omega, by omega, by omega⟩, ⟨by omega, by omega⟩, fun i hi => ?_, ⟨?_, fun x x0 x1 => ?_, ?_⟩, ?_, fun i i0 i1 => ?_⟩
  · rw [zup_ne (by omega), zup_ne (by omega)]; exact h3 i hi
  · rw [ps_up1, hw]; omega
  · rw [ps_up1, hw]
    show zup _ _ _ x = _
    rw [zup_ne (by omega)]; exact h4b x x0 x1
  · rw [ps_up1, hw]
    show zup (zsp st v L).2 ((zsp st v L).1 - cnt) L (zsp st0 v0 L0).1 = _
    rw [show (zsp st v L).1 - cnt = (zsp st0 v0 L0).1 by omega, zup_at]; omega
  · show zlc (zup st L s) L + (if zup st L s L < 2 then 1 else 0) = _
    rw [zlc_e (st := st) L (fun i hi => zup_ne (by omega)), zup_at, if_neg (by omega), h5]
    omega
  · have eo : ∀ y, zhv (zup st L s) (zup v L w) L y = zhv st v L y := fun y => by rw [zhv_e (st := st) (v := v) L (fun k hk => ⟨zup_ne (by omega), zup_ne (by omega)⟩)]
    by_cases e : i = (L : Int)
    · rw [e, zhv_at, zup_at, zup_at, hw]
      have zm : zmx (fun j => zhv (zup st L s) (zup v L w) L (zcd (zup st L s) (zup v L w) L j)) cnt.toNat ≤ H := zmx_le hH _ (fun j hj => by
        show zhv (zup st L s) (zup v L w) L (zcd (zup st L s) (zup v L w) L j) ≤ H
        rw [eo, ps_upcd, hw, show (zsp st v L).1 - cnt + (j : Int) = (zsp st0 v0 L0).1 + j by omega]
        exact h6 _ (h4c j (by omega) (by omega)) (zi _ (by omega) (by omega)).2)
      omega
    · rw [zhv_ne e, eo]
      have := h6 i i0 (by omega)
      omega
theorem ps_pwn {s w : Int} : (4 ≤ s → s < 6 → zpn s w = 1) ∧ (6 ≤ s → s < 10 → zpn s w = 2) ∧ zpn 10 w = 4 := by
  unfold zpn
  refine ⟨fun a b => ?_, fun a b => ?_, ?_⟩
  · rw [if_neg (by omega), if_neg (by omega), if_neg (by omega), if_pos (by omega)]
  · rw [if_neg (by omega), if_neg (by omega), if_neg (by omega), if_neg (by omega), if_pos (by omega)]
  · rw [if_neg (by omega), if_neg (by omega), if_neg (by omega), if_neg (by omega), if_neg (by omega)]
abbrev ps_SS (G : zG) (d : Nat) (B : Int → Int) (n : Int) (m : Nat) (t f op H : Int) : Prop := ps_Sp G B n m t f op H ps_p0 (ps_OS G B n t f op) (fun M Q => Y G d mX4_readSum 0 [(2, 12), (2, 189 + 12 * t), (0, op), (9, 0), (9, 0), (9, 0), (9, 0), (9, 0), (9, 0)] [] M Q)
theorem s_brk (hG : zP G) (hE : ps_E B n m) (ht : 0 ≤ t ∧ t < 4) (ho : 0 ≤ op ∧ op ≤ 8) (hsum : op < 8 → ps_SS G (d + 4) B n m t f (op + 1) H) : ps_Sp G B n m t f op (H + 1) ps_p1 (ps_O1 G B n t f op) (fun M Q => M 13 7 = 10 → Y G (d + 5) mX4_readBracket 0 [(2, 12), (2, 189 + 12 * t), (0, op), (9, 0)] [] M Q) := by
  intro M0 M Q k L st v lv dp wd gr hk hf hl h hok hfl z
  have zn := zND_t ht
  have m3 := hE.2.1
  have c10 : lx_c B (lx_j B k) = 10 := by rw [← h.1.2.2.2.1]; exact z
  have km := ps_lt hE hk (by omega)
  have f0 := h.2.1.1.1
  have L3b := h.2.2.2.2
  obtain ⟨mo1, mo2⟩ := m_ob (st := st) (v := v) (lv := lv) (dp := dp) (wd := wd) (gr := gr) hG hE km ho ht ⟨f0, L3b⟩ c10
  refine bX4_readBracket_0 hG zn (s_en (d := d + 2) hG hE ht ho hk (by decide) h (fun _ o8 _ M1 h1 o1 => bX4_readBracket_7 hG zn ⟨fun _ => ⟨by omega, ?_⟩, fun w => absurd w (by decide)⟩) (fun _ o8 M1 fF e2 e3 => bX4_readBracket_7 hG zn ⟨fun w => absurd rfl w, fun _ => hfl M1 3 k fF e2 e3 (by decide) (mo2 o8)⟩) (fun w => absurd c10 w))
  rw [h1.2.2.1.2.2.1]
  have h2 : ps_M B t f m M0 (zset M1 12 6 (zor wd 128)) (k + 1) L st v lv (max dp (op + 1)) (zor wd 128) gr ∧ ps_old t f L M1 (zset M1 12 6 (zor wd 128)) := s_fd ht h1 (by decide) (ps_iv_w h1.2.2.1.2.2.2.2 (by decide))
  refine hsum o8 M0 _ _ (k + 1) L st v lv (max dp (op + 1)) (zor wd 128) gr (by omega) (by omega) hl h2.1 (fun M3 k3 L3 st3 v3 lv3 dp3 wd3 gr3 h3 k3m o3 r3 D3 R3 => bX4_readBracket_32 hG zn ⟨fun w => by have := D3.2.1; omega, fun _ => ?_⟩) (fun M3 c k3 fF e2 e3 hcc FL => bX4_readBracket_32 hG zn ⟨fun _ => hfl M3 c k3 fF e2 e3 hcc (ps_Lv_f (mo1 o8) FL), fun w => absurd rfl w⟩)
  obtain ⟨d0, d1, d2, d3, d4, d5, d6⟩ := id D3
  obtain ⟨be1, be2⟩ := ps_Be_cl hG hE k3m ⟨ho.1, by omega⟩ ht ⟨f0, by omega⟩ (Or.inl rfl) (ps_Lv_s (mo1 o8) R3)
  refine s_ex (d := d + 3) hG hE ht k3m (by decide) h3 (fun c11 km3 M4 h4 o4 => bX4_readBracket_44 hG zn ⟨fun w => absurd w (by decide), fun _ => ?_⟩) (fun c11 M4 fF e2 e3 => bX4_readBracket_44 hG zn ⟨fun _ => hfl M4 1 k3 fF e2 e3 (by decide) (be2 c11), fun w => absurd rfl w⟩)
  refine hok M4 (k3 + 1) L3 st3 v3 lv3 dp3 wd3 gr3 h4 (by omega) (ps_old_tr (ps_old_tr (ps_old_tr o1 h2.2 (Nat.le_refl L)) o3 (Nat.le_refl L)) o4 (by omega)) ?_ ⟨fun b hb => d0 b (zor_gr hb), ⟨by omega, by omega, by omega, by omega⟩, ⟨by omega, by omega⟩, d3, d4, d5, fun i i0 i1 => by have := d6 i i0 i1; omega⟩ ((be1 c11).1 rfl)
  rw [o4 3 _ (by decide) (by decide) (by omega) (by omega)]; exact r3
theorem s_wof (hG : zP G) (hE : ps_E B n m) (ht : 0 ≤ t ∧ t < 4) (ho : 0 ≤ op ∧ op ≤ 8) (hH : 0 ≤ H) (hsum : op < 8 → ps_SS G (d + 4) B n m t f (op + 1) H) : ps_Sp G B n m t f op (H + 1) ps_p1 (ps_O1 G B n t f op) (fun M Q => (36 ≤ M 13 7 ∧ M 13 7 ≤ 41) → Y G (d + 5) mX4_readWordOf 0 [(2, 12), (2, 189 + 12 * t), (0, op), (9, 0), (9, 0), (9, 0), (9, 0), (9, 0)] [] M Q) := by
  intro M0 M Q k L st v lv dp wd gr hk hf hl h hok hfl z
  have zn := zND_t ht
  have m3 := hE.2.1
  have a7 := h.1.2.2.2.1
  rw [a7] at z
  have km := ps_lt hE hk (by omega)
  have f0 := h.2.1.1.1
  have L3b := h.2.2.2.2
  have c0 := (zsp_in L (ps_R_ok h.2.1)).1
  obtain ⟨mo1, mo2, mo3⟩ := m_ow (st := st) (v := v) (lv := lv) (dp := dp) (wd := wd) (gr := gr) hG hE km ho ht ⟨f0, L3b⟩ z
  have K2 : ps_K k L st v lv wd (k + 2) L st v lv (zor wd (zshl 256 (lx_c B (lx_j B k) - 36))) 0 H 2 := ps_K_w (ps_K_t (ps_K_t (ps_K_0 hl.2)))
  -- the node, when all its parts have been read
  have fin : ∀ (x4 : Int) (k5 L5 : Nat) (st5 v5 : Int → Int) (lv5 dp5 wd5 gr5 x5 x6 cnt a : Int) (M5 : zM), k5 ≤ m → ps_M B t f m M0 M5 k5 L5 st5 v5 lv5 dp5 wd5 gr5 → ps_old t f L M M5 → ps_K k L st v lv wd k5 L5 st5 v5 lv5 wd5 cnt H a → x5 = f + (zsp st5 v5 L5).2 (zsp st v L).1 → ((cnt = 1 ∧ x6 = -1 ∧ lx_c B (lx_j B k) < 38) ∨ (cnt = 2 ∧ x6 = f + (zsp st5 v5 L5).2 ((zsp st v L).1 + 1) ∧ 38 ≤ lx_c B (lx_j B k))) → 3 ≤ a → ps_O1 G B n t f op k L st v lv dp wd gr k5 (L5 + 1) (zup st5 L5 (lx_c B (lx_j B k) - 32)) (zup v5 L5 0) lv5 dp5 wd5 gr5 → Y G (d + 4 + 1) mX4_readWordOf 129 [(2, 12), (2, 189 + 12 * t), (0, op), (0, lx_c B (lx_j B k) - 36), (0, x4), (0, x5), (0, x6), (9, 0)] [(0, 1)] M5 Q := fun x4 k5 L5 st5 v5 lv5 dp5 wd5 gr5 x5 x6 cnt a M5 k5m h5 o5 K5 hx5 hx6 ha O5 => by
    have q := K5.2.2.1
    have q1 := K5.2.1
    have q4 := K5.2.2.2.2.1
    have ok5 := ps_R_ok h5.2.1
    have zp : zpn (lx_c B (lx_j B k) - 32) 0 = cnt := by
      rcases hx6 with ⟨e, _, e2⟩ | ⟨e, _, e2⟩
      · rw [e]; exact ps_pwn.1 (by omega) (by omega)
      · rw [e]; exact ps_pwn.2.1 (by omega) (by omega)
    have cb : 1 ≤ cnt ∧ cnt ≤ 2 := by omega
    have eu : f + ((L5 + 1 : Nat) : Int) - 1 = f + L5 := by omega
    refine bX4_readWordOf_129 hG zn ⟨fun _ => ⟨by omega, ?_⟩, fun w => absurd w (by decide)⟩
    rw [show 4 + (lx_c B (lx_j B k) - 36) = lx_c B (lx_j B k) - 32 by omega]
    -- the end
    have en : ∀ M6, ps_I B t f m M0 M6 k5 L5 st5 v5 lv5 dp5 wd5 gr5 (lx_c B (lx_j B k) - 32) 0 (zsp st v L).1 cnt → ps_old t f L M M6 → Q (0, f + L5) M6 := fun M6 h6 o6 => by
      have r := s_fi (Or.inl ⟨by omega, by omega, rfl⟩) zp cb.1 ⟨c0, by omega⟩ h6
      have w := hok M6 k5 (L5 + 1) _ _ _ _ _ _ r.1 k5m o6 (by rw [eu]; exact r.2) (ps_K_n hH c0 ok5 K5 (by omega) zp cb.1 (by omega)) O5
      rw [eu] at w
      exact w
    refine s_mk0 (c := (zsp st v L).1) hG ht (by omega) h5 (fun M6 h6 o6 => bX4_readWordOf_142 hG zn (s_ap1 (L0 := L) hG ht rfl (by decide) ⟨c0, by omega⟩ (by rw [Int.add_zero]; exact hx5) (fun i i0 i1 => q4.2.2 i i0 (by omega)) (by omega) h6 (fun M7 h7 o7 => bX4_readWordOf_153 hG zn ?_)))
    have o7' := ps_old_tr (ps_old_tr o5 o6 (by omega)) o7 (Nat.le_refl L)
    rcases hx6 with ⟨e, e6, e2⟩ | ⟨e, e6, e2⟩
    · refine bX1_append_0 hG zn ⟨fun w => by omega, fun _ => ⟨fun w => ?_, fun _ => ⟨fun _ => ?_, fun w => by omega⟩⟩⟩
      · have := h7.1.2.1.2.1
        omega
      · refine bX4_readWordOf_162 hG zn (en M7 ?_ o7')
        rw [e]; exact h7
    · refine s_ap1 (L0 := L) hG ht rfl (by decide) ⟨c0, by omega⟩ e6 (fun i i0 i1 => q4.2.2 i i0 (by omega)) (by omega) h7 (fun M8 h8 o8 => bX4_readWordOf_162 hG zn (en M8 ?_ (ps_old_tr o7' o8 (Nat.le_refl L))))
      rw [e]; exact h8
  have gen : ∀ x4 : Int, ((x4 = 0 ∧ lx_c B (lx_j B k) < 38) ∨ (x4 = 1 ∧ 38 ≤ lx_c B (lx_j B k))) → Y G (d + 4) mX8_advance 0 [(2, 13)] [] M (fun r M' => Y G (d + 4 + 1) mX4_readWordOf 37 [(2, 12), (2, 189 + 12 * t), (0, op), (0, lx_c B (lx_j B k) - 36), (0, x4), (9, 0), (9, 0), (9, 0)] (zpush r []) M' Q) := fun x4 hx4 => by
    refine s_nx hG ht m3 km h (fun M1 h1 o1 => bX4_readWordOf_37 hG zn (s_en (d := d + 2) hG hE ht ho (show k + 1 ≤ m by omega) (by decide) h1 (fun c10 o8 km1 M2 h2 o2 => bX4_readWordOf_44 hG zn ⟨fun _ => ⟨by omega, ?_⟩, fun w => absurd w (by decide)⟩) (fun c10 o8 M2 fF e2 e3 => bX4_readWordOf_44 hG zn ⟨fun w => absurd rfl w, fun _ => hfl M2 3 (k + 1) fF e2 e3 (by decide) (mo2 c10 o8)⟩) (fun c10 M2 fF e2 e3 => bX4_readWordOf_44 hG zn ⟨fun w => absurd rfl w, fun _ => hfl M2 1 (k + 1) fF e2 e3 (by decide) (mo3 c10)⟩)))
    rw [h2.2.2.1.2.2.1]
    have h3 : ps_M B t f m M0 (zset M2 12 6 (zor wd (zshl 256 (lx_c B (lx_j B k) - 36)))) (k + 1 + 1) L st v lv (max dp (op + 1)) (zor wd (zshl 256 (lx_c B (lx_j B k) - 36))) gr ∧ ps_old t f L M2 (zset M2 12 6 (zor wd (zshl 256 (lx_c B (lx_j B k) - 36)))) := s_fd ht h2 (by decide) (ps_iv_w h2.2.2.1.2.2.2.2 (by
      have hcs : lx_c B (lx_j B k) = 36 ∨ lx_c B (lx_j B k) = 37 ∨ lx_c B (lx_j B k) = 38 ∨ lx_c B (lx_j B k) = 39 ∨ lx_c B (lx_j B k) = 40 ∨ lx_c B (lx_j B k) = 41 := by omega
      rcases hcs with e | e | e | e | e | e <;> rw [e] <;> decide +kernel))
    have mL := mo1 c10 o8
    have o3 := ps_old_tr (ps_old_tr o1 o2 (Nat.le_refl L)) h3.2 (Nat.le_refl L)
    refine hsum o8 M0 _ _ (k + 2) L st v lv (max dp (op + 1)) (zor wd (zshl 256 (lx_c B (lx_j B k) - 36))) gr (by omega) (by omega) hl h3.1 (fun M4 k4 L4 st4 v4 lv4 dp4 wd4 gr4 h4 k4m o4 r4 D4 R4 => bX4_readWordOf_71 hG zn ?_) (fun M4 c k4 fF e2 e3 hcc FL => bX4_readWordOf_71 hG zn ?_)
    · have K4 := ps_K_s c0 K2 D4
      have d1 := D4.2.1
      have d2 := D4.2.2.1
      have o4' := ps_old_tr o3 o4 (Nat.le_refl L)
      have bq := ps_Lv_s mL R4
      have x5e : f + L4 - 1 = f + (zsp st4 v4 L4).2 (zsp st v L).1 := by
        have := K4.2.1
        rw [Int.add_zero] at this
        omega
      rcases hx4 with ⟨e, ec⟩ | ⟨e, ec⟩
      · -- a word of one
        rw [if_pos ec] at bq
        obtain ⟨be1, be2⟩ := ps_Be_cl hG hE k4m ⟨ho.1, by omega⟩ ht ⟨f0, by omega⟩ (Or.inr ⟨Or.inl rfl, by omega⟩) bq
        refine ⟨fun _ => ⟨fun _ => ⟨fun w => by omega, fun _ => ?_⟩, fun w => absurd e w⟩, fun w => absurd e w⟩
        exact s_ex (d := d + 3) hG hE ht k4m (by decide) h4 (fun c11 km4 M5 h5 o5 => fin x4 (k4 + 1) L4 st4 v4 lv4 dp4 wd4 gr4 _ _ 1 3 M5 (by omega) h5 (ps_old_tr o4' o5 (by omega)) (ps_K_t K4.1) x5e (Or.inl ⟨rfl, rfl, ec⟩) (by decide) ((be1 c11).2 (by decide))) (fun c11 M5 fF e2 e3 => bX4_readWordOf_129 hG zn ⟨fun w => absurd rfl w, fun _ => hfl M5 1 k4 fF e2 e3 (by decide) (be2 c11)⟩)
      · -- a word of two
        rw [if_neg (by omega)] at bq
        obtain ⟨be1, be2⟩ := ps_Be_go hG hE k4m ho ht ⟨f0, by omega⟩ (Or.inl ⟨rfl, rfl⟩) bq
        refine ⟨fun w => by omega, fun _ => ⟨fun w => by omega, fun _ => ?_⟩⟩
        refine s_ex (d := d + 3) hG hE ht k4m (by decide) h4 (fun c12 km4 M5 h5 o5 => bX4_readWordOf_90 hG zn ⟨fun w => absurd w (by decide), fun _ => ⟨by omega, ?_⟩⟩) (fun c12 M5 fF e2 e3 => bX4_readWordOf_90 hG zn ⟨fun _ => ⟨fun w => by omega, fun _ => hfl M5 1 k4 fF e2 e3 (by decide) (be2 c12)⟩, fun w => absurd rfl w⟩)
        have K5 := ps_K_t K4.1
        have mL5 := be1 c12
        have o5' := ps_old_tr o4' o5 (by omega)
        refine hsum o8 M0 _ _ (k4 + 1) L4 st4 v4 lv4 dp4 wd4 gr4 (by omega) (by omega) ⟨by omega, by omega⟩ h5 (fun M6 k6 L6 st6 v6 lv6 dp6 wd6 gr6 h6 k6m o6 r6 D6 R6 => bX4_readWordOf_101 hG zn ?_) (fun M6 c k6 fF e2 e3 hcc FL => bX4_readWordOf_101 hG zn ⟨fun w => by omega, fun _ => ⟨fun _ => hfl M6 c k6 fF e2 e3 hcc (ps_Lv_f mL5 FL), fun w => absurd rfl w⟩⟩)
        have K6 := ps_K_s c0 K5 D6
        have d1' := D6.2.1
        have d2' := D6.2.2.1
        have K6t := ps_K_t K6.1
        obtain ⟨be3, be4⟩ := ps_Be_cl hG hE k6m ⟨ho.1, by omega⟩ ht ⟨f0, by omega⟩ (Or.inr ⟨Or.inr rfl, by omega⟩) (ps_Lv_s mL5 R6)
        refine ⟨fun w => by omega, fun _ => ⟨fun w => by omega, fun _ => ?_⟩⟩
        refine s_ex (d := d + 3) hG hE ht k6m (by decide) h6 (fun c11 km6 M7 h7 o7 => fin x4 (k6 + 1) L6 st6 v6 lv6 dp6 wd6 gr6 _ _ 2 4 M7 (by omega) h7 (ps_old_tr (ps_old_tr o5' o6 (by omega)) o7 (by omega)) K6t ?_ (Or.inr ⟨rfl, ?_, ec⟩) (by decide) ((be3 c11).2 (by decide))) (fun c11 M7 fF e2 e3 => bX4_readWordOf_129 hG zn ⟨fun w => absurd rfl w, fun _ => hfl M7 1 k6 fF e2 e3 (by decide) (be4 c11)⟩)
        · have g := K6.2.2 0 (by decide) (by decide)
          rw [Int.add_zero] at g
          rw [g]; exact x5e
        · have g := K6.2.1
          rw [show (0 : Int) + 1 = 1 from rfl] at g
          rw [g]; omega
    · have fl := hfl M4 c k4 fF e2 e3 hcc (ps_Lv_f mL FL)
      rcases hx4 with ⟨e, ec⟩ | ⟨e, ec⟩
      · exact ⟨fun _ => ⟨fun _ => ⟨fun _ => fl, fun w => absurd rfl w⟩, fun w => absurd e w⟩, fun w => absurd e w⟩
      · exact ⟨fun w => by omega, fun _ => ⟨fun _ => ⟨fun w => by omega, fun _ => fl⟩, fun w => absurd rfl w⟩⟩
  refine bX4_readWordOf_0 hG zn ?_
  rw [a7]
  exact ⟨by omega, fun w => gen 0 (Or.inl ⟨rfl, w⟩), fun w => gen 1 (Or.inr ⟨rfl, w⟩)⟩
end PSH

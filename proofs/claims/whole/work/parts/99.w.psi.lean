section PSI
variable {G : zG} {d : Nat} {B : Int → Int} {n t f op H : Int} {m : Nat}
variable {k0 L0 k L : Nat} {st0 v0 st v : Int → Int} {lv0 dp0 wd0 gr0 lv dp wd gr cnt a kd w : Int} {M0 M Ms : zM} {Q : zV → zM → Prop}
/-- one sum more behind what was opened, on both sides -/
theorem s_st (hE : ps_E B n m) (hsum : ps_SS G (d + 4) B n m t f (op + 1) H) (c0 : 0 ≤ (zsp st0 v0 L0).1) (hf : f + L0 ≤ k0) (hl : 0 ≤ lv0) (hk : k ≤ m) (h : ps_M B t f m M0 M k L st v lv dp wd gr) (K : ps_K k0 L0 st0 v0 lv0 wd0 k L st v lv wd cnt H a) (ha : 1 ≤ a) (old : ps_old t f L0 Ms M) (mL : ps_Lv G B n t f op k0 L0 st0 v0 lv0 dp0 wd0 gr0 k L st v lv dp wd gr kd w)
    (hok : ∀ (M' : zM) (k' L' : Nat) (st' v' : Int → Int) (lv' dp' wd' gr' : Int), ps_M B t f m M0 M' k' L' st' v' lv' dp' wd' gr' → k' ≤ m → ps_old t f L0 Ms M' → ps_K k0 L0 st0 v0 lv0 wd0 k' L' st' v' lv' wd' (cnt + 1) H a → (zsp st' v' L').2 ((zsp st0 v0 L0).1 + cnt) = (L' : Int) - 1 → (∀ j, 0 ≤ j → j < cnt → (zsp st' v' L').2 ((zsp st0 v0 L0).1 + j) = (zsp st v L).2 ((zsp st0 v0 L0).1 + j)) → ps_Be G B n t f op k0 L0 st0 v0 lv0 dp0 wd0 gr0 k' L' st' v' lv' dp' wd' gr' kd w → (f + L' - 1 ≠ -1 ∧ f + L' < 300 ∧ L0 ≤ L') → Q (0, f + L' - 1) M')
    (hfl : ∀ (M' : zM) (c : Int) (k' : Nat), zfr (ps_HF t) M0 M' → M' 12 2 = c → M' 12 3 = lx_j B k' → (1 ≤ c ∧ c ≤ 4) → ps_FL G B n t f op ps_p1 k0 L0 st0 v0 lv0 dp0 wd0 gr0 c k' → Q (0, -1) M') : Y G (d + 4) mX4_readSum 0 [(2, 12), (2, 189 + 12 * t), (0, op + 1), (9, 0), (9, 0), (9, 0), (9, 0), (9, 0), (9, 0)] [] M Q := by
  have m3 := hE.2.1
  have f0 := h.2.1.1.1
  have k1 := K.2.1
  have k2 := K.2.2.1
  refine hsum M0 M Q k L st v lv dp wd gr hk (by omega) ⟨by omega, by omega⟩ h (fun M' k' L' st' v' lv' dp' wd' gr' h' k'm o' r' D' R' => ?_) (fun M' c k' fF e2 e3 hcc FL => hfl M' c k' fF e2 e3 hcc (ps_Lv_f mL FL))
  have K' := ps_K_s c0 K D'
  have d1 := D'.2.1
  have d2 := D'.2.2.1
  exact hok M' k' L' st' v' lv' dp' wd' gr' h' k'm (ps_old_tr old o' k1.1) K'.1 K'.2.1 K'.2.2 (ps_Lv_s mL R') ⟨by omega, by omega, by omega⟩
/-- a choice of four -/
theorem s_ch4 (hG : zP G) (ht : 0 ≤ t ∧ t < 4) (c0 : 0 ≤ (zsp st0 v0 L0).1) (hL : f + L < 300) (h : ps_M B t f m M0 M k L st v lv dp wd gr) (K : ps_K k0 L0 st0 v0 lv0 wd0 k L st v lv wd 4 H a) (old : ps_old t f L0 Ms M) {cq x1 x2 x3 x4 : Int} (hq : 0 ≤ cq ∧ cq ≤ 5) (e1 : x1 = f + (zsp st v L).2 (zsp st0 v0 L0).1) (e2 : x2 = f + (zsp st v L).2 ((zsp st0 v0 L0).1 + 1)) (e3 : x3 = f + (zsp st v L).2 ((zsp st0 v0 L0).1 + 2)) (e4 : x4 = f + (zsp st v L).2 ((zsp st0 v0 L0).1 + 3)) (hh : ∀ M', ps_M B t f m M0 M' k (L + 1) (zup st L 10) (zup v L cq) lv dp wd gr → ps_old t f L0 Ms M' → M' (189 + 12 * t + 3) (f + L) = 1 → Q (0, f + L) M') : Y G (d + 4 + 1) mX4_readIf 158 [(2, 12), (2, 189 + 12 * t), (0, op), (0, x1), (0, cq), (0, x2), (0, x3), (0, x4), (9, 0)] [(0, 1)] M Q := by
  have zn := zND_t ht
  have qa := K.2.2.2.2.1
  have k1 := K.2.1.1
  have zp : zpn 10 cq = 4 := (ps_pwn (s := 10)).2.2
  have lo : ∀ i, 0 ≤ i → i ≤ 3 → (L0 : Int) ≤ (zsp st v L).2 ((zsp st0 v0 L0).1 + i) := fun i i0 i1 => qa.2.2 i i0 (by omega)
  have q1 := qa.1
  clear qa K
  refine bX4_readIf_158 hG zn ⟨fun _ => ?_, fun w => absurd w (by decide)⟩
  refine s_mk0 (c := (zsp st0 v0 L0).1) hG ht hL h (fun Mb hb ob => bX4_readIf_171 hG zn (s_ap1 (L0 := L0) hG ht rfl (by decide) ⟨c0, by omega⟩ (by rw [Int.add_zero]; exact e1) (fun i i0 i1 => lo i i0 (by omega)) k1 hb (fun Mc hc oc => bX4_readIf_181 hG zn ?_)))
  refine s_ap1 (L0 := L0) hG ht rfl (by decide) ⟨c0, by omega⟩ e2 (fun i i0 i1 => lo i i0 (by omega)) k1 hc (fun Md hd od => bX4_readIf_190 hG zn ?_)
  refine s_ap1 (L0 := L0) hG ht rfl (by decide) ⟨c0, by omega⟩ e3 (fun i i0 i1 => lo i i0 (by omega)) k1 hd (fun Me he oe => bX4_readIf_199 hG zn ?_)
  refine s_ap1 (L0 := L0) hG ht rfl (by decide) ⟨c0, by omega⟩ e4 (fun i i0 i1 => lo i i0 (by omega)) k1 he (fun Mf hf' of => bX4_readIf_208 hG zn ?_)
  have r := s_fi (Or.inr ⟨rfl, hq.1, hq.2⟩) zp (by decide) ⟨c0, by omega⟩ hf'
  exact hh Mf r.1 (ps_old_tr (ps_old_tr (ps_old_tr (ps_old_tr (ps_old_tr old ob k1) oc (Nat.le_refl L0)) od (Nat.le_refl L0)) oe (Nat.le_refl L0)) of (Nat.le_refl L0)) r.2
theorem s_cho (hG : zP G) (hE : ps_E B n m) (ht : 0 ≤ t ∧ t < 4) (ho : 0 ≤ op ∧ op ≤ 8) (hH : 0 ≤ H) (hsum : op < 8 → ps_SS G (d + 4) B n m t f (op + 1) H) : ps_Sp G B n m t f op (H + 1) ps_p1 (ps_O1 G B n t f op) (fun M Q => M 13 7 = 42 → Y G (d + 5) mX4_readIf 0 [(2, 12), (2, 189 + 12 * t), (0, op), (9, 0), (9, 0), (9, 0), (9, 0), (9, 0), (9, 0)] [] M Q) := by
  intro M0 M Q k L st v lv dp wd gr hk hf hl h hok hfl z
  have zn := zND_t ht
  have c42 : lx_c B (lx_j B k) = 42 := by rw [← h.1.2.2.2.1]; exact z
  have km := ps_lt hE hk (by omega)
  have f0 := h.2.1.1.1
  have L3b := h.2.2.2.2
  have c0 := (zsp_in L (ps_R_ok h.2.1)).1
  have hob : -2147483648 ≤ op + 1 ∧ op + 1 ≤ 2147483647 := by omega
  obtain ⟨mo1, mo2⟩ := m_of (st := st) (v := v) (lv := lv) (dp := dp) (wd := wd) (gr := gr) hG hE km ho ht ⟨f0, L3b⟩ c42
  have K2 : ps_K k L st v lv wd (k + 1) L st v lv (zor wd 16384) 0 H 1 := ps_K_w (ps_K_t (ps_K_0 hl.2))
  refine bX4_readIf_0 hG zn (s_en (d := d + 2) hG hE ht ho hk (by decide) h (fun _ o8 _ M1 h1 o1 => bX4_readIf_7 hG zn ⟨fun _ => ⟨hob, ?_⟩, fun w => absurd w (by decide)⟩) (fun _ o8 M1 fF e2 e3 => bX4_readIf_7 hG zn ⟨fun w => absurd rfl w, fun _ => hfl M1 3 k fF e2 e3 (by decide) (mo2 o8)⟩) (fun w => absurd c42 w))
  rw [h1.2.2.1.2.2.1]
  have h2 : ps_M B t f m M0 (zset M1 12 6 (zor wd 16384)) (k + 1) L st v lv (max dp (op + 1)) (zor wd 16384) gr ∧ ps_old t f L M1 (zset M1 12 6 (zor wd 16384)) := s_fd ht h1 (by decide) (ps_iv_w h1.2.2.1.2.2.2.2 (by decide))
  have hS := hsum o8
  have ho7 : 0 ≤ op ∧ op ≤ 7 := ⟨ho.1, by omega⟩
  -- the first sum, and the comparison
  refine s_st hE hS c0 hf hl.1 (show k + 1 ≤ m by omega) h2.1 K2 (by decide) (ps_old_tr o1 h2.2 (Nat.le_refl L)) (mo1 o8) (fun M3 k3 L3 st3 v3 lv3 dp3 wd3 gr3 h3 k3m o3 K3 e1 _ B3 n3 => bX4_readIf_32 hG zn (s_cmpo hG (bX4_readIf_43 hG zn ?_))) (fun M3 c k3 fF e2 e3 hcc FL => bX4_readIf_32 hG zn (s_cmpo hG (bX4_readIf_43 hG zn ⟨fun _ => ⟨fun w => absurd rfl w, fun _ => hfl M3 c k3 fF e2 e3 hcc FL⟩, fun w => absurd rfl w⟩)))
  rw [h3.1.2.2.2.1]
  obtain ⟨b5a, b5b⟩ := ps_Be_5 hG hE k3m ho ht ⟨f0, Int.le_of_lt n3.2.1⟩ B3
  refine ⟨fun w => absurd w n3.1, fun _ => ⟨fun cm => ?_, fun cm => ⟨fun _ => s_fa hG h3 (fun M4 fF e2 e3 => bX4_readIf_70 hG zn (hfl M4 1 k3 fF e2 e3 (by decide) (b5b cm))), fun w => absurd w n3.1⟩⟩⟩
  have cb := ps_cm_b cm
  have km3 := ps_lt hE k3m cb.2.2
  have mL2 := b5a cm
  clear b5a b5b mo1 mo2 B3
  generalize ps_cm (lx_c B (lx_j B k3)) = cq at cm cb mL2 ⊢
  rw [Int.add_zero] at e1
  -- the second sum
  refine s_nx hG ht hE.2.1 km3 h3 (fun M4 h4 o4 => bX4_readIf_78 hG zn ⟨hob, ?_⟩)
  refine s_st hE hS c0 hf hl.1 km3 h4 (ps_K_t K3) (by decide) (ps_old_tr o3 o4 n3.2.2) mL2 (fun M5 k5 L5 st5 v5 lv5 dp5 wd5 gr5 h5 k5m o5 K5 e2 p5 B5 n5 => bX4_readIf_86 hG zn ⟨fun w => absurd w n5.1, fun _ => ?_⟩) (fun M5 c k5 fF e2 e3 hcc FL => bX4_readIf_86 hG zn ⟨fun _ => hfl M5 c k5 fF e2 e3 hcc FL, fun w => absurd rfl w⟩)
  have q1 := p5 0 (by decide) (by decide)
  rw [Int.add_zero, e1] at q1
  obtain ⟨b6a, b6b⟩ := ps_Be_go hG hE k5m ho ht ⟨f0, Int.le_of_lt n5.2.1⟩ (Or.inr (Or.inl ⟨rfl, rfl⟩)) B5
  refine s_ex (d := d + 3) hG hE ht k5m (by decide) h5 (fun c14 km5 M6 h6 o6 => bX4_readIf_100 hG zn ⟨fun w => absurd w (by decide), fun _ => ⟨hob, ?_⟩⟩) (fun c14 M6 fF e2 e3 => bX4_readIf_100 hG zn ⟨fun _ => hfl M6 1 k5 fF e2 e3 (by decide) (b6b c14), fun w => absurd rfl w⟩)
  -- the third sum
  refine s_st hE hS c0 hf hl.1 km5 h6 (ps_K_t K5) (by decide) (ps_old_tr o5 o6 n5.2.2) (b6a c14) (fun M7 k7 L7 st7 v7 lv7 dp7 wd7 gr7 h7 k7m o7 K7 e3 p7 B7 n7 => bX4_readIf_111 hG zn ⟨fun w => absurd w n7.1, fun _ => ?_⟩) (fun M7 c k7 fF e2 e3 hcc FL => bX4_readIf_111 hG zn ⟨fun _ => hfl M7 c k7 fF e2 e3 hcc FL, fun w => absurd rfl w⟩)
  have q2 := p7 0 (by decide) (by decide)
  have q3 := p7 1 (by decide) (by decide)
  rw [Int.add_zero, q1] at q2
  obtain ⟨b7a, b7b⟩ := ps_Be_go hG hE k7m ho ht ⟨f0, Int.le_of_lt n7.2.1⟩ (Or.inr (Or.inr ⟨rfl, rfl⟩)) B7
  refine s_ex (d := d + 3) hG hE ht k7m (by decide) h7 (fun c15 km7 M8 h8 o8' => bX4_readIf_129 hG zn ⟨fun w => absurd w (by decide), fun _ => ⟨hob, ?_⟩⟩) (fun c15 M8 fF e2 e3 => bX4_readIf_129 hG zn ⟨fun _ => hfl M8 1 k7 fF e2 e3 (by decide) (b7b c15), fun w => absurd rfl w⟩)
  -- the fourth sum
  refine s_st hE hS c0 hf hl.1 km7 h8 (ps_K_t K7) (by decide) (ps_old_tr o7 o8' n7.2.2) (b7a c15) (fun M9 k9 L9 st9 v9 lv9 dp9 wd9 gr9 h9 k9m o9 K9 e4 p9 B9 n9 => bX4_readIf_140 hG zn ⟨fun w => absurd w n9.1, fun _ => ?_⟩) (fun M9 c k9 fF e2 e3 hcc FL => bX4_readIf_140 hG zn ⟨fun _ => hfl M9 c k9 fF e2 e3 hcc FL, fun w => absurd rfl w⟩)
  have q4 := p9 0 (by decide) (by decide)
  have q5 := p9 1 (by decide) (by decide)
  have q6 := p9 2 (by decide) (by decide)
  rw [Int.add_zero, q2] at q4
  rw [q3] at q5
  obtain ⟨b8a, b8b⟩ := ps_Be_8 hG hE k9m ho7 ht ⟨f0, n9.2.1⟩ B9
  refine s_ex (d := d + 3) hG hE ht k9m (by decide) h9 (fun c43 km9 Ma ha oa => ?_) (fun c43 Ma fF e2 e3 => bX4_readIf_158 hG zn ⟨fun w => absurd rfl w, fun _ => hfl Ma 1 k9 fF e2 e3 (by decide) (b8b c43)⟩)
  have eu : f + ((L9 + 1 : Nat) : Int) - 1 = f + L9 := by rw [Int.natCast_add]; exact Int.add_sub_cancel (f + (L9 : Int)) 1 |> fun g => by rw [← Int.add_assoc]; exact g
  have zp : zpn 10 cq = 4 := (ps_pwn (s := 10)).2.2
  have ad : ∀ x : Int, f + x - 1 = f + (x - 1) := fun x => Int.add_sub_assoc f x 1
  refine s_ch4 hG ht c0 n9.2.1 ha (ps_K_t K9) (ps_old_tr o9 oa n9.2.2) ⟨cb.1, cb.2.1⟩ (by rw [q4, ad]) (by rw [q5]; exact (ad _).trans (by rw [← e2]; rfl)) (by rw [q6]; exact (ad _).trans (by rw [← e3]; rfl)) (by exact (ad _).trans (by rw [← e4]; rfl)) (fun Mf hF of r => ?_)
  have w := hok Mf (k9 + 1) (L9 + 1) _ _ _ _ _ _ hF km9 of (by rw [eu]; exact r) (ps_K_n hH c0 (ps_R_ok ha.2.1) (ps_K_t K9) (by decide) zp (by decide) (by decide)) (b8a c43)
  rw [eu] at w
  exact w
theorem s_one (hG : zP G) (hE : ps_E B n m) (ht : 0 ≤ t ∧ t < 4) (ho : 0 ≤ op ∧ op ≤ 8) (hH : 0 ≤ H) (hsum : op < 8 → ps_SS G (d + 4) B n m t f (op + 1) H) : ps_Sp G B n m t f op (H + 1) ps_p1 (ps_O1 G B n t f op) (fun M Q => Y G (d + 5 + 1) mX4_readOne 0 [(2, 12), (2, 189 + 12 * t), (0, op), (9, 0)] [] M Q) := by
  intro M0 M Q k L st v lv dp wd gr hk hf hl h hok hfl
  have zn := zND_t ht
  have a7 := h.1.2.2.2.1
  have lf : (lx_c B (lx_j B k) = 2 ∨ (44 ≤ lx_c B (lx_j B k) ∧ lx_c B (lx_j B k) ≤ 47)) → Y G (d + 5) mX4_readLeaf 0 [(2, 12), (2, 189 + 12 * t), (9, 0), (9, 0)] [] M (fun r M' => Y G (d + 5 + 1) mX4_readOne 29 [(2, 12), (2, 189 + 12 * t), (0, op), (0, lx_c B (lx_j B k))] (zpush r []) M' Q) := fun z => s_lf1 (d := d + 3) (H := H + 1) hG hE ht ho hk hf hl h z (by omega) (fun M' k' L' st' v' lv' dp' wd' gr' b1 b2 b3 b4 b5 b6 => bX4_readOne_29 hG zn (hok M' k' L' st' v' lv' dp' wd' gr' b1 b2 b3 b4 b5 b6)) (fun M' c k' b1 b2 b3 b4 b5 => bX4_readOne_29 hG zn (hfl M' c k' b1 b2 b3 b4 b5))
  refine bX4_readOne_0 hG zn ?_
  rw [a7]
  refine ⟨fun z => lf (Or.inl z), fun z2 => ⟨fun z => lf (Or.inr z), fun z44 => ⟨fun z10 => ⟨fun z => ?_, fun z36 => ⟨fun z42 => ?_, fun z => ?_⟩⟩, fun z => ?_⟩⟩⟩
  · exact s_wof (d := d) hG hE ht ho hH hsum M0 M _ k L st v lv dp wd gr hk hf hl h (fun M' k' L' st' v' lv' dp' wd' gr' b1 b2 b3 b4 b5 b6 => bX4_readOne_60 hG zn (hok M' k' L' st' v' lv' dp' wd' gr' b1 b2 b3 b4 b5 b6)) (fun M' c k' b1 b2 b3 b4 b5 => bX4_readOne_60 hG zn (hfl M' c k' b1 b2 b3 b4 b5)) (by rw [a7]; exact z)
  · exact s_fa hG h (fun M' fF e2 e3 => bX4_readOne_81 hG zn (hfl M' 1 k fF e2 e3 (by decide) (m_on hG ⟨z2, z44, z10, z42, z36⟩)))
  · exact s_cho (d := d) hG hE ht ho hH hsum M0 M _ k L st v lv dp wd gr hk hf hl h (fun M' k' L' st' v' lv' dp' wd' gr' b1 b2 b3 b4 b5 b6 => bX4_readOne_73 hG zn (hok M' k' L' st' v' lv' dp' wd' gr' b1 b2 b3 b4 b5 b6)) (fun M' c k' b1 b2 b3 b4 b5 => bX4_readOne_73 hG zn (hfl M' c k' b1 b2 b3 b4 b5)) (by rw [a7]; exact z)
  · exact s_brk (d := d) hG hE ht ho hsum M0 M _ k L st v lv dp wd gr hk hf hl h (fun M' k' L' st' v' lv' dp' wd' gr' b1 b2 b3 b4 b5 b6 => bX4_readOne_42 hG zn (hok M' k' L' st' v' lv' dp' wd' gr' b1 b2 b3 b4 b5 b6)) (fun M' c k' b1 b2 b3 b4 b5 => bX4_readOne_42 hG zn (hfl M' c k' b1 b2 b3 b4 b5)) (by rw [a7]; exact z)
/-- a sum, however deep -/
theorem s_sumA {d : Nat} {f : Int} (hG : zP G) (hE : ps_E B n m) (ht : 0 ≤ t ∧ t < 4) : ∀ (q : Nat) (op : Int), op + q = 8 → 0 ≤ op → ps_SS G (d + 8 + 4 * q) B n m t f op (3 + 3 * q)
  | 0, op, h1, h0 => by
    have a := s_one (d := d) (f := f) (H := 0) hG hE ht ⟨h0, by omega⟩ (Int.le_refl 0) (fun z => by omega)
    have b := s_prod (d := d + 5) hG hE ht ⟨h0, by omega⟩ (by decide) a
    have c := s_sum (d := d + 5) hG hE ht ⟨h0, by omega⟩ (by decide) b
    exact c
  | q + 1, op, h1, h0 => by
    have ih := s_sumA (d := d) (f := f) hG hE ht q (op + 1) (by omega) (by omega)
    have a := s_one (d := d + 4 + 4 * q) (f := f) (H := 3 + 3 * (q : Int)) hG hE ht ⟨h0, by omega⟩ (by omega) (fun z => by rw [show d + 4 + 4 * q + 4 = d + 8 + 4 * q by omega]; exact ih)
    have b := s_prod (d := d + 4 + 4 * q + 5) hG hE ht ⟨h0, by omega⟩ (by omega) a
    have c := s_sum (d := d + 4 + 4 * q + 5) hG hE ht ⟨h0, by omega⟩ (by omega) b
    rw [show d + 8 + 4 * (q + 1) = d + 4 + 4 * q + 5 + 3 by omega, show (3 : Int) + 3 * ((q + 1 : Nat) : Int) = 3 + 3 * (q : Int) + 1 + 1 + 1 by omega]
    exact c
end PSI

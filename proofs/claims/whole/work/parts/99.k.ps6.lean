section PS6
variable {G : zG} {d : Nat} {M M0 : zM} {Q : zV → zM → Prop} {B : Int → Int} {n t f op : Int} {m k L : Nat} {st v : Int → Int} {lv dp wd gr : Int}
theorem zor_as {a b c : Int} : zor (zor a b) c = zor a (zor b c) := by
  unfold zor
  rw [z_as, z_as, Int32.or_assoc]
theorem zor_cm {a b : Int} : zor a b = zor b a := by
  unfold zor
  rw [Int32.or_comm]
theorem zor_sf {a b : Int} : zor (zor a b) b = zor a b := by
  unfold zor
  rw [z_as, Int32.or_assoc, Int32.or_self]
/-- a word once used stays used -/
theorem zor_gr {a b x : Int} (h : zor a b = a) : zor (zor a x) b = zor a x := by
  rw [zor_as, zor_cm (a := x), ← zor_as, h]
/-- how far one part of a question has been read: tokens, nodes, leaves, what waits, how high -/
def ps_D (k L : Nat) (st v : Int → Int) (lv wd : Int) (k' L' : Nat) (st' v' : Int → Int) (lv' wd' H : Int) : Prop :=
  (∀ b, zor wd b = wd → zor wd' b = wd') ∧
  (k < k' ∧ L < L' ∧ lv < lv' ∧ lv' ≤ 16) ∧ ((L' : Int) - L ≤ k' - k ∧ 3 * ((L' : Int) - L) ≤ k' - k + 4 * (lv' - lv) - 2) ∧ (∀ i : Nat, i < L → st' i = st i ∧ v' i = v i) ∧
  ((zsp st' v' L').1 = (zsp st v L).1 + 1 ∧ (∀ a, 0 ≤ a → a < (zsp st v L).1 → (zsp st' v' L').2 a = (zsp st v L).2 a) ∧ (zsp st' v' L').2 (zsp st v L).1 = (L' : Int) - 1) ∧
  zlc st' L' = zlc st L + (lv' - lv) ∧ ∀ i : Int, L ≤ i → i < L' → zhv st' v' L' i ≤ H
/-- the model reads one of them -/
def ps_O1 (G : zG) (B : Int → Int) (n t f op : Int) (k L : Nat) (st v : Int → Int) (lv dp wd gr : Int) (k' L' : Nat) (st' v' : Int → Int) (lv' dp' wd' gr' : Int) : Prop := ∀ (D : Nat) (X0 X : zM) (Q : zV → zM → Prop) (fk fw tm sg fc : Int), (0 ≤ fc ∧ fc ≤ 100) → ps_P B n t f X0 X k L st v lv dp wd gr op 0 fk fw tm sg fc → (∀ X', ps_P B n t f X0 X' k' L' st' v' lv' dp' wd' gr' op 1 fk fw tm sg (fc + 1) → Y G (D + 30) mX12_summed 36 [(2, 234), (9, 0)] [] X' Q) → Y G (D + 30) mX12_summed 36 [(2, 234), (9, 0)] [] X Q
abbrev ps_p1 : Int → Int → Int → Prop := fun tm _ fc => (0 ≤ fc ∧ fc ≤ 100) ∧ 0 ≤ tm ∧ tm ≤ 100
abbrev ps_pp : Int → Int → Int → Prop := fun tm _ fc => fc = 0 ∧ 0 ≤ tm ∧ tm ≤ 100
abbrev ps_p0 : Int → Int → Int → Prop := fun tm sg fc => tm = 0 ∧ sg = 0 ∧ fc = 0
/-- the model comes to a fault -/
def ps_FL (G : zG) (B : Int → Int) (n t f op : Int) (P0 : Int → Int → Int → Prop) (k L : Nat) (st v : Int → Int) (lv dp wd gr : Int) (c : Int) (k' : Nat) : Prop := ∀ (D : Nat) (X0 X : zM) (Q : zV → zM → Prop) (fk fw tm sg fc : Int), P0 tm sg fc → ps_P B n t f X0 X k L st v lv dp wd gr op 0 fk fw tm sg fc → (∀ X', zfr (ps_G t f) X0 X' → lx_M B n X' → X' 234 9 = lx_j B k' → Q (0, c) X') → Y G (D + 30) mX12_summed 36 [(2, 234), (9, 0)] [] X Q
theorem ps_lt (hE : ps_E B n m) (hk : k ≤ m) (h : lx_c B (lx_j B k) ≠ 0) : k < m := by
  by_cases c : k = m
  · exfalso
    apply h
    have b := hE.2.2.2
    rw [c]
    unfold lx_c
    rw [if_pos (by omega)]
  · omega
/-- a leaf, on both sides -/
theorem s_lf1 (hG : zP G) (hE : ps_E B n m) (ht : 0 ≤ t ∧ t < 4) (ho : 0 ≤ op ∧ op ≤ 8) (hk : k ≤ m) (hf : f + L ≤ k) (hl : 0 ≤ lv ∧ lv ≤ 16) (h : ps_M B t f m M0 M k L st v lv dp wd gr) (hc : lx_c B (lx_j B k) = 2 ∨ (44 ≤ lx_c B (lx_j B k) ∧ lx_c B (lx_j B k) ≤ 47)) {H : Int} (hH : 1 ≤ H)
    (hok : ∀ (M' : zM) (k' L' : Nat) (st' v' : Int → Int) (lv' dp' wd' gr' : Int), ps_M B t f m M0 M' k' L' st' v' lv' dp' wd' gr' → k' ≤ m → ps_old t f L M M' → M' (189 + 12 * t + 3) (f + L' - 1) = 1 → ps_D k L st v lv wd k' L' st' v' lv' wd' H → ps_O1 G B n t f op k L st v lv dp wd gr k' L' st' v' lv' dp' wd' gr' → Q (0, f + L' - 1) M')
    (hfl : ∀ (M' : zM) (c : Int) (k' : Nat), zfr (ps_HF t) M0 M' → M' 12 2 = c → M' 12 3 = lx_j B k' → (1 ≤ c ∧ c ≤ 4) → ps_FL G B n t f op ps_p1 k L st v lv dp wd gr c k' → Q (0, -1) M') : Y G (d + 2) mX4_readLeaf 0 [(2, 12), (2, 189 + 12 * t), (9, 0), (9, 0)] [] M Q := by
  have zn := zND_t ht
  have m3 := hE.2.1
  have km := ps_lt hE hk (by omega)
  have f0 := h.2.1.1.1
  obtain ⟨_, a5, a6, a7, a8, a9⟩ := h.1
  have c4 := h.2.2.1.1
  have c6 := h.2.2.1.2.2.1
  have c7 := h.2.2.1.2.2.2.1
  have iv := h.2.2.1.2.2.2.2
  -- what both sides come to
  have fin : ∀ (s w : Int), ((s = 0 ∧ 0 ≤ w ∧ w ≤ 99) ∨ (s = 1 ∧ 0 ≤ w ∧ w ≤ 3)) → lv < 16 → (∀ (D : Nat) (X0 X : zM) (Q : zV → zM → Prop) (fk fw tm sg fc : Int), (0 ≤ fc ∧ fc ≤ 100) → ps_P B n t f X0 X k L st v lv dp wd gr op 0 fk fw tm sg fc → (∀ X', ps_P B n t f X0 X' (k + 1) (L + 1) (zup st L s) (zup v L w) (lv + 1) dp (if s = 1 then zor wd (zshl 1 w) else wd) (if s = 1 then gr else max gr w) op 1 fk fw tm sg (fc + 1) → Y G (D + 30) mX12_summed 36 [(2, 234), (9, 0)] [] X' Q) → Y G (D + 30) mX12_summed 36 [(2, 234), (9, 0)] [] X Q) → ∀ (M1 : zM), ps_M B t f m M0 M1 (k + 1) L st v (lv + 1) dp (if s = 1 then zor wd (zshl 1 w) else wd) (if s = 1 then gr else max gr w) → ps_old t f L M M1 → ∀ (Q' : zV → zM → Prop), (∀ M2, Q (0, f + L) M2 → Q' (0, f + L) M2) → Y G (d + 1) mX1_make 0 [(2, 189 + 12 * t), (0, s), (0, w)] [] M1 Q' := fun s w hs l16 mo M1 h1 o1 Q' hQ => by
    refine s_mkl hG ht hs (by omega) h1 (fun M2 h2 o2 r2 => hQ M2 ?_)
    have z0 : zpn s w = 0 := by unfold zpn; rw [if_pos (by omega)]
    have q := hok M2 (k + 1) (L + 1) _ _ _ _ _ _ h2 (by omega) (ps_old_tr o1 o2 (Nat.le_refl L)) (by rw [show f + ((L + 1 : Nat) : Int) - 1 = f + L by omega]; exact r2) ⟨fun b hb => by split; exact zor_gr hb; exact hb, ⟨by omega, by omega, by omega, by omega⟩, ⟨by omega, by omega⟩, fun i hi => ⟨zup_ne (by omega), zup_ne (by omega)⟩, ⟨?_, fun a a0 a1 => ?_, ?_⟩, ?_, fun i i0 i1 => ?_⟩ mo
    · rw [show f + ((L + 1 : Nat) : Int) - 1 = f + L by omega] at q
      exact q
    · rw [ps_up1, z0]; omega
    · rw [ps_up1, z0]
      show zup _ _ _ a = _
      exact zup_ne (by omega)
    · rw [ps_up1, z0]
      show zup (zsp st v L).2 ((zsp st v L).1 - 0) L (zsp st v L).1 = _
      rw [Int.sub_zero, zup_at]; omega
    · show zlc (zup st L s) L + (if zup st L s L < 2 then 1 else 0) = _
      rw [zlc_e (st := st) L (fun i hi => zup_ne (by omega)), zup_at, if_pos (by omega)]
      omega
    · have e : i = (L : Int) := by omega
      rw [e]
      show zup (zhv (zup st L s) (zup v L w) L) L (1 + zmx _ (zpn (zup st L s L) (zup v L w L)).toNat) L ≤ H
      rw [zup_at, zup_at, zup_at, z0]
      exact hH
  -- the model's fault
  have fault : ∀ c : Int, (1 ≤ c ∧ c ≤ 4) → (∀ (D : Nat) (X0 X : zM) (Q : zV → zM → Prop) (fk fw tm sg fc : Int), (0 ≤ fc ∧ fc ≤ 100) → ps_P B n t f X0 X k L st v lv dp wd gr op 0 fk fw tm sg fc → (∀ X', zfr (ps_G t f) X0 X' → lx_M B n X' → X' 234 9 = lx_j B k → Q (0, c) X') → Y G (D + 30) mX12_summed 36 [(2, 234), (9, 0)] [] X Q) → ∀ Q' : zV → zM → Prop, (∀ M2, Q (0, -1) M2 → Q' (0, -1) M2) → Y G (d + 1) mX4_fail 0 [(2, 12), (0, c)] [] M Q' := fun c hc mo Q' hQ => s_fa hG h (fun M' fF e2 e3 => hQ M' (hfl M' c k fF e2 e3 hc (fun D X0 X Q fk fw tm sg fc pp hP hh => mo D X0 X Q fk fw tm sg fc pp.1 hP hh)))
  have bk : ∀ {X0 X : zM} {wh fk fw tm sg fc : Int}, ps_P B n t f X0 X k L st v lv dp wd gr op wh fk fw tm sg fc → zfr (ps_G t f) X0 X ∧ lx_M B n X ∧ X 234 9 = lx_j B k ∧ ps_T B X k := fun hP => ⟨hP.2.2.2, hP.1.1.1, hP.1.1.2.2.1, hP.1.1.2⟩
  have o10 : 0 ≤ op ∧ op < 10 := by omega
  -- the model at a leaf
  have ml : ∀ (s w c : Int), ((s = 0 ∧ 0 ≤ w ∧ w ≤ 99) ∨ (s = 1 ∧ 0 ≤ w ∧ w ≤ 3)) → ∀ (D : Nat) (X0 X : zM) (Q1 : zV → zM → Prop) (fk fw tm sg fc : Int), (0 ≤ fc ∧ fc ≤ 100) → ps_P B n t f X0 X k L st v lv dp wd gr op 0 fk fw tm sg fc → (lv < 16 → ∀ X', ps_P B n t f X0 X' (k + 1) (L + 1) (zup st L s) (zup v L w) (lv + 1) dp (if s = 1 then zor wd (zshl 1 w) else wd) (if s = 1 then gr else max gr w) op 1 fk fw tm sg (fc + 1) → Q1 (0, 0) X') → (lv = 16 → ∀ X', zfr (ps_G t f) X0 X' → lx_M B n X' → X' 234 9 = lx_j B k → Q1 (0, 4) X') → Y G (D + 28) mX12_leaf 0 [(2, 234), (0, s), (0, w)] [] (zset X 234 27 1) Q1 := fun s w c hs D X0 X Q1 fk fw tm sg fc fcb hP h1 h4 => by
    have hP1 : ps_P B n t f X0 (zset X 234 27 1) k L st v lv dp wd gr op 1 fk fw tm sg fc := ps_fld hP (by decide)
    by_cases l16 : lv < 16
    · exact m_lf (d := D + 26) hG hE km o10 ht ⟨f0, by omega⟩ (by omega) ⟨hl.1, l16⟩ ⟨fcb.1, by omega⟩ hP1 (h1 l16)
    · have b := bk hP1
      refine bX12_leaf_0 hG ?_
      rw [(ps_a hP1).2.2.2.1]
      exact ⟨fun z => absurd (by omega) z, fun z => h4 z _ b.1 b.2.1 b.2.2.1⟩
  have m54 : ∀ (D : Nat) (X' : zM) (Q1 : zV → zM → Prop), Y G (D + 30) mX12_summed 36 [(2, 234), (9, 0)] [] X' Q1 → Y G (D + 29 + 1) mX12_summed 54 [(2, 234), (9, 0)] [(0, 0)] X' Q1 := fun D X' Q1 hh => bX12_summed_54 hG ⟨fun _ => ⟨fun _ => hh, fun z => absurd rfl z⟩, fun z => absurd z (by decide)⟩
  have m54c : ∀ (D : Nat) (c : Int) (X' : zM) (Q1 : zV → zM → Prop), (1 ≤ c ∧ c ≤ 4) → Q1 (0, c) X' → Y G (D + 29 + 1) mX12_summed 54 [(2, 234), (9, 0)] [(0, c)] X' Q1 := fun D c X' Q1 hc hh => bX12_summed_54 hG ⟨fun _ => ⟨fun z => by omega, fun _ => hh⟩, fun z => by omega⟩
  -- the model at a number, and at a thing
  have mnum : lx_c B (lx_j B k) = 2 → ∀ (D : Nat) (X0 X : zM) (Q1 : zV → zM → Prop) (fk fw tm sg fc : Int), (0 ≤ fc ∧ fc ≤ 100) → ps_P B n t f X0 X k L st v lv dp wd gr op 0 fk fw tm sg fc → (lx_v B (lx_j B k) ≤ 99 → lv < 16 → ∀ X', ps_P B n t f X0 X' (k + 1) (L + 1) (zup st L 0) (zup v L (lx_v B (lx_j B k))) (lv + 1) dp wd (max gr (lx_v B (lx_j B k))) op 1 fk fw tm sg (fc + 1) → Y G (D + 30) mX12_summed 36 [(2, 234), (9, 0)] [] X' Q1) → (lx_v B (lx_j B k) ≤ 99 → lv = 16 → ∀ X', zfr (ps_G t f) X0 X' → lx_M B n X' → X' 234 9 = lx_j B k → Q1 (0, 4) X') → (99 < lx_v B (lx_j B k) → ∀ X', zfr (ps_G t f) X0 X' → lx_M B n X' → X' 234 9 = lx_j B k → Q1 (0, 2) X') → Y G (D + 30) mX12_summed 36 [(2, 234), (9, 0)] [] X Q1 := fun c2 D X0 X Q1 fk fw tm sg fc fcb hP h1 h4 h2 => by
    have b := bk hP
    have t1 : X 234 10 = 1 := (ps_1 b.2.2.2).mpr c2
    obtain ⟨n0, nv⟩ := ps_v b.2.2.2 t1
    refine bX12_summed_36 hG ⟨fun _ => bX12_beginOne_0 hG ⟨fun z => absurd t1 z, fun _ => ⟨fun z => ?_, fun z => m54c D 2 X Q1 (by decide) (h2 (by omega) X b.1 b.2.1 b.2.2.1)⟩⟩, fun z => absurd (ps_a hP).2.2.2.2.2 z⟩
    have ev : lx_v B (lx_j B k) = X 234 11 := by omega
    rw [ev] at h1 h4
    refine ml 0 (X 234 11) 0 (Or.inl ⟨rfl, n0, z⟩) D X0 X _ fk fw tm sg fc fcb hP (fun l16 X' hX => bX12_beginOne_33 hG (m54 D X' Q1 (h1 z l16 X' hX))) (fun l16 X' f1 f2 f3 => bX12_beginOne_33 hG (m54c D 4 X' Q1 (by decide) (h4 z l16 X' f1 f2 f3)))
  have mthi : (44 ≤ lx_c B (lx_j B k) ∧ lx_c B (lx_j B k) ≤ 47) → ∀ (D : Nat) (X0 X : zM) (Q1 : zV → zM → Prop) (fk fw tm sg fc : Int), (0 ≤ fc ∧ fc ≤ 100) → ps_P B n t f X0 X k L st v lv dp wd gr op 0 fk fw tm sg fc → (lv < 16 → ∀ X', ps_P B n t f X0 X' (k + 1) (L + 1) (zup st L 1) (zup v L (lx_c B (lx_j B k) - 44)) (lv + 1) dp (zor wd (zshl 1 (lx_c B (lx_j B k) - 44))) gr op 1 fk fw tm sg (fc + 1) → Y G (D + 30) mX12_summed 36 [(2, 234), (9, 0)] [] X' Q1) → (lv = 16 → ∀ X', zfr (ps_G t f) X0 X' → lx_M B n X' → X' 234 9 = lx_j B k → Q1 (0, 4) X') → Y G (D + 30) mX12_summed 36 [(2, 234), (9, 0)] [] X Q1 := fun c4 D X0 X Q1 fk fw tm sg fc fcb hP h1 h4 => by
    have b := bk hP
    have hP1 : ps_P B n t f X0 (zset X 234 27 1) k L st v lv dp wd gr op 1 fk fw tm sg fc := ps_fld hP (by decide)
    have b1 := bk hP1
    refine bX12_summed_36 hG ⟨fun _ => bX12_beginOne_0 hG ⟨fun z => ?_, fun z => absurd ((ps_1 b.2.2.2).mp z) (by omega)⟩, fun z => absurd (ps_a hP).2.2.2.2.2 z⟩
    refine m_thing hG b.2.2.2 (fun _ => bX12_beginOne_38 hG ⟨fun z2 => absurd z2 (by omega), fun _ => m_thing hG b1.2.2.2 (fun _ => bX12_beginOne_52 hG ?_) (fun z2 => absurd c4 z2)⟩) (fun z2 => absurd c4 z2)
    exact ml 1 (lx_c B (lx_j B k) - 44) 0 (Or.inr ⟨rfl, by omega, by omega⟩) D X0 X _ fk fw tm sg fc fcb hP (fun l16 X' hX => bX12_beginOne_55 hG (m54 D X' Q1 (h1 l16 X' hX))) (fun l16 X' f1 f2 f3 => bX12_beginOne_55 hG (m54c D 4 X' Q1 (by decide) (h4 l16 X' f1 f2 f3)))
  refine bX4_readLeaf_0 hG zn ?_
  rw [a7, a9]
  refine ⟨fun z => ?_, fun z => ⟨fun z2 => ?_, fun z2 => ?_⟩⟩
  · -- a thing
    have ct : 44 ≤ lx_c B (lx_j B k) ∧ lx_c B (lx_j B k) ≤ 47 := by omega
    refine bX4_readLeaf_39 hG zn ?_
    rw [c4, c6, c7, a7, a9]
    refine ⟨fun l16 => ⟨by omega, fun _ => ⟨by omega, fun _ => ?_, fun w => absurd rfl w⟩, fun w => absurd rfl w⟩, fun l16 => fault 4 (by decide) (fun D X0 X Q1 fk fw tm sg fc fcb hP hh => mthi ct D X0 X Q1 fk fw tm sg fc fcb hP (fun w => by omega) (fun _ => hh)) _ (fun M2 q => bX4_readLeaf_53 hG zn q)⟩
    have h1 : ps_M B t f m M0 (zset M 12 4 (lv + 1)) k L st v (lv + 1) dp wd gr ∧ ps_old t f L M (zset M 12 4 (lv + 1)) := s_fd ht h (by decide) iv
    have h2 : ps_M B t f m M0 (zset (zset M 12 4 (lv + 1)) 12 6 (zor wd (zshl 1 (lx_c B (lx_j B k) - 44)))) k L st v (lv + 1) dp (zor wd (zshl 1 (lx_c B (lx_j B k) - 44))) gr ∧ ps_old t f L (zset M 12 4 (lv + 1)) (zset (zset M 12 4 (lv + 1)) 12 6 (zor wd (zshl 1 (lx_c B (lx_j B k) - 44)))) := s_fd ht h1.1 (by decide) (ps_iv_w iv (by
      have hcs : lx_c B (lx_j B k) = 44 ∨ lx_c B (lx_j B k) = 45 ∨ lx_c B (lx_j B k) = 46 ∨ lx_c B (lx_j B k) = 47 := by omega
      rcases hcs with e | e | e | e <;> rw [e] <;> decide +kernel))
    refine bX4_readLeaf_120 hG zn (s_nx hG ht m3 km h2.1 (fun M1 h3 o3 => bX4_readLeaf_127 hG zn ⟨fun _ => ?_, fun w => absurd rfl w⟩))
    exact fin 1 (lx_c B (lx_j B k) - 44) (Or.inr ⟨rfl, by omega, by omega⟩) l16 (fun D X0 X Q1 fk fw tm sg fc fcb hP hh => mthi ct D X0 X Q1 fk fw tm sg fc fcb hP (fun _ => hh) (fun w => by omega)) M1 h3 (ps_old_tr (ps_old_tr h1.2 h2.2 (Nat.le_refl L)) o3 (Nat.le_refl L)) _ (fun M2 q => bX4_readLeaf_141 hG zn q)
  · -- a number
    have nv0 : 0 ≤ lx_v B (lx_j B k) := by
      unfold lx_v
      split
      · rw [lx_val _ _ 0 0 (Int.le_refl 0) (by decide)]
        have := lx_mv_0 (B := B) (301 - lx_j B k).toNat (lx_j B k) 0 (Int.le_refl 0)
        omega
      · exact Int.le_refl 0
    refine bX4_readLeaf_39 hG zn ?_
    rw [c4, c6, c7, a7, a9]
    refine ⟨fun l16 => ⟨by omega, fun w => absurd w (by decide), fun _ => ⟨fun w => absurd w (by decide), fun _ => ?_⟩⟩, fun l16 => fault 4 (by decide) (fun D X0 X Q1 fk fw tm sg fc fcb hP hh => mnum z D X0 X Q1 fk fw tm sg fc fcb hP (fun _ w => by omega) (fun _ _ => hh) (fun w => by omega)) _ (fun M2 q => bX4_readLeaf_53 hG zn q)⟩
    have h1 : ps_M B t f m M0 (zset M 12 4 (lv + 1)) k L st v (lv + 1) dp wd gr ∧ ps_old t f L M (zset M 12 4 (lv + 1)) := s_fd ht h (by decide) iv
    have h2 : ps_M B t f m M0 (zset (zset M 12 4 (lv + 1)) 12 7 (max gr (lx_v B (lx_j B k)))) k L st v (lv + 1) dp wd (max gr (lx_v B (lx_j B k))) ∧ ps_old t f L (zset M 12 4 (lv + 1)) (zset (zset M 12 4 (lv + 1)) 12 7 (max gr (lx_v B (lx_j B k)))) := s_fd ht h1.1 (by decide) (ps_iv_g iv ⟨nv0, z2⟩)
    refine bX4_readLeaf_120 hG zn (s_nx hG ht m3 km h2.1 (fun M1 h3 o3 => bX4_readLeaf_127 hG zn ⟨fun w => absurd w (by decide), fun _ => ?_⟩))
    exact fin 0 (lx_v B (lx_j B k)) (Or.inl ⟨rfl, nv0, z2⟩) l16 (fun D X0 X Q1 fk fw tm sg fc fcb hP hh => mnum z D X0 X Q1 fk fw tm sg fc fcb hP (fun _ _ => hh) (fun _ w => by omega) (fun w => by omega)) M1 h3 (ps_old_tr (ps_old_tr h1.2 h2.2 (Nat.le_refl L)) o3 (Nat.le_refl L)) _ (fun M2 q => bX4_readLeaf_141 hG zn q)
  · exact fault 2 (by decide) (fun D X0 X Q1 fk fw tm sg fc fcb hP hh => mnum z D X0 X Q1 fk fw tm sg fc fcb hP (fun w => by omega) (fun w => by omega) (fun _ => hh)) _ (fun M2 q => bX4_readLeaf_38 hG zn q)
end PS6

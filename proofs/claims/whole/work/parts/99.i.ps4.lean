section PS4
variable {G : zG} {d : Nat} {M X0 X : zM} {Q : zV → zM → Prop} {B : Int → Int} {n t f : Int} {m k L : Nat} {st v : Int → Int} {lv dp wd gr op wh fk fw tm sg fc : Int}
theorem ps_a (h : ps_P B n t f X0 X k L st v lv dp wd gr op wh fk fw tm sg fc) : X 234 22 = op ∧ X 234 23 = wd ∧ X 234 24 = dp ∧ X 234 25 = lv ∧ X 234 26 = gr ∧ X 234 27 = wh := h.1.2.1.2.2
theorem ps_b (h : ps_P B n t f X0 X k L st v lv dp wd gr op wh fk fw tm sg fc) : X 241 op = fk ∧ X 242 op = fw ∧ X 243 op = tm ∧ X 244 op = sg ∧ X 245 op = fc := h.2.1
theorem m_lf (hG : zP G) (hE : ps_E B n m) (hk : k < m) (h0 : 0 ≤ op ∧ op < 10) (ht : 0 ≤ t ∧ t < 4) (hf : 0 ≤ f ∧ f + L < 300) {s w : Int} (hs : s = 0 ∨ s = 1) (l16 : 0 ≤ lv ∧ lv < 16) (fcb : 0 ≤ fc ∧ fc ≤ 1000) (h : ps_P B n t f X0 X k L st v lv dp wd gr op wh fk fw tm sg fc) (hh : ∀ X', ps_P B n t f X0 X' (k + 1) (L + 1) (zup st L s) (zup v L w) (lv + 1) dp (if s = 1 then zor wd (zshl 1 w) else wd) (if s = 1 then gr else max gr w) op wh fk fw tm sg (fc + 1) → Q (0, 0) X') : Y G (d + 2) mX12_leaf 0 [(2, 234), (0, s), (0, w)] [] X Q := by
  obtain ⟨p22, p23, p24, p25, p26, p27⟩ := ps_a h
  refine bX12_leaf_0 hG ?_
  rw [p25]
  refine ⟨fun _ => ⟨by omega, ?_⟩, fun z => absurd z (by omega)⟩
  have h1 : ps_P B n t f X0 (zset X 234 25 (lv + 1)) k L st v (lv + 1) dp wd gr op wh fk fw tm sg fc := ps_fld h (by decide)
  refine m_wr hG ht hf h1 (fun X1 h2 => bX12_leaf_27 hG ?_)
  obtain ⟨q22, q23, q24, q25, q26, q27⟩ := ps_a h2
  have q5 := (ps_b h2).2.2.2.2
  rw [q22, q23, q26, q5]
  have go : ∀ (X2 : zM) (wd' gr' : Int), ps_P B n t f X0 X2 k (L + 1) (zup st L s) (zup v L w) (lv + 1) dp wd' gr' op wh fk fw tm sg fc → (if s = 1 then zor wd (zshl 1 w) else wd) = wd' → (if s = 1 then gr else max gr w) = gr' → Y G (d + 1) mX12_nextToken 0 [(2, 234), (9, 0)] [] (zset X2 245 op (fc + 1)) (fun r M' => Y G (d + 1 + 1) mX12_leaf 84 [(2, 234), (0, s), (0, w)] (zpush r []) M' Q) := fun X2 wd' gr' h3 e1 e2 => by
    have h4 : ps_P B n t f X0 (zset X2 245 op (fc + 1)) k (L + 1) (zup st L s) (zup v L w) (lv + 1) dp wd' gr' op wh fk fw tm sg (fc + 1) := ps_frm h3 h0 (by decide)
    refine m_nx hG hE hk h0 ht ⟨hf.1, by omega⟩ h4 (fun X3 h5 => bX12_leaf_84 hG ?_)
    rw [e1, e2] at hh
    exact hh X3 h5
  refine ⟨fun z => ⟨fun z2 => ⟨h0, by omega, h0, ?_⟩, fun z2 => ⟨h0, by omega, h0, ?_⟩⟩, fun z => ⟨h0, by omega, h0, ?_⟩⟩
  · have h3 : ps_P B n t f X0 (zset X1 234 26 gr) k (L + 1) (zup st L s) (zup v L w) (lv + 1) dp wd gr op wh fk fw tm sg fc := ps_fld h2 (by decide)
    exact go _ wd gr h3 (if_neg z) (by rw [if_neg z]; omega)
  · have h3 : ps_P B n t f X0 (zset X1 234 26 w) k (L + 1) (zup st L s) (zup v L w) (lv + 1) dp wd w op wh fk fw tm sg fc := ps_fld h2 (by decide)
    exact go _ wd w h3 (if_neg z) (by rw [if_neg z]; omega)
  · have h3 : ps_P B n t f X0 (zset X1 234 23 (zor wd (zshl 1 w))) k (L + 1) (zup st L s) (zup v L w) (lv + 1) dp (zor wd (zshl 1 w)) gr op wh fk fw tm sg fc := ps_fld h2 (by decide)
    exact go _ _ gr h3 (if_pos z) (if_pos z)
theorem m_eT (hG : zP G) (h0 : 0 ≤ op ∧ op < 10) (ht : 0 ≤ t ∧ t < 4) (hf : 0 ≤ f ∧ (1 < fc → f + L < 300)) (tmb : 0 ≤ tm ∧ tm ≤ 1000) (h : ps_P B n t f X0 X k L st v lv dp wd gr op wh fk fw tm sg fc) (h1 : fc ≤ 1 → ∀ X', ps_P B n t f X0 X' k L st v lv dp wd gr op wh fk fw (tm + 1) sg 0 → Q (9, 0) X') (h2 : 1 < fc → ∀ X', ps_P B n t f X0 X' k (L + 1) (zup st L 3) (zup v L fc) lv dp wd gr op wh fk fw (tm + 1) sg 0 → Q (9, 0) X') : Y G (d + 1) mX12_endTerm 0 [(2, 234)] [] X Q := by
  have p22 := (ps_a h).1
  obtain ⟨c1, c2, c3, c4, c5⟩ := ps_b h
  refine bX12_endTerm_0 hG ?_
  rw [p22, c5, c3]
  refine ⟨h0, fun z => ⟨h0, h0, by omega, h0, ?_⟩, fun z => ⟨h0, ?_⟩⟩
  · have g1 : ps_P B n t f X0 (zset X 245 op 0) k L st v lv dp wd gr op wh fk fw tm sg 0 := ps_frm h h0 (by decide)
    have g2 : ps_P B n t f X0 (zset (zset X 245 op 0) 243 op (tm + 1)) k L st v lv dp wd gr op wh fk fw (tm + 1) sg 0 := ps_frm g1 h0 (by decide)
    exact h1 z _ g2
  · refine m_wr hG ht ⟨hf.1, hf.2 z⟩ h (fun X1 g => bX12_endTerm_27 hG ?_)
    have q22 := (ps_a g).1
    have q3 := (ps_b g).2.2.1
    rw [q22, q3]
    have g1 : ps_P B n t f X0 (zset X1 245 op 0) k (L + 1) (zup st L 3) (zup v L fc) lv dp wd gr op wh fk fw tm sg 0 := ps_frm g h0 (by decide)
    have g2 : ps_P B n t f X0 (zset (zset X1 245 op 0) 243 op (tm + 1)) k (L + 1) (zup st L 3) (zup v L fc) lv dp wd gr op wh fk fw (tm + 1) sg 0 := ps_frm g1 h0 (by decide)
    exact ⟨h0, h0, by omega, h0, h2 z _ g2⟩
theorem m_eS (hG : zP G) (h0 : 0 ≤ op ∧ op < 10) (ht : 0 ≤ t ∧ t < 4) (hf : 0 ≤ f ∧ (1 < tm → f + L < 300)) (h : ps_P B n t f X0 X k L st v lv dp wd gr op wh fk fw tm sg fc) (h1 : tm ≤ 1 → ∀ X', ps_P B n t f X0 X' k L st v lv dp wd gr op wh fk fw tm sg fc → Q (9, 0) X') (h2 : 1 < tm → ∀ X', ps_P B n t f X0 X' k (L + 1) (zup st L 2) (zup v L (zor tm (zshl sg 8))) lv dp wd gr op wh fk fw tm sg fc → Q (9, 0) X') : Y G (d + 1) mX12_endSum 4 [(2, 234)] [] X Q := by
  have p22 := (ps_a h).1
  obtain ⟨c1, c2, c3, c4, c5⟩ := ps_b h
  refine bX12_endSum_4 hG ?_
  rw [p22, c3, c4]
  exact ⟨h0, fun z => h1 z X h, fun z => ⟨h0, h0, m_wr hG ht ⟨hf.1, hf.2 z⟩ h (fun X1 g => bX12_endSum_44 hG (h2 z X1 g))⟩⟩
theorem m_go (hG : zP G) (hE : ps_E B n m) (hk : k < m) (h0 : 0 ≤ op ∧ op < 10) (ht : 0 ≤ t ∧ t < 4) (hf : 0 ≤ f ∧ f + L ≤ 300) {is s : Int} (h : ps_P B n t f X0 X k L st v lv dp wd gr op wh fk fw tm sg fc) (h1 : is ≠ 0 → ∀ X', ps_P B n t f X0 X' (k + 1) L st v lv dp wd gr op 0 s fw 0 0 0 → Q (0, 0) X') (hn : is = 0 → Q (0, 1) X) : Y G (d + 2) mX12_goesOn 0 [(2, 234), (0, is), (0, s)] [] X Q := by
  have p22 := (ps_a h).1
  refine bX12_goesOn_0 hG ?_
  rw [p22]
  refine ⟨fun z => ⟨h0, ?_⟩, hn⟩
  have g1 : ps_P B n t f X0 (zset X 241 op s) k L st v lv dp wd gr op wh s fw tm sg fc := ps_frm h h0 (by decide)
  have q22 := (ps_a g1).1
  refine bX12_startSum_0 hG ?_
  rw [q22]
  refine ⟨h0, h0, h0, bX12_goesOn_20 hG ?_⟩
  have g2 : ps_P B n t f X0 (zset (zset X 241 op s) 243 op 0) k L st v lv dp wd gr op wh s fw 0 sg fc := ps_frm g1 h0 (by decide)
  have g3 : ps_P B n t f X0 (zset (zset (zset X 241 op s) 243 op 0) 244 op 0) k L st v lv dp wd gr op wh s fw 0 0 fc := ps_frm g2 h0 (by decide)
  have g4 : ps_P B n t f X0 (zset (zset (zset (zset X 241 op s) 243 op 0) 244 op 0) 245 op 0) k L st v lv dp wd gr op wh s fw 0 0 0 := ps_frm g3 h0 (by decide)
  have g5 : ps_P B n t f X0 (zset (zset (zset (zset (zset X 241 op s) 243 op 0) 244 op 0) 245 op 0) 234 27 0) k L st v lv dp wd gr op 0 s fw 0 0 0 := ps_fld g4 (by decide)
  exact m_nx hG hE hk h0 ht hf g5 (fun X1 g => bX12_goesOn_29 hG (h1 z X1 g))
/-- one more is open -/
theorem m_op (hG : zP G) (hE : ps_E B n m) (hk : k < m) (h0 : 0 ≤ op ∧ op ≤ 8) (ht : 0 ≤ t ∧ t < 4) (hf : 0 ≤ f ∧ f + L ≤ 300) {s w : Int} (h : ps_P B n t f X0 X k L st v lv dp wd gr op wh fk fw tm sg fc) (h1 : op < 8 → ∀ X', ps_P B n t f X X' (k + 1) L st v lv (max dp (op + 1)) wd gr (op + 1) wh s w 0 0 0 → Q (0, 0) X') (hn : op = 8 → Q (0, 3) X) : Y G (d + 3) mX12_opened 0 [(2, 234), (0, s), (0, w)] [] X Q := by
  obtain ⟨p22, p23, p24, p25, p26, p27⟩ := ps_a h
  obtain ⟨⟨⟨hM, hT⟩, ⟨a4, a5, b2, b3, b4, b5, b6, b7⟩, hs⟩, hc, hq, hf'⟩ := h
  refine bX12_opened_0 hG ?_
  rw [p22, p24]
  -- the memory when the frame stands, whatever was there
  have fin : ∀ w24 : Int, w24 = max dp (op + 1) → op < 8 → Y G (d + 2) mX12_begin 0 [(2, 234), (0, s), (0, w)] [] (zset (zset X 234 22 (op + 1)) 234 24 w24) (fun r M' => Y G (d + 2 + 1) mX12_opened 53 [(2, 234), (0, s), (0, w)] (zpush r []) M' Q) := fun w24 e24 o8 => by
    have r0 : ps_P B n t f X (zset (zset X 234 22 (op + 1)) 234 24 w24) k L st v lv (max dp (op + 1)) wd gr (op + 1) wh (X 241 (op + 1)) (X 242 (op + 1)) (X 243 (op + 1)) (X 244 (op + 1)) (X 245 (op + 1)) := by
      refine ⟨⟨⟨ps_lM (ps_lM hM (by decide)) (by decide), ps_lT (ps_lT hT (by decide)) (by decide)⟩, ⟨?_, ?_, ?_, ?_, ?_, ?_, ?_, ?_⟩, fun i hi => ?_⟩, ⟨?_, ?_, ?_, ?_, ?_⟩, fun a i a0 a1 i0 i1 => ?_, zfr_set (zfr_set zfr_rfl (zhit_at 2 rfl (by decide))) (zhit_at 2 rfl (by decide))⟩
      · rw [zr_set (by decide), zr_set (by decide)]; exact a4
      · rw [zr_set (by decide), zr_set (by decide)]; exact a5
      · rw [zr_set (by decide), zset_same]
      · rw [zr_set (by decide), zr_set (by decide)]; exact b3
      · rw [zset_same]; exact e24
      · rw [zr_set (by decide), zr_set (by decide)]; exact b5
      · rw [zr_set (by decide), zr_set (by decide)]; exact b6
      · rw [zr_set (by decide), zr_set (by decide)]; exact b7
      · rw [zset_off (by decide), zset_off (by decide)]; exact hs i hi
      · rw [zset_off (by decide), zset_off (by decide)]
      · rw [zset_off (by decide), zset_off (by decide)]
      · rw [zset_off (by decide), zset_off (by decide)]
      · rw [zset_off (by decide), zset_off (by decide)]
      · rw [zset_off (by decide), zset_off (by decide)]
      · rw [zset_off (by omega), zset_off (by omega)]
    generalize zset (zset X 234 22 (op + 1)) 234 24 w24 = X1 at r0
    have h9 : 0 ≤ op + 1 ∧ op + 1 < 10 := by omega
    have r22 := (ps_a r0).1
    refine bX12_begin_0 hG ?_
    rw [r22]
    have g1 : ps_P B n t f X (zset X1 241 (op + 1) s) k L st v lv (max dp (op + 1)) wd gr (op + 1) wh s (X 242 (op + 1)) (X 243 (op + 1)) (X 244 (op + 1)) (X 245 (op + 1)) := ps_frm r0 h9 (by decide)
    have g2 : ps_P B n t f X (zset (zset X1 241 (op + 1) s) 242 (op + 1) w) k L st v lv (max dp (op + 1)) wd gr (op + 1) wh s w (X 243 (op + 1)) (X 244 (op + 1)) (X 245 (op + 1)) := ps_frm g1 h9 (by decide)
    refine ⟨h9, h9, bX12_startSum_0 hG ?_⟩
    rw [(ps_a g2).1]
    have g3 : ps_P B n t f X (zset (zset (zset X1 241 (op + 1) s) 242 (op + 1) w) 243 (op + 1) 0) k L st v lv (max dp (op + 1)) wd gr (op + 1) wh s w 0 (X 244 (op + 1)) (X 245 (op + 1)) := ps_frm g2 h9 (by decide)
    have g4 : ps_P B n t f X (zset (zset (zset (zset X1 241 (op + 1) s) 242 (op + 1) w) 243 (op + 1) 0) 244 (op + 1) 0) k L st v lv (max dp (op + 1)) wd gr (op + 1) wh s w 0 0 (X 245 (op + 1)) := ps_frm g3 h9 (by decide)
    have g5 : ps_P B n t f X (zset (zset (zset (zset (zset X1 241 (op + 1) s) 242 (op + 1) w) 243 (op + 1) 0) 244 (op + 1) 0) 245 (op + 1) 0) k L st v lv (max dp (op + 1)) wd gr (op + 1) wh s w 0 0 0 := ps_frm g4 h9 (by decide)
    exact ⟨h9, h9, h9, bX12_begin_24 hG (bX12_opened_53 hG (m_nx hG hE hk h9 ht hf g5 (fun X2 g => bX12_opened_57 hG (h1 o8 X2 g))))⟩
  exact ⟨fun z => ⟨by omega, fun z2 => fin dp (by omega) (by omega), fun z2 => fin (op + 1) (by omega) (by omega)⟩, hn⟩
/-- what is open is closed -/
theorem m_cl (hG : zP G) (hE : ps_E B n m) (hk : k < m) (h0 : 0 ≤ op ∧ op < 9) (ht : 0 ≤ t ∧ t < 4) {X1 : zM} {is s w fk0 fw0 tm0 sg0 fc0 : Int} (hf : 0 ≤ f ∧ f + L ≤ 300 ∧ (0 ≤ s → f + L < 300)) (hc : ps_c X1 op fk0 fw0 tm0 sg0 fc0) (fcb : 0 ≤ fc0 ∧ fc0 ≤ 1000) (hq1 : ps_q X0 X1 op) (hf1 : zfr (ps_G t f) X0 X1) (h : ps_P B n t f X1 X k L st v lv dp wd gr (op + 1) wh fk fw tm sg fc) (h1 : is ≠ 0 → s < 0 → ∀ X', ps_P B n t f X0 X' (k + 1) L st v lv dp wd gr op wh fk0 fw0 tm0 sg0 (fc0 + 1) → Q (0, 0) X') (h2 : is ≠ 0 → 0 ≤ s → ∀ X', ps_P B n t f X0 X' (k + 1) (L + 1) (zup st L s) (zup v L w) lv dp wd gr op wh fk0 fw0 tm0 sg0 (fc0 + 1) → Q (0, 0) X') (hn : is = 0 → Q (0, 1) X) : Y G (d + 2) mX12_closed 0 [(2, 234), (0, is), (0, s), (0, w)] [] X Q := by
  -- one fewer open
  have dn : ∀ {X2 : zM} {L' : Nat} {st' v' : Int → Int}, ps_P B n t f X1 X2 k L' st' v' lv dp wd gr (op + 1) wh fk fw tm sg fc → X2 234 22 = op + 1 ∧ X2 245 op = fc0 ∧ ps_P B n t f X0 (zset (zset X2 234 22 op) 245 op (fc0 + 1)) k L' st' v' lv dp wd gr op wh fk0 fw0 tm0 sg0 (fc0 + 1) := fun {X2 L' st' v'} g => by
    obtain ⟨⟨⟨hM, hT⟩, ⟨a4, a5, b2, b3, b4, b5, b6, b7⟩, hs⟩, _, hq, hf'⟩ := g
    obtain ⟨c1, c2, c3, c4, c5⟩ := hc
    have e : ∀ a, 241 ≤ a → a ≤ 245 → X2 a op = X1 a op := fun a a0 a1 => hq a op a0 a1 h0.1 (by omega)
    have r0 : ps_P B n t f X0 (zset X2 234 22 op) k L' st' v' lv dp wd gr op wh fk0 fw0 tm0 sg0 fc0 := by
      refine ⟨⟨⟨ps_lM hM (by decide), ps_lT hT (by decide)⟩, ⟨?_, ?_, zset_same, ?_, ?_, ?_, ?_, ?_⟩, fun i hi => ?_⟩, ⟨?_, ?_, ?_, ?_, ?_⟩, fun a i a0 a1 i0 i1 => ?_, zfr_set (zfr_trans hf1 hf') (zhit_at 2 rfl (by decide))⟩
      · rw [zr_set (by decide)]; exact a4
      · rw [zr_set (by decide)]; exact a5
      · rw [zr_set (by decide)]; exact b3
      · rw [zr_set (by decide)]; exact b4
      · rw [zr_set (by decide)]; exact b5
      · rw [zr_set (by decide)]; exact b6
      · rw [zr_set (by decide)]; exact b7
      · rw [zset_off (by decide)]; exact hs i hi
      · rw [zset_off (by decide), e 241 (by decide) (by decide)]; exact c1
      · rw [zset_off (by decide), e 242 (by decide) (by decide)]; exact c2
      · rw [zset_off (by decide), e 243 (by decide) (by decide)]; exact c3
      · rw [zset_off (by decide), e 244 (by decide) (by decide)]; exact c4
      · rw [zset_off (by decide), e 245 (by decide) (by decide)]; exact c5
      · rw [zset_off (by omega), hq a i a0 a1 i0 (by omega)]; exact hq1 a i a0 a1 i0 i1
    exact ⟨b2, (e 245 (by decide) (by decide)).trans c5, ps_frm r0 ⟨h0.1, by omega⟩ (by decide)⟩
  have h9 : 0 ≤ op ∧ op < 10 := by omega
  obtain ⟨d1, d2, d3⟩ := dn h
  refine bX12_closed_0 hG ?_
  rw [d1, show op + 1 - 1 = op by omega, d2]
  refine ⟨fun z => ⟨fun z2 => ⟨by omega, h9, by omega, h9, m_nx hG hE hk h9 ht ⟨hf.1, by omega⟩ d3 (fun X3 g => bX12_closed_43 hG (h1 z z2 X3 g))⟩, fun z2 => ?_⟩, hn⟩
  refine m_wr hG ht ⟨hf.1, hf.2.2 z2⟩ h (fun X2 g => bX12_closed_16 hG ?_)
  obtain ⟨e1, e2, e3⟩ := dn g
  rw [e1, show op + 1 - 1 = op by omega, e2]
  exact ⟨by omega, h9, by omega, h9, m_nx hG hE hk h9 ht ⟨hf.1, by have := hf.2.2 z2; omega⟩ e3 (fun X3 g3 => bX12_closed_43 hG (h2 z z2 X3 g3))⟩
end PS4

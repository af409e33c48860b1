section PS8
variable {G : zG} {d : Nat} {M M0 X0 X : zM} {Q : zV → zM → Prop} {B : Int → Int} {n t f op : Int} {m k L : Nat} {st v : Int → Int} {lv dp wd gr wh fk fw tm sg fc : Int}
/-- behind one: a factor more -/
theorem m_ti (hG : zP G) (hE : ps_E B n m) (hk : k < m) (ho : 0 ≤ op ∧ op ≤ 8) (ht : 0 ≤ t ∧ t < 4) (hf : 0 ≤ f ∧ f + L ≤ 300) (hc : lx_c B (lx_j B k) = 9) (h : ps_P B n t f X0 X k L st v lv dp wd gr op 1 fk fw tm sg fc) (hh : ∀ X', ps_P B n t f X0 X' (k + 1) L st v lv dp (zor wd 64) gr op 0 fk fw tm sg fc → Y G (d + 30) mX12_summed 36 [(2, 234), (9, 0)] [] X' Q) : Y G (d + 30) mX12_summed 36 [(2, 234), (9, 0)] [] X Q := by
  obtain ⟨p22, p23, p24, p25, p26, p27⟩ := ps_a h
  have hT := h.1.1.2
  have t42 : X 234 10 = 42 := (ps_s hT (9, 42) (by decide)).mpr hc
  have h1 : ps_P B n t f X0 (zset X 234 23 (zor wd 64)) k L st v lv dp (zor wd 64) gr op 1 fk fw tm sg fc := ps_fld h (by decide)
  have h2 : ps_P B n t f X0 (zset (zset X 234 23 (zor wd 64)) 234 27 0) k L st v lv dp (zor wd 64) gr op 0 fk fw tm sg fc := ps_fld h1 (by decide)
  refine bX12_summed_36 hG ⟨fun z => by omega, fun _ => bX12_behindOne_0 hG ?_⟩
  rw [p23]
  refine ⟨fun z => absurd t42 z, fun _ => m_nx (d := d + 27) hG hE hk ⟨ho.1, by omega⟩ ht hf h2 (fun X1 h3 => bX12_behindOne_29 hG (bX12_summed_47 hG ⟨fun _ => ⟨fun _ => hh X1 h3, fun z => absurd rfl z⟩, fun z => absurd z (by decide)⟩))⟩
/-- behind one: a term more -/
theorem m_pl (hG : zP G) (hE : ps_E B n m) (hk : k < m) (ho : 0 ≤ op ∧ op ≤ 8) (ht : 0 ≤ t ∧ t < 4) (hf : 0 ≤ f ∧ f + L < 300) (tmb : 0 ≤ tm ∧ tm ≤ 100) {s w1 : Int} (hc : (lx_c B (lx_j B k) = 7 ∧ s = sg ∧ w1 = 16) ∨ (lx_c B (lx_j B k) = 8 ∧ s = zor sg (zshl 1 (tm + 1)) ∧ w1 = 32)) (h : ps_P B n t f X0 X k L st v lv dp wd gr op 1 fk fw tm sg fc) (h1 : fc ≤ 1 → ∀ X', ps_P B n t f X0 X' (k + 1) L st v lv dp (zor wd w1) gr op 0 fk fw (tm + 1) s 0 → Y G (d + 30) mX12_summed 36 [(2, 234), (9, 0)] [] X' Q) (h2 : 1 < fc → ∀ X', ps_P B n t f X0 X' (k + 1) (L + 1) (zup st L 3) (zup v L fc) lv dp (zor wd w1) gr op 0 fk fw (tm + 1) s 0 → Y G (d + 30) mX12_summed 36 [(2, 234), (9, 0)] [] X' Q) : Y G (d + 30) mX12_summed 36 [(2, 234), (9, 0)] [] X Q := by
  obtain ⟨p22, p23, p24, p25, p26, p27⟩ := ps_a h
  have o10 : 0 ≤ op ∧ op < 10 := by omega
  have sh : zshl 1 4 = 16 ∧ zshl 1 5 = 32 := by decide +kernel
  -- behind the term's end
  have go : ∀ (X1 : zM) (L' : Nat) (st' v' : Int → Int), f + L' ≤ 300 → ps_P B n t f X0 X1 k L' st' v' lv dp wd gr op 1 fk fw (tm + 1) sg 0 → (∀ X', ps_P B n t f X0 X' (k + 1) L' st' v' lv dp (zor wd w1) gr op 0 fk fw (tm + 1) s 0 → Y G (d + 30) mX12_summed 36 [(2, 234), (9, 0)] [] X' Q) → Y G (d + 28 + 1) mX12_behindOne 53 [(2, 234)] [] X1 (fun r M' => Y G (d + 29 + 1) mX12_summed 47 [(2, 234), (9, 0)] (zpush r []) M' Q) := fun X1 L' st' v' hL g hh => by
    obtain ⟨q22, q23, q24, q25, q26, q27⟩ := ps_a g
    obtain ⟨c1, c2, c3, c4, c5⟩ := ps_b g
    have hT := g.1.1.2
    have fin : ∀ X2, ps_P B n t f X0 X2 k L' st' v' lv dp (zor wd w1) gr op 1 fk fw (tm + 1) s 0 → Y G (d + 28) mX12_nextToken 0 [(2, 234), (9, 0)] [] (zset X2 234 27 0) (fun r M' => Y G (d + 28 + 1) mX12_behindOne 119 [(2, 234)] (zpush r []) M' (fun r M' => Y G (d + 29 + 1) mX12_summed 47 [(2, 234), (9, 0)] (zpush r []) M' Q)) := fun X2 g2 => by
      have g3 : ps_P B n t f X0 (zset X2 234 27 0) k L' st' v' lv dp (zor wd w1) gr op 0 fk fw (tm + 1) s 0 := ps_fld g2 (by decide)
      exact m_nx (d := d + 27) hG hE hk o10 ht ⟨hf.1, hL⟩ g3 (fun X3 g4 => bX12_behindOne_119 hG (bX12_summed_47 hG ⟨fun _ => ⟨fun _ => hh X3 g4, fun z => absurd rfl z⟩, fun z => absurd z (by decide)⟩))
    refine bX12_behindOne_53 hG ?_
    rw [q22, q23, c3, c4, sh.1, sh.2]
    rcases hc with ⟨e, es, ew⟩ | ⟨e, es, ew⟩
    · have t43 : X1 234 10 = 43 := (ps_s hT (7, 43) (by decide)).mpr e
      have g2 : ps_P B n t f X0 (zset X1 234 23 (zor wd 16)) k L' st' v' lv dp (zor wd 16) gr op 1 fk fw (tm + 1) sg 0 := ps_fld g (by decide)
      rw [t43]
      rw [ew, es] at fin
      exact ⟨fun z => absurd rfl z, fun _ => ⟨fun _ => fin _ g2, fun z => absurd z (by decide)⟩⟩
    · have t45 : X1 234 10 = 45 := (ps_s hT (8, 45) (by decide)).mpr e
      have g2 : ps_P B n t f X0 (zset X1 234 23 (zor wd 32)) k L' st' v' lv dp (zor wd 32) gr op 1 fk fw (tm + 1) sg 0 := ps_fld g (by decide)
      have g3 : ps_P B n t f X0 (zset (zset X1 234 23 (zor wd 32)) 244 op (zor sg (zshl 1 (tm + 1)))) k L' st' v' lv dp (zor wd 32) gr op 1 fk fw (tm + 1) (zor sg (zshl 1 (tm + 1))) 0 := ps_frm g2 o10 (by decide)
      rw [t45]
      rw [ew, es] at fin
      exact ⟨fun _ => ⟨fun z => absurd rfl z, fun _ => ⟨o10, o10, o10, fin _ g3⟩⟩, fun z => absurd z (by decide)⟩
  have eT : Y G (d + 28) mX12_endTerm 0 [(2, 234)] [] X (fun r M' => Y G (d + 28 + 1) mX12_behindOne 53 [(2, 234)] (zpush r []) M' (fun r M' => Y G (d + 29 + 1) mX12_summed 47 [(2, 234), (9, 0)] (zpush r []) M' Q)) :=
    m_eT (d := d + 27) hG o10 ht ⟨hf.1, fun _ => hf.2⟩ ⟨tmb.1, by omega⟩ h (fun z X1 g => go X1 L st v (by omega) g (h1 z)) (fun z X1 g => go X1 (L + 1) _ _ (by omega) g (h2 z))
  have hT := h.1.1.2
  have t42 : X 234 10 ≠ 42 := fun z => by have := (ps_s hT (9, 42) (by decide)).mp z; omega
  refine bX12_summed_36 hG ⟨fun z => by omega, fun _ => bX12_behindOne_0 hG ⟨fun _ => ⟨fun _ => eT, fun z3 => ⟨fun z5 => ?_, fun _ => eT⟩⟩, fun z => absurd z t42⟩⟩
  rcases hc with ⟨e, _, _⟩ | ⟨e, _, _⟩
  · exact absurd ((ps_s hT (7, 43) (by decide)).mpr e) z3
  · exact absurd ((ps_s hT (8, 45) (by decide)).mpr e) z5
end PS8

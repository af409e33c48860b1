section PSC
variable {G : zG} {d : Nat} {B : Int → Int} {n t f op : Int} {m : Nat}
/-- the model reads a sum, up to what stands behind it -/
def ps_OS (G : zG) (B : Int → Int) (n t f op : Int) : ps_Rn := fun k L st v lv dp wd gr k' L' st' v' lv' dp' wd' gr' => ∀ (D : Nat) (X0 X : zM) (Q : zV → zM → Prop) (fk fw : Int), ps_P B n t f X0 X k L st v lv dp wd gr op 0 fk fw 0 0 0 → (∀ (X' : zM) (tm sg : Int), ps_P B n t f X0 X' k' L' st' v' lv' dp' wd' gr' op 1 fk fw tm sg 0 → Y G (D + 28 + 1) mX12_behindOne 125 [(2, 234)] [] X' (fun r M' => Y G (D + 29 + 1) mX12_summed 47 [(2, 234), (9, 0)] (zpush r []) M' Q)) → Y G (D + 30) mX12_summed 36 [(2, 234), (9, 0)] [] X Q
theorem ps_W_n {M1 : zM} {L0 L : Nat} {st0 v0 st v : Int → Int} {cnt : Int} {sn sn' : Int → Int} (h : ps_W t f M1 L0 st0 v0 L st v cnt sn) (e : ∀ j, 0 ≤ j → j < cnt → sn' j = sn j) : ps_W t f M1 L0 st0 v0 L st v cnt sn' := by
  obtain ⟨w1, w2, w3, w4, w5, w6⟩ := h
  exact ⟨w1, w2, w3, w4, w5, fun j j0 j1 => by rw [e j j0 j1]; exact w6 j j0 j1⟩
/-- the model at the end of a sum -/
theorem m_se (hG : zP G) {X0 X : zM} {Q : zV → zM → Prop} {k L : Nat} {st v : Int → Int} {lv dp wd gr fk fw tm sg fc : Int} (ho : 0 ≤ op ∧ op ≤ 8) (ht : 0 ≤ t ∧ t < 4) (hf : 0 ≤ f ∧ (1 < fc → f + L < 300) ∧ (0 < tm → f + L + (if 1 < fc then 1 else 0) < 300)) (tmb : 0 ≤ tm ∧ tm ≤ 100) (hc : lx_c B (lx_j B k) ≠ 7 ∧ lx_c B (lx_j B k) ≠ 8 ∧ lx_c B (lx_j B k) ≠ 9) (h : ps_P B n t f X0 X k L st v lv dp wd gr op 1 fk fw tm sg fc) (hh : ∀ (X' : zM) (Lp : Nat) (stp vp : Int → Int), ((fc ≤ 1 ∧ Lp = L ∧ stp = st ∧ vp = v) ∨ (1 < fc ∧ Lp = L + 1 ∧ stp = zup st L 3 ∧ vp = zup v L fc)) → ((tm = 0 → ps_P B n t f X0 X' k Lp stp vp lv dp wd gr op 1 fk fw 1 sg 0) ∧ (0 < tm → ps_P B n t f X0 X' k (Lp + 1) (zup stp Lp 2) (zup vp Lp (zor (tm + 1) (zshl sg 8))) lv dp wd gr op 1 fk fw (tm + 1) sg 0)) → Y G (d + 28 + 1) mX12_behindOne 125 [(2, 234)] [] X' (fun r M' => Y G (d + 29 + 1) mX12_summed 47 [(2, 234), (9, 0)] (zpush r []) M' Q)) : Y G (d + 30) mX12_summed 36 [(2, 234), (9, 0)] [] X Q := by
  have o10 : 0 ≤ op ∧ op < 10 := by omega
  have hT := h.1.1.2
  have p27 := (ps_a h).2.2.2.2.2
  have t43 : X 234 10 ≠ 43 := fun z => hc.1 ((ps_s hT (7, 43) (by decide)).mp z)
  have t45 : X 234 10 ≠ 45 := fun z => hc.2.1 ((ps_s hT (8, 45) (by decide)).mp z)
  have t42 : X 234 10 ≠ 42 := fun z => hc.2.2 ((ps_s hT (9, 42) (by decide)).mp z)
  have go : ∀ (X1 : zM) (Lp : Nat) (stp vp : Int → Int), ((fc ≤ 1 ∧ Lp = L ∧ stp = st ∧ vp = v) ∨ (1 < fc ∧ Lp = L + 1 ∧ stp = zup st L 3 ∧ vp = zup v L fc)) → ps_P B n t f X0 X1 k Lp stp vp lv dp wd gr op 1 fk fw (tm + 1) sg 0 → Y G (d + 27 + 1) mX12_endSum 4 [(2, 234)] [] X1 (fun r M' => Y G (d + 28 + 1) mX12_behindOne 125 [(2, 234)] (zpush r []) M' (fun r M' => Y G (d + 29 + 1) mX12_summed 47 [(2, 234), (9, 0)] (zpush r []) M' Q)) := fun X1 Lp stp vp hp g => by
    refine m_eS (d := d + 27) hG o10 ht ⟨hf.1, fun z => ?_⟩ g (fun z X2 g2 => ?_) (fun z X2 g2 => ?_)
    · have q := hf.2.2 (by omega)
      rcases hp with ⟨e1, e2, _⟩ | ⟨e1, e2, _⟩
      · rw [if_neg (by omega)] at q; omega
      · rw [if_pos e1] at q; omega
    · exact hh X2 Lp stp vp hp ⟨fun e => by rw [e] at g2; exact g2, fun e => by omega⟩
    · exact hh X2 Lp stp vp hp ⟨fun e => by omega, fun _ => g2⟩
  exact bX12_summed_36 hG ⟨fun z => by omega, fun _ => bX12_behindOne_0 hG ⟨fun _ => ⟨fun z => absurd z t43, fun _ => ⟨fun _ => bX12_endSum_0 hG (m_eT (d := d + 26) hG o10 ht ⟨hf.1, hf.2.1⟩ ⟨tmb.1, by omega⟩ h (fun z X1 g => go X1 L st v (Or.inl ⟨z, rfl, rfl, rfl⟩) g) (fun z X1 g => go X1 (L + 1) _ _ (Or.inr ⟨z, rfl, rfl, rfl⟩) g)), fun z => absurd z t45⟩⟩, fun z => absurd z t42⟩⟩
end PSC

section FWM
variable {G : zG} {d n : Nat} {M : zM} {Q : zV → zM → Prop}
/-- the class's closing, step by step -/
theorem sw_cJ (hn : 11 ≤ n) (hW : zW G) {s b i B N : Int} {r0 : Int} {nr0 : Nat} (hr0 : zsh r0.toNat = (100, nr0)) (hb0 : 3 ≤ r0 ∧ r0 ≤ 11) (hl : (nr0 : Int) = s * s) (hs : s = 6 ∨ s = 8) (hB : 0 ≤ B ∧ B ≤ 40000) (hN : 0 ≤ N ∧ N ≤ s) (hb : 0 ≤ b ∧ b < s) (hi : 0 ≤ i ∧ i < s) : ∀ (k : Nat) (j : Int) (t : Int → Int), 0 ≤ j → j + k = s → (∃ u, zR s N b B t u) → Yw n G d mX10_closeTable 39 [(2, r0), (0, s), (0, b), (0, i + 1), (9, 0), (9, 0), (9, 0), (9, 0)] [] (zrow M r0 (zlp (zfs s b i) k j t)) Q → Yw n G d mX10_closeTable 47 [(2, r0), (0, s), (0, b), (0, i), (0, j), (9, 0), (9, 0), (9, 0)] [] (zrow M r0 t) Q
  | 0, j, t, j0, j1, hR, h => wX10_closeTable_47 hn hW hr0 hb0 ⟨fun _ => ⟨by omega, h⟩, fun c => absurd c (by omega)⟩
  | k + 1, j, t, j0, j1, hR, h => by
    obtain ⟨u, hR⟩ := hR
    have hj : 0 ≤ j ∧ j < s := ⟨j0, by omega⟩
    have q1 := zix hs hi hb
    have q2 := zix hs hb hj
    have q3 := zix hs hi hj
    have bd : ∀ x y, 0 ≤ x ∧ x < s → 0 ≤ y ∧ y < s → -1 ≤ t (x * s + y) ∧ t (x * s + y) ≤ 100000 := fun x y hx hy => by
      have w := hR x y hx.1 hx.2 hy.1 hy.2
      by_cases c : x < N ∧ y < N
      · obtain ⟨w1, w2, w3, -⟩ := w.1 c.1 c.2
        rw [w1]
        by_cases c2 : u (s * x + y) < 100000
        · rw [zkn_lo c2]; omega
        · rw [zkn_hi (by omega)]; omega
      · have := w.2 (by omega)
        by_cases c2 : x = y
        · rw [this.1 c2]; omega
        · rw [this.2 c2]; omega
    have b1 := bd i b hi hb
    have b2 := bd b j hb hj
    have b3 := bd i j hi hj
    have hnx : ∃ u, zR s N b B (zfs s b i j t) u := by
      by_cases c : b < N ∧ i < N ∧ j < N
      · exact ⟨_, zR_step hs hB hN.2 ⟨hb.1, c.1⟩ ⟨hi.1, c.2.1⟩ ⟨hj.1, c.2.2⟩ hR⟩
      · rw [zR_nop hb hi hj (n := N) (by omega) hR]; exact ⟨_, hR⟩
    have go : Yw n G d mX10_closeTable 47 [(2, r0), (0, s), (0, b), (0, i), (0, j + 1), (9, 0), (9, 0), (9, 0)] [] (zrow M r0 (zfs s b i j t)) Q := sw_cJ hn hW hr0 hb0 hl hs hB hN hb hi k (j + 1) _ (by omega) (by omega) hnx h
    have keep : ¬ (¬ t (i * s + b) = -1 ∧ ¬ t (b * s + j) = -1 ∧ (t (i * s + j) = -1 ∨ t (i * s + b) + t (b * s + j) < t (i * s + j))) → Yw n G d mX10_closeTable 47 [(2, r0), (0, s), (0, b), (0, i), (0, j + 1), (9, 0), (9, 0), (9, 0)] [] (zrow M r0 t) Q := fun c => by
      rw [show zfs s b i j t = t from if_neg c] at go; exact go
    have put : (¬ t (i * s + b) = -1 ∧ ¬ t (b * s + j) = -1 ∧ (t (i * s + j) = -1 ∨ t (i * s + b) + t (b * s + j) < t (i * s + j))) → Yw n G d mX10_closeTable 47 [(2, r0), (0, s), (0, b), (0, i), (0, j + 1), (9, 0), (9, 0), (9, 0)] [] (zset (zrow M r0 t) r0 (i * s + j) (t (i * s + b) + t (b * s + j))) Q := fun c => by
      rw [show zfs s b i j t = _ from if_pos c] at go; rw [zset_row]; exact go
    refine wX10_closeTable_47 hn hW hr0 hb0 ⟨fun c => absurd c (by omega), fun _ => ?_⟩
    simp only [zrow_at]
    refine ⟨by omega, by omega, by omega, by omega, by omega, by omega, by omega, by omega, by omega, fun c => ⟨by omega, keep (by omega)⟩, fun c1 => ⟨fun c => ⟨by omega, keep (by omega)⟩, fun c2 => ⟨fun c => ⟨by omega, by omega, by omega, by omega, by omega, put ⟨c1, c2, Or.inl c⟩⟩, fun c3 => ⟨by omega, fun c => ⟨by omega, keep (by omega)⟩, fun c => ⟨by omega, by omega, by omega, by omega, by omega, put ⟨c1, c2, Or.inr c⟩⟩⟩⟩⟩⟩
theorem sw_cI (hn : 11 ≤ n) (hW : zW G) {s b B N : Int} {r0 : Int} {nr0 : Nat} (hr0 : zsh r0.toNat = (100, nr0)) (hb0 : 3 ≤ r0 ∧ r0 ≤ 11) (hl : (nr0 : Int) = s * s) (hs : s = 6 ∨ s = 8) (hB : 0 ≤ B ∧ B ≤ 40000) (hN : 0 ≤ N ∧ N ≤ s) (hb : 0 ≤ b ∧ b < s) : ∀ (k : Nat) (i : Int) (t : Int → Int), 0 ≤ i → i + k = s → (∃ u, zR s N b B t u) → Yw n G d mX10_closeTable 32 [(2, r0), (0, s), (0, b + 1), (9, 0), (9, 0), (9, 0), (9, 0), (9, 0)] [] (zrow M r0 (zlp (zcJ s b) k i t)) Q → Yw n G d mX10_closeTable 39 [(2, r0), (0, s), (0, b), (0, i), (9, 0), (9, 0), (9, 0), (9, 0)] [] (zrow M r0 t) Q
  | 0, i, t, i0, i1, hR, h => wX10_closeTable_39 hn hW hr0 hb0 ⟨fun _ => ⟨by omega, h⟩, fun c => absurd c (by omega)⟩
  | k + 1, i, t, i0, i1, hR, h => by
    have hi : 0 ≤ i ∧ i < s := ⟨i0, by omega⟩
    have hnx : ∃ u, zR s N b B (zcJ s b i t) u := by
      obtain ⟨u, hR⟩ := hR
      by_cases c : b < N ∧ i < N
      · exact ⟨_, zR_J hs hB hN ⟨hb.1, c.1⟩ ⟨hi.1, c.2⟩ hR⟩
      · exact ⟨_, zR_Jn hN.1 hb hi (by omega) hR⟩
    exact wX10_closeTable_39 hn hW hr0 hb0 ⟨fun c => absurd c (by omega), fun _ => sw_cJ hn hW hr0 hb0 hl hs hB hN hb hi s.toNat 0 t (by omega) (by omega) hR (sw_cI hn hW hr0 hb0 hl hs hB hN hb k (i + 1) _ (by omega) (by omega) hnx h)⟩
theorem sw_cB (hn : 11 ≤ n) (hW : zW G) {s N : Int} {r0 : Int} {nr0 : Nat} (hr0 : zsh r0.toNat = (100, nr0)) (hb0 : 3 ≤ r0 ∧ r0 ≤ 11) (hl : (nr0 : Int) = s * s) (hs : s = 6 ∨ s = 8) (hN : 0 ≤ N ∧ N ≤ s) : ∀ (k : Nat) (b : Int) (t : Int → Int), 0 ≤ b → b + k = s → (∃ u, zR s N b (zpw b) t u) → Q (9, 0) (zrow M r0 (zlp (zcI s) k b t)) → Yw n G d mX10_closeTable 32 [(2, r0), (0, s), (0, b), (9, 0), (9, 0), (9, 0), (9, 0), (9, 0)] [] (zrow M r0 t) Q
  | 0, b, t, b0, b1, hR, h => wX10_closeTable_32 hn hW hr0 hb0 ⟨fun _ => h, fun c => absurd c (by omega)⟩
  | k + 1, b, t, b0, b1, hR, h => by
    have hb : 0 ≤ b ∧ b < s := ⟨b0, by omega⟩
    have hB := zpw_b (i := b) (by omega)
    have hnx : ∃ u, zR s N (b + 1) (zpw (b + 1)) (zcI s b t) u := by
      obtain ⟨u, hR⟩ := hR
      rw [zpw_s b0]
      by_cases c : b < N
      · exact ⟨_, zR_next hB.1 (zR_I hs hB hN ⟨hb.1, c⟩ hR)⟩
      · exact ⟨_, zR_next hB.1 (zR_In hN.1 hb (by omega) hR)⟩
    exact wX10_closeTable_32 hn hW hr0 hb0 ⟨fun c => absurd c (by omega), fun _ => sw_cI hn hW hr0 hb0 hl hs hB hN hb s.toNat 0 t (by omega) (by omega) hR (sw_cB hn hW hr0 hb0 hl hs hN k (b + 1) _ (by omega) (by omega) hnx h)⟩
theorem sw_cD (hn : 11 ≤ n) (hW : zW G) {s : Int} {r0 : Int} {nr0 : Nat} (hr0 : zsh r0.toNat = (100, nr0)) (hb0 : 3 ≤ r0 ∧ r0 ≤ 11) (hl : (nr0 : Int) = s * s) (hs : s = 6 ∨ s = 8) : ∀ (k : Nat) (i : Int) (t : Int → Int), 0 ≤ i → i + k = s → Yw n G d mX10_closeTable 32 [(2, r0), (0, s), (0, 0), (9, 0), (9, 0), (9, 0), (9, 0), (9, 0)] [] (zrow M r0 (zlp (fun i t => zup t (i * s + i) 0) k i t)) Q → Yw n G d mX10_closeTable 11 [(2, r0), (0, s), (0, i), (9, 0), (9, 0), (9, 0), (9, 0), (9, 0)] [] (zrow M r0 t) Q
  | 0, i, t, i0, i1, h => wX10_closeTable_11 hn hW hr0 hb0 ⟨fun _ => h, fun c => absurd c (by omega)⟩
  | k + 1, i, t, i0, i1, h => by
    have q := zix hs (i := i) (j := i) ⟨i0, by omega⟩ ⟨i0, by omega⟩
    refine wX10_closeTable_11 hn hW hr0 hb0 ⟨fun c => absurd c (by omega), fun _ => ⟨by omega, by omega, by omega, by omega, ?_⟩⟩
    rw [zset_row]
    exact sw_cD hn hW hr0 hb0 hl hs k (i + 1) _ (by omega) (by omega) h
theorem sw_close (hn : 11 ≤ n) (hW : zW G) {s N : Int} {r0 : Int} {nr0 : Nat} (hr0 : zsh r0.toNat = (100, nr0)) (hb0 : 3 ≤ r0 ∧ r0 ≤ 11) (hl : (nr0 : Int) = s * s) (hs : s = 6 ∨ s = 8) (hN : 0 ≤ N ∧ N ≤ s) {t u : Int → Int} (hR : zR s N 0 99 (zcD s t) u) (h : Q (9, 0) (zrow M r0 (zcB s (zcD s t)))) : Yw n G d mX10_closeTable 0 [(2, r0), (0, s), (9, 0), (9, 0), (9, 0), (9, 0), (9, 0), (9, 0)] [] (zrow M r0 t) Q := by
  have q := zix hs (i := 0) (j := 0) ⟨by omega, by omega⟩ ⟨by omega, by omega⟩
  have q2 : 0 < s * s := by rcases hs with rfl | rfl <;> decide
  refine wX10_closeTable_0 hn hW hr0 hb0 ⟨by omega, by omega, fun _ => ?_, fun c => absurd c (by omega)⟩
  exact sw_cD hn hW hr0 hb0 hl hs s.toNat 0 t (by omega) (by omega) (sw_cB hn hW hr0 hb0 hl hs hN s.toNat 0 _ (by omega) (by omega) ⟨u, hR⟩ h)
end FWM

section PS7
variable {G : zG} {d : Nat} {M M0 : zM} {Q : zV → zM → Prop} {B : Int → Int} {n t f : Int} {m k L : Nat} {st v : Int → Int} {lv dp wd gr : Int}
/-- a link between two that wait -/
theorem s_lk (hG : zP G) (ht : 0 ≤ t ∧ t < 4) {x y s a b : Int} {L0 : Nat} (h : ps_M B t f m M0 M k L st v lv dp wd gr) (ha : 0 ≤ a ∧ a < (zsp st v L).1) (hb : 0 ≤ b ∧ b < (zsp st v L).1) (hx : x = f + (zsp st v L).2 a) (hy : y = f + (zsp st v L).2 b) (hxo : f + L0 ≤ x) (hyo : f + L0 ≤ y) (hh : ∀ M', ps_M B t f m M0 M' k L st v lv dp wd gr → ps_old t f L0 M M' → M' (189 + 12 * t + 7) x = y → M' (189 + 12 * t + 3) y = s → (∀ z, z ≠ x → M' (189 + 12 * t + 7) z = M (189 + 12 * t + 7) z) → (∀ z, z ≠ y → M' (189 + 12 * t + 3) z = M (189 + 12 * t + 3) z) → Q (9, 0) M') : Y G d mX1_link 0 [(2, 189 + 12 * t), (0, x), (0, y), (0, s)] [] M Q := by
  obtain ⟨hA, hR, ⟨c4, c5, c6, c7⟩, hF, hL⟩ := h
  have e8 := hR.1.2
  have f0 := hR.1.1
  have zi := zsp_in L (ps_R_ok hR)
  have ia := zi.2 a ha.1 ha.2
  have ib := zi.2 b hb.1 hb.2
  refine bX1_link_0 hG (zND_t ht) ⟨fun z => by omega, fun _ => ⟨fun z => by omega, fun _ => ⟨fun z => by omega, fun _ => ⟨fun z => by omega, fun _ => ⟨by omega, by omega, ?_⟩⟩⟩⟩⟩
  have hR' := ps_R_l (s := s) hR a b ha hb hx hy
  have vo : ∀ c z, c ≠ 189 + 12 * t + 7 → c ≠ 189 + 12 * t + 3 → zset (zset M (189 + 12 * t + 7) x y) (189 + 12 * t + 3) y s c z = M c z := fun c z p q => by rw [zset_off q, zset_off p]
  refine hh _ ⟨lx_A_c hA (fun i _ _ => vo _ _ (by omega) (by omega)) (fun i _ => ⟨vo _ _ (by omega) (by omega), vo _ _ (by omega) (by omega), vo _ _ (by omega) (by omega)⟩), hR', ⟨?_, ?_, ?_, ?_⟩, zfr_set (zfr_set hF (zhit_at 7 rfl (by omega))) (zhit_at 3 rfl (by omega)), hL⟩ (fun c z a0 a1 x0 x1 => ?_) ?_ ?_ (fun z hz => ?_) (fun z hz => ?_)
  · rw [vo _ _ (by omega) (by omega)]; exact c4
  · rw [vo _ _ (by omega) (by omega)]; exact c5
  · rw [vo _ _ (by omega) (by omega)]; exact c6
  · rw [vo _ _ (by omega) (by omega)]; exact c7
  · rw [zset_ne (fun w => by omega), zset_ne (fun w => by omega)]
  · rw [zset_off (by omega), zset_same]
  · exact zset_same
  · rw [zset_off (by omega), zset_ne (fun w => hz w.2)]
  · rw [zset_ne (fun w => hz w.2), zset_off (by omega)]
/-- a whole of parts that are chained -/
theorem s_mko (hG : zP G) (ht : 0 ≤ t ∧ t < 4) {s w x y cnt c : Int} (hs : s = 2 ∨ s = 3) (hL : f + L < 300) (hw : zpn s w = cnt) (hcnt : 2 ≤ cnt ∧ cnt ≤ 16) (hc : 0 ≤ c ∧ c + cnt = (zsp st v L).1) (hx : x = f + (zsp st v L).2 c) (h0 : s = 2 → ¬ zsg w 0) (h : ps_M B t f m M0 M k L st v lv dp wd gr) (hN : ∀ j, 0 ≤ j → j < cnt - 1 → M (189 + 12 * t + 7) (f + (zsp st v L).2 (c + j)) = f + (zsp st v L).2 (c + (j + 1))) (hS : ∀ j, 0 ≤ j → j < cnt → M (189 + 12 * t + 3) (f + (zsp st v L).2 (c + j)) = if s = 2 ∧ zsg w j then -1 else 1) (hh : ∀ M', ps_M B t f m M0 M' k (L + 1) (zup st L s) (zup v L w) lv dp wd gr → ps_old t f L M M' → M' (189 + 12 * t + 3) (f + L) = 1 → Q (0, f + L) M') : Y G (d + 1) mX1_makeOf 0 [(2, 189 + 12 * t), (0, s), (0, x), (0, y), (0, cnt), (9, 0)] [] M Q := by
  obtain ⟨hA, hR, ⟨c4, c5, c6, c7⟩, hF, _⟩ := h
  have e8 := hR.1.2
  have f0 := hR.1.1
  have b8 : 0 ≤ M (189 + 12 * t) 8 ∧ M (189 + 12 * t) 8 < 300 := by omega
  have zi := zsp_in L (ps_R_ok hR)
  refine bX1_makeOf_0 hG (zND_t ht) (s_mk hG (zND_t ht) b8 (bX1_makeOf_6 hG (zND_t ht) ?_))
  obtain ⟨v1, v2, v3, v4, v5, v6, v8⟩ := ps_mkv (M := M) (o := 189 + 12 * t) (s := s) (w := 0)
  have vo : ∀ a z, ¬ (189 + 12 * t + 1 ≤ a ∧ a ≤ 189 + 12 * t + 7 ∧ z = M (189 + 12 * t) 8) → ¬ (a = 189 + 12 * t ∧ z = 8) → ps_mkm M (189 + 12 * t) s 0 a z = M a z := fun a z p q => ps_mko p q
  have mf := ps_mkF (t := t) (s := s) (w := 0) hF rfl b8
  rw [e8] at v1 v2 v3 v4 v5 v6 v8 vo ⊢
  generalize ps_mkm M (189 + 12 * t) s 0 = X at v1 v2 v3 v4 v5 v6 v8 vo mf ⊢
  refine ⟨fun z => by omega, fun _ => ⟨by omega, by omega, by omega, ?_⟩⟩
  have mf' : zfr (ps_H t) M0 (zset (zset (zset X (189 + 12 * t + 5) (f + L) x) (189 + 12 * t + 6) (f + L) y) (189 + 12 * t + 4) (f + L) cnt) := zfr_set (zfr_set (zfr_set mf (zhit_at 5 rfl (by omega))) (zhit_at 6 rfl (by omega))) (zhit_at 4 rfl (by omega))
  have u4 : zset (zset (zset X (189 + 12 * t + 5) (f + L) x) (189 + 12 * t + 6) (f + L) y) (189 + 12 * t + 4) (f + L) cnt (189 + 12 * t + 4) (f + L) = cnt := zset_same
  have u5 : zset (zset (zset X (189 + 12 * t + 5) (f + L) x) (189 + 12 * t + 6) (f + L) y) (189 + 12 * t + 4) (f + L) cnt (189 + 12 * t + 5) (f + L) = x := by rw [zset_off (by omega), zset_off (by omega), zset_same]
  have uo : ∀ a z, ¬ ((a = 189 + 12 * t + 4 ∨ a = 189 + 12 * t + 5 ∨ a = 189 + 12 * t + 6) ∧ z = f + L) → zset (zset (zset X (189 + 12 * t + 5) (f + L) x) (189 + 12 * t + 6) (f + L) y) (189 + 12 * t + 4) (f + L) cnt a z = X a z := fun a z p => by rw [zset_ne (fun q => p (by omega)), zset_ne (fun q => p (by omega)), zset_ne (fun q => p (by omega))]
  generalize zset (zset (zset X (189 + 12 * t + 5) (f + L) x) (189 + 12 * t + 6) (f + L) y) (189 + 12 * t + 4) (f + L) cnt = Z at mf' u4 u5 uo ⊢
  have old : ps_old t f L M Z := fun a z a0 a1 x0 x1 => (uo _ _ (by omega)).trans (vo _ _ (by omega) (by omega))
  have go : ∀ a z, (a < 189 + 12 * t) → Z a z = M a z := fun a z ha => (uo _ _ (by omega)).trans (vo _ _ (by omega) (by omega))
  refine hh Z ⟨lx_A_c hA (fun i _ _ => go _ _ (by omega)) (fun i _ => ⟨go _ _ (by omega), go _ _ (by omega), go _ _ (by omega)⟩), ps_R_n hR (by rw [uo _ _ (by omega)]; exact v8) old ?_, ⟨?_, ?_, ?_, ?_⟩, mf', by omega⟩ old (by rw [uo _ _ (by omega)]; exact v3)
  · have ec : ∀ j, zcd (zup st L s) (zup v L w) L j = (zsp st v L).2 (c + j) := fun j => by rw [ps_upcd, hw, show (zsp st v L).1 - cnt + j = c + j by omega]
    have st' : s < 10 := by omega
    unfold ps_N zbs
    rw [ps_up, zup_at, zup_at, hw, u4, u5, ec 0, uo (189 + 12 * t + 1) _ (by omega), uo (189 + 12 * t + 2) _ (by omega), v1, v2]
    refine ⟨by omega, rfl, rfl, by omega, fun z => by omega, fun z => by omega, fun z => by omega, fun _ => rfl, fun _ => hcnt, fun _ => by rw [Int.add_zero]; exact hx, fun j j0 j1 => ?_, fun j j0 j1 => ?_, h0⟩
    · rw [ec j, ec (j + 1)]
      have i1 := zi.2 (c + j) (by omega) (by omega)
      rw [old 7 _ (by decide) (by decide) (by omega) (by omega)]
      exact hN j j0 j1
    · rw [ec j]
      have i1 := zi.2 (c + j) (by omega) (by omega)
      rw [old 3 _ (by decide) (by decide) (by omega) (by omega)]
      exact hS j j0 j1
  · rw [go _ _ (by omega)]; exact c4
  · rw [go _ _ (by omega)]; exact c5
  · rw [go _ _ (by omega)]; exact c6
  · rw [go _ _ (by omega)]; exact c7
end PS7

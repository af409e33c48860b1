section PM6
variable {G : zG} {d : Nat} {M P : zM} {Q : zV → zM → Prop}
section AD
variable {n t p0 p1 p2 p3 p4 p5 : Int}
theorem zaC_o {a i : Int} (h1 : ¬ (20 ≤ a ∧ a ≤ 26 ∧ i = n)) (h2 : ¬ (a = 19 ∧ i = 8)) : zaC M n t p0 p1 p2 p3 p4 p5 a i = M a i := by
  unfold zaC
  rw [zset_ne (by omega), zset_ne (by omega), zset_ne (by omega), zset_ne (by omega), zset_ne (by omega), zset_ne (by omega), zset_ne (by omega), zset_ne (by omega)]
theorem zaC_r {a : Int} (h : 27 ≤ a ∨ a < 19) : zaC M n t p0 p1 p2 p3 p4 p5 a = M a := funext fun i => zaC_o (by omega) (by omega)
theorem zaC_v : zaC M n t p0 p1 p2 p3 p4 p5 20 n = 189 + 12 * t ∧ zaC M n t p0 p1 p2 p3 p4 p5 21 n = p0 ∧ zaC M n t p0 p1 p2 p3 p4 p5 22 n = p1 ∧ zaC M n t p0 p1 p2 p3 p4 p5 23 n = p2 ∧ zaC M n t p0 p1 p2 p3 p4 p5 24 n = p3 ∧ zaC M n t p0 p1 p2 p3 p4 p5 25 n = p4 ∧ zaC M n t p0 p1 p2 p3 p4 p5 26 n = p5 ∧ zaC M n t p0 p1 p2 p3 p4 p5 19 8 = n + 1 := by
  unfold zaC
  refine ⟨?_, ?_, ?_, ?_, ?_, ?_, ?_, zset_same⟩
  · rw [zset_off (by decide), zset_off (by decide), zset_off (by decide), zset_off (by decide), zset_off (by decide), zset_off (by decide), zset_off (by decide), zset_same]; omega
  · rw [zset_off (by decide), zset_off (by decide), zset_off (by decide), zset_off (by decide), zset_off (by decide), zset_off (by decide), zset_same]
  · rw [zset_off (by decide), zset_off (by decide), zset_off (by decide), zset_off (by decide), zset_off (by decide), zset_same]
  · rw [zset_off (by decide), zset_off (by decide), zset_off (by decide), zset_off (by decide), zset_same]
  · rw [zset_off (by decide), zset_off (by decide), zset_off (by decide), zset_same]
  · rw [zset_off (by decide), zset_off (by decide), zset_same]
  · rw [zset_off (by decide), zset_same]
variable {X : zM} {x fr len : Int}
theorem zaQ_r {a : Int} (h : a ≠ 246 ∧ a ≠ 247 ∧ a ≠ 248 ∧ a ≠ 235) : zaQ M X n x fr len a = M a := by
  unfold zaQ
  rw [zset_off h.2.2.2, zrow_off h.2.2.1, zrow_off h.2.1, zset_off h.1]
theorem zaQ_235 {i : Int} (h : i ≠ 0) : zaQ M X n x fr len 235 i = M 235 i := by
  unfold zaQ
  rw [zset_ne (fun z => h z.2), zrow_off (by decide), zrow_off (by decide), zset_off (by decide)]
theorem zaQ_46 {i : Int} : zaQ M X n x fr len 246 i = if i = n then len else M 246 i := by
  unfold zaQ
  rw [zset_off (by decide), zrow_off (by decide), zrow_off (by decide), zset_ap, if_pos rfl]
theorem zaQ_47 : zaQ M X n x fr len 247 = zpa (X 247) (240 * n) (fun i => X 240 (fr + i)) (2 * len) := by
  unfold zaQ
  rw [zset_off (by decide), zrow_off (by decide), zrow_row]
theorem zaQ_48 : zaQ M X n x fr len 248 = zpa (X 248) (4 * n) (fun k => X 240 (x + 8 + k)) 4 := by
  unfold zaQ
  rw [zset_off (by decide), zrow_row]
end AD
theorem k_add (hG : zP G) (hJ : zJ P) (hq : zcq P M) {t c : Int} (ht : 0 ≤ t ∧ t < P 235 6) (hc : 0 ≤ c ∧ c < P 240 (889 * t)) (hs : P 240 (889 * t + 12 * c + 1) = 0) (h : zkr G P M mX12_askMore [(2, 234), (0, t), (0, 889 * t + 1 + 12 * c), (9, 0), (9, 0), (9, 0)] zRb Q) : Y G (d + 2) mX3_add 0 [(2, 19), (2, 186 + 12 * t), (0, c)] [] M Q := by
  have X4 := (zj_C hJ).2
  have t4 : t < 4 := by have := X4.1; omega
  obtain ⟨T1, T2⟩ := X4.2 t ht.1 ht.2
  obtain ⟨-, -, xa, -⟩ := T2 c hc.1 hc.2
  obtain ⟨⟨b1, b2⟩, bq, ⟨i1, i2, i3, i4⟩, i5, i6, i7, i8⟩ := xa hs
  have hn : 0 ≤ P 235 0 ∧ P 235 0 ≤ 12 := hJ.1.1
  have x1 : 889 * t + 1 + 12 * c + 6 = 889 * t + 12 * c + 7 := by omega
  have x2 : 889 * t + 1 + 12 * c + 7 = 889 * t + 12 * c + 8 := by omega
  generalize hb : P 240 (889 * t + 12 * c + 7) = beg at *
  generalize hl : P 240 (889 * t + 12 * c + 8) - beg = len at *
  generalize hN : P 235 0 = n at *
  obtain ⟨q1, q2, q3, q4⟩ := bq
  refine s_addc hG (pt := fun j => P (188 + 12 * t) (6 * c + j)) (cnt := P 240 (889 * t)) ⟨ht.1, t4⟩ (by rw [hq 19 (by decide), (zj_j8 hJ).1]; exact hN) hn (by rw [hq _ (by omega)]; exact T1.1) hc T1.2.2 (fun j j0 j1 => by rw [hq _ (by omega)]) (fun c0 => ?_) (fun c0 => ?_)
  · have hP : ∃ P', P' = zaQ (zaC P n t (P (188 + 12 * t) (6 * c + 0)) (P (188 + 12 * t) (6 * c + 1)) (P (188 + 12 * t) (6 * c + 2)) (P (188 + 12 * t) (6 * c + 3)) (P (188 + 12 * t) (6 * c + 4)) (P (188 + 12 * t) (6 * c + 5))) P n (889 * t + 1 + 12 * c) (889 * t + 289 + 2 * beg) len := ⟨_, rfl⟩
    obtain ⟨P', hP⟩ := hP
    rw [Int.add_zero] at hP
    rw [b1, b2] at hP
    have hf : zfr zaddF P P' := by
      rw [hP]
      unfold zaQ zaC
      exact zfr_set (zfr_row (zfr_row (zfr_set (zfr_set (zfr_set (zfr_set (zfr_set (zfr_set (zfr_set (zfr_set (zfr_set zfr_rfl (zhit_at 0 rfl (by omega))) (zhit_at 1 rfl (by omega))) (zhit_at 2 rfl (by omega))) (zhit_at 3 rfl (by omega))) (zhit_at 4 rfl (by omega))) (zhit_at 5 rfl (by omega))) (zhit_at 6 rfl (by omega))) (zhit_at 7 rfl (by decide))) (zhit_at 8 rfl (by omega))) 9 rfl) 10 rfl) (zhit_at 11 rfl (by decide))
    have rc : ∀ a, a ≤ 233 → P' a = zaC P n t beg (beg + len - 1) (P (188 + 12 * t) (6 * c + 2)) (P (188 + 12 * t) (6 * c + 3)) (P (188 + 12 * t) (6 * c + 4)) (P (188 + 12 * t) (6 * c + 5)) a := fun a ha => by
      rw [hP, zaQ_r (by omega), show P 240 (889 * t + 12 * c + 8) - 1 = beg + len - 1 by omega]
    have rr : ∀ a, 27 ≤ a → a ≤ 233 → P' a = P a := fun a a0 a1 => (rc a a1).trans (zaC_r (by omega))
    obtain ⟨v0, v1, v2, v3, v4, v5, v6, v8⟩ := zaC_v (M := P) (n := n) (t := t) (p0 := beg) (p1 := beg + len - 1) (p2 := P (188 + 12 * t) (6 * c + 2)) (p3 := P (188 + 12 * t) (6 * c + 3)) (p4 := P (188 + 12 * t) (6 * c + 4)) (p5 := P (188 + 12 * t) (6 * c + 5))
    have e20 : P' 20 n = 189 + 12 * t := by rw [rc 20 (by decide)]; exact v0
    have e21 : P' 21 n = beg := by rw [rc 21 (by decide)]; exact v1
    have e22 : P' 22 n = beg + len - 1 := by rw [rc 22 (by decide)]; exact v2
    have e23 : P' 23 n = P (188 + 12 * t) (6 * c + 2) := by rw [rc 23 (by decide)]; exact v3
    have e24 : P' 24 n = P (188 + 12 * t) (6 * c + 3) := by rw [rc 24 (by decide)]; exact v4
    have e25 : P' 25 n = P (188 + 12 * t) (6 * c + 4) := by rw [rc 25 (by decide)]; exact v5
    have e26 : P' 26 n = P (188 + 12 * t) (6 * c + 5) := by rw [rc 26 (by decide)]; exact v6
    have e46 : P' 246 n = len := by rw [hP, zaQ_46, if_pos rfl]
    have e47 : P' 247 = zpa (P 247) (240 * n) (fun i => P 240 (889 * t + 289 + 2 * beg + i)) (2 * len) := by rw [hP, zaQ_47]
    have e48 : P' 248 = zpa (P 248) (4 * n) (fun k => P 240 (889 * t + 1 + 12 * c + 8 + k)) 4 := by rw [hP, zaQ_48]
    have e6 : P' 235 6 = P 235 6 := by rw [hP, zaQ_235 (by decide), zaC_r (by decide)]
    have i46 : ∀ i, 0 ≤ i → i < n → P' 246 i = P 246 i := fun i _ i1 => by rw [hP, zaQ_46, if_neg (by omega), zaC_r (by decide)]
    have i47 : ∀ i, 0 ≤ i → i < 240 * n → P' 247 i = P 247 i := fun i _ i1 => by rw [e47, zpa_out (by omega)]
    have i48 : ∀ i, 0 ≤ i → i < 4 * n → P' 248 i = P 248 i := fun i _ i1 => by rw [e48, zpa_out (by omega)]
    have k48 : ∀ k, 0 ≤ k → k < 4 → P' 248 (4 * n + k) = P 240 (889 * t + 12 * c + 9 + k) := fun k k0 k1 => by
      rw [e48, zpa_in (by omega)]
      show P 240 (889 * t + 1 + 12 * c + 8 + (4 * n + k - 4 * n)) = _
      rw [show 889 * t + 1 + 12 * c + 8 + (4 * n + k - 4 * n) = 889 * t + 12 * c + 9 + k by omega]
    have ev : ∀ k : Nat, (k : Int) < len → P' 247 (240 * n + 2 * (k : Int)) = zXs P t beg k ∧ P' 247 (240 * n + 2 * (k : Int) + 1) = zXv P t beg k := fun k hk => by
      rw [e47, zpa_in (by omega), zpa_in (by omega)]
      refine ⟨?_, ?_⟩
      · show P 240 (889 * t + 289 + 2 * beg + (240 * n + 2 * (k : Int) - 240 * n)) = P 240 (889 * t + 289 + 2 * (beg + k))
        rw [show 889 * t + 289 + 2 * beg + (240 * n + 2 * (k : Int) - 240 * n) = 889 * t + 289 + 2 * (beg + k) by omega]
      · show P 240 (889 * t + 289 + 2 * beg + (240 * n + 2 * (k : Int) + 1 - 240 * n)) = P 240 (889 * t + 289 + 2 * (beg + k) + 1)
        rw [show 889 * t + 289 + 2 * beg + (240 * n + 2 * (k : Int) + 1 - 240 * n) = 889 * t + 289 + 2 * (beg + k) + 1 by omega]
    have J : zJn P P' := by
      have k0 := k48 0 (by decide) (by decide)
      rw [Int.add_zero, Int.add_zero] at k0
      have k1 := k48 1 (by decide) (by decide)
      have k2 := k48 2 (by decide) (by decide)
      have k3 := k48 3 (by decide) (by decide)
      rw [show 889 * t + 12 * c + 9 + 1 = 889 * t + 12 * c + 10 by omega] at k1
      rw [show 889 * t + 12 * c + 9 + 2 = 889 * t + 12 * c + 11 by omega] at k2
      rw [show 889 * t + 12 * c + 9 + 3 = 889 * t + 12 * c + 12 by omega] at k3
      refine J_add hJ hf (by omega) ?_ ?_ ?_ ?_ ?_ ?_ ?_ ?_ <;> rw [hN]
      · rw [hP]; exact zset_same
      · rw [rc 19 (by decide)]; exact v8
      · intro a i a0 a1 i0 i1
        rw [rc a (by omega)]; exact zaC_o (by omega) (by omega)
      · exact i46
      · exact i47
      · exact i48
      · unfold zQq
        rw [e20, e21, e22, e46, e6, rr (189 + 12 * t) (by omega) (by omega), rr (189 + 12 * t + 1) (by omega) (by omega), rr (189 + 12 * t + 2) (by omega) (by omega), rr (189 + 12 * t + 3) (by omega) (by omega), rr (189 + 12 * t + 4) (by omega) (by omega), rr (189 + 12 * t + 5) (by omega) (by omega), rr (189 + 12 * t + 7) (by omega) (by omega)]
        refine ⟨⟨t, ht.1, ht.2, t4, rfl⟩, ⟨by omega, by omega, by omega, rfl, by omega, by omega⟩, zQC_e ⟨by omega, by omega⟩ (fun x x0 x1 => ⟨rfl, rfl, rfl, rfl, rfl, rfl⟩) ev q2, ?_, ?_⟩
        · rw [zlc_e (st := zXs P t beg) _ (fun k hk => (ev k (by omega)).1)]; exact q3
        · rw [zhv_e (st := zXs P t beg) (v := zXv P t beg) _ (fun k hk => ev k (by omega))]; exact q4
      · rw [e23, e24, e25, e26, k0, k1, k2, k3]
        exact ⟨⟨i1, i2, i3, i4⟩, i5, i6, i7, i8⟩
    refine h _ P' 1 (by decide) (zcm_set (zcm_set (zcm_set (zcm_set (zcm_set (zcm_set (zcm_set (zcm_set zcm_rf (by decide)) (by decide)) (by decide)) (by decide)) (by decide)) (by decide)) (by decide)) (by decide)) ?_ J.1 ⟨⟨e6, fun i _ _ => by rw [hP, zaQ_r (by decide), zaC_r (by decide)], ?_, fun q q0 q1 => ?_⟩, ?_⟩ (fun d X Q hX hh => ?_)
    · rw [hP, Int.add_zero, b1, b2]
      exact zcq_md (zcq_mr (zcq_mr (zcq_md (zcq_set (zcq_set (zcq_set (zcq_set (zcq_set (zcq_set (zcq_set (zcq_set hq)))))))) (by decide)) (by decide)) (by decide)) (by decide)
    · rw [hP, hN, show zaQ (zaC P n t beg (P 240 (889 * t + 12 * c + 8) - 1) (P (188 + 12 * t) (6 * c + 2)) (P (188 + 12 * t) (6 * c + 3)) (P (188 + 12 * t) (6 * c + 4)) (P (188 + 12 * t) (6 * c + 5))) P n (889 * t + 1 + 12 * c) (889 * t + 289 + 2 * beg) len 235 0 = n + 1 from zset_same]
      omega
    · rw [hN] at q1
      exact ⟨i46 q q0 q1, fun i i0 i1 => i47 _ (by omega) (by omega)⟩
    · rw [rc 2 (by decide), zaC_r (by decide)]; omega
    · have s4 := zmq_sm (S := [(240, 0, 3556), (247, 0, 1000000), (248, 0, 1000000)]) hX.1 (by decide) (by decide)
      have e40 : ∀ i, 0 ≤ i → i < 3556 → X 240 i = P 240 i := fun i i0 i1 => s4 _ _ (zhit_at 0 rfl ⟨i0, i1⟩)
      refine m_add (beg := beg) hG ⟨ht.1, t4⟩ (by omega) (by rw [zpq_235 hX 0 (by decide) (by decide)]; exact hN) hn (by rw [x1, e40 _ (by omega) (by omega)]; exact hb) (len := len) (by rw [x2, e40 _ (by omega) (by omega)]; omega) ⟨by omega, by omega, by omega, by omega⟩ (fun _ => hh _ ?_ (zcz_set (zcz_row (zcz_row (zcz_set zcz_rf (by decide)) (by decide)) (by decide)) (by decide))) (fun z => by omega)
      rw [hP]
      refine zmq_set (zmq_rw (zmq_rw (zmq_set (zmq_cl (zmq_cl (zmq_cl (zmq_cl (zmq_cl (zmq_cl (zmq_cl (zmq_cl hX.1 (by decide)) (by decide)) (by decide)) (by decide)) (by decide)) (by decide)) (by decide)) (by decide))) (fun i i0 i1 => ?_)) (fun i i0 i1 => ?_))
      · unfold zpa
        split
        · exact e40 _ (by omega) (by omega)
        · exact s4 _ _ (zhit_at 1 rfl ⟨i0, i1⟩)
      · unfold zpa
        split
        · exact e40 _ (by omega) (by omega)
        · exact s4 _ _ (zhit_at 2 rfl ⟨i0, i1⟩)
  · refine zkr_no hJ hq h (by decide) (fun d X Q hX hh => ?_)
    have s4 := zmq_sm (S := [(240, 0, 3556)]) hX.1 (by decide) (by decide)
    have e40 : ∀ i, 0 ≤ i → i < 3556 → X 240 i = P 240 i := fun i i0 i1 => s4 _ _ (zhit_at 0 rfl ⟨i0, i1⟩)
    exact m_add (beg := beg) hG ⟨ht.1, t4⟩ (by omega) (by rw [zpq_235 hX 0 (by decide) (by decide)]; exact hN) hn (by rw [x1, e40 _ (by omega) (by omega)]; exact hb) (len := len) (by rw [x2, e40 _ (by omega) (by omega)]; omega) ⟨by omega, by omega, by omega, by omega⟩ (fun z => by omega) (fun _ => hh X hX.1 zcz_rf)
end PM6

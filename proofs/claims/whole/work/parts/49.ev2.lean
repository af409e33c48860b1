section EW
variable {G : zG} {d : Nat} {M : zM} {Q : zV → zM → Prop}
theorem s_isSo (hG : zP G) {v x y : Int} (hv : 0 ≤ v ∧ v ≤ 5) (h1 : zhs v x y → Q (0, 1) M) (h0 : ¬ zhs v x y → Q (0, 0) M) : Y G d mX12_isSo 0 [(0, v), (1, x), (9, 0), (1, y), (9, 0)] [] M Q := by
  refine bX12_isSo_0 hG ?_
  rw [zlcmp_lt, zlcmp_le, zlcmp_gt, zlcmp_ge, zlcmp_eq]
  refine ⟨fun e => ?_, fun e => ?_, fun e => ?_, fun e => ?_, fun e => ?_, fun e => ?_⟩
  all_goals
    refine ⟨fun c => ?_, fun c => ?_⟩
    all_goals first | exact h0 (by omega) | exact h1 (by omega)
/-- the model's tables stand -/
def zME (M : zM) : Prop := zE 8 (M 235 1) (M 237) (zmB 8 (M 235 1) (zk0 (M 235))) ∧ zE 6 6 (M 238) (zmB 6 6 (zw0 (M 235)))
theorem s_kidsL (hG : zP G) {st x p : Int} (hA : 0 ≤ M 235 1 ∧ M 235 1 ≤ 8) (h : Q (1, zch (M 235) p (M 235 1).toNat) M) : ∀ (k j : Nat), (j : Int) + k = M 235 1 → Y G (d + 1) mX12_ofOne 51 [(2, 234), (0, st), (1, x), (9, 0), (0, p), (0, zch (M 235) p j), (0, (j : Int))] [] M Q
  | 0, j, hj => bX12_ofOne_51 hG ⟨fun _ => by rw [show j = (M 235 1).toNat by omega]; exact h, fun c => absurd c (by omega)⟩
  | k + 1, j, hj => by
    have b := zch_b (M 235) p j
    have go : ∀ y, y = zch (M 235) p (j + 1) → Y G (d + 1) mX12_ofOne 51 [(2, 234), (0, st), (1, x), (9, 0), (0, p), (0, y), (0, (j : Int) + 1)] [] M Q := fun y hy => by
      subst hy
      exact s_kidsL hG hA h k (j + 1) (by omega)
    have e : zch (M 235) p (j + 1) = zch (M 235) p j + if zic (M 235) j p then 1 else 0 := rfl
    refine bX12_ofOne_51 hG ⟨fun c => absurd c (by omega), fun _ => s_isChild hG ⟨by omega, by omega⟩ (fun q => ?_) (fun q => ?_)⟩
    · exact bX12_ofOne_72 hG ⟨fun w => absurd w (by decide), fun _ => ⟨by omega, by omega, go _ (by rw [e, if_pos q])⟩⟩
    · exact bX12_ofOne_72 hG ⟨fun _ => ⟨by omega, by omega, go _ (by rw [e, if_neg q])⟩, fun w => absurd rfl w⟩
theorem s_ofOne (hG : zP G) {th : Int → Int} {st v : Int} {c : Int → Int} (hA : zVA (M 235)) (hs : st = 4 ∨ st = 5) (hc : zb6 (c 0)) (h : Q (1, zev (M 235) th st v c) M) : Y G (d + 1) mX12_ofOne 0 [(2, 234), (0, st), (1, c 0), (9, 0), (9, 0), (9, 0), (9, 0)] [] M Q := by
  have n1 := hA.2.1.1
  have ew : zw (c 0) = c 0 := zw_of (by show -2147483648 ≤ _ ∧ _ ≤ 2147483647; unfold zb6 at hc; omega)
  unfold zev at h
  rw [if_neg (by omega), if_neg (by omega), if_neg (by omega), if_neg (by omega)] at h
  refine bX12_ofOne_0 hG ?_
  rw [zlcmp_lt, zlcmp_ge, zlcmp_lt, zlcmp_ge, ew]
  refine ⟨fun q => ?_, fun q => ⟨fun q2 => ⟨fun e => ?_, fun e => ⟨by omega, by omega, by omega, ?_⟩⟩, fun q2 => ?_⟩⟩
  · rcases hs with e | e
    · rw [if_pos e, if_neg (by omega)] at h; exact h
    · rw [if_neg (by omega), if_pos e, if_neg (by omega)] at h; exact h
  · rw [if_neg e, if_pos (by omega), if_pos ⟨q, q2⟩] at h
    exact s_kidsL hG n1 h (M 235 1).toNat 0 (by omega)
  · rw [if_pos e, if_pos ⟨q, q2⟩] at h; exact h
  · rcases hs with e | e
    · rw [if_pos e, if_neg (by omega)] at h; exact h
    · rw [if_neg (by omega), if_pos e, if_neg (by omega)] at h; exact h
theorem s_ofTwo (hG : zP G) {th : Int → Int} {st v : Int} {c : Int → Int} (hA : zVA (M 235)) (hE : zME M) (hs : 6 ≤ st ∧ st ≤ 9) (hc : zb6 (c 0)) (hd : zb6 (c 1)) (h : Q (1, zev (M 235) th st v c) M) : Y G (d + 1) mX12_ofTwo 0 [(2, 234), (0, st), (1, c 0), (9, 0), (1, c 1), (9, 0)] [] M Q := by
  have n1 := hA.2.1.1
  have ew : zw (c 0) = c 0 := zw_of (by show -2147483648 ≤ _ ∧ _ ≤ 2147483647; unfold zb6 at hc; omega)
  have ew1 : zw (c 1) = c 1 := zw_of (by show -2147483648 ≤ _ ∧ _ ≤ 2147483647; unfold zb6 at hd; omega)
  unfold zev at h
  rw [if_neg (by omega), if_neg (by omega), if_neg (by omega), if_neg (by omega), if_neg (by omega), if_neg (by omega)] at h
  refine bX12_ofTwo_0 hG ?_
  simp only [zlcmp_lt, zlcmp_ge, zlcmp_le, zlcmp_gt, ew, ew1]
  refine ⟨fun e => ?_, fun e => ?_, fun e => ?_, fun e => ?_⟩
  · rw [if_pos e] at h
    unfold zkI at h
    refine ⟨fun q => ?_, fun q => ⟨fun q => ?_, fun q => ⟨fun q => ?_, fun q => ⟨fun q => ⟨by omega, by omega, by omega, ?_⟩, fun q => ?_⟩⟩⟩⟩
    · rw [if_neg (by omega)] at h; exact h
    · rw [if_neg (by omega)] at h; exact h
    · rw [if_neg (by omega)] at h; exact h
    · rw [if_pos (by omega), ← hE.1 (c 0) (c 1) (by omega) (by omega) (by omega) (by omega)] at h; exact h
    · rw [if_neg (by omega)] at h; exact h
  · rw [if_neg (by omega), if_pos e] at h
    unfold zwI at h
    refine ⟨fun q => ?_, fun q => ⟨fun q => ?_, fun q => ⟨fun q => ?_, fun q => ⟨fun q => ⟨by omega, by omega, by omega, ?_⟩, fun q => ?_⟩⟩⟩⟩
    · rw [if_neg (by omega)] at h; exact h
    · rw [if_neg (by omega)] at h; exact h
    · rw [if_neg (by omega)] at h; exact h
    · rw [if_pos (by omega), ← hE.2 (c 0) (c 1) (by omega) (by omega) (by omega) (by omega)] at h; exact h
    · rw [if_neg (by omega)] at h; exact h
  · rw [if_neg (by omega), if_neg (by omega), if_pos e] at h
    refine ⟨fun q => ?_, fun q => ?_⟩
    · rw [show max (c 0) (c 1) = c 1 by omega] at h; exact h
    · rw [show max (c 0) (c 1) = c 0 by omega] at h; exact h
  · rw [if_neg (by omega), if_neg (by omega), if_neg (by omega), if_pos (by omega)] at h
    refine ⟨fun q => ?_, fun q => ?_⟩
    · rw [show min (c 0) (c 1) = c 1 by omega] at h; exact h
    · rw [show min (c 0) (c 1) = c 0 by omega] at h; exact h
theorem s_sumM (hG : zP G) {q n k v : Int} {p : Nat} {V : Int → Int} (hp : p ≤ 300) (hn : 0 ≤ n ∧ n + p ≤ 130) (hV : ∀ j : Nat, j < p → zb6 (V (n + j))) (h : Y G (d + 1) mX12_answerOf 345 [(2, 234), (0, q), (0, n), (0, k), (0, 2), (0, v), (0, (p : Int)), (1, zsu v (fun j => V (n + j)) p), (9, 0), (9, 0)] [] (zrow M 250 V) Q) : ∀ (r j : Nat), j + r = p → Y G (d + 1) mX12_answerOf 165 [(2, 234), (0, q), (0, n), (0, k), (0, 2), (0, v), (0, (p : Int)), (1, zsu v (fun j => V (n + j)) j), (9, 0), (0, (j : Int))] [] (zrow M 250 V) Q
  | 0, j, hj => by
    have : j = p := by omega
    subst this
    exact bX12_answerOf_165 hG ⟨fun _ => h, fun c => absurd c (by omega)⟩
  | r + 1, j, hj => by
    have b1 := hV j (by omega)
    have b2 := zsu_b v (fun j => V (n + j)) j
    have go : ∀ y, y = zsu v (fun j => V (n + j)) (j + 1) → Y G (d + 1) mX12_answerOf 165 [(2, 234), (0, q), (0, n), (0, k), (0, 2), (0, v), (0, (p : Int)), (1, y), (9, 0), (0, (j : Int) + 1)] [] (zrow M 250 V) Q := fun y hy => by
      subst hy
      exact s_sumM hG hp hn hV h r (j + 1) (by omega)
    have e1 : zsu v (fun j => V (n + j)) (j + 1) = zcl (zsu v (fun j => V (n + j)) j + if zsg v j then -(V (n + j)) else V (n + j)) := rfl
    unfold zb6 at b1 b2
    refine bX12_answerOf_165 hG ⟨fun c => absurd c (by omega), fun _ => ⟨fun _ => ⟨fun c => ?_, fun c => ?_⟩, fun c => absurd c (by decide)⟩⟩
    · have c' : zsg v j := c
      rw [zrow_at]
      exact ⟨by omega, by omega, zin1 (by omega), by omega, go _ (by rw [e1, if_pos c']; rfl)⟩
    · have c' : ¬ zsg v j := c
      rw [zrow_at]
      exact ⟨by omega, by omega, zin1 (by omega), by omega, go _ (by rw [e1, if_neg c'])⟩
theorem s_prodM (hG : zP G) {q n k v : Int} {p : Nat} {V : Int → Int} (hp : p ≤ 300) (hn : 0 ≤ n ∧ n + p ≤ 130) (hV : ∀ j : Nat, j < p → zb6 (V (n + j))) (h : Y G (d + 1) mX12_answerOf 345 [(2, 234), (0, q), (0, n), (0, k), (0, 3), (0, v), (0, (p : Int)), (1, zpd (fun j => V (n + j)) p), (9, 0), (9, 0)] [] (zrow M 250 V) Q) : ∀ (r j : Nat), j + r = p → Y G (d + 1) mX12_answerOf 165 [(2, 234), (0, q), (0, n), (0, k), (0, 3), (0, v), (0, (p : Int)), (1, zpd (fun j => V (n + j)) j), (9, 0), (0, (j : Int))] [] (zrow M 250 V) Q
  | 0, j, hj => by
    have : j = p := by omega
    subst this
    exact bX12_answerOf_165 hG ⟨fun _ => h, fun c => absurd c (by omega)⟩
  | r + 1, j, hj => by
    have b1 := hV j (by omega)
    have b2 := zpd_b (fun j => V (n + j)) j
    have b3 := zb6_mul b2 b1
    refine bX12_answerOf_165 hG ⟨fun c => absurd c (by omega), fun _ => ⟨fun c => absurd rfl c, fun _ => ?_⟩⟩
    rw [zrow_at]
    exact ⟨by omega, by omega, zin1 (by omega), by omega, s_prodM hG hp hn hV h r (j + 1) (by omega)⟩
/-- steps that may be -/
def zwf (st v : Int → Int) (len : Int) : Prop := (∀ k : Nat, (k : Int) < len → (0 ≤ st k ∧ st k ≤ 10) ∧ (0 ≤ zpn (st k) (v k) ∧ 0 ≤ zbs st v k) ∧ (st k = 0 → 0 ≤ v k ∧ v k ≤ 99) ∧ (st k = 1 → 0 ≤ v k ∧ v k ≤ 3) ∧ (st k = 10 → 0 ≤ v k ∧ v k ≤ 5) ∧ (st k = 2 ∨ st k = 3 → 2 ≤ zpn (st k) (v k) ∧ zpn (st k) (v k) ≤ 16) ∧ (st k = 2 → ¬ zsg (v k) 0)) ∧ (zsp st v len.toNat).1 = 1
theorem zQC_wf {K V S C F N st v : Int → Int} {f len : Int} (h : zQC K V S C F N st v f len) : zwf st v len := by
  refine ⟨fun k hk => ?_, h.2⟩
  obtain ⟨q1, q2, q3, q4, q5, q6, q7, q8, q9, q10, q11, q12, q13⟩ := h.1 k hk
  exact ⟨q1, q4, fun e => (q5 e).2, fun e => (q6 e).2, fun e => (q7 e).2, q9, q13⟩
theorem zwf_ok {st v : Int → Int} {len : Int} (h : zwf st v len) : zok st v len := fun k hk => by
  obtain ⟨q1, q2, q3, q4, -⟩ := h.1 k hk
  exact ⟨q1, q3, q4⟩
theorem zsp_le {st v : Int → Int} : ∀ (n : Nat), (∀ k : Nat, k < n → 0 ≤ zpn (st k) (v k)) → (zsp st v n).1 ≤ n
  | 0, _ => by show (0 : Int) ≤ 0; omega
  | n + 1, h => by
    have := zsp_le n (fun k hk => h k (by omega))
    have := h n (by omega)
    show (zsp st v n).1 - zpn (st n) (v n) + 1 ≤ ((n + 1 : Nat) : Int)
    omega
theorem s_ansL (hG : zP G) {q len : Int} {th : Int → Int} (hq : 0 ≤ q ∧ q < 12) (hl : M 246 q = len) (hlen : 1 ≤ len ∧ len ≤ 120) (hA : zVA (M 235)) (hE : zME M) (hth : ∀ t, 0 ≤ t → t < 4 → M 249 t = th t ∧ 0 ≤ th t ∧ th t ≤ 99) {st v : Int → Int} (hst : ∀ k, M 247 (240 * q + 2 * k) = st k) (hv : ∀ k, M 247 (240 * q + 2 * k + 1) = v k) (hw : zwf st v len) (h : ∀ V, Q (1, zvt (M 235) th st v len.toNat (len - 1)) (zrow M 250 V)) : ∀ (r k : Nat) (V : Int → Int), (k : Int) + r = len → (∀ m, 0 ≤ m → m < (zsp st v k).1 → V m = zvt (M 235) th st v k ((zsp st v k).2 m)) → Y G (d + 2) mX12_answerOf 4 [(2, 234), (0, q), (0, (zsp st v k).1), (0, (k : Int)), (9, 0), (9, 0), (9, 0), (9, 0), (9, 0), (9, 0)] [] (zrow M 250 V) Q
  | 0, k, V, hk, hV => by
    have ek : len.toNat = k := by omega
    have n1 := hw.2
    rw [ek] at n1 h
    have e0 := hV 0 (by omega) (by omega)
    obtain ⟨k', rfl⟩ : ∃ k', k = k' + 1 := ⟨k - 1, by omega⟩
    have n1' : (zsp st v k').1 - zpn (st k') (v k') + 1 = 1 := n1
    have e1 : (zsp st v (k' + 1)).2 0 = k' := by
      show zup (zsp st v k').2 ((zsp st v k').1 - zpn (st k') (v k')) k' 0 = k'
      rw [show (zsp st v k').1 - zpn (st k') (v k') = 0 by omega, zup_at]
    rw [e1] at e0
    refine bX12_answerOf_4 hG ⟨hq, fun _ => ?_, fun c => absurd c (by rw [zrow_off (by decide), hl]; omega)⟩
    rw [zrow_at, e0]
    have := h V
    rw [show len - 1 = (k' : Int) by omega] at this
    exact this
  | r + 1, k, V, hk, hV => by
    obtain ⟨q1, q2, q3, q4, q5, q6, q7⟩ := hw.1 k (by omega)
    have nl := zsp_le k (fun i hi => (hw.1 i (by omega)).2.1.1) (st := st) (v := v)
    have ni := zsp_in k (fun i hi => (hw.1 i (by omega)).2.1) (st := st) (v := v)
    have q2' := q2.2
    unfold zbs at q2'
    have hb := zvt_b hA (fun t t0 t1 => (hth t t0 t1).2) (zwf_ok hw) k (by omega)
    have cv : ∀ j, 0 ≤ j → j < zpn (st k) (v k) → V (zbs st v k + j) = zvt (M 235) th st v k (zcd st v k j) := fun j j0 j1 => hV _ (by unfold zbs; omega) (by unfold zbs; omega)
    have cb : ∀ j, 0 ≤ j → j < zpn (st k) (v k) → zb6 (V (zbs st v k + j)) := fun j j0 j1 => by rw [cv j j0 j1]; exact hb _
    have go : ∀ a y, y = zvt (M 235) th st v (k + 1) k → a = zbs st v k → Y G (d + 2) mX12_answerOf 4 [(2, 234), (0, q), (0, a + 1), (0, (k : Int) + 1), (9, 0), (9, 0), (9, 0), (9, 0), (9, 0), (9, 0)] [] (zset (zrow M 250 V) 250 a y) Q := fun a y hy ha => by
      subst ha
      rw [zset_row]
      have e : zbs st v k + 1 = (zsp st v (k + 1)).1 := rfl
      rw [e, show (k : Int) + 1 = ((k + 1 : Nat) : Int) by omega]
      refine s_ansL hG hq hl hlen hA hE hth hst hv hw h r (k + 1) _ (by omega) (fun m m0 m1 => ?_)
      have m1' : m < zbs st v k + 1 := m1
      have e2 : (zsp st v (k + 1)).2 m = zup (zsp st v k).2 (zbs st v k) k m := rfl
      rw [e2]
      by_cases c : m = zbs st v k
      · rw [c, zup_at, zup_at, hy]
      · have c2 := c
        unfold zbs at c2 m1'
        have := ni.2 m m0 (by omega)
        rw [zup_ne c, zup_ne c, zvt_ne (by omega)]
        exact hV m m0 (by omega)
    have fin : ∀ x4 x5 x6 a y, y = zev (M 235) th (st k) (v k) (fun j => V (zbs st v k + j)) → a = zbs st v k → Y G (d + 2) mX12_answerOf 345 [(2, 234), (0, q), (0, a), (0, (k : Int)), (0, x4), (0, x5), (0, x6), (1, y), (9, 0), (9, 0)] [] (zrow M 250 V) Q := fun x4 x5 x6 a y hy ha =>
      bX12_answerOf_345 hG ⟨by rw [ha]; unfold zbs; omega, by rw [ha]; unfold zbs; omega, by omega, go a y (by rw [hy, zvt_at]; exact zev_c q1 cv) ha⟩
    have hE' : zME (zrow M 250 V) := by unfold zME at *; rw [zrow_off (by decide), zrow_off (by decide), zrow_off (by decide)]; exact hE
    have r35 : zrow M 250 V 235 = M 235 := zrow_off (by decide)
    have hA' : zVA (zrow M 250 V 235) := by rw [r35]; exact hA
    refine bX12_answerOf_4 hG ?_
    simp only [zrow_ap, Int.reduceEq, ↓reduceIte, hl, hst, hv]
    refine ⟨hq, fun c => absurd c (by omega), fun _ => ?_⟩
    generalize ha : st k = a at *
    have hcases : a = 0 ∨ a = 1 ∨ a = 2 ∨ a = 3 ∨ a = 4 ∨ a = 5 ∨ a = 6 ∨ a = 7 ∨ a = 8 ∨ a = 9 ∨ a = 10 := by omega
    rcases hcases with rfl | rfl | rfl | rfl | rfl | rfl | rfl | rfl | rfl | rfl | rfl
    · have eb : zbs st v k = (zsp st v k).1 - 0 := by unfold zbs; rw [ha]; rfl
      simp only [Int.reduceLE, Int.reduceLT, Int.reduceEq, not_true_eq_false, not_false_eq_true, true_and, and_true, false_implies, true_implies, implies_true]
      exact ⟨by omega, by omega, by omega, by omega, by omega, by omega, by omega, by omega, by omega, by omega, fin _ _ _ _ _ (by unfold zev; rfl) eb.symm⟩
    · have eb : zbs st v k = (zsp st v k).1 - 0 := by unfold zbs; rw [ha]; rfl
      simp only [Int.reduceLE, Int.reduceLT, Int.reduceEq, not_true_eq_false, not_false_eq_true, true_and, and_true, false_implies, true_implies, implies_true]
      exact ⟨by omega, by omega, by omega, by omega, by omega, by omega, by omega, by omega, by omega, by omega, by have := q4 rfl; omega, fin _ _ _ _ _ (by unfold zev; rw [(hth (v k) (q4 rfl).1 (by have := q4 rfl; omega)).1]; rfl) eb.symm⟩
    · have eb : zbs st v k = (zsp st v k).1 - zand (v k) 255 := by unfold zbs; rw [ha]; rfl
      have p6 := q6 (Or.inl rfl)
      have ep : zpn 2 (v k) = zand (v k) 255 := rfl
      rw [ep] at p6 q2 q2' cb
      simp only [Int.reduceLE, Int.reduceLT, Int.reduceEq, not_true_eq_false, not_false_eq_true, true_and, and_true, false_implies, true_implies, implies_true]
      rw [← eb]
      refine ⟨by omega, by omega, by omega, by omega, by omega, by omega, by omega, by omega, by omega, by rw [eb]; omega, by rw [eb]; omega, bX12_answerOf_162 hG ?_⟩
      have s1 : zsu (v k) (fun j => V (zbs st v k + j)) 1 = V (zbs st v k) := by
        have c0 := cb 0 (by omega) (by omega)
        show zcl (0 + if zsg (v k) 0 then _ else _) = _
        rw [if_neg (q7 rfl)]
        have : zbs st v k + 0 = zbs st v k := by omega
        rw [this] at c0
        show zcl (0 + V (zbs st v k + 0)) = _
        rw [this, show 0 + V (zbs st v k) = V (zbs st v k) by omega, zcl_id c0]
      have := s_sumM (d := d + 1) (M := M) (Q := Q) (q := q) (n := zbs st v k) (k := k) (v := v k) (p := (zand (v k) 255).toNat) (V := V) hG (by omega) (by rw [eb]; omega) (fun j hj => cb j (by omega) (by omega)) (fin _ _ _ _ _ (by unfold zev; rfl) rfl) ((zand (v k) 255).toNat - 1) 1 (by omega)
      rw [s1, show (((zand (v k) 255).toNat : Nat) : Int) = zand (v k) 255 by omega] at this
      exact this
    · have eb : zbs st v k = (zsp st v k).1 - v k := by unfold zbs; rw [ha]; rfl
      have p6 := q6 (Or.inr rfl)
      have ep : zpn 3 (v k) = v k := rfl
      rw [ep] at p6 q2 q2' cb
      simp only [Int.reduceLE, Int.reduceLT, Int.reduceEq, not_true_eq_false, not_false_eq_true, true_and, and_true, false_implies, true_implies, implies_true]
      rw [← eb]
      refine ⟨by omega, by omega, by omega, by omega, by omega, by omega, by omega, by omega, by omega, by rw [eb]; omega, by rw [eb]; omega, bX12_answerOf_162 hG ?_⟩
      have s1 : zpd (fun j => V (zbs st v k + j)) 1 = V (zbs st v k) := by
        have c0 := cb 0 (by omega) (by omega)
        have : zbs st v k + 0 = zbs st v k := by omega
        rw [this] at c0
        show zcl (1 * V (zbs st v k + 0)) = _
        rw [this, show 1 * V (zbs st v k) = V (zbs st v k) by omega, zcl_id c0]
      have := s_prodM (d := d + 1) (M := M) (Q := Q) (q := q) (n := zbs st v k) (k := k) (v := v k) (p := (v k).toNat) (V := V) hG (by omega) (by rw [eb]; omega) (fun j hj => cb j (by omega) (by omega)) (fin _ _ _ _ _ (by unfold zev; rfl) rfl) ((v k).toNat - 1) 1 (by omega)
      rw [s1, show (((v k).toNat : Nat) : Int) = v k by omega] at this
      exact this
    · have eb : zbs st v k = (zsp st v k).1 - 1 := by unfold zbs; rw [ha]; rfl
      have ep : zpn 4 (v k) = 1 := rfl
      rw [ep] at q2 q2' cb
      simp only [Int.reduceLE, Int.reduceLT, Int.reduceEq, not_true_eq_false, not_false_eq_true, true_and, and_true, false_implies, true_implies, implies_true]
      rw [← eb]
      refine ⟨by omega, by omega, by omega, by omega, by omega, by omega, by omega, by omega, by omega, by rw [eb]; omega, by rw [eb]; omega, bX12_answerOf_259 hG ?_⟩
      have := s_ofOne (d := d) (M := zrow M 250 V) (th := th) (st := 4) (v := v k) (c := fun j => V (zbs st v k + j)) (Q := fun r M' => Y G (d + 2) mX12_answerOf 267 [(2, 234), (0, q), (0, zbs st v k), (0, (k : Int)), (0, 4), (0, v k), (0, 1), (1, V (zbs st v k)), (9, 0), (9, 0)] (zpush r []) M' Q) hG hA' (by omega) (cb 0 (by omega) (by omega)) (bX12_answerOf_267 hG (fin _ _ _ _ _ (by rw [r35]) rfl))
      simp only [Int.add_zero] at this
      exact this
    · have eb : zbs st v k = (zsp st v k).1 - 1 := by unfold zbs; rw [ha]; rfl
      have ep : zpn 5 (v k) = 1 := rfl
      rw [ep] at q2 q2' cb
      simp only [Int.reduceLE, Int.reduceLT, Int.reduceEq, not_true_eq_false, not_false_eq_true, true_and, and_true, false_implies, true_implies, implies_true]
      rw [← eb]
      refine ⟨by omega, by omega, by omega, by omega, by omega, by omega, by omega, by omega, by omega, by rw [eb]; omega, by rw [eb]; omega, bX12_answerOf_259 hG ?_⟩
      have := s_ofOne (d := d) (M := zrow M 250 V) (th := th) (st := 5) (v := v k) (c := fun j => V (zbs st v k + j)) (Q := fun r M' => Y G (d + 2) mX12_answerOf 267 [(2, 234), (0, q), (0, zbs st v k), (0, (k : Int)), (0, 5), (0, v k), (0, 1), (1, V (zbs st v k)), (9, 0), (9, 0)] (zpush r []) M' Q) hG hA' (by omega) (cb 0 (by omega) (by omega)) (bX12_answerOf_267 hG (fin _ _ _ _ _ (by rw [r35]) rfl))
      simp only [Int.add_zero] at this
      exact this
    · have eb : zbs st v k = (zsp st v k).1 - 2 := by unfold zbs; rw [ha]; rfl
      have ep : zpn 6 (v k) = 2 := rfl
      rw [ep] at q2 q2' cb
      simp only [Int.reduceLE, Int.reduceLT, Int.reduceEq, not_true_eq_false, not_false_eq_true, true_and, and_true, false_implies, true_implies, implies_true]
      rw [← eb]
      refine ⟨by omega, by omega, by omega, by omega, by omega, by omega, by omega, by omega, by omega, by rw [eb]; omega, by rw [eb]; omega, by rw [eb]; omega, by rw [eb]; omega, ?_⟩
      have := s_ofTwo (d := d) (M := zrow M 250 V) (th := th) (st := 6) (v := v k) (c := fun j => V (zbs st v k + j)) (Q := fun r M' => Y G (d + 2) mX12_answerOf 343 [(2, 234), (0, q), (0, zbs st v k), (0, (k : Int)), (0, 6), (0, v k), (0, 2), (1, V (zbs st v k)), (9, 0), (9, 0)] (zpush r []) M' Q) hG hA' hE' (by omega) (cb 0 (by omega) (by omega)) (cb 1 (by omega) (by omega)) (bX12_answerOf_343 hG (fin _ _ _ _ _ (by rw [r35]) rfl))
      simp only [Int.add_zero] at this
      exact this
    · have eb : zbs st v k = (zsp st v k).1 - 2 := by unfold zbs; rw [ha]; rfl
      have ep : zpn 7 (v k) = 2 := rfl
      rw [ep] at q2 q2' cb
      simp only [Int.reduceLE, Int.reduceLT, Int.reduceEq, not_true_eq_false, not_false_eq_true, true_and, and_true, false_implies, true_implies, implies_true]
      rw [← eb]
      refine ⟨by omega, by omega, by omega, by omega, by omega, by omega, by omega, by omega, by omega, by rw [eb]; omega, by rw [eb]; omega, by rw [eb]; omega, by rw [eb]; omega, ?_⟩
      have := s_ofTwo (d := d) (M := zrow M 250 V) (th := th) (st := 7) (v := v k) (c := fun j => V (zbs st v k + j)) (Q := fun r M' => Y G (d + 2) mX12_answerOf 343 [(2, 234), (0, q), (0, zbs st v k), (0, (k : Int)), (0, 7), (0, v k), (0, 2), (1, V (zbs st v k)), (9, 0), (9, 0)] (zpush r []) M' Q) hG hA' hE' (by omega) (cb 0 (by omega) (by omega)) (cb 1 (by omega) (by omega)) (bX12_answerOf_343 hG (fin _ _ _ _ _ (by rw [r35]) rfl))
      simp only [Int.add_zero] at this
      exact this
    · have eb : zbs st v k = (zsp st v k).1 - 2 := by unfold zbs; rw [ha]; rfl
      have ep : zpn 8 (v k) = 2 := rfl
      rw [ep] at q2 q2' cb
      simp only [Int.reduceLE, Int.reduceLT, Int.reduceEq, not_true_eq_false, not_false_eq_true, true_and, and_true, false_implies, true_implies, implies_true]
      rw [← eb]
      refine ⟨by omega, by omega, by omega, by omega, by omega, by omega, by omega, by omega, by omega, by rw [eb]; omega, by rw [eb]; omega, by rw [eb]; omega, by rw [eb]; omega, ?_⟩
      have := s_ofTwo (d := d) (M := zrow M 250 V) (th := th) (st := 8) (v := v k) (c := fun j => V (zbs st v k + j)) (Q := fun r M' => Y G (d + 2) mX12_answerOf 343 [(2, 234), (0, q), (0, zbs st v k), (0, (k : Int)), (0, 8), (0, v k), (0, 2), (1, V (zbs st v k)), (9, 0), (9, 0)] (zpush r []) M' Q) hG hA' hE' (by omega) (cb 0 (by omega) (by omega)) (cb 1 (by omega) (by omega)) (bX12_answerOf_343 hG (fin _ _ _ _ _ (by rw [r35]) rfl))
      simp only [Int.add_zero] at this
      exact this
    · have eb : zbs st v k = (zsp st v k).1 - 2 := by unfold zbs; rw [ha]; rfl
      have ep : zpn 9 (v k) = 2 := rfl
      rw [ep] at q2 q2' cb
      simp only [Int.reduceLE, Int.reduceLT, Int.reduceEq, not_true_eq_false, not_false_eq_true, true_and, and_true, false_implies, true_implies, implies_true]
      rw [← eb]
      refine ⟨by omega, by omega, by omega, by omega, by omega, by omega, by omega, by omega, by omega, by rw [eb]; omega, by rw [eb]; omega, by rw [eb]; omega, by rw [eb]; omega, ?_⟩
      have := s_ofTwo (d := d) (M := zrow M 250 V) (th := th) (st := 9) (v := v k) (c := fun j => V (zbs st v k + j)) (Q := fun r M' => Y G (d + 2) mX12_answerOf 343 [(2, 234), (0, q), (0, zbs st v k), (0, (k : Int)), (0, 9), (0, v k), (0, 2), (1, V (zbs st v k)), (9, 0), (9, 0)] (zpush r []) M' Q) hG hA' hE' (by omega) (cb 0 (by omega) (by omega)) (cb 1 (by omega) (by omega)) (bX12_answerOf_343 hG (fin _ _ _ _ _ (by rw [r35]) rfl))
      simp only [Int.add_zero] at this
      exact this
    · have eb : zbs st v k = (zsp st v k).1 - 4 := by unfold zbs; rw [ha]; rfl
      have ep : zpn 10 (v k) = 4 := rfl
      rw [ep] at q2 q2' cb
      simp only [Int.reduceLE, Int.reduceLT, Int.reduceEq, not_true_eq_false, not_false_eq_true, true_and, and_true, false_implies, true_implies, implies_true]
      rw [← eb]
      refine ⟨by omega, by omega, by omega, by omega, by omega, by omega, by omega, by omega, by omega, by rw [eb]; omega, by rw [eb]; omega, by rw [eb]; omega, by rw [eb]; omega, ?_⟩
      have ez : zbs st v k + 0 = zbs st v k := by omega
      refine s_isSo hG (q5 rfl) (fun w => ?_) (fun w => ?_)
      · refine bX12_answerOf_294 hG ⟨fun z => absurd z (by decide), fun _ => ⟨by rw [eb]; omega, by rw [eb]; omega, ?_⟩⟩
        rw [zrow_at]
        refine fin _ _ _ _ _ ?_ rfl
        have w' : zhs (v k) (V (zbs st v k + 0)) (V (zbs st v k + 1)) := by rw [ez]; exact w
        unfold zev
        exact (if_pos w').symm
      · refine bX12_answerOf_294 hG ⟨fun _ => ⟨by rw [eb]; omega, by rw [eb]; omega, ?_⟩, fun z => absurd rfl z⟩
        rw [zrow_at]
        refine fin _ _ _ _ _ ?_ rfl
        have w' : ¬ zhs (v k) (V (zbs st v k + 0)) (V (zbs st v k + 1)) := by rw [ez]; exact w
        unfold zev
        exact (if_neg w').symm
theorem s_answerOf (hG : zP G) {q len : Int} {th : Int → Int} (hq : 0 ≤ q ∧ q < 12) (hl : M 246 q = len) (hlen : 1 ≤ len ∧ len ≤ 120) (hA : zVA (M 235)) (hE : zME M) (hth : ∀ t, 0 ≤ t → t < 4 → M 249 t = th t ∧ 0 ≤ th t ∧ th t ≤ 99) {st v : Int → Int} (hst : ∀ k, M 247 (240 * q + 2 * k) = st k) (hv : ∀ k, M 247 (240 * q + 2 * k + 1) = v k) (hw : zwf st v len) (h : ∀ V, Q (1, zvt (M 235) th st v len.toNat (len - 1)) (zrow M 250 V)) : Y G (d + 2) mX12_answerOf 0 [(2, 234), (0, q), (9, 0), (9, 0), (9, 0), (9, 0), (9, 0), (9, 0), (9, 0), (9, 0)] [] M Q := by
  refine bX12_answerOf_0 hG ?_
  have := s_ansL (d := d) (Q := Q) hG hq hl hlen hA hE hth hst hv hw h len.toNat 0 (M 250) (by omega) (fun m m0 m1 => by have : m < 0 := m1; omega)
  rw [zrow_self] at this
  exact this
end EW

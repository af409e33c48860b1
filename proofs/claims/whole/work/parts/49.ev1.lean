section EV
variable {G : zG} {d : Nat} {M : zM} {Q : zV → zM → Prop}
theorem zcl_id {x : Int} (h : zb6 x) : zcl x = x := by unfold zcl; unfold zb6 at h; rw [if_neg (by omega), if_neg (by omega)]
/-- the class's world beside the row a -/
def zCE (M : zM) (A : Int → Int) : Prop := M 2 4 = A 1 ∧ (∀ i, 0 ≤ i → i < A 1 → M 4 i = A (14 + 3 * i) ∧ M 10 i = zch A i (A 1).toNat) ∧ (∀ x y, 0 ≤ x → x < A 1 → 0 ≤ y → y < A 1 → M 8 (x * 8 + y) = zkn (zmB 8 (A 1) (zk0 A) (8 * x + y))) ∧ ∀ x y, 0 ≤ x → x < 6 → 0 ≤ y → y < 6 → M 9 (x * 6 + y) = zkn (zmB 6 6 (zw0 A) (6 * x + y))
theorem s_sumL (hG : zP G) {o node v : Int} (ho : zND o) (hn : 0 ≤ node ∧ node < 300) {R cs : Int → Int} {p : Nat} (hp : p ≤ 300) (hc : ∀ j : Nat, j < p → 0 ≤ cs j ∧ cs j < node) (hN : ∀ j : Nat, j + 1 < p → M (o + 7) (cs j) = cs (j + 1)) (hS : ∀ j : Nat, j < p → M (o + 3) (cs j) = if zsg v j then -1 else 1) (hR : ∀ j : Nat, j < p → zb6 (R (cs j))) (h : Q (0, zsu v (fun j => R (cs j)) p) (zrow M 11 R)) : ∀ (k j : Nat) (x : Int), j + k = p → (0 < k → x = cs j) → Y G (d + 1) mX10_sumOf 18 [(2, 2), (2, o), (0, node), (0, zsu v (fun j => R (cs j)) j), (0, x), (0, (k : Int))] [] (zrow M 11 R) Q
  | 0, j, x, hj, hx => by
    have : j = p := by omega
    subst this
    exact bX10_sumOf_18 hG ho ⟨fun _ => h, fun c => absurd c (by omega)⟩
  | k + 1, j, x, hj, hx => by
    have e := hx (by omega)
    subst e
    have b := nd_pos ho
    have q1 := hc j (by omega)
    have q2 := hS j (by omega)
    have q3 := hR j (by omega)
    have q4 := zsu_b v (fun j => R (cs j)) j
    have w3 : zrow M 11 R (o + 3) = M (o + 3) := zrow_off (by omega)
    have w7 : zrow M 11 R (o + 7) = M (o + 7) := zrow_off (by omega)
    have go : ∀ y, y = zsu v (fun j => R (cs j)) (j + 1) → Y G (d + 1) mX10_sumOf 18 [(2, 2), (2, o), (0, node), (0, y), (0, M (o + 7) (cs j)), (0, ((k + 1 : Nat) : Int) + -1)] [] (zrow M 11 R) Q := fun y hy => by
      subst hy
      rw [show ((k + 1 : Nat) : Int) + -1 = (k : Int) by omega]
      exact s_sumL hG ho hn hp hc hN hS hR h k (j + 1) _ (by omega) (fun hk => by rw [hN j (by omega)]; rfl)
    have e1 : zsu v (fun j => R (cs j)) (j + 1) = zcl (zsu v (fun j => R (cs j)) j + if zsg v j then -(R (cs j)) else R (cs j)) := rfl
    unfold zb6 at q3 q4
    refine bX10_sumOf_18 hG ho ?_
    rw [w3, w7, zrow_at, q2]
    refine ⟨fun c => absurd c (by omega), fun _ => ⟨fun c => absurd c (by omega), fun _ => ⟨fun c => absurd c (by omega), fun _ => ⟨by omega, fun c => ?_, fun c => ?_⟩⟩⟩⟩
    · have ns : ¬ zsg v j := fun s => by rw [if_pos s] at c; omega
      rw [if_neg ns] at e1
      exact ⟨by omega, by omega, fun c => ⟨by omega, by omega, go _ e1.symm⟩, fun c => ⟨fun c2 => ⟨by omega, by omega, go _ (by rw [e1, zcl_id]; unfold zb6; omega)⟩, fun c2 => ⟨by omega, by omega, go _ e1.symm⟩⟩⟩
    · have ns : zsg v j := Decidable.byContradiction fun s => by rw [if_neg s] at c; omega
      rw [if_pos ns] at e1
      exact ⟨by omega, by omega, by omega, fun c => ⟨by omega, by omega, go _ e1.symm⟩, fun c => ⟨fun c2 => ⟨by omega, by omega, go _ (by rw [e1, zcl_id]; unfold zb6; omega)⟩, fun c2 => ⟨by omega, by omega, go _ e1.symm⟩⟩⟩
theorem zin1 {x : Int} (h : -9000000000000000000 ≤ x ∧ x ≤ 9000000000000000000) : zin 1 x := by show -9223372036854775808 ≤ x ∧ x ≤ 9223372036854775807; omega
theorem zb6_mul {x y : Int} (hx : zb6 x) (hy : zb6 y) : -1000000000000 ≤ x * y ∧ x * y ≤ 1000000000000 := by
  unfold zb6 at *
  have h1 : x.natAbs * y.natAbs ≤ 1000000 * 1000000 := Nat.mul_le_mul (by omega) (by omega)
  have h2 : (x * y).natAbs = x.natAbs * y.natAbs := Int.natAbs_mul x y
  omega
theorem s_prodL (hG : zP G) {o node : Int} (ho : zND o) (hn : 0 ≤ node ∧ node < 300) {R cs : Int → Int} {p : Nat} (hp : p ≤ 300) (hc : ∀ j : Nat, j < p → 0 ≤ cs j ∧ cs j < node) (hN : ∀ j : Nat, j + 1 < p → M (o + 7) (cs j) = cs (j + 1)) (hR : ∀ j : Nat, j < p → zb6 (R (cs j))) (h : Q (0, zpd (fun j => R (cs j)) p) (zrow M 11 R)) : ∀ (k j : Nat) (x : Int), j + k = p → (0 < k → x = cs j) → Y G (d + 1) mX10_productOf 18 [(2, 2), (2, o), (0, node), (1, zpd (fun j => R (cs j)) j), (9, 0), (0, x), (0, (k : Int))] [] (zrow M 11 R) Q
  | 0, j, x, hj, hx => by
    have : j = p := by omega
    subst this
    have q4 := zpd_b (fun j => R (cs j)) j
    refine bX10_productOf_18 hG ho ⟨fun _ => ?_, fun c => absurd c (by omega)⟩
    rw [zw_of (by show -2147483648 ≤ _ ∧ _ ≤ 2147483647; unfold zb6 at q4; omega)]
    exact h
  | k + 1, j, x, hj, hx => by
    have e := hx (by omega)
    subst e
    have b := nd_pos ho
    have q1 := hc j (by omega)
    have q3 := hR j (by omega)
    have q4 := zpd_b (fun j => R (cs j)) j
    have w7 : zrow M 11 R (o + 7) = M (o + 7) := zrow_off (by omega)
    have go : ∀ y, y = zpd (fun j => R (cs j)) (j + 1) → Y G (d + 1) mX10_productOf 18 [(2, 2), (2, o), (0, node), (1, y), (9, 0), (0, M (o + 7) (cs j)), (0, ((k + 1 : Nat) : Int) + -1)] [] (zrow M 11 R) Q := fun y hy => by
      subst hy
      rw [show ((k + 1 : Nat) : Int) + -1 = (k : Int) by omega]
      exact s_prodL hG ho hn hp hc hN hR h k (j + 1) _ (by omega) (fun hk => by rw [hN j (by omega)]; rfl)
    have e1 : zpd (fun j => R (cs j)) (j + 1) = zcl (zpd (fun j => R (cs j)) j * R (cs j)) := rfl
    have q5 := zb6_mul q4 q3
    refine bX10_productOf_18 hG ho ?_
    rw [w7, zrow_at, zlcmp_gt, zlcmp_le, zlcmp_ge, zlcmp_lt]
    refine ⟨fun c => absurd c (by omega), fun _ => ⟨fun c => absurd c (by omega), fun _ => ⟨fun c => absurd c (by omega), fun _ => ⟨by omega, zin1 (by omega), fun c => ⟨by omega, by omega, go _ e1.symm⟩, fun c => ⟨fun c2 => ⟨by omega, by omega, go _ (by rw [e1, zcl_id ⟨c2, c⟩])⟩, fun c2 => ⟨by omega, by omega, go _ e1.symm⟩⟩⟩⟩⟩⟩
theorem s_result (hG : zP G) {x node : Int} {R : Int → Int} (h : ∀ y, (0 ≤ x ∧ x < node ∧ x < 300 → y = R x) → Q (0, y) (zrow M 11 R)) : Y G d mX10_resultOf 0 [(2, 2), (0, x), (0, node)] [] (zrow M 11 R) Q := by
  refine bX10_resultOf_0 hG ⟨fun c => h 0 (fun q => absurd q (by omega)), fun c => ⟨fun c2 => h 0 (fun q => absurd q (by omega)), fun c2 => ⟨fun c3 => h 0 (fun q => absurd q (by omega)), fun c3 => ⟨by omega, ?_⟩⟩⟩⟩
  rw [zrow_at]
  exact h _ (fun _ => rfl)
theorem s_holds (hG : zP G) {v x y : Int} (hv : 0 ≤ v ∧ v ≤ 5) (h1 : zhs v x y → Q (0, 1) M) (h0 : ¬ zhs v x y → Q (0, 0) M) : Y G d mX10_holds 0 [(0, v), (0, x), (0, y)] [] M Q := by
  refine bX10_holds_0 hG ⟨fun e => ?_, fun e => ?_, fun e => ?_, fun e => ?_, fun e => ?_, fun e => ?_⟩
  all_goals
    refine ⟨fun c => ?_, fun c => ?_⟩
    all_goals first | exact h0 (by omega) | exact h1 (by omega)
theorem s_kinOf (hG : zP G) {A : Int → Int} {x y : Int} (hE : zCE M A) (hA : 0 ≤ A 1 ∧ A 1 ≤ 8) (h : Q (0, zkI A x y) M) : Y G (d + 1) mX10_kinOf 0 [(2, 2), (0, x), (0, y), (9, 0)] [] M Q := by
  refine bX10_kinOf_0 hG ?_
  rw [hE.1]
  unfold zkI at h
  refine ⟨by omega, fun c => ⟨by omega, fun c2 => ⟨by omega, by omega, by omega, ?_⟩, fun c2 => ?_⟩, fun c => ?_⟩
  · rw [if_pos (by omega)] at h
    rw [hE.2.2.1 x y c.1 (by omega) c2.1 (by omega)]; exact h
  · rw [if_neg (by omega)] at h; exact h
  · rw [if_neg (by omega)] at h; exact h
theorem s_wayOf (hG : zP G) {A : Int → Int} {x y : Int} (hE : zCE M A) (h : Q (0, zwI A x y) M) : Y G (d + 1) mX10_wayOf 0 [(2, 2), (0, x), (0, y), (9, 0)] [] M Q := by
  refine bX10_wayOf_0 hG ?_
  unfold zwI at h
  refine ⟨fun c => ⟨fun c2 => ⟨by omega, by omega, by omega, ?_⟩, fun c2 => ?_⟩, fun c => ?_⟩
  · rw [if_pos (by omega)] at h
    rw [hE.2.2.2 x y c.1 (by omega) c2.1 (by omega)]; exact h
  · rw [if_neg (by omega)] at h; exact h
  · rw [if_neg (by omega)] at h; exact h
theorem zCE_row {A R : Int → Int} (h : zCE M A) : zCE (zrow M 11 R) A := by
  unfold zCE at *
  simp only [zrow_ap, Int.reduceEq, ↓reduceIte]
  exact h
theorem zsu_c {v : Int} {c c' : Int → Int} : ∀ k : Nat, (∀ j : Nat, j < k → c j = c' j) → zsu v c k = zsu v c' k
  | 0, _ => rfl
  | k + 1, h => by
    show zcl (zsu v c k + _) = zcl (zsu v c' k + _)
    rw [zsu_c k (fun j hj => h j (by omega)), h k (by omega)]
theorem zpd_c {c c' : Int → Int} : ∀ k : Nat, (∀ j : Nat, j < k → c j = c' j) → zpd c k = zpd c' k
  | 0, _ => rfl
  | k + 1, h => by
    show zcl (zpd c k * _) = zcl (zpd c' k * _)
    rw [zpd_c k (fun j hj => h j (by omega)), h k (by omega)]
theorem zev_c {A th : Int → Int} {st v : Int} {c c' : Int → Int} (hs : 0 ≤ st ∧ st ≤ 10) (h : ∀ j, 0 ≤ j → j < zpn st v → c j = c' j) : zev A th st v c = zev A th st v c' := by
  have e2 : st = 2 → zsu v c (zpn 2 v).toNat = zsu v c' (zpn 2 v).toNat := fun e => zsu_c _ (fun j hj => h j (by omega) (by rw [e]; omega))
  have e3 : st = 3 → zpd c (zpn 3 v).toNat = zpd c' (zpn 3 v).toNat := fun e => zpd_c _ (fun j hj => h j (by omega) (by rw [e]; omega))
  have e0 : 4 ≤ st → c 0 = c' 0 := fun e => h 0 (by omega) (by unfold zpn; rw [if_neg (by omega), if_neg (by omega), if_neg (by omega)]; split; omega; split <;> omega)
  have e1 : 6 ≤ st → c 1 = c' 1 := fun e => h 1 (by omega) (by unfold zpn; rw [if_neg (by omega), if_neg (by omega), if_neg (by omega), if_neg (by omega)]; split <;> omega)
  have e4 : 10 ≤ st → c 2 = c' 2 ∧ c 3 = c' 3 := fun e => ⟨h 2 (by omega) (by unfold zpn; rw [if_neg (by omega), if_neg (by omega), if_neg (by omega), if_neg (by omega), if_neg (by omega)]; omega), h 3 (by omega) (by unfold zpn; rw [if_neg (by omega), if_neg (by omega), if_neg (by omega), if_neg (by omega), if_neg (by omega)]; omega)⟩
  unfold zev
  by_cases k0 : st = 0
  · rw [if_pos k0, if_pos k0]
  rw [if_neg k0, if_neg k0]
  by_cases k1 : st = 1
  · rw [if_pos k1, if_pos k1]
  rw [if_neg k1, if_neg k1]
  by_cases k2 : st = 2
  · rw [if_pos k2, if_pos k2, e2 k2]
  rw [if_neg k2, if_neg k2]
  by_cases k3 : st = 3
  · rw [if_pos k3, if_pos k3, e3 k3]
  rw [if_neg k3, if_neg k3, e0 (by omega)]
  by_cases k4 : st = 4
  · rw [if_pos k4, if_pos k4]
  rw [if_neg k4, if_neg k4]
  by_cases k5 : st = 5
  · rw [if_pos k5, if_pos k5]
  rw [if_neg k5, if_neg k5, e1 (by omega)]
  by_cases k6 : st = 6
  · rw [if_pos k6, if_pos k6]
  rw [if_neg k6, if_neg k6]
  by_cases k7 : st = 7
  · rw [if_pos k7, if_pos k7]
  rw [if_neg k7, if_neg k7]
  by_cases k8 : st = 8
  · rw [if_pos k8, if_pos k8]
  rw [if_neg k8, if_neg k8]
  by_cases k9 : st = 9
  · rw [if_pos k9, if_pos k9]
  rw [if_neg k9, if_neg k9, (e4 (by omega)).1, (e4 (by omega)).2]
theorem s_word (hG : zP G) {A th : Int → Int} {o node st v : Int} (ho : zND o) (hE : zCE M A) (hA : 0 ≤ A 1 ∧ A 1 ≤ 8) (hn : 0 ≤ node ∧ node < 300) (hz : node < M o 8 ∧ M o 8 ≤ 300) (hs : 4 ≤ st ∧ st ≤ 10) (hk : M (o + 1) node = st) (hv : st = 10 → M (o + 2) node = v ∧ 0 ≤ v ∧ v ≤ 5) {R cs : Int → Int} (hc : ∀ j, 0 ≤ j → j < zpn st v → 0 ≤ cs j ∧ cs j < node) (hF : M (o + 5) node = cs 0) (hN : ∀ j, 0 ≤ j → j < zpn st v - 1 → M (o + 7) (cs j) = cs (j + 1)) (h : Q (0, zev A th st v (fun j => R (cs j))) (zrow M 11 R)) : Y G (d + 2) mX10_workWord 0 [(2, 2), (2, o), (0, node), (9, 0), (9, 0), (9, 0), (9, 0), (9, 0), (9, 0)] [] (zrow M 11 R) Q := by
  have b := nd_pos ho
  have w : ∀ i, 1 ≤ i → i ≤ 8 → zrow M 11 R (o + i) = M (o + i) := fun i i0 i1 => zrow_off (by omega)
  have w8 : zrow M 11 R o = M o := zrow_off (by omega)
  have p1 : 1 ≤ zpn st v := by unfold zpn; rw [if_neg (by omega), if_neg (by omega), if_neg (by omega)]; split; omega; split <;> omega
  have p2 : 6 ≤ st → 2 ≤ zpn st v := fun e => by unfold zpn; rw [if_neg (by omega), if_neg (by omega), if_neg (by omega), if_neg (by omega)]; split <;> omega
  have p4 : st = 10 → zpn st v = 4 := fun e => by unfold zpn; rw [if_neg (by omega), if_neg (by omega), if_neg (by omega), if_neg (by omega), if_neg (by omega)]
  have nx : ∀ j, 0 ≤ j → j < zpn st v - 1 → znf (zrow M 11 R) o 7 (cs j) (-1) = cs (j + 1) := fun j j0 j1 => by
    have := hc j j0 (by omega)
    unfold znf
    rw [w8, if_pos (by omega), w 7 (by omega) (by omega)]
    exact hN j j0 j1
  have c0 := hc 0 (by omega) (by omega)
  refine bX10_workWord_0 hG ho ⟨by omega, ?_⟩
  rw [w 5 (by omega) (by omega), hF]
  refine s_result hG (fun one h1 => ?_)
  have h1' := h1 ⟨c0.1, c0.2, by omega⟩
  subst h1'
  refine bX10_workWord_13 hG ho ⟨by rw [w8]; omega, ?_⟩
  refine s_result hG (fun other h2 => ?_)
  have h2' : 6 ≤ st → other = R (cs 1) := fun e => by
    have c1 := hc 1 (by omega) (by have := p2 e; omega)
    have e1 := nx 0 (by omega) (by have := p2 e; omega)
    rw [e1] at h2
    exact h2 ⟨c1.1, by show cs (0 + 1) < node; exact c1.2, by show cs (0 + 1) < 300; have : cs (0 + 1) < node := c1.2; omega⟩
  have hE' := zCE_row (R := R) hE
  refine bX10_workWord_29 hG ho ?_
  rw [w 1 (by omega) (by omega), hk, hE'.1]
  unfold zev at h
  simp only [] at h
  rw [if_neg (by omega), if_neg (by omega), if_neg (by omega), if_neg (by omega)] at h
  refine ⟨by omega, fun e => ⟨by omega, fun q => ⟨by omega, ?_⟩, fun q => ?_⟩, fun e => ⟨by omega, fun q => ⟨by omega, ?_⟩, fun q => ?_⟩, fun e => ?_, fun e => ?_, fun e => ?_, fun e => ?_, fun e => ?_⟩
  · rw [if_pos e, if_pos (by omega)] at h
    rw [(hE'.2.1 _ q.1 (by omega)).1]; exact h
  · rw [if_pos e, if_neg (by omega)] at h; exact h
  · rw [if_neg (by omega), if_pos e, if_pos (by omega)] at h
    rw [(hE'.2.1 _ q.1 (by omega)).2]; exact h
  · rw [if_neg (by omega), if_pos e, if_neg (by omega)] at h; exact h
  · rw [if_neg (by omega), if_neg (by omega), if_pos e] at h
    rw [h2' (by omega)]
    exact s_kinOf hG hE' hA (bX10_workWord_138 hG ho h)
  · rw [if_neg (by omega), if_neg (by omega), if_neg (by omega), if_pos e] at h
    rw [h2' (by omega)]
    exact s_wayOf hG hE' (bX10_workWord_147 hG ho h)
  · rw [if_neg (by omega), if_neg (by omega), if_neg (by omega), if_neg (by omega), if_pos e] at h
    rw [h2' (by omega)]; exact h
  · rw [if_neg (by omega), if_neg (by omega), if_neg (by omega), if_neg (by omega), if_neg (by omega), if_pos e] at h
    rw [h2' (by omega)]; exact h
  · have e10 : st = 10 := by omega
    rw [if_neg (by omega), if_neg (by omega), if_neg (by omega), if_neg (by omega), if_neg (by omega), if_neg (by omega)] at h
    have p := p4 e10
    obtain ⟨v1, v2⟩ := hv e10
    have c2 := hc 2 (by omega) (by omega)
    have c3 := hc 3 (by omega) (by omega)
    have n0 : znf (zrow M 11 R) o 7 (cs 0) (-1) = cs 1 := nx 0 (by omega) (by omega)
    have n1 : znf (zrow M 11 R) o 7 (cs 1) (-1) = cs 2 := nx 1 (by omega) (by omega)
    have n2 : znf (zrow M 11 R) o 7 (cs 2) (-1) = cs 3 := nx 2 (by omega) (by omega)
    refine ⟨by rw [w8]; omega, by omega, ?_⟩
    rw [w 2 (by omega) (by omega), v1, n0, n1, h2' (by omega)]
    refine s_holds hG v2 (fun q => ?_) (fun q => ?_)
    · rw [if_pos q] at h
      refine bX10_workWord_185 hG ho ⟨fun w => absurd w (by decide), fun _ => ?_⟩
      refine s_result hG (fun y hy => ?_)
      rw [hy ⟨c2.1, c2.2, by omega⟩]
      exact bX10_workWord_208 hG ho h
    · rw [if_neg q] at h
      refine bX10_workWord_185 hG ho ⟨fun _ => ⟨by rw [w8]; omega, ?_⟩, fun w => absurd rfl w⟩
      rw [n2]
      refine s_result hG (fun y hy => ?_)
      rw [hy ⟨c3.1, c3.2, by omega⟩]
      exact bX10_workWord_208 hG ho h
theorem s_wk22 (hG : zP G) {A st v : Int → Int} {o f len r4 : Int} (ho : zND o) (hE : zCE M A) (hA : zVA A) (hr4 : zsh r4.toNat = (100, 4)) (h4 : r4 ≠ 11) (ht : ∀ t, 0 ≤ t → t < 4 → 0 ≤ M r4 t ∧ M r4 t ≤ 99) (hf : 0 ≤ f ∧ 1 ≤ len ∧ f + len ≤ M o 8 ∧ M o 8 ≤ 300) (hC : zQC (M (o + 1)) (M (o + 2)) (M (o + 3)) (M (o + 4)) (M (o + 5)) (M (o + 7)) st v f len) (h : ∀ R, Q (0, zvt A (M r4) st v len.toNat (len - 1)) (zrow M 11 R)) : ∀ (k' k : Nat) (R : Int → Int), (k : Int) + k' = len → (∀ i : Int, 0 ≤ i → i < k → R (f + i) = zvt A (M r4) st v k i) → Y G (d + 3) mX10_workOut 22 [(2, 2), (2, o), (0, f), (0, f + len - 1), (2, r4), (0, f + k), (9, 0)] [] (zrow M 11 R) Q
  | 0, k, R, hk, hR => by
    refine bX10_workOut_22 hG ho hr4 ⟨fun c => ⟨by omega, ?_⟩, fun c => absurd c (by omega)⟩
    rw [zrow_at, show f + len - 1 = f + (len - 1) by omega, hR (len - 1) (by omega) (by omega), show k = len.toNat by omega]
    exact h R
  | k' + 1, k, R, hk, hR => by
    have b := nd_pos ho
    have w : ∀ i, 1 ≤ i → i ≤ 8 → zrow M 11 R (o + i) = M (o + i) := fun i i0 i1 => zrow_off (by omega)
    have w4 : zrow M 11 R r4 = M r4 := zrow_off h4
    have hb := zvt_b hA ht (zQC_ok hC) k (by omega)
    obtain ⟨q1, q2, q3, q4, q5, q6, q7, q8, q9, q10, q11, q12, q13⟩ := hC.1 k (by omega)
    have cd : ∀ j, 0 ≤ j → j < zpn (st k) (v k) → 0 ≤ zcd st v k j ∧ zcd st v k j < k := fun j j0 j1 => zcd_in hC (by omega) ⟨j0, j1⟩
    have cv : ∀ j, 0 ≤ j → j < zpn (st k) (v k) → R (f + zcd st v k j) = zvt A (M r4) st v k (zcd st v k j) := fun j j0 j1 => hR _ (cd j j0 j1).1 (cd j j0 j1).2
    have go : ∀ x, x = zvt A (M r4) st v (k + 1) k → Y G (d + 3) mX10_workOut 22 [(2, 2), (2, o), (0, f), (0, f + len - 1), (2, r4), (0, f + k + 1), (9, 0)] [] (zset (zrow M 11 R) 11 (f + k) x) Q := fun x hx => by
      rw [zset_row, show f + (k : Int) + 1 = f + ((k + 1 : Nat) : Int) by omega]
      refine s_wk22 hG ho hE hA hr4 h4 ht hf hC h k' (k + 1) _ (by omega) (fun i i0 i1 => ?_)
      by_cases c : i = k
      · rw [c, zup_at, hx]
      · rw [zup_ne (by omega), zvt_ne c]; exact hR i i0 (by omega)
    have ev : ∀ x, x = zev A (M r4) (st k) (v k) (fun j => R (f + zcd st v k j)) → x = zvt A (M r4) st v (k + 1) k := fun x hx => by
      rw [hx, zvt_at]
      exact zev_c q1 cv
    refine bX10_workOut_22 hG ho hr4 ⟨fun c => absurd c (by omega), fun _ => ⟨by omega, by omega, ?_⟩⟩
    rw [w 1 (by omega) (by omega), w 2 (by omega) (by omega), w4, q2]
    refine ⟨fun e => ⟨by omega, by omega, go _ (ev _ ?_)⟩, fun e => ⟨fun c => ?_, fun c => ⟨by decide, fun c2 => ?_, fun c2 => ⟨⟨c, c2⟩, by omega, by omega, go _ (ev _ ?_)⟩⟩⟩, fun e => ?_, fun e => ?_, fun e => ?_⟩
    · unfold zev; rw [if_pos e, (q5 e).1]
    · have := q6 e; omega
    · have := q6 e; omega
    · unfold zev; rw [if_neg (by omega), if_pos e, (q6 e).1]
    · have p := q9 (Or.inl e)
      refine bX10_sumOf_0 hG ho ⟨by omega, by omega, ?_⟩
      rw [w 5 (by omega) (by omega), w 4 (by omega) (by omega), q3, q10 (by omega)]
      have e2 : zpn (st k) (v k) = zpn 2 (v k) := by rw [e]
      have := s_sumL (d := d + 1) (M := M) (R := R) (v := v k) (cs := fun j => f + zcd st v k j) (p := (zpn (st k) (v k)).toNat) (node := f + k) (Q := fun r M' => Y G (d + 3) mX10_workOut 133 [(2, 2), (2, o), (0, f), (0, f + len - 1), (2, r4), (0, f + k), (0, M (o + 2) (f + k))] (zpush r [(0, f + k), (2, 11)]) M' Q) hG ho (by omega) (by omega)
        (fun j hj => by have := cd j (by omega) (by omega); omega) (fun j hj => q11 j (by omega) (by omega)) (fun j hj => by rw [q12 j (by omega) (by omega)]; by_cases s : zsg (v k) j; rw [if_pos ⟨e, s⟩, if_pos s]; rw [if_neg (fun q => s q.2), if_neg s]) (fun j hj => by show zb6 (R (f + zcd st v k j)); rw [cv j (by omega) (by omega)]; exact hb _)
        (bX10_workOut_133 hG ho hr4 ⟨by omega, by omega, go _ (ev _ (by unfold zev; rw [if_neg (by omega), if_neg (by omega), if_pos e, e2]))⟩) (zpn (st k) (v k)).toNat 0 (f + zcd st v k 0) (by omega) (fun _ => rfl)
      rw [show (((zpn (st k) (v k)).toNat : Nat) : Int) = zpn (st k) (v k) by omega] at this
      exact this
    · have p := q9 (Or.inr e)
      refine bX10_productOf_0 hG ho ⟨by omega, by omega, ?_⟩
      rw [w 5 (by omega) (by omega), w 4 (by omega) (by omega), q3, q10 (by omega)]
      have e2 : zpn (st k) (v k) = zpn 3 (v k) := by rw [e]
      have := s_prodL (d := d + 1) (M := M) (R := R) (cs := fun j => f + zcd st v k j) (p := (zpn (st k) (v k)).toNat) (node := f + k) (Q := fun r M' => Y G (d + 3) mX10_workOut 150 [(2, 2), (2, o), (0, f), (0, f + len - 1), (2, r4), (0, f + k), (0, M (o + 2) (f + k))] (zpush r [(0, f + k), (2, 11)]) M' Q) hG ho (by omega) (by omega)
        (fun j hj => by have := cd j (by omega) (by omega); omega) (fun j hj => q11 j (by omega) (by omega)) (fun j hj => by show zb6 (R (f + zcd st v k j)); rw [cv j (by omega) (by omega)]; exact hb _)
        (bX10_workOut_150 hG ho hr4 ⟨by omega, by omega, go _ (ev _ (by unfold zev; rw [if_neg (by omega), if_neg (by omega), if_neg (by omega), if_pos e, e2]))⟩) (zpn (st k) (v k)).toNat 0 (f + zcd st v k 0) (by omega) (fun _ => rfl)
      rw [show (((zpn (st k) (v k)).toNat : Nat) : Int) = zpn (st k) (v k) by omega] at this
      exact this
    · have s4 : 4 ≤ st k := by omega
      have p1 : 1 ≤ zpn (st k) (v k) := by unfold zpn; rw [if_neg (by omega), if_neg (by omega), if_neg (by omega)]; split; omega; split <;> omega
      refine s_word (A := A) (th := M r4) (st := st k) (v := v k) (cs := fun j => f + zcd st v k j) hG ho hE hA.2.1.1 (by omega) (by omega) (by omega) q2 q7 (fun j j0 j1 => by have := cd j j0 j1; omega) (q10 p1) (fun j j0 j1 => q11 j j0 j1) ?_
      exact bX10_workOut_167 hG ho hr4 ⟨by omega, by omega, go _ (ev _ rfl)⟩
theorem s_workOut (hG : zP G) {A st v : Int → Int} {o f len r4 : Int} (ho : zND o) (hE : zCE M A) (hA : zVA A) (hr4 : zsh r4.toNat = (100, 4)) (h4 : r4 ≠ 11) (ht : ∀ t, 0 ≤ t → t < 4 → 0 ≤ M r4 t ∧ M r4 t ≤ 99) (hf : 0 ≤ f ∧ 1 ≤ len ∧ f + len ≤ M o 8 ∧ M o 8 ≤ 300) (hC : zQC (M (o + 1)) (M (o + 2)) (M (o + 3)) (M (o + 4)) (M (o + 5)) (M (o + 7)) st v f len) (h : ∀ R, Q (0, zvt A (M r4) st v len.toNat (len - 1)) (zrow M 11 R)) : Y G (d + 3) mX10_workOut 0 [(2, 2), (2, o), (0, f), (0, f + len - 1), (2, r4), (9, 0), (9, 0)] [] M Q := by
  refine bX10_workOut_0 hG ho hr4 ⟨fun c => absurd c (by omega), fun _ => ⟨fun c => absurd c (by omega), fun _ => ⟨fun _ => ?_, fun c => absurd c (by omega)⟩⟩⟩
  have := s_wk22 (d := d) (Q := Q) hG ho hE hA hr4 h4 ht hf hC h len.toNat 0 (M 11) (by omega) (fun i i0 i1 => by omega)
  rw [zrow_self, show f + ((0 : Nat) : Int) = f by omega] at this
  exact this
end EV

/-! questions: the steps as the model has them, the nodes as the class has them -/
def zpn (st v : Int) : Int := if st < 2 then 0 else if st = 2 then zand v 255 else if st = 3 then v else if st < 6 then 1 else if st < 10 then 2 else 4
/-- what waits ahead of the k-th step: how many, and which steps they are of -/
def zsp (st v : Int → Int) : Nat → Int × (Int → Int)
  | 0 => (0, fun _ => 0)
  | k + 1 => ((zsp st v k).1 - zpn (st k) (v k) + 1, zup (zsp st v k).2 ((zsp st v k).1 - zpn (st k) (v k)) k)
def zbs (st v : Int → Int) (k : Nat) : Int := (zsp st v k).1 - zpn (st k) (v k)
def zcd (st v : Int → Int) (k : Nat) (j : Int) : Int := (zsp st v k).2 (zbs st v k + j)
abbrev zsg (v j : Int) : Prop := zand (zshr (zshr v 8) j) 1 = 1
def zQC (K V S C F N st v : Int → Int) (f len : Int) : Prop :=
  (∀ k : Nat, (k : Int) < len →
    (0 ≤ st k ∧ st k ≤ 10) ∧ K (f + k) = st k ∧ C (f + k) = zpn (st k) (v k) ∧ (0 ≤ zpn (st k) (v k) ∧ 0 ≤ zbs st v k) ∧
    (st k = 0 → V (f + k) = v k ∧ 0 ≤ v k ∧ v k ≤ 99) ∧ (st k = 1 → V (f + k) = v k ∧ 0 ≤ v k ∧ v k ≤ 3) ∧ (st k = 10 → V (f + k) = v k ∧ 0 ≤ v k ∧ v k ≤ 5) ∧ (2 ≤ st k ∧ st k ≤ 9 → V (f + k) = 0) ∧
    (st k = 2 ∨ st k = 3 → 2 ≤ zpn (st k) (v k) ∧ zpn (st k) (v k) ≤ 16) ∧
    (1 ≤ zpn (st k) (v k) → F (f + k) = f + zcd st v k 0) ∧ (∀ j, 0 ≤ j → j < zpn (st k) (v k) - 1 → N (f + zcd st v k j) = f + zcd st v k (j + 1)) ∧
    (∀ j, 0 ≤ j → j < zpn (st k) (v k) → S (f + zcd st v k j) = if st k = 2 ∧ zsg (v k) j then -1 else 1) ∧ (st k = 2 → ¬ zsg (v k) 0)) ∧
  (zsp st v len.toNat).1 = 1
theorem zsp_in {st v : Int → Int} : ∀ (n : Nat), (∀ k : Nat, k < n → 0 ≤ zpn (st k) (v k) ∧ 0 ≤ zbs st v k) → 0 ≤ (zsp st v n).1 ∧ ∀ m, 0 ≤ m → m < (zsp st v n).1 → 0 ≤ (zsp st v n).2 m ∧ (zsp st v n).2 m < n
  | 0, _ => ⟨by show (0 : Int) ≤ 0; omega, fun m h0 h1 => by have : m < 0 := h1; omega⟩
  | n + 1, h => by
    obtain ⟨i1, i2⟩ := zsp_in n (fun k hk => h k (by omega))
    have q := h n (by omega)
    unfold zbs at q
    refine ⟨by show 0 ≤ (zsp st v n).1 - zpn (st n) (v n) + 1; omega, fun m h0 h1 => ?_⟩
    have h1' : m < (zsp st v n).1 - zpn (st n) (v n) + 1 := h1
    show 0 ≤ zup (zsp st v n).2 ((zsp st v n).1 - zpn (st n) (v n)) n m ∧ zup (zsp st v n).2 ((zsp st v n).1 - zpn (st n) (v n)) n m < ((n + 1 : Nat) : Int)
    by_cases c : m = (zsp st v n).1 - zpn (st n) (v n)
    · rw [c, zup_at]; omega
    · rw [zup_ne c]; have := i2 m h0 (by omega); omega
theorem zcd_in {K V S C F N st v : Int → Int} {f len : Int} (h : zQC K V S C F N st v f len) {k : Nat} (hk : (k : Int) < len) {j : Int} (hj : 0 ≤ j ∧ j < zpn (st k) (v k)) : 0 ≤ zcd st v k j ∧ zcd st v k j < k := by
  have q := (zsp_in k (fun i hi => (h.1 i (by omega)).2.2.2.1)).2 (zbs st v k + j)
  have w := (h.1 k hk).2.2.2.1
  exact q (by omega) (by unfold zbs at *; omega)
theorem zsp_e {st v st' v' : Int → Int} : ∀ (n : Nat), (∀ k : Nat, k < n → st' k = st k ∧ v' k = v k) → zsp st' v' n = zsp st v n
  | 0, _ => rfl
  | n + 1, h => by
    show ((zsp st' v' n).1 - zpn (st' n) (v' n) + 1, zup (zsp st' v' n).2 ((zsp st' v' n).1 - zpn (st' n) (v' n)) n) = _
    rw [zsp_e n (fun k hk => h k (by omega)), (h n (by omega)).1, (h n (by omega)).2]
    rfl
/-! what a question comes to -/
def zsu (v : Int) (c : Int → Int) : Nat → Int
  | 0 => 0
  | k + 1 => zcl (zsu v c k + if zsg v k then -(c k) else c k)
def zpd (c : Int → Int) : Nat → Int
  | 0 => 1
  | k + 1 => zcl (zpd c k * c k)
abbrev zhs (v x y : Int) : Prop := (v = 0 ∧ x < y) ∨ (v = 1 ∧ x ≤ y) ∨ (v = 2 ∧ y < x) ∨ (v = 3 ∧ y ≤ x) ∨ (v = 4 ∧ x = y) ∨ (v = 5 ∧ x ≠ y)
def zkI (A : Int → Int) (x y : Int) : Int := if (0 ≤ x ∧ x < A 1) ∧ 0 ≤ y ∧ y < A 1 then zkn (zmB 8 (A 1) (zk0 A) (8 * x + y)) else -1
def zwI (A : Int → Int) (x y : Int) : Int := if (0 ≤ x ∧ x < 6) ∧ 0 ≤ y ∧ y < 6 then zkn (zmB 6 6 (zw0 A) (6 * x + y)) else -1
def zev (A th : Int → Int) (st v : Int) (c : Int → Int) : Int :=
  if st = 0 then v else if st = 1 then th v else if st = 2 then zsu v c (zpn 2 v).toNat else if st = 3 then zpd c (zpn 3 v).toNat else
  if st = 4 then (if 0 ≤ c 0 ∧ c 0 < A 1 then A (14 + 3 * c 0) else -1) else if st = 5 then (if 0 ≤ c 0 ∧ c 0 < A 1 then zch A (c 0) (A 1).toNat else -1) else
  if st = 6 then zkI A (c 0) (c 1) else if st = 7 then zwI A (c 0) (c 1) else if st = 8 then max (c 0) (c 1) else if st = 9 then min (c 0) (c 1) else if zhs v (c 0) (c 1) then c 2 else c 3
def zvt (A th st v : Int → Int) : Nat → Int → Int
  | 0 => fun _ => 0
  | k + 1 => zup (zvt A th st v k) k (zev A th (st k) (v k) (fun j => zvt A th st v k (zcd st v k j)))
theorem zvt_at {A th st v : Int → Int} (k : Nat) : zvt A th st v (k + 1) k = zev A th (st k) (v k) (fun j => zvt A th st v k (zcd st v k j)) := zup_at _ _ _
theorem zvt_ne {A th st v : Int → Int} {k : Nat} {i : Int} (h : i ≠ k) : zvt A th st v (k + 1) i = zvt A th st v k i := zup_ne h
abbrev zb6 (x : Int) : Prop := -1000000 ≤ x ∧ x ≤ 1000000
theorem zkn_b {v : Int} (h : 0 ≤ v) : zb6 (zkn v) := by
  by_cases c : v < 100000
  · rw [zkn_lo c]; unfold zb6; omega
  · rw [zkn_hi (by omega)]; unfold zb6; omega
theorem zmB_0 {s n : Int} {u : Int → Int} (hs : s = 6 ∨ s = 8) (hn : 0 ≤ n ∧ n ≤ s) (h : ∀ x y, 0 ≤ x → x < n → 0 ≤ y → y < n → 0 ≤ u (s * x + y) ∧ (u (s * x + y) = 100000 ∨ u (s * x + y) ≤ 99) ∧ (x = y → u (s * x + y) = 0)) {x y : Int} (hx : 0 ≤ x ∧ x < n) (hy : 0 ≤ y ∧ y < n) : 0 ≤ zmB s n u (s * x + y) :=
  ((zR_B hs hn (zun_R hs h) x y hx.1 (by omega) hy.1 (by omega)).1 hx.2 hy.2).2.1
theorem zk0_ok {A : Int → Int} {n : Int} (hn : n ≤ 8) : ∀ x y, 0 ≤ x → x < n → 0 ≤ y → y < n → 0 ≤ zk0 A (8 * x + y) ∧ (zk0 A (8 * x + y) = 100000 ∨ zk0 A (8 * x + y) ≤ 99) ∧ (x = y → zk0 A (8 * x + y) = 0) := fun x y x0 x1 y0 y1 => by
  rw [zk0_at _ ⟨y0, by omega⟩]
  by_cases c : x = y
  · rw [if_pos c]; exact ⟨by omega, by omega, fun _ => rfl⟩
  · rw [if_neg c]
    split
    · exact ⟨by omega, by omega, fun e => absurd e c⟩
    · exact ⟨by omega, by omega, fun e => absurd e c⟩
theorem zw0_ok {A : Int → Int} (hr : zVr A) : ∀ x y, 0 ≤ x → x < 6 → 0 ≤ y → y < 6 → 0 ≤ zw0 A (6 * x + y) ∧ (zw0 A (6 * x + y) = 100000 ∨ zw0 A (6 * x + y) ≤ 99) ∧ (x = y → zw0 A (6 * x + y) = 0) := fun x y x0 x1 y0 y1 => by
  have := hr (6 * x + y) (by omega) (by omega)
  rw [zw0_at _ ⟨y0, by omega⟩]
  by_cases c : x = y
  · rw [if_pos c]; exact ⟨by omega, by omega, fun _ => rfl⟩
  · rw [if_neg c]
    split
    · exact ⟨by omega, by omega, fun e => absurd e c⟩
    · exact ⟨by omega, by omega, fun e => absurd e c⟩
theorem zch_b (A : Int → Int) (p : Int) : ∀ k : Nat, 0 ≤ zch A p k ∧ zch A p k ≤ k
  | 0 => ⟨by show (0 : Int) ≤ 0; omega, by show (0 : Int) ≤ 0; omega⟩
  | k + 1 => by
    have := zch_b A p k
    show 0 ≤ zch A p k + _ ∧ zch A p k + _ ≤ ((k + 1 : Nat) : Int)
    split <;> omega
theorem zsu_b (v : Int) (c : Int → Int) : ∀ k, zb6 (zsu v c k)
  | 0 => by show zb6 0; unfold zb6; omega
  | k + 1 => zcl_in _
theorem zpd_b (c : Int → Int) : ∀ k, zb6 (zpd c k)
  | 0 => by show zb6 1; unfold zb6; omega
  | k + 1 => zcl_in _
theorem zev_b {A th : Int → Int} {st v : Int} {c : Int → Int} (hA : zVA A) (ht : ∀ t, 0 ≤ t → t < 4 → 0 ≤ th t ∧ th t ≤ 99) (hs : 0 ≤ st ∧ st ≤ 10) (h0 : st = 0 → 0 ≤ v ∧ v ≤ 99) (h1 : st = 1 → 0 ≤ v ∧ v ≤ 3) (hc : ∀ j, 0 ≤ j → j < 4 → zb6 (c j)) : zb6 (zev A th st v c) := by
  have c0 := hc 0 (by omega) (by omega)
  have c1 := hc 1 (by omega) (by omega)
  have c2 := hc 2 (by omega) (by omega)
  have c3 := hc 3 (by omega) (by omega)
  have n1 := hA.2.1.1
  unfold zev
  split
  · rename_i e; have := h0 e; unfold zb6; omega
  split
  · rename_i e; have := h1 e; have := ht v (by omega) (by omega); unfold zb6; omega
  split
  · exact zsu_b _ _ _
  split
  · exact zpd_b _ _
  split
  · split
    · rename_i q; have := (hA.2.1.2 _ q.1 q.2).1; unfold zb6; omega
    · unfold zb6; omega
  split
  · split
    · have := zch_b A (c 0) (A 1).toNat; unfold zb6; omega
    · unfold zb6; omega
  split
  · unfold zkI
    split
    · rename_i q; exact zkn_b (zmB_0 (Or.inr rfl) n1 (zk0_ok n1.2) q.1 q.2)
    · unfold zb6; omega
  split
  · unfold zwI
    split
    · rename_i q; exact zkn_b (zmB_0 (Or.inl rfl) (by decide) (zw0_ok hA.2.2.2.2.2.2.2.2.2.2) q.1 q.2)
    · unfold zb6; omega
  split
  · unfold zb6 at *; omega
  split
  · unfold zb6 at *; omega
  split
  · exact c2
  · exact c3
/-- steps that may be: what zvt needs to stay in bounds -/
def zok (st v : Int → Int) (len : Int) : Prop := ∀ k : Nat, (k : Int) < len → (0 ≤ st k ∧ st k ≤ 10) ∧ (st k = 0 → 0 ≤ v k ∧ v k ≤ 99) ∧ (st k = 1 → 0 ≤ v k ∧ v k ≤ 3)
theorem zQC_ok {K V S C F N st v : Int → Int} {f len : Int} (h : zQC K V S C F N st v f len) : zok st v len := fun k hk => by
  obtain ⟨h1, h2, h3, h4, h5, h6, h7, h8⟩ := h.1 k hk
  exact ⟨h1, fun e => (h5 e).2, fun e => (h6 e).2⟩
theorem zvt_b {A th st v : Int → Int} {len : Int} (hA : zVA A) (ht : ∀ t, 0 ≤ t → t < 4 → 0 ≤ th t ∧ th t ≤ 99) (ho : zok st v len) : ∀ (k : Nat), (k : Int) ≤ len → ∀ i, zb6 (zvt A th st v k i)
  | 0, _, i => by show zb6 0; unfold zb6; omega
  | k + 1, hk, i => by
    have ih := zvt_b hA ht ho k (by omega)
    obtain ⟨h1, h2, h3⟩ := ho k (by omega)
    by_cases c : i = k
    · rw [c, zvt_at]; exact zev_b hA ht h1 h2 h3 (fun j _ _ => ih _)
    · rw [zvt_ne c]; exact ih i

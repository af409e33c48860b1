theorem zset_ap (M : zM) (a i v x y : Int) : zset M a i v x y = if x = a then (if y = i then v else M x y) else M x y := by
  unfold zset
  by_cases h : x = a
  · by_cases h2 : y = i
    · rw [if_pos ⟨h, h2⟩, if_pos h, if_pos h2]
    · rw [if_neg (fun q => h2 q.2), if_pos h, if_neg h2]
  · rw [if_neg (fun q => h q.1), if_neg h]
theorem zrow_ap (M : zM) (a x y : Int) (f : Int → Int) : zrow M a f x y = if x = a then f y else M x y := rfl
theorem zfr_row {l : List (Int × Int × Int)} {M M1 : zM} {a : Int} {f : Int → Int} (h : zfr l M M1) (k : Nat) (hk : l[k]? = some (a, 0, 1000000)) : zfr l M (zrow M1 a f) := fun x y hn => by
  have : x ≠ a := fun e => hn (by
    by_cases c : y < 0
    · exact Or.inl c
    · by_cases c2 : 1000000 ≤ y
      · exact Or.inr (Or.inl c2)
      · subst e; exact Or.inr (Or.inr (zhit_at k hk ⟨by omega, by omega⟩)))
  rw [zrow_off this]
  exact h x y hn
/-! kin, children and ways -/
def zJ4 (M : zM) : Prop := (∀ x y, 0 ≤ x → x < M 235 1 → 0 ≤ y → y < M 235 1 → M 8 (x * 8 + y) = zkn (zmB 8 (M 235 1) (zk0 (M 235)) (8 * x + y))) ∧ ∀ p, 0 ≤ p → p < M 235 1 → M 10 p = zch (M 235) p (M 235 1).toNat
def zJ10 (M : zM) : Prop := ∀ x y, 0 ≤ x → x < 6 → 0 ≤ y → y < 6 → M 9 (x * 6 + y) = zkn (zmB 6 6 (zw0 (M 235)) (6 * x + y))
def zS4 : List (Int × Int × Int) := [(8, 0, 64), (10, 0, 8), (235, 1, 2), (235, 14, 38)]
def zS10 : List (Int × Int × Int) := [(9, 0, 36), (235, 38, 74)]
theorem zch_e {A B : Int → Int} (p : Int) : ∀ k : Nat, k ≤ 8 → (∀ i, 14 ≤ i → i < 38 → B i = A i) → zch B p k = zch A p k
  | 0, _, _ => rfl
  | k + 1, h, f => by
    show zch B p k + (if zic B k p then 1 else 0) = zch A p k + if zic A k p then 1 else 0
    rw [zch_e p k (by omega) f]
    have : zic B k p ↔ zic A k p := by
      show (B (15 + 3 * (k : Int)) = p ∨ B (16 + 3 * (k : Int)) = p) ↔ (A (15 + 3 * (k : Int)) = p ∨ A (16 + 3 * (k : Int)) = p)
      rw [f (15 + 3 * (k : Int)) (by omega) (by omega), f (16 + 3 * (k : Int)) (by omega) (by omega)]
    by_cases c : zic A k p
    · rw [if_pos c, if_pos (this.mpr c)]
    · rw [if_neg c, if_neg (fun q => c (this.mp q))]
theorem zk0_E {A B : Int → Int} {n : Int} (hn : n ≤ 8) (f : ∀ i, 14 ≤ i → i < 38 → B i = A i) : zE 8 n (zk0 B) (zk0 A) := fun x y x0 x1 y0 y1 => by
  rw [zk0_at B ⟨y0, by omega⟩, zk0_at A ⟨y0, by omega⟩]
  have : ∀ c p, 0 ≤ c → c < n → (zic B c p ↔ zic A c p) := fun c p c0 c1 => by
    show (B (15 + 3 * c) = p ∨ B (16 + 3 * c) = p) ↔ (A (15 + 3 * c) = p ∨ A (16 + 3 * c) = p)
    rw [f (15 + 3 * c) (by omega) (by omega), f (16 + 3 * c) (by omega) (by omega)]
  have t1 := this x y x0 x1
  have t2 := this y x y0 y1
  by_cases c : x = y
  · rw [if_pos c, if_pos c]
  · rw [if_neg c, if_neg c]
    by_cases c2 : zic A x y ∨ zic A y x
    · rw [if_pos c2, if_pos (by rw [t1, t2]; exact c2)]
    · rw [if_neg c2, if_neg (by rw [t1, t2]; exact c2)]
theorem zw0_E {A B : Int → Int} (f : ∀ i, 38 ≤ i → i < 74 → B i = A i) : zE 6 6 (zw0 B) (zw0 A) := fun x y x0 x1 y0 y1 => by
  rw [zw0_at B ⟨y0, by omega⟩, zw0_at A ⟨y0, by omega⟩, f _ (by omega) (by omega)]
theorem zJ4_c {M M' : zM} (h : zsm zS4 M M') (b : M 235 1 ≤ 8) (j : zJ4 M) : zJ4 M' := by
  have e : M' 235 1 = M 235 1 := h 235 1 (zhit_at 2 rfl ⟨by decide, by decide⟩)
  have f : ∀ i, 14 ≤ i → i < 38 → M' 235 i = M 235 i := fun i a c => h 235 i (zhit_at 3 rfl ⟨a, c⟩)
  unfold zJ4
  rw [e]
  refine ⟨fun x y x0 x1 y0 y1 => ?_, fun p p0 p1 => ?_⟩
  · rw [h 8 _ (zhit_at 0 rfl ⟨by omega, by omega⟩), zE_B (Or.inr rfl) b (zk0_E b f) x y x0 x1 y0 y1]
    exact j.1 x y x0 x1 y0 y1
  · rw [h 10 _ (zhit_at 1 rfl ⟨by omega, by omega⟩), zch_e p _ (by omega) f]
    exact j.2 p p0 p1
theorem zJ10_c {M M' : zM} (h : zsm zS10 M M') (j : zJ10 M) : zJ10 M' := by
  have f : ∀ i, 38 ≤ i → i < 74 → M' 235 i = M 235 i := fun i a c => h 235 i (zhit_at 1 rfl ⟨a, c⟩)
  intro x y x0 x1 y0 y1
  rw [h 9 _ (zhit_at 0 rfl ⟨by omega, by omega⟩), zE_B (Or.inl rfl) (by decide) (zw0_E f) x y x0 x1 y0 y1]
  exact j x y x0 x1 y0 y1

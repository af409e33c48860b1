/-! which places change: (id, from, to) -/
def zhit (l : List (Int × Int × Int)) (a i : Int) : Prop := ∃ t ∈ l, a = t.1 ∧ t.2.1 ≤ i ∧ i < t.2.2
/-- places that no run looks at count as hit -/
def zhw (l : List (Int × Int × Int)) (a i : Int) : Prop := i < 0 ∨ 1000000 ≤ i ∨ zhit l a i
def zfr (l : List (Int × Int × Int)) (M M' : zM) : Prop := ∀ a i, ¬ zhw l a i → M' a i = M a i
def zdj (S l : List (Int × Int × Int)) : Bool := S.all fun s => decide (0 ≤ s.2.1) && decide (s.2.2 ≤ 1000000) && l.all fun t => decide (s.1 ≠ t.1) || decide (s.2.2 ≤ t.2.1) || decide (t.2.2 ≤ s.2.1)
/-- the places of S are the same -/
def zsm (S : List (Int × Int × Int)) (M M' : zM) : Prop := ∀ a i, zhit S a i → M' a i = M a i
theorem zfr_rfl {l : List (Int × Int × Int)} {M : zM} : zfr l M M := fun _ _ _ => rfl
theorem zfr_trans {l : List (Int × Int × Int)} {M M1 M2 : zM} (h1 : zfr l M M1) (h2 : zfr l M1 M2) : zfr l M M2 := fun a i h => (h2 a i h).trans (h1 a i h)
theorem zfr_set {l : List (Int × Int × Int)} {M M1 : zM} {a i v : Int} (h : zfr l M M1) (hh : zhit l a i) : zfr l M (zset M1 a i v) := fun x y hn => by
  rw [zset_ne (fun e => hn (Or.inr (Or.inr (by rw [e.1, e.2]; exact hh))))]
  exact h x y hn
theorem zhit_sub {l l' : List (Int × Int × Int)} (hs : ∀ t ∈ l, t ∈ l') {a i : Int} (h : zhit l a i) : zhit l' a i := by
  obtain ⟨t, h1, h2⟩ := h
  exact ⟨t, hs t h1, h2⟩
theorem zfr_sub {l l' : List (Int × Int × Int)} {M M' : zM} (h : zfr l M M') (hs : ∀ t ∈ l, t ∈ l') : zfr l' M M' := fun a i hn => h a i (fun q => hn (by rcases q with q | q | q; exact Or.inl q; exact Or.inr (Or.inl q); exact Or.inr (Or.inr (zhit_sub hs q))))
theorem zfr_sm {S l : List (Int × Int × Int)} {M M' : zM} (h : zfr l M M') (hd : zdj S l = true) : zsm S M M' := by
  intro a i hS
  obtain ⟨s, hs, g1, g2, g3⟩ := hS
  unfold zdj at hd
  have q0 := List.all_eq_true.mp hd s hs
  simp only [Bool.and_eq_true, decide_eq_true_eq] at q0
  refine h a i ?_
  rintro (c | c | ⟨t, ht, h1, h2, h3⟩)
  · omega
  · omega
  have q := List.all_eq_true.mp q0.2 t ht
  simp only [Bool.or_eq_true, decide_eq_true_eq] at q
  omega
theorem zhit_at {l : List (Int × Int × Int)} {a i : Int} (k : Nat) {lo hi : Int} (hk : l[k]? = some (a, lo, hi)) (h : lo ≤ i ∧ i < hi) : zhit l a i := ⟨_, List.mem_of_getElem? hk, rfl, h.1, h.2⟩
/-! ===== the row a of the model: what it may hold ===== -/
def zV0 (A : Int → Int) : Prop := 0 ≤ A 0 ∧ A 0 ≤ 12
def zV1 (A : Int → Int) : Prop := (0 ≤ A 1 ∧ A 1 ≤ 8) ∧ ∀ i, 0 ≤ i → i < A 1 → (0 ≤ A (14 + 3 * i) ∧ A (14 + 3 * i) ≤ 99) ∧ (-1 ≤ A (15 + 3 * i) ∧ A (15 + 3 * i) < i) ∧ (-1 ≤ A (16 + 3 * i) ∧ A (16 + 3 * i) < i) ∧ (A (15 + 3 * i) = A (16 + 3 * i) → A (15 + 3 * i) = -1)
def zV2 (A : Int → Int) : Prop := (0 ≤ A 2 ∧ A 2 ≤ 6) ∧ ∀ p, 0 ≤ p → p < A 2 → (1 ≤ A (74 + 5 * p) ∧ A (74 + 5 * p) ≤ 99) ∧ (0 ≤ A (75 + 5 * p) ∧ A (75 + 5 * p) ≤ 32767) ∧ (0 ≤ A (76 + 5 * p) ∧ A (76 + 5 * p) ≤ 99) ∧ (0 ≤ A (77 + 5 * p) ∧ A (77 + 5 * p) ≤ 8) ∧ (1 ≤ A (78 + 5 * p) ∧ A (78 + 5 * p) ≤ 16)
def zV3 (A : Int → Int) : Prop := -1000000 ≤ A 3 ∧ A 3 ≤ 1000000
def zV4 (A : Int → Int) : Prop := 0 ≤ A 4 ∧ A 4 ≤ 255
def zV5 (A : Int → Int) : Prop := (0 ≤ A 5 ∧ A 5 ≤ A 2) ∧ (∀ i, 0 ≤ i → i < A 5 → (0 ≤ A (104 + 2 * i) ∧ A (104 + 2 * i) < A 2) ∧ (0 ≤ A (105 + 2 * i) ∧ A (105 + 2 * i) < A 0)) ∧ (∀ i j, 0 ≤ i → i < j → j < A 5 → A (104 + 2 * i) ≠ A (104 + 2 * j))
def zV6 (A : Int → Int) : Prop := 0 ≤ A 6 ∧ A 6 ≤ 4
def zV7 (A : Int → Int) : Prop := (0 ≤ A 7 ∧ A 7 ≤ 8) ∧ ∀ i, 0 ≤ i → i < A 7 → (0 ≤ A (116 + 2 * i) ∧ A (116 + 2 * i) < A 2) ∧ (0 ≤ A (117 + 2 * i) ∧ A (117 + 2 * i) < A 0)
def zV8 (A : Int → Int) : Prop := (0 ≤ A 8 ∧ A 8 ≤ 12) ∧ ∀ i, 0 ≤ i → i < A 8 → (0 ≤ A (132 + 2 * i) ∧ A (132 + 2 * i) < A 0) ∧ (-1000000 ≤ A (133 + 2 * i) ∧ A (133 + 2 * i) ≤ 1000000)
def zVt (A : Int → Int) : Prop := ∀ t, 0 ≤ t → t < 4 → 0 ≤ A (10 + t) ∧ A (10 + t) ≤ 99
def zVr (A : Int → Int) : Prop := ∀ k, 0 ≤ k → k < 36 → 0 ≤ A (38 + k) ∧ A (38 + k) ≤ 99
def zVA (A : Int → Int) : Prop := zV0 A ∧ zV1 A ∧ zV2 A ∧ zV3 A ∧ zV4 A ∧ zV5 A ∧ zV6 A ∧ zV7 A ∧ zV8 A ∧ zVt A ∧ zVr A
section VE
variable {A B : Int → Int}
theorem zV0_e (h : zV0 A) (e : B 0 = A 0) : zV0 B := by unfold zV0; rw [e]; exact h
theorem zV1_e (h : zV1 A) (e : B 1 = A 1) (f : ∀ i, 14 ≤ i → i < 38 → B i = A i) : zV1 B := by
  have hb := h.1
  unfold zV1; rw [e]
  refine ⟨hb, fun i q1 q2 => ?_⟩
  rw [f (14 + 3 * i) (by omega) (by omega), f (15 + 3 * i) (by omega) (by omega), f (16 + 3 * i) (by omega) (by omega)]; exact h.2 i q1 q2
theorem zV2_e (h : zV2 A) (e : B 2 = A 2) (f : ∀ i, 74 ≤ i → i < 104 → B i = A i) : zV2 B := by
  have hb := h.1
  unfold zV2; rw [e]
  refine ⟨hb, fun p q1 q2 => ?_⟩
  rw [f (74 + 5 * p) (by omega) (by omega), f (75 + 5 * p) (by omega) (by omega), f (76 + 5 * p) (by omega) (by omega), f (77 + 5 * p) (by omega) (by omega), f (78 + 5 * p) (by omega) (by omega)]; exact h.2 p q1 q2
theorem zV3_e (h : zV3 A) (e : B 3 = A 3) : zV3 B := by unfold zV3; rw [e]; exact h
theorem zV4_e (h : zV4 A) (e : B 4 = A 4) : zV4 B := by unfold zV4; rw [e]; exact h
theorem zV5_e (h : zV5 A) (b : A 2 ≤ 6) (e0 : A 0 ≤ B 0) (e2 : A 2 ≤ B 2) (e5 : B 5 = A 5) (f : ∀ i, 104 ≤ i → i < 116 → B i = A i) : zV5 B := by
  obtain ⟨h1, h2, h3⟩ := h
  unfold zV5; rw [e5]
  refine ⟨by omega, fun i q1 q2 => ?_, fun i j q1 q2 q3 => ?_⟩
  · rw [f (104 + 2 * i) (by omega) (by omega), f (105 + 2 * i) (by omega) (by omega)]; have := h2 i q1 q2; omega
  · rw [f (104 + 2 * i) (by omega) (by omega), f (104 + 2 * j) (by omega) (by omega)]; exact h3 i j q1 q2 q3
theorem zV6_e (h : zV6 A) (e : B 6 = A 6) : zV6 B := by unfold zV6; rw [e]; exact h
theorem zV7_e (h : zV7 A) (e0 : A 0 ≤ B 0) (e2 : A 2 ≤ B 2) (e7 : B 7 = A 7) (f : ∀ i, 116 ≤ i → i < 132 → B i = A i) : zV7 B := by
  obtain ⟨h1, h2⟩ := h
  unfold zV7; rw [e7]
  refine ⟨h1, fun i q1 q2 => ?_⟩
  rw [f (116 + 2 * i) (by omega) (by omega), f (117 + 2 * i) (by omega) (by omega)]; have := h2 i q1 q2; omega
theorem zV8_e (h : zV8 A) (e0 : A 0 ≤ B 0) (e8 : B 8 = A 8) (f : ∀ i, 132 ≤ i → i < 156 → B i = A i) : zV8 B := by
  obtain ⟨h1, h2⟩ := h
  unfold zV8; rw [e8]
  refine ⟨h1, fun i q1 q2 => ?_⟩
  rw [f (132 + 2 * i) (by omega) (by omega), f (133 + 2 * i) (by omega) (by omega)]; have := h2 i q1 q2; omega
theorem zVt_e (h : zVt A) (f : ∀ i, 10 ≤ i → i < 14 → B i = A i) : zVt B := fun t q1 q2 => by rw [f _ (by omega) (by omega)]; exact h t q1 q2
theorem zVr_e (h : zVr A) (f : ∀ i, 38 ≤ i → i < 74 → B i = A i) : zVr B := fun t q1 q2 => by rw [f _ (by omega) (by omega)]; exact h t q1 q2
end VE
/-! ===== the class's cells beside the row a ===== -/
def zJ1 (M : zM) : Prop := ∀ t, 0 ≤ t → t < 4 → M 3 t = M 235 (10 + t)
def zJ2 (M : zM) : Prop := M 2 4 = M 235 1 ∧ ∀ i, 0 ≤ i → i < M 235 1 → M 4 i = M 235 (14 + 3 * i) ∧ M 5 i = M 235 (15 + 3 * i) ∧ M 6 i = M 235 (16 + 3 * i)
def zJ3 (M : zM) : Prop := ∀ k, 0 ≤ k → k < 36 → M 7 k = M 235 (38 + k)
def zJ5 (M : zM) : Prop := M 13 1 = M 234 5 ∧ (0 ≤ M 13 1 ∧ M 13 1 ≤ 300) ∧ ∀ k, 0 ≤ k → k < M 13 1 → M 14 k = M 239 k ∧ 0 ≤ M 14 k ∧ M 14 k ≤ 255
def zJ6 (M : zM) : Prop := (M 12 1 = 0 ∧ M 234 6 = -1 ∧ M 234 7 = -1) ∨ (M 12 1 = 1 ∧ M 12 2 = M 234 6 ∧ (0 ≤ M 12 2 ∧ M 12 2 ≤ 5) ∧ (M 12 2 = 0 → M 234 7 = -1) ∧ (M 12 2 ≠ 0 → M 12 3 = M 234 7))
def zJ7 (M : zM) : Prop := M 1 3 = M 235 6
def zJ8 (M : zM) : Prop := M 19 8 = M 235 0 ∧ ∀ q, 0 ≤ q → q < M 235 0 → (M 25 q = M 248 (4 * q) ∧ M 24 q = M 248 (4 * q + 1) ∧ M 23 q = M 248 (4 * q + 2) ∧ M 26 q = M 248 (4 * q + 3)) ∧ (0 ≤ M 25 q ∧ M 25 q ≤ 32767) ∧ (0 ≤ M 24 q ∧ M 24 q ≤ 8) ∧ (1 ≤ M 23 q ∧ M 23 q ≤ 16) ∧ (-1 ≤ M 26 q ∧ M 26 q ≤ 99)
def zJ9 (M : zM) : Prop := M 19 9 = M 235 4
def zJ11 (M : zM) : Prop := M 157 5 = M 235 2 ∧ ∀ p, 0 ≤ p → p < M 235 2 → M 158 p = M 235 (74 + 5 * p) ∧ M 159 p = M 235 (75 + 5 * p) ∧ M 160 p = M 235 (76 + 5 * p) ∧ M 161 p = M 235 (77 + 5 * p) ∧ M 162 p = M 235 (78 + 5 * p)
def zJ12 (M : zM) : Prop := M 157 6 = M 235 3
def zJ13 (M : zM) : Prop := M 157 9 = M 235 5 ∧ ∀ i, 0 ≤ i → i < M 235 5 → M 163 i = M 235 (104 + 2 * i) ∧ M 164 i = M 235 (105 + 2 * i)
def zJ14 (M : zM) : Prop := M 176 2 = M 235 7 ∧ ∀ i, 0 ≤ i → i < M 235 7 → M 177 i = M 235 (116 + 2 * i) ∧ M 178 i = M 235 (117 + 2 * i)
def zJ15 (M : zM) : Prop := M 176 7 = M 235 8 ∧ ∀ i, 0 ≤ i → i < M 235 8 → M 180 i = M 235 (132 + 2 * i) ∧ M 181 i = M 235 (133 + 2 * i)
/-- the image: the class's row and the model's -/
def zJ18 (M : zM) : Prop :=
  M 185 0 = M 236 6 ∧ (∀ t, 0 ≤ t → t < 4 → M 185 (1 + t) = M 236 (10 + t)) ∧ M 185 5 = M 236 1 ∧ (∀ k, 0 ≤ k → k < 36 → M 185 (6 + k) = M 236 (38 + k)) ∧ M 185 42 = M 236 0 ∧ M 185 43 = M 236 4 ∧ M 185 44 = M 236 2 ∧ M 185 45 = M 236 3 ∧ M 185 46 = M 236 5 ∧
  (∀ i, 0 ≤ i → i < M 236 5 → M 185 (47 + i) = M 236 (104 + 2 * i) ∧ M 185 (53 + i) = M 236 (105 + 2 * i)) ∧ M 185 59 = M 236 7 ∧ (∀ i, 0 ≤ i → i < M 236 7 → M 185 (60 + i) = M 236 (116 + 2 * i) ∧ M 185 (68 + i) = M 236 (117 + 2 * i)) ∧
  M 185 76 = M 236 8 ∧ (∀ i, 0 ≤ i → i < M 236 8 → M 185 (77 + i) = M 236 (132 + 2 * i) ∧ M 185 (89 + i) = M 236 (133 + 2 * i))
/-- the image beside what is now: what was added stays behind it -/
def zJ19 (M : zM) : Prop :=
  (M 236 0 ≤ M 235 0 ∧ M 236 1 ≤ M 235 1 ∧ M 236 2 ≤ M 235 2 ∧ M 236 6 ≤ M 235 6) ∧ (∀ k, 0 ≤ k → k < 3 * M 236 1 → M 236 (14 + k) = M 235 (14 + k)) ∧ (∀ k, 0 ≤ k → k < 5 * M 236 2 → M 236 (74 + k) = M 235 (74 + k))
def zS1 : List (Int × Int × Int) := [(3, 0, 4), (235, 10, 14)]
def zS2 : List (Int × Int × Int) := [(2, 4, 5), (4, 0, 8), (5, 0, 8), (6, 0, 8), (235, 1, 2), (235, 14, 38)]
def zS3 : List (Int × Int × Int) := [(7, 0, 36), (235, 38, 74)]
def zS5 : List (Int × Int × Int) := [(13, 1, 2), (14, 0, 300), (234, 5, 6), (239, 0, 300)]
def zS6 : List (Int × Int × Int) := [(12, 1, 4), (234, 6, 8)]
def zS7 : List (Int × Int × Int) := [(1, 3, 4), (235, 6, 7)]
def zS8 : List (Int × Int × Int) := [(19, 8, 9), (23, 0, 12), (24, 0, 12), (25, 0, 12), (26, 0, 12), (235, 0, 1), (248, 0, 48)]
def zS9 : List (Int × Int × Int) := [(19, 9, 10), (235, 4, 5)]
def zS11 : List (Int × Int × Int) := [(157, 5, 6), (158, 0, 6), (159, 0, 6), (160, 0, 6), (161, 0, 6), (162, 0, 6), (235, 2, 3), (235, 74, 104)]
def zS12 : List (Int × Int × Int) := [(157, 6, 7), (235, 3, 4)]
def zS13 : List (Int × Int × Int) := [(157, 9, 10), (163, 0, 6), (164, 0, 6), (235, 5, 6), (235, 104, 116)]
def zS14 : List (Int × Int × Int) := [(176, 2, 3), (177, 0, 8), (178, 0, 8), (235, 7, 8), (235, 116, 132)]
def zS15 : List (Int × Int × Int) := [(176, 7, 8), (180, 0, 12), (181, 0, 12), (235, 8, 9), (235, 132, 156)]
def zS18 : List (Int × Int × Int) := [(185, 0, 128), (236, 0, 156)]
def zSA : List (Int × Int × Int) := [(235, 0, 9), (235, 10, 156)]
def zSI : List (Int × Int × Int) := [(236, 0, 9), (236, 10, 156)]
def zS19 : List (Int × Int × Int) := [(236, 0, 7), (236, 14, 38), (236, 74, 104), (235, 0, 3), (235, 6, 7), (235, 14, 38), (235, 74, 104)]
theorem zVA_ext {A B : Int → Int} (h : zVA A) (e : ∀ i, (0 ≤ i ∧ i < 9) ∨ (10 ≤ i ∧ i < 156) → B i = A i) : zVA B := by
  obtain ⟨h0, h1, h2, h3, h4, h5, h6, h7, h8, ht, hr⟩ := h
  have e0 := e 0 (by omega); have e2 := e 2 (by omega)
  exact ⟨zV0_e h0 e0, zV1_e h1 (e _ (by omega)) (fun i q1 q2 => e i (by omega)), zV2_e h2 e2 (fun i q1 q2 => e i (by omega)), zV3_e h3 (e _ (by omega)), zV4_e h4 (e _ (by omega)), zV5_e h5 h2.1.2 (by omega) (by omega) (e _ (by omega)) (fun i q1 q2 => e i (by omega)), zV6_e h6 (e _ (by omega)), zV7_e h7 (by omega) (by omega) (e _ (by omega)) (fun i q1 q2 => e i (by omega)), zV8_e h8 (by omega) (e _ (by omega)) (fun i q1 q2 => e i (by omega)), zVt_e ht (fun i q1 q2 => e i (by omega)), zVr_e hr (fun i q1 q2 => e i (by omega))⟩
section CG
variable {M M' : zM}
theorem zsA_c (h : zsm zSA M M') (j : zVA (M 235)) : zVA (M' 235) := zVA_ext j (fun i hi => h 235 i (by
  rcases hi with q | q
  · exact zhit_at 0 rfl q
  · exact zhit_at 1 rfl q))
theorem zsI_c (h : zsm zSI M M') (j : zVA (M 236)) : zVA (M' 236) := zVA_ext j (fun i hi => h 236 i (by
  rcases hi with q | q
  · exact zhit_at 0 rfl q
  · exact zhit_at 1 rfl q))
theorem zJ1_c (h : zsm zS1 M M') (j : zJ1 M) : zJ1 M' := fun t q1 q2 => by
  rw [h 3 t (zhit_at 0 rfl ⟨q1, q2⟩), h 235 (10 + t) (zhit_at 1 rfl ⟨by omega, by omega⟩)]; exact j t q1 q2
theorem zJ2_c (h : zsm zS2 M M') (b : M 235 1 ≤ 8) (j : zJ2 M) : zJ2 M' := by
  have e : M' 235 1 = M 235 1 := h 235 1 (zhit_at 4 rfl ⟨by decide, by decide⟩)
  refine ⟨by rw [h 2 4 (zhit_at 0 rfl ⟨by decide, by decide⟩), e]; exact j.1, fun i q1 q2 => ?_⟩
  rw [e] at q2
  rw [h 4 i (zhit_at 1 rfl ⟨q1, by omega⟩), h 5 i (zhit_at 2 rfl ⟨q1, by omega⟩), h 6 i (zhit_at 3 rfl ⟨q1, by omega⟩), h 235 (14 + 3 * i) (zhit_at 5 rfl ⟨by omega, by omega⟩), h 235 (15 + 3 * i) (zhit_at 5 rfl ⟨by omega, by omega⟩), h 235 (16 + 3 * i) (zhit_at 5 rfl ⟨by omega, by omega⟩)]
  exact j.2 i q1 q2
theorem zJ3_c (h : zsm zS3 M M') (j : zJ3 M) : zJ3 M' := fun t q1 q2 => by
  rw [h 7 t (zhit_at 0 rfl ⟨q1, q2⟩), h 235 (38 + t) (zhit_at 1 rfl ⟨by omega, by omega⟩)]; exact j t q1 q2
theorem zJ5_c (h : zsm zS5 M M') (j : zJ5 M) : zJ5 M' := by
  have e : M' 13 1 = M 13 1 := h 13 1 (zhit_at 0 rfl ⟨by decide, by decide⟩)
  unfold zJ5
  rw [e, h 234 5 (zhit_at 2 rfl ⟨by decide, by decide⟩)]
  refine ⟨j.1, j.2.1, fun k q1 q2 => ?_⟩
  have := j.2.1
  rw [h 14 k (zhit_at 1 rfl ⟨q1, by omega⟩), h 239 k (zhit_at 3 rfl ⟨q1, by omega⟩)]
  exact j.2.2 k q1 q2
theorem zJ6_c (h : zsm zS6 M M') (j : zJ6 M) : zJ6 M' := by
  unfold zJ6
  rw [h 12 1 (zhit_at 0 rfl ⟨by decide, by decide⟩), h 12 2 (zhit_at 0 rfl ⟨by decide, by decide⟩), h 12 3 (zhit_at 0 rfl ⟨by decide, by decide⟩), h 234 6 (zhit_at 1 rfl ⟨by decide, by decide⟩), h 234 7 (zhit_at 1 rfl ⟨by decide, by decide⟩)]
  exact j
theorem zJ7_c (h : zsm zS7 M M') (j : zJ7 M) : zJ7 M' := by
  unfold zJ7
  rw [h 1 3 (zhit_at 0 rfl ⟨by decide, by decide⟩), h 235 6 (zhit_at 1 rfl ⟨by decide, by decide⟩)]
  exact j
theorem zJ8_c (h : zsm zS8 M M') (b : M 235 0 ≤ 12) (j : zJ8 M) : zJ8 M' := by
  have e : M' 235 0 = M 235 0 := h 235 0 (zhit_at 5 rfl ⟨by decide, by decide⟩)
  refine ⟨by rw [h 19 8 (zhit_at 0 rfl ⟨by decide, by decide⟩), e]; exact j.1, fun i q1 q2 => ?_⟩
  rw [e] at q2
  rw [h 23 i (zhit_at 1 rfl ⟨q1, by omega⟩), h 24 i (zhit_at 2 rfl ⟨q1, by omega⟩), h 25 i (zhit_at 3 rfl ⟨q1, by omega⟩), h 26 i (zhit_at 4 rfl ⟨q1, by omega⟩), h 248 (4 * i) (zhit_at 6 rfl ⟨by omega, by omega⟩), h 248 (4 * i + 1) (zhit_at 6 rfl ⟨by omega, by omega⟩), h 248 (4 * i + 2) (zhit_at 6 rfl ⟨by omega, by omega⟩), h 248 (4 * i + 3) (zhit_at 6 rfl ⟨by omega, by omega⟩)]
  exact j.2 i q1 q2
theorem zJ9_c (h : zsm zS9 M M') (j : zJ9 M) : zJ9 M' := by
  unfold zJ9
  rw [h 19 9 (zhit_at 0 rfl ⟨by decide, by decide⟩), h 235 4 (zhit_at 1 rfl ⟨by decide, by decide⟩)]
  exact j
theorem zJ11_c (h : zsm zS11 M M') (b : M 235 2 ≤ 6) (j : zJ11 M) : zJ11 M' := by
  have e : M' 235 2 = M 235 2 := h 235 2 (zhit_at 6 rfl ⟨by decide, by decide⟩)
  refine ⟨by rw [h 157 5 (zhit_at 0 rfl ⟨by decide, by decide⟩), e]; exact j.1, fun i q1 q2 => ?_⟩
  rw [e] at q2
  rw [h 158 i (zhit_at 1 rfl ⟨q1, by omega⟩), h 159 i (zhit_at 2 rfl ⟨q1, by omega⟩), h 160 i (zhit_at 3 rfl ⟨q1, by omega⟩), h 161 i (zhit_at 4 rfl ⟨q1, by omega⟩), h 162 i (zhit_at 5 rfl ⟨q1, by omega⟩), h 235 (74 + 5 * i) (zhit_at 7 rfl ⟨by omega, by omega⟩), h 235 (75 + 5 * i) (zhit_at 7 rfl ⟨by omega, by omega⟩), h 235 (76 + 5 * i) (zhit_at 7 rfl ⟨by omega, by omega⟩), h 235 (77 + 5 * i) (zhit_at 7 rfl ⟨by omega, by omega⟩), h 235 (78 + 5 * i) (zhit_at 7 rfl ⟨by omega, by omega⟩)]
  exact j.2 i q1 q2
theorem zJ12_c (h : zsm zS12 M M') (j : zJ12 M) : zJ12 M' := by
  unfold zJ12
  rw [h 157 6 (zhit_at 0 rfl ⟨by decide, by decide⟩), h 235 3 (zhit_at 1 rfl ⟨by decide, by decide⟩)]
  exact j
theorem zJ13_c (h : zsm zS13 M M') (b : M 235 5 ≤ 6) (j : zJ13 M) : zJ13 M' := by
  have e : M' 235 5 = M 235 5 := h 235 5 (zhit_at 3 rfl ⟨by decide, by decide⟩)
  refine ⟨by rw [h 157 9 (zhit_at 0 rfl ⟨by decide, by decide⟩), e]; exact j.1, fun i q1 q2 => ?_⟩
  rw [e] at q2
  rw [h 163 i (zhit_at 1 rfl ⟨q1, by omega⟩), h 164 i (zhit_at 2 rfl ⟨q1, by omega⟩), h 235 (104 + 2 * i) (zhit_at 4 rfl ⟨by omega, by omega⟩), h 235 (105 + 2 * i) (zhit_at 4 rfl ⟨by omega, by omega⟩)]
  exact j.2 i q1 q2
theorem zJ14_c (h : zsm zS14 M M') (b : M 235 7 ≤ 8) (j : zJ14 M) : zJ14 M' := by
  have e : M' 235 7 = M 235 7 := h 235 7 (zhit_at 3 rfl ⟨by decide, by decide⟩)
  refine ⟨by rw [h 176 2 (zhit_at 0 rfl ⟨by decide, by decide⟩), e]; exact j.1, fun i q1 q2 => ?_⟩
  rw [e] at q2
  rw [h 177 i (zhit_at 1 rfl ⟨q1, by omega⟩), h 178 i (zhit_at 2 rfl ⟨q1, by omega⟩), h 235 (116 + 2 * i) (zhit_at 4 rfl ⟨by omega, by omega⟩), h 235 (117 + 2 * i) (zhit_at 4 rfl ⟨by omega, by omega⟩)]
  exact j.2 i q1 q2
theorem zJ15_c (h : zsm zS15 M M') (b : M 235 8 ≤ 12) (j : zJ15 M) : zJ15 M' := by
  have e : M' 235 8 = M 235 8 := h 235 8 (zhit_at 3 rfl ⟨by decide, by decide⟩)
  refine ⟨by rw [h 176 7 (zhit_at 0 rfl ⟨by decide, by decide⟩), e]; exact j.1, fun i q1 q2 => ?_⟩
  rw [e] at q2
  rw [h 180 i (zhit_at 1 rfl ⟨q1, by omega⟩), h 181 i (zhit_at 2 rfl ⟨q1, by omega⟩), h 235 (132 + 2 * i) (zhit_at 4 rfl ⟨by omega, by omega⟩), h 235 (133 + 2 * i) (zhit_at 4 rfl ⟨by omega, by omega⟩)]
  exact j.2 i q1 q2
theorem zJ18_c (h : zsm zS18 M M') (b : M 236 5 ≤ 6 ∧ M 236 7 ≤ 8 ∧ M 236 8 ≤ 12) (j : zJ18 M) : zJ18 M' := by
  have e : ∀ i, 0 ≤ i → i < 156 → M' 236 i = M 236 i := fun i q1 q2 => h 236 i (zhit_at 1 rfl ⟨q1, q2⟩)
  have f : ∀ i, 0 ≤ i → i < 128 → M' 185 i = M 185 i := fun i q1 q2 => h 185 i (zhit_at 0 rfl ⟨q1, q2⟩)
  obtain ⟨j0, j1, j2, j3, j4, j5, j6, j7, j8, j9, j10, j11, j12, j13⟩ := j
  unfold zJ18
  rw [f 0 (by decide) (by decide), f 5 (by decide) (by decide), f 42 (by decide) (by decide), f 43 (by decide) (by decide), f 44 (by decide) (by decide), f 45 (by decide) (by decide), f 46 (by decide) (by decide), f 59 (by decide) (by decide), f 76 (by decide) (by decide), e 6 (by decide) (by decide), e 1 (by decide) (by decide), e 0 (by decide) (by decide), e 4 (by decide) (by decide), e 2 (by decide) (by decide), e 3 (by decide) (by decide), e 5 (by decide) (by decide), e 7 (by decide) (by decide), e 8 (by decide) (by decide)]
  refine ⟨j0, fun t q1 q2 => ?_, j2, fun k q1 q2 => ?_, j4, j5, j6, j7, j8, fun i q1 q2 => ?_, j10, fun i q1 q2 => ?_, j12, fun i q1 q2 => ?_⟩
  · rw [f _ (by omega) (by omega), e _ (by omega) (by omega)]; exact j1 t q1 q2
  · rw [f _ (by omega) (by omega), e _ (by omega) (by omega)]; exact j3 k q1 q2
  · rw [f _ (by omega) (by omega), e _ (by omega) (by omega), f _ (by omega) (by omega), e _ (by omega) (by omega)]; exact j9 i q1 q2
  · rw [f _ (by omega) (by omega), e _ (by omega) (by omega), f _ (by omega) (by omega), e _ (by omega) (by omega)]; exact j11 i q1 q2
  · rw [f _ (by omega) (by omega), e _ (by omega) (by omega), f _ (by omega) (by omega), e _ (by omega) (by omega)]; exact j13 i q1 q2
theorem zJ19_c (h : zsm zS19 M M') (b : M 236 1 ≤ 8 ∧ M 236 2 ≤ 6) (j : zJ19 M) : zJ19 M' := by
  obtain ⟨j1, j2, j3⟩ := j
  unfold zJ19
  rw [h 236 0 (zhit_at 0 rfl ⟨by decide, by decide⟩), h 236 1 (zhit_at 0 rfl ⟨by decide, by decide⟩), h 236 2 (zhit_at 0 rfl ⟨by decide, by decide⟩), h 236 6 (zhit_at 0 rfl ⟨by decide, by decide⟩), h 235 0 (zhit_at 3 rfl ⟨by decide, by decide⟩), h 235 1 (zhit_at 3 rfl ⟨by decide, by decide⟩), h 235 2 (zhit_at 3 rfl ⟨by decide, by decide⟩), h 235 6 (zhit_at 4 rfl ⟨by decide, by decide⟩)]
  refine ⟨j1, fun k q1 q2 => ?_, fun k q1 q2 => ?_⟩
  · rw [h 236 (14 + k) (zhit_at 1 rfl ⟨by omega, by omega⟩), h 235 (14 + k) (zhit_at 5 rfl ⟨by omega, by omega⟩)]; exact j2 k q1 q2
  · rw [h 236 (74 + k) (zhit_at 2 rfl ⟨by omega, by omega⟩), h 235 (74 + k) (zhit_at 6 rfl ⟨by omega, by omega⟩)]; exact j3 k q1 q2
end CG

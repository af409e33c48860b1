/-! questions: nodes and steps -/
def zlc (st : Int → Int) : Nat → Int
  | 0 => 0
  | k + 1 => zlc st k + if st k < 2 then 1 else 0
def zmx (c : Int → Int) : Nat → Int
  | 0 => 0
  | k + 1 => max (zmx c k) (c k)
def zhv (st v : Int → Int) : Nat → Int → Int
  | 0 => fun _ => 0
  | k + 1 => zup (zhv st v k) k (1 + zmx (fun j => zhv st v k (zcd st v k j)) (zpn (st k) (v k)).toNat)
def zQq (M : zM) (q : Int) : Prop :=
  (∃ t, 0 ≤ t ∧ t < M 235 6 ∧ t < 4 ∧ M 20 q = 189 + 12 * t) ∧ (0 ≤ M 21 q ∧ 1 ≤ M 246 q ∧ M 246 q ≤ 120 ∧ M 22 q = M 21 q + M 246 q - 1 ∧ M 21 q + M 246 q ≤ M (M 20 q) 8 ∧ M (M 20 q) 8 ≤ 300) ∧
  zQC (M (M 20 q + 1)) (M (M 20 q + 2)) (M (M 20 q + 3)) (M (M 20 q + 4)) (M (M 20 q + 5)) (M (M 20 q + 7)) (fun k => M 247 (240 * q + 2 * k)) (fun k => M 247 (240 * q + 2 * k + 1)) (M 21 q) (M 246 q) ∧
  zlc (fun k => M 247 (240 * q + 2 * k)) (M 246 q).toNat ≤ 16 ∧ ∀ i, zhv (fun k => M 247 (240 * q + 2 * k)) (fun k => M 247 (240 * q + 2 * k + 1)) (M 246 q).toNat i ≤ 40
def zJ16 (M : zM) : Prop := ∀ q, 0 ≤ q → q < M 235 0 → zQq M q
def zJ17 (M : zM) : Prop := ∀ q, 0 ≤ q → q < M 236 0 → M 20 q < 189 + 12 * M 236 6
def zS17 : List (Int × Int × Int) := [(20, 0, 12), (236, 0, 1), (236, 6, 7)]
theorem zJ17_c {M M' : zM} (h : zsm zS17 M M') (b : M 236 0 ≤ 12) (j : zJ17 M) : zJ17 M' := fun q q0 q1 => by
  rw [h 236 0 (zhit_at 1 rfl ⟨by decide, by decide⟩)] at q1
  rw [h 20 q (zhit_at 0 rfl ⟨q0, by omega⟩), h 236 6 (zhit_at 2 rfl ⟨by decide, by decide⟩)]; exact j q q0 q1
theorem zcd_e {st v st' v' : Int → Int} {k : Nat} (h : ∀ i : Nat, i < k + 1 → st' i = st i ∧ v' i = v i) : zbs st' v' k = zbs st v k ∧ ∀ j, zcd st' v' k j = zcd st v k j := by
  have e := zsp_e (st := st) (v := v) (st' := st') (v' := v') k (fun i hi => h i (by omega))
  have e1 := h k (by omega)
  have b : zbs st' v' k = zbs st v k := by unfold zbs; rw [e, e1.1, e1.2]
  exact ⟨b, fun j => by unfold zcd; rw [b, e]⟩
theorem zQC_e {K V S C F N st v K' V' S' C' F' N' st' v' : Int → Int} {f len : Int} (hf : 0 ≤ f ∧ f + len ≤ 300) (e1 : ∀ x, 0 ≤ x → x < 300 → K' x = K x ∧ V' x = V x ∧ S' x = S x ∧ C' x = C x ∧ F' x = F x ∧ N' x = N x) (e2 : ∀ k : Nat, (k : Int) < len → st' k = st k ∧ v' k = v k) (h : zQC K V S C F N st v f len) : zQC K' V' S' C' F' N' st' v' f len := by
  refine ⟨fun k hk => ?_, by rw [zsp_e len.toNat (fun k hk => e2 k (by omega))]; exact h.2⟩
  obtain ⟨a1, a2, a3, a4, a5, a6⟩ := e1 (f + k) (by omega) (by omega)
  obtain ⟨b1, b2⟩ := zcd_e (st := st) (v := v) (st' := st') (v' := v') (k := k) (fun i hi => e2 i (by omega))
  obtain ⟨c1, c2⟩ := e2 k hk
  have q := h.1 k hk
  have ci := fun {j : Int} (hj : 0 ≤ j ∧ j < zpn (st k) (v k)) => zcd_in h hk hj
  rw [a1, a2, a4, a5, b1, c1, c2]
  obtain ⟨q1, q2, q3, q4, q5, q6, q7, q8, q9, q10, q11, q12, q13⟩ := q
  refine ⟨q1, q2, q3, q4, q5, q6, q7, q8, q9, fun w => by rw [b2]; exact q10 w, fun j j0 j1 => ?_, fun j j0 j1 => ?_, q13⟩
  · have w := ci (j := j) ⟨j0, by omega⟩
    rw [b2, b2, (e1 (f + zcd st v k j) (by omega) (by omega)).2.2.2.2.2]
    exact q11 j j0 j1
  · have w := ci (j := j) ⟨j0, by omega⟩
    rw [b2, (e1 (f + zcd st v k j) (by omega) (by omega)).2.2.1]
    exact q12 j j0 j1
theorem zlc_e {st st' : Int → Int} : ∀ n : Nat, (∀ k : Nat, k < n → st' k = st k) → zlc st' n = zlc st n
  | 0, _ => rfl
  | n + 1, h => by
    show zlc st' n + _ = zlc st n + _
    rw [zlc_e n (fun k hk => h k (by omega)), h n (by omega)]
theorem zmx_c {c c' : Int → Int} : ∀ n : Nat, (∀ j : Nat, j < n → c' j = c j) → zmx c' n = zmx c n
  | 0, _ => rfl
  | n + 1, h => by
    show max (zmx c' n) _ = max (zmx c n) _
    rw [zmx_c n (fun k hk => h k (by omega)), h n (by omega)]
theorem zhv_e {st v st' v' : Int → Int} : ∀ n : Nat, (∀ k : Nat, k < n → st' k = st k ∧ v' k = v k) → zhv st' v' n = zhv st v n
  | 0, _ => rfl
  | n + 1, h => by
    have i := zhv_e n (fun k hk => h k (by omega))
    have c := (zcd_e (st := st) (v := v) (st' := st') (v' := v') (k := n) h).2
    show zup (zhv st' v' n) n (1 + zmx (fun j => zhv st' v' n (zcd st' v' n j)) (zpn (st' n) (v' n)).toNat) = zup (zhv st v n) n (1 + zmx (fun j => zhv st v n (zcd st v n j)) (zpn (st n) (v n)).toNat)
    rw [i, (h n (by omega)).1, (h n (by omega)).2, zmx_c (c := fun j => zhv st v n (zcd st v n j)) _ (fun j _ => by show zhv st v n (zcd st' v' n j) = _; rw [c])]
/-- a question is as it was where its places are -/
theorem zQq_e {M M' : zM} {q : Int} (hq : 0 ≤ q ∧ q < 12) (h20 : M' 20 q = M 20 q) (h21 : M' 21 q = M 21 q) (h22 : M' 22 q = M 22 q) (h46 : M' 246 q = M 246 q) (h47 : ∀ i, 0 ≤ i → i < 240 → M' 247 (240 * q + i) = M 247 (240 * q + i)) (h8 : M' (M 20 q) 8 = M (M 20 q) 8) (ho : ∀ i x, (1 ≤ i ∧ i ≤ 7) → i ≠ 6 → 0 ≤ x → x < 300 → M' (M 20 q + i) x = M (M 20 q + i) x) (ht : ∀ t, t < M 235 6 → M 20 q = 189 + 12 * t → t < M' 235 6) (j : zQq M q) : zQq M' q := by
  obtain ⟨⟨t, t0, t1, t2, t3⟩, b, c, l, hh⟩ := j
  have e : ∀ k : Nat, (k : Int) < M 246 q → M' 247 (240 * q + 2 * k) = M 247 (240 * q + 2 * k) ∧ M' 247 (240 * q + 2 * k + 1) = M 247 (240 * q + 2 * k + 1) := fun k hk => ⟨h47 _ (by omega) (by omega), by have := h47 (2 * k + 1) (by omega) (by omega); rw [show 240 * q + 2 * (k : Int) + 1 = 240 * q + (2 * k + 1) by omega]; exact this⟩
  unfold zQq
  rw [h20, h21, h22, h46, h8]
  refine ⟨⟨t, t0, ht t t1 t3, t2, t3⟩, b, zQC_e ⟨b.1, by omega⟩ (fun x x0 x1 => ⟨ho 1 x (by omega) (by omega) x0 x1, ho 2 x (by omega) (by omega) x0 x1, ho 3 x (by omega) (by omega) x0 x1, ho 4 x (by omega) (by omega) x0 x1, ho 5 x (by omega) (by omega) x0 x1, ho 7 x (by omega) (by omega) x0 x1⟩) e c, ?_, ?_⟩
  · rw [zlc_e (st := fun k => M 247 (240 * q + 2 * k)) _ (fun k hk => (e k (by omega)).1)]; exact l
  · rw [zhv_e (st := fun k => M 247 (240 * q + 2 * k)) (v := fun k => M 247 (240 * q + 2 * k + 1)) _ (fun k hk => e k (by omega))]; exact hh
def zS16 : List (Int × Int × Int) := [(20, 0, 12), (21, 0, 12), (22, 0, 12), (246, 0, 12), (247, 0, 2880), (235, 0, 1), (235, 6, 7), (189, 8, 9), (190, 0, 300), (191, 0, 300), (192, 0, 300), (193, 0, 300), (194, 0, 300), (196, 0, 300), (201, 8, 9), (202, 0, 300), (203, 0, 300), (204, 0, 300), (205, 0, 300), (206, 0, 300), (208, 0, 300), (213, 8, 9), (214, 0, 300), (215, 0, 300), (216, 0, 300), (217, 0, 300), (218, 0, 300), (220, 0, 300), (225, 8, 9), (226, 0, 300), (227, 0, 300), (228, 0, 300), (229, 0, 300), (230, 0, 300), (232, 0, 300)]
def zSnd : List (Int × Int × Int) := [(189, 8, 9), (190, 0, 300), (191, 0, 300), (192, 0, 300), (193, 0, 300), (194, 0, 300), (196, 0, 300), (201, 8, 9), (202, 0, 300), (203, 0, 300), (204, 0, 300), (205, 0, 300), (206, 0, 300), (208, 0, 300), (213, 8, 9), (214, 0, 300), (215, 0, 300), (216, 0, 300), (217, 0, 300), (218, 0, 300), (220, 0, 300), (225, 8, 9), (226, 0, 300), (227, 0, 300), (228, 0, 300), (229, 0, 300), (230, 0, 300), (232, 0, 300)]
theorem zJ16_m {M M' : zM} (h : zsm zSnd M M') {t : Int} (ht : 0 ≤ t ∧ t < 4) : M' (189 + 12 * t) 8 = M (189 + 12 * t) 8 ∧ ∀ i x, (1 ≤ i ∧ i ≤ 7) → i ≠ 6 → 0 ≤ x → x < 300 → M' (189 + 12 * t + i) x = M (189 + 12 * t + i) x := by
  have hc : t = 0 ∨ t = 1 ∨ t = 2 ∨ t = 3 := by omega
  rcases hc with rfl | rfl | rfl | rfl
  · refine ⟨h _ _ (zhit_at 0 rfl ⟨by decide, by decide⟩), fun i x hi h6 x0 x1 => ?_⟩
    have hi2 : i = 1 ∨ i = 2 ∨ i = 3 ∨ i = 4 ∨ i = 5 ∨ i = 7 := by omega
    rcases hi2 with rfl | rfl | rfl | rfl | rfl | rfl
    · exact h _ _ (zhit_at 1 rfl ⟨x0, x1⟩)
    · exact h _ _ (zhit_at 2 rfl ⟨x0, x1⟩)
    · exact h _ _ (zhit_at 3 rfl ⟨x0, x1⟩)
    · exact h _ _ (zhit_at 4 rfl ⟨x0, x1⟩)
    · exact h _ _ (zhit_at 5 rfl ⟨x0, x1⟩)
    · exact h _ _ (zhit_at 6 rfl ⟨x0, x1⟩)
  · refine ⟨h _ _ (zhit_at 7 rfl ⟨by decide, by decide⟩), fun i x hi h6 x0 x1 => ?_⟩
    have hi2 : i = 1 ∨ i = 2 ∨ i = 3 ∨ i = 4 ∨ i = 5 ∨ i = 7 := by omega
    rcases hi2 with rfl | rfl | rfl | rfl | rfl | rfl
    · exact h _ _ (zhit_at 8 rfl ⟨x0, x1⟩)
    · exact h _ _ (zhit_at 9 rfl ⟨x0, x1⟩)
    · exact h _ _ (zhit_at 10 rfl ⟨x0, x1⟩)
    · exact h _ _ (zhit_at 11 rfl ⟨x0, x1⟩)
    · exact h _ _ (zhit_at 12 rfl ⟨x0, x1⟩)
    · exact h _ _ (zhit_at 13 rfl ⟨x0, x1⟩)
  · refine ⟨h _ _ (zhit_at 14 rfl ⟨by decide, by decide⟩), fun i x hi h6 x0 x1 => ?_⟩
    have hi2 : i = 1 ∨ i = 2 ∨ i = 3 ∨ i = 4 ∨ i = 5 ∨ i = 7 := by omega
    rcases hi2 with rfl | rfl | rfl | rfl | rfl | rfl
    · exact h _ _ (zhit_at 15 rfl ⟨x0, x1⟩)
    · exact h _ _ (zhit_at 16 rfl ⟨x0, x1⟩)
    · exact h _ _ (zhit_at 17 rfl ⟨x0, x1⟩)
    · exact h _ _ (zhit_at 18 rfl ⟨x0, x1⟩)
    · exact h _ _ (zhit_at 19 rfl ⟨x0, x1⟩)
    · exact h _ _ (zhit_at 20 rfl ⟨x0, x1⟩)
  · refine ⟨h _ _ (zhit_at 21 rfl ⟨by decide, by decide⟩), fun i x hi h6 x0 x1 => ?_⟩
    have hi2 : i = 1 ∨ i = 2 ∨ i = 3 ∨ i = 4 ∨ i = 5 ∨ i = 7 := by omega
    rcases hi2 with rfl | rfl | rfl | rfl | rfl | rfl
    · exact h _ _ (zhit_at 22 rfl ⟨x0, x1⟩)
    · exact h _ _ (zhit_at 23 rfl ⟨x0, x1⟩)
    · exact h _ _ (zhit_at 24 rfl ⟨x0, x1⟩)
    · exact h _ _ (zhit_at 25 rfl ⟨x0, x1⟩)
    · exact h _ _ (zhit_at 26 rfl ⟨x0, x1⟩)
    · exact h _ _ (zhit_at 27 rfl ⟨x0, x1⟩)
theorem zJ16_n {M M' : zM} (h : zsm zS16 M M') {t : Int} (ht : 0 ≤ t ∧ t < 4) : M' (189 + 12 * t) 8 = M (189 + 12 * t) 8 ∧ ∀ i x, (1 ≤ i ∧ i ≤ 7) → i ≠ 6 → 0 ≤ x → x < 300 → M' (189 + 12 * t + i) x = M (189 + 12 * t + i) x := by
  have hc : t = 0 ∨ t = 1 ∨ t = 2 ∨ t = 3 := by omega
  rcases hc with rfl | rfl | rfl | rfl
  · refine ⟨h _ _ (zhit_at 7 rfl ⟨by decide, by decide⟩), fun i x hi h6 x0 x1 => ?_⟩
    have hi2 : i = 1 ∨ i = 2 ∨ i = 3 ∨ i = 4 ∨ i = 5 ∨ i = 7 := by omega
    rcases hi2 with rfl | rfl | rfl | rfl | rfl | rfl
    · exact h _ _ (zhit_at 8 rfl ⟨x0, x1⟩)
    · exact h _ _ (zhit_at 9 rfl ⟨x0, x1⟩)
    · exact h _ _ (zhit_at 10 rfl ⟨x0, x1⟩)
    · exact h _ _ (zhit_at 11 rfl ⟨x0, x1⟩)
    · exact h _ _ (zhit_at 12 rfl ⟨x0, x1⟩)
    · exact h _ _ (zhit_at 13 rfl ⟨x0, x1⟩)
  · refine ⟨h _ _ (zhit_at 14 rfl ⟨by decide, by decide⟩), fun i x hi h6 x0 x1 => ?_⟩
    have hi2 : i = 1 ∨ i = 2 ∨ i = 3 ∨ i = 4 ∨ i = 5 ∨ i = 7 := by omega
    rcases hi2 with rfl | rfl | rfl | rfl | rfl | rfl
    · exact h _ _ (zhit_at 15 rfl ⟨x0, x1⟩)
    · exact h _ _ (zhit_at 16 rfl ⟨x0, x1⟩)
    · exact h _ _ (zhit_at 17 rfl ⟨x0, x1⟩)
    · exact h _ _ (zhit_at 18 rfl ⟨x0, x1⟩)
    · exact h _ _ (zhit_at 19 rfl ⟨x0, x1⟩)
    · exact h _ _ (zhit_at 20 rfl ⟨x0, x1⟩)
  · refine ⟨h _ _ (zhit_at 21 rfl ⟨by decide, by decide⟩), fun i x hi h6 x0 x1 => ?_⟩
    have hi2 : i = 1 ∨ i = 2 ∨ i = 3 ∨ i = 4 ∨ i = 5 ∨ i = 7 := by omega
    rcases hi2 with rfl | rfl | rfl | rfl | rfl | rfl
    · exact h _ _ (zhit_at 22 rfl ⟨x0, x1⟩)
    · exact h _ _ (zhit_at 23 rfl ⟨x0, x1⟩)
    · exact h _ _ (zhit_at 24 rfl ⟨x0, x1⟩)
    · exact h _ _ (zhit_at 25 rfl ⟨x0, x1⟩)
    · exact h _ _ (zhit_at 26 rfl ⟨x0, x1⟩)
    · exact h _ _ (zhit_at 27 rfl ⟨x0, x1⟩)
  · refine ⟨h _ _ (zhit_at 28 rfl ⟨by decide, by decide⟩), fun i x hi h6 x0 x1 => ?_⟩
    have hi2 : i = 1 ∨ i = 2 ∨ i = 3 ∨ i = 4 ∨ i = 5 ∨ i = 7 := by omega
    rcases hi2 with rfl | rfl | rfl | rfl | rfl | rfl
    · exact h _ _ (zhit_at 29 rfl ⟨x0, x1⟩)
    · exact h _ _ (zhit_at 30 rfl ⟨x0, x1⟩)
    · exact h _ _ (zhit_at 31 rfl ⟨x0, x1⟩)
    · exact h _ _ (zhit_at 32 rfl ⟨x0, x1⟩)
    · exact h _ _ (zhit_at 33 rfl ⟨x0, x1⟩)
    · exact h _ _ (zhit_at 34 rfl ⟨x0, x1⟩)
theorem zJ16_c {M M' : zM} (h : zsm zS16 M M') (b : M 235 0 ≤ 12) (j : zJ16 M) : zJ16 M' := by
  have e0 : M' 235 0 = M 235 0 := h 235 0 (zhit_at 5 rfl ⟨by decide, by decide⟩)
  have e6 : M' 235 6 = M 235 6 := h 235 6 (zhit_at 6 rfl ⟨by decide, by decide⟩)
  intro q q0 q1
  rw [e0] at q1
  have jq := j q q0 q1
  obtain ⟨t, t0, t1, t2, t3⟩ := jq.1
  have n := zJ16_n h ⟨t0, t2⟩
  rw [← t3] at n
  exact zQq_e ⟨q0, by omega⟩ (h 20 q (zhit_at 0 rfl ⟨q0, by omega⟩)) (h 21 q (zhit_at 1 rfl ⟨q0, by omega⟩)) (h 22 q (zhit_at 2 rfl ⟨q0, by omega⟩)) (h 246 q (zhit_at 3 rfl ⟨q0, by omega⟩)) (fun i i0 i1 => h 247 _ (zhit_at 4 rfl ⟨by omega, by omega⟩)) n.1 n.2 (fun t a _ => by rw [e6]; exact a) jq

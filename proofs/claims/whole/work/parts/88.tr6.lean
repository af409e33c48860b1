section TR6
variable {G : zG} {d : Nat} {M : zM} {Q : zV → zM → Prop}
def trW : List (Int × Int × Int) := [(171, 0, 1000000), (172, 0, 1000000), (173, 0, 1000000), (174, 0, 1000000), (175, 0, 1000000), (264, 0, 1000000), (265, 0, 1000000), (266, 0, 1000000), (267, 0, 1000000), (234, 52, 53)]
theorem J_tr {M M2 : zM} (hJ : zJ M) (hf : zfr trW M M2) (hT : zJT M2) : zJn M M2 := by
  exact ⟨⟨zsA_c (zfr_sm hf (by decide)) hJ.1, zsI_c (zfr_sm hf (by decide)) hJ.2.1, zJ1_c (zfr_sm hf (by decide)) hJ.2.2.1, zJ2_c (zfr_sm hf (by decide)) hJ.1.2.1.1.2 hJ.2.2.2.1, zJ3_c (zfr_sm hf (by decide)) hJ.2.2.2.2.1, zJ4_c (zfr_sm hf (by decide)) hJ.1.2.1.1.2 hJ.2.2.2.2.2.1, zJ10_c (zfr_sm hf (by decide)) hJ.2.2.2.2.2.2.1, zJ5_c (zfr_sm hf (by decide)) hJ.2.2.2.2.2.2.2.1, zJ6_c (zfr_sm hf (by decide)) hJ.2.2.2.2.2.2.2.2.1, zJ7_c (zfr_sm hf (by decide)) hJ.2.2.2.2.2.2.2.2.2.1, zJ8_c (zfr_sm hf (by decide)) hJ.1.1.2 hJ.2.2.2.2.2.2.2.2.2.2.1, zJ9_c (zfr_sm hf (by decide)) hJ.2.2.2.2.2.2.2.2.2.2.2.1, zJ11_c (zfr_sm hf (by decide)) hJ.1.2.2.1.1.2 hJ.2.2.2.2.2.2.2.2.2.2.2.2.1, zJ12_c (zfr_sm hf (by decide)) hJ.2.2.2.2.2.2.2.2.2.2.2.2.2.1, zJ13_c (zfr_sm hf (by decide)) (zA5 hJ.1) hJ.2.2.2.2.2.2.2.2.2.2.2.2.2.2.1, zJ14_c (zfr_sm hf (by decide)) (zA7 hJ.1) hJ.2.2.2.2.2.2.2.2.2.2.2.2.2.2.2.1, zJ15_c (zfr_sm hf (by decide)) (zA8 hJ.1) hJ.2.2.2.2.2.2.2.2.2.2.2.2.2.2.2.2.1, zJ18_c (zfr_sm hf (by decide)) ⟨zA5 hJ.2.1, zA7 hJ.2.1, zA8 hJ.2.1⟩ hJ.2.2.2.2.2.2.2.2.2.2.2.2.2.2.2.2.2.1, zJ19_c (zfr_sm hf (by decide)) ⟨hJ.2.1.2.1.1.2, hJ.2.1.2.2.1.1.2⟩ hJ.2.2.2.2.2.2.2.2.2.2.2.2.2.2.2.2.2.2.1, zJ16_c (zfr_sm hf (by decide)) hJ.1.1.2 hJ.2.2.2.2.2.2.2.2.2.2.2.2.2.2.2.2.2.2.2.1, zJ17_c (zfr_sm hf (by decide)) hJ.2.1.1.2 hJ.2.2.2.2.2.2.2.2.2.2.2.2.2.2.2.2.2.2.2.2.1, zJF_c (zfr_sm hf (by decide)) hJ.1 hJ.2.2.2.2.2.2.2.2.2.2.2.2.2.2.2.2.2.2.2.1 hJ.2.2.2.2.2.2.2.2.2.2.2.2.2.2.2.2.2.2.2.2.2.1, zJS_c (zfr_sm hf (by decide)) hJ.1.1.2 hJ.2.2.2.2.2.2.2.2.2.2.2.2.2.2.2.2.2.2.2.1 hJ.2.2.2.2.2.2.2.2.2.2.2.2.2.2.2.2.2.2.2.2.2.2.1, (by rw [hf 2 10 (by unfold zhw zhit; decide)]; exact hJ.2.2.2.2.2.2.2.2.2.2.2.2.2.2.2.2.2.2.2.2.2.2.2.1), ⟨hT, zJX_c (zfr_sm hf (by decide)) (by rw [hf 235 6 (by unfold zhw zhit; decide)]; exact Int.le_refl _) (hJ.2.2.2.2.2.2.2.2.2.2.2.2.2.2.2.2.2.2.2.2.2.2.2.2).2⟩⟩, by rw [hf 2 10 (by unfold zhw zhit; decide)]; omega⟩

theorem tr_BB {l r : Int} (hl : 1 ≤ l) (hr : 1 ≤ r) (hk : l + r ≤ 5) : tr_B l * tr_B r ≤ 1000000000 := by
  have h1 : l = 1 ∨ l = 2 ∨ l = 3 ∨ l = 4 := by omega
  have h2 : r = 1 ∨ r = 2 ∨ r = 3 ∨ r = 4 := by omega
  rcases h1 with rfl | rfl | rfl | rfl <;> rcases h2 with rfl | rfl | rfl | rfl <;> first | (exact absurd hk (by decide)) | decide
/-- what the class's joins from a part on will still add -/
def tr_Qr (th : Int → Int) (m k : Int) : Nat → Int → Int → Int
  | 0, _, _ => 0
  | r + 1, l, u => if l ≤ k - l then tr_D (if l = k - l then 0 else 1) (tr_K th m l) (tr_K th m (k - l)) u + tr_Qr th m k r (l + 1) u else 0
theorem tr_Q_K {th : Int → Int} {m : Int} (k : Nat) (h2 : 2 ≤ k) (h5 : k ≤ 5) (u : Int) : tr_Qr th m k 3 1 u = tr_K th m k u := by
  have hc : k = 2 ∨ k = 3 ∨ k = 4 ∨ k = 5 := by omega
  rcases hc with rfl | rfl | rfl | rfl
  · show tr_D 0 (tr_l th m) (tr_l th m) u + 0 = tr_j (tr_l th m) (tr_l th m) u
    rw [tr_D0]; omega
  · show tr_D 1 (tr_l th m) (tr_2 th m) u + 0 = tr_j (tr_l th m) (tr_2 th m) u + tr_j (tr_2 th m) (tr_l th m) u
    rw [tr_D1]; omega
  · show tr_D 1 (tr_l th m) (tr_3 th m) u + (tr_D 0 (tr_2 th m) (tr_2 th m) u + 0) = tr_j (tr_l th m) (tr_3 th m) u + tr_j (tr_2 th m) (tr_2 th m) u + tr_j (tr_3 th m) (tr_l th m) u
    rw [tr_D1, tr_D0]; omega
  · show tr_D 1 (tr_l th m) (tr_4 th m) u + (tr_D 1 (tr_2 th m) (tr_3 th m) u + 0) = tr_j (tr_l th m) (tr_4 th m) u + tr_j (tr_2 th m) (tr_3 th m) u + tr_j (tr_3 th m) (tr_2 th m) u + tr_j (tr_4 th m) (tr_l th m) u
    rw [tr_D1, tr_D1]; omega
theorem tr_D_n {tw : Int} {f g : Int → Int} (hf : tr_P f) (hg : tr_P g) : tr_P (tr_D tw f g) := fun u _ _ => tr_s_nn _ (fun x hx => tr_s_nn _ (fun y hy => Int.mul_nonneg (Int.mul_nonneg (hf x (tr_V_m.mp hx).1 (tr_V_m.mp hx).2) (hg y (tr_V_m.mp hy).1 (tr_V_m.mp hy).2)) (tr_d_b tw u x y)))
theorem tr_Q_n {th : Int → Int} {m k : Int} (hm : m ≤ 9) : ∀ (r : Nat) (l : Int), tr_P (tr_Qr th m k r l)
  | 0, l => fun u _ _ => Int.le_refl 0
  | r + 1, l => fun u u0 u1 => by
    have a := tr_D_n (tw := if l = k - l then 0 else 1) (tr_K_p (th := th) (k := l) hm) (tr_K_p (th := th) (k := k - l) hm) u u0 u1
    have b := tr_Q_n (th := th) (k := k) hm r (l + 1) u u0 u1
    show 0 ≤ if l ≤ k - l then tr_D (if l = k - l then 0 else 1) (tr_K th m l) (tr_K th m (k - l)) u + tr_Qr th m k r (l + 1) u else 0
    generalize tr_D (if l = k - l then 0 else 1) (tr_K th m l) (tr_K th m (k - l)) u = A at *
    split <;> omega
/-- one row of the counts has changed, and nothing else that is kept -/
def tr_ch (m k : Int) (M M' : zM) : Prop := zfr [(171, 0, 1000000), (174, 0, 1000000)] M M' ∧ ∀ i, 0 ≤ i → i < 1000000 → (∀ u, -500 ≤ u → u ≤ 500 → i ≠ zpl m k u) → M' 171 i = M 171 i
theorem tr_ch_t {m k : Int} {M M1 M2 : zM} (h1 : tr_ch m k M M1) (h2 : tr_ch m k M1 M2) : tr_ch m k M M2 := ⟨zfr_trans h1.1 h2.1, fun i i0 i1 hi => (h2.2 i i0 i1 hi).trans (h1.2 i i0 i1 hi)⟩
theorem tr_ch_o {m k : Int} {M M' : zM} (h : tr_ch m k M M') (hk : 1 ≤ k ∧ k ≤ 5) {m' n v : Int} (hm : 0 ≤ m' ∧ m' ≤ 9) (hn : 1 ≤ n ∧ n ≤ 5) (hne : ¬ (m' = m ∧ n = k)) (v0 : -500 ≤ v) (v1 : v ≤ 500) : M' 171 (zpl m' n v) = M 171 (zpl m' n v) := by
  have b := (zpl_b hm hn v0 v1).2
  exact h.2 _ b.1 (by omega) (fun u u0 u1 z => hne (by have := zpl_i hn hk v0 v1 u0 u1 z; exact ⟨this.1, this.2.1⟩))
theorem tr_ch_r {m k : Int} {M M' : zM} (h : tr_ch m k M M') : ∀ a i, a ≠ 171 → a ≠ 174 → 0 ≤ i → i < 1000000 → M' a i = M a i := fun a i h1 h2 i0 i1 => h.1 a i (by unfold zhw zhit; simp; omega)
theorem tr_ch_J {m k : Int} {M M' : zM} (h : tr_ch m k M M') (hk : 1 ≤ k ∧ k ≤ 5) (hr : M 172 m < k) (j : zJT M) : zJT M' := by
  have r := tr_ch_r h
  have e3 : ∀ t, 0 ≤ t → t < 4 → M' 173 t = M 173 t := fun t t0 t1 => r 173 t (by decide) (by decide) t0 (by omega)
  refine ⟨fun t t0 t1 => by rw [e3 t t0 t1]; exact j.1 t t0 t1, fun m' m0 m1 => ?_⟩
  have q := j.2 m' m0 m1
  rw [r 172 m' (by decide) (by decide) m0 (by omega)]
  refine ⟨q.1, fun k' v k0 k1 v0 v1 => ?_⟩
  rw [tr_ch_o h hk ⟨m0, m1⟩ ⟨k0, by omega⟩ (fun z => by rw [z.1, z.2] at k1; omega) v0 v1, q.2 k' v k0 k1 v0 v1, tr_K_th (e3 0 (by decide) (by decide)) (e3 1 (by decide) (by decide)) (e3 2 (by decide) (by decide)) (e3 3 (by decide) (by decide))]
theorem tr_ch_s {m k v w : Int} {M M' : zM} (hm : 0 ≤ m ∧ m ≤ 9) (hk : 1 ≤ k ∧ k ≤ 5) (v0 : -500 ≤ v) (v1 : v ≤ 500) (h : tr_ch m k M M') : tr_ch m k M (zset M' 171 (zpl m k v) w) := by
  have b := (zpl_b hm hk v0 v1).2
  refine ⟨zfr_set h.1 (zhit_at 0 rfl (by omega)), fun i i0 i1 hi => ?_⟩
  rw [zset_ne (fun z => hi v v0 v1 z.2)]; exact h.2 i i0 i1 hi
theorem s_clear (hG : zP G) {m k : Int} (hm : 0 ≤ m ∧ m ≤ 9) (hk : 1 ≤ k ∧ k ≤ 5) (h : ∀ M', tr_ch m k M M' → (∀ v, -500 ≤ v → v ≤ 500 → M' 171 (zpl m k v) = 0) → Q (9, 0) M') : Y G (d + 1) mX9_clear 0 [(2, 170), (0, m), (0, k), (9, 0), (9, 0)] [] M Q := by
  have b0 := zpl_b (v := 0) hm hk (by omega) (by omega)
  have lp : ∀ (r : Nat) (x : Int) (X : zM), -500 ≤ x → x + r = 501 → tr_ch m k M X → (∀ v, -500 ≤ v → v < x → X 171 (zpl m k v) = 0) → Y G (d + 1) mX9_clear 12 [(2, 170), (0, m), (0, k), (0, zpl m k 0), (0, x)] [] X Q := fun r => by
    induction r with
    | zero =>
      intro x X x0 hx hX hc
      exact bX9_clear_12 hG ⟨fun _ => h X hX (fun v v0 v1 => hc v v0 (by omega)), fun c => absurd c (by omega)⟩
    | succ r ih =>
      intro x X x0 hx hX hc
      have b := (zpl_b (v := x) hm hk x0 (by omega)).2
      refine bX9_clear_12 hG ?_
      rw [zpl_a]
      refine ⟨fun c => absurd c (by omega), fun _ => ⟨by omega, b, by omega, ih (x + 1) _ (by omega) (by omega) (tr_ch_s hm hk x0 (by omega) hX) (fun v v0 v1 => ?_)⟩⟩
      by_cases c : v = x
      · rw [c, zset_same]
      · rw [zset_ne (fun z => c (zpl_i hk hk v0 (by omega) x0 (by omega) z.2).2.2)]; exact hc v v0 (by omega)
  exact bX9_clear_0 hG ⟨b0.1, lp 1001 (-500) M (by omega) (by omega) ⟨zfr_rfl, fun i _ _ _ => rfl⟩ (fun v v0 v1 => absurd v1 (by omega))⟩
theorem s_countLeaves (hG : zP G) {m : Int} (hm : 0 ≤ m ∧ m ≤ 9) (h0 : ∀ v, -500 ≤ v → v ≤ 500 → M 171 (zpl m 1 v) = 0) (ht : ∀ t, 0 ≤ t → t < 4 → 0 ≤ M 173 t ∧ M 173 t ≤ 99) (h : ∀ M', tr_ch m 1 M M' → (∀ v, -500 ≤ v → v ≤ 500 → M' 171 (zpl m 1 v) = tr_l (M 173) m v) → Q (9, 0) M') : Y G (d + 1) mX9_countLeaves 0 [(2, 170), (0, m), (9, 0)] [] M Q := by
  have k1 : (1 : Int) ≤ 1 ∧ (1 : Int) ≤ 5 := by decide
  have one : ∀ (X : zM) (p : Int → Int) (s : Int), (∀ v, -500 ≤ v → v ≤ 500 → X 171 (zpl m 1 v) = p v) → -500 ≤ s → s ≤ 500 → (∀ v, -500 ≤ v → v ≤ 500 → zset X 171 (zpl m 1 s) (X 171 (zpl m 1 s) + 1) 171 (zpl m 1 v) = p v + (if s = v then 1 else 0)) := fun X p s hX s0 s1 v v0 v1 => by
    by_cases c : v = s
    · rw [c, zset_same, hX s s0 s1, if_pos rfl]
    · rw [zset_ne (fun z => c (zpl_i k1 k1 v0 v1 s0 s1 z.2).2.2), hX v v0 v1, if_neg (fun z => c z.symm)]; omega
  have i2 : ∀ s v : Int, 0 ≤ (if s = v then (1 : Int) else 0) ∧ (if s = v then (1 : Int) else 0) ≤ 1 := fun s v => by split <;> decide
  have l30 : ∀ (t : Int) (X : zM) (p : Int → Int), 0 ≤ t → t < 4 → tr_ch m 1 M X → (∀ v, -500 ≤ v → v ≤ 500 → X 171 (zpl m 1 v) = p v) → (∀ v, 0 ≤ p v ∧ p v ≤ 5) → (∀ X', tr_ch m 1 M X' → (∀ v, -500 ≤ v → v ≤ 500 → X' 171 (zpl m 1 v) = p v + (if M 173 t = v then 1 else 0)) → Y G (d + 1) mX9_countLeaves 30 [(2, 170), (0, m), (0, t + 1)] [] X' Q) → Y G (d + 1) mX9_countLeaves 30 [(2, 170), (0, m), (0, t)] [] X Q := fun t X p t0 t1 hX hc hp nx => by
    have tt := ht t t0 t1
    have et : X 173 t = M 173 t := tr_ch_r hX 173 t (by decide) (by decide) t0 (by omega)
    have b := zpl_b (v := M 173 t) hm k1 (by omega) (by omega)
    have pt := hp (M 173 t)
    have ex := hc (M 173 t) (by omega) (by omega)
    refine bX9_countLeaves_30 hG ?_
    rw [et]
    exact ⟨fun c => absurd c (by omega), fun _ => ⟨by omega, b.1, b.2, by omega, b.2, by omega, nx _ (tr_ch_s hm k1 (by omega) (by omega) hX) (one X p (M 173 t) hc (by omega) (by omega))⟩⟩
  have l2 : ∀ (r : Nat) (x : Int) (X : zM), 1 ≤ x → x + r = m + 1 → tr_ch m 1 M X → (∀ v, -500 ≤ v → v ≤ 500 → X 171 (zpl m 1 v) = if 1 ≤ v ∧ v < x then 1 else 0) → Y G (d + 1) mX9_countLeaves 2 [(2, 170), (0, m), (0, x)] [] X Q := fun r => by
    induction r with
    | zero =>
      intro x X x1 hx hX hc
      have pn : ∀ v : Int, 0 ≤ (if 1 ≤ v ∧ v < x then (1 : Int) else 0) ∧ (if 1 ≤ v ∧ v < x then (1 : Int) else 0) ≤ 1 := fun v => by split <;> decide
      refine bX9_countLeaves_2 hG ⟨fun _ => ?_, fun c => absurd c (by omega)⟩
      refine l30 0 X (fun v => if 1 ≤ v ∧ v < x then 1 else 0) (by omega) (by omega) hX hc (fun v => by have := pn v; exact ⟨this.1, by omega⟩) (fun X1 f1 c1 => ?_)
      refine l30 1 X1 (fun v => (if 1 ≤ v ∧ v < x then 1 else 0) + (if M 173 0 = v then 1 else 0)) (by omega) (by omega) f1 c1 (fun v => by have := pn v; have := i2 (M 173 0) v; show 0 ≤ _ + _ ∧ _ + _ ≤ 5; omega) (fun X2 f2 c2 => ?_)
      refine l30 2 X2 (fun v => (if 1 ≤ v ∧ v < x then 1 else 0) + (if M 173 0 = v then 1 else 0) + (if M 173 1 = v then 1 else 0)) (by omega) (by omega) f2 c2 (fun v => by have := pn v; have := i2 (M 173 0) v; have := i2 (M 173 1) v; show 0 ≤ _ + _ + _ ∧ _ + _ + _ ≤ 5; omega) (fun X3 f3 c3 => ?_)
      refine l30 3 X3 (fun v => (if 1 ≤ v ∧ v < x then 1 else 0) + (if M 173 0 = v then 1 else 0) + (if M 173 1 = v then 1 else 0) + (if M 173 2 = v then 1 else 0)) (by omega) (by omega) f3 c3 (fun v => by have := pn v; have := i2 (M 173 0) v; have := i2 (M 173 1) v; have := i2 (M 173 2) v; show 0 ≤ _ + _ + _ + _ ∧ _ + _ + _ + _ ≤ 5; omega) (fun X4 f4 c4 => ?_)
      refine bX9_countLeaves_30 hG ⟨fun _ => h X4 f4 (fun v v0 v1 => ?_), fun c => absurd c (by decide)⟩
      rw [c4 v v0 v1]
      unfold tr_l
      have e : (if 1 ≤ v ∧ v < x then (1 : Int) else 0) = (if 1 ≤ v ∧ v ≤ m then 1 else 0) := by
        by_cases c : 1 ≤ v ∧ v < x
        · rw [if_pos c, if_pos (by omega)]
        · rw [if_neg c, if_neg (by omega)]
      rw [e]
      omega
    | succ r ih =>
      intro x X x1 hx hX hc
      have b := zpl_b (v := x) hm k1 (by omega) (by omega)
      have ex := hc x (by omega) (by omega)
      rw [if_neg (by omega)] at ex
      refine bX9_countLeaves_2 hG ⟨fun c => absurd c (by omega), fun _ => ⟨b.1, b.2, by omega, b.2, by omega, ih (x + 1) _ (by omega) (by omega) (tr_ch_s hm k1 (by omega) (by omega) hX) (fun v v0 v1 => ?_)⟩⟩
      rw [one X _ x hc (by omega) (by omega) v v0 v1]
      by_cases c2 : x = v
      · rw [if_pos c2, if_neg (by omega), if_pos (by omega)]; omega
      · rw [if_neg c2]
        by_cases c3 : 1 ≤ v ∧ v < x
        · rw [if_pos c3, if_pos (by omega)]; omega
        · rw [if_neg c3, if_neg (by omega)]; omega
  exact bX9_countLeaves_0 hG (l2 m.toNat 1 M (by omega) (by omega) ⟨zfr_rfl, fun i _ _ _ => rfl⟩ (fun v v0 v1 => by rw [h0 v v0 v1, if_neg (by omega)]))
def trF : List (Int × Int × Int) := [(171, 0, 1000000), (172, 0, 1000000), (173, 0, 1000000), (174, 0, 1000000)]
theorem s_prepare (hG : zP G) {m n : Int} (hm : 0 ≤ m ∧ m ≤ 9) (hn : 1 ≤ n ∧ n ≤ 5) (hT : zJT M) (ht : ∀ t, 0 ≤ t → t < 4 → 0 ≤ M 3 t ∧ M 3 t ≤ 99) (h : ∀ M', zfr trF M M' → zJT M' → (∀ t, 0 ≤ t → t < 4 → M' 173 t = M 3 t) → n ≤ M' 172 m → Q (9, 0) M') : Y G (d + 2) mX9_prepare 0 [(2, 170), (0, m), (0, n), (2, 3), (9, 0), (9, 0)] [] M Q := by
  have h3 : zsh (3 : Int).toNat = (100, 4) := by decide +kernel
  have frc : ∀ {k : Int} {X Y' : zM}, zfr trF M X → tr_ch m k X Y' → zfr trF M Y' := fun hX hc => zfr_trans hX (zfr_sub hc.1 (by decide))
  -- one number of leaves more
  have l85 : ∀ (r : Nat) (k l : Int) (X : zM), 1 ≤ k → k ≤ n → 1 ≤ l → l ≤ 6 → k ≤ 2 * (l + r) - 1 → zfr trF M X → zJT X → X 172 m = k - 1 → (∀ t, 0 ≤ t → t < 4 → X 173 t = M 3 t) → (∀ v, -500 ≤ v → v ≤ 500 → 0 ≤ X 171 (zpl m k v) ∧ X 171 (zpl m k v) + tr_Qr (X 173) m k r l v = tr_K (X 173) m k v) → (∀ X', zfr trF M X' → zJT X' → X' 172 m = k → (∀ t, 0 ≤ t → t < 4 → X' 173 t = M 3 t) → Y G (d + 1 + 1) mX9_prepare 58 [(2, 170), (0, m), (0, n), (2, 3), (0, k + 1), (9, 0)] [] X' Q) → Y G (d + 1 + 1) mX9_prepare 85 [(2, 170), (0, m), (0, n), (2, 3), (0, k), (0, l)] [] X Q := fun r => by
    induction r with
    | zero =>
      intro k l X k1 kn l1 l6 hl hX jX hr h173 hc nx
      refine bX9_prepare_85 hG h3 ⟨by omega, fun c => ⟨by omega, by omega, ?_⟩, fun c => absurd c (by omega)⟩
      have o2 : ∀ a i, a ≠ 172 → zset X 172 m k a i = X a i := fun a i ha => by rw [zset_off ha]
      refine nx _ (zfr_set hX (zhit_at 1 rfl (by omega))) ⟨fun t t0 t1 => by rw [o2 _ _ (by decide)]; exact jX.1 t t0 t1, fun m' m0 m1 => ?_⟩ zset_same (fun t t0 t1 => by rw [o2 _ _ (by decide)]; exact h173 t t0 t1)
      have q := jX.2 m' m0 m1
      have e173 : zset X 172 m k 173 = X 173 := zset_off (by decide)
      rw [e173]
      by_cases c2 : m' = m
      · rw [c2, zset_same]
        refine ⟨by omega, fun k' v k0 k1' v0 v1 => ?_⟩
        rw [o2 _ _ (by decide)]
        by_cases c3 : k' = k
        · have w : X 171 (zpl m k v) + 0 = tr_K (X 173) m k v := (hc v v0 v1).2
          rw [c3]; omega
        · rw [c2] at q
          exact q.2 k' v k0 (by omega) v0 v1
      · rw [zset_ne (fun z => c2 z.2)]
        refine ⟨q.1, fun k' v k0 k1' v0 v1 => ?_⟩
        rw [o2 _ _ (by decide)]
        exact q.2 k' v k0 k1' v0 v1
    | succ r ih =>
      intro k l X k1 kn l1 l6 hl hX jX hr h173 hc nx
      have st : ∀ v, tr_Qr (X 173) m k (r + 1) l v = if l ≤ k - l then tr_D (if l = k - l then 0 else 1) (tr_K (X 173) m l) (tr_K (X 173) m (k - l)) v + tr_Qr (X 173) m k r (l + 1) v else 0 := fun v => rfl
      by_cases cl : l ≤ k - l
      · have q := jX.2 m hm.1 hm.2
        have bl := fun x x0 x1 => tr_K_b (th := X 173) (m := m) hm.2 l x x0 x1
        have br := fun x x0 x1 => tr_K_b (th := X 173) (m := m) hm.2 (k - l) x x0 x1
        have BB := tr_BB (l := l) (r := k - l) l1 (by omega) (by omega)
        refine bX9_prepare_85 hG h3 ⟨by omega, fun c => absurd c (by omega), fun _ => ⟨by omega, ?_⟩⟩
        refine s_tjoin (d := d) (m := m) (l := l) (r := k - l) (f := tr_K (X 173) m l) (g := tr_K (X 173) m (k - l)) hG hm l1 (by omega) (by omega) (fun x x0 x1 => ⟨q.2 l x l1 (by omega) x0 x1, (bl x x0 x1).1⟩) (fun x x0 x1 => ⟨q.2 (k - l) x (by omega) (by omega) x0 x1, (br x x0 x1).1⟩) (fun x y x0 x1 y0 y1 => Int.le_trans (tr_mm (bl x x0 x1).1 (br y y0 y1).1 (bl x x0 x1).2 (br y y0 y1).2) BB) (fun u u0 u1 => ?_) (fun X' f' o' e' => bX9_prepare_107 hG h3 ⟨by omega, ?_⟩)
        · rw [show l + (k - l) = k by omega]
          have a := hc u u0 u1
          rw [st, if_pos cl] at a
          have b := tr_Q_n (th := X 173) (k := k) hm.2 r (l + 1) u u0 u1
          have c := tr_K_b (th := X 173) (m := m) hm.2 k u u0 u1
          have e := tr_B_b k
          omega
        · rw [show l + (k - l) = k by omega] at o' e'
          have hch : tr_ch m k X X' := ⟨f', o'⟩
          have r' := tr_ch_r hch
          have e173 : ∀ t, 0 ≤ t → t < 4 → X' 173 t = X 173 t := fun t t0 t1 => r' 173 t (by decide) (by decide) t0 (by omega)
          have eK : tr_K (X' 173) m = tr_K (X 173) m := tr_K_th (e173 0 (by decide) (by decide)) (e173 1 (by decide) (by decide)) (e173 2 (by decide) (by decide)) (e173 3 (by decide) (by decide))
          have eQ : ∀ (r : Nat) (l v : Int), tr_Qr (X' 173) m k r l v = tr_Qr (X 173) m k r l v := fun r => by
            induction r with
            | zero => exact fun l v => rfl
            | succ r ih =>
              intro l v
              show (if l ≤ k - l then tr_D (if l = k - l then 0 else 1) (tr_K (X' 173) m l) (tr_K (X' 173) m (k - l)) v + tr_Qr (X' 173) m k r (l + 1) v else 0) = (if l ≤ k - l then tr_D (if l = k - l then 0 else 1) (tr_K (X 173) m l) (tr_K (X 173) m (k - l)) v + tr_Qr (X 173) m k r (l + 1) v else 0)
              rw [eK, ih]
          refine ih k (l + 1) X' k1 kn (by omega) (by omega) (by omega) (frc hX hch) (tr_ch_J hch (by omega) (by omega) jX) (by rw [r' 172 m (by decide) (by decide) hm.1 (by omega)]; exact hr) (fun t t0 t1 => by rw [e173 t t0 t1]; exact h173 t t0 t1) (fun v v0 v1 => ?_) nx
          have a := hc v v0 v1
          rw [st, if_pos cl] at a
          have dn := tr_D_n (tw := if l = k - l then 0 else 1) (tr_K_p (th := X 173) (k := l) hm.2) (tr_K_p (th := X 173) (k := k - l) hm.2) v v0 v1
          rw [e' v v0 v1, eQ, eK]
          omega
      · -- no part more: as at the end
        have hc0 : ∀ v, -500 ≤ v → v ≤ 500 → X 171 (zpl m k v) = tr_K (X 173) m k v := fun v v0 v1 => by
          have a := hc v v0 v1
          rw [st, if_neg cl] at a
          omega
        refine bX9_prepare_85 hG h3 ⟨by omega, fun c => ⟨by omega, by omega, ?_⟩, fun c => absurd c (by omega)⟩
        have o2 : ∀ a i, a ≠ 172 → zset X 172 m k a i = X a i := fun a i ha => by rw [zset_off ha]
        refine nx _ (zfr_set hX (zhit_at 1 rfl (by omega))) ⟨fun t t0 t1 => by rw [o2 _ _ (by decide)]; exact jX.1 t t0 t1, fun m' m0 m1 => ?_⟩ zset_same (fun t t0 t1 => by rw [o2 _ _ (by decide)]; exact h173 t t0 t1)
        have q := jX.2 m' m0 m1
        have e173 : zset X 172 m k 173 = X 173 := zset_off (by decide)
        rw [e173]
        by_cases c2 : m' = m
        · rw [c2, zset_same]
          refine ⟨by omega, fun k' v k0 k1' v0 v1 => ?_⟩
          rw [o2 _ _ (by decide)]
          by_cases c3 : k' = k
          · rw [c3]; exact hc0 v v0 v1
          · rw [c2] at q
            exact q.2 k' v k0 (by omega) v0 v1
        · rw [zset_ne (fun z => c2 z.2)]
          refine ⟨q.1, fun k' v k0 k1' v0 v1 => ?_⟩
          rw [o2 _ _ (by decide)]
          exact q.2 k' v k0 k1' v0 v1
  have l58 : ∀ (r : Nat) (k : Nat) (X : zM), 1 ≤ k → (k : Int) ≤ 6 → n + 1 ≤ (k : Int) + r → zfr trF M X → zJT X → X 172 m = (k : Int) - 1 → (∀ t, 0 ≤ t → t < 4 → X 173 t = M 3 t) → Y G (d + 1 + 1) mX9_prepare 58 [(2, 170), (0, m), (0, n), (2, 3), (0, (k : Int)), (9, 0)] [] X Q := fun r => by
    induction r with
    | zero =>
      intro k X k1 k6 hk hX jX hr h173
      exact bX9_prepare_58 hG h3 ⟨fun _ => h X hX jX h173 (by omega), fun c => absurd c (by omega)⟩
    | succ r ih =>
      intro k X k1 k6 hk hX jX hr h173
      refine bX9_prepare_58 hG h3 ⟨fun c => h X hX jX h173 (by omega), fun c => s_clear (d := d) hG hm (by omega) (fun X1 hc1 z1 => bX9_prepare_71 hG h3 ?_)⟩
      have r1 := tr_ch_r hc1
      have j1 := tr_ch_J hc1 (by omega) (by omega) jX
      have e1 : ∀ t, 0 ≤ t → t < 4 → X1 173 t = X 173 t := fun t t0 t1 => r1 173 t (by decide) (by decide) t0 (by omega)
      have rdy : X1 172 m = (k : Int) - 1 := by rw [r1 172 m (by decide) (by decide) hm.1 (by omega)]; exact hr
      have nxt : ∀ X', zfr trF M X' → zJT X' → X' 172 m = (k : Int) → (∀ t, 0 ≤ t → t < 4 → X' 173 t = M 3 t) → Y G (d + 1 + 1) mX9_prepare 58 [(2, 170), (0, m), (0, n), (2, 3), (0, (k : Int) + 1), (9, 0)] [] X' Q := fun X' f' j' r' t' => ih (k + 1) X' (by omega) (by omega) (by omega) f' j' (by rw [r']; omega) t'
      refine ⟨fun ck => l85 3 k 1 X1 (by omega) c (by omega) (by omega) (by omega) (frc hX hc1) j1 rdy (fun t t0 t1 => by rw [e1 t t0 t1]; exact h173 t t0 t1) (fun v v0 v1 => ?_) nxt, fun ck => ?_⟩
      · rw [z1 v v0 v1, tr_Q_K k (by omega) (by omega) v]; omega
      · have ek : k = 1 := by omega
        subst ek
        refine s_countLeaves (d := d) hG hm z1 (fun t t0 t1 => j1.1 t t0 t1) (fun X2 hc2 z2 => bX9_prepare_82 hG h3 ?_)
        have r2 := tr_ch_r hc2
        have e2 : ∀ t, 0 ≤ t → t < 4 → X2 173 t = X1 173 t := fun t t0 t1 => r2 173 t (by decide) (by decide) t0 (by omega)
        refine l85 3 1 1 X2 (by omega) c (by omega) (by omega) (by omega) (frc (frc hX hc1) hc2) (tr_ch_J hc2 (by decide) (by omega) j1) (by rw [r2 172 m (by decide) (by decide) hm.1 (by omega)]; exact rdy) (fun t t0 t1 => by rw [e2 t t0 t1, e1 t t0 t1]; exact h173 t t0 t1) (fun v v0 v1 => ?_) nxt
        have eK : tr_K (X2 173) m = tr_K (X1 173) m := tr_K_th (e2 0 (by decide) (by decide)) (e2 1 (by decide) (by decide)) (e2 2 (by decide) (by decide)) (e2 3 (by decide) (by decide))
        have q0 : tr_Qr (X2 173) m 1 3 1 v = 0 := rfl
        rw [z2 v v0 v1, q0, eK]
        have b := tr_K_b (th := X1 173) (m := m) hm.2 1 v v0 v1
        exact ⟨b.1, Int.add_zero _⟩
  -- the things as they now are
  have l3 : ∀ (r : Nat) (t : Int) (X : zM), 0 ≤ t → t + r = 4 → zfr trF M X → zJT X → (∀ s, 0 ≤ s → s < t → X 173 s = M 3 s) → Y G (d + 1 + 1) mX9_prepare 3 [(2, 170), (0, m), (0, n), (2, 3), (0, t), (9, 0)] [] X Q := fun r => by
    induction r with
    | zero =>
      intro t X t0 hr hX jX h173
      have q := (jX.2 m hm.1 hm.2).1
      obtain ⟨k, hk⟩ := Int.eq_ofNat_of_zero_le (show 0 ≤ X 172 m + 1 by omega)
      refine bX9_prepare_3 hG h3 ⟨fun _ => ⟨by omega, by omega, ?_⟩, fun c => absurd c (by omega)⟩
      rw [hk]
      exact l58 6 k X (by omega) (by omega) (by omega) hX jX (by omega) (fun s s0 s1 => h173 s s0 (by omega))
    | succ r ih =>
      intro t X t0 hr hX jX h173
      have e3 : X 3 t = M 3 t := hX 3 t (by unfold zhw zhit trF; simp; omega)
      refine bX9_prepare_3 hG h3 ?_
      rw [e3]
      refine ⟨fun c => absurd c (by omega), fun _ => ⟨by omega, by show 0 ≤ t ∧ t < ((4 : Nat) : Int); omega, fun c => ⟨by omega, ih (t + 1) X (by omega) (by omega) hX jX (fun s s0 s1 => ?_)⟩, fun c => ⟨by show 0 ≤ t ∧ t < ((4 : Nat) : Int); omega, by omega, s_fill (r0 := 172) (nr0 := 10) hG (by decide +kernel) (by decide) (bX9_prepare_42 hG h3 ⟨by omega, ih (t + 1) _ (by omega) (by omega) (zfr_row (zfr_set hX (zhit_at 2 rfl (by omega))) 1 rfl) ⟨fun s s0 s1 => ?_, fun m' m0 m1 => ?_⟩ (fun s s0 s1 => ?_)⟩)⟩⟩⟩
      · by_cases z : s = t
        · rw [z]; exact c
        · exact h173 s s0 (by omega)
      · rw [zrow_off (by decide)]
        by_cases z : s = t
        · rw [z, zset_same]; exact ht t t0 (by omega)
        · rw [zset_ne (fun w => z w.2)]; exact jX.1 s s0 s1
      · rw [zrow_row]
        unfold zfil
        rw [if_pos ⟨m0, by omega⟩]
        exact ⟨by omega, fun k v k0 k1 _ _ => absurd k1 (by omega)⟩
      · rw [zrow_off (by decide)]
        by_cases z : s = t
        · rw [z, zset_same]
        · rw [zset_ne (fun w => z w.2)]; exact h173 s s0 (by omega)
  exact bX9_prepare_0 hG h3 (l3 4 0 M (by omega) (by omega) zfr_rfl hT (fun s s0 s1 => absurd s1 (by omega)))
end TR6

section TR3
variable {G : zG} {d : Nat} {M : zM} {Q : zV → zM → Prop}
/-- what the joins from l on will still add -/
def tr_R (th : Int → Int) (m k : Int) : Nat → Int → Int → Int
  | 0, _, _ => 0
  | r + 1, l, u => tr_j (tr_K th m l) (tr_K th m (k - l)) u + tr_R th m k r (l + 1) u
theorem tr_K1 {th : Int → Int} {m : Int} : tr_K th m 1 = tr_l th m := rfl
theorem tr_K2 {th : Int → Int} {m : Int} : tr_K th m 2 = tr_2 th m := rfl
theorem tr_K3 {th : Int → Int} {m : Int} : tr_K th m 3 = tr_3 th m := rfl
theorem tr_K4 {th : Int → Int} {m : Int} : tr_K th m 4 = tr_4 th m := rfl
theorem tr_K5 {th : Int → Int} {m : Int} : tr_K th m 5 = tr_5 th m := rfl
theorem tr_K_p {th : Int → Int} {m k : Int} (hm : m ≤ 9) : tr_P (tr_K th m k) := fun v v0 v1 => (tr_K_b hm k v v0 v1).1
theorem tr_B_b (k : Int) : 13 ≤ tr_B k ∧ tr_B k ≤ 421046262 := by
  unfold tr_B
  repeat' (split)
  all_goals decide
theorem tr_R_n {th : Int → Int} {m k : Int} (hm : m ≤ 9) : ∀ (r : Nat) (l : Int), tr_P (tr_R th m k r l)
  | 0, l => fun u _ _ => Int.le_refl 0
  | r + 1, l => fun u u0 u1 => by
    have a := tr_j_n (tr_K_p (th := th) (k := l) hm) (tr_K_p (th := th) (k := k - l) hm) u u0 u1
    have b := tr_R_n (th := th) (k := k) hm r (l + 1) u u0 u1
    show 0 ≤ tr_j (tr_K th m l) (tr_K th m (k - l)) u + tr_R th m k r (l + 1) u
    omega
theorem tr_R_K {th : Int → Int} {m : Int} (k : Nat) (h2 : 2 ≤ k) (h5 : k ≤ 5) (u : Int) : tr_R th m k (k - 1) 1 u = tr_K th m k u := by
  have hc : k = 2 ∨ k = 3 ∨ k = 4 ∨ k = 5 := by omega
  rcases hc with rfl | rfl | rfl | rfl
  · show tr_j (tr_l th m) (tr_l th m) u + 0 = tr_j (tr_l th m) (tr_l th m) u
    omega
  · show tr_j (tr_l th m) (tr_2 th m) u + (tr_j (tr_2 th m) (tr_l th m) u + 0) = tr_j (tr_l th m) (tr_2 th m) u + tr_j (tr_2 th m) (tr_l th m) u
    omega
  · show tr_j (tr_l th m) (tr_3 th m) u + (tr_j (tr_2 th m) (tr_2 th m) u + (tr_j (tr_3 th m) (tr_l th m) u + 0)) = tr_j (tr_l th m) (tr_3 th m) u + tr_j (tr_2 th m) (tr_2 th m) u + tr_j (tr_3 th m) (tr_l th m) u
    omega
  · show tr_j (tr_l th m) (tr_4 th m) u + (tr_j (tr_2 th m) (tr_3 th m) u + (tr_j (tr_3 th m) (tr_2 th m) u + (tr_j (tr_4 th m) (tr_l th m) u + 0))) = tr_j (tr_l th m) (tr_4 th m) u + tr_j (tr_2 th m) (tr_3 th m) u + tr_j (tr_3 th m) (tr_2 th m) u + tr_j (tr_4 th m) (tr_l th m) u
    omega
theorem m_findKinds (hG : zP G) {n m : Int} (hn : 1 ≤ n ∧ n ≤ 5) (hm : 0 ≤ m ∧ m ≤ 9) (hth : ∀ t, 0 ≤ t → t < 4 → 0 ≤ M 235 (10 + t) ∧ M 235 (10 + t) ≤ 99) (h : ∀ X, zfr [(264, 0, 1000000)] M X → (∀ k v, 1 ≤ k → k ≤ n → -500 ≤ v → v ≤ 500 → X 264 (zce k v) = tr_K (fun t => M 235 (10 + t)) m k v) → Q (9, 0) X) : Y G (d + 2) mX12_findKinds 0 [(2, 234), (0, n), (0, m), (9, 0), (9, 0)] [] M Q := by
  generalize hT : (fun t => M 235 (10 + t)) = th at h
  have eT : ∀ t, M 235 (10 + t) = th t := fun t => by rw [← hT]
  have x235 : ∀ X, zfr [(264, 0, 1000000)] M X → ∀ i, 0 ≤ i → i < 156 → X 235 i = M 235 i := fun X hX i i0 i1 => hX 235 i (by unfold zhw zhit; simp; omega)
  -- the joins
  have l94 : ∀ (r : Nat) (k l : Int) (X : zM), 2 ≤ k → k ≤ n → 1 ≤ l → l + r = k → zfr [(264, 0, 1000000)] M X → (∀ j v, 1 ≤ j → j < k → -500 ≤ v → v ≤ 500 → X 264 (zce j v) = tr_K th m j v) → (∀ v, -500 ≤ v → v ≤ 500 → 0 ≤ X 264 (zce k v) ∧ X 264 (zce k v) + tr_R th m k r l v = tr_K th m k v) → (∀ j v, k < j → j ≤ 5 → -500 ≤ v → v ≤ 500 → X 264 (zce j v) = 0) → (∀ X', zfr [(264, 0, 1000000)] M X' → (∀ j v, 1 ≤ j → j < k + 1 → -500 ≤ v → v ≤ 500 → X' 264 (zce j v) = tr_K th m j v) → (∀ j v, k + 1 ≤ j → j ≤ 5 → -500 ≤ v → v ≤ 500 → X' 264 (zce j v) = 0) → Y G (d + 1 + 1) mX12_findKinds 86 [(2, 234), (0, n), (0, m), (0, k + 1), (9, 0)] [] X' Q) → Y G (d + 1 + 1) mX12_findKinds 94 [(2, 234), (0, n), (0, m), (0, k), (0, l)] [] X Q := fun r => by
    induction r with
    | zero =>
      intro k l X k2 kn l1 hl hX h1 h2 h3 nx
      refine bX12_findKinds_94 hG ⟨fun _ => ⟨by omega, nx X hX (fun j v j0 j1 v0 v1 => ?_) (fun j v j0 j1 v0 v1 => h3 j v (by omega) j1 v0 v1)⟩, fun c => absurd c (by omega)⟩
      by_cases c : j = k
      · have w : X 264 (zce k v) + 0 = tr_K th m k v := (h2 v v0 v1).2
        rw [c]; omega
      · exact h1 j v j0 (by omega) v0 v1
    | succ r ih =>
      intro k l X k2 kn l1 hl hX h1 h2 h3 nx
      have bl := fun x x0 x1 => tr_K_b (th := th) (m := m) hm.2 l x x0 x1
      have br := fun x x0 x1 => tr_K_b (th := th) (m := m) hm.2 (k - l) x x0 x1
      have Bl := tr_B_b l
      have Br := tr_B_b (k - l)
      have st : ∀ v, tr_R th m k (r + 1) l v = tr_j (tr_K th m l) (tr_K th m (k - l)) v + tr_R th m k r (l + 1) v := fun v => rfl
      refine bX12_findKinds_94 hG ⟨fun c => absurd c (by omega), fun _ => ⟨by omega, ?_⟩⟩
      refine m_join (d := d) (l := l) (r := k - l) (f := tr_K th m l) (g := tr_K th m (k - l)) hG l1 (by omega) (by omega) (fun x x0 x1 => ⟨h1 l x l1 (by omega) x0 x1, by have := bl x x0 x1; omega⟩) (fun x x0 x1 => ⟨h1 (k - l) x (by omega) (by omega) x0 x1, by have := br x x0 x1; omega⟩) (fun u u0 u1 => ?_) (fun X' f' o' e' => bX12_findKinds_110 hG ⟨by omega, ?_⟩)
      · rw [show l + (k - l) = k by omega]
        have a := h2 u u0 u1
        rw [st] at a
        have b := tr_R_n (th := th) (k := k) hm.2 r (l + 1) u u0 u1
        have c := tr_K_b (th := th) (m := m) hm.2 k u u0 u1
        have e := tr_B_b k
        omega
      · rw [show l + (k - l) = k by omega] at o' e'
        have oth : ∀ j v, j ≠ k → -500 ≤ v → v ≤ 500 → X' 264 (zce j v) = X 264 (zce j v) := fun j v hj v0 v1 => o' _ (fun u u0 u1 z => hj (zce_i v0 v1 u0 u1 z).1)
        refine ih k (l + 1) X' k2 kn (by omega) (by omega) (zfr_trans hX f') (fun j v j0 j1 v0 v1 => by rw [oth j v (by omega) v0 v1]; exact h1 j v j0 j1 v0 v1) (fun v v0 v1 => ?_) (fun j v j0 j1 v0 v1 => by rw [oth j v (by omega) v0 v1]; exact h3 j v j0 j1 v0 v1) nx
        have a := h2 v v0 v1
        rw [st] at a
        have jn := tr_j_n (tr_K_p (th := th) (k := l) hm.2) (tr_K_p (th := th) (k := k - l) hm.2) v v0 v1
        rw [e' v v0 v1]
        omega
  have l86 : ∀ (r : Nat) (k : Nat) (X : zM), 2 ≤ k → (k : Int) + r = n + 1 → zfr [(264, 0, 1000000)] M X → (∀ j v, 1 ≤ j → j < (k : Int) → -500 ≤ v → v ≤ 500 → X 264 (zce j v) = tr_K th m j v) → (∀ j v, (k : Int) ≤ j → j ≤ 5 → -500 ≤ v → v ≤ 500 → X 264 (zce j v) = 0) → Y G (d + 1 + 1) mX12_findKinds 86 [(2, 234), (0, n), (0, m), (0, (k : Int)), (9, 0)] [] X Q := fun r => by
    induction r with
    | zero =>
      intro k X k2 hk hX h1 h3
      exact bX12_findKinds_86 hG ⟨fun _ => h X hX (fun j v j0 j1 v0 v1 => h1 j v j0 (by omega) v0 v1), fun c => absurd c (by omega)⟩
    | succ r ih =>
      intro k X k2 hk hX h1 h3
      refine bX12_findKinds_86 hG ⟨fun c => absurd c (by omega), fun _ => l94 (k - 1) k 1 X (by omega) (by omega) (by omega) (by omega) hX h1 (fun v v0 v1 => ?_) (fun j v j0 j1 v0 v1 => h3 j v (by omega) j1 v0 v1) (fun X' f' a1 a3 => ih (k + 1) X' (by omega) (by omega) f' a1 a3)⟩
      rw [h3 k v (by omega) (by omega) v0 v1, tr_R_K k k2 (by omega) v]
      omega
  -- the leaves
  have one : ∀ (X : zM) (p : Int → Int) (s : Int), (∀ j v, 0 ≤ j → j ≤ 5 → -500 ≤ v → v ≤ 500 → X 264 (zce j v) = if j = 1 then p v else 0) → -500 ≤ s → s ≤ 500 → (∀ j v, 0 ≤ j → j ≤ 5 → -500 ≤ v → v ≤ 500 → zset X 264 (zce 1 s) (X 264 (zce 1 s) + 1) 264 (zce j v) = if j = 1 then p v + (if s = v then 1 else 0) else 0) := fun X p s hX s0 s1 j v j0 j1 v0 v1 => by
    by_cases c : j = 1 ∧ v = s
    · rw [c.1, c.2, zset_same, hX 1 s (by omega) (by omega) s0 s1, if_pos rfl, if_pos rfl, if_pos rfl]
    · rw [zset_ne (fun z => c (zce_i v0 v1 s0 s1 z.2)), hX j v j0 j1 v0 v1]
      by_cases c1 : j = 1
      · rw [if_pos c1, if_pos c1, if_neg (fun z => c ⟨c1, z.symm⟩)]; omega
      · rw [if_neg c1, if_neg c1]
  have l59 : ∀ (r : Nat) (x : Int) (X : zM), 1 ≤ x → x + r = m + 1 → zfr [(264, 0, 1000000)] M X → (∀ j v, 0 ≤ j → j ≤ 5 → -500 ≤ v → v ≤ 500 → X 264 (zce j v) = if j = 1 then (((if th 0 = v then 1 else 0) + (if th 1 = v then 1 else 0) + (if th 2 = v then 1 else 0) + (if th 3 = v then 1 else 0) : Int) + (if 1 ≤ v ∧ v < x then 1 else 0)) else 0) → Y G (d + 1 + 1) mX12_findKinds 59 [(2, 234), (0, n), (0, m), (0, x), (9, 0)] [] X Q := fun r => by
    induction r with
    | zero =>
      intro x X x1 hx hX hc
      refine bX12_findKinds_59 hG ⟨fun _ => ?_, fun c => absurd c (by omega)⟩
      refine l86 (n - 1).toNat 2 X (by omega) (by omega) hX (fun j v j0 j1 v0 v1 => ?_) (fun j v j0 j1 v0 v1 => by rw [hc j v (by omega) j1 v0 v1, if_neg (by omega)])
      rw [show j = 1 by omega, hc 1 v (by omega) (by omega) v0 v1, if_pos rfl]
      show _ = tr_l th m v
      unfold tr_l
      by_cases c : 1 ≤ v ∧ v < x
      · rw [if_pos c, if_pos (show 1 ≤ v ∧ v ≤ m by omega)]
      · rw [if_neg c, if_neg (show ¬ (1 ≤ v ∧ v ≤ m) by omega)]
    | succ r ih =>
      intro x X x1 hx hX hc
      have b := zce_b (n := 1) (v := x) (by omega) (by omega) (by omega) (by omega)
      have ex := hc 1 x (by omega) (by omega) (by omega) (by omega)
      rw [if_pos rfl] at ex
      have rg : 0 ≤ X 264 (zce 1 x) ∧ X 264 (zce 1 x) ≤ 5 := by
        rw [ex]
        repeat' (split)
        all_goals decide
      refine bX12_findKinds_59 hG ⟨fun c => absurd c (by omega), fun _ => ⟨b.1, b.2, ⟨by omega, by omega⟩, b.2, by omega, ih (x + 1) _ (by omega) (by omega) (zfr_set hX (zhit_at 0 rfl (by omega))) (fun j v j0 j1 v0 v1 => ?_)⟩⟩
      rw [one X _ x hc (by omega) (by omega) j v j0 j1 v0 v1]
      by_cases c1 : j = 1
      · rw [if_pos c1, if_pos c1]
        by_cases c2 : x = v
        · rw [if_pos c2, if_neg (show ¬ (1 ≤ v ∧ v < x) by omega), if_pos (show 1 ≤ v ∧ v < x + 1 by omega)]; omega
        · rw [if_neg c2]
          by_cases c3 : 1 ≤ v ∧ v < x
          · rw [if_pos c3, if_pos (show 1 ≤ v ∧ v < x + 1 by omega)]; omega
          · rw [if_neg c3, if_neg (show ¬ (1 ≤ v ∧ v < x + 1) by omega)]; omega
      · rw [if_neg c1, if_neg c1]
  have l24 : ∀ (t : Int) (X : zM) (p : Int → Int), 0 ≤ t → t < 4 → zfr [(264, 0, 1000000)] M X → (∀ j v, 0 ≤ j → j ≤ 5 → -500 ≤ v → v ≤ 500 → X 264 (zce j v) = if j = 1 then p v else 0) → (∀ v, 0 ≤ p v ∧ p v ≤ 5) → (∀ X', zfr [(264, 0, 1000000)] M X' → (∀ j v, 0 ≤ j → j ≤ 5 → -500 ≤ v → v ≤ 500 → X' 264 (zce j v) = if j = 1 then p v + (if th t = v then 1 else 0) else 0) → Y G (d + 1 + 1) mX12_findKinds 24 [(2, 234), (0, n), (0, m), (0, t + 1), (9, 0)] [] X' Q) → Y G (d + 1 + 1) mX12_findKinds 24 [(2, 234), (0, n), (0, m), (0, t), (9, 0)] [] X Q := fun t X p t0 t1 hX hc hp nx => by
    have ht := hth t t0 t1
    have et : X 235 (10 + t) = th t := by rw [x235 X hX _ (by omega) (by omega)]; exact eT t
    rw [eT] at ht
    have b := zce_b (n := 1) (v := th t) (by omega) (by omega) (by omega) (by omega)
    have ex := hc 1 (th t) (by omega) (by omega) (by omega) (by omega)
    rw [if_pos rfl] at ex
    have pt := hp (th t)
    refine bX12_findKinds_24 hG ?_
    rw [et]
    exact ⟨fun c => absurd c (by omega), fun _ => ⟨by omega, by omega, b.1, b.2, ⟨by omega, by omega⟩, b.2, by omega, nx _ (zfr_set hX (zhit_at 0 rfl (by omega))) (one X p (th t) hc (by omega) (by omega))⟩⟩
  have i2 : ∀ s v : Int, 0 ≤ (if s = v then (1 : Int) else 0) ∧ (if s = v then (1 : Int) else 0) ≤ 1 := fun s v => by split <;> decide
  have l2 : ∀ (r : Nat) (x : Int) (X : zM), 0 ≤ x → x + r = 6006 → zfr [(264, 0, 1000000)] M X → (∀ i, 0 ≤ i → i < x → X 264 i = 0) → Y G (d + 1 + 1) mX12_findKinds 2 [(2, 234), (0, n), (0, m), (0, x), (9, 0)] [] X Q := fun r => by
    induction r with
    | zero =>
      intro x X x0 hx hX hc
      refine bX12_findKinds_2 hG ⟨fun _ => ?_, fun c => absurd c (by omega)⟩
      refine l24 0 X (fun _ => 0) (by omega) (by omega) hX (fun j v j0 j1 v0 v1 => ?_) (fun v => ⟨by decide, by decide⟩) (fun X1 f1 c1 => ?_)
      · rw [hc _ (by have := (zce_b j0 j1 v0 v1).2; omega) (by have := (zce_b j0 j1 v0 v1).2; omega)]; split <;> rfl
      refine l24 1 X1 _ (by omega) (by omega) f1 c1 (fun v => by have := i2 (th 0) v; show 0 ≤ 0 + _ ∧ 0 + _ ≤ 5; omega) (fun X2 f2 c2 => ?_)
      refine l24 2 X2 _ (by omega) (by omega) f2 c2 (fun v => by have := i2 (th 0) v; have := i2 (th 1) v; show 0 ≤ 0 + _ + _ ∧ 0 + _ + _ ≤ 5; omega) (fun X3 f3 c3 => ?_)
      refine l24 3 X3 _ (by omega) (by omega) f3 c3 (fun v => by have := i2 (th 0) v; have := i2 (th 1) v; have := i2 (th 2) v; show 0 ≤ 0 + _ + _ + _ ∧ 0 + _ + _ + _ ≤ 5; omega) (fun X4 f4 c4 => ?_)
      refine bX12_findKinds_24 hG ⟨fun _ => l59 m.toNat 1 X4 (by omega) (by omega) f4 (fun j v j0 j1 v0 v1 => ?_), fun c => absurd c (by decide)⟩
      rw [c4 j v j0 j1 v0 v1]
      by_cases e : j = 1
      · rw [if_pos e, if_pos e, if_neg (show ¬ (1 ≤ v ∧ v < 1) by omega)]
        show 0 + _ + _ + _ + _ = _ + _ + _ + _ + 0
        omega
      · rw [if_neg e, if_neg e]
    | succ r ih =>
      intro x X x0 hx hX hc
      refine bX12_findKinds_2 hG ⟨fun c => absurd c (by omega), fun _ => ⟨by omega, by omega, ih (x + 1) _ (by omega) (by omega) (zfr_set hX (zhit_at 0 rfl (by omega))) (fun i i0 i1 => ?_)⟩⟩
      by_cases e : i = x
      · rw [e, zset_same]
      · rw [zset_ne (fun z => e z.2)]; exact hc i i0 (by omega)
  exact bX12_findKinds_0 hG (l2 6006 0 M (by omega) (by omega) zfr_rfl (fun i i0 i1 => absurd i1 (by omega)))
end TR3

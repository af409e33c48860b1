section YL
variable {G : zG} {d : Nat} {M : zM} {Q : zV → zM → Prop}
theorem s_make (hG : zP G) {o x1 x2 s0 : Int} {n : Nat} (ho : zND o) (h8 : M o 8 = s0) (hs : 0 ≤ s0 ∧ s0 < 300) (h : ∀ N, zqR o s0 M N → N o 8 = s0 + 1 → zqW N o s0 x1 x2 (s0 + 1) n [] → Q (0, s0) N) : Y G d mX1_make 0 [(2, o), (0, x1), (0, x2)] [] M Q := by
  have rd : ∀ {N : zM} {a b i x : Int}, b ≠ a → zset N (o + a) i x (o + b) = N (o + b) := fun hab => zset_off (by omega)
  have r8 : ∀ {N : zM} {b i x : Int}, b ≠ 0 → zset N o i x (o + b) = N (o + b) := fun hb => zset_off (by omega)
  refine bX1_make_0 hG ho ?_
  rw [h8, show s0 + 1 - 1 = s0 by omega]
  refine ⟨fun _ => ⟨by omega, by omega, by omega, by omega, by omega, by omega, by omega, by omega, by omega, h _ (fun a i => ?_) zset_same ⟨⟨?_, ?_⟩, ⟨?_, by decide⟩, trivial, ?_, ⟨fun p hp => (List.not_mem_nil hp).elim, List.Pairwise.nil⟩, fun p hp => (List.not_mem_nil hp).elim, ?_⟩⟩, fun c => absurd c (by omega)⟩
  · by_cases c8 : a = o ∧ i = 8
    · exact Or.inr (Or.inl c8)
    · rw [zset_ne c8]
      by_cases cc : (o + 1 ≤ a ∧ a ≤ o + 7) ∧ i = s0
      · exact Or.inr (Or.inr (Or.inl ⟨cc.1, by omega⟩))
      · rw [zset_ne (fun q => cc ⟨by omega, q.2⟩), zset_ne (fun q => cc ⟨by omega, q.2⟩), zset_ne (fun q => cc ⟨by omega, q.2⟩), zset_ne (fun q => cc ⟨by omega, q.2⟩), zset_ne (fun q => cc ⟨by omega, q.2⟩), zset_ne (fun q => cc ⟨by omega, q.2⟩), zset_ne (fun q => cc ⟨by omega, q.2⟩)]
        exact Or.inl rfl
  · rw [r8 (by decide), rd (by decide), rd (by decide), rd (by decide), rd (by decide), rd (by decide), rd (by decide)]; exact zset_same
  · rw [r8 (by decide), rd (by decide), rd (by decide), rd (by decide), rd (by decide), rd (by decide)]; exact zset_same
  · rw [r8 (by decide), rd (by decide), rd (by decide), rd (by decide)]; exact zset_same
  · rw [r8 (by decide), rd (by decide)]; exact zset_same
  · rw [zset_same]; omega
theorem znt_cap {eq s v : Int} {c : Int → List Int} {f : Int → Int} {n : Nat} (hs : 0 ≤ s ∧ s ≤ 10) : ∀ j : Nat, (∀ i, 0 ≤ i → i < (j : Int) → znk (n + 1) (c i) (f i)) → znl (znk (n + 1)) (znt s (zapk eq s) (zna s v c j)) (zsuN f j) ∧ zsn s (znt s (zapk eq s) (zna s v c j)) := fun j hc => by
  have a := zna_l (s := s) (v := v) (P := znk (n + 1)) j hc
  by_cases c2 : s = 2 ∨ s = 3
  · exact znt_l c2 _ _ a (zna_s j)
  · have ea : zapk eq s = false := by unfold zapk; rw [if_neg (by omega), if_neg (by omega)]
    rw [ea, znt_f]
    exact ⟨a, zna_s j⟩
theorem znt1_ne {k : Int} {ap : Bool} {n : Nat} {t : znT} {a : Int} (hk : k = 2 ∨ k = 3) (h : znk (n + 1) t.2 a) : znt1 k ap t ≠ [] := by
  unfold znt1
  by_cases c : ap = true ∧ t.2.head? = some k
  · rw [if_pos c]
    obtain ⟨g, -, -⟩ := znk_ps h c.2
    exact fun z => g.1.2 hk (List.map_eq_nil_iff.mp z)
  · rw [if_neg c]; exact List.cons_ne_nil _ _
theorem znt_ne {eq s v : Int} {c : Int → List Int} {f : Int → Int} {n : Nat} (hs : s = 2 ∨ s = 3) : ∀ j : Nat, 1 ≤ j → (∀ i, 0 ≤ i → i < (j : Int) → znk (n + 1) (c i) (f i)) → znt s (zapk eq s) (zna s v c j) ≠ []
  | 0, h, _ => absurd h (by decide)
  | j + 1, _, h => by
    show znt s (zapk eq s) (zna s v c j ++ [_]) ≠ []
    rw [znt_app, znt_1]
    exact fun z => znt1_ne hs (h j (by omega) (by omega)) (List.append_eq_nil_iff.mp z).2
theorem zsuN_le {f : Int → Int} {n : Nat} (h : ∀ j, 0 ≤ j → j < (n : Int) → 0 ≤ f j) : ∀ m : Nat, m ≤ n → zsuN f m ≤ zsuN f n := fun m hm => by
  have := zsuN_add (f := f) m (n - m)
  rw [show m + (n - m) = n by omega] at this
  have p := zsuN_0 (f := fun j => f (m + j)) (n - m) (fun j j0 j1 => h _ (by omega) (by omega))
  omega
theorem s_csay (hG : zP G) {M0 : zM} {o r1 f len eq : Int} {st v : Int → Int} (ho : zND o) (hr : zND r1) (hor : 0 ≤ o ∧ o ≤ 148 ∧ 189 ≤ r1) (he : 0 ≤ eq ∧ eq ≤ 255) (hf : 0 ≤ f ∧ f + len ≤ M0 r1 8 ∧ M0 r1 8 ≤ 300) (hC : zQC (M0 (r1 + 1)) (M0 (r1 + 2)) (M0 (r1 + 3)) (M0 (r1 + 4)) (M0 (r1 + 5)) (M0 (r1 + 7)) st v f len) (hlc : zlc st len.toNat ≤ 16) :
    ∀ (k : Nat), (k : Int) < len → ∀ (t s0 : Int) (M : zM) (d : Nat) (Q : zV → zM → Prop), (∀ a i, 189 ≤ a → M a i = M0 a i) → M o 8 = s0 → 0 ≤ s0 → s0 + zcnt st v (k + 1) k ≤ 300 → 0 ≤ t → t + zhv st v (k + 1) k ≤ 41 → (∀ N x, zqR o s0 M N → N o 8 = s0 + zcnt st v (k + 1) k → s0 ≤ x → zqE N o (zhv st v (k + 1) k).toNat x (s0 + zcnt st v (k + 1) k) (znF eq st v (k + 1) k) → Q (0, x) N) → Y G (d + 90 + (zhv st v (k + 1) k).toNat) mX1_say 0 [(2, o), (2, r1), (0, f + k), (0, eq), (0, t), (9, 0), (9, 0), (9, 0)] [] M Q := by
  have hw := zQC_wf hC
  intro k
  induction k using Nat.strongRecOn with
  | _ k ih =>
    intro hk t s0 M d Q hM h8 s00 hs t0 tH h
    obtain ⟨q1, q2, q3, q4, q5, q6, q7, q8, q9, q10, q11, q12, q13⟩ := hC.1 k hk
    have wcd := fun (j : Int) (hj : 0 ≤ j ∧ j < zpn (st k) (v k)) => zwf_cd hw (k := k) hk hj
    obtain ⟨P, hP⟩ := Int.eq_ofNat_of_zero_le q4.1
    have P16 : P ≤ 16 := by
      by_cases c : st k = 2 ∨ st k = 3
      · have := (q9 c).2; omega
      · have : zpn (st k) (v k) ≤ 4 := by
          unfold zpn
          by_cases c0 : st k < 2
          · rw [if_pos c0]; decide
          · rw [if_neg c0, if_neg (by omega), if_neg (by omega)]
            by_cases c6 : st k < 6
            · rw [if_pos c6]; decide
            · rw [if_neg c6]
              by_cases c10 : st k < 10
              · rw [if_pos c10]; decide
              · rw [if_neg c10]; decide
        omega
    have hvk := zhv_at (st := st) (v := v) k
    have hct := zcnt_at (st := st) (v := v) k
    rw [hP, Int.toNat_natCast] at hvk hct
    have mx0 := zmx_0 (c := fun j => zhv st v k (zcd st v k j)) P
    have cn0 : ∀ j, 0 ≤ j → j < (P : Int) → 1 ≤ zcnt st v k (zcd st v k j) := fun j j0 j1 => by
      have w := wcd j ⟨j0, by omega⟩
      exact zcnt_1 hw k (by omega) _ w.1 w.2
    have suN := zsuN_0 (f := fun j => zcnt st v k (zcd st v k j)) P (fun j j0 j1 => by have := cn0 j j0 j1; show 0 ≤ zcnt st v k (zcd st v k j); omega)
    generalize hH : zhv st v (k + 1) k = H at *
    generalize hCn : zcnt st v (k + 1) k = Cn at *
    obtain ⟨n, hn⟩ : ∃ n : Nat, H.toNat = n + 1 := ⟨H.toNat - 1, by omega⟩
    have e1 : ∀ (N : zM) (s1 : Int) (j : Int), zqR o s1 M N → ∀ a i, 189 ≤ a → N a i = M0 a i := fun N s1 j hN a i ha => by
      rcases hN a i with z | z | z | z
      · rw [z]; exact hM a i ha
      · omega
      · omega
      · omega
    have rr : ∀ (N : zM), (∀ a i, 189 ≤ a → N a i = M0 a i) → ∀ (b x dd : Int), 0 ≤ b → 0 ≤ x ∧ x < f + len → znf N r1 b x dd = M0 (r1 + b) x := fun N hN b x dd hb hx => by
      rw [znf_in (by rw [hN r1 8 (by omega)]; omega), hN _ _ (by omega)]
    have r18 : ∀ (N : zM), (∀ a i, 189 ≤ a → N a i = M0 a i) → N r1 8 = M0 r1 8 := fun N hN => hN _ _ (by omega)
    -- the whole's value
    obtain ⟨V, hV⟩ : ∃ V, V = M0 (r1 + 2) (f + k) := ⟨_, rfl⟩
    have hVv : st k < 2 ∨ st k = 10 → V = v k := fun c => by
      rw [hV]
      by_cases c0 : st k = 0
      · exact (q5 c0).1
      · by_cases c1 : st k = 1
        · exact (q6 c1).1
        · exact (q7 (by omega)).1
    have hV0 : 2 ≤ st k ∧ st k ≤ 9 → V = 0 := fun c => by rw [hV]; exact q8 c
    have wks : ∀ j, 0 ≤ j → j < (P : Int) → znk (k + 1) (znF eq st v k (zcd st v k j)) (zlv st v k (zcd st v k j)) := fun j j0 j1 => by
      have w := wcd j ⟨j0, by omega⟩
      exact znF_k hw k (by omega) _ w.1 w.2
    have l16 : zsuN (fun j => zlv st v k (zcd st v k j)) P ≤ 16 := by
      have := zlv_16 hw hlc hk
      rw [zlv_at, hP, Int.toNat_natCast] at this
      by_cases c : st k < 2
      · have : zpn (st k) (v k) = 0 := by unfold zpn; rw [if_pos c]
        have : P = 0 := by omega
        subst this
        show (0 : Int) ≤ 16; decide
      · rw [if_neg c] at this; exact this
    have capj : ∀ j : Nat, j ≤ P → (znt (st k) (zapk eq (st k)) (zna (st k) (v k) (fun j => znF eq st v k (zcd st v k j)) j)).length ≤ 16 := fun j hj => by
      have a := znt_cap (eq := eq) (s := st k) (v := v k) (c := fun j => znF eq st v k (zcd st v k j)) (f := fun j => zlv st v k (zcd st v k j)) (n := k) q1 j (fun i i0 i1 => wks i i0 (by omega))
      have b := znl_len _ _ a.1
      have c := zsuN_le (f := fun j => zlv st v k (zcd st v k j)) (n := P) (fun j j0 j1 => by have := znk_1 _ _ _ (wks j j0 j1); show 0 ≤ zlv st v k (zcd st v k j); omega) j hj
      omega
    -- the loop over the parts
    have lp : ∀ (r j : Nat) (N : zM) (ps : List zPe) (x6 : Int), j + r = P → zqR o s0 M N → N o 8 = s0 + 1 + zsuN (fun j => zcnt st v k (zcd st v k j)) j → zqW N o s0 (st k) V (s0 + 1 + zsuN (fun j => zcnt st v k (zcd st v k j)) j) n ps → zq2 ps = znt (st k) (zapk eq (st k)) (zna (st k) (v k) (fun j => znF eq st v k (zcd st v k j)) j) → (j < P → x6 = f + zcd st v k j) → Y G (d + 90 + n + 1) mX1_say 47 [(2, o), (2, r1), (0, f + k), (0, eq), (0, t), (0, s0), (0, x6), (0, (j : Int))] [] N Q := fun r => by
      induction r with
      | zero =>
        intro j N ps x6 hj hN hn8 hWN hz2 hx6
        have : j = P := by omega
        subst this
        have hN0 := e1 N s0 0 hN
        have cp := znt_cap (eq := eq) (s := st k) (v := v k) (c := fun j => znF eq st v k (zcd st v k j)) (f := fun j => zlv st v k (zcd st v k j)) (n := k) q1 j (fun i i0 i1 => wks i i0 i1)
        rw [← hz2] at cp
        have hne : st k = 2 ∨ st k = 3 → ps ≠ [] := fun c e => by
          have p2 := (q9 c).1
          have e0 : zq2 ps = [] := by rw [e]; rfl
          rw [hz2] at e0
          exact znt_ne c j (by omega) (fun i i0 i1 => wks i i0 i1) e0
        have gg : zng (st k) (zq2 ps) := by
          by_cases c0 : st k < 2
          · have p0 : zpn (st k) (v k) = 0 := by unfold zpn; rw [if_pos c0]
            have : j = 0 := by omega
            subst this
            have e0 : zq2 ps = [] := hz2
            rw [e0]
            exact ⟨⟨by omega, fun c => absurd c (by omega)⟩, fun _ => rfl, fun c => absurd c (by omega), fun c => absurd c (by omega), fun c => absurd c (by omega), fun p hp => (List.not_mem_nil hp).elim⟩
          · by_cases c2 : st k = 2 ∨ st k = 3
            · exact zng_s c2 (fun z => hne c2 (zq2_nil.mp z)) cp.2
            · have ea : zapk eq (st k) = false := by unfold zapk; rw [if_neg (by omega), if_neg (by omega)]
              rw [ea, znt_f, zna_f _ (by omega)] at hz2
              have ln := congrArg List.length hz2
              rw [zLs_len] at ln
              refine zng_w (by omega) (fun c => ?_) (fun c => ?_) (fun c => ?_) (fun p hp => (cp.2 p hp).2 (by omega))
              · have : zpn (st k) (v k) = 1 := by unfold zpn; rw [if_neg (by omega), if_neg (by omega), if_neg (by omega), if_pos (by omega)]
                omega
              · have : zpn (st k) (v k) = 2 := by unfold zpn; rw [if_neg (by omega), if_neg (by omega), if_neg (by omega), if_neg (by omega), if_pos (by omega)]
                omega
              · have : zpn (st k) (v k) = 4 := by unfold zpn; rw [if_neg (by omega), if_neg (by omega), if_neg (by omega), if_neg (by omega), if_neg (by omega)]
                omega
        refine bX1_say_47 hG ho hr ?_
        rw [rr N hN0 4 _ _ (by decide) (by omega), q3, hP, r18 N hN0]
        refine ⟨by omega, fun _ => ?_, fun c => absurd c (by omega)⟩
        have := s_change (d := d + 87 - n) (wn := k) (Q := fun r M' => Y G (d + 90 + n + 1) mX1_say 103 [(2, o), (2, r1), (0, f + k), (0, eq), (0, t), (0, s0), (0, x6), (0, (j : Int))] (zpush r []) M' Q) hG ho (by omega) he hWN gg hV0 (fun c => by rw [hVv (Or.inr c)]; exact (q7 c).2) hne (fun p hp => znl_mem _ _ cp.1 p.2 (List.mem_map.mpr ⟨p, hp, rfl⟩)) (fun N' x hK e8 hx hE => bX1_say_103 hG ho hr (h N' x (zqR_tr (Int.le_refl _) hN (zqR_K (Int.le_refl _) (zqK_mo (fun t ht => ?_) hK))) (by rw [e8, hn8]; omega) hx ?_))
        · rw [show d + 87 - n + 2 * n + 3 = d + 90 + n by omega] at this
          exact this
        · obtain ⟨p, p1, p2⟩ := ht
          have := hWN.2.2.2.2.1.1 p p1
          omega
        · rw [hn, znF_at, ← znC_e (vv := V) (l := zq2 ps) q1 hVv (by rw [hz2, hP]; rfl)]
          rw [show s0 + Cn = s0 + 1 + zsuN (fun j => zcnt st v k (zcd st v k j)) j by omega]
          exact hE
      | succ r ihr =>
        intro j N ps x6 hj hN hn8 hWN hz2 hx6
        have hN0 := e1 N s0 0 hN
        have ex := hx6 (by omega)
        have w := wcd j ⟨by omega, by omega⟩
        have hkc : (zcd st v k j).toNat < k := by omega
        have ecd : (((zcd st v k j).toNat : Nat) : Int) = zcd st v k j := by omega
        -- heights and counts of this part
        have hst := zhv_st (st := st) (v := v) (k := (zcd st v k j).toNat + 1) (i := zcd st v k j) (by omega) (k - ((zcd st v k j).toNat + 1))
        have cst := zcnt_st (st := st) (v := v) (k := (zcd st v k j).toNat + 1) (i := zcd st v k j) (by omega) (k - ((zcd st v k j).toNat + 1))
        have fst := znF_st (eq := eq) (st := st) (v := v) (k := (zcd st v k j).toNat + 1) (i := zcd st v k j) (by omega) (k - ((zcd st v k j).toNat + 1))
        rw [show (zcd st v k j).toNat + 1 + (k - ((zcd st v k j).toNat + 1)) = k by omega] at hst cst fst
        have hmx := zmx_ge (c := fun j => zhv st v k (zcd st v k j)) P j (by omega) (by omega)
        have hmx' : zhv st v k (zcd st v k j) ≤ H - 1 := by
          have : zhv st v k (zcd st v k j) ≤ zmx (fun j => zhv st v k (zcd st v k j)) P := hmx
          omega
        have sle := zsuN_le (f := fun j => zcnt st v k (zcd st v k j)) (n := P) (fun j j0 j1 => by have := cn0 j j0 j1; show 0 ≤ zcnt st v k (zcd st v k j); omega) (j + 1) (by omega)
        have sj : zsuN (fun j => zcnt st v k (zcd st v k j)) (j + 1) = zsuN (fun j => zcnt st v k (zcd st v k j)) j + zcnt st v k (zcd st v k j) := rfl
        have sj0 := zsuN_0 (f := fun j => zcnt st v k (zcd st v k j)) j (fun i i0 i1 => by have := cn0 i i0 (by omega); show 0 ≤ zcnt st v k (zcd st v k i); omega)
        have c1 := cn0 j (by omega) (by omega)
        refine bX1_say_47 hG ho hr ?_
        rw [rr N hN0 4 _ _ (by decide) (by omega), q3, hP, r18 N hN0]
        refine ⟨by omega, fun c => absurd c (by omega), fun _ => ⟨by omega, ?_⟩⟩
        have hcl : zhv st v ((zcd st v k j).toNat + 1) ((zcd st v k j).toNat : Int) = zhv st v k (zcd st v k j) := by rw [ecd]; exact hst.symm
        have ccl : zcnt st v ((zcd st v k j).toNat + 1) ((zcd st v k j).toNat : Int) = zcnt st v k (zcd st v k j) := by rw [ecd]; exact cst.symm
        have fcl : znF eq st v ((zcd st v k j).toNat + 1) ((zcd st v k j).toNat : Int) = znF eq st v k (zcd st v k j) := by rw [ecd]; exact fst.symm
        have hch0 : 1 ≤ zhv st v k (zcd st v k j) := by
          rw [← hcl, zhv_at]
          have := zmx_0 (c := fun i => zhv st v (zcd st v k j).toNat (zcd st v (zcd st v k j).toNat i)) (zpn (st ((zcd st v k j).toNat : Int)) (v ((zcd st v k j).toNat : Int))).toNat
          omega
        have go := ih (zcd st v k j).toNat hkc (by omega) (t + 1) (s0 + 1 + zsuN (fun j => zcnt st v k (zcd st v k j)) j) N (d + (n - (zhv st v k (zcd st v k j)).toNat)) (fun r M' => Y G (d + 90 + n + 1) mX1_say 72 [(2, o), (2, r1), (0, f + k), (0, eq), (0, t), (0, s0), (0, x6), (0, (j : Int))] (zpush r [(0, s0), (2, o)]) M' Q) hN0 hn8 (by omega) (by rw [ccl]; omega) (by omega) (by rw [hcl]; omega) (fun N1 x hR e8 hx hE => ?_)
        · rw [hcl, show d + (n - (zhv st v k (zcd st v k j)).toNat) + 90 + (zhv st v k (zcd st v k j)).toNat = d + 90 + n by omega, ecd] at go
          rw [ex]
          rw [ex] at go
          exact go
        · rw [ccl] at e8 hE
          rw [hcl, fcl] at hE
          have hN1 := zqR_tr (show s0 ≤ s0 + 1 + zsuN (fun j => zcnt st v k (zcd st v k j)) j by omega) hN hR
          have hN10 := e1 N1 s0 0 hN1
          have hW1 := zqW_R hR (Int.le_refl _) (by omega) hWN (top' := s0 + 1 + zsuN (fun j => zcnt st v k (zcd st v k j)) (j + 1)) (by omega)
          have hE1 : zqE N1 o n x (s0 + 1 + zsuN (fun j => zcnt st v k (zcd st v k j)) (j + 1)) (znF eq st v k (zcd st v k j)) := zqE_le (by omega) (by omega) hE
          have xlt : x < s0 + 1 + zsuN (fun j => zcnt st v k (zcd st v k j)) (j + 1) := by
            cases n with
            | zero => exact hE1.elim
            | succ n => exact hE1.1.2
          obtain ⟨b, hb⟩ : ∃ b : Int, b = if st k = 2 ∧ zsg (v k) j then 1 else 0 := ⟨_, rfl⟩
          have hb01 : b = 0 ∨ b = 1 := by rw [hb]; split; exact Or.inr rfl; exact Or.inl rfl
          have sg : M0 (r1 + 3) (f + zcd st v k j) = 1 - 2 * b := by
            rw [q12 j (by omega) (by omega), hb]
            by_cases c : st k = 2 ∧ zsg (v k) j
            · rw [if_pos c, if_pos c]; decide
            · rw [if_neg c, if_neg c]; decide
          have pre : znt (st k) (zapk eq (st k)) (zna (st k) (v k) (fun j => znF eq st v k (zcd st v k j)) (j + 1)) = znt (st k) (zapk eq (st k)) (zna (st k) (v k) (fun j => znF eq st v k (zcd st v k j)) j) ++ znt1 (st k) (zapk eq (st k)) (b, znF eq st v k (zcd st v k j)) := by
            show znt _ _ (zna _ _ _ j ++ [(if st k = 2 ∧ zsg (v k) j then 1 else 0, znF eq st v k (zcd st v k j))]) = _
            rw [znt_app, znt_1, hb]
          have cap := capj (j + 1) (by omega)
          rw [pre, ← hz2, List.length_append] at cap
          have lz : (zq2 ps).length = ps.length := List.length_map _
          rw [lz] at cap
          refine bX1_say_72 hG ho hr ⟨by rw [r18 N1 hN10]; omega, ?_⟩
          rw [rr N1 hN10 3 _ _ (by decide) (by rw [ex]; omega), ex, sg]
          refine s_adopt (d := d + 89 + n) (wn := k) (q := ((x, s0 + 1 + zsuN (fun j => zcnt st v k (zcd st v k j)) (j + 1)), (b, znF eq st v k (zcd st v k j)))) hG ho he hW1 ⟨fun p hp => ?_, ?_⟩ hE1 hb01 (wks j (by omega) (by omega)) cap (fun N2 ps' hK2 e82 hW2 hz2' => bX1_say_82 hG ho hr ?_) |> fun z => by
            rw [show d + 89 + n + 1 = d + 90 + n by omega] at z
            exact z
          · rcases List.mem_append.mp hp with z | z
            · have := hWN.2.2.2.2.1.1 p z; omega
            · rw [List.mem_singleton.mp z]
              exact ⟨by show s0 < x; omega, xlt, Int.le_refl _⟩
          · rw [List.pairwise_append]
            refine ⟨hWN.2.2.2.2.1.2, List.pairwise_singleton _ _, fun p hp q hq => ?_⟩
            have := hWN.2.2.2.2.1.1 p hp
            rw [List.mem_singleton.mp hq]
            left
            show p.1.2 ≤ x
            omega
          · have hN2 := zqR_tr (Int.le_refl _) hN1 (zqR_K (Int.le_refl _) hK2)
            have hN20 := e1 N2 s0 0 hN2
            refine ⟨by rw [r18 N2 hN20]; omega, by omega, ?_⟩
            have := ihr (j + 1) N2 ps' (znf N2 r1 7 (f + zcd st v k j) (-1)) (by omega) hN2 (by rw [e82, e8]; omega) hW2 (by rw [hz2', hz2, pre]) (fun hj2 => ?_)
            · exact this
            · rw [rr N2 hN20 7 _ _ (by decide) (by omega), q11 j (by omega) (by omega)]
              rw [show ((j + 1 : Nat) : Int) = (j : Int) + 1 by omega]
    -- it begins
    rw [hn]
    refine bX1_say_0 hG ho hr ⟨fun c => absurd c (by omega), fun _ => ?_⟩
    rw [r18 M hM]
    refine ⟨fun c => absurd c (by omega), fun _ => ⟨fun _ => ⟨by omega, by omega, ?_⟩, fun c => absurd c (by omega)⟩⟩
    rw [rr M hM 1 _ _ (by decide) (by omega), rr M hM 2 _ _ (by decide) (by omega), q2, ← hV]
    refine s_make (n := n) hG ho h8 (by omega) (fun N hR e8 hW => bX1_say_35 hG ho hr ⟨by rw [r18 N (e1 N s0 0 hR)]; omega, ?_⟩)
    rw [rr N (e1 N s0 0 hR) 5 _ _ (by decide) (by omega)]
    refine lp P 0 N [] _ (by omega) hR (by rw [e8]; show s0 + 1 = s0 + 1 + 0; omega) (by show zqW N o s0 (st k) V (s0 + 1 + 0) n []; rw [Int.add_zero]; exact hW) rfl (fun hp => ?_)
    rw [q10 (by omega)]; rfl
end YL

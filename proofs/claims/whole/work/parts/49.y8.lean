section Y8
variable {G : zG} {d : Nat} {M : zM} {Q : zV → zM → Prop}
theorem zag_lm {N : zM} {E : Int → List Int} {x3 P B : Int} {w : Nat} {a : Int → Int} (h : zSt N E P w a B) {n : Nat} (hn : (n : Int) ≤ P) : ∀ i : Nat, (i : Int) ≤ n → (zlm (zLs (zag E x3 P n) i) : Int) = N 252 (P - n + i) - N 252 (P - n) + i
  | 0, _ => by show (0 : Int) = N 252 (P - n + 0) - N 252 (P - n) + 0; rw [show P - (n : Int) + 0 = P - n by omega]; omega
  | i + 1, hi => by
    have ih := zag_lm (x3 := x3) h hn i (by omega)
    have q := (h.2.2.2.2 (P - n + i) (by omega) (by omega)).1
    show (zlm (zLs (zag E x3 P n) i ++ [zag E x3 P n i]) : Int) = _
    rw [zlm_app]
    have e : zlm [zag E x3 P n i] = (E (P - n + i)).length + 1 + 0 := rfl
    rw [e, show P - (n : Int) + ((i + 1 : Nat) : Int) = P - n + i + 1 by omega, q]
    omega
theorem zag_w {N : zM} {E : Int → List Int} {x3 P B : Int} {w : Nat} {a : Int → Int} (h : zSt N E P w a B) {n : Nat} (hn : (n : Int) ≤ P) : ∀ i : Nat, (i : Int) ≤ n → znl (znk (w + 1)) (zLs (zag E x3 P n) i) (zsuN (fun j => a (P - n + j)) i)
  | 0, _ => by show (0 : Int) ≤ 0; decide
  | i + 1, hi => znl_app _ _ _ _ (zag_w h hn i (by omega)) ⟨a (P - n + i), (h.2.2.2.2 (P - n + i) (by omega) (by omega)).2.2, by show (0 : Int) ≤ a (P - n + i) - a (P - n + i); omega⟩
theorem znl_wt {w : Nat} {l : List znT} {m : Int} (h : znl (znk (w + 1)) l m) : zwt w l := fun t ht => znl_mem l m h t ht
theorem zbt_e (x i : Int) (hx : 0 ≤ x ∧ x ≤ 255) (hi : 0 ≤ i ∧ i < 32) : zbit x i ↔ zbt x i = true := zbt_m (by omega) hi
theorem s_saySum (hG : zP G) {k0 x3 eq P B m : Int} {n w : Nat} {E : Int → List Int} {a : Int → Int} (hk : k0 = 2 ∨ k0 = 3) (he : 0 ≤ eq ∧ eq ≤ 255) (hS : zSt M E P w a B) (hB : B + 3 ≤ 600) (hn : 1 ≤ n ∧ (n : Int) ≤ P) (hs : zsn k0 (zLs (zag E x3 P n) n)) (hm : m = zsuN (fun j => a (P - n + j)) n) (m16 : 1 ≤ m ∧ m ≤ 16)
    (h : ∀ N, zfr zmF M N → zSt N (zupE E (P - n) (znS eq k0 (zLs (zag E x3 P n) n))) (P - n + 1) (w + 1) (zup a (P - n) m) (B + 3) → Q (9, 0) N) : Y G (d + 3) mX12_saySum 0 [(2, 234), (0, k0), (0, (n : Int)), (0, x3), (0, eq), (9, 0), (9, 0), (9, 0), (9, 0)] [] M Q := by
  have wl : znl (znk (w + 1)) (zLs (zag E x3 P n) n) m := by rw [hm]; exact zag_w hS hn.2 n (by omega)
  have lm := zag_lm (x3 := x3) hS hn.2 n (by omega)
  rw [show P - (n : Int) + n = P by omega] at lm
  have l2 := znS2_l (eq := eq) hk wl hs
  have len2 := znl_len _ _ l2.1
  have lent := znl_len _ _ (znt_l (ap := zbt eq (k0 - 2)) hk _ _ wl hs).1
  have lenS := znS_len (eq := eq) hk wl
  have b0 := zbt_e eq 0 he (by decide)
  have b1 := zbt_e eq 1 he (by decide)
  have b2 := zbt_e eq 2 he (by decide)
  have b3 := zbt_e eq 3 he (by decide)
  have b7 := zbt_e eq 7 he (by decide)
  have hkS := znS_k (eq := eq) hk m16.1 wl hs
  -- what lies in the work row is put down
  have fin : ∀ (N : zM) (x5 x7 : Int), zfr zwF M N → zat (N 253) 0 (znS eq k0 (zLs (zag E x3 P n) n)) → Y G (d + 2) mX12_put 0 [(2, 234), (0, (n : Int)), (0, ((znS eq k0 (zLs (zag E x3 P n) n)).length : Int)), (9, 0), (9, 0)] [] N (fun r M' => Y G (d + 2 + 1) mX12_saySum 264 [(2, 234), (0, k0), (0, (n : Int)), (0, x3), (0, eq), (0, x5), (0, ((znS eq k0 (zLs (zag E x3 P n) n)).length : Int)), (0, x7), (9, 0)] (zpush r []) M' Q) := fun N x5 x7 hN hz => by
    have hS' := zSt_c hN (by omega) hS
    have e1 : N 252 P = M 252 P := hN 252 P (by have := hS.2.1; unfold zhw zhit; simp; omega)
    have e2 : N 252 (P - n) = M 252 (P - n) := hN 252 (P - n) (by have := hS.2.1; unfold zhw zhit; simp; omega)
    refine s_mput hG hS' (by omega) hB hz (by rw [e1, e2]; omega) hkS (fun N1 hN1 hs1 => bX12_saySum_264 hG (h N1 (zfr_trans (zfr_sub hN (by decide)) hN1) hs1))
  -- the terms in order go into the work row
  have hD : ¬ (znS2 eq k0 (zLs (zag E x3 P n) n) = [] ∨ (zbt eq 7 = true ∧ ∀ x ∈ znS2 eq k0 (zLs (zag E x3 P n) n), znu x)) → ∀ (N : zM) (T : Int → znT) (c : Nat), zfr zwF M N → N 251 = M 251 → zTm N T c → zLs T c = (if zbt eq (k0 - 2) then znso (znS2 eq k0 (zLs (zag E x3 P n) n)) else znS2 eq k0 (zLs (zag E x3 P n) n)) → ((¬ (N 234 40) = 1 → Y G (d + 2 + 1) mX12_saySum 166 [(2, 234), (0, k0), (0, (n : Int)), (0, x3), (0, eq), (0, 0), (0, 2), (0, 0), (9, 0)] [] (zset (zset N 253 0 k0) 253 1 (N 234 40)) Q) ∧ ((N 234 40) = 1 → ((¬ (N 254 0) = 0 → Y G (d + 2 + 1) mX12_saySum 166 [(2, 234), (0, k0), (0, (n : Int)), (0, x3), (0, eq), (0, 0), (0, 2), (0, 0), (9, 0)] [] (zset (zset N 253 0 k0) 253 1 (N 234 40)) Q) ∧ ((N 254 0) = 0 → Y G (d + 2 + 1) mX12_saySum 166 [(2, 234), (0, k0), (0, (n : Int)), (0, x3), (0, eq), (0, 1), (0, 0), (0, 0), (9, 0)] [] N Q)))) := fun nA N T c hN r hT hL => by
    have eS : znS eq k0 (zLs (zag E x3 P n) n) = znal k0 (zLs T c) := by
      unfold znS znS3
      rw [if_neg nA, hL]
    have hp : (zLs T c).Perm (znS2 eq k0 (zLs (zag E x3 P n) n)) := by
      rw [hL]
      by_cases q : zbt eq (k0 - 2) = true
      · rw [if_pos q]; exact znso_p _
      · rw [if_neg q]
    have hs3 := zsn_perm hp.symm l2.2
    have c40 := hT.2.1
    have lenS' : (znS eq k0 (zLs (zag E x3 P n) n)).length ≤ 600 := by
      have := (zSt_0 hS (i := P - n) (by omega) (by omega)).1
      have := hS.2.2.2.1
      have := hS.2.1
      omega
    have hsg : ∀ t ∈ zLs T c, t.1 = 0 ∨ t.1 = 1 := fun t ht => (hs3 t ht).1
    have many : znal k0 (zLs T c) = znh k0 0 (zLs T c) → Y G (d + 2 + 1) mX12_saySum 166 [(2, 234), (0, k0), (0, (n : Int)), (0, x3), (0, eq), (0, 0), (0, 2), (0, 0), (9, 0)] [] (zset (zset N 253 0 k0) 253 1 (N 234 40)) Q := fun ea => by
      have eh : znh k0 0 (zLs T c) = [k0, (c : Int)] ++ (zLs T c).flatMap (fun t => if k0 = 2 ∧ (0 : Int) = 0 then (100 + t.1) :: t.2 else t.2) := by
        unfold znh
        rw [if_neg (by omega), zLs_len]
        rcases hk with rfl | rfl
        · rw [if_pos rfl]; rfl
        · rw [if_neg (by decide), if_pos rfl]; rfl
      have hT0 : zTm (zset (zset N 253 0 k0) 253 1 (N 234 40)) T c := by
        obtain ⟨t1, t2, t3⟩ := hT
        refine ⟨by rw [zset_off (by decide), zset_off (by decide)]; exact t1, t2, fun i i0 i1 => ?_⟩
        rw [zset_off (show (251 : Int) ≠ 253 by decide), zset_off (show (251 : Int) ≠ 253 by decide), zset_off (show (254 : Int) ≠ 253 by decide), zset_off (show (254 : Int) ≠ 253 by decide), zset_off (show (255 : Int) ≠ 253 by decide), zset_off (show (255 : Int) ≠ 253 by decide), zset_off (show (256 : Int) ≠ 253 by decide), zset_off (show (256 : Int) ≠ 253 by decide)]
        exact t3 i i0 i1
      have hf0 : zfr zwF M (zset (zset N 253 0 k0) 253 1 (N 234 40)) := zfr_set (zfr_set hN (zhit_at 0 rfl ⟨by decide, by decide⟩)) (zhit_at 0 rfl ⟨by decide, by decide⟩)
      have ec := congrArg List.length eh
      rw [List.length_append] at ec
      rw [eS, ea] at lenS'
      have hh := s_166 (x2 := (n : Int)) (x3 := x3) (x4 := eq) (x5 := 0) (d := d + 2) (Q := Q) hG hT0 (fun t => if k0 = 2 ∧ (0 : Int) = 0 then (100 + t.1) :: t.2 else t.2) (fun t => rfl) [k0, (c : Int)] (by omega) hsg (fun N1 hN1 hz => ?_) c 0 _ (by omega) zfr_rfl ?_
      · exact hh
      · rw [← eh, ← ea, ← eS] at hz ⊢
        have e40 : N1 234 40 = c := by rw [hN1 234 40 (by unfold zhw zhit; decide)]; exact hT0.1
        refine bX12_saySum_166 hG ⟨fun _ => fin N1 _ _ (zfr_trans hf0 (zfr_sub hN1 (by decide))) hz, fun z => absurd z (by omega)⟩
      · refine ⟨?_, ?_, trivial⟩
        · rw [zset_ne (fun q => by have := q.2; omega)]; exact zset_same
        · exact zset_same.trans hT.1
    have alone : c = 1 → (T 0).1 = 0 → Y G (d + 2 + 1) mX12_saySum 166 [(2, 234), (0, k0), (0, (n : Int)), (0, x3), (0, eq), (0, 1), (0, 0), (0, 0), (9, 0)] [] N Q := fun c1 t0 => by
      subst c1
      have ea : znal k0 (zLs T 1) = (T 0).2 := if_pos t0
      have eh : ([] : List Int) ++ (zLs T 1).flatMap (fun t => if k0 = 2 ∧ (1 : Int) = 0 then (100 + t.1) :: t.2 else t.2) = (T 0).2 := by
        show ([] : List Int) ++ [T 0].flatMap _ = _
        rw [List.nil_append, List.flatMap_cons]
        show (if k0 = 2 ∧ (1 : Int) = 0 then (100 + (T 0).1) :: (T 0).2 else (T 0).2) ++ [] = _
        rw [if_neg (fun q => absurd q.2 (by decide)), List.append_nil]
      rw [eS, ea] at lenS'
      have ec := congrArg List.length eh
      rw [List.length_append] at ec
      have hh := s_166 (x2 := (n : Int)) (x3 := x3) (x4 := eq) (x5 := 1) (d := d + 2) (Q := Q) hG hT (fun t => if k0 = 2 ∧ (1 : Int) = 0 then (100 + t.1) :: t.2 else t.2) (fun t => rfl) [] (by omega) hsg (fun N1 hN1 hz => ?_) 1 0 _ (by omega) zfr_rfl trivial
      · exact hh
      · rw [eh, ← ea, ← eS] at hz ⊢
        have e40 : N1 234 40 = 1 := by rw [hN1 234 40 (by unfold zhw zhit; decide)]; exact hT.1
        exact bX12_saySum_166 hG ⟨fun _ => fin N1 _ _ (zfr_trans hN (zfr_sub hN1 (by decide))) hz, fun z => absurd z (by rw [e40]; decide)⟩
    have ne0 : c ≠ 0 := fun z => nA (Or.inl (by
      subst z
      have := hp.length_eq
      exact List.length_eq_zero_iff.mp this.symm))
    have w : ¬ (c = 1 ∧ (T 0).1 = 0) → znal k0 (zLs T c) = znh k0 0 (zLs T c) := fun q => by
      match c, q with
      | 0, _ => rfl
      | 1, q => exact if_neg (fun z => q ⟨rfl, z⟩)
      | c + 2, _ =>
        have gen : ∀ l : List znT, 2 ≤ l.length → znal k0 l = znh k0 0 l := fun l hl => by
          match l, hl with
          | _ :: _ :: _, _ => rfl
        exact gen _ (by rw [zLs_len]; omega)
    rw [hT.1]
    rw [hT.1] at many
    refine ⟨fun z => many (w (fun q => z (by rw [q.1]; rfl))), fun z => ⟨fun z2 => many (w (fun q => z2 ?_)), fun z2 => alone (by omega) ?_⟩⟩
    · rw [(hT.2.2 0 (by omega) (by omega)).1]; exact q.2
    · rw [← (hT.2.2 0 (by omega) (by omega)).1]; exact z2
  have hC : ¬ (znS2 eq k0 (zLs (zag E x3 P n) n) = [] ∨ (zbt eq 7 = true ∧ ∀ x ∈ znS2 eq k0 (zLs (zag E x3 P n) n), znu x)) → ∀ (N : zM) (T : Int → znT) (c : Nat), zfr zwF M N → N 251 = M 251 → zTm N T c → zLs T c = znS2 eq k0 (zLs (zag E x3 P n) n) → ((¬ k0 = 2 → ((zbit eq 1 → Y G (d + 2) mX12_setInOrder 0 [(2, 234), (9, 0), (9, 0)] [] N (fun r M' => Y G (d + 2 + 1) mX12_saySum 111 [(2, 234), (0, k0), (0, (n : Int)), (0, x3), (0, eq), (9, 0), (9, 0), (9, 0), (9, 0)] (zpush r []) M' Q)) ∧ (¬ (zbit eq 1) → ((¬ (N 234 40) = 1 → Y G (d + 2 + 1) mX12_saySum 166 [(2, 234), (0, k0), (0, (n : Int)), (0, x3), (0, eq), (0, 0), (0, 2), (0, 0), (9, 0)] [] (zset (zset N 253 0 k0) 253 1 (N 234 40)) Q) ∧ ((N 234 40) = 1 → ((¬ (N 254 0) = 0 → Y G (d + 2 + 1) mX12_saySum 166 [(2, 234), (0, k0), (0, (n : Int)), (0, x3), (0, eq), (0, 0), (0, 2), (0, 0), (9, 0)] [] (zset (zset N 253 0 k0) 253 1 (N 234 40)) Q) ∧ ((N 254 0) = 0 → Y G (d + 2 + 1) mX12_saySum 166 [(2, 234), (0, k0), (0, (n : Int)), (0, x3), (0, eq), (0, 1), (0, 0), (0, 0), (9, 0)] [] N Q))))))) ∧ (k0 = 2 → ((zbit eq 0 → Y G (d + 2) mX12_setInOrder 0 [(2, 234), (9, 0), (9, 0)] [] N (fun r M' => Y G (d + 2 + 1) mX12_saySum 111 [(2, 234), (0, k0), (0, (n : Int)), (0, x3), (0, eq), (9, 0), (9, 0), (9, 0), (9, 0)] (zpush r []) M' Q)) ∧ (¬ (zbit eq 0) → ((¬ (N 234 40) = 1 → Y G (d + 2 + 1) mX12_saySum 166 [(2, 234), (0, k0), (0, (n : Int)), (0, x3), (0, eq), (0, 0), (0, 2), (0, 0), (9, 0)] [] (zset (zset N 253 0 k0) 253 1 (N 234 40)) Q) ∧ ((N 234 40) = 1 → ((¬ (N 254 0) = 0 → Y G (d + 2 + 1) mX12_saySum 166 [(2, 234), (0, k0), (0, (n : Int)), (0, x3), (0, eq), (0, 0), (0, 2), (0, 0), (9, 0)] [] (zset (zset N 253 0 k0) 253 1 (N 234 40)) Q) ∧ ((N 254 0) = 0 → Y G (d + 2 + 1) mX12_saySum 166 [(2, 234), (0, k0), (0, (n : Int)), (0, x3), (0, eq), (0, 1), (0, 0), (0, 0), (9, 0)] [] N Q)))))))) := fun nA N T c hN r hT hL => by
    have so : zbt eq (k0 - 2) = true → Y G (d + 2) mX12_setInOrder 0 [(2, 234), (9, 0), (9, 0)] [] N (fun r M' => Y G (d + 2 + 1) mX12_saySum 111 [(2, 234), (0, k0), (0, (n : Int)), (0, x3), (0, eq), (9, 0), (9, 0), (9, 0), (9, 0)] (zpush r []) M' Q) := fun q => by
      refine s_setInOrder hG hT (fun N1 T1 hN1 r1 hT1 hL1 => bX12_saySum_111 hG ?_)
      exact hD nA N1 T1 c (zfr_trans hN (zfr_sub hN1 (by decide))) (r1.trans r) hT1 (by rw [hL1, if_pos q, hL])
    have un : ¬ zbt eq (k0 - 2) = true → ((¬ (N 234 40) = 1 → Y G (d + 2 + 1) mX12_saySum 166 [(2, 234), (0, k0), (0, (n : Int)), (0, x3), (0, eq), (0, 0), (0, 2), (0, 0), (9, 0)] [] (zset (zset N 253 0 k0) 253 1 (N 234 40)) Q) ∧ ((N 234 40) = 1 → ((¬ (N 254 0) = 0 → Y G (d + 2 + 1) mX12_saySum 166 [(2, 234), (0, k0), (0, (n : Int)), (0, x3), (0, eq), (0, 0), (0, 2), (0, 0), (9, 0)] [] (zset (zset N 253 0 k0) 253 1 (N 234 40)) Q) ∧ ((N 254 0) = 0 → Y G (d + 2 + 1) mX12_saySum 166 [(2, 234), (0, k0), (0, (n : Int)), (0, x3), (0, eq), (0, 1), (0, 0), (0, 0), (9, 0)] [] N Q)))) := fun q => hD nA N T c hN r hT (by rw [hL, if_neg q])
    refine ⟨fun z => ?_, fun z => ?_⟩
    · have : k0 - 2 = 1 := by omega
      rw [this] at so un
      exact ⟨fun q => so (b1.mp q), fun q => un (fun x => q (b1.mpr x))⟩
    · have : k0 - 2 = 0 := by omega
      rw [this] at so un
      exact ⟨fun q => so (b0.mp q), fun q => un (fun x => q (b0.mpr x))⟩
  have hA : (znS2 eq k0 (zLs (zag E x3 P n) n) = [] ∨ (zbt eq 7 = true ∧ ∀ x ∈ znS2 eq k0 (zLs (zag E x3 P n) n), znu x)) → ∀ (N : zM) (T : Int → znT) (c : Nat), zfr zwF M N → N 251 = M 251 → zTm N T c → zLs T c = znS2 eq k0 (zLs (zag E x3 P n) n) → Y G (d + 2) mX12_worked 0 [(2, 234), (0, k0), (9, 0), (9, 0), (9, 0), (9, 0), (9, 0)] [] N (fun r M' => Y G (d + 2 + 1) mX12_saySum 85 [(2, 234), (0, k0), (0, (n : Int)), (0, x3), (0, eq), (9, 0), (9, 0), (9, 0), (9, 0)] (zpush r [(0, (n : Int)), (2, 234)]) M' Q) := fun yA N T c hN r hT hL => by
    have hu : ∀ x ∈ zLs T c, znu x := by
      rw [hL]
      rcases yA with q | q
      · rw [q]; exact fun x hx => (List.not_mem_nil hx).elim
      · exact q.2
    have eS : znS eq k0 (zLs (zag E x3 P n) n) = [0, znwk k0 (zLs T c)] := by
      unfold znS znS3
      rw [if_pos yA, hL]
    refine s_worked hG hk hT (by rw [hL]; exact znl_wt l2.1) hu (bX12_saySum_85 hG ?_)
    rw [eS] at h
    exact s_putNumber hG (zSt_c hN (by omega) hS) (by omega) hB m16.1 (znwk_b _) (fun N1 hN1 hs1 => bX12_saySum_88 hG (h N1 (zfr_trans (zfr_sub hN (by decide)) hN1) hs1))
  have hE : ∀ (N : zM) (T : Int → znT) (c : Nat), zfr zwF M N → N 251 = M 251 → zTm N T c → zLs T c = znS2 eq k0 (zLs (zag E x3 P n) n) → (((N 234 40) = 0 → Y G (d + 2) mX12_worked 0 [(2, 234), (0, k0), (9, 0), (9, 0), (9, 0), (9, 0), (9, 0)] [] N (fun r M' => Y G (d + 2 + 1) mX12_saySum 85 [(2, 234), (0, k0), (0, (n : Int)), (0, x3), (0, eq), (9, 0), (9, 0), (9, 0), (9, 0)] (zpush r [(0, (n : Int)), (2, 234)]) M' Q)) ∧ (¬ (N 234 40) = 0 → ((zbit eq 7 → Y G (d + 2) mX12_areNumbers 0 [(2, 234), (9, 0)] [] N (fun r M' => Y G (d + 2 + 1) mX12_saySum 75 [(2, 234), (0, k0), (0, (n : Int)), (0, x3), (0, eq), (9, 0), (9, 0), (9, 0), (9, 0)] (zpush r []) M' Q)) ∧ (¬ (zbit eq 7) → ((¬ k0 = 2 → ((zbit eq 1 → Y G (d + 2) mX12_setInOrder 0 [(2, 234), (9, 0), (9, 0)] [] N (fun r M' => Y G (d + 2 + 1) mX12_saySum 111 [(2, 234), (0, k0), (0, (n : Int)), (0, x3), (0, eq), (9, 0), (9, 0), (9, 0), (9, 0)] (zpush r []) M' Q)) ∧ (¬ (zbit eq 1) → ((¬ (N 234 40) = 1 → Y G (d + 2 + 1) mX12_saySum 166 [(2, 234), (0, k0), (0, (n : Int)), (0, x3), (0, eq), (0, 0), (0, 2), (0, 0), (9, 0)] [] (zset (zset N 253 0 k0) 253 1 (N 234 40)) Q) ∧ ((N 234 40) = 1 → ((¬ (N 254 0) = 0 → Y G (d + 2 + 1) mX12_saySum 166 [(2, 234), (0, k0), (0, (n : Int)), (0, x3), (0, eq), (0, 0), (0, 2), (0, 0), (9, 0)] [] (zset (zset N 253 0 k0) 253 1 (N 234 40)) Q) ∧ ((N 254 0) = 0 → Y G (d + 2 + 1) mX12_saySum 166 [(2, 234), (0, k0), (0, (n : Int)), (0, x3), (0, eq), (0, 1), (0, 0), (0, 0), (9, 0)] [] N Q))))))) ∧ (k0 = 2 → ((zbit eq 0 → Y G (d + 2) mX12_setInOrder 0 [(2, 234), (9, 0), (9, 0)] [] N (fun r M' => Y G (d + 2 + 1) mX12_saySum 111 [(2, 234), (0, k0), (0, (n : Int)), (0, x3), (0, eq), (9, 0), (9, 0), (9, 0), (9, 0)] (zpush r []) M' Q)) ∧ (¬ (zbit eq 0) → ((¬ (N 234 40) = 1 → Y G (d + 2 + 1) mX12_saySum 166 [(2, 234), (0, k0), (0, (n : Int)), (0, x3), (0, eq), (0, 0), (0, 2), (0, 0), (9, 0)] [] (zset (zset N 253 0 k0) 253 1 (N 234 40)) Q) ∧ ((N 234 40) = 1 → ((¬ (N 254 0) = 0 → Y G (d + 2 + 1) mX12_saySum 166 [(2, 234), (0, k0), (0, (n : Int)), (0, x3), (0, eq), (0, 0), (0, 2), (0, 0), (9, 0)] [] (zset (zset N 253 0 k0) 253 1 (N 234 40)) Q) ∧ ((N 254 0) = 0 → Y G (d + 2 + 1) mX12_saySum 166 [(2, 234), (0, k0), (0, (n : Int)), (0, x3), (0, eq), (0, 1), (0, 0), (0, 0), (9, 0)] [] N Q)))))))))))) := fun N T c hN r hT hL => by
    have cl := congrArg List.length hL
    rw [zLs_len] at cl
    refine ⟨fun z => hA (Or.inl ?_) N T c hN r hT hL, fun z => ⟨fun q => ?_, fun q => hC (fun x => ?_) N T c hN r hT hL⟩⟩
    · rw [hT.1] at z
      exact List.length_eq_zero_iff.mp (by omega)
    · refine s_areNumbers hG hT (by rw [hL]; exact znl_wt l2.1) (fun hu => bX12_saySum_75 hG ⟨fun z2 => absurd z2 (by decide), fun _ => hA (Or.inr ⟨b7.mp q, by rw [← hL]; exact hu⟩) N T c hN r hT hL⟩) (fun hu => bX12_saySum_75 hG ⟨fun _ => hC (fun x => ?_) N T c hN r hT hL, fun z2 => absurd rfl z2⟩)
      rcases x with x | x
      · rw [x] at cl
        rw [hT.1, cl] at z
        exact z rfl
      · exact hu (by rw [hL]; exact x.2)
    · rcases x with x | x
      · rw [x] at cl
        rw [hT.1, cl] at z
        exact z rfl
      · exact q (b7.mpr x.1)
  have h22 : ∀ (N : zM) (T : Int → znT) (c : Nat), zfr ztF M N → N 251 = M 251 → zTm N T c → zLs T c = znt k0 (zbt eq (k0 - 2)) (zLs (zag E x3 P n) n) → Y G (d + 2 + 1) mX12_saySum 22 [(2, 234), (0, k0), (0, (n : Int)), (0, x3), (0, eq), (9, 0), (9, 0), (9, 0), (9, 0)] [] N Q := fun N T c hN r hT hL => by
    have wt : zwt w (zLs T c) := by rw [hL]; exact znl_wt (znt_l (ap := zbt eq (k0 - 2)) hk _ _ wl hs).1
    have lo : zbt eq k0 = true → Y G (d + 2) mX12_leaveOut 0 [(2, 234), (0, k0 - 2), (9, 0), (9, 0)] [] N (fun r M' => Y G (d + 2 + 1) mX12_saySum 54 [(2, 234), (0, k0), (0, (n : Int)), (0, x3), (0, eq), (9, 0), (9, 0), (9, 0), (9, 0)] (zpush r []) M' Q) := fun q =>
      s_leaveOut hG hT wt (fun N1 T1 c1 hN1 r1 hT1 hL1 => bX12_saySum_54 hG (hE N1 T1 c1 (zfr_sub (zfr_trans hN hN1) (by decide)) (r1.trans r) hT1 (by rw [hL1, hL]; unfold znS2; rw [if_pos q])))
    have un : ¬ zbt eq k0 = true → (((N 234 40) = 0 → Y G (d + 2) mX12_worked 0 [(2, 234), (0, k0), (9, 0), (9, 0), (9, 0), (9, 0), (9, 0)] [] N (fun r M' => Y G (d + 2 + 1) mX12_saySum 85 [(2, 234), (0, k0), (0, (n : Int)), (0, x3), (0, eq), (9, 0), (9, 0), (9, 0), (9, 0)] (zpush r [(0, (n : Int)), (2, 234)]) M' Q)) ∧ (¬ (N 234 40) = 0 → ((zbit eq 7 → Y G (d + 2) mX12_areNumbers 0 [(2, 234), (9, 0)] [] N (fun r M' => Y G (d + 2 + 1) mX12_saySum 75 [(2, 234), (0, k0), (0, (n : Int)), (0, x3), (0, eq), (9, 0), (9, 0), (9, 0), (9, 0)] (zpush r []) M' Q)) ∧ (¬ (zbit eq 7) → ((¬ k0 = 2 → ((zbit eq 1 → Y G (d + 2) mX12_setInOrder 0 [(2, 234), (9, 0), (9, 0)] [] N (fun r M' => Y G (d + 2 + 1) mX12_saySum 111 [(2, 234), (0, k0), (0, (n : Int)), (0, x3), (0, eq), (9, 0), (9, 0), (9, 0), (9, 0)] (zpush r []) M' Q)) ∧ (¬ (zbit eq 1) → ((¬ (N 234 40) = 1 → Y G (d + 2 + 1) mX12_saySum 166 [(2, 234), (0, k0), (0, (n : Int)), (0, x3), (0, eq), (0, 0), (0, 2), (0, 0), (9, 0)] [] (zset (zset N 253 0 k0) 253 1 (N 234 40)) Q) ∧ ((N 234 40) = 1 → ((¬ (N 254 0) = 0 → Y G (d + 2 + 1) mX12_saySum 166 [(2, 234), (0, k0), (0, (n : Int)), (0, x3), (0, eq), (0, 0), (0, 2), (0, 0), (9, 0)] [] (zset (zset N 253 0 k0) 253 1 (N 234 40)) Q) ∧ ((N 254 0) = 0 → Y G (d + 2 + 1) mX12_saySum 166 [(2, 234), (0, k0), (0, (n : Int)), (0, x3), (0, eq), (0, 1), (0, 0), (0, 0), (9, 0)] [] N Q))))))) ∧ (k0 = 2 → ((zbit eq 0 → Y G (d + 2) mX12_setInOrder 0 [(2, 234), (9, 0), (9, 0)] [] N (fun r M' => Y G (d + 2 + 1) mX12_saySum 111 [(2, 234), (0, k0), (0, (n : Int)), (0, x3), (0, eq), (9, 0), (9, 0), (9, 0), (9, 0)] (zpush r []) M' Q)) ∧ (¬ (zbit eq 0) → ((¬ (N 234 40) = 1 → Y G (d + 2 + 1) mX12_saySum 166 [(2, 234), (0, k0), (0, (n : Int)), (0, x3), (0, eq), (0, 0), (0, 2), (0, 0), (9, 0)] [] (zset (zset N 253 0 k0) 253 1 (N 234 40)) Q) ∧ ((N 234 40) = 1 → ((¬ (N 254 0) = 0 → Y G (d + 2 + 1) mX12_saySum 166 [(2, 234), (0, k0), (0, (n : Int)), (0, x3), (0, eq), (0, 0), (0, 2), (0, 0), (9, 0)] [] (zset (zset N 253 0 k0) 253 1 (N 234 40)) Q) ∧ ((N 254 0) = 0 → Y G (d + 2 + 1) mX12_saySum 166 [(2, 234), (0, k0), (0, (n : Int)), (0, x3), (0, eq), (0, 1), (0, 0), (0, 0), (9, 0)] [] N Q)))))))))))) := fun q => hE N T c (zfr_sub hN (by decide)) r hT (by rw [hL]; unfold znS2; rw [if_neg q])
    refine bX12_saySum_22 hG ⟨fun z => ⟨fun q => ⟨fun _ => ?_, fun z2 => absurd z2 z⟩, fun q => un ?_⟩, fun z => ⟨fun q => ⟨fun z2 => absurd z z2, fun _ => ?_⟩, fun q => un ?_⟩⟩
    · have e : k0 = 3 := by omega
      have := lo (by rw [e]; exact b3.mp q)
      rw [show k0 - 2 = 1 by omega] at this
      exact this
    · have e : k0 = 3 := by omega
      rw [e]; exact fun x => q (b3.mpr x)
    · have := lo (by rw [z]; exact b2.mp q)
      rw [show k0 - 2 = 0 by omega] at this
      exact this
    · rw [z]; exact fun x => q (b2.mpr x)
  have ft : ∀ x4 : Int, (x4 = 0 ∧ zbt eq (k0 - 2) = false ∨ x4 = 1 ∧ zbt eq (k0 - 2) = true) → Y G (d + 2) mX12_findTerms 0 [(2, 234), (0, k0), (0, (n : Int)), (0, x3), (0, x4), (9, 0), (9, 0), (9, 0), (9, 0), (9, 0), (9, 0), (9, 0), (9, 0)] [] M (fun r M' => Y G (d + 2 + 1) mX12_saySum 22 [(2, 234), (0, k0), (0, (n : Int)), (0, x3), (0, eq), (9, 0), (9, 0), (9, 0), (9, 0)] (zpush r []) M' Q) := fun x4 h4 =>
    s_findTerms (ap := zbt eq (k0 - 2)) hG (by rcases h4 with ⟨q, q2⟩ | ⟨q, q2⟩; exact Or.inl ⟨q, q2⟩; exact Or.inr ⟨q, q2, hk⟩) (zSt_pk hS (by omega) (by omega)) (fun i i0 i1 => (hs _ ((zLs_mem n).mpr ⟨i, i0, i1, rfl⟩)).1) (by omega) h22
  have tf : ∀ b : Bool, ¬ b = true → b = false := fun b hb => by cases b; rfl; exact absurd rfl hb
  refine bX12_saySum_0 hG ⟨fun z => ?_, fun z => ?_⟩
  · have e : k0 - 2 = 1 := by omega
    rw [e] at ft
    exact ⟨fun q => ft 1 (Or.inr ⟨rfl, b1.mp q⟩), fun q => ft 0 (Or.inl ⟨rfl, tf _ (fun x => q (b1.mpr x))⟩)⟩
  · have e : k0 - 2 = 0 := by omega
    rw [e] at ft
    exact ⟨fun q => ft 1 (Or.inr ⟨rfl, b0.mp q⟩), fun q => ft 0 (Or.inl ⟨rfl, tf _ (fun x => q (b0.mpr x))⟩)⟩
end Y8

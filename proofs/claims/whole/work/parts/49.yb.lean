section YB
variable {G : zG} {d : Nat} {M : zM} {Q : zV → zM → Prop}
/-- a question as it is said -/
noncomputable def zqf (M : zM) (eq q : Int) : List Int := znF eq (fun k => M 247 (240 * q + 2 * k)) (fun k => M 247 (240 * q + 2 * k + 1)) (M 246 q).toNat (M 246 q - 1)
theorem zlm_F {eq : Int} {st v : Int → Int} {len : Int} (h : zwf st v len) : ∀ k : Nat, (k : Int) ≤ len → zsuN (fun m => ((znF eq st v k ((zsp st v k).2 m)).length : Int) + 1) (zsp st v k).1.toNat ≤ 3 * k
  | 0, _ => by show (0 : Int) ≤ 0; decide
  | k + 1, hk => by
    have ih := zlm_F (eq := eq) h k (by omega)
    have q := h.1 k (by omega)
    have inn := zsp_in (st := st) (v := v) k (fun i hi => (h.1 i (by omega)).2.1)
    have b := q.2.1
    unfold zbs at b
    obtain ⟨B, hB⟩ := Int.eq_ofNat_of_zero_le b.2
    obtain ⟨P, hP⟩ := Int.eq_ofNat_of_zero_le b.1
    have e1 : (zsp st v (k + 1)).1 = (B : Int) + 1 := by show (zsp st v k).1 - zpn (st k) (v k) + 1 = _; omega
    have e2 : (zsp st v (k + 1)).2 = zup (zsp st v k).2 B k := by show zup (zsp st v k).2 ((zsp st v k).1 - zpn (st k) (v k)) k = _; rw [hB]
    rw [e1, e2, show ((B : Int) + 1).toNat = B + 1 by omega]
    show zsuN _ B + (((znF eq st v (k + 1) (zup (zsp st v k).2 B k B)).length : Int) + 1) ≤ _
    rw [zup_at, znF_at]
    have l := znsn_len (eq := eq) (s := st k) (v := v k) (c := fun j => znF eq st v k (zcd st v k j)) (f := fun j => zlv st v k (zcd st v k j)) (n := k) q.1 (fun j j0 j1 => by have w := zwf_cd h (k := k) (by omega) ⟨j0, j1⟩; exact znF_k h k (by omega) _ w.1 w.2)
    have s1 : zsuN (fun m => ((znF eq st v (k + 1) (zup (zsp st v k).2 B k m)).length : Int) + 1) B = zsuN (fun m => ((znF eq st v k ((zsp st v k).2 m)).length : Int) + 1) B := zsuN_c B (fun j j0 j1 => by
      rw [zup_ne (by omega), znF_ne (by have := inn.2 j j0 (by omega); omega)])
    have s2 : zsuN (fun j => ((znF eq st v k (zcd st v k j)).length : Int) + 1) P = zsuN (fun j => ((znF eq st v k ((zsp st v k).2 (B + j))).length : Int) + 1) P := zsuN_c P (fun j j0 j1 => by unfold zcd zbs; rw [hB])
    rw [show (zsp st v k).1.toNat = B + P by omega, zsuN_add] at ih
    rw [hP, Int.toNat_natCast, s2] at l
    rw [s1]
    omega
theorem zqf_len {eq q : Int} (hQ : zQq M q) : ((zqf M eq q).length : Int) ≤ 360 := by
  have hw := zQC_wf hQ.2.2.1
  have b := hQ.2.1
  have l := zlm_F (eq := eq) hw (M 246 q).toNat (by omega)
  have one := hw.2
  rw [one] at l
  have k1 : (M 246 q).toNat = ((M 246 q).toNat - 1) + 1 := by omega
  have e2 : (zsp (fun k => M 247 (240 * q + 2 * k)) (fun k => M 247 (240 * q + 2 * k + 1)) (M 246 q).toNat).2 0 = M 246 q - 1 := by
    have a1 : (zsp (fun k => M 247 (240 * q + 2 * k)) (fun k => M 247 (240 * q + 2 * k + 1)) ((M 246 q).toNat - 1 + 1)).1 = zbs (fun k => M 247 (240 * q + 2 * k)) (fun k => M 247 (240 * q + 2 * k + 1)) ((M 246 q).toNat - 1) + 1 := rfl
    have a2 : (zsp (fun k => M 247 (240 * q + 2 * k)) (fun k => M 247 (240 * q + 2 * k + 1)) ((M 246 q).toNat - 1 + 1)).2 = zup (zsp (fun k => M 247 (240 * q + 2 * k)) (fun k => M 247 (240 * q + 2 * k + 1)) ((M 246 q).toNat - 1)).2 (zbs (fun k => M 247 (240 * q + 2 * k)) (fun k => M 247 (240 * q + 2 * k + 1)) ((M 246 q).toNat - 1)) (((M 246 q).toNat - 1 : Nat) : Int) := rfl
    rw [← k1, one] at a1
    rw [← k1] at a2
    rw [a2, show zbs (fun k => M 247 (240 * q + 2 * k)) (fun k => M 247 (240 * q + 2 * k + 1)) ((M 246 q).toNat - 1) = 0 by omega, zup_at]
    omega
  have l' : 0 + (((znF eq (fun k => M 247 (240 * q + 2 * k)) (fun k => M 247 (240 * q + 2 * k + 1)) (M 246 q).toNat ((zsp (fun k => M 247 (240 * q + 2 * k)) (fun k => M 247 (240 * q + 2 * k + 1)) (M 246 q).toNat).2 0)).length : Int) + 1) ≤ 3 * ((M 246 q).toNat : Int) := l
  rw [e2] at l'
  unfold zqf
  omega
theorem znF_e {eq : Int} {st v st' v' : Int → Int} : ∀ n : Nat, (∀ k : Nat, k < n → st' k = st k ∧ v' k = v k) → znF eq st' v' n = znF eq st v n
  | 0, _ => rfl
  | n + 1, h => by
    have i := znF_e (eq := eq) n (fun k hk => h k (by omega))
    have c := (zcd_e (st := st) (v := v) (st' := st') (v' := v') (k := n) h).2
    have s := h n (by omega)
    funext x
    show (if x = n then znsn eq (st' n) (v' n) (fun j => znF eq st' v' n (zcd st' v' n j)) else znF eq st' v' n x) = (if x = n then znsn eq (st n) (v n) (fun j => znF eq st v n (zcd st v n j)) else znF eq st v n x)
    rw [i, s.1, s.2, funext (f := fun j => znF eq st v n (zcd st' v' n j)) (g := fun j => znF eq st v n (zcd st v n j)) (fun j => by rw [c])]
theorem zqf_e {M' : zM} {eq q : Int} (hl : M 246 q ≤ 120) (h46 : M' 246 q = M 246 q) (h47 : ∀ i, 0 ≤ i → i < 240 → M' 247 (240 * q + i) = M 247 (240 * q + i)) : zqf M' eq q = zqf M eq q := by
  unfold zqf
  rw [h46, znF_e (st := fun k => M 247 (240 * q + 2 * k)) (v := fun k => M 247 (240 * q + 2 * k + 1)) (M 246 q).toNat (fun k hk => ⟨h47 _ (by omega) (by omega), by have := h47 (2 * k + 1) (by omega) (by omega); rw [show 240 * q + 2 * (k : Int) + 1 = 240 * q + (2 * k + 1) by omega]; exact this⟩)]
theorem zqf_c {M' : zM} {eq q : Int} (h : zsm [(246, 0, 12), (247, 0, 2880)] M M') (hq : 0 ≤ q ∧ q < 12) (hQ : zQq M q) : zqf M' eq q = zqf M eq q :=
  zqf_e (by have := hQ.2.1; omega) (h _ _ (zhit_at 0 rfl ⟨hq.1, hq.2⟩)) (fun i i0 i1 => h _ _ (zhit_at 1 rfl ⟨by omega, by omega⟩))
theorem s_qsay (hG : zP G) {q eq : Int} (hq : 0 ≤ q ∧ q < 12) (hQ : zQq M q) (he : 0 ≤ eq ∧ eq ≤ 255) (h : ∀ N, zfr zmF M N → zat (N 251) 0 (zqf M eq q) → Q (0, ((zqf M eq q).length : Int)) N) : Y G (d + 4) mX12_say 0 [(2, 234), (0, q), (0, eq), (9, 0), (9, 0), (9, 0)] [] M Q :=
  s_msay hG hq he rfl ⟨hQ.2.1.2.1, hQ.2.1.2.2.1⟩ (fun _ => rfl) (fun _ => rfl) (zQC_wf hQ.2.2.1) hQ.2.2.2.1 h
abbrev zaF : List (Int × Int × Int) := [(251, 0, 1000000), (252, 0, 1000000), (253, 0, 1000000), (254, 0, 1000000), (255, 0, 1000000), (256, 0, 1000000), (257, 0, 1000000), (234, 36, 37), (234, 40, 41)]
theorem s_al18 (hG : zP G) {x1 x2 x3 : Int} {l : List Int} (hl : l.length ≤ 600) (ha : zat (M 251) 0 l) (h : ∀ N, zfr [(257, 0, 1000000)] M N → zat (N 257) 0 l → Y G (d + 1) mX12_isAlike 18 [(2, 234), (0, x1), (0, x2), (0, x3), (0, (l.length : Int)), (0, (l.length : Int))] [] N Q) : ∀ (k i : Nat) (N : zM), i + k = l.length → zfr [(257, 0, 1000000)] M N → (∀ j, 0 ≤ j → j < (i : Int) → N 257 j = M 251 j) → Y G (d + 1) mX12_isAlike 18 [(2, 234), (0, x1), (0, x2), (0, x3), (0, (l.length : Int)), (0, (i : Int))] [] N Q
  | 0, i, N, hi, hN, hA => by
    have : i = l.length := by omega
    subst this
    exact h N hN (zat_c l 0 (fun j j0 j1 => hA j j0 (by omega)) ha)
  | k + 1, i, N, hi, hN, hA => by
    have e : N 251 i = M 251 i := hN 251 i (by unfold zhw zhit; simp; omega)
    refine bX12_isAlike_18 hG ?_
    rw [e]
    refine ⟨fun c => absurd c (by omega), fun _ => ⟨by omega, by omega, by omega, ?_⟩⟩
    refine s_al18 hG hl ha h k (i + 1) _ (by omega) (zfr_set hN (zhit_at 0 rfl ⟨by omega, by omega⟩)) (fun j j0 j1 => ?_)
    by_cases c : j = i
    · subst c; exact zset_same
    · rw [zset_ne (fun z => c z.2)]; exact hA j j0 (by omega)
theorem s_al61 (hG : zP G) {x1 x2 x3 n : Int} : ∀ (l m : List Int) (i : Int), l.length = m.length → 0 ≤ i → i + l.length = n → n ≤ 600 → zat (M 251) i l → zat (M 257) i m → (l = m → Q (0, 1) M) → (l ≠ m → Q (0, 0) M) → Y G (d + 1) mX12_isAlike 61 [(2, 234), (0, x1), (0, x2), (0, x3), (0, n), (0, i)] [] M Q
  | [], [], i, _, i0, e, n6, _, _, h1, _ => bX12_isAlike_61 hG ⟨fun _ => h1 rfl, fun c => absurd c (by have e' : i + 0 = n := e; omega)⟩
  | [], _ :: _, _, h, _, _, _, _, _, _, _ => absurd h (by rw [List.length_cons]; exact (Nat.succ_ne_zero _).symm)
  | _ :: _, [], _, h, _, _, _, _, _, _, _ => absurd h (by rw [List.length_cons]; exact Nat.succ_ne_zero _)
  | a :: l, b :: m, i, hl, i0, e, n6, ha, hb, h1, h0 => by
    rw [List.length_cons] at e
    rw [List.length_cons, List.length_cons] at hl
    refine bX12_isAlike_61 hG ?_
    rw [ha.1, hb.1]
    refine ⟨fun c => absurd c (by omega), fun _ => ⟨by omega, by omega, fun c => ⟨by omega, ?_⟩, fun c => h0 (fun q => c (by injection q))⟩⟩
    exact s_al61 hG l m (i + 1) (by omega) (by omega) (by omega) n6 ha.2 hb.2 (fun q => h1 (by rw [c, q])) (fun q => h0 (fun x => q (by injection x)))
theorem s_misAlike (hG : zP G) {x y eq : Int} (hx : 0 ≤ x ∧ x < 12) (hy : 0 ≤ y ∧ y < 12) (hX : zQq M x) (hY : zQq M y) (hYc : ∀ N, zfr zaF M N → zQq N y) (he : 0 ≤ eq ∧ eq ≤ 255) (h1 : zqf M eq x = zqf M eq y → ∀ N, zfr zaF M N → Q (0, 1) N) (h0 : zqf M eq x ≠ zqf M eq y → ∀ N, zfr zaF M N → Q (0, 0) N) : Y G (d + 5) mX12_isAlike 0 [(2, 234), (0, x), (0, y), (0, eq), (9, 0), (9, 0)] [] M Q := by
  refine bX12_isAlike_0 hG ⟨fun c => ?_, fun c => h1 (by rw [c]) M zfr_rfl⟩
  have lx := zqf_len (eq := eq) hX
  have ly := zqf_len (eq := eq) hY
  refine s_qsay hG hx hX he (fun N hN hz => bX12_isAlike_13 hG ?_)
  refine s_al18 hG (by omega) hz (fun N2 hN2 hz2 => ?_) (zqf M eq x).length 0 N (by omega) zfr_rfl (fun j j0 j1 => absurd j1 (by omega))
  have hM2 : zfr zaF M N2 := zfr_trans (zfr_sub hN (by decide)) (zfr_sub hN2 (by decide))
  have eY : zqf N2 eq y = zqf M eq y := zqf_c (zfr_sm hM2 (by decide)) hy hY
  refine bX12_isAlike_18 hG ⟨fun _ => ?_, fun z => absurd z (by omega)⟩
  refine s_qsay hG hy (hYc N2 hM2) he (fun N3 hN3 hz3 => ?_)
  have hM3 : zfr zaF M N3 := zfr_trans hM2 (zfr_sub hN3 (by decide))
  rw [eY] at hz3 ⊢
  have z257 : zat (N3 257) 0 (zqf M eq x) := zat_c _ _ (fun i i0 i1 => hN3 257 i (by unfold zhw zhit; simp; omega)) hz2
  refine bX12_isAlike_51 hG ⟨fun e => ?_, fun e => h0 (fun q => e (by rw [q])) N3 hM3⟩
  exact s_al61 hG (zqf M eq y) (zqf M eq x) 0 (by omega) (by decide) (by omega) (by omega) hz3 z257 (fun q => h1 q.symm N3 hM3) (fun q => h0 (fun x => q x.symm) N3 hM3)
end YB

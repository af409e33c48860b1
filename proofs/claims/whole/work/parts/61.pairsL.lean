section PL
variable {G : zG} {d : Nat} {M : zM} {Q : zV → zM → Prop}
def zstL : List (Int × Int × Int) := [(11, 0, 1000000), (27, 0, 1000000), (29, 0, 1000000), (30, 0, 1000000), (19, 13, 14)] ++ (List.range 108).map (fun k : Nat => (49 + (k : Int), 0, 1000000))
/-- what taking stock touches -/
def zst' (M N : zM) : Prop := ∀ a i, N a i = M a i ∨ a = 11 ∨ a = 27 ∨ a = 29 ∨ a = 30 ∨ (49 ≤ a ∧ a ≤ 156) ∨ (a = 19 ∧ i = 13)
theorem zst_fr {N : zM} (h : zst' M N) : zfr zstL M N := fun a i hn => by
  have nh : ¬ zhit zstL a i := fun z => hn (Or.inr (Or.inr z))
  have lo : 0 ≤ i ∧ i < 1000000 := ⟨Int.not_lt.mp (fun z => hn (Or.inl z)), Int.not_le.mp (fun z => hn (Or.inr (Or.inl z)))⟩
  rcases h a i with q | q | q | q | q | q | q
  · exact q
  · exact absurd ⟨_, List.mem_append_left _ (List.mem_cons_self ..), q, lo.1, lo.2⟩ nh
  · exact absurd ⟨(27, 0, 1000000), List.mem_append_left _ (by decide), q, lo.1, lo.2⟩ nh
  · exact absurd ⟨(29, 0, 1000000), List.mem_append_left _ (by decide), q, lo.1, lo.2⟩ nh
  · exact absurd ⟨(30, 0, 1000000), List.mem_append_left _ (by decide), q, lo.1, lo.2⟩ nh
  · exact absurd ⟨(49 + ((a - 49).toNat : Int), 0, 1000000), List.mem_append_right _ (List.mem_map.mpr ⟨(a - 49).toNat, List.mem_range.mpr (by omega), rfl⟩), by show a = 49 + ((a - 49).toNat : Int); omega, lo.1, lo.2⟩ nh
  · exact absurd ⟨(19, 13, 14), List.mem_append_left _ (by decide), q.1, by show (13 : Int) ≤ i; omega, by show i < 14; omega⟩ nh

theorem J_stock {M M2 : zM} (hJ : zJ M) (hf : zfr zstL M M2) (jS : zJS M2 M2) : zJn M M2 := by
  exact ⟨⟨zsA_c (zfr_sm hf (by decide)) hJ.1, zsI_c (zfr_sm hf (by decide)) hJ.2.1, zJ1_c (zfr_sm hf (by decide)) hJ.2.2.1, zJ2_c (zfr_sm hf (by decide)) hJ.1.2.1.1.2 hJ.2.2.2.1, zJ3_c (zfr_sm hf (by decide)) hJ.2.2.2.2.1, zJ4_c (zfr_sm hf (by decide)) hJ.1.2.1.1.2 hJ.2.2.2.2.2.1, zJ10_c (zfr_sm hf (by decide)) hJ.2.2.2.2.2.2.1, zJ5_c (zfr_sm hf (by decide)) hJ.2.2.2.2.2.2.2.1, zJ6_c (zfr_sm hf (by decide)) hJ.2.2.2.2.2.2.2.2.1, zJ7_c (zfr_sm hf (by decide)) hJ.2.2.2.2.2.2.2.2.2.1, zJ8_c (zfr_sm hf (by decide)) hJ.1.1.2 hJ.2.2.2.2.2.2.2.2.2.2.1, zJ9_c (zfr_sm hf (by decide)) hJ.2.2.2.2.2.2.2.2.2.2.2.1, zJ11_c (zfr_sm hf (by decide)) hJ.1.2.2.1.1.2 hJ.2.2.2.2.2.2.2.2.2.2.2.2.1, zJ12_c (zfr_sm hf (by decide)) hJ.2.2.2.2.2.2.2.2.2.2.2.2.2.1, zJ13_c (zfr_sm hf (by decide)) (zA5 hJ.1) hJ.2.2.2.2.2.2.2.2.2.2.2.2.2.2.1, zJ14_c (zfr_sm hf (by decide)) (zA7 hJ.1) hJ.2.2.2.2.2.2.2.2.2.2.2.2.2.2.2.1, zJ15_c (zfr_sm hf (by decide)) (zA8 hJ.1) hJ.2.2.2.2.2.2.2.2.2.2.2.2.2.2.2.2.1, zJ18_c (zfr_sm hf (by decide)) ⟨zA5 hJ.2.1, zA7 hJ.2.1, zA8 hJ.2.1⟩ hJ.2.2.2.2.2.2.2.2.2.2.2.2.2.2.2.2.2.1, zJ19_c (zfr_sm hf (by decide)) ⟨hJ.2.1.2.1.1.2, hJ.2.1.2.2.1.1.2⟩ hJ.2.2.2.2.2.2.2.2.2.2.2.2.2.2.2.2.2.2.1, zJ16_c (zfr_sm hf (by decide)) hJ.1.1.2 hJ.2.2.2.2.2.2.2.2.2.2.2.2.2.2.2.2.2.2.2.1, zJ17_c (zfr_sm hf (by decide)) hJ.2.1.1.2 hJ.2.2.2.2.2.2.2.2.2.2.2.2.2.2.2.2.2.2.2.2.1, zJF_c (zfr_sm hf (by decide)) hJ.1 hJ.2.2.2.2.2.2.2.2.2.2.2.2.2.2.2.2.2.2.2.1 hJ.2.2.2.2.2.2.2.2.2.2.2.2.2.2.2.2.2.2.2.2.2.1, jS, (by rw [hf 2 10 (by unfold zhw zhit; decide)]; exact hJ.2.2.2.2.2.2.2.2.2.2.2.2.2.2.2.2.2.2.2.2.2.2.2.1), zJC_c (zfr_sm hf (by decide)) hJ.2.2.2.2.2.2.2.2.2.2.2.2.2.2.2.2.2.2.2.2.2.2.2.2⟩, by rw [hf 2 10 (by unfold zhw zhit; decide)]; omega⟩

theorem J_scm {M M2 : zM} (hJ : zJ M) (hf : zfr zaF M M2) : zJn M M2 := by
  exact ⟨⟨zsA_c (zfr_sm hf (by decide)) hJ.1, zsI_c (zfr_sm hf (by decide)) hJ.2.1, zJ1_c (zfr_sm hf (by decide)) hJ.2.2.1, zJ2_c (zfr_sm hf (by decide)) hJ.1.2.1.1.2 hJ.2.2.2.1, zJ3_c (zfr_sm hf (by decide)) hJ.2.2.2.2.1, zJ4_c (zfr_sm hf (by decide)) hJ.1.2.1.1.2 hJ.2.2.2.2.2.1, zJ10_c (zfr_sm hf (by decide)) hJ.2.2.2.2.2.2.1, zJ5_c (zfr_sm hf (by decide)) hJ.2.2.2.2.2.2.2.1, zJ6_c (zfr_sm hf (by decide)) hJ.2.2.2.2.2.2.2.2.1, zJ7_c (zfr_sm hf (by decide)) hJ.2.2.2.2.2.2.2.2.2.1, zJ8_c (zfr_sm hf (by decide)) hJ.1.1.2 hJ.2.2.2.2.2.2.2.2.2.2.1, zJ9_c (zfr_sm hf (by decide)) hJ.2.2.2.2.2.2.2.2.2.2.2.1, zJ11_c (zfr_sm hf (by decide)) hJ.1.2.2.1.1.2 hJ.2.2.2.2.2.2.2.2.2.2.2.2.1, zJ12_c (zfr_sm hf (by decide)) hJ.2.2.2.2.2.2.2.2.2.2.2.2.2.1, zJ13_c (zfr_sm hf (by decide)) (zA5 hJ.1) hJ.2.2.2.2.2.2.2.2.2.2.2.2.2.2.1, zJ14_c (zfr_sm hf (by decide)) (zA7 hJ.1) hJ.2.2.2.2.2.2.2.2.2.2.2.2.2.2.2.1, zJ15_c (zfr_sm hf (by decide)) (zA8 hJ.1) hJ.2.2.2.2.2.2.2.2.2.2.2.2.2.2.2.2.1, zJ18_c (zfr_sm hf (by decide)) ⟨zA5 hJ.2.1, zA7 hJ.2.1, zA8 hJ.2.1⟩ hJ.2.2.2.2.2.2.2.2.2.2.2.2.2.2.2.2.2.1, zJ19_c (zfr_sm hf (by decide)) ⟨hJ.2.1.2.1.1.2, hJ.2.1.2.2.1.1.2⟩ hJ.2.2.2.2.2.2.2.2.2.2.2.2.2.2.2.2.2.2.1, zJ16_c (zfr_sm hf (by decide)) hJ.1.1.2 hJ.2.2.2.2.2.2.2.2.2.2.2.2.2.2.2.2.2.2.2.1, zJ17_c (zfr_sm hf (by decide)) hJ.2.1.1.2 hJ.2.2.2.2.2.2.2.2.2.2.2.2.2.2.2.2.2.2.2.2.1, zJF_c (zfr_sm hf (by decide)) hJ.1 hJ.2.2.2.2.2.2.2.2.2.2.2.2.2.2.2.2.2.2.2.1 hJ.2.2.2.2.2.2.2.2.2.2.2.2.2.2.2.2.2.2.2.2.2.1, zJS_c (zfr_sm hf (by decide)) hJ.1.1.2 hJ.2.2.2.2.2.2.2.2.2.2.2.2.2.2.2.2.2.2.2.1 hJ.2.2.2.2.2.2.2.2.2.2.2.2.2.2.2.2.2.2.2.2.2.2.1, (by rw [hf 2 10 (by unfold zhw zhit; decide)]; exact hJ.2.2.2.2.2.2.2.2.2.2.2.2.2.2.2.2.2.2.2.2.2.2.2.1), zJC_c (zfr_sm hf (by decide)) hJ.2.2.2.2.2.2.2.2.2.2.2.2.2.2.2.2.2.2.2.2.2.2.2.2⟩, by rw [hf 2 10 (by unfold zhw zhit; decide)]; omega⟩


theorem s_stock (hG : zP G) {P : zM} (hs : zcq P M) (hJ : zJ P) (h : ∀ N, zst' M N → N 19 13 = P 235 0 → zJS N P → (∀ q, 0 ≤ q → q < P 235 0 → N 27 q = zaM P (P 3) q) → Q (9, 0) N) : Y G (d + 210) mX11_takeStock 0 [(2, 1)] [] M Q := by
  have n12 : 0 ≤ P 235 0 ∧ P 235 0 ≤ 12 := hJ.1.1
  have j8 := hJ.2.2.2.2.2.2.2.2.2.2.1
  have j9 := hJ.2.2.2.2.2.2.2.2.2.2.2.1
  have j1 := hJ.2.2.1
  have jS := hJ.2.2.2.2.2.2.2.2.2.2.2.2.2.2.2.2.2.2.2.2.2.2.1
  have j16 := hJ.2.2.2.2.2.2.2.2.2.2.2.2.2.2.2.2.2.2.2.1
  have he : 0 ≤ P 235 4 ∧ P 235 4 ≤ 255 := hJ.1.2.2.2.2.1
  have ht := zth_J hJ
  have rs : ∀ a i, a ≤ 233 → M a i = P a i := fun a i ha => by rw [hs a ha]
  have hSM : zJS M P := by
    refine ⟨by rw [rs 19 13 (by decide)]; exact jS.1, fun i i0 i1 => ?_⟩
    rw [rs 19 13 (by decide)] at i1
    have n1 := jS.1
    obtain ⟨a1, a2⟩ := jS.2 i i0 i1
    refine ⟨⟨by rw [rs _ _ (by omega)]; exact a1.1, ?_⟩, ?_⟩
    · rw [rs 29 i (by decide), rs _ _ (by omega)]
      exact zqE_c 40 _ _ _ (fun y y0 y1 => ⟨rs _ _ (by omega), rs _ _ (by omega), rs _ _ (by omega), rs _ _ (by omega)⟩) (fun y y0 y1 => ⟨rs _ _ (by omega), rs _ _ (by omega)⟩) a1.2
    · unfold zlw
      rw [rs 30 i (by decide)]
      exact a2
  refine bX11_takeStock_0 hG (s_sayAll (d := d + 8) hG hs n12 he (by rw [rs 19 8 (by decide)]; exact j8.1) (by rw [rs 19 9 (by decide)]; exact j9) j16 hSM (fun N hR e13 hSN => bX11_takeStock_7 hG ?_))
  have nr : ∀ a x, ¬ (a = 29 ∨ a = 30 ∨ (49 ≤ a ∧ a ≤ 156) ∨ (a = 19 ∧ x = 13)) → N a x = M a x := fun a x c => (hR a x).resolve_right c
  obtain ⟨P', pc, pm⟩ : ∃ P' : zM, (∀ a, a ≤ 233 → P' a = N a) ∧ (∀ a, 233 < a → P' a = P a) := ⟨fun a => if a ≤ 233 then N a else P a, fun a ha => if_pos ha, fun a ha => if_neg (by omega)⟩
  have hs' : zcq P' N := fun a ha => (pc a ha).symm
  have pe : ∀ a x, (20 ≤ a ∧ a ≤ 28 ∨ 157 ≤ a) → P' a x = P a x := fun a x ha => by
    by_cases c : a ≤ 233
    · rw [pc a c, nr a x (by omega), hs a c]
    · rw [pm a (by omega)]
  have p235 : P' 235 = P 235 := pm 235 (by decide)
  have rowN : ∀ a, a ≤ 28 → a ≠ 19 → N a = P a := fun a ha h19 => by
    funext x
    rw [nr a x (by omega), rs a x (by omega)]
  have hE : zCE N (P 235) := by
    have c := zCE_of (hJ.2.2.2.1) (hJ.2.2.2.2.2.1) (hJ.2.2.2.2.2.2.1)
    unfold zCE at *
    rw [rowN 2 (by decide) (by decide), rowN 4 (by decide) (by decide), rowN 10 (by decide) (by decide), rowN 8 (by decide) (by decide), rowN 9 (by decide) (by decide)]
    exact c
  have hQ' : ∀ q, 0 ≤ q → q < P' 235 0 → zQq P' q := fun q q0 q1 => by
    rw [p235] at q1
    have jq := j16 q q0 q1
    obtain ⟨⟨t, t0, t1, t2, t3⟩, -⟩ := id jq
    exact zQq_e (M := P) ⟨q0, by omega⟩ (pe _ _ (by omega)) (pe _ _ (by omega)) (pe _ _ (by omega)) (pe _ _ (by omega)) (fun x x0 x1 => pe _ _ (by omega)) (pe _ _ (by omega)) (fun x y hx _ y0 y1 => pe _ _ (by omega)) (fun t' a b => by rw [p235]; exact a) jq
  refine s_workAll (d := d + 204) (P := P') hG hs' (by rw [p235]; exact n12) (by rw [p235, nr 19 8 (by omega), rs 19 8 (by decide)]; exact j8.1) hQ' (by rw [p235]; exact hE) (by rw [p235]; exact hJ.1) (fun t t0 t1 => by rw [rowN 3 (by decide) (by decide), j1 t t0 t1]; exact ht t t0 t1) (fun R W hW => bX11_takeStock_18 hG (h _ (fun a x => ?_) ?_ ?_ (fun q q0 q1 => ?_)))
  · by_cases c1 : a = 11
    · exact Or.inr (Or.inl c1)
    · by_cases c2 : a = 27
      · exact Or.inr (Or.inr (Or.inl c2))
      · rw [zrow_off c1, zrow_off c2]
        rcases hR a x with z | z | z | z | z
        · exact Or.inl z
        · exact Or.inr (Or.inr (Or.inr (Or.inl z)))
        · exact Or.inr (Or.inr (Or.inr (Or.inr (Or.inl z))))
        · exact Or.inr (Or.inr (Or.inr (Or.inr (Or.inr (Or.inl z)))))
        · exact Or.inr (Or.inr (Or.inr (Or.inr (Or.inr (Or.inr z)))))
  · rw [zrow_off (by decide), zrow_off (by decide)]; exact e13
  · have ro : ∀ a x, a ≠ 11 → a ≠ 27 → zrow (zrow N 27 W) 11 R a x = N a x := fun a x c1 c2 => by rw [zrow_off c1, zrow_off c2]
    refine ⟨by rw [ro 19 13 (by decide) (by decide)]; exact hSN.1, fun i i0 i1 => ?_⟩
    rw [ro 19 13 (by decide) (by decide)] at i1
    obtain ⟨a1, a2⟩ := hSN.2 i i0 i1
    refine ⟨⟨by rw [ro _ _ (by omega) (by omega)]; exact a1.1, ?_⟩, ?_⟩
    · rw [ro 29 i (by decide) (by decide), ro _ _ (by omega) (by omega)]
      exact zqE_c 40 _ _ _ (fun y y0 y1 => ⟨ro _ _ (by omega) (by omega), ro _ _ (by omega) (by omega), ro _ _ (by omega) (by omega), ro _ _ (by omega) (by omega)⟩) (fun y y0 y1 => ⟨ro _ _ (by omega) (by omega), ro _ _ (by omega) (by omega)⟩) a1.2
    · unfold zlw
      rw [ro 30 i (by decide) (by decide)]
      exact a2
  · rw [zrow_off (by decide), zrow_row]
    have := hW q q0 (by rw [p235]; exact q1)
    rw [this, rowN 3 (by decide) (by decide)]
    unfold zaM
    rw [p235, pm 246 (by decide), pm 247 (by decide)]
/-- stock is taken in the class alone -/
theorem s_stockJ (hG : zP G) (hJ : zJ M) (h : ∀ N, zJ N → zfr zstL M N → N 19 13 = M 235 0 → (∀ q, 0 ≤ q → q < M 235 0 → N 27 q = zaM M (M 3) q) → Q (9, 0) N) : Y G (d + 210) mX11_takeStock 0 [(2, 1)] [] M Q := by
  have n12 : 0 ≤ M 235 0 ∧ M 235 0 ≤ 12 := hJ.1.1
  refine s_stock hG zcq_rf hJ (fun N hst e13 hSN hW => ?_)
  have hf := zst_fr hst
  have er : ∀ a i, 157 ≤ a → N a i = M a i := fun a i ha => by
    rcases hst a i with z | z | z | z | z | z | z
    · exact z
    all_goals omega
  have fq : ∀ q, 0 ≤ q → q < M 235 0 → ∀ eq, zqf N eq q = zqf M eq q := fun q q0 q1 eq => zqf_e (by have := ((hJ.2.2.2.2.2.2.2.2.2.2.2.2.2.2.2.2.2.2.2.1) q q0 q1).2.1; omega) (er _ _ (by decide)) (fun x _ _ => er _ _ (by decide))
  have jS : zJS N N := by
    have s1 := hSN.1
    refine ⟨by rw [er 235 0 (by decide)]; exact s1, fun i i0 i1 => ?_⟩
    obtain ⟨a1, a2⟩ := hSN.2 i i0 i1
    refine ⟨⟨a1.1, by rw [er 235 4 (by decide), fq i i0 (by omega)]; exact a1.2⟩, ?_⟩
    unfold zlw at *
    rw [er 235 4 (by decide), fq i i0 (by omega), fq _ a2.1.1 (by omega)]
    exact ⟨a2.1, a2.2.1, fun s s0 s1 => by rw [fq s s0 (by omega)]; exact a2.2.2 s s0 s1⟩
  exact h N (J_stock hJ hf jS).1 hf e13 hW
/-- alike in the model -/
theorem s_malike (hG : zP G) (hJ : zJ M) {x y eq : Int} (hx : 0 ≤ x ∧ x < M 235 0) (hy : 0 ≤ y ∧ y < M 235 0) (he : 0 ≤ eq ∧ eq ≤ 255) (h : ∀ N, zfr zaF M N → zJ N → Q (0, if zqf M eq x = zqf M eq y then 1 else 0) N) : Y G (d + 5) mX12_isAlike 0 [(2, 234), (0, x), (0, y), (0, eq), (9, 0), (9, 0)] [] M Q := by
  have n12 : 0 ≤ M 235 0 ∧ M 235 0 ≤ 12 := hJ.1.1
  refine s_misAlike hG ⟨hx.1, by omega⟩ ⟨hy.1, by omega⟩ ((hJ.2.2.2.2.2.2.2.2.2.2.2.2.2.2.2.2.2.2.2.1) x hx.1 hx.2) ((hJ.2.2.2.2.2.2.2.2.2.2.2.2.2.2.2.2.2.2.2.1) y hy.1 hy.2) (fun N hN => ?_) he (fun e N hN => ?_) (fun e N hN => ?_)
  · have JN := (J_scm hJ hN).1
    exact JN.2.2.2.2.2.2.2.2.2.2.2.2.2.2.2.2.2.2.2.1 y hy.1 (by rw [hN 235 0 (by unfold zhw zhit; decide)]; exact hy.2)
  · have := h N hN (J_scm hJ hN).1
    rw [if_pos e] at this; exact this
  · have := h N hN (J_scm hJ hN).1
    rw [if_neg e] at this; exact this
theorem zJn_tr {M1 M2 : zM} (h1 : M1 2 10 = M 2 10) (h2 : zJ M2) (h3 : M2 2 10 = M1 2 10) : zJn M M2 := ⟨h2, by omega⟩
theorem pr_alike (hG : zP G) (hJ : zJ M) {x1 x2 : Int} : zPr G d mX11_alike mX12_alike [(2, 1), (0, x1), (0, x2)] [(2, 234), (0, x1), (0, x2)] M := by
  have o := (hJ.2.2.2.2.2.2.2.2.2.2.1).1
  have n12 : 0 ≤ M 235 0 ∧ M 235 0 ≤ 12 := hJ.1.1
  have no : ¬ ((0 ≤ x1 ∧ x1 < M 235 0) ∧ 0 ≤ x2 ∧ x2 < M 235 0) → Y G (d + 400) mX12_alike 0 [(2, 234), (0, x1), (0, x2)] [] M (fun r2 M2 => r2 = (0, -1) ∧ zJn M M2) := fun q =>
    bX12_alike_0 hG ⟨by omega, fun a => ⟨by omega, fun b => absurd ⟨a, b⟩ q, fun _ => ⟨rfl, zJ_rf hJ⟩⟩, fun _ => ⟨rfl, zJ_rf hJ⟩⟩
  refine bX11_alike_0 hG ?_
  rw [o]
  refine ⟨by omega, fun a => ⟨by omega, fun b => ?_, fun b => no (fun q => b q.2)⟩, fun a => no (fun q => a q.1)⟩
  refine s_stockJ (d := d + 189) hG hJ (fun N JN hf e13 hW => bX11_alike_22 hG ?_)
  have e0 : N 235 0 = M 235 0 := (zfr_sm (S := [(235, 0, 156)]) hf (by decide)) 235 0 (zhit_at 0 rfl ⟨by decide, by decide⟩)
  have v10 : N 2 10 = M 2 10 := (zfr_sm (S := [(2, 10, 11)]) hf (by decide)) 2 10 (zhit_at 0 rfl ⟨by decide, by decide⟩)
  have jS := JN.2.2.2.2.2.2.2.2.2.2.2.2.2.2.2.2.2.2.2.2.2.2.1
  have l1 := (jS.2 x1 a.1 (by rw [e13]; exact a.2)).2
  have l2 := (jS.2 x2 b.1 (by rw [e13]; exact b.2)).2
  have al := zlw_al l1 l2 a.1 b.1
  have mo : ∀ r : Int, (r = if zqf N (N 235 4) x1 = zqf N (N 235 4) x2 then 1 else 0) → Y G (d + 400) mX12_alike 0 [(2, 234), (0, x1), (0, x2)] [] N (fun r2 M2 => r2 = (0, r) ∧ zJn M M2) := fun r hr => by
    refine bX12_alike_0 hG ?_
    rw [e0]
    refine ⟨by omega, fun _ => ⟨by omega, fun _ => ?_, fun q => absurd b q⟩, fun q => absurd a q⟩
    refine s_malike (d := d + 394) hG JN (by rw [e0]; exact a) (by rw [e0]; exact b) JN.1.2.2.2.2.1 (fun N2 hN2 J2 => ?_)
    have v2 : N2 2 10 = N 2 10 := hN2 2 10 (by unfold zhw zhit; decide)
    by_cases c : zqf N (N 235 4) x1 = zqf N (N 235 4) x2
    · rw [if_pos c] at hr ⊢
      exact bX12_alike_28 hG ⟨fun z => absurd z (by decide), fun _ => ⟨by rw [hr], zJn_tr v10 J2 v2⟩⟩
    · rw [if_neg c] at hr ⊢
      exact bX12_alike_28 hG ⟨fun _ => ⟨by rw [hr], zJn_tr v10 J2 v2⟩, fun z => absurd rfl z⟩
  refine bX3_areAlike_0 hG ⟨by omega, by omega, fun c => bX11_alike_31 hG ⟨fun _ => mo 0 (by rw [if_neg (fun q => c (al.mpr q))]), fun z => absurd rfl z⟩, fun c => bX11_alike_31 hG ⟨fun z => absurd z (by decide), fun _ => mo 1 (by rw [if_pos (al.mp c)])⟩⟩

end PL
